/-! element, by hand (3) -/
section EL3
variable {l : Launch} {D : va_G} {cA : Nat → ClassId} {n0 x ra q : Nat} {h : Hp} {zs : Int32} {z : Int64}
theorem M_element_ok (a b : Int32) (hyes : vI a 8 = true) (hx : gfl 11 31 (h.2.2 x) = some (.ref ra)) (hra : rrl (h.2.2 ra) a = some (some q)) (hq : cob (h.2.2 q) = some 5) (hz0 : Ev 300 71 0 [some (.ref q)] [] h = some (some (.int zs), h)) (hb0 : Ev 300 85 0 [some (.int b), some (.int zs)] [] h = some (some (.int (bI true)), h)) (hat : Ev 300 72 0 [some (.ref q), some (.int b)] [] h = some (some (.long z), h)) : vx_Met l yX11_element (wE yX11_element cX11_element 3 (some .long)) (rM 301 0 0) (PcX [.ref x, .int a, .int b] h D cA n0) (QcM (some (.long z)) h D cA n0) (fun _ _ _ => False) 0 0 (AN n0) := by
  refine vx_ofW (cc := cX11_element) (maxL := 3) (ret := some .long) (by decide +kernel) rfl ?_
  intro p e s m args below meth c s₁ B hml ht hv
  obtain ⟨rfl, ⟨hz, hH, hlo, hn0⟩, hK1, hN, hX⟩ := hv
  have hts := atoms_spec (ws := wE yX11_element cX11_element 3 (some .long)) B.pre
  have hB : ∀ w ∈ BG, w.before _ s = true := fun w hw => hts w (List.mem_cons_of_mem _ hw)
  have hown : s.vm.findClass RX11 = some m.cls := findClass_of_methodNamed B.named
  have C : CX p s m [Value.ref x, .int a, .int b].toArray meth c cX11_element 11 false D cA n0 s.heap := ⟨B.exec, B.bytes, hown, hB, hK1, hN, hn0, fun q => by cases q⟩
  have Y : DY D cA n0 s.heap h s.heap [] := ⟨hz, hH, va_S.rf, hlo⟩
  have hr : (0 : Nat) ≤ (rM 301 0 0).cells ∧ (0 : Nat) ≤ (rM 301 0 0).slots := ⟨Nat.zero_le _, Nat.zero_le _⟩
  rw [lg_entry_eq]
  refine nx_s (pc' := 1) (st' := [.int a]) (ls' := [some (.ref x), some (.int a), some (.int b)]) (ls := [some (.ref x), some (.int a), some (.int b)]) (ins := .iload_n 1) (len := 1) rfl (by decide +kernel) (Or.inl rfl) C (ent_LR (n := 3) (as := [.ref x, .int a, .int b]) (Nat.le_refl 3)) Y hr (fun H1 locs1 la1 hl1 Y1 => ?_)
  refine cl_s (oc := 11) (d := 300) (y := 125) (as := [.int a]) (rest := []) (v := some (.int (bI (vI a 8)))) (h' := h) (cli_s (n := 1) (as := [.int a]) (rest := []) (by decide +kernel) rfl rfl (by decide)) (show decode cX11_element 1 = .ok (.invokestatic 258, 3) by decide +kernel) C (by rw [hml]; exact hl1.size.symm) Y1 (Nat.le_refl 1) (K_isShelf (d := 299) a) ⟨Nat.le_refl _, Nat.le_refl _⟩ ⟨by omega, by omega⟩ (fun H2 locs2 Y2 => ?_)
  rw [Nat.sub_self, Nat.sub_self, hyes]
  have hl2 := hl1
  refine nx_s (pc' := 18) (st' := []) (ls' := [some (.ref x), some (.int a), some (.int b)]) (ins := .ifCond .ne 14) (len := 3) rfl (by decide +kernel) (Or.inl rfl) C hl2 Y2 hr (fun H3 locs3 la3 hl3 Y3 => ?_)
  refine nx_s (pc' := 19) (st' := [.int b]) (ls' := [some (.ref x), some (.int a), some (.int b)]) (ins := .iload_n 2) (len := 1) rfl (by decide +kernel) (Or.inl rfl) C hl3 Y3 hr (fun H4 locs4 la4 hl4 Y4 => ?_)
  refine nx_s (pc' := 20) (st' := [.ref x, .int b]) (ls' := [some (.ref x), some (.int a), some (.int b)]) (ins := .aload_n 0) (len := 1) rfl (by decide +kernel) (Or.inl rfl) C hl4 Y4 hr (fun H5 locs5 la5 hl5 Y5 => ?_)
  refine nx_s (pc' := 23) (st' := [.ref ra, .int b]) (ls' := [some (.ref x), some (.int a), some (.int b)]) (ins := .getfield 31) (len := 3) (by simp only [nx, hx]) (by decide +kernel) (Or.inl rfl) C hl5 Y5 hr (fun H6 locs6 la6 hl6 Y6 => ?_)
  refine nx_s (pc' := 24) (st' := [.int a, .ref ra, .int b]) (ls' := [some (.ref x), some (.int a), some (.int b)]) (ins := .iload_n 1) (len := 1) rfl (by decide +kernel) (Or.inl rfl) C hl6 Y6 hr (fun H7 locs7 la7 hl7 Y7 => ?_)
  refine nx_s (pc' := 25) (st' := [.ref q, .int b]) (ls' := [some (.ref x), some (.int a), some (.int b)]) (ins := .aaload) (len := 1) (by simp only [nx, hra, va_rf]) (by decide +kernel) (Or.inl rfl) C hl7 Y7 hr (fun H8 locs8 la8 hl8 Y8 => ?_)
  refine cl_s (oc := 11) (d := 300) (y := 71) (as := [.ref q]) (rest := [.int b]) (v := some (.int zs)) (h' := h) (cli_v (k := false) (n := 0) (ci := 5) (as := []) (rest := [.int b]) (Or.inl ⟨rfl, rfl⟩) (by decide +kernel) (by decide +kernel) hq rfl rfl (Nat.le_of_ble_eq_true rfl)) (show decode cX11_element 25 = .ok (.invokevirtual 285, 3) by decide +kernel) C (by rw [hml]; exact hl8.size.symm) Y8 (Nat.le_refl 1) hz0 ⟨Nat.le_refl _, Nat.le_refl _⟩ ⟨by omega, by omega⟩ (fun H9 locs9 Y9 => ?_)
  rw [Nat.sub_self, Nat.sub_self]
  refine cl_s (oc := 11) (d := 300) (y := 85) (as := [.int b, .int zs]) (rest := []) (v := some (.int (bI true))) (h' := h) (cli_s (n := 2) (as := [.int b, .int zs]) (rest := []) (by decide +kernel) rfl rfl (by decide)) (show decode cX11_element 28 = .ok (.invokestatic 59, 3) by decide +kernel) C (by rw [hml]; exact hl8.size.symm) Y9 (Nat.le_refl 2) hb0 ⟨Nat.le_refl _, Nat.le_refl _⟩ ⟨by omega, by omega⟩ (fun H10 locs10 Y10 => ?_)
  rw [Nat.sub_self, Nat.sub_self]
  refine nx_s (pc' := 45) (st' := []) (ls' := [some (.ref x), some (.int a), some (.int b)]) (ins := .ifCond .ne 14) (len := 3) rfl (by decide +kernel) (Or.inl rfl) C hl8 Y10 hr (fun H11 locs11 la11 hl11 Y11 => ?_)
  refine nx_s (pc' := 46) (st' := [.ref x]) (ls' := [some (.ref x), some (.int a), some (.int b)]) (ins := .aload_n 0) (len := 1) rfl (by decide +kernel) (Or.inl rfl) C hl11 Y11 hr (fun H12 locs12 la12 hl12 Y12 => ?_)
  refine nx_s (pc' := 49) (st' := [.ref ra]) (ls' := [some (.ref x), some (.int a), some (.int b)]) (ins := .getfield 31) (len := 3) (by simp only [nx, hx]) (by decide +kernel) (Or.inl rfl) C hl12 Y12 hr (fun H13 locs13 la13 hl13 Y13 => ?_)
  refine nx_s (pc' := 50) (st' := [.int a, .ref ra]) (ls' := [some (.ref x), some (.int a), some (.int b)]) (ins := .iload_n 1) (len := 1) rfl (by decide +kernel) (Or.inl rfl) C hl13 Y13 hr (fun H14 locs14 la14 hl14 Y14 => ?_)
  refine nx_s (pc' := 51) (st' := [.ref q]) (ls' := [some (.ref x), some (.int a), some (.int b)]) (ins := .aaload) (len := 1) (by simp only [nx, hra, va_rf]) (by decide +kernel) (Or.inl rfl) C hl14 Y14 hr (fun H15 locs15 la15 hl15 Y15 => ?_)
  refine nx_s (pc' := 52) (st' := [.int b, .ref q]) (ls' := [some (.ref x), some (.int a), some (.int b)]) (ins := .iload_n 2) (len := 1) rfl (by decide +kernel) (Or.inl rfl) C hl15 Y15 hr (fun H16 locs16 la16 hl16 Y16 => ?_)
  refine cl_s (oc := 11) (d := 300) (y := 72) (as := [.ref q, .int b]) (rest := []) (v := some (.long z)) (h' := h) (cli_v (k := false) (n := 1) (ci := 5) (as := [.int b]) (rest := []) (Or.inl ⟨rfl, rfl⟩) (by decide +kernel) (by decide +kernel) hq rfl rfl (by decide)) (show decode cX11_element 52 = .ok (.invokevirtual 292, 3) by decide +kernel) C (by rw [hml]; exact hl16.size.symm) Y16 (Nat.le_refl 2) hat ⟨Nat.le_refl _, Nat.le_refl _⟩ ⟨by omega, by omega⟩ (fun Hd locsd Yd => ?_)
  rw [Nat.sub_self, Nat.sub_self]
  refine vx_ret (W.lret B.exec B.bytes B.returns (fun t ht hW => ⟨rfl, ⟨by rw [ht]; exact Yd.1, by rw [ht]; exact Yd.2.1, Yd.2.2.2⟩, Yd.2.2.1.F ht⟩) Yd.2.2.1.2.2 (show decode cX11_element 55 = .ok (.lreturn, 1) by decide +kernel))
end EL3
