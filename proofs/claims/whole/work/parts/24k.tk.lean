/-! element, by hand (2) -/
section EL2
variable {l : Launch} {D : va_G} {cA : Nat → ClassId} {n0 x ra q : Nat} {h : Hp} {zs : Int32}
theorem M_element_np (hl : l.stackTraces = false) (a b : Int32) (hyes : vI a 8 = true) (hx : gfl 11 31 (h.2.2 x) = some (.ref ra)) (hra : rrl (h.2.2 ra) a = some (some q)) (hq : cob (h.2.2 q) = some 5) (hz0 : Ev 300 71 0 [some (.ref q)] [] h = some (some (.int zs), h)) (hb0 : Ev 300 85 0 [some (.int b), some (.int zs)] [] h = some (some (.int (bI false)), h)) : vx_Met l yX11_element (wE yX11_element cX11_element 3 (some .long)) (rM 301 1 6) (PcX [.ref x, .int a, .int b] h D cA n0) (fun _ _ _ _ => False) (XcM ISEn (h.1 + 1, h.2.1 + 6, h.2.2) D cA n0) 1 6 (AN n0) := by
  refine vx_ofW (cc := cX11_element) (maxL := 3) (ret := some .long) (by decide +kernel) rfl ?_
  intro p e s m args below meth c s₁ B hml ht hv
  obtain ⟨rfl, ⟨hz, hH, hlo, hn0⟩, hK, hN, hX⟩ := hv
  have hts := atoms_spec (ws := wE yX11_element cX11_element 3 (some .long)) B.pre
  have hB : ∀ w ∈ BG, w.before _ s = true := fun w hw => hts w (List.mem_cons_of_mem _ hw)
  have hown : s.vm.findClass RX11 = some m.cls := findClass_of_methodNamed B.named
  have C : CX p s m [Value.ref x, .int a, .int b].toArray meth c cX11_element 11 false D cA n0 s.heap := ⟨B.exec, B.bytes, hown, hB, hK, hN, hn0, fun q => by cases q⟩
  have Y : DY D cA n0 s.heap h s.heap [] := ⟨hz, hH, va_S.rf, hlo⟩
  obtain ⟨-, -, -, ⟨sa, hs⟩, hU, hNs⟩ := hX
  have thr : ∀ H1 locs1 la1, LR la1 [some (.ref x), some (.int a), some (.int b)] → DY D cA n0 s.heap h H1 locs1 → W p l e (rM 301 1 6) s m [Value.ref x, .int a, .int b].toArray below meth c H1 locs1 0 0 (vx_MQ below (fun _ _ _ _ => False) (XcM ISEn (h.1 + 1, h.2.1 + 6, h.2.2) D cA n0) [Value.ref x, .int a, .int b].toArray s 1 6 (AN n0)) (F0 m 34 la1 []) := by
    intro H1 locs1 la1 hl1 Y1
    obtain ⟨y1, y2, y3, y4⟩ := Y1
    refine wx_throwSW (own := RX11) (cls := ISEn) (names := xnm) (ik := 287) (is := 289) (ic := 291) (sa := sa) (A := AN n0) B.exec B.bytes hl hown (by decide +kernel) (by decide +kernel) (hB _ (in_w (by decide +kernel))) (hB _ (in_w (by decide +kernel))) hs (fun w hw => inBN_b (at_ISE11 w hw) (go_ISE11 w (List.mem_cons_of_mem _ (List.mem_cons_of_mem _ hw))) hB hN) go_ISE11 hU hNs y3 ?_ (by decide +kernel) (by decide +kernel) (by decide +kernel) (by decide +kernel) (by decide +kernel) (fun x hx => (ht x hx).elim) (by decide) (by decide) (by decide) (by decide) B.notSynchronized (fun t hal hsz hk => ⟨rfl, ⟨by rw [hsz, y1], y2.ext hk, hlo⟩, ⟨by rw [hsz]; exact Nat.le_succ_of_le y3.1, fun q h1 h2 => by rw [hk q (Nat.lt_of_lt_of_le h1 y3.1)]; exact y3.2.1 q h1 h2⟩⟩) (fun z hz => y3.2.2 z hz) (by omega) (by omega)
    rw [hml]
    exact hl1.size
  have hr : (0 : Nat) ≤ (rM 301 1 6).cells ∧ (0 : Nat) ≤ (rM 301 1 6).slots := ⟨Nat.zero_le _, Nat.zero_le _⟩
  rw [lg_entry_eq]
  refine nx_s (pc' := 1) (st' := [.int a]) (ls' := [some (.ref x), some (.int a), some (.int b)]) (ls := [some (.ref x), some (.int a), some (.int b)]) (ins := .iload_n 1) (len := 1) rfl (by decide +kernel) (Or.inl rfl) C (ent_LR (n := 3) (as := [.ref x, .int a, .int b]) (Nat.le_refl 3)) Y hr (fun H1 locs1 la1 hl1 Y1 => ?_)
  refine cl_s (oc := 11) (d := 300) (y := 125) (as := [.int a]) (rest := []) (v := some (.int (bI (vI a 8)))) (h' := h) (cli_s (n := 1) (as := [.int a]) (rest := []) (by decide +kernel) rfl rfl (by decide)) (show decode cX11_element 1 = .ok (.invokestatic 258, 3) by decide +kernel) C (by rw [hml]; exact hl1.size.symm) Y1 (Nat.le_refl 1) (K_isShelf (d := 299) a) ⟨Nat.le_refl _, Nat.le_refl _⟩ ⟨by omega, by omega⟩ (fun H2 locs2 Y2 => ?_)
  rw [Nat.sub_self, Nat.sub_self, hyes]
  have hl2 := hl1
  refine nx_s (pc' := 18) (st' := []) (ls' := [some (.ref x), some (.int a), some (.int b)]) (ins := .ifCond .ne 14) (len := 3) rfl (by decide +kernel) (Or.inl rfl) C hl2 Y2 hr (fun H3 locs3 la3 hl3 Y3 => ?_)
  refine nx_s (pc' := 19) (st' := [.int b]) (ls' := [some (.ref x), some (.int a), some (.int b)]) (ins := .iload_n 2) (len := 1) rfl (by decide +kernel) (Or.inl rfl) C hl3 Y3 hr (fun H4 locs4 la4 hl4 Y4 => ?_)
  refine nx_s (pc' := 20) (st' := [.ref x, .int b]) (ls' := [some (.ref x), some (.int a), some (.int b)]) (ins := .aload_n 0) (len := 1) rfl (by decide +kernel) (Or.inl rfl) C hl4 Y4 hr (fun H5 locs5 la5 hl5 Y5 => ?_)
  refine nx_s (pc' := 23) (st' := [.ref ra, .int b]) (ls' := [some (.ref x), some (.int a), some (.int b)]) (ins := .getfield 31) (len := 3) (by simp only [nx, hx]) (by decide +kernel) (Or.inl rfl) C hl5 Y5 hr (fun H6 locs6 la6 hl6 Y6 => ?_)
  refine nx_s (pc' := 24) (st' := [.int a, .ref ra, .int b]) (ls' := [some (.ref x), some (.int a), some (.int b)]) (ins := .iload_n 1) (len := 1) rfl (by decide +kernel) (Or.inl rfl) C hl6 Y6 hr (fun H7 locs7 la7 hl7 Y7 => ?_)
  refine nx_s (pc' := 25) (st' := [.ref q, .int b]) (ls' := [some (.ref x), some (.int a), some (.int b)]) (ins := .aaload) (len := 1) (by simp only [nx, hra, va_rf]) (by decide +kernel) (Or.inl rfl) C hl7 Y7 hr (fun H8 locs8 la8 hl8 Y8 => ?_)
  refine cl_s (oc := 11) (d := 300) (y := 71) (as := [.ref q]) (rest := [.int b]) (v := some (.int zs)) (h' := h) (cli_v (k := false) (n := 0) (ci := 5) (as := []) (rest := [.int b]) (Or.inl ⟨rfl, rfl⟩) (by decide +kernel) (by decide +kernel) hq rfl rfl (Nat.le_of_ble_eq_true rfl)) (show decode cX11_element 25 = .ok (.invokevirtual 285, 3) by decide +kernel) C (by rw [hml]; exact hl8.size.symm) Y8 (Nat.le_refl 1) hz0 ⟨Nat.le_refl _, Nat.le_refl _⟩ ⟨by omega, by omega⟩ (fun H9 locs9 Y9 => ?_)
  rw [Nat.sub_self, Nat.sub_self]
  refine cl_s (oc := 11) (d := 300) (y := 85) (as := [.int b, .int zs]) (rest := []) (v := some (.int (bI false))) (h' := h) (cli_s (n := 2) (as := [.int b, .int zs]) (rest := []) (by decide +kernel) rfl rfl (by decide)) (show decode cX11_element 28 = .ok (.invokestatic 59, 3) by decide +kernel) C (by rw [hml]; exact hl8.size.symm) Y9 (Nat.le_refl 2) hb0 ⟨Nat.le_refl _, Nat.le_refl _⟩ ⟨by omega, by omega⟩ (fun H10 locs10 Y10 => ?_)
  rw [Nat.sub_self, Nat.sub_self]
  exact nx_s (pc' := 34) (st' := []) (ls' := [some (.ref x), some (.int a), some (.int b)]) (ins := .ifCond .ne 14) (len := 3) rfl (by decide +kernel) (Or.inl rfl) C hl8 Y10 hr (fun H11 locs11 la11 hl11 Y11 => thr H11 locs11 la11 hl11 Y11)
end EL2
