/-! roads, by hand (2) -/
section RO2
variable {l : Launch} {D : va_G} {cA : Nat → ClassId} {n0 x n r : Nat} {h h' : Hp} {z : Int64}
theorem M_roads_ok (a b : Int32) (hx : cob (h.2.2 x) = some 9) (hp : gfl 11 12 (h.2.2 x) = some (.ref r)) (hr2 : cob (h.2.2 r) = some 2) (hS : ∀ q : Int32, Ev 300 86 0 [some (.ref x), some (.int q)] [] h = some (some (.int (bI (vI q n))), h)) (hok : (vI a n && vI b n) = true) (hK : Ev 300 48 0 (ent (mtd 48).2.2.2.1 [.ref r, .int a, .int b]) [] h = some (some (.long z), h')) (hz1 : h'.1 = h.1) (hz2 : h'.2.1 = h.2.1) : vx_Met l yX11_roads (wE yX11_roads cX11_roads 3 (some .long)) (rM 301 0 0) (PcX [.ref x, .int a, .int b] h D cA n0) (QcM (some (.long z)) h' D cA n0) (fun _ _ _ => False) 0 0 (AN n0) := by
  refine vx_ofW (cc := cX11_roads) (maxL := 3) (ret := some .long) (by decide +kernel) rfl ?_
  intro p e s m args below meth c s₁ B hml ht hv
  obtain ⟨rfl, ⟨hz, hH, hlo, hn0⟩, hK1, hN, hX⟩ := hv
  have hts := atoms_spec (ws := wE yX11_roads cX11_roads 3 (some .long)) B.pre
  have hB : ∀ w ∈ BG, w.before _ s = true := fun w hw => hts w (List.mem_cons_of_mem _ hw)
  have hown : s.vm.findClass RX11 = some m.cls := findClass_of_methodNamed B.named
  have C : CX p s m [Value.ref x, .int a, .int b].toArray meth c cX11_roads 11 false D cA n0 s.heap := ⟨B.exec, B.bytes, hown, hB, hK1, hN, hn0, fun q => by cases q⟩
  have Y : DY D cA n0 s.heap h s.heap [] := ⟨hz, hH, va_S.rf, hlo⟩
  rw [Bool.and_eq_true] at hok
  have isS : ∀ (pc : Nat) (q : Int32) H1 locs1 la1, decode cX11_roads pc = .ok (.invokevirtual 100, 3) → LR la1 [some (.ref x), some (.int a), some (.int b)] → DY D cA n0 s.heap h H1 locs1 → (∀ H2 locs2, DY D cA n0 s.heap h H2 locs2 → W p l e (rM 301 0 0) s m [Value.ref x, .int a, .int b].toArray below meth c H2 locs2 0 0 (vx_MQ below (QcM (some (.long z)) h' D cA n0) (fun _ _ _ => False) [Value.ref x, .int a, .int b].toArray s 0 0 (AN n0)) (F0 m (pc + 3) la1 [.int (bI (vI q n))])) → W p l e (rM 301 0 0) s m [Value.ref x, .int a, .int b].toArray below meth c H1 locs1 0 0 (vx_MQ below (QcM (some (.long z)) h' D cA n0) (fun _ _ _ => False) [Value.ref x, .int a, .int b].toArray s 0 0 (AN n0)) (F0 m pc la1 [.int q, .ref x]) := by
    intro pc q H1 locs1 la1 hd hl1 Y1 k
    refine cl_s (oc := 11) (d := 300) (y := 86) (as := [.ref x, .int q]) (rest := []) (v := some (.int (bI (vI q n)))) (h' := h) (cli_v (k := false) (n := 1) (ci := 9) (as := [.int q]) (rest := []) (Or.inl ⟨rfl, rfl⟩) (by decide +kernel) (by decide +kernel) hx rfl rfl (by decide)) hd C (by rw [hml]; exact hl1.size.symm) Y1 (Nat.le_refl 2) (hS q) ⟨Nat.le_refl _, Nat.le_refl _⟩ ⟨by omega, by omega⟩ (fun H2 locs2 Y2 => ?_)
    rw [Nat.sub_self, Nat.sub_self]
    exact k H2 locs2 Y2
  have hr : (0 : Nat) ≤ (rM 301 0 0).cells ∧ (0 : Nat) ≤ (rM 301 0 0).slots := ⟨Nat.zero_le _, Nat.zero_le _⟩
  rw [lg_entry_eq]
  refine nx_s (pc' := 1) (st' := [.ref x]) (ls' := [some (.ref x), some (.int a), some (.int b)]) (ls := [some (.ref x), some (.int a), some (.int b)]) (ins := .aload_n 0) (len := 1) rfl (by decide +kernel) (Or.inl rfl) C (ent_LR (n := 3) (as := [.ref x, .int a, .int b]) (Nat.le_refl 3)) Y hr (fun H1 locs1 la1 hl1 Y1 => ?_)
  refine nx_s (pc' := 2) (st' := [.int a, .ref x]) (ls' := [some (.ref x), some (.int a), some (.int b)]) (ins := .iload_n 1) (len := 1) rfl (by decide +kernel) (Or.inl rfl) C hl1 Y1 hr (fun H2 locs2 la2 hl2 Y2 => ?_)
  refine isS 2 a H2 locs2 la2 (by decide +kernel) hl2 Y2 (fun H3 locs3 Y3 => ?_)
  rw [hok.1]
  refine nx_s (pc' := 8) (st' := []) (ls' := [some (.ref x), some (.int a), some (.int b)]) (ins := .ifCond .eq 11) (len := 3) rfl (by decide +kernel) (Or.inl rfl) C hl2 Y3 hr (fun H4 locs4 la4 hl4 Y4 => ?_)
  refine nx_s (pc' := 9) (st' := [.ref x]) (ls' := [some (.ref x), some (.int a), some (.int b)]) (ins := .aload_n 0) (len := 1) rfl (by decide +kernel) (Or.inl rfl) C hl4 Y4 hr (fun H5 locs5 la5 hl5 Y5 => ?_)
  refine nx_s (pc' := 10) (st' := [.int b, .ref x]) (ls' := [some (.ref x), some (.int a), some (.int b)]) (ins := .iload_n 2) (len := 1) rfl (by decide +kernel) (Or.inl rfl) C hl5 Y5 hr (fun H6 locs6 la6 hl6 Y6 => ?_)
  refine isS 10 b H6 locs6 la6 (by decide +kernel) hl6 Y6 (fun H7 locs7 Y7 => ?_)
  rw [hok.2]
  refine nx_s (pc' := 26) (st' := []) (ls' := [some (.ref x), some (.int a), some (.int b)]) (ins := .ifCond .ne 13) (len := 3) rfl (by decide +kernel) (Or.inl rfl) C hl6 Y7 hr (fun H8 locs8 la8 hl8 Y8 => ?_)
  refine nx_s (pc' := 27) (st' := [.ref x]) (ls' := [some (.ref x), some (.int a), some (.int b)]) (ins := .aload_n 0) (len := 1) rfl (by decide +kernel) (Or.inl rfl) C hl8 Y8 hr (fun H9 locs9 la9 hl9 Y9 => ?_)
  refine nx_s (pc' := 30) (st' := [.ref r]) (ls' := [some (.ref x), some (.int a), some (.int b)]) (ins := .getfield 12) (len := 3) ?_ (by decide +kernel) (Or.inl rfl) C hl9 Y9 hr (fun Ha locsa laa hla Ya => ?_)
  · simp only [nx, hp]
  refine nx_s (pc' := 31) (st' := [.int a, .ref r]) (ls' := [some (.ref x), some (.int a), some (.int b)]) (ins := .iload_n 1) (len := 1) rfl (by decide +kernel) (Or.inl rfl) C hla Ya hr (fun Hb locsb lab hlb Yb => ?_)
  refine nx_s (pc' := 32) (st' := [.int b, .int a, .ref r]) (ls' := [some (.ref x), some (.int a), some (.int b)]) (ins := .iload_n 2) (len := 1) rfl (by decide +kernel) (Or.inl rfl) C hlb Yb hr (fun Hc locsc lac hlc Yc => ?_)
  refine cl_s (oc := 11) (d := 300) (y := 48) (as := [.ref r, .int a, .int b]) (rest := []) (v := some (.long z)) (h' := h') (cli_v (k := false) (n := 2) (ci := 2) (as := [.int a, .int b]) (rest := []) (Or.inl ⟨rfl, rfl⟩) (by decide +kernel) (by decide +kernel) hr2 rfl rfl (by decide)) (show decode cX11_roads 32 = .ok (.invokevirtual 146, 3) by decide +kernel) C (by rw [hml]; exact hlc.size.symm) Yc (show 3 ≤ (mtd 48).2.2.2.1 by decide +kernel) hK ⟨Nat.le_refl _, Nat.le_refl _⟩ ⟨by omega, by omega⟩ (fun Hd locsd Yd => ?_)
  rw [hz1, hz2, Nat.sub_self, Nat.sub_self]
  refine vx_ret (W.lret B.exec B.bytes B.returns (fun t ht hW => ⟨rfl, ⟨by rw [ht]; exact Yd.1, by rw [ht]; exact Yd.2.1, Yd.2.2.2⟩, Yd.2.2.1.F ht⟩) Yd.2.2.1.2.2 (show decode cX11_roads 35 = .ok (.lreturn, 1) by decide +kernel))
end RO2
