/-! roads, by hand -/
section RO
theorem cli_v {oc i y n q ci : Nat} {k : Bool} {ins : Instr} {as rest st0 : List Value} {h : Hp} (hins : (k = false ∧ ins = .invokevirtual i) ∨ (k = true ∧ ins = .invokespecial i)) (hcn : cvn oc i = some n) (hcv : cvt oc i ci k = some (y, n)) (hq : cob (h.2.2 q) = some ci) (hst : st0 = as.reverse ++ .ref q :: rest) (hn : as.length = n) (hw : wid rest ≤ 8) : cli oc ins st0 h = some (y, .ref q :: as, rest) := by
  subst hn; subst hst
  have hc0 : clv oc i k (as.reverse ++ .ref q :: rest) h = some (y, .ref q :: as, rest) := by
    have h0 : (as.reverse ++ Value.ref q :: rest)[as.length]? = some (.ref q) := by
      rw [List.getElem?_append_right (by simp)]
      simp
    have h1 : (as.reverse ++ Value.ref q :: rest).drop (as.length + 1) = rest := by
      have := List.drop_left (l₁ := as.reverse ++ [Value.ref q]) (l₂ := rest)
      simpa using this
    have h2 : (as.reverse ++ Value.ref q :: rest).take as.length = as.reverse := by
      rw [← List.length_reverse (as := as), List.take_left]
    simp only [clv, hcn, h0, hq, hcv, h1, h2]
    rw [if_pos ⟨trivial, hw⟩, List.reverse_reverse]
  rcases hins with ⟨rfl, rfl⟩ | ⟨rfl, rfl⟩ <;> exact hc0
variable {l : Launch} {D : va_G} {cA : Nat → ClassId} {n0 x n : Nat} {h : Hp}
theorem M_roads_no (hl : l.stackTraces = false) (a b : Int32) (hx : cob (h.2.2 x) = some 9) (hS : ∀ q : Int32, Ev 300 86 0 [some (.ref x), some (.int q)] [] h = some (some (.int (bI (vI q n))), h)) (hno : (vI a n && vI b n) = false) : vx_Met l yX11_roads (wE yX11_roads cX11_roads 3 (some .long)) (rM 301 1 6) (PcX [.ref x, .int a, .int b] h D cA n0) (fun _ _ _ _ => False) (XcM IAEn (h.1 + 1, h.2.1 + 6, h.2.2) D cA n0) 1 6 (AN n0) := by
  refine vx_ofW (cc := cX11_roads) (maxL := 3) (ret := some .long) (by decide +kernel) rfl ?_
  intro p e s m args below meth c s₁ B hml ht hv
  obtain ⟨rfl, ⟨hz, hH, hlo, hn0⟩, hK, hN, hX⟩ := hv
  have hts := atoms_spec (ws := wE yX11_roads cX11_roads 3 (some .long)) B.pre
  have hB : ∀ w ∈ BG, w.before _ s = true := fun w hw => hts w (List.mem_cons_of_mem _ hw)
  have hown : s.vm.findClass RX11 = some m.cls := findClass_of_methodNamed B.named
  have C : CX p s m [Value.ref x, .int a, .int b].toArray meth c cX11_roads 11 false D cA n0 s.heap := ⟨B.exec, B.bytes, hown, hB, hK, hN, hn0, fun q => by cases q⟩
  have Y : DY D cA n0 s.heap h s.heap [] := ⟨hz, hH, va_S.rf, hlo⟩
  obtain ⟨-, ⟨sa, hs⟩, -, -, hU, hNs⟩ := hX
  have thr : ∀ H1 locs1 la1, LR la1 [some (.ref x), some (.int a), some (.int b)] → DY D cA n0 s.heap h H1 locs1 → W p l e (rM 301 1 6) s m [Value.ref x, .int a, .int b].toArray below meth c H1 locs1 0 0 (vx_MQ below (fun _ _ _ _ => False) (XcM IAEn (h.1 + 1, h.2.1 + 6, h.2.2) D cA n0) [Value.ref x, .int a, .int b].toArray s 1 6 (AN n0)) (F0 m 16 la1 []) := by
    intro H1 locs1 la1 hl1 Y1
    obtain ⟨y1, y2, y3, y4⟩ := Y1
    refine wx_throwS (own := RX11) (cls := IAEn) (names := xnm) (ik := 139) (is := 141) (ic := 143) (sa := sa) (A := AN n0) B.exec B.bytes hl hown (by decide +kernel) (by decide +kernel) (hB _ (in_w (by decide +kernel))) (hB _ (in_w (by decide +kernel))) hs (fun w hw => inBN_b (at_IAE11 w hw) (go_IAE11 w (List.mem_cons_of_mem _ (List.mem_cons_of_mem _ hw))) hB hN) go_IAE11 hU hNs y3 ?_ (by decide +kernel) (by decide +kernel) (by decide +kernel) (by decide +kernel) (by decide +kernel) (fun x hx => (ht x hx).elim) (by decide) (by decide) (by decide) (by decide) B.notSynchronized (fun t hal hsz hk => ⟨rfl, ⟨by rw [hsz, y1], y2.ext hk, hlo⟩, ⟨by rw [hsz]; exact Nat.le_succ_of_le y3.1, fun q h1 h2 => by rw [hk q (Nat.lt_of_lt_of_le h1 y3.1)]; exact y3.2.1 q h1 h2⟩⟩) (fun z hz => y3.2.2 z hz) (by omega) (by omega)
    rw [hml]
    exact hl1.size
  have isS : ∀ (pc : Nat) (q : Int32) H1 locs1 la1, decode cX11_roads pc = .ok (.invokevirtual 100, 3) → LR la1 [some (.ref x), some (.int a), some (.int b)] → DY D cA n0 s.heap h H1 locs1 → (∀ H2 locs2, DY D cA n0 s.heap h H2 locs2 → W p l e (rM 301 1 6) s m [Value.ref x, .int a, .int b].toArray below meth c H2 locs2 0 0 (vx_MQ below (fun _ _ _ _ => False) (XcM IAEn (h.1 + 1, h.2.1 + 6, h.2.2) D cA n0) [Value.ref x, .int a, .int b].toArray s 1 6 (AN n0)) (F0 m (pc + 3) la1 [.int (bI (vI q n))])) → W p l e (rM 301 1 6) s m [Value.ref x, .int a, .int b].toArray below meth c H1 locs1 0 0 (vx_MQ below (fun _ _ _ _ => False) (XcM IAEn (h.1 + 1, h.2.1 + 6, h.2.2) D cA n0) [Value.ref x, .int a, .int b].toArray s 1 6 (AN n0)) (F0 m pc la1 [.int q, .ref x]) := by
    intro pc q H1 locs1 la1 hd hl1 Y1 k
    refine cl_s (oc := 11) (d := 300) (y := 86) (as := [.ref x, .int q]) (rest := []) (v := some (.int (bI (vI q n)))) (h' := h) (cli_v (k := false) (n := 1) (ci := 9) (as := [.int q]) (rest := []) (Or.inl ⟨rfl, rfl⟩) (by decide +kernel) (by decide +kernel) hx rfl rfl (by decide)) hd C (by rw [hml]; exact hl1.size.symm) Y1 (Nat.le_refl 2) (hS q) ⟨Nat.le_refl _, Nat.le_refl _⟩ ⟨by omega, by omega⟩ (fun H2 locs2 Y2 => ?_)
    rw [Nat.sub_self, Nat.sub_self]
    exact k H2 locs2 Y2
  have hr : (0 : Nat) ≤ (rM 301 1 6).cells ∧ (0 : Nat) ≤ (rM 301 1 6).slots := ⟨Nat.zero_le _, Nat.zero_le _⟩
  rw [lg_entry_eq]
  refine nx_s (pc' := 1) (st' := [.ref x]) (ls' := [some (.ref x), some (.int a), some (.int b)]) (ls := [some (.ref x), some (.int a), some (.int b)]) (ins := .aload_n 0) (len := 1) rfl (by decide +kernel) (Or.inl rfl) C (ent_LR (n := 3) (as := [.ref x, .int a, .int b]) (Nat.le_refl 3)) Y hr (fun H1 locs1 la1 hl1 Y1 => ?_)
  refine nx_s (pc' := 2) (st' := [.int a, .ref x]) (ls' := [some (.ref x), some (.int a), some (.int b)]) (ins := .iload_n 1) (len := 1) rfl (by decide +kernel) (Or.inl rfl) C hl1 Y1 hr (fun H2 locs2 la2 hl2 Y2 => ?_)
  refine isS 2 a H2 locs2 la2 (by decide +kernel) hl2 Y2 (fun H3 locs3 Y3 => ?_)
  cases ha : vI a n
  · exact nx_s (pc' := 16) (st' := []) (ls' := [some (.ref x), some (.int a), some (.int b)]) (ins := .ifCond .eq 11) (len := 3) rfl (by decide +kernel) (Or.inl rfl) C hl2 Y3 hr (fun H4 locs4 la4 hl4 Y4 => thr H4 locs4 la4 hl4 Y4)
  · refine nx_s (pc' := 8) (st' := []) (ls' := [some (.ref x), some (.int a), some (.int b)]) (ins := .ifCond .eq 11) (len := 3) rfl (by decide +kernel) (Or.inl rfl) C hl2 Y3 hr (fun H4 locs4 la4 hl4 Y4 => ?_)
    refine nx_s (pc' := 9) (st' := [.ref x]) (ls' := [some (.ref x), some (.int a), some (.int b)]) (ins := .aload_n 0) (len := 1) rfl (by decide +kernel) (Or.inl rfl) C hl4 Y4 hr (fun H5 locs5 la5 hl5 Y5 => ?_)
    refine nx_s (pc' := 10) (st' := [.int b, .ref x]) (ls' := [some (.ref x), some (.int a), some (.int b)]) (ins := .iload_n 2) (len := 1) rfl (by decide +kernel) (Or.inl rfl) C hl5 Y5 hr (fun H6 locs6 la6 hl6 Y6 => ?_)
    refine isS 10 b H6 locs6 la6 (by decide +kernel) hl6 Y6 (fun H7 locs7 Y7 => ?_)
    rw [ha, Bool.true_and] at hno
    rw [hno]
    exact nx_s (pc' := 16) (st' := []) (ls' := [some (.ref x), some (.int a), some (.int b)]) (ins := .ifCond .ne 13) (len := 3) rfl (by decide +kernel) (Or.inl rfl) C hl6 Y7 hr (fun H8 locs8 la8 hl8 Y8 => thr H8 locs8 la8 hl8 Y8)
end RO
