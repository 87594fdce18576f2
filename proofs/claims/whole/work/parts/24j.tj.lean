/-! element, by hand -/
section EL1
variable {l : Launch} {D : va_G} {cA : Nat → ClassId} {n0 x : Nat} {h : Hp}
theorem cli_s {oc i y n : Nat} {as rest st0 : List Value} {h : Hp} (hc : cst oc i = some (y, n)) (hst : st0 = as.reverse ++ rest) (hn : as.length = n) (hw : wid rest ≤ 8) : cli oc (.invokestatic i) st0 h = some (y, as, rest) := by
  subst hn; subst hst
  have h1 : (as.reverse ++ rest).drop as.length = rest := by
    have := List.drop_left (l₁ := as.reverse) (l₂ := rest)
    simpa using this
  have h2 : (as.reverse ++ rest).take as.length = as.reverse := by
    rw [← List.length_reverse (as := as), List.take_left]
  simp only [cli, hc, h1, h2]
  rw [if_pos ⟨by simp, hw⟩, List.reverse_reverse]
theorem M_element_ns (hl : l.stackTraces = false) (a b : Int32) (hno : vI a 8 = false) : vx_Met l yX11_element (wE yX11_element cX11_element 3 (some .long)) (rM 301 1 6) (PcX [.ref x, .int a, .int b] h D cA n0) (fun _ _ _ _ => False) (XcM IAEn (h.1 + 1, h.2.1 + 6, h.2.2) D cA n0) 1 6 (AN n0) := by
  refine vx_ofW (cc := cX11_element) (maxL := 3) (ret := some .long) (by decide +kernel) rfl ?_
  intro p e s m args below meth c s₁ B hml ht hv
  obtain ⟨rfl, ⟨hz, hH, hlo, hn0⟩, hK, hN, hX⟩ := hv
  have hts := atoms_spec (ws := wE yX11_element cX11_element 3 (some .long)) B.pre
  have hB : ∀ w ∈ BG, w.before _ s = true := fun w hw => hts w (List.mem_cons_of_mem _ hw)
  have hown : s.vm.findClass RX11 = some m.cls := findClass_of_methodNamed B.named
  have C : CX p s m [Value.ref x, .int a, .int b].toArray meth c cX11_element 11 false D cA n0 s.heap := ⟨B.exec, B.bytes, hown, hB, hK, hN, hn0, fun q => by cases q⟩
  have Y : DY D cA n0 s.heap h s.heap [] := ⟨hz, hH, va_S.rf, hlo⟩
  obtain ⟨-, -, ⟨sa, hs⟩, -, hU, hNs⟩ := hX
  have thr : ∀ H1 locs1 la1, LR la1 [some (.ref x), some (.int a), some (.int b)] → DY D cA n0 s.heap h H1 locs1 → W p l e (rM 301 1 6) s m [Value.ref x, .int a, .int b].toArray below meth c H1 locs1 0 0 (vx_MQ below (fun _ _ _ _ => False) (XcM IAEn (h.1 + 1, h.2.1 + 6, h.2.2) D cA n0) [Value.ref x, .int a, .int b].toArray s 1 6 (AN n0)) (F0 m 7 la1 []) := by
    intro H1 locs1 la1 hl1 Y1
    obtain ⟨y1, y2, y3, y4⟩ := Y1
    refine wx_throwSW (own := RX11) (cls := IAEn) (names := xnm) (ik := 139) (is := 283) (ic := 143) (sa := sa) (A := AN n0) B.exec B.bytes hl hown (by decide +kernel) (by decide +kernel) (hB _ (in_w (by decide +kernel))) (hB _ (in_w (by decide +kernel))) hs (fun w hw => inBN_b (at_IAE11 w hw) (go_IAE11 w (List.mem_cons_of_mem _ (List.mem_cons_of_mem _ hw))) hB hN) go_IAE11 hU hNs y3 ?_ (by decide +kernel) (by decide +kernel) (by decide +kernel) (by decide +kernel) (by decide +kernel) (fun x hx => (ht x hx).elim) (by decide) (by decide) (by decide) (by decide) B.notSynchronized (fun t hal hsz hk => ⟨rfl, ⟨by rw [hsz, y1], y2.ext hk, hlo⟩, ⟨by rw [hsz]; exact Nat.le_succ_of_le y3.1, fun q h1 h2 => by rw [hk q (Nat.lt_of_lt_of_le h1 y3.1)]; exact y3.2.1 q h1 h2⟩⟩) (fun z hz => y3.2.2 z hz) (by omega) (by omega)
    rw [hml]
    exact hl1.size
  have hr : (0 : Nat) ≤ (rM 301 1 6).cells ∧ (0 : Nat) ≤ (rM 301 1 6).slots := ⟨Nat.zero_le _, Nat.zero_le _⟩
  rw [lg_entry_eq]
  refine nx_s (pc' := 1) (st' := [.int a]) (ls' := [some (.ref x), some (.int a), some (.int b)]) (ls := [some (.ref x), some (.int a), some (.int b)]) (ins := .iload_n 1) (len := 1) rfl (by decide +kernel) (Or.inl rfl) C (ent_LR (n := 3) (as := [.ref x, .int a, .int b]) (Nat.le_refl 3)) Y hr (fun H1 locs1 la1 hl1 Y1 => ?_)
  refine cl_s (oc := 11) (d := 300) (y := 125) (as := [.int a]) (rest := []) (v := some (.int (bI (vI a 8)))) (h' := h) (cli_s (n := 1) (as := [.int a]) (rest := []) (by decide +kernel) rfl rfl (by decide)) (show decode cX11_element 1 = .ok (.invokestatic 258, 3) by decide +kernel) C (by rw [hml]; exact hl1.size.symm) Y1 (Nat.le_refl 1) (K_isShelf (d := 299) a) ⟨Nat.le_refl _, Nat.le_refl _⟩ ⟨by omega, by omega⟩ (fun H2 locs2 Y2 => ?_)
  rw [Nat.sub_self, Nat.sub_self, hno]
  exact nx_s (pc' := 7) (st' := []) (ls' := [some (.ref x), some (.int a), some (.int b)]) (ins := .ifCond .ne 14) (len := 3) rfl (by decide +kernel) (Or.inl rfl) C hl1 Y2 hr (fun H8 locs8 la8 hl8 Y8 => thr H8 locs8 la8 hl8 Y8)
end EL1
