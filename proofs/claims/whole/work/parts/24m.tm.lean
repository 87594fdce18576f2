/-! the law's own element, by hand -/
section LEN
theorem gE_element : GoodIn BG (wE yX11_element cX11_element 3 (some .long)) := by
  intro w hw
  have key : ∀ w ∈ BG, w ∈ BG ∧ ((w.onTables && w.keeps) = true ∨ ∃ ty, w = .arrayClass ty) := fun w hw => ⟨hw, good_of_word (List.mem_filter.mp hw).2⟩
  rcases List.mem_cons.mp hw with rfl | hw
  · exact key _ (in_w (by decide +kernel))
  · exact key w hw
variable {l : Launch} {D : va_G} {cA : Nat → ClassId} {n0 x o : Nat} {h : Hp} {fs0 : List Value}
theorem M_Lelement_ns (hl : l.stackTraces = false) (a b : Int32) (hx : h.2.2 x = some (.inr (9, fs0))) (hno : vI a 8 = false) : vx_Met l yL_element (wH yL_element cL_element 5 (some .int) [(0, 9, 12, 13), (0, 9, 16, 18)]) (rM 302 1 6) (PcX [.ref x, .int a, .int b, .ref o] h D cA n0) (QcM (some (.int (nI 1))) (h.1 + 1, h.2.1 + 6, h.2.2) D cA n0) (fun _ _ _ => False) 1 6 (AN n0) := by
  refine vx_ofWH (cc := cL_element) (maxL := 5) (ret := some .int) (hh := [(0, 9, 12, 13), (0, 9, 16, 18)]) (by decide +kernel) rfl ?_
  intro p e s m args below meth c s₁ B hml hv
  obtain ⟨rfl, ⟨hz, hH, hlo, hn0⟩, hK1, hN, hX⟩ := hv
  have hts := atoms_spec (ws := wH yL_element cL_element 5 (some .int) [(0, 9, 12, 13), (0, 9, 16, 18)]) B.pre
  have hB : ∀ w ∈ BG, w.before [Value.ref x, .int a, .int b, .ref o].toArray s = true := fun w hw => hts w (List.mem_cons_of_mem _ hw)
  have hown : s.vm.findClass RL = some m.cls := findClass_of_methodNamed B.named
  have C : CX p s m [Value.ref x, .int a, .int b, .ref o].toArray meth c cL_element 16 false D cA n0 s.heap := ⟨B.exec, B.bytes, hown, hB, hK1, hN, hn0, fun q => by cases q⟩
  have Y : DY D cA n0 s.heap h s.heap [] := ⟨hz, hH, va_S.rf, hlo⟩
  have htab : c.exceptionTable.toList = [] ++ (⟨0, 9, 12, 13⟩ : ExceptionTableEntry) :: [⟨0, 9, 16, 18⟩] := (vx_table (x := yL_element) B (hts _ List.mem_cons_self)).trans rfl
  have hr : (0 : Nat) ≤ (rM 302 1 6).cells ∧ (0 : Nat) ≤ (rM 302 1 6).slots := ⟨Nat.zero_le _, Nat.zero_le _⟩
  have hr1 : (1 : Nat) ≤ (rM 302 1 6).cells ∧ (6 : Nat) ≤ (rM 302 1 6).slots := ⟨Nat.le_refl _, Nat.le_refl _⟩
  rw [lg_entry_eq]
  refine nx_s (pc' := 1) (st' := [.ref o]) (ls' := [some (.ref x), some (.int a), some (.int b), some (.ref o), none]) (ls := [some (.ref x), some (.int a), some (.int b), some (.ref o), none]) (ins := .aload_n 3) (len := 1) rfl (by decide +kernel) (Or.inl rfl) C (ent_LR (n := 5) (as := [.ref x, .int a, .int b, .ref o]) (show 4 ≤ 5 by omega)) Y hr (fun H1 locs1 la1 hl1 Y1 => ?_)
  refine nx_s (pc' := 2) (st' := [.int 0, .ref o]) (ls' := [some (.ref x), some (.int a), some (.int b), some (.ref o), none]) (ins := .iconst 0) (len := 1) rfl (by decide +kernel) (Or.inl rfl) C hl1 Y1 hr (fun H2 locs2 la2 hl2 Y2 => ?_)
  refine nx_s (pc' := 3) (st' := [.ref x, .int 0, .ref o]) (ls' := [some (.ref x), some (.int a), some (.int b), some (.ref o), none]) (ins := .aload_n 0) (len := 1) rfl (by decide +kernel) (Or.inl rfl) C hl2 Y2 hr (fun H3 locs3 la3 hl3 Y3 => ?_)
  refine nx_s (pc' := 4) (st' := [.int a, .ref x, .int 0, .ref o]) (ls' := [some (.ref x), some (.int a), some (.int b), some (.ref o), none]) (ins := .iload_n 1) (len := 1) rfl (by decide +kernel) (Or.inl rfl) C hl3 Y3 hr (fun H4 locs4 la4 hl4 Y4 => ?_)
  refine nx_s (pc' := 5) (st' := [.int b, .int a, .ref x, .int 0, .ref o]) (ls' := [some (.ref x), some (.int a), some (.int b), some (.ref o), none]) (ins := .iload_n 2) (len := 1) rfl (by decide +kernel) (Or.inl rfl) C hl4 Y4 hr (fun H5 locs5 la5 hl5 Y5 => ?_)
  have hml5 : c.maxLocals = la5.size := by rw [hml]; exact hl5.size.symm
  have hfix : CallFix p m c cL_element la5.size s [Value.ref x, .int a, .int b, .ref o].toArray BG RL := ⟨B.exec, B.bytes, hml5, hown, hB⟩
  have hpv : PreV s H5 RX11 x (PcX [.ref x, .int a, .int b] h D cA n0) [.int a, .int b] := ⟨PcX.blind, va_recv hK1 (at_ref Y5 hx) (vwCl_at 9 (by omega)) (q0 := 0) rfl, fun U hU hW => ⟨rfl, HM.of Y5 hn0 hU, va_K.moved hW.alike hK1, NW.warm hW hN, XS.warm (locs := locs5) hn0 hW (by rw [hU]; exact Y5.2.2.1) hX⟩⟩
  have hrun := vx_runV (e := e) (l := l) (meth := meth) (R := rM 302 1 6) (below := below) (locs := locs5) (cells := 0) (slots := 0) (g := F0 m 5 la5 [.int b, .int a, .ref x, .int 0, .ref o]) (rest := [.int 0, .ref o]) hfix (M_element_ns hl a b hno) ⟨callB_of 2 hB gE_element rfl rfl rfl (hB _ (in_w (by decide +kernel))) (hB (Cond.methodLink RL 15 yX11_element) (in_w (by decide +kernel))) ⟨by decide +kernel, by decide +kernel, by decide +kernel⟩ ⟨Nat.le_refl _, by decide⟩, hB (Cond.instanceMethod yX11_element) (in_w (by decide +kernel)), hB (Cond.selects RX11 yX11_element yX11_element) (in_w (by decide +kernel))⟩ hpv rfl rfl rfl rfl (lv_room (Nat.le_of_ble_eq_true rfl)) (show decode cL_element 5 = .ok (.invokevirtual 15, 3) by decide +kernel) ⟨Nat.le_refl _, Nat.le_refl _⟩
  intro T hT X
  rcases hrun T hT X with ⟨v, st₀, t, T', L, h0, X', hL, e1, e2, hq, st⟩ | ⟨q, st₀, t, T', L, E, ce, h0, X', hL, e1, e2, ⟨rfl, ⟨hz1, hz2, hz3⟩, hF⟩, hce, hcv, hcl, st⟩
  · exact hq.elim
  · have hS6 := (vx_keep h0 e1 Y5.2.2.1 (fun q _ hq => hq) (fun q hq => hq) hL hF).2.2
    have Y6 : DY D cA n0 s.heap (h.1 + 1, h.2.1 + 6, h.2.2) T'.heap (locs5 ++ L) := ⟨by rw [e1]; exact hz1, by rw [e1]; exact hz2, hS6, hz3⟩
    obtain ⟨t2, a1, b1⟩ := vx_catch (own := RL) (name := IAEn) (E := IAEn) (ce := ce) (q := q) (Q := vx_MQ below (QcM (some (.int (nI 1))) (h.1 + 1, h.2.1 + 6, h.2.2) D cA n0) (fun _ _ _ => False) [Value.ref x, .int a, .int b, .ref o].toArray s 1 6 (AN n0)) (pc := 5) (ls := la5) (rest := [.int 0, .ref o]) hown [] ⟨0, 9, 12, 13⟩ [⟨0, 9, 16, 18⟩] htab (fun z hz => nomatch hz) (by decide) (by decide) (hB _ (in_w (by decide +kernel))) (inBN_b bn_cast ot_cast hB hN) (by rw [e1]; exact hce) hcv hcl (by
      refine nx_s (pc' := 14) (st' := []) (ls' := [some (.ref x), some (.int a), some (.int b), some (.ref o), some (.ref q)]) (ins := .astore 4) (len := 2) rfl (by decide +kernel) (Or.inl rfl) C hl5 Y6 hr1 (fun H7 locs7 la7 hl7 Y7 => ?_)
      refine nx_s (pc' := 15) (st' := [.int (nI 1)]) (ls' := [some (.ref x), some (.int a), some (.int b), some (.ref o), some (.ref q)]) (ins := .iconst 1) (len := 1) rfl (by decide +kernel) (Or.inl rfl) C hl7 Y7 hr1 (fun H8 locs8 la8 hl8 Y8 => ?_)
      exact vx_ret (W.iret B.exec B.bytes B.returns (fun t ht hW => ⟨rfl, ⟨by rw [ht]; exact Y8.1, by rw [ht]; exact Y8.2.1, hlo⟩, Y8.2.2.1.F ht⟩) Y8.2.2.1.2.2 (show decode cL_element 15 = .ok (.ireturn, 1) by decide +kernel))) T' rfl X'
    exact ⟨t2, st.trans a1, b1⟩
end LEN
/-! the law's own element, by hand (2) -/
section LEK
variable {l : Launch} {D : va_G} {cA : Nat → ClassId} {n0 x ra q o : Nat} {h : Hp} {fs0 : List Value} {zs : Int32} {z : Int64} {e' : PE}
theorem M_Lelement_ok (a b : Int32) (hx : h.2.2 x = some (.inr (9, fs0))) (hyes : vI a 8 = true) (hp : gfl 11 31 (h.2.2 x) = some (.ref ra)) (hra : rrl (h.2.2 ra) a = some (some q)) (hq : cob (h.2.2 q) = some 5) (hz0 : Ev 300 71 0 [some (.ref q)] [] h = some (some (.int zs), h)) (hb0 : Ev 300 85 0 [some (.int b), some (.int zs)] [] h = some (some (.int (bI true)), h)) (hat : Ev 300 72 0 [some (.ref q), some (.int b)] [] h = some (some (.long z), h)) (hw : wll (h.2.2 o) 0 z = some e') : vx_Met l yL_element (wH yL_element cL_element 5 (some .int) [(0, 9, 12, 13), (0, 9, 16, 18)]) (rM 302 0 0) (PcX [.ref x, .int a, .int b, .ref o] h D cA n0) (QcM (some (.int (nI 0))) (h.1, h.2.1, hup h.2.2 o e') D cA n0) (fun _ _ _ => False) 0 0 (AN n0) := by
  refine vx_ofWH (cc := cL_element) (maxL := 5) (ret := some .int) (hh := [(0, 9, 12, 13), (0, 9, 16, 18)]) (by decide +kernel) rfl ?_
  intro p e s m args below meth c s₁ B hml hv
  obtain ⟨rfl, ⟨hz, hH, hlo, hn0⟩, hK1, hN, hX⟩ := hv
  have hts := atoms_spec (ws := wH yL_element cL_element 5 (some .int) [(0, 9, 12, 13), (0, 9, 16, 18)]) B.pre
  have hB : ∀ w ∈ BG, w.before [Value.ref x, .int a, .int b, .ref o].toArray s = true := fun w hw => hts w (List.mem_cons_of_mem _ hw)
  have hown : s.vm.findClass RL = some m.cls := findClass_of_methodNamed B.named
  have C : CX p s m [Value.ref x, .int a, .int b, .ref o].toArray meth c cL_element 16 false D cA n0 s.heap := ⟨B.exec, B.bytes, hown, hB, hK1, hN, hn0, fun q => by cases q⟩
  have Y : DY D cA n0 s.heap h s.heap [] := ⟨hz, hH, va_S.rf, hlo⟩
  have hr : (0 : Nat) ≤ (rM 302 0 0).cells ∧ (0 : Nat) ≤ (rM 302 0 0).slots := ⟨Nat.zero_le _, Nat.zero_le _⟩
  rw [lg_entry_eq]
  refine nx_s (pc' := 1) (st' := [.ref o]) (ls' := [some (.ref x), some (.int a), some (.int b), some (.ref o), none]) (ls := [some (.ref x), some (.int a), some (.int b), some (.ref o), none]) (ins := .aload_n 3) (len := 1) rfl (by decide +kernel) (Or.inl rfl) C (ent_LR (n := 5) (as := [.ref x, .int a, .int b, .ref o]) (show 4 ≤ 5 by omega)) Y hr (fun H1 locs1 la1 hl1 Y1 => ?_)
  refine nx_s (pc' := 2) (st' := [.int 0, .ref o]) (ls' := [some (.ref x), some (.int a), some (.int b), some (.ref o), none]) (ins := .iconst 0) (len := 1) rfl (by decide +kernel) (Or.inl rfl) C hl1 Y1 hr (fun H2 locs2 la2 hl2 Y2 => ?_)
  refine nx_s (pc' := 3) (st' := [.ref x, .int 0, .ref o]) (ls' := [some (.ref x), some (.int a), some (.int b), some (.ref o), none]) (ins := .aload_n 0) (len := 1) rfl (by decide +kernel) (Or.inl rfl) C hl2 Y2 hr (fun H3 locs3 la3 hl3 Y3 => ?_)
  refine nx_s (pc' := 4) (st' := [.int a, .ref x, .int 0, .ref o]) (ls' := [some (.ref x), some (.int a), some (.int b), some (.ref o), none]) (ins := .iload_n 1) (len := 1) rfl (by decide +kernel) (Or.inl rfl) C hl3 Y3 hr (fun H4 locs4 la4 hl4 Y4 => ?_)
  refine nx_s (pc' := 5) (st' := [.int b, .int a, .ref x, .int 0, .ref o]) (ls' := [some (.ref x), some (.int a), some (.int b), some (.ref o), none]) (ins := .iload_n 2) (len := 1) rfl (by decide +kernel) (Or.inl rfl) C hl4 Y4 hr (fun H5 locs5 la5 hl5 Y5 => ?_)
  have hml5 : c.maxLocals = la5.size := by rw [hml]; exact hl5.size.symm
  have hfix : CallFix p m c cL_element la5.size s [Value.ref x, .int a, .int b, .ref o].toArray BG RL := ⟨B.exec, B.bytes, hml5, hown, hB⟩
  have hpv : PreV s H5 RX11 x (PcX [.ref x, .int a, .int b] h D cA n0) [.int a, .int b] := ⟨PcX.blind, va_recv hK1 (at_ref Y5 hx) (vwCl_at 9 (by omega)) (q0 := 0) rfl, fun U hU hW => ⟨rfl, HM.of Y5 hn0 hU, va_K.moved hW.alike hK1, NW.warm hW hN, XS.warm (locs := locs5) hn0 hW (by rw [hU]; exact Y5.2.2.1) hX⟩⟩
  have hrun := vx_runV (e := e) (l := l) (meth := meth) (R := rM 302 0 0) (below := below) (locs := locs5) (cells := 0) (slots := 0) (g := F0 m 5 la5 [.int b, .int a, .ref x, .int 0, .ref o]) (rest := [.int 0, .ref o]) hfix (M_element_ok a b hyes hp hra hq hz0 hb0 hat) ⟨callB_of 2 hB gE_element rfl rfl rfl (hB _ (in_w (by decide +kernel))) (hB (Cond.methodLink RL 15 yX11_element) (in_w (by decide +kernel))) ⟨by decide +kernel, by decide +kernel, by decide +kernel⟩ ⟨Nat.le_refl _, by decide⟩, hB (Cond.instanceMethod yX11_element) (in_w (by decide +kernel)), hB (Cond.selects RX11 yX11_element yX11_element) (in_w (by decide +kernel))⟩ hpv rfl rfl rfl rfl (lv_room (Nat.le_of_ble_eq_true rfl)) (show decode cL_element 5 = .ok (.invokevirtual 15, 3) by decide +kernel) ⟨Nat.le_refl _, Nat.le_refl _⟩
  intro T hT X
  rcases hrun T hT X with ⟨v, st₀, t, T', L, h0, X', hL, e1, e2, ⟨hv, ⟨hy1, hy2, hy3⟩, hF⟩, st⟩ | ⟨q, st₀, t, T', L, E, ce, h0, X', hL, e1, e2, hq, hce, hcv, hcl, st⟩
  · cases hv
    have hS6 := (vx_keep h0 e1 Y5.2.2.1 (fun q _ hq => hq) (fun q hq => hq) hL hF).2.2
    have Y6 : DY D cA n0 s.heap h T'.heap (locs5 ++ L) := ⟨by rw [e1]; exact hy1, by rw [e1]; exact hy2, hS6, hy3⟩
    have fin : W p l e (rM 302 0 0) s m [Value.ref x, .int a, .int b, .ref o].toArray below meth c T'.heap (locs5 ++ L) 0 0 (vx_MQ below (QcM (some (.int (nI 0))) (h.1, h.2.1, hup h.2.2 o e') D cA n0) (fun _ _ _ => False) [Value.ref x, .int a, .int b, .ref o].toArray s 0 0 (AN n0)) (F0 m 8 la5 [.long z, .int 0, .ref o]) := by
      have key := nx_snd (p := p) (l := l) (e := e) (R := rM 302 0 0) (below := below) (meth := meth) (Q := vx_MQ below (QcM (some (.int (nI 0))) (h.1, h.2.1, hup h.2.2 o e') D cA n0) (fun _ _ _ => False) [Value.ref x, .int a, .int b, .ref o].toArray s 0 0 (AN n0)) (cells := 0) (slots := 0) (scr := none) (pc' := 9) (st := [.long z, .int 0, .ref o]) (st' := []) (ls := [some (.ref x), some (.int a), some (.int b), some (.ref o), none]) (ls' := [some (.ref x), some (.int a), some (.int b), some (.ref o), none]) (h' := (h.1, h.2.1, hup h.2.2 o e')) (ins := .lastore) (len := 1) (by simp only [nx, hw]) (show decode cL_element 8 = .ok (.lastore, 1) by decide +kernel) (Or.inl rfl) C (fun q hq => by cases hq) hl5 Y6 (by dsimp only; rw [Nat.sub_self]; exact Nat.zero_le _) (by dsimp only; rw [Nat.sub_self]; exact Nat.zero_le _)
      refine key (fun H7 locs7 la7 hl7 Y7 => ?_)
      dsimp only
      rw [Nat.sub_self, Nat.sub_self]
      refine nx_s (pc' := 20) (st' := []) (ls' := [some (.ref x), some (.int a), some (.int b), some (.ref o), none]) (ins := .goto 11) (len := 3) rfl (by decide +kernel) (Or.inl rfl) C hl7 Y7 hr (fun H8 locs8 la8 hl8 Y8 => ?_)
      refine nx_s (pc' := 21) (st' := [.int (nI 0)]) (ls' := [some (.ref x), some (.int a), some (.int b), some (.ref o), none]) (ins := .iconst 0) (len := 1) rfl (by decide +kernel) (Or.inl rfl) C hl8 Y8 hr (fun H9 locs9 la9 hl9 Y9 => ?_)
      exact vx_ret (W.iret B.exec B.bytes B.returns (fun t ht hW => ⟨rfl, ⟨by rw [ht]; exact Y9.1, by rw [ht]; exact Y9.2.1, Y9.2.2.2⟩, Y9.2.2.1.F ht⟩) Y9.2.2.1.2.2 (show decode cL_element 21 = .ok (.ireturn, 1) by decide +kernel))
    obtain ⟨t2, a1, b1⟩ := fin T' rfl X'
    exact ⟨t2, st t2 a1, b1⟩
  · exact hq.elim
end LEK
