/-! the law's own element, by hand (3) -/
theorem ot_cast2 : vx_ot (Cond.castable ISEn ISEn) = true := by decide +kernel
theorem bn_cast2 : inBN (Cond.castable ISEn ISEn) = true := by decide +kernel
def PcY (as : List Value) (h : Hp) (D : va_G) (cA : Nat → ClassId) (n0 : Nat) : Array Value → State → Prop := va_Pc as (fun U => HM D cA n0 h U ∧ va_K D vwCl (tyL cA) U ∧ NW U ∧ XS n0 U ∧ va_Nc ISEn IAEn U)
theorem PcY.blind {as : List Value} {h : Hp} {D : va_G} {cA : Nat → ClassId} {n0 : Nat} : FrameBlind (PcY as h D cA n0) := fun a U g mk q =>
  ⟨q.1, q.2.1, va_K.moved (u := U) (U := U.calling g mk a) (Vm.Alike.refl U.vm) q.2.2.1, NW.calling g mk a q.2.2.2.1, XS.calling g mk a q.2.2.2.2.1, va_Nc.moved (u := U) (U := U.calling g mk a) (Vm.Alike.refl U.vm) q.2.2.2.2.2⟩
section LEP
variable {l : Launch} {D : va_G} {cA : Nat → ClassId} {n0 x ra q0 o : Nat} {h : Hp} {fs0 : List Value} {zs : Int32}
theorem M_Lelement_np (hl : l.stackTraces = false) (a b : Int32) (hx : h.2.2 x = some (.inr (9, fs0))) (hyes : vI a 8 = true) (hp : gfl 11 31 (h.2.2 x) = some (.ref ra)) (hra : rrl (h.2.2 ra) a = some (some q0)) (hq : cob (h.2.2 q0) = some 5) (hz0 : Ev 300 71 0 [some (.ref q0)] [] h = some (some (.int zs), h)) (hb0 : Ev 300 85 0 [some (.int b), some (.int zs)] [] h = some (some (.int (bI false)), h)) : vx_Met l yL_element (wH yL_element cL_element 5 (some .int) [(0, 9, 12, 13), (0, 9, 16, 18)]) (rM 302 1 6) (PcY [.ref x, .int a, .int b, .ref o] h D cA n0) (QcM (some (.int (nI 2))) (h.1 + 1, h.2.1 + 6, h.2.2) D cA n0) (fun _ _ _ => False) 1 6 (AN n0) := by
  refine vx_ofWH (cc := cL_element) (maxL := 5) (ret := some .int) (hh := [(0, 9, 12, 13), (0, 9, 16, 18)]) (by decide +kernel) rfl ?_
  intro p e s m args below meth c s₁ B hml hv
  obtain ⟨rfl, ⟨hz, hH, hlo, hn0⟩, hK1, hN, hX, hNc⟩ := hv
  have hts := atoms_spec (ws := wH yL_element cL_element 5 (some .int) [(0, 9, 12, 13), (0, 9, 16, 18)]) B.pre
  have hB : ∀ w ∈ BG, w.before [Value.ref x, .int a, .int b, .ref o].toArray s = true := fun w hw => hts w (List.mem_cons_of_mem _ hw)
  have hown : s.vm.findClass RL = some m.cls := findClass_of_methodNamed B.named
  have C : CX p s m [Value.ref x, .int a, .int b, .ref o].toArray meth c cL_element 16 false D cA n0 s.heap := ⟨B.exec, B.bytes, hown, hB, hK1, hN, hn0, fun q => by cases q⟩
  have Y : DY D cA n0 s.heap h s.heap [] := ⟨hz, hH, va_S.rf, hlo⟩
  have htab : c.exceptionTable.toList = [(⟨0, 9, 12, 13⟩ : ExceptionTableEntry)] ++ (⟨0, 9, 16, 18⟩ : ExceptionTableEntry) :: [] := (vx_table (x := yL_element) B (hts _ List.mem_cons_self)).trans rfl
  have hr : (0 : Nat) ≤ (rM 302 1 6).cells ∧ (0 : Nat) ≤ (rM 302 1 6).slots := ⟨Nat.zero_le _, Nat.zero_le _⟩
  have hr1 : (1 : Nat) ≤ (rM 302 1 6).cells ∧ (6 : Nat) ≤ (rM 302 1 6).slots := ⟨Nat.le_refl _, Nat.le_refl _⟩
  rw [lg_entry_eq]
  refine nx_s (pc' := 1) (st' := [.ref o]) (ls' := [some (.ref x), some (.int a), some (.int b), some (.ref o), none]) (ls := [some (.ref x), some (.int a), some (.int b), some (.ref o), none]) (ins := .aload_n 3) (len := 1) rfl (by decide +kernel) (Or.inl rfl) C (ent_LR (n := 5) (as := [.ref x, .int a, .int b, .ref o]) (show 4 ≤ 5 by omega)) Y hr (fun H1 locs1 la1 hl1 Y1 => ?_)
  refine nx_s (pc' := 2) (st' := [.int 0, .ref o]) (ls' := [some (.ref x), some (.int a), some (.int b), some (.ref o), none]) (ins := .iconst 0) (len := 1) rfl (by decide +kernel) (Or.inl rfl) C hl1 Y1 hr (fun H2 locs2 la2 hl2 Y2 => ?_)
  refine nx_s (pc' := 3) (st' := [.ref x, .int 0, .ref o]) (ls' := [some (.ref x), some (.int a), some (.int b), some (.ref o), none]) (ins := .aload_n 0) (len := 1) rfl (by decide +kernel) (Or.inl rfl) C hl2 Y2 hr (fun H3 locs3 la3 hl3 Y3 => ?_)
  refine nx_s (pc' := 4) (st' := [.int a, .ref x, .int 0, .ref o]) (ls' := [some (.ref x), some (.int a), some (.int b), some (.ref o), none]) (ins := .iload_n 1) (len := 1) rfl (by decide +kernel) (Or.inl rfl) C hl3 Y3 hr (fun H4 locs4 la4 hl4 Y4 => ?_)
  refine nx_s (pc' := 5) (st' := [.int b, .int a, .ref x, .int 0, .ref o]) (ls' := [some (.ref x), some (.int a), some (.int b), some (.ref o), none]) (ins := .iload_n 2) (len := 1) rfl (by decide +kernel) (Or.inl rfl) C hl4 Y4 hr (fun H5 locs5 la5 hl5 Y5 => ?_)
  have hml5 : c.maxLocals = la5.size := by rw [hml]; exact hl5.size.symm
  have hfix : CallFix p m c cL_element la5.size s [Value.ref x, .int a, .int b, .ref o].toArray BG RL := ⟨B.exec, B.bytes, hml5, hown, hB⟩
  have hpv : PreV s H5 RX11 x (PcX [.ref x, .int a, .int b] h D cA n0) [.int a, .int b] := ⟨PcX.blind, va_recv hK1 (at_ref Y5 hx) (vwCl_at 9 (by omega)) (q0 := 0) rfl, fun U hU hW => ⟨rfl, HM.of Y5 hn0 hU, va_K.moved hW.alike hK1, NW.warm hW hN, XS.warm (locs := locs5) hn0 hW (by rw [hU]; exact Y5.2.2.1) hX⟩⟩
  have hrun := vx_runV (e := e) (l := l) (meth := meth) (R := rM 302 1 6) (below := below) (locs := locs5) (cells := 0) (slots := 0) (g := F0 m 5 la5 [.int b, .int a, .ref x, .int 0, .ref o]) (rest := [.int 0, .ref o]) hfix (M_element_np hl a b hyes (by rw [hx] at hp ⊢; exact hp) hra hq hz0 hb0) ⟨callB_of 2 hB gE_element rfl rfl rfl (hB _ (in_w (by decide +kernel))) (hB (Cond.methodLink RL 15 yX11_element) (in_w (by decide +kernel))) ⟨by decide +kernel, by decide +kernel, by decide +kernel⟩ ⟨Nat.le_refl _, by decide⟩, hB (Cond.instanceMethod yX11_element) (in_w (by decide +kernel)), hB (Cond.selects RX11 yX11_element yX11_element) (in_w (by decide +kernel))⟩ hpv rfl rfl rfl rfl (lv_room (Nat.le_of_ble_eq_true rfl)) (show decode cL_element 5 = .ok (.invokevirtual 15, 3) by decide +kernel) ⟨Nat.le_refl _, Nat.le_refl _⟩
  intro T hT X
  rcases hrun T hT X with ⟨v, st₀, t, T', L, h0, X', hL, e1, e2, hq, st⟩ | ⟨q, st₀, t, T', L, E, ce, h0, X', hL, e1, e2, ⟨rfl, ⟨hz1, hz2, hz3⟩, hF⟩, hce, hcv, hcl, st⟩
  · exact hq.elim
  · have hS6 := (vx_keep h0 e1 Y5.2.2.1 (fun q _ hq => hq) (fun q hq => hq) hL hF).2.2
    have Y6 : DY D cA n0 s.heap (h.1 + 1, h.2.1 + 6, h.2.2) T'.heap (locs5 ++ L) := ⟨by rw [e1]; exact hz1, by rw [e1]; exact hz2, hS6, hz3⟩
    obtain ⟨t2, a1, b1⟩ := vx_catch (own := RL) (name := ISEn) (E := ISEn) (ce := ce) (q := q) (Q := vx_MQ below (QcM (some (.int (nI 2))) (h.1 + 1, h.2.1 + 6, h.2.2) D cA n0) (fun _ _ _ => False) [Value.ref x, .int a, .int b, .ref o].toArray s 1 6 (AN n0)) (pc := 5) (ls := la5) (rest := [.int 0, .ref o]) hown [⟨0, 9, 12, 13⟩] ⟨0, 9, 16, 18⟩ [] htab (fun z hz => by
        rw [List.mem_singleton.mp hz]
        exact Or.inr ⟨by decide, IAEn, hB (Cond.classLink RL 13 IAEn) (in_w (by decide +kernel)), hNc⟩) (by decide) (by decide) (hB _ (in_w (by decide +kernel))) (inBN_b bn_cast2 ot_cast2 hB hN) (by rw [e1]; exact hce) hcv hcl (by
      refine nx_s (pc' := 18) (st' := []) (ls' := [some (.ref x), some (.int a), some (.int b), some (.ref o), some (.ref q)]) (ins := .astore 4) (len := 2) rfl (by decide +kernel) (Or.inl rfl) C hl5 Y6 hr1 (fun H7 locs7 la7 hl7 Y7 => ?_)
      refine nx_s (pc' := 19) (st' := [.int (nI 2)]) (ls' := [some (.ref x), some (.int a), some (.int b), some (.ref o), some (.ref q)]) (ins := .iconst 2) (len := 1) rfl (by decide +kernel) (Or.inl rfl) C hl7 Y7 hr1 (fun H8 locs8 la8 hl8 Y8 => ?_)
      exact vx_ret (W.iret B.exec B.bytes B.returns (fun t ht hW => ⟨rfl, ⟨by rw [ht]; exact Y8.1, by rw [ht]; exact Y8.2.1, hlo⟩, Y8.2.2.1.F ht⟩) Y8.2.2.1.2.2 (show decode cL_element 19 = .ok (.ireturn, 1) by decide +kernel))) T' rfl X'
    exact ⟨t2, st.trans a1, b1⟩
end LEP
section SPY
variable {p : Program} {l : Launch} {e : Env} {R : Room} {s : State} {m : MethodId} {args : Array Value} {below : List Frame} {meth : Method} {c : Code} {Q : State → Prop}
variable {D : va_G} {cA : Nat → ClassId} {n0 : Nat} {H : Heap} {cc : ByteArray} {oc pc cells slots : Nat} {ini : Bool} {h h' : Hp} {locs : List Loc} {la : Array Slot}
theorem sp_S2 {y : MethodName} {cy : ByteArray} {maxL i d mc ms n : Nat} {hh : List (Nat × Nat × Nat × Nat)} {as rest st0 : List Value} {v : Option Value} (hM : vx_Met l y (wH y cy maxL (some .int) hh) (rM d mc ms) (PcY as h D cA n0) (QcM v h' D cA n0) (fun _ _ _ => False) mc ms (AN n0))
    (hG : GoodIn BG (va_wsS RL i y (wH y cy maxL (some .int) hh))) (hy : y.cls ≠ "java/lang/invoke/MethodHandle" ∧ y.cls ≠ "java/lang/invoke/VarHandle" ∧ (parseMethodDescriptor y.desc).map (fun d => d.parameters.length) = some n) (hn : as.length = n)
    (C : CX p s m args meth c cc 16 ini D cA n0 s.heap) (hX : XS n0 s) (hNc : va_Nc ISEn IAEn s) (hml : c.maxLocals = la.size) (Y : DY D cA n0 s.heap h H locs) (hd : decode cc pc = .ok (.invokestatic i, 3)) (hst : st0 = as.reverse ++ rest) (hw : wid rest ≤ 8) (hR : d + 1 ≤ R.frames ∧ 8 + (maxL + 11) + 40 * d ≤ R.locals) (hf : cells + mc ≤ R.cells ∧ slots + ms ≤ R.slots)
    (k : ∀ H1 locs1, DY D cA n0 s.heap h' H1 locs1 → W p l e R s m args below meth c H1 locs1 (cells + mc) (slots + ms) Q (F0 m (pc + 3) la (v.toList ++ rest))) : W p l e R s m args below meth c H locs cells slots Q (F0 m pc la st0) := by
  obtain ⟨hx, hb, hown, hts, hK, hN, hn0, hini⟩ := C
  have hfix : CallFix p m c cc la.size s args BG RL := ⟨hx, hb, hml, hown, hts⟩
  refine sp_end (d := d) hn0 Y (vx_runSX (e := e) (below := below) (meth := meth) (g := F0 m pc la st0) (hh := hh) hfix hM (vx_cwSW n hts hG rfl rfl rfl hy hR) ⟨PcY.blind, fun U hU hW => ⟨rfl, HM.of Y hn0 hU, va_K.moved hW.alike hK, NW.warm hW hN, XS.warm (locs := locs) hn0 hW (by rw [hU]; exact Y.2.2.1) hX, va_Nc.moved hW.alike hNc⟩⟩ rfl hn rfl hst (lv_room hw) hd hf) k
end SPY
