/-! calls of the pure machine are calls of the real one -/
def wM (y : Nat) : List Cond := Cond.code (mtd y).2.1 (mtd y).2.2.1 (mtd y).2.2.2.1 (mtd y).2.2.2.2 :: BG
def rM (d mc ms : Nat) : Room := { frames := d, cells := mc, slots := ms, locals := 40 * d }
def HM (D : va_G) (cA : Nat → ClassId) (n0 : Nat) (h : Hp) (U : State) : Prop := U.heap.size = h.1 ∧ HRl D cA h.2.2 U.heap ∧ (∀ a e, h.2.2 a = some e → n0 ≤ a) ∧ n0 ≤ U.heap.size
def PcM (as : List Value) (h : Hp) (D : va_G) (cA : Nat → ClassId) (n0 : Nat) : Array Value → State → Prop := va_Pc as (fun U => HM D cA n0 h U ∧ va_K D vwCl (tyL cA) U ∧ NW U)
def QcM (v : Option Value) (h' : Hp) (D : va_G) (cA : Nat → ClassId) (n0 : Nat) : Array Value → State → Outcome → State → Prop := fun _ st o t => o = .returned v ∧ (t.heap.size = h'.1 ∧ HRl D cA h'.2.2 t.heap ∧ (∀ a e, h'.2.2 a = some e → n0 ≤ a)) ∧ va_F (AN n0) st t
theorem mtd_ok : ∀ y, y < 202 → mok (mtd y) := by
  intro y h
  have hl : mdT.length = 202 := by decide +kernel
  have e : mtd y = mdT[y]'(by omega) := by
    unfold mtd mdL
    rw [List.getD_eq_getElem?_getD, List.getElem?_append_left (by omega), List.getElem?_eq_getElem (by omega)]
    rfl
  rw [e]
  exact mdT_ok _ (List.getElem_mem _)
theorem NW.warm {s U : State} (hW : s.WarmedH U.vm) (h : NW s) : NW U := by
  intro w hw
  have h1 := h w hw
  obtain ⟨-, hw⟩ := hw
  cases w <;> simp only [isNw] at hw <;> first
    | (cases hw; done)
    | exact va_Nw.warmF hW h1
    | exact va_Nw.warmM hW h1
    | exact va_Nw.warmD hW h1
    | exact va_tabs rfl (rfl : (s.setVm U.vm).vm = U.vm) (by rw [Cond.castable_setVm hW.alike]; exact h1)
    | (rename_i t; cases t <;> first | exact va_AO.moved hW.alike h1 | (exact absurd hw (by simp)))
theorem NW.calling {U : State} (g : JFrame) (mk : MethodId) (a : Array Value) (h : NW U) : NW (U.calling g mk a) := by
  intro w hw
  have h1 := h w hw
  obtain ⟨-, hw⟩ := hw
  cases w <;> simp only [isNw] at hw <;> first
    | (cases hw; done)
    | exact va_tabs rfl (rfl : U.vm = (U.calling g mk a).vm) h1
    | (rename_i t; cases t <;> first | exact va_AO.moved (u := U) (U := U.calling g mk a) (Vm.Alike.refl U.vm) h1 | (exact absurd hw (by simp)))
theorem PcM.blind {as : List Value} {h : Hp} {D : va_G} {cA : Nat → ClassId} {n0 : Nat} : FrameBlind (PcM as h D cA n0) := fun a U g mk q =>
  ⟨q.1, q.2.1, va_K.moved (u := U) (U := U.calling g mk a) (Vm.Alike.refl U.vm) q.2.2.1, NW.calling g mk a q.2.2.2⟩
theorem bgood {y : Nat} (hy : y < 202) : GoodIn BG (wM y) := by
  have key : ∀ w ∈ BG, w ∈ BG ∧ ((w.onTables && w.keeps) = true ∨ ∃ ty, w = .arrayClass ty) := fun w hw => ⟨hw, good_of_word (List.mem_filter.mp hw).2⟩
  intro w hw
  rcases List.mem_cons.mp hw with rfl | hw
  · exact key _ (mtd_ok y hy).1
  · exact key w hw
theorem cvt_ok {oc i ci y n : Nat} {sp : Bool} (h : cvt oc i ci sp = some (y, n)) : ∃ kd x hh, vok (oc, i, ci, y, n, kd, x, hh) ∧ Nat.ble 5 kd = sp := by
  unfold cvt at h
  cases hf : vtL.find? (fun e => e.1 == oc && e.2.1 == i && e.2.2.1 == ci && (Nat.ble 5 e.2.2.2.2.2.1 == sp)) with
  | none => rw [hf] at h; cases h
  | some e =>
    rw [hf] at h
    have hm := List.mem_of_find?_eq_some hf
    have hp := List.find?_some hf
    simp only [Bool.and_eq_true, beq_iff_eq] at hp
    obtain ⟨a1, a2, a3, a4, a5, a6, a7, a8⟩ := e
    obtain ⟨⟨⟨rfl, rfl⟩, rfl⟩, hk⟩ := hp
    cases h
    exact ⟨a6, a7, a8, vtL_ok _ hm, hk⟩
theorem cst_ok {oc i y n : Nat} (h : cst oc i = some (y, n)) : ∃ hh, sok (oc, i, y, n, hh) := by
  unfold cst at h
  cases hf : stL.find? (fun e => e.1 == oc && e.2.1 == i) with
  | none => rw [hf] at h; cases h
  | some e =>
    rw [hf] at h
    have hm := List.mem_of_find?_eq_some hf
    have hp := List.find?_some hf
    simp only [Bool.and_eq_true, beq_iff_eq] at hp
    obtain ⟨a1, a2, a3, a4, a5⟩ := e
    obtain ⟨rfl, rfl⟩ := hp
    cases h
    exact ⟨a5, stL_ok _ hm⟩
theorem init_ret : ∀ y, y < 202 → (mtd y).2.1.name = "<init>" → (mtd y).2.2.2.2 = none := by
  have key : (List.range 202).all (fun y => !((mtd y).2.1.name == "<init>") || decide ((mtd y).2.2.2.2 = none)) = true := by decide +kernel
  intro y hy hn
  have := List.all_eq_true.mp key y (List.mem_range.mpr hy)
  simpa [hn] using this
section CALL
variable {p : Program} {l : Launch} {e : Env} {R : Room} {s : State} {m : MethodId} {args : Array Value} {below : List Frame} {meth : Method} {c : Code} {H : Heap} {locs : List Loc} {cells slots : Nat} {Q : State → Prop}
variable {cc : ByteArray} {pc : Nat} {la : Array Slot} {D : va_G} {cA : Nat → ClassId} {n0 : Nat} {H0 : Heap} {h h' : Hp} {oc : Nat} {ini : Bool} {ls ls' : LL} {st st' : List Value} {pc' : Nat}
theorem run_call {mc ms : Nat} {a : Array Value} {v : Option Value} {st0 rest : List Value} (hr : va_Run p l e R s m args below meth c H locs cells slots mc ms (F0 m pc la st0) rest (QcM v h' D cA n0 a) (AN n0)) (hn0 : n0 ≤ H0.size) (Y : DY D cA n0 H0 h H locs)
    (k : ∀ H1 locs1, DY D cA n0 H0 h' H1 locs1 → W p l e R s m args below meth c H1 locs1 (cells + mc) (slots + ms) Q (F0 m (pc + 3) la (v.toList ++ rest))) : W p l e R s m args below meth c H locs cells slots Q (F0 m pc la st0) := by
  intro T hT X
  obtain ⟨v1, st₀, t, T', L, h0, X', hL, e1, e2, ⟨hv, ⟨hz1, hz2, hz3⟩, hF⟩, stp⟩ := hr T hT X
  cases hv
  obtain ⟨y1, y2, y3, y4⟩ := Y
  obtain ⟨f1, f2⟩ := hF
  rw [h0] at f1 f2
  obtain ⟨t2, a1, b1⟩ := k T'.heap (locs ++ L) ⟨by rw [e1]; exact hz1, by rw [e1]; exact hz2, ⟨Nat.le_trans y3.1 (by rw [e1]; exact f1), fun q h1 h2 => by
      rw [e1, f2 q (Nat.lt_of_lt_of_le h1 y3.1) h2]; exact y3.2.1 q h1 h2, fun q hq => by
      rcases List.mem_append.mp hq with h | h
      · exact y3.2.2 q h
      · exact hL q h⟩, hz3⟩ T' rfl X'
  exact ⟨t2, stp t2 a1, b1⟩
theorem HM.of {U : State} (Y : DY D cA n0 H0 h H locs) (hn0 : n0 ≤ H0.size) (hU : U.heap = H) : HM D cA n0 h U := by
  obtain ⟨y1, y2, y3, y4⟩ := Y
  exact ⟨by rw [hU]; exact y1, by rw [hU]; exact y2, y4, by rw [hU]; exact Nat.le_trans hn0 y3.1⟩
theorem cli_run {ins : Instr} {y d mc ms : Nat} {as rest : List Value} {v : Option Value} (hcl : cli oc ins st h = some (y, as, rest)) (hd : decode cc pc = .ok (ins, ilen ins)) (C : CX p s m args meth c cc oc ini D cA n0 H0) (hml : c.maxLocals = la.size) (Y : DY D cA n0 H0 h H locs)
    (hM : y < 202 → Met l (mtd y).2.1 (wM y) (rM d mc ms) (PcM as h D cA n0) (QcM v h' D cA n0) mc ms (AN n0)) (hR : d + 1 ≤ R.frames ∧ 40 * (d + 1) ≤ R.locals) (hf : cells + mc ≤ R.cells ∧ slots + ms ≤ R.slots) :
    va_Run p l e R s m args below meth c H locs cells slots mc ms (F0 m pc la st) rest (QcM v h' D cA n0 as.toArray) (AN n0) := by
  obtain ⟨hx, hb, hown, hts, hK, hN, hn0, hini⟩ := C
  have hfix : CallFix p m c cc la.size s args BG (ocn oc) := ⟨hx, hb, hml, hown, hts⟩
  have hroom : y < 202 → (rM d mc ms).frames + 1 ≤ R.frames ∧ 8 + ((mtd y).2.2.2.1 + 11) + (rM d mc ms).locals ≤ R.locals := by
    intro hy
    obtain ⟨-, -, -, h4, -⟩ := mtd_ok y hy
    refine ⟨hR.1, ?_⟩
    show 8 + ((mtd y).2.2.2.1 + 11) + 40 * d ≤ R.locals
    omega
  have hgo : ∀ (bs : List Value) (U : State), U.heap = H → s.WarmedH U.vm → PcM bs h D cA n0 bs.toArray U := fun bs U hU hW => ⟨rfl, HM.of Y hn0 hU, va_K.moved hW.alike hK, NW.warm hW hN⟩
  have hvirt : ∀ (i : Nat) (sp : Bool), clv oc i sp st h = some (y, as, rest) → ∃ a ci n fs kd x hh, st[n]? = some (.ref a) ∧ h.2.2 a = some (.inr (ci, fs)) ∧ vok (oc, i, ci, y, n, kd, x, hh) ∧ Nat.ble 5 kd = sp ∧ wid rest ≤ 8 ∧ as = .ref a :: (st.take n).reverse ∧ rest = st.drop (n + 1) ∧ st = (st.take n).reverse.reverse ++ .ref a :: rest ∧ (st.take n).reverse.length = n := by
    intro i sp hc
    unfold clv at hc
    split at hc
    · rename_i n hn
      split at hc
      · rename_i a ha
        split at hc
        · rename_i ci hci
          split at hc
          · rename_i y2 n2 hv
            split at hc
            · rename_i hcd
              obtain ⟨rfl, hw⟩ := hcd
              cases hc
              obtain ⟨kd, x, hh, hv1, hv2⟩ := cvt_ok hv
              unfold cob at hci
              split at hci
              · rename_i o ho
                cases hci
                have hlt : n2 < st.length := (List.getElem?_eq_some_iff.mp ha).1
                refine ⟨a, o.1, n2, o.2, kd, x, hh, ha, ho, hv1, hv2, hw, rfl, rfl, ?_, by simp; omega⟩
                rw [List.reverse_reverse]
                have := List.take_append_drop n2 st
                rw [List.drop_eq_getElem_cons hlt, (List.getElem?_eq_some_iff.mp ha).2] at this
                exact this.symm
              · cases hci
            · cases hc
          · cases hc
        · cases hc
      · cases hc
    · cases hc
  cases ins with
  | invokestatic i =>
    simp only [cli] at hcl
    split at hcl
    · rename_i y2 n2 hc2
      split at hcl
      · rename_i hcd
        cases hcl
        obtain ⟨hh, s1, s2, s3⟩ := cst_ok hc2
        dsimp only at s1 s2 s3
        have hm := mtd_ok y s1
        have hst : (F0 m pc la st).stack = (st.take n2).reverse.reverse ++ st.drop n2 := by rw [List.reverse_reverse]; exact (List.take_append_drop n2 st).symm
        have hlen : (st.take n2).reverse.length = n2 := by simp; omega
        rcases s3 with ⟨-, s4, s5⟩ | ⟨-, s4, s5⟩
        · exact va_runS hfix (hM s1) ⟨callB_of n2 hts (bgood s1) rfl rfl rfl (hts _ hm.2.2.2.2.2) (hts _ s4) ⟨hm.2.2.1.1, hm.2.2.1.2, s2⟩ (hroom s1), hts _ s5⟩ ⟨PcM.blind, fun U hU hW => hgo _ U hU hW⟩ rfl hlen rfl hst (lv_room hcd.2) hd hf
        · exact va_runSN hfix (hM s1) ⟨va_cnB n2 hts (bgood s1) rfl rfl rfl (hN _ s4) (hts _ hm.2.2.2.2.2) ⟨hm.2.2.1.1, hm.2.2.1.2, s2⟩ (hroom s1), hts _ s5, trivial⟩ ⟨PcM.blind, fun U hU hW => hgo _ U hU hW⟩ rfl hlen rfl hst (lv_room hcd.2) hd hf
      · cases hcl
    · cases hcl
  | invokevirtual i =>
    obtain ⟨a, ci, n, fs, kd, x, hh, ha, ho, ⟨v1, v2, v3, v4, v5⟩, hsp, hw, rfl, hrest, hst, hlen⟩ := hvirt i false hcl
    dsimp only at v1 v2 v3 v4 v5
    have hm := mtd_ok y v2
    have hpv : PreV s H (cin ci) a (PcM (.ref a :: (st.take n).reverse) h D cA n0) (st.take n).reverse := ⟨PcM.blind, va_recv hK (at_ref Y ho) (vwCl_at ci v1) (q0 := 0) rfl, fun U hU hW => hgo _ U hU hW⟩
    match kd, v5, hsp with
    | 0, v5, _ =>
      obtain ⟨u1, u2, u3, u4⟩ := v5
      exact va_runV hfix (hM v2) ⟨callB_of n hts (bgood v2) rfl rfl rfl (hts _ hm.2.2.2.2.2) (hts _ u2) ⟨hm.2.2.1.1, hm.2.2.1.2, v3⟩ (hroom v2), hts _ u3, hts _ u4⟩ hpv rfl hlen rfl hst (lv_room hw) hd hf
    | 1, v5, _ =>
      obtain ⟨u1, u2, u3, u4⟩ := v5
      exact va_runVN hfix (hM v2) ⟨va_cnB n hts (bgood v2) rfl rfl rfl (hN _ u2) (hts _ hm.2.2.2.2.2) ⟨hm.2.2.1.1, hm.2.2.1.2, v3⟩ (hroom v2), hts _ u3, hts _ u4⟩ hpv rfl hlen rfl hst (lv_room hw) hd hf
    | 2, v5, _ =>
      obtain ⟨u1, u2, u3, u4, u5, u6⟩ := v5
      refine va_runU hfix (hM v2) (va_cwU (owner := x.cls) n hts ?_ rfl rfl rfl u1 ⟨u2.1, u2.2, v4⟩ (hroom v2)) hpv rfl hlen rfl hst (lv_room hw) hd hf
      intro w hw2
      have key : ∀ w ∈ BG, w ∈ BG ∧ ((w.onTables && w.keeps) = true ∨ ∃ ty, w = .arrayClass ty) := fun w hw => ⟨hw, good_of_word (List.mem_filter.mp hw).2⟩
      simp only [va_wsU, List.cons_append, List.nil_append, List.mem_cons] at hw2
      rcases hw2 with rfl | rfl | rfl | rfl | rfl | hw2
      · exact key _ u3
      · exact key _ u4
      · exact key _ u5
      · exact key _ u6
      · exact key _ hm.2.2.2.2.2
      · exact bgood v2 w hw2
    | 3, v5, _ =>
      obtain ⟨u2, u7, u3, u4, u5, u6⟩ := v5
      refine va_runU hfix (hM v2) (va_cwA (owner := x.cls) n hts ?_ rfl rfl rfl (hN _ u7) ⟨u2.1, u2.2, v4⟩ (hroom v2)) hpv rfl hlen rfl hst (lv_room hw) hd hf
      intro w hw2
      have key : ∀ w ∈ BG, w ∈ BG ∧ ((w.onTables && w.keeps) = true ∨ ∃ ty, w = .arrayClass ty) := fun w hw => ⟨hw, good_of_word (List.mem_filter.mp hw).2⟩
      simp only [va_wsU, List.cons_append, List.nil_append, List.mem_cons] at hw2
      rcases hw2 with rfl | rfl | rfl | rfl | rfl | hw2
      · exact key _ u3
      · exact key _ u4
      · exact key _ u5
      · exact key _ u6
      · exact key _ hm.2.2.2.2.2
      · exact bgood v2 w hw2
    | 4, v5, _ =>
      obtain ⟨u2, ⟨b0, m0, r0, u7⟩, u3, u4, u8, u5, u6⟩ := v5
      refine va_runU hfix (hM v2) (va_cwO (owner := x.cls) n hts ?_ rfl rfl rfl u7 ⟨u2.1, u2.2, v4⟩ (hroom v2)) hpv rfl hlen rfl hst (lv_room hw) hd hf
      intro w hw2
      have key : ∀ w ∈ BG, w ∈ BG ∧ ((w.onTables && w.keeps) = true ∨ ∃ ty, w = .arrayClass ty) := fun w hw => ⟨hw, good_of_word (List.mem_filter.mp hw).2⟩
      simp only [va_wsO, List.cons_append, List.nil_append, List.mem_cons] at hw2
      rcases hw2 with rfl | rfl | rfl | rfl | rfl | rfl | hw2
      · exact key _ u3
      · exact key _ u4
      · exact key _ u8
      · exact key _ u5
      · exact key _ u6
      · exact key _ hm.2.2.2.2.2
      · exact bgood v2 w hw2
    | n + 5, _, h => exact absurd h (by simp [Nat.ble_eq])
  | invokespecial i =>
    obtain ⟨a, ci, n, fs, kd, x, hh, ha, ho, ⟨v1, v2, v3, v4, v5⟩, hsp, hw, rfl, hrest, hst, hlen⟩ := hvirt i true hcl
    dsimp only at v1 v2 v3 v4 v5
    have hm := mtd_ok y v2
    have hpv : PreV s H (cin ci) a (PcM (.ref a :: (st.take n).reverse) h D cA n0) (st.take n).reverse := ⟨PcM.blind, va_recv hK (at_ref Y ho) (vwCl_at ci v1) (q0 := 0) rfl, fun U hU hW => hgo _ U hU hW⟩
    have hps : PreS s H (PcM (.ref a :: (st.take n).reverse) h D cA n0) (.ref a :: (st.take n).reverse) := ⟨PcM.blind, fun U hU hW => hgo _ U hU hW⟩
    match kd, v5, hsp with
    | 0, _, h => exact absurd h (by decide)
    | 1, _, h => exact absurd h (by decide)
    | 2, _, h => exact absurd h (by decide)
    | 3, _, h => exact absurd h (by decide)
    | 4, _, h => exact absurd h (by decide)
    | 5, v5, _ =>
      obtain ⟨u1, u2, u3⟩ := v5
      have hret := init_ret y v2 u1
      have hM' := hM v2
      unfold wM at hM'
      rw [hret] at hM'
      exact va_runI hfix hM' ⟨callB_of n hts (by have := bgood v2; unfold wM at this; rw [hret] at this; exact this) rfl rfl rfl (hts _ hm.2.2.2.2.2) (hts _ u2) ⟨hm.2.2.1.1, hm.2.2.1.2, v3⟩ (hroom v2), u1, hts _ u3⟩ hps rfl hlen rfl hst (lv_room hw) hd hf
    | 6, v5, _ =>
      obtain ⟨u1, u2, u3⟩ := v5
      have hret := init_ret y v2 u1
      have hM' := hM v2
      unfold wM at hM'
      rw [hret] at hM'
      exact va_runIN hfix hM' ⟨va_cnB n hts (by have := bgood v2; unfold wM at this; rw [hret] at this; exact this) rfl rfl rfl (hN _ u2) (hts _ hm.2.2.2.2.2) ⟨hm.2.2.1.1, hm.2.2.1.2, v3⟩ (hroom v2), u1, hts _ u3⟩ hps rfl hlen rfl hst (lv_room hw) hd hf
    | n' + 7, v5, _ =>
      obtain ⟨u1, u2, u3, u4, u5⟩ := v5
      refine va_runSU ((hK.1 ci _ (vwCl_at ci v1)).2) hfix (hM v2) (va_cwSU n hts ?_ rfl rfl rfl ⟨u1, v3⟩ (hroom v2)) hpv rfl hlen rfl hst (lv_room hw) hd hf
      intro w hw2
      have key : ∀ w ∈ BG, w ∈ BG ∧ ((w.onTables && w.keeps) = true ∨ ∃ ty, w = .arrayClass ty) := fun w hw => ⟨hw, good_of_word (List.mem_filter.mp hw).2⟩
      simp only [va_wsSU, List.cons_append, List.nil_append, List.mem_cons] at hw2
      rcases hw2 with rfl | rfl | rfl | rfl | rfl | hw2
      · exact key _ u2
      · exact key _ u3
      · exact key _ u4
      · exact key _ u5
      · exact key _ hm.2.2.2.2.2
      · exact bgood v2 w hw2
  | _ => simp only [cli] at hcl; cases hcl
end CALL
