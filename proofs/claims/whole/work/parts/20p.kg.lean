/-! the class: links closed, a state noted -/
theorem itr_rl {α : Type} {g : Nat → α → α} {P : α → α → Prop} {a b : α} (n : Nat) (h0 : P a b) (hs : ∀ k a b, k < n → P a b → P (g k a) (g k b)) : P (itr g a n) (itr g b n) := by
  induction n with
  | zero => exact h0
  | succ n ih =>
    rw [itr_s, itr_s]
    exact hs n _ _ (by omega) (ih (fun k a b hk => hs k a b (by omega)))
def eq16 (R R' : Nat → Int32) : Prop := ∀ p, p < 16 → R p = R' p
theorem clo_cg {R R' : Nat → Int32} (h : eq16 R R') : eq16 (clo R) (clo R') := by
  unfold clo
  refine itr_rl 16 h (fun b A B hb hAB => ?_)
  unfold cloB
  refine itr_rl 16 hAB (fun p A B hp hAB => ?_)
  unfold cloP
  rw [hAB p hp, hAB b hb]
  split
  · intro q hq
    unfold upd
    split
    · rfl
    · exact hAB q hq
  · exact hAB
def nN4 (c : WD) (i : Nat) : Nat → Int32 := fun j => wbt (c 4 j) (sb i) (tb (c (11 + 4 * i) (j / 256 * 16 + j % 256 / 16)) (j % 16))
def nN5 (c : WD) (i : Nat) : Nat → Int32 := fun j => wbt (c 5 j) (sb i) (tb (clo (fun p => c (11 + 4 * i) (j / 256 * 16 + p)) (j % 256 / 16)) (j % 16))
def w3 (c : WD) (A B R : Nat → Int32) : WD := wT (wT (wT c 4 A) 5 B) 6 R
theorem w3_4 (c : WD) (A B R : Nat → Int32) (j : Nat) : w3 c A B R 4 j = A j := rfl
theorem w3_5 (c : WD) (A B R : Nat → Int32) (j : Nat) : w3 c A B R 5 j = B j := rfl
theorem w3_6 (c : WD) (A B R : Nat → Int32) (j : Nat) : w3 c A B R 6 j = R j := rfl
theorem w3_o (c : WD) (A B R : Nat → Int32) {k : Nat} (j : Nat) (h : k < 4 ∨ 7 ≤ k) : w3 c A B R k j = c k j := by
  unfold w3
  rw [wT_off _ _ _ _ (by omega), wT_off _ _ _ _ (by omega), wT_off _ _ _ _ (by omega)]
theorem w3_u4 (c : WD) (A B R : Nat → Int32) (j : Nat) (z : Int32) : wU (w3 c A B R) 4 j z = w3 c (upd A j z) B R := by
  funext k i
  simp only [w3, wU_ap, wT, upd]
  by_cases h4 : k = 4
  · subst h4
    by_cases h : i = j <;> simp [h]
  · simp [h4]
theorem w3_u5 (c : WD) (A B R : Nat → Int32) (j : Nat) (z : Int32) : wU (w3 c A B R) 5 j z = w3 c A (upd B j z) R := by
  funext k i
  simp only [w3, wU_ap, wT, upd]
  by_cases h4 : k = 5
  · subst h4
    by_cases h : i = j <;> simp [h]
  · simp [h4]
theorem w3_T6 (c : WD) (A B R R' : Nat → Int32) : wT (w3 c A B R) 6 R' = w3 c A B R' := by
  funext k i
  simp only [w3, wT]
  split <;> rfl
def noW (c : WD) (i : Nat) (r : Bool) : WD := wT (wU c 1 4 (wbt (c 1 4) (sb i) r)) 3 (cop (c 3) (fun p => wbt (c 3 p) (sb i) (tb (c (8 + 4 * i) 5) p)) 16)
section KG
variable {f : Hf} {x d sz us n : Nat} {c : WD} {y : Nat → Int64} {v : VD} {tm : Nat → Option Nat}
theorem cpy_le {i k : Nat} (hi : i < 30) (hk : k < 3) : cpy (emC f x c y v tm (x + (11 + 4 * i))) (emC f x c y v tm (x + 6)) (nI (k * 16)) (nI 0) (nI 16) = some (.inl (0, 16, .inl (va_cpy (c (11 + 4 * i)) (c 6) (k * 16) 0 16))) := by
  rw [emC_le hi, emC_at f x c y v tm 6 (by omega)]
  show cpy (some (.inl (0, 48, .inl (c (11 + 4 * i))))) (some (.inl (0, 16, .inl (c 6)))) _ _ _ = _
  unfold cpy
  dsimp only
  rw [nI_clamp (by omega), nI_clamp (by omega), nI_clamp (by omega), nI_toInt (by omega), nI_toInt (by omega), nI_toInt (by omega)]
  exact if_pos ⟨by omega, rfl, by omega, by omega, by omega, by omega, by omega, fun q => by omega⟩
theorem hup_6 {T : Nat → Int32} : hup (emC f x c y v tm) (x + 6) (.inl (0, 16, .inl T)) = emC f x (wT c 6 T) y v tm := by
  refine emC_up (k := 6) (by omega) ?_ (fun j hj hjk => cce_c (by funext q; exact wT_off _ _ _ _ hjk))
  rfl
theorem K_closeLinks {i k : Nat} (hi : i < 30) (hk : k < 3) : Ev (d + 1) 32 0 [some (.ref (x + (8 + 4 * i))), some (.int (nI k)), some (.ref (x + 6)), none, none] [] (sz, us, emC f x c y v tm) = some (none, (sz, us, emC f x (wT c 6 (clo (va_cpy (c (11 + 4 * i)) (c 6) (k * 16) 0 16))) y v tm)) := by
  simp (maxSteps := 2000000) (disch := first | omega | with_reducible assumption | exact cobP | exact cobX | exact cobS (by omega) | exact bI_01 _ | exact Or.inl rfl | exact Or.inr rfl | (simp (decide := true) only [wid_0, wid_i, wid_l, wid_r, wid_n]; done) | decide | fail) only [s32_0, s32_1, s32_4, s32_5, s32_7, s32_8, s32_9, s32_10, Option.bind_some, Option.bind_none, Option.toList_some, Option.toList_none, List.cons_append, List.nil_append, clr_i, clr_r, clr_l, clr_n, nI_add, nsub, pk_mul, nle_F, nle_T, nlt_F, nlt_T, neq_F, nz_F, nz_T, nneg_F, npos_T, npos_lF, npos_lT, nle0_F, m1_neg, m1_pos, m1_z, neq_m1, m1_neq, ↓reduceIte, if_true, if_false, not_true_eq_false, not_false_eq_true, bI_eq0, Bool.true_eq_false, Bool.false_eq_true, true_and, and_true, false_and, and_false, true_or, or_true, false_or, or_false, decide_true, decide_false, Bool.and_self, Bool.true_and, Bool.and_true, Bool.false_and, Bool.and_false, Bool.true_or, Bool.or_true, Bool.false_or, Bool.or_false, Bool.not_true, Bool.not_false, g_8_18_7]
  rw [s32_12 (e := .inl (0, 16, .inl (va_cpy (c (11 + 4 * i)) (c 6) (k * 16) 0 16))) (by decide) (cpy_le hi hk), hup_6]
  simp (maxSteps := 2000000) (disch := first | omega | with_reducible assumption | exact cobP | exact cobX | exact cobS (by omega) | exact bI_01 _ | exact Or.inl rfl | exact Or.inr rfl | (simp (decide := true) only [wid_0, wid_i, wid_l, wid_r, wid_n]; done) | decide | fail) only [s32_15, s32_16, Option.bind_some, Option.bind_none, Option.toList_some, Option.toList_none, List.cons_append, List.nil_append, clr_i, clr_r, clr_l, clr_n]
  generalize va_cpy (c (11 + 4 * i)) (c 6) (k * 16) 0 16 = R0
  obtain ⟨j, key⟩ := loopA (fun b (j : Option Value) => Ev (d + 1) 32 17 [some (.ref (x + (8 + 4 * i))), some (.int (nI k)), some (.ref (x + 6)), some (.int (nI b)), j] [] (sz, us, emC f x (wT c 6 (itr cloB R0 b)) y v tm)) 16 (fun b hb j => by
    refine ⟨some (.int (nI 16)), ?_⟩
    show Ev _ _ _ _ _ _ = Ev _ _ _ _ _ (_, _, emC f x (wT c 6 (cloB b (itr cloB R0 b))) y v tm)
    generalize itr cloB R0 b = R
    rw [s32_17]
    simp (maxSteps := 2000000) (disch := first | omega | with_reducible assumption | exact cobP | exact cobX | exact cobS (by omega) | exact bI_01 _ | exact Or.inl rfl | exact Or.inr rfl | (simp (decide := true) only [wid_0, wid_i, wid_l, wid_r, wid_n]; done) | decide | fail) only [s32_18, s32_20, s32_23, s32_24, Option.bind_some, Option.bind_none, Option.toList_some, Option.toList_none, List.cons_append, List.nil_append, clr_i, clr_r, clr_l, clr_n, nI_add, nsub, pk_mul, nle_F, nle_T, nlt_F, nlt_T, neq_F, nz_F, nz_T, nneg_F, npos_T, npos_lF, npos_lT, nle0_F, m1_neg, m1_pos, m1_z, neq_m1, m1_neq, ↓reduceIte, if_true, if_false, not_true_eq_false, not_false_eq_true, bI_eq0, Bool.true_eq_false, Bool.false_eq_true, true_and, and_true, false_and, and_false, true_or, or_true, false_or, or_false, decide_true, decide_false, Bool.and_self, Bool.true_and, Bool.and_true, Bool.false_and, Bool.and_false, Bool.true_or, Bool.or_true, Bool.false_or, Bool.or_false, Bool.not_true, Bool.not_false]
    have ik := loopE (fun p => Ev (d + 1) 32 26 [some (.ref (x + (8 + 4 * i))), some (.int (nI k)), some (.ref (x + 6)), some (.int (nI b)), some (.int (nI p))] [] (sz, us, emC f x (wT c 6 (itr (cloP b) R p)) y v tm)) 16 (fun p hp => by
      show Ev _ _ _ _ _ _ = Ev _ _ _ _ _ (_, _, emC f x (wT c 6 (cloP b p (itr (cloP b) R p))) y v tm)
      generalize itr (cloP b) R p = Q
      unfold cloP
      have e6 : ∀ j, wT c 6 Q 6 j = Q j := fun j => wT_at c 6 Q j
      rw [s32_26]
      by_cases h : tb (Q p) b = true
      · rw [if_pos h, ← wT_up]
        generalize wT c 6 Q = c2 at e6 ⊢
        simp (maxSteps := 2000000) (disch := first | omega | with_reducible assumption | exact cobP | exact cobX | exact cobS (by omega) | exact bI_01 _ | exact Or.inl rfl | exact Or.inr rfl | (simp (decide := true) only [wid_0, wid_i, wid_l, wid_r, wid_n]; done) | decide | fail) only [s32_28, s32_30, s32_33, s32_34, s32_35, s32_37, s32_38, s32_41, s32_44, s32_45, s32_47, s32_48, s32_49, s32_50, s32_51, s32_52, s32_53, s32_54, s32_57, Option.bind_some, Option.bind_none, Option.toList_some, Option.toList_none, List.cons_append, List.nil_append, clr_i, clr_r, clr_l, clr_n, nI_add, nsub, pk_mul, nle_F, nle_T, nlt_F, nlt_T, neq_F, nz_F, nz_T, nneg_F, npos_T, npos_lF, npos_lT, nle0_F, m1_neg, m1_pos, m1_z, neq_m1, m1_neq, ↓reduceIte, if_true, if_false, not_true_eq_false, not_false_eq_true, bI_eq0, Bool.true_eq_false, Bool.false_eq_true, true_and, and_true, false_and, and_false, true_or, or_true, false_or, or_false, decide_true, decide_false, Bool.and_self, Bool.true_and, Bool.and_true, Bool.false_and, Bool.and_false, Bool.true_or, Bool.or_true, Bool.false_or, Bool.or_false, Bool.not_true, Bool.not_false, aC_6, bC_6, uC_6, K_isIn, e6, h]
      · have h' : tb (Q p) b = false := by simpa using h
        rw [if_neg h]
        generalize wT c 6 Q = c2 at e6 ⊢
        simp (maxSteps := 2000000) (disch := first | omega | with_reducible assumption | exact cobP | exact cobX | exact cobS (by omega) | exact bI_01 _ | exact Or.inl rfl | exact Or.inr rfl | (simp (decide := true) only [wid_0, wid_i, wid_l, wid_r, wid_n]; done) | decide | fail) only [s32_28, s32_30, s32_33, s32_34, s32_35, s32_37, s32_38, s32_41, s32_44, s32_45, s32_47, s32_48, s32_49, s32_50, s32_51, s32_52, s32_53, s32_54, s32_57, Option.bind_some, Option.bind_none, Option.toList_some, Option.toList_none, List.cons_append, List.nil_append, clr_i, clr_r, clr_l, clr_n, nI_add, nsub, pk_mul, nle_F, nle_T, nlt_F, nlt_T, neq_F, nz_F, nz_T, nneg_F, npos_T, npos_lF, npos_lT, nle0_F, m1_neg, m1_pos, m1_z, neq_m1, m1_neq, ↓reduceIte, if_true, if_false, not_true_eq_false, not_false_eq_true, bI_eq0, Bool.true_eq_false, Bool.false_eq_true, true_and, and_true, false_and, and_false, true_or, or_true, false_or, or_false, decide_true, decide_false, Bool.and_self, Bool.true_and, Bool.and_true, Bool.false_and, Bool.and_false, Bool.true_or, Bool.or_true, Bool.false_or, Bool.or_false, Bool.not_true, Bool.not_false, aC_6, bC_6, uC_6, K_isIn, e6, h'])
    refine Eq.trans ik ?_
    show Ev _ _ _ _ _ (_, _, emC f x (wT c 6 (cloB b R)) y v tm) = _
    rw [s32_26]
    simp (maxSteps := 2000000) (disch := first | omega | with_reducible assumption | exact cobP | exact cobX | exact cobS (by omega) | exact bI_01 _ | exact Or.inl rfl | exact Or.inr rfl | (simp (decide := true) only [wid_0, wid_i, wid_l, wid_r, wid_n]; done) | decide | fail) only [s32_28, s32_30, s32_60, s32_63, Option.bind_some, Option.bind_none, Option.toList_some, Option.toList_none, List.cons_append, List.nil_append, clr_i, clr_r, clr_l, clr_n, nI_add, nsub, pk_mul, nle_F, nle_T, nlt_F, nlt_T, neq_F, nz_F, nz_T, nneg_F, npos_T, npos_lF, npos_lT, nle0_F, m1_neg, m1_pos, m1_z, neq_m1, m1_neq, ↓reduceIte, if_true, if_false, not_true_eq_false, not_false_eq_true, bI_eq0, Bool.true_eq_false, Bool.false_eq_true, true_and, and_true, false_and, and_false, true_or, or_true, false_or, or_false, decide_true, decide_false, Bool.and_self, Bool.true_and, Bool.and_true, Bool.false_and, Bool.and_false, Bool.true_or, Bool.or_true, Bool.false_or, Bool.or_false, Bool.not_true, Bool.not_false]) none
  refine Eq.trans key ?_
  show Ev _ _ _ _ _ (_, _, emC f x (wT c 6 (clo R0)) y v tm) = _
  rw [s32_17]
  simp (maxSteps := 2000000) (disch := first | omega | with_reducible assumption | exact cobP | exact cobX | exact cobS (by omega) | exact bI_01 _ | exact Or.inl rfl | exact Or.inr rfl | (simp (decide := true) only [wid_0, wid_i, wid_l, wid_r, wid_n]; done) | decide | fail) only [s32_18, s32_20, s32_66 (st := []), Option.bind_some, Option.bind_none, Option.toList_some, Option.toList_none, List.cons_append, List.nil_append, clr_i, clr_r, clr_l, clr_n, nI_add, nsub, pk_mul, nle_F, nle_T, nlt_F, nlt_T, neq_F, nz_F, nz_T, nneg_F, npos_T, npos_lF, npos_lT, nle0_F, m1_neg, m1_pos, m1_z, neq_m1, m1_neq, ↓reduceIte, if_true, if_false, not_true_eq_false, not_false_eq_true, bI_eq0, Bool.true_eq_false, Bool.false_eq_true, true_and, and_true, false_and, and_false, true_or, or_true, false_or, or_false, decide_true, decide_false, Bool.and_self, Bool.true_and, Bool.and_true, Bool.false_and, Bool.and_false, Bool.true_or, Bool.or_true, Bool.false_or, Bool.or_false, Bool.not_true, Bool.not_false]
theorem K_noteState {i : Nat} {r : Bool} (hi : i < 30) (hr : c (8 + 4 * i) 4 = bI r) : ∃ R, Ev (d + 3) 33 0 [some (.ref (x + 1)), some (.ref (x + (8 + 4 * i))), some (.int (sb i)), none, none, none, none, none] [] (sz, us, emC f x c y v tm) = some (none, (sz, us, emC f x (w3 (noW c i r) (cop (c 4) (nN4 c i) 768) (cop (c 5) (nN5 c i) 768) R) y v tm)) := by
  simp (maxSteps := 2000000) (disch := first | omega | with_reducible assumption | exact cobP | exact cobX | exact cobS (by omega) | exact bI_01 _ | exact Or.inl rfl | exact Or.inr rfl | (simp (decide := true) only [wid_0, wid_i, wid_l, wid_r, wid_n]; done) | decide | fail) only [s33_0, s33_1, s33_2, s33_5, s33_6, s33_7, s33_10, s33_13, s33_16, s33_17, Option.bind_some, Option.bind_none, Option.toList_some, Option.toList_none, List.cons_append, List.nil_append, clr_i, clr_r, clr_l, clr_n, nI_add, nsub, pk_mul, nle_F, nle_T, nlt_F, nlt_T, neq_F, nz_F, nz_T, nneg_F, npos_T, npos_lF, npos_lT, nle0_F, m1_neg, m1_pos, m1_z, neq_m1, m1_neq, ↓reduceIte, if_true, if_false, not_true_eq_false, not_false_eq_true, bI_eq0, Bool.true_eq_false, Bool.false_eq_true, true_and, and_true, false_and, and_false, true_or, or_true, false_or, or_false, decide_true, decide_false, Bool.and_self, Bool.true_and, Bool.and_true, Bool.false_and, Bool.and_false, Bool.true_or, Bool.or_true, Bool.false_or, Bool.or_false, Bool.not_true, Bool.not_false, g_3_69_2, g_3_72_7, p_3_69_2, g_3_17_2, g_3_27_2, g_3_21_2, g_3_88_7, g_3_24_2, h_X3, hr, K_withBit]
  unfold noW
  have e0 : wU c 1 4 (wbt (c 1 4) (sb i) r) 3 = c 3 := wU_off (by omega)
  have e4 : wU c 1 4 (wbt (c 1 4) (sb i) r) 4 = c 4 := wU_off (by omega)
  have e5 : wU c 1 4 (wbt (c 1 4) (sb i) r) 5 = c 5 := wU_off (by omega)
  have e8 : wU c 1 4 (wbt (c 1 4) (sb i) r) (8 + 4 * i) 5 = c (8 + 4 * i) 5 := by rw [wU_off (by omega)]
  have e11 : wU c 1 4 (wbt (c 1 4) (sb i) r) (11 + 4 * i) = c (11 + 4 * i) := wU_off (by omega)
  generalize wU c 1 4 (wbt (c 1 4) (sb i) r) = c1 at *
  have k1 := loopE (fun p => Ev (d + 3) 33 18 [some (.ref (x + 1)), some (.ref (x + (8 + 4 * i))), some (.int (sb i)), some (.int (nI p)), none, none, none, none] [] (sz, us, emC f x (wT c1 3 (cop (c 3) (fun p => wbt (c 3 p) (sb i) (tb (c (8 + 4 * i) 5) p)) p)) y v tm)) 16 (fun p hp => by
    show Ev _ _ _ _ _ _ = Ev _ _ _ _ _ _
    rw [← cop_s, ← wT_up]
    have ea : wT c1 3 (cop (c 3) (fun p => wbt (c 3 p) (sb i) (tb (c (8 + 4 * i) 5) p)) p) 3 p = c 3 p := by rw [wT_at, cop_at]
    have eb : wT c1 3 (cop (c 3) (fun p => wbt (c 3 p) (sb i) (tb (c (8 + 4 * i) 5) p)) p) (8 + 4 * i) 5 = c (8 + 4 * i) 5 := by rw [wT_off _ _ _ _ (by omega), e8]
    generalize wT c1 3 (cop (c 3) (fun p => wbt (c 3 p) (sb i) (tb (c (8 + 4 * i) 5) p)) p) = c2 at ea eb ⊢
    rw [s33_18]
    simp (maxSteps := 2000000) (disch := first | omega | with_reducible assumption | exact cobP | exact cobX | exact cobS (by omega) | exact bI_01 _ | exact Or.inl rfl | exact Or.inr rfl | (simp (decide := true) only [wid_0, wid_i, wid_l, wid_r, wid_n]; done) | decide | fail) only [s33_19, s33_21, s33_24, s33_25, s33_28, s33_29, s33_30, s33_33, s33_34, s33_35, s33_36, s33_37, s33_38, s33_41, s33_44, s33_45, s33_48, Option.bind_some, Option.bind_none, Option.toList_some, Option.toList_none, List.cons_append, List.nil_append, clr_i, clr_r, clr_l, clr_n, nI_add, nsub, pk_mul, nle_F, nle_T, nlt_F, nlt_T, neq_F, nz_F, nz_T, nneg_F, npos_T, npos_lF, npos_lT, nle0_F, m1_neg, m1_pos, m1_z, neq_m1, m1_neq, ↓reduceIte, if_true, if_false, not_true_eq_false, not_false_eq_true, bI_eq0, Bool.true_eq_false, Bool.false_eq_true, true_and, and_true, false_and, and_false, true_or, or_true, false_or, or_false, decide_true, decide_false, Bool.and_self, Bool.true_and, Bool.and_true, Bool.false_and, Bool.and_false, Bool.true_or, Bool.or_true, Bool.false_or, Bool.or_false, Bool.not_true, Bool.not_false, g_3_69_2, g_3_72_7, p_3_69_2, g_3_17_2, g_3_27_2, g_3_21_2, g_3_88_7, g_3_24_2, aC_3, bC_3, uC_3, K_has, K_withBit, ea, eb])
  rw [cop_0] at k1
  have e1 : wT c1 3 (c 3) = c1 := by rw [← e0]; exact wT_self _ _
  rw [e1] at k1
  have f4 : wT c1 3 (cop (c 3) (fun p => wbt (c 3 p) (sb i) (tb (c (8 + 4 * i) 5) p)) 16) 4 = c 4 := by funext q; rw [wT_off _ _ _ _ (by omega), e4]
  have f5 : wT c1 3 (cop (c 3) (fun p => wbt (c 3 p) (sb i) (tb (c (8 + 4 * i) 5) p)) 16) 5 = c 5 := by funext q; rw [wT_off _ _ _ _ (by omega), e5]
  have f11 : wT c1 3 (cop (c 3) (fun p => wbt (c 3 p) (sb i) (tb (c (8 + 4 * i) 5) p)) 16) (11 + 4 * i) = c (11 + 4 * i) := by funext q; rw [wT_off _ _ _ _ (by omega), e11]
  generalize wT c1 3 (cop (c 3) (fun p => wbt (c 3 p) (sb i) (tb (c (8 + 4 * i) 5) p)) 16) = c2 at *
  have k2 : Ev (d + 3) 33 18 [some (.ref (x + 1)), some (.ref (x + (8 + 4 * i))), some (.int (sb i)), some (.int (nI 16)), none, none, none, none] [] (sz, us, emC f x c2 y v tm) = Ev (d + 3) 33 53 [some (.ref (x + 1)), some (.ref (x + (8 + 4 * i))), some (.int (sb i)), some (.int (nI 0)), none, none, none, none] [] (sz, us, emC f x c2 y v tm) := by
    rw [s33_18]
    simp (maxSteps := 2000000) (disch := first | omega | with_reducible assumption | exact cobP | exact cobX | exact cobS (by omega) | exact bI_01 _ | exact Or.inl rfl | exact Or.inr rfl | (simp (decide := true) only [wid_0, wid_i, wid_l, wid_r, wid_n]; done) | decide | fail) only [s33_19, s33_21, s33_51, s33_52, Option.bind_some, Option.bind_none, Option.toList_some, Option.toList_none, List.cons_append, List.nil_append, clr_i, clr_r, clr_l, clr_n, nI_add, nsub, pk_mul, nle_F, nle_T, nlt_F, nlt_T, neq_F, nz_F, nz_T, nneg_F, npos_T, npos_lF, npos_lT, nle0_F, m1_neg, m1_pos, m1_z, neq_m1, m1_neq, ↓reduceIte, if_true, if_false, not_true_eq_false, not_false_eq_true, bI_eq0, Bool.true_eq_false, Bool.false_eq_true, true_and, and_true, false_and, and_false, true_or, or_true, false_or, or_false, decide_true, decide_false, Bool.and_self, Bool.true_and, Bool.and_true, Bool.false_and, Bool.and_false, Bool.true_or, Bool.or_true, Bool.false_or, Bool.or_false, Bool.not_true, Bool.not_false]
  have w30 : c2 = w3 c2 (cop (c 4) (nN4 c i) 0) (cop (c 5) (nN5 c i) 0) (c2 6) := by
    rw [cop_0, cop_0, ← f4, ← f5]
    unfold w3
    rw [wT_self, wT_self, wT_self]
  obtain ⟨⟨R, j4, j5, j6, j7⟩, key⟩ := loopA (fun k (s : (Nat → Int32) × Option Value × Option Value × Option Value × Option Value) => Ev (d + 3) 33 53 [some (.ref (x + 1)), some (.ref (x + (8 + 4 * i))), some (.int (sb i)), some (.int (nI k)), s.2.1, s.2.2.1, s.2.2.2.1, s.2.2.2.2] [] (sz, us, emC f x (w3 c2 (cop (c 4) (nN4 c i) (k * 256)) (cop (c 5) (nN5 c i) (k * 256)) s.1) y v tm)) 3 (fun k hk s => by
    obtain ⟨R, j4, j5, j6, j7⟩ := s
    have g11 : ∀ A B R, w3 c2 A B R (11 + 4 * i) = c (11 + 4 * i) := fun A B R => by funext q; rw [w3_o _ _ _ _ _ (by omega), f11]
    have hR : eq16 (clo (va_cpy (c (11 + 4 * i)) R (k * 16) 0 16)) (clo (fun p => c (11 + 4 * i) (k * 16 + p))) := clo_cg (fun p hp => by rw [pk_cpy_in (by omega) (by omega), Nat.sub_zero])
    have h66 : ∀ A B R, w3 c2 A B R 6 = R := fun A B R => rfl
    have p1 : Ev (d + 3) 33 53 [some (.ref (x + 1)), some (.ref (x + (8 + 4 * i))), some (.int (sb i)), some (.int (nI k)), j4, j5, j6, j7] [] (sz, us, emC f x (w3 c2 (cop (c 4) (nN4 c i) (k * 256)) (cop (c 5) (nN5 c i) (k * 256)) R) y v tm) = Ev (d + 3) 33 70 [some (.ref (x + 1)), some (.ref (x + (8 + 4 * i))), some (.int (sb i)), some (.int (nI k)), some (.int (nI 0)), j5, j6, j7] [] (sz, us, emC f x (w3 c2 (cop (c 4) (nN4 c i) (k * 256 + 0)) (cop (c 5) (nN5 c i) (k * 256 + 0)) (clo (va_cpy (c (11 + 4 * i)) R (k * 16) 0 16))) y v tm) := by
      rw [s33_53]
      simp (maxSteps := 2000000) (disch := first | omega | with_reducible assumption | exact cobP | exact cobX | exact cobS (by omega) | exact bI_01 _ | exact Or.inl rfl | exact Or.inr rfl | (simp (decide := true) only [wid_0, wid_i, wid_l, wid_r, wid_n]; done) | decide | fail) only [s33_54, s33_55, s33_58, s33_59, s33_60, s33_61, s33_64, s33_67, s33_68, Option.bind_some, Option.bind_none, Option.toList_some, Option.toList_none, List.cons_append, List.nil_append, clr_i, clr_r, clr_l, clr_n, nI_add, nsub, pk_mul, nle_F, nle_T, nlt_F, nlt_T, neq_F, nz_F, nz_T, nneg_F, npos_T, npos_lF, npos_lT, nle0_F, m1_neg, m1_pos, m1_z, neq_m1, m1_neq, ↓reduceIte, if_true, if_false, not_true_eq_false, not_false_eq_true, bI_eq0, Bool.true_eq_false, Bool.false_eq_true, true_and, and_true, false_and, and_false, true_or, or_true, false_or, or_false, decide_true, decide_false, Bool.and_self, Bool.true_and, Bool.and_true, Bool.false_and, Bool.and_false, Bool.true_or, Bool.or_true, Bool.false_or, Bool.or_false, Bool.not_true, Bool.not_false, g_3_69_2, g_3_72_7, p_3_69_2, g_3_17_2, g_3_27_2, g_3_21_2, g_3_88_7, g_3_24_2, K_closeLinks, w3_T6, g11, h66, Nat.add_zero]
    generalize clo (va_cpy (c (11 + 4 * i)) R (k * 16) 0 16) = Q at hR p1
    obtain ⟨⟨i5, i6, i7⟩, ik⟩ := loopA (fun o (s : Option Value × Option Value × Option Value) => Ev (d + 3) 33 70 [some (.ref (x + 1)), some (.ref (x + (8 + 4 * i))), some (.int (sb i)), some (.int (nI k)), some (.int (nI o)), s.1, s.2.1, s.2.2] [] (sz, us, emC f x (w3 c2 (cop (c 4) (nN4 c i) (k * 256 + o)) (cop (c 5) (nN5 c i) (k * 256 + o)) Q) y v tm)) 256 (fun o ho s => by
      obtain ⟨j5, j6, j7⟩ := s
      refine ⟨(some (.int (nI (o / 16))), some (.int (nI (o % 16))), some (.int (nI (k * 256 + o)))), ?_⟩
      show Ev _ _ _ [_, _, _, _, _, j5, j6, j7] _ _ = Ev _ _ _ [_, _, _, _, _, some (.int (nI (o / 16))), some (.int (nI (o % 16))), some (.int (nI (k * 256 + o)))] _ _
      rw [← Nat.add_assoc (k * 256) o 1, ← cop_s (c 4) (nN4 c i) (k * 256 + o), ← cop_s (c 5) (nN5 c i) (k * 256 + o), ← w3_u5, ← w3_u4]
      have v4 : nN4 c i (k * 256 + o) = wbt (c 4 (k * 256 + o)) (sb i) (tb (c (11 + 4 * i) (k * 16 + o / 16)) (o % 16)) := by
        unfold nN4
        rw [show (k * 256 + o) / 256 = k by omega, show (k * 256 + o) % 256 = o by omega, show (k * 256 + o) % 16 = o % 16 by omega]
      have v5 : nN5 c i (k * 256 + o) = wbt (c 5 (k * 256 + o)) (sb i) (tb (Q (o / 16)) (o % 16)) := by
        unfold nN5
        rw [show (k * 256 + o) / 256 = k by omega, show (k * 256 + o) % 256 = o by omega, show (k * 256 + o) % 16 = o % 16 by omega, hR _ (by omega)]
      rw [v4, v5]
      have ea : w3 c2 (cop (c 4) (nN4 c i) (k * 256 + o)) (cop (c 5) (nN5 c i) (k * 256 + o)) Q 4 (k * 256 + o) = c 4 (k * 256 + o) := by rw [w3_4, cop_at]
      have eb : w3 c2 (cop (c 4) (nN4 c i) (k * 256 + o)) (cop (c 5) (nN5 c i) (k * 256 + o)) Q 5 (k * 256 + o) = c 5 (k * 256 + o) := by rw [w3_5, cop_at]
      have ec : ∀ q, w3 c2 (cop (c 4) (nN4 c i) (k * 256 + o)) (cop (c 5) (nN5 c i) (k * 256 + o)) Q 6 q = Q q := fun q => w3_6 _ _ _ _ _
      have ed : ∀ q, w3 c2 (cop (c 4) (nN4 c i) (k * 256 + o)) (cop (c 5) (nN5 c i) (k * 256 + o)) Q (11 + 4 * i) q = c (11 + 4 * i) q := fun q => by rw [g11]
      generalize w3 c2 (cop (c 4) (nN4 c i) (k * 256 + o)) (cop (c 5) (nN5 c i) (k * 256 + o)) Q = c3 at ea eb ec ed ⊢
      have eb' : ∀ z, wU c3 4 (k * 256 + o) z 5 (k * 256 + o) = c 5 (k * 256 + o) := fun z => by rw [wU_off (by omega), eb]
      have ec' : ∀ z q, wU c3 4 (k * 256 + o) z 6 q = Q q := fun z q => by rw [wU_off (by omega), ec]
      have ho16 : o / 16 * 16 ≤ o := by omega
      have hr := div16 o (by omega)
      have hm : o - o / 16 * 16 = o % 16 := rem16
      have hp1 : k * 256 + o < 768 := by omega
      have hp2 : k * 16 + o / 16 < 48 := by omega
      rw [s33_70]
      simp (maxSteps := 2000000) (disch := first | omega | with_reducible assumption | exact cobP | exact cobX | exact cobS (by omega) | exact bI_01 _ | exact Or.inl rfl | exact Or.inr rfl | (simp (decide := true) only [wid_0, wid_i, wid_l, wid_r, wid_n]; done) | decide | fail) only [s33_72, s33_75, s33_78, s33_80, s33_82, s33_83, s33_85, s33_87, s33_89, s33_90, s33_92, s33_93, s33_96, s33_97, s33_99, s33_100, s33_102, s33_103, s33_106, s33_108, s33_109, s33_112, s33_114, s33_115, s33_116, s33_118, s33_119, s33_122, s33_123, s33_125, s33_126, s33_128, s33_129, s33_130, s33_133, s33_136, s33_137, s33_138, s33_141, s33_143, s33_144, s33_147, s33_149, s33_150, s33_151, s33_153, s33_154, s33_157, s33_159, s33_160, s33_163, s33_166, s33_167, s33_170, Option.bind_some, Option.bind_none, Option.toList_some, Option.toList_none, List.cons_append, List.nil_append, clr_i, clr_r, clr_l, clr_n, nI_add, nsub, pk_mul, nle_F, nle_T, nlt_F, nlt_T, neq_F, nz_F, nz_T, nneg_F, npos_T, npos_lF, npos_lT, nle0_F, m1_neg, m1_pos, m1_z, neq_m1, m1_neq, ↓reduceIte, if_true, if_false, not_true_eq_false, not_false_eq_true, bI_eq0, Bool.true_eq_false, Bool.false_eq_true, true_and, and_true, false_and, and_false, true_or, or_true, false_or, or_false, decide_true, decide_false, Bool.and_self, Bool.true_and, Bool.and_true, Bool.false_and, Bool.and_false, Bool.true_or, Bool.or_true, Bool.false_or, Bool.or_false, Bool.not_true, Bool.not_false, g_3_69_2, g_3_72_7, p_3_69_2, g_3_17_2, g_3_27_2, g_3_21_2, g_3_88_7, g_3_24_2, aC_4, bC_4, uC_4, aC_5, bC_5, uC_5, aC_6, a_le, K_isIn, K_withBit, hr, hm, ea, eb', ec', ed]) (j5, j6, j7)
    refine ⟨(Q, some (.int (nI 256)), i5, i6, i7), p1.trans (Eq.trans ik ?_)⟩
    show Ev _ _ _ [_, _, _, _, _, i5, i6, i7] _ _ = Ev _ _ _ [_, _, _, some (.int (nI (k + 1))), some (.int (nI 256)), i5, i6, i7] _ _
    rw [show (k + 1) * 256 = k * 256 + 256 by omega, s33_70]
    simp (maxSteps := 2000000) (disch := first | omega | with_reducible assumption | exact cobP | exact cobX | exact cobS (by omega) | exact bI_01 _ | exact Or.inl rfl | exact Or.inr rfl | (simp (decide := true) only [wid_0, wid_i, wid_l, wid_r, wid_n]; done) | decide | fail) only [s33_72, s33_75, s33_173, s33_176, Option.bind_some, Option.bind_none, Option.toList_some, Option.toList_none, List.cons_append, List.nil_append, clr_i, clr_r, clr_l, clr_n, nI_add, nsub, pk_mul, nle_F, nle_T, nlt_F, nlt_T, neq_F, nz_F, nz_T, nneg_F, npos_T, npos_lF, npos_lT, nle0_F, m1_neg, m1_pos, m1_z, neq_m1, m1_neq, ↓reduceIte, if_true, if_false, not_true_eq_false, not_false_eq_true, bI_eq0, Bool.true_eq_false, Bool.false_eq_true, true_and, and_true, false_and, and_false, true_or, or_true, false_or, or_false, decide_true, decide_false, Bool.and_self, Bool.true_and, Bool.and_true, Bool.false_and, Bool.and_false, Bool.true_or, Bool.or_true, Bool.false_or, Bool.or_false, Bool.not_true, Bool.not_false]) (c2 6, none, none, none, none)
  refine ⟨R, k1.trans (k2.trans ?_)⟩
  have e := congrArg (fun z => Ev (d + 3) 33 53 [some (.ref (x + 1)), some (.ref (x + (8 + 4 * i))), some (.int (sb i)), some (.int (nI 0)), none, none, none, none] [] (sz, us, emC f x z y v tm)) w30
  refine Eq.trans e (Eq.trans key ?_)
  show Ev _ _ _ [_, _, _, _, j4, j5, j6, j7] _ _ = _
  rw [s33_53]
  simp (maxSteps := 2000000) (disch := first | omega | with_reducible assumption | exact cobP | exact cobX | exact cobS (by omega) | exact bI_01 _ | exact Or.inl rfl | exact Or.inr rfl | (simp (decide := true) only [wid_0, wid_i, wid_l, wid_r, wid_n]; done) | decide | fail) only [s33_54, s33_55, s33_179 (st := []), Option.bind_some, Option.bind_none, Option.toList_some, Option.toList_none, List.cons_append, List.nil_append, clr_i, clr_r, clr_l, clr_n, nI_add, nsub, pk_mul, nle_F, nle_T, nlt_F, nlt_T, neq_F, nz_F, nz_T, nneg_F, npos_T, npos_lF, npos_lT, nle0_F, m1_neg, m1_pos, m1_z, neq_m1, m1_neq, ↓reduceIte, if_true, if_false, not_true_eq_false, not_false_eq_true, bI_eq0, Bool.true_eq_false, Bool.false_eq_true, true_and, and_true, false_and, and_false, true_or, or_true, false_or, or_false, decide_true, decide_false, Bool.and_self, Bool.true_and, Bool.and_true, Bool.false_and, Bool.and_false, Bool.true_or, Bool.or_true, Bool.false_or, Bool.or_false, Bool.not_true, Bool.not_false]
end KG
