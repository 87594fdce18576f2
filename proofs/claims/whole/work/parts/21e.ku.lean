/-! the class: trailing zeros; told, refusals of rows -/
def ntS (k m : Nat) (s : Int32 × Int32) : Int32 × Int32 := if nI m < s.1 then (usr s.1 k, s.2 + nI k) else s
def ntF (y : Int32) : Int32 := if 0 < y then (ntS 2 4 (ntS 4 16 (ntS 8 256 (ntS 16 65536 (y, nI 1))))).2 + usr (ntS 2 4 (ntS 4 16 (ntS 8 256 (ntS 16 65536 (y, nI 1))))).1 1 else y &&& nI 32
theorem ntF_ok : ∀ t, t < 31 → ntF (nI (2 ^ t - 1)) = nI t := by decide +kernel
/-- the lowest bit of s -/
def lowB (s : Int32) (t : Nat) : Prop := tb s t = true ∧ ∀ j, j < t → tb s j = false
theorem lowB_ex {s : Int32} (h : ¬ s = 0) : ∃ t, t < 32 ∧ lowB s t := by
  have h1 : ¬ ∀ k, k < 32 → tb s k = false := fun q => h (i32_0.mpr q)
  have h2 : ∃ k, k < 32 ∧ tb s k = true := by
    refine Classical.byContradiction fun q => h1 (fun k hk => ?_)
    cases e : tb s k with
    | false => rfl
    | true => exact absurd ⟨k, hk, e⟩ q
  obtain ⟨k, hk, e⟩ := h2
  induction k using Nat.strongRecOn with
  | _ k ih =>
    by_cases q : ∃ j, j < k ∧ tb s j = true
    · obtain ⟨j, hj, ej⟩ := q
      exact ih j hj (by omega) ej
    · refine ⟨k, hk, e, fun j hj => ?_⟩
      cases ej : tb s j with
      | false => rfl
      | true => exact absurd ⟨j, hj, ej⟩ q
theorem lowB_mod {s : Int32} {t : Nat} (h : lowB s t) : uN s % 2 ^ t = 0 := by
  apply Nat.eq_of_testBit_eq
  intro j
  rw [Nat.testBit_mod_two_pow, Nat.zero_testBit]
  by_cases q : j < t
  · have : (uN s).testBit j = false := h.2 j q
    simp [this]
  · simp [q]
theorem lowB_pred {s : Int32} {t : Nat} (ht : t < 32) (h : lowB s t) : (s ^^^ (-1)) &&& (s - nI 1) = nI (2 ^ t - 1) := by
  have hp := Nat.two_pow_pos t
  have hle : 2 ^ t ≤ 2 ^ 31 := Nat.pow_le_pow_right (by decide) (by omega)
  have hm := lowB_mod h
  have hb : uN s / 2 ^ t % 2 = 1 := by rw [← tb_uN, if_pos h.1]
  have hdm := Nat.div_add_mod (uN s) (2 ^ t)
  have e1 : uN (s - nI 1) = uN s - 1 := by
    have : 1 ≤ uN s := by
      refine Nat.pos_of_ne_zero (fun e => ?_)
      rw [e] at hb; simp at hb
    rw [uN_sub _ _ (by rw [uN_nI (by omega)]; exact this), uN_nI (by omega)]
  obtain ⟨q, hq⟩ : ∃ q, uN s / 2 ^ t = 2 * q + 1 := ⟨uN s / 2 ^ t / 2, by omega⟩
  have e2 : uN s - 1 = 2 ^ t * (2 * q) + (2 ^ t - 1) := by
    rw [hm, hq, Nat.mul_add] at hdm
    omega
  apply i32_ext
  intro k hk
  rw [tb_and, tb_not _ hk]
  have r1 : tb (s - nI 1) k = (uN s - 1).testBit k := by rw [← e1]; rfl
  have r2 : tb (nI (2 ^ t - 1)) k = decide (k < t) := by
    have : tb (nI (2 ^ t - 1)) k = (uN (nI (2 ^ t - 1))).testBit k := rfl
    rw [this, uN_nI (by omega), Nat.testBit_two_pow_sub_one]
  rw [r1, r2, e2, Nat.testBit_two_pow_mul_add _ (by omega)]
  by_cases a : k < t
  · rw [if_pos a, h.2 k a, Nat.testBit_two_pow_sub_one]; simp [a]
  · rw [if_neg a]
    have hs : tb s k = (2 * q + 1).testBit (k - t) := by
      have : tb s k = (uN s).testBit k := rfl
      rw [this, show uN s = 2 ^ t * (2 * q + 1) + 0 by rw [← hq, ← hm]; exact hdm.symm, Nat.testBit_two_pow_mul_add _ hp, if_neg a]
    rw [hs]
    cases hd : k - t with
    | zero => simp [a]
    | succ j => rw [Nat.testBit_succ, Nat.testBit_succ, show (2 * q + 1) / 2 = q by omega, show 2 * q / 2 = q by omega]; simp [a]
theorem fstB_low {s : Int32} {t : Nat} (h : lowB s t) : ∀ k j, j ≤ t → t < j + k → fstB s k j = nI t := by
  intro k
  induction k with
  | zero => intro j h1 h2; omega
  | succ k ih =>
    intro j h1 h2
    unfold fstB
    by_cases q : j = t
    · subst q; rw [if_pos h.1]
    · rw [if_neg (by rw [h.2 j (by omega)]; simp)]
      exact ih (j + 1) (by omega) (by omega)
theorem fstB_0 : ∀ k j, fstB 0 k j = -2 := by
  intro k
  induction k with
  | zero => intro j; rfl
  | succ k ih =>
    intro j
    unfold fstB
    rw [if_neg (by rw [tb_00]; simp)]
    exact ih _
section KU
variable {d sz us : Nat} {hf : Hf}
theorem usr_eq (s : Int32) (k : Nat) : (s.toUInt32 >>> ((nI k).toUInt32 &&& Int32.toUInt32 31)).toInt32 = usr s k := rfl
theorem K_ntz (s : Int32) : Ev d 117 0 [some (.int s), none] [] (sz, us, hf) = some (some (.int (ntF ((s ^^^ (-1)) &&& (s - nI 1)))), (sz, us, hf)) := by
  simp (maxSteps := 2000000) (disch := first | omega | with_reducible assumption | exact cobP | exact cobX | exact cobS (by omega) | exact cobK (by omega) | exact cobF (by omega) | exact cobW | exact isTC_T (by assumption) (by assumption) | exact bI_01 _ | exact Or.inl rfl | exact Or.inr rfl | (simp (decide := true) only [wid_0, wid_i, wid_l, wid_r, wid_n]; done) | decide | fail) only [s117_0, s117_1, s117_2, s117_3, s117_4, s117_5, s117_6, s117_7, Option.bind_some, Option.bind_none, Option.toList_some, Option.toList_none, List.cons_append, List.nil_append, clr_i, clr_r, clr_l, clr_n]
  generalize (s ^^^ (-1)) &&& (s - nI 1) = z
  unfold ntF
  by_cases h : 0 < z
  · rw [if_pos h]
    simp (maxSteps := 2000000) (disch := first | omega | with_reducible assumption | exact cobP | exact cobX | exact cobS (by omega) | exact cobK (by omega) | exact cobF (by omega) | exact cobW | exact isTC_T (by assumption) (by assumption) | exact bI_01 _ | exact Or.inl rfl | exact Or.inr rfl | (simp (decide := true) only [wid_0, wid_i, wid_l, wid_r, wid_n]; done) | decide | fail) only [s117_8, s117_9, s117_12, s117_13, s117_15, s117_16 (st := []), s117_17, s117_18, Option.bind_some, Option.bind_none, Option.toList_some, Option.toList_none, List.cons_append, List.nil_append, clr_i, clr_r, clr_l, clr_n, nI_add, nsub, pk_mul, nle_F, nle_T, nlt_F, nlt_T, neq_F, nz_F, nz_T, nneg_F, npos_T, npos_lF, npos_lT, nle0_F, m1_neg, m1_pos, m1_z, neq_m1, m1_neq, ↓reduceIte, if_true, if_false, not_true_eq_false, not_false_eq_true, bI_eq0, Bool.true_eq_false, Bool.false_eq_true, true_and, and_true, false_and, and_false, true_or, or_true, false_or, or_false, decide_true, decide_false, Bool.and_self, Bool.true_and, Bool.and_true, Bool.false_and, Bool.and_false, Bool.true_or, Bool.or_true, Bool.false_or, Bool.or_false, Bool.not_true, Bool.not_false, h]
    have st1 : ∀ s : Int32 × Int32, Ev d 117 19 [some (.int s.1), some (.int s.2)] [] (sz, us, hf) = Ev d 117 34 [some (.int (ntS 16 65536 s).1), some (.int (ntS 16 65536 s).2)] [] (sz, us, hf) := by
      intro s
      unfold ntS
      by_cases q : nI 65536 < s.1
      · have q' : ¬ s.1 ≤ nI 65536 := Int32.not_le.mpr q
        rw [if_pos q]
        simp (maxSteps := 2000000) (disch := first | omega | with_reducible assumption | exact cobP | exact cobX | exact cobS (by omega) | exact cobK (by omega) | exact cobF (by omega) | exact cobW | exact isTC_T (by assumption) (by assumption) | exact bI_01 _ | exact Or.inl rfl | exact Or.inr rfl | (simp (decide := true) only [wid_0, wid_i, wid_l, wid_r, wid_n]; done) | decide | fail) only [s117_19, s117_20, s117_23, s117_26, s117_29, s117_30, s117_32, s117_33, Option.bind_some, Option.bind_none, Option.toList_some, Option.toList_none, List.cons_append, List.nil_append, clr_i, clr_r, clr_l, clr_n, nI_add, nsub, pk_mul, nle_F, nle_T, nlt_F, nlt_T, neq_F, nz_F, nz_T, nneg_F, npos_T, npos_lF, npos_lT, nle0_F, m1_neg, m1_pos, m1_z, neq_m1, m1_neq, ↓reduceIte, if_true, if_false, not_true_eq_false, not_false_eq_true, bI_eq0, Bool.true_eq_false, Bool.false_eq_true, true_and, and_true, false_and, and_false, true_or, or_true, false_or, or_false, decide_true, decide_false, Bool.and_self, Bool.true_and, Bool.and_true, Bool.false_and, Bool.and_false, Bool.true_or, Bool.or_true, Bool.false_or, Bool.or_false, Bool.not_true, Bool.not_false, q, q', usr_eq]
      · have q' : s.1 ≤ nI 65536 := Int32.not_lt.mp q
        rw [if_neg q]
        simp (maxSteps := 2000000) (disch := first | omega | with_reducible assumption | exact cobP | exact cobX | exact cobS (by omega) | exact cobK (by omega) | exact cobF (by omega) | exact cobW | exact isTC_T (by assumption) (by assumption) | exact bI_01 _ | exact Or.inl rfl | exact Or.inr rfl | (simp (decide := true) only [wid_0, wid_i, wid_l, wid_r, wid_n]; done) | decide | fail) only [s117_19, s117_20, s117_23, s117_26, s117_29, s117_30, s117_32, s117_33, Option.bind_some, Option.bind_none, Option.toList_some, Option.toList_none, List.cons_append, List.nil_append, clr_i, clr_r, clr_l, clr_n, nI_add, nsub, pk_mul, nle_F, nle_T, nlt_F, nlt_T, neq_F, nz_F, nz_T, nneg_F, npos_T, npos_lF, npos_lT, nle0_F, m1_neg, m1_pos, m1_z, neq_m1, m1_neq, ↓reduceIte, if_true, if_false, not_true_eq_false, not_false_eq_true, bI_eq0, Bool.true_eq_false, Bool.false_eq_true, true_and, and_true, false_and, and_false, true_or, or_true, false_or, or_false, decide_true, decide_false, Bool.and_self, Bool.true_and, Bool.and_true, Bool.false_and, Bool.and_false, Bool.true_or, Bool.or_true, Bool.false_or, Bool.or_false, Bool.not_true, Bool.not_false, q, q']
    have st2 : ∀ s : Int32 × Int32, Ev d 117 34 [some (.int s.1), some (.int s.2)] [] (sz, us, hf) = Ev d 117 49 [some (.int (ntS 8 256 s).1), some (.int (ntS 8 256 s).2)] [] (sz, us, hf) := by
      intro s
      unfold ntS
      by_cases q : nI 256 < s.1
      · have q' : ¬ s.1 ≤ nI 256 := Int32.not_le.mpr q
        rw [if_pos q]
        simp (maxSteps := 2000000) (disch := first | omega | with_reducible assumption | exact cobP | exact cobX | exact cobS (by omega) | exact cobK (by omega) | exact cobF (by omega) | exact cobW | exact isTC_T (by assumption) (by assumption) | exact bI_01 _ | exact Or.inl rfl | exact Or.inr rfl | (simp (decide := true) only [wid_0, wid_i, wid_l, wid_r, wid_n]; done) | decide | fail) only [s117_34, s117_35, s117_38, s117_41, s117_44, s117_45, s117_47, s117_48, Option.bind_some, Option.bind_none, Option.toList_some, Option.toList_none, List.cons_append, List.nil_append, clr_i, clr_r, clr_l, clr_n, nI_add, nsub, pk_mul, nle_F, nle_T, nlt_F, nlt_T, neq_F, nz_F, nz_T, nneg_F, npos_T, npos_lF, npos_lT, nle0_F, m1_neg, m1_pos, m1_z, neq_m1, m1_neq, ↓reduceIte, if_true, if_false, not_true_eq_false, not_false_eq_true, bI_eq0, Bool.true_eq_false, Bool.false_eq_true, true_and, and_true, false_and, and_false, true_or, or_true, false_or, or_false, decide_true, decide_false, Bool.and_self, Bool.true_and, Bool.and_true, Bool.false_and, Bool.and_false, Bool.true_or, Bool.or_true, Bool.false_or, Bool.or_false, Bool.not_true, Bool.not_false, q, q', usr_eq]
      · have q' : s.1 ≤ nI 256 := Int32.not_lt.mp q
        rw [if_neg q]
        simp (maxSteps := 2000000) (disch := first | omega | with_reducible assumption | exact cobP | exact cobX | exact cobS (by omega) | exact cobK (by omega) | exact cobF (by omega) | exact cobW | exact isTC_T (by assumption) (by assumption) | exact bI_01 _ | exact Or.inl rfl | exact Or.inr rfl | (simp (decide := true) only [wid_0, wid_i, wid_l, wid_r, wid_n]; done) | decide | fail) only [s117_34, s117_35, s117_38, s117_41, s117_44, s117_45, s117_47, s117_48, Option.bind_some, Option.bind_none, Option.toList_some, Option.toList_none, List.cons_append, List.nil_append, clr_i, clr_r, clr_l, clr_n, nI_add, nsub, pk_mul, nle_F, nle_T, nlt_F, nlt_T, neq_F, nz_F, nz_T, nneg_F, npos_T, npos_lF, npos_lT, nle0_F, m1_neg, m1_pos, m1_z, neq_m1, m1_neq, ↓reduceIte, if_true, if_false, not_true_eq_false, not_false_eq_true, bI_eq0, Bool.true_eq_false, Bool.false_eq_true, true_and, and_true, false_and, and_false, true_or, or_true, false_or, or_false, decide_true, decide_false, Bool.and_self, Bool.true_and, Bool.and_true, Bool.false_and, Bool.and_false, Bool.true_or, Bool.or_true, Bool.false_or, Bool.or_false, Bool.not_true, Bool.not_false, q, q']
    have st3 : ∀ s : Int32 × Int32, Ev d 117 49 [some (.int s.1), some (.int s.2)] [] (sz, us, hf) = Ev d 117 62 [some (.int (ntS 4 16 s).1), some (.int (ntS 4 16 s).2)] [] (sz, us, hf) := by
      intro s
      unfold ntS
      by_cases q : nI 16 < s.1
      · have q' : ¬ s.1 ≤ nI 16 := Int32.not_le.mpr q
        rw [if_pos q]
        simp (maxSteps := 2000000) (disch := first | omega | with_reducible assumption | exact cobP | exact cobX | exact cobS (by omega) | exact cobK (by omega) | exact cobF (by omega) | exact cobW | exact isTC_T (by assumption) (by assumption) | exact bI_01 _ | exact Or.inl rfl | exact Or.inr rfl | (simp (decide := true) only [wid_0, wid_i, wid_l, wid_r, wid_n]; done) | decide | fail) only [s117_49, s117_50, s117_52, s117_55, s117_58, s117_59, s117_60, s117_61, Option.bind_some, Option.bind_none, Option.toList_some, Option.toList_none, List.cons_append, List.nil_append, clr_i, clr_r, clr_l, clr_n, nI_add, nsub, pk_mul, nle_F, nle_T, nlt_F, nlt_T, neq_F, nz_F, nz_T, nneg_F, npos_T, npos_lF, npos_lT, nle0_F, m1_neg, m1_pos, m1_z, neq_m1, m1_neq, ↓reduceIte, if_true, if_false, not_true_eq_false, not_false_eq_true, bI_eq0, Bool.true_eq_false, Bool.false_eq_true, true_and, and_true, false_and, and_false, true_or, or_true, false_or, or_false, decide_true, decide_false, Bool.and_self, Bool.true_and, Bool.and_true, Bool.false_and, Bool.and_false, Bool.true_or, Bool.or_true, Bool.false_or, Bool.or_false, Bool.not_true, Bool.not_false, q, q', usr_eq]
      · have q' : s.1 ≤ nI 16 := Int32.not_lt.mp q
        rw [if_neg q]
        simp (maxSteps := 2000000) (disch := first | omega | with_reducible assumption | exact cobP | exact cobX | exact cobS (by omega) | exact cobK (by omega) | exact cobF (by omega) | exact cobW | exact isTC_T (by assumption) (by assumption) | exact bI_01 _ | exact Or.inl rfl | exact Or.inr rfl | (simp (decide := true) only [wid_0, wid_i, wid_l, wid_r, wid_n]; done) | decide | fail) only [s117_49, s117_50, s117_52, s117_55, s117_58, s117_59, s117_60, s117_61, Option.bind_some, Option.bind_none, Option.toList_some, Option.toList_none, List.cons_append, List.nil_append, clr_i, clr_r, clr_l, clr_n, nI_add, nsub, pk_mul, nle_F, nle_T, nlt_F, nlt_T, neq_F, nz_F, nz_T, nneg_F, npos_T, npos_lF, npos_lT, nle0_F, m1_neg, m1_pos, m1_z, neq_m1, m1_neq, ↓reduceIte, if_true, if_false, not_true_eq_false, not_false_eq_true, bI_eq0, Bool.true_eq_false, Bool.false_eq_true, true_and, and_true, false_and, and_false, true_or, or_true, false_or, or_false, decide_true, decide_false, Bool.and_self, Bool.true_and, Bool.and_true, Bool.false_and, Bool.and_false, Bool.true_or, Bool.or_true, Bool.false_or, Bool.or_false, Bool.not_true, Bool.not_false, q, q']
    have st4 : ∀ s : Int32 × Int32, Ev d 117 62 [some (.int s.1), some (.int s.2)] [] (sz, us, hf) = Ev d 117 74 [some (.int (ntS 2 4 s).1), some (.int (ntS 2 4 s).2)] [] (sz, us, hf) := by
      intro s
      unfold ntS
      by_cases q : nI 4 < s.1
      · have q' : ¬ s.1 ≤ nI 4 := Int32.not_le.mpr q
        rw [if_pos q]
        simp (maxSteps := 2000000) (disch := first | omega | with_reducible assumption | exact cobP | exact cobX | exact cobS (by omega) | exact cobK (by omega) | exact cobF (by omega) | exact cobW | exact isTC_T (by assumption) (by assumption) | exact bI_01 _ | exact Or.inl rfl | exact Or.inr rfl | (simp (decide := true) only [wid_0, wid_i, wid_l, wid_r, wid_n]; done) | decide | fail) only [s117_62, s117_63, s117_64, s117_67, s117_70, s117_71, s117_72, s117_73, Option.bind_some, Option.bind_none, Option.toList_some, Option.toList_none, List.cons_append, List.nil_append, clr_i, clr_r, clr_l, clr_n, nI_add, nsub, pk_mul, nle_F, nle_T, nlt_F, nlt_T, neq_F, nz_F, nz_T, nneg_F, npos_T, npos_lF, npos_lT, nle0_F, m1_neg, m1_pos, m1_z, neq_m1, m1_neq, ↓reduceIte, if_true, if_false, not_true_eq_false, not_false_eq_true, bI_eq0, Bool.true_eq_false, Bool.false_eq_true, true_and, and_true, false_and, and_false, true_or, or_true, false_or, or_false, decide_true, decide_false, Bool.and_self, Bool.true_and, Bool.and_true, Bool.false_and, Bool.and_false, Bool.true_or, Bool.or_true, Bool.false_or, Bool.or_false, Bool.not_true, Bool.not_false, q, q', usr_eq]
      · have q' : s.1 ≤ nI 4 := Int32.not_lt.mp q
        rw [if_neg q]
        simp (maxSteps := 2000000) (disch := first | omega | with_reducible assumption | exact cobP | exact cobX | exact cobS (by omega) | exact cobK (by omega) | exact cobF (by omega) | exact cobW | exact isTC_T (by assumption) (by assumption) | exact bI_01 _ | exact Or.inl rfl | exact Or.inr rfl | (simp (decide := true) only [wid_0, wid_i, wid_l, wid_r, wid_n]; done) | decide | fail) only [s117_62, s117_63, s117_64, s117_67, s117_70, s117_71, s117_72, s117_73, Option.bind_some, Option.bind_none, Option.toList_some, Option.toList_none, List.cons_append, List.nil_append, clr_i, clr_r, clr_l, clr_n, nI_add, nsub, pk_mul, nle_F, nle_T, nlt_F, nlt_T, neq_F, nz_F, nz_T, nneg_F, npos_T, npos_lF, npos_lT, nle0_F, m1_neg, m1_pos, m1_z, neq_m1, m1_neq, ↓reduceIte, if_true, if_false, not_true_eq_false, not_false_eq_true, bI_eq0, Bool.true_eq_false, Bool.false_eq_true, true_and, and_true, false_and, and_false, true_or, or_true, false_or, or_false, decide_true, decide_false, Bool.and_self, Bool.true_and, Bool.and_true, Bool.false_and, Bool.and_false, Bool.true_or, Bool.or_true, Bool.false_or, Bool.or_false, Bool.not_true, Bool.not_false, q, q']
    rw [st1 (z, nI 1), st2, st3, st4]
    simp (maxSteps := 2000000) (disch := first | omega | with_reducible assumption | exact cobP | exact cobX | exact cobS (by omega) | exact cobK (by omega) | exact cobF (by omega) | exact cobW | exact isTC_T (by assumption) (by assumption) | exact bI_01 _ | exact Or.inl rfl | exact Or.inr rfl | (simp (decide := true) only [wid_0, wid_i, wid_l, wid_r, wid_n]; done) | decide | fail) only [s117_74, s117_75, s117_76, s117_77, s117_78, s117_79 (st := []), Option.bind_some, Option.bind_none, Option.toList_some, Option.toList_none, List.cons_append, List.nil_append, clr_i, clr_r, clr_l, clr_n, nI_add, nsub, pk_mul, nle_F, nle_T, nlt_F, nlt_T, neq_F, nz_F, nz_T, nneg_F, npos_T, npos_lF, npos_lT, nle0_F, m1_neg, m1_pos, m1_z, neq_m1, m1_neq, ↓reduceIte, if_true, if_false, not_true_eq_false, not_false_eq_true, bI_eq0, Bool.true_eq_false, Bool.false_eq_true, true_and, and_true, false_and, and_false, true_or, or_true, false_or, or_false, decide_true, decide_false, Bool.and_self, Bool.true_and, Bool.and_true, Bool.false_and, Bool.and_false, Bool.true_or, Bool.or_true, Bool.false_or, Bool.or_false, Bool.not_true, Bool.not_false, usr_eq]
  · rw [if_neg h]
    simp (maxSteps := 2000000) (disch := first | omega | with_reducible assumption | exact cobP | exact cobX | exact cobS (by omega) | exact cobK (by omega) | exact cobF (by omega) | exact cobW | exact isTC_T (by assumption) (by assumption) | exact bI_01 _ | exact Or.inl rfl | exact Or.inr rfl | (simp (decide := true) only [wid_0, wid_i, wid_l, wid_r, wid_n]; done) | decide | fail) only [s117_8, s117_9, s117_12, s117_13, s117_15, s117_16 (st := []), Option.bind_some, Option.bind_none, Option.toList_some, Option.toList_none, List.cons_append, List.nil_append, clr_i, clr_r, clr_l, clr_n, nI_add, nsub, pk_mul, nle_F, nle_T, nlt_F, nlt_T, neq_F, nz_F, nz_T, nneg_F, npos_T, npos_lF, npos_lT, nle0_F, m1_neg, m1_pos, m1_z, neq_m1, m1_neq, ↓reduceIte, if_true, if_false, not_true_eq_false, not_false_eq_true, bI_eq0, Bool.true_eq_false, Bool.false_eq_true, true_and, and_true, false_and, and_false, true_or, or_true, false_or, or_false, decide_true, decide_false, Bool.and_self, Bool.true_and, Bool.and_true, Bool.false_and, Bool.and_false, Bool.true_or, Bool.or_true, Bool.false_or, Bool.or_false, Bool.not_true, Bool.not_false, h]
end KU
section KV
variable {F : Hf} {x d sz us n tn t : Nat} {c w : WD} {y : Nat → Int64} {v : VD} {tA : Nat → Option Nat} {B : Nat → Option Nat} {A : Nat → Nat} {tm : Nat → Nat → Nat} {td : Nat → Nat → Int32} {K : KT}
theorem K_refusal_no {s : Int32} (ht : c 0 2 = nI tn) (ht60 : tn ≤ 60) (h : vI s tn = false) : Ev (d + 2) 113 0 [some (.ref x), some (.int s)] [] (sz, us, emC (emT F B tm td A K) x c y v tA) = some (some (.int (-1)), (sz, us, emC (emT F B tm td A K) x c y v tA)) := by
  have hS := fun d => K_isTerm (f := emT F B tm td A K) (x := x) (d := d) (sz := sz) (us := us) (c := c) (y := y) (v := v) (tm := tA) ht ht60 s
  simp (maxSteps := 2000000) (disch := first | omega | with_reducible assumption | exact cobP | exact cobX | exact cobS (by omega) | exact cobK (by omega) | exact cobF (by omega) | exact cobW | exact isTC_T (by assumption) (by assumption) | exact bI_01 _ | exact Or.inl rfl | exact Or.inr rfl | (simp (decide := true) only [wid_0, wid_i, wid_l, wid_r, wid_n]; done) | decide | fail) only [s113_0, s113_1, s113_2, s113_5, s113_8, s113_9 (st := []), s113_10, s113_11, s113_12, s113_15, s113_16, s113_17, s113_20, s113_23, s113_26, s113_28 (st := []), s113_29, s113_30, s113_33, s113_34, s113_35, s113_38, s113_41, s113_44, s113_46, s113_49, s113_50 (st := []), Option.bind_some, Option.bind_none, Option.toList_some, Option.toList_none, List.cons_append, List.nil_append, clr_i, clr_r, clr_l, clr_n, nI_add, nsub, pk_mul, nle_F, nle_T, nlt_F, nlt_T, neq_F, nz_F, nz_T, nneg_F, npos_T, npos_lF, npos_lT, nle0_F, m1_neg, m1_pos, m1_z, neq_m1, m1_neq, ↓reduceIte, if_true, if_false, not_true_eq_false, not_false_eq_true, bI_eq0, Bool.true_eq_false, Bool.false_eq_true, true_and, and_true, false_and, and_false, true_or, or_true, false_or, or_false, decide_true, decide_false, Bool.and_self, Bool.true_and, Bool.and_true, Bool.false_and, Bool.and_false, Bool.true_or, Bool.or_true, Bool.false_or, Bool.or_false, Bool.not_true, Bool.not_false, hS, h]
theorem K_refusal (ht : c 0 2 = nI tn) (ht60 : tn ≤ 60) (htn : t < tn) (hA : tA t = some (A t)) (hB : B (A t) = some t) (hx : x + 154 ≤ A t) (h0 : td t 0 = w 14 t) (h1 : td t 1 = w 15 t) : Ev (d + 2) 113 0 [some (.ref x), some (.int (nI t))] [] (sz, us, emC (emT F B tm td A K) x c y v tA) = some (some (.int (lacA w t)), (sz, us, emC (emT F B tm td A K) x c y v tA)) := by
  have hS := fun d s => K_isTerm (f := emT F B tm td A K) (x := x) (d := d) (sz := sz) (us := us) (c := c) (y := y) (v := v) (tm := tA) ht ht60 s
  have e0 : vI (nI t) tn = true := by rw [vI_nI (by omega)]; exact decide_eq_true htn
  unfold lacA
  simp only [fr4]
  rw [← h0, ← h1]
  cases h2 : tb (td t 0) 2
  · by_cases h3 : nI 600 < td t 1
    · have h3' : ¬ td t 1 ≤ nI 600 := Int32.not_le.mpr h3
      simp (maxSteps := 2000000) (disch := first | omega | with_reducible assumption | exact cobP | exact cobX | exact cobS (by omega) | exact cobK (by omega) | exact cobF (by omega) | exact cobW | exact isTC_T (by assumption) (by assumption) | exact bI_01 _ | exact Or.inl rfl | exact Or.inr rfl | (simp (decide := true) only [wid_0, wid_i, wid_l, wid_r, wid_n]; done) | decide | fail) only [s113_0, s113_1, s113_2, s113_5, s113_8, s113_9 (st := []), s113_10, s113_11, s113_12, s113_15, s113_16, s113_17, s113_20, s113_23, s113_26, s113_28 (st := []), s113_29, s113_30, s113_33, s113_34, s113_35, s113_38, s113_41, s113_44, s113_46, s113_49, s113_50 (st := []), Option.bind_some, Option.bind_none, Option.toList_some, Option.toList_none, List.cons_append, List.nil_append, clr_i, clr_r, clr_l, clr_n, nI_add, nsub, pk_mul, nle_F, nle_T, nlt_F, nlt_T, neq_F, nz_F, nz_T, nneg_F, npos_T, npos_lF, npos_lT, nle0_F, m1_neg, m1_pos, m1_z, neq_m1, m1_neq, ↓reduceIte, if_true, if_false, not_true_eq_false, not_false_eq_true, bI_eq0, Bool.true_eq_false, Bool.false_eq_true, true_and, and_true, false_and, and_false, true_or, or_true, false_or, or_false, decide_true, decide_false, Bool.and_self, Bool.true_and, Bool.and_true, Bool.false_and, Bool.and_false, Bool.true_or, Bool.or_true, Bool.false_or, Bool.or_false, Bool.not_true, Bool.not_false, g_11_18_9, g_11_191_T, g_11_181_T, hS, e0, aC_terms, hA, vrf_s, K_isIn, h2, h3, h3']
    · have h3' : td t 1 ≤ nI 600 := Int32.not_lt.mp h3
      simp (maxSteps := 2000000) (disch := first | omega | with_reducible assumption | exact cobP | exact cobX | exact cobS (by omega) | exact cobK (by omega) | exact cobF (by omega) | exact cobW | exact isTC_T (by assumption) (by assumption) | exact bI_01 _ | exact Or.inl rfl | exact Or.inr rfl | (simp (decide := true) only [wid_0, wid_i, wid_l, wid_r, wid_n]; done) | decide | fail) only [s113_0, s113_1, s113_2, s113_5, s113_8, s113_9 (st := []), s113_10, s113_11, s113_12, s113_15, s113_16, s113_17, s113_20, s113_23, s113_26, s113_28 (st := []), s113_29, s113_30, s113_33, s113_34, s113_35, s113_38, s113_41, s113_44, s113_46, s113_49, s113_50 (st := []), Option.bind_some, Option.bind_none, Option.toList_some, Option.toList_none, List.cons_append, List.nil_append, clr_i, clr_r, clr_l, clr_n, nI_add, nsub, pk_mul, nle_F, nle_T, nlt_F, nlt_T, neq_F, nz_F, nz_T, nneg_F, npos_T, npos_lF, npos_lT, nle0_F, m1_neg, m1_pos, m1_z, neq_m1, m1_neq, ↓reduceIte, if_true, if_false, not_true_eq_false, not_false_eq_true, bI_eq0, Bool.true_eq_false, Bool.false_eq_true, true_and, and_true, false_and, and_false, true_or, or_true, false_or, or_false, decide_true, decide_false, Bool.and_self, Bool.true_and, Bool.and_true, Bool.false_and, Bool.and_false, Bool.true_or, Bool.or_true, Bool.false_or, Bool.or_false, Bool.not_true, Bool.not_false, g_11_18_9, g_11_191_T, g_11_181_T, hS, e0, aC_terms, hA, vrf_s, K_isIn, h2, h3, h3']
  · simp (maxSteps := 2000000) (disch := first | omega | with_reducible assumption | exact cobP | exact cobX | exact cobS (by omega) | exact cobK (by omega) | exact cobF (by omega) | exact cobW | exact isTC_T (by assumption) (by assumption) | exact bI_01 _ | exact Or.inl rfl | exact Or.inr rfl | (simp (decide := true) only [wid_0, wid_i, wid_l, wid_r, wid_n]; done) | decide | fail) only [s113_0, s113_1, s113_2, s113_5, s113_8, s113_9 (st := []), s113_10, s113_11, s113_12, s113_15, s113_16, s113_17, s113_20, s113_23, s113_26, s113_28 (st := []), s113_29, s113_30, s113_33, s113_34, s113_35, s113_38, s113_41, s113_44, s113_46, s113_49, s113_50 (st := []), Option.bind_some, Option.bind_none, Option.toList_some, Option.toList_none, List.cons_append, List.nil_append, clr_i, clr_r, clr_l, clr_n, nI_add, nsub, pk_mul, nle_F, nle_T, nlt_F, nlt_T, neq_F, nz_F, nz_T, nneg_F, npos_T, npos_lF, npos_lT, nle0_F, m1_neg, m1_pos, m1_z, neq_m1, m1_neq, ↓reduceIte, if_true, if_false, not_true_eq_false, not_false_eq_true, bI_eq0, Bool.true_eq_false, Bool.false_eq_true, true_and, and_true, false_and, and_false, true_or, or_true, false_or, or_false, decide_true, decide_false, Bool.and_self, Bool.true_and, Bool.and_true, Bool.false_and, Bool.and_false, Bool.true_or, Bool.or_true, Bool.false_or, Bool.or_false, Bool.not_true, Bool.not_false, g_11_18_9, g_11_191_T, g_11_181_T, hS, e0, aC_terms, hA, vrf_s, K_isIn, h2]
theorem K_told_no {s q : Int32} (ht : c 0 2 = nI tn) (ht60 : tn ≤ 60) (hA : ∀ t, t < tn → tA t = some (A t)) (h : (vI s tn && vI q 4) = false) : Ev (d + 2) 110 0 [some (.ref x), some (.int s), some (.int q), none] [] (sz, us, emC (emT F B tm td A K) x c y v tA) = some (some (.int (-1)), (sz, us, emC (emT F B tm td A K) x c y v tA)) := by
  have hS := fun d s => K_isTerm (f := emT F B tm td A K) (x := x) (d := d) (sz := sz) (us := us) (c := c) (y := y) (v := v) (tm := tA) ht ht60 s
  cases h1 : vI s tn
  · simp (maxSteps := 2000000) (disch := first | omega | with_reducible assumption | exact cobP | exact cobX | exact cobS (by omega) | exact cobK (by omega) | exact cobF (by omega) | exact cobW | exact isTC_T (by assumption) (by assumption) | exact bI_01 _ | exact Or.inl rfl | exact Or.inr rfl | (simp (decide := true) only [wid_0, wid_i, wid_l, wid_r, wid_n]; done) | decide | fail) only [s110_0, s110_1, s110_2, s110_5, s110_8, s110_9 (st := []), s110_10, s110_11, s110_14, s110_15, s110_16, s110_17, s110_18d, s110_18k0, s110_18k1, s110_18k2, s110_18k3, s110_48, s110_49, s110_52 (st := []), s110_53, s110_54, s110_57 (st := []), s110_58, s110_59, s110_62 (st := []), s110_63, s110_64, s110_67 (st := []), s110_68, s110_69 (st := []), Option.bind_some, Option.bind_none, Option.toList_some, Option.toList_none, List.cons_append, List.nil_append, clr_i, clr_r, clr_l, clr_n, nI_add, nsub, pk_mul, nle_F, nle_T, nlt_F, nlt_T, neq_F, nz_F, nz_T, nneg_F, npos_T, npos_lF, npos_lT, nle0_F, m1_neg, m1_pos, m1_z, neq_m1, m1_neq, ↓reduceIte, if_true, if_false, not_true_eq_false, not_false_eq_true, bI_eq0, Bool.true_eq_false, Bool.false_eq_true, true_and, and_true, false_and, and_false, true_or, or_true, false_or, or_false, decide_true, decide_false, Bool.and_self, Bool.true_and, Bool.and_true, Bool.false_and, Bool.and_false, Bool.true_or, Bool.or_true, Bool.false_or, Bool.or_false, Bool.not_true, Bool.not_false, hS, h1]
  · rw [h1, Bool.true_and] at h
    obtain ⟨k, hk, rfl⟩ := vI_T h1 (by omega)
    have hA := hA k hk
    have hq : q.toInt < 0 ∨ 3 < q.toInt := by
      unfold vI at h
      have := of_decide_eq_false h
      omega
    simp (maxSteps := 2000000) (disch := first | omega | with_reducible assumption | exact cobP | exact cobX | exact cobS (by omega) | exact cobK (by omega) | exact cobF (by omega) | exact cobW | exact isTC_T (by assumption) (by assumption) | exact bI_01 _ | exact Or.inl rfl | exact Or.inr rfl | (simp (decide := true) only [wid_0, wid_i, wid_l, wid_r, wid_n]; done) | decide | fail) only [s110_0, s110_1, s110_2, s110_5, s110_8, s110_9 (st := []), s110_10, s110_11, s110_14, s110_15, s110_16, s110_17, s110_18d, s110_18k0, s110_18k1, s110_18k2, s110_18k3, s110_48, s110_49, s110_52 (st := []), s110_53, s110_54, s110_57 (st := []), s110_58, s110_59, s110_62 (st := []), s110_63, s110_64, s110_67 (st := []), s110_68, s110_69 (st := []), Option.bind_some, Option.bind_none, Option.toList_some, Option.toList_none, List.cons_append, List.nil_append, clr_i, clr_r, clr_l, clr_n, nI_add, nsub, pk_mul, nle_F, nle_T, nlt_F, nlt_T, neq_F, nz_F, nz_T, nneg_F, npos_T, npos_lF, npos_lT, nle0_F, m1_neg, m1_pos, m1_z, neq_m1, m1_neq, ↓reduceIte, if_true, if_false, not_true_eq_false, not_false_eq_true, bI_eq0, Bool.true_eq_false, Bool.false_eq_true, true_and, and_true, false_and, and_false, true_or, or_true, false_or, or_false, decide_true, decide_false, Bool.and_self, Bool.true_and, Bool.and_true, Bool.false_and, Bool.and_false, Bool.true_or, Bool.or_true, Bool.false_or, Bool.or_false, Bool.not_true, Bool.not_false, g_11_18_9, g_11_188_T, g_11_191_T, g_11_181_T, g_11_194_T, hS, h1, aC_terms, hA, vrf_s, hq]
theorem K_told {q : Nat} (ht : c 0 2 = nI tn) (ht60 : tn ≤ 60) (htn : t < tn) (hq : q < 4) (hA : tA t = some (A t)) (hB : B (A t) = some t) (hx : x + 154 ≤ A t) : Ev (d + 2) 110 0 [some (.ref x), some (.int (nI t)), some (.int (nI q)), none] [] (sz, us, emC (emT F B tm td A K) x c y v tA) = some (some (.int (if q = 0 then nI (tm t 0) else if q = 1 then td t 0 else if q = 2 then td t 1 else td t 2)), (sz, us, emC (emT F B tm td A K) x c y v tA)) := by
  have hS := fun d s => K_isTerm (f := emT F B tm td A K) (x := x) (d := d) (sz := sz) (us := us) (c := c) (y := y) (v := v) (tm := tA) ht ht60 s
  have e0 : vI (nI t) tn = true := by rw [vI_nI (by omega)]; exact decide_eq_true htn
  have hqq : q = 0 ∨ q = 1 ∨ q = 2 ∨ q = 3 := by omega
  rcases hqq with h | h | h | h <;> subst h <;> simp (maxSteps := 2000000) (disch := first | omega | with_reducible assumption | exact cobP | exact cobX | exact cobS (by omega) | exact cobK (by omega) | exact cobF (by omega) | exact cobW | exact isTC_T (by assumption) (by assumption) | exact bI_01 _ | exact Or.inl rfl | exact Or.inr rfl | (simp (decide := true) only [wid_0, wid_i, wid_l, wid_r, wid_n]; done) | decide | fail) only [s110_0, s110_1, s110_2, s110_5, s110_8, s110_9 (st := []), s110_10, s110_11, s110_14, s110_15, s110_16, s110_17, s110_18d, s110_18k0, s110_18k1, s110_18k2, s110_18k3, s110_48, s110_49, s110_52 (st := []), s110_53, s110_54, s110_57 (st := []), s110_58, s110_59, s110_62 (st := []), s110_63, s110_64, s110_67 (st := []), s110_68, s110_69 (st := []), Option.bind_some, Option.bind_none, Option.toList_some, Option.toList_none, List.cons_append, List.nil_append, clr_i, clr_r, clr_l, clr_n, nI_add, nsub, pk_mul, nle_F, nle_T, nlt_F, nlt_T, neq_F, nz_F, nz_T, nneg_F, npos_T, npos_lF, npos_lT, nle0_F, m1_neg, m1_pos, m1_z, neq_m1, m1_neq, ↓reduceIte, if_true, if_false, not_true_eq_false, not_false_eq_true, bI_eq0, Bool.true_eq_false, Bool.false_eq_true, true_and, and_true, false_and, and_false, true_or, or_true, false_or, or_false, decide_true, decide_false, Bool.and_self, Bool.true_and, Bool.and_true, Bool.false_and, Bool.and_false, Bool.true_or, Bool.or_true, Bool.false_or, Bool.or_false, Bool.not_true, Bool.not_false, g_11_18_9, g_11_188_T, g_11_191_T, g_11_181_T, g_11_194_T, hS, e0, aC_terms, hA, vrf_s]
  all_goals simp
end KV
