/-! the class: names that went over, roads -/
def heB (c : WD) (i j q : Nat) (tk : Int32) (o : Nat) : Bool := tb (c (8 + 4 * i) 5) o && (!tb (c (8 + 4 * j) 5) o && (!tb tk o && slk c i o j q))
def kHe (c : WD) (i j q : Nat) (tk : Int32) : Nat → Nat → Option Nat
  | 0, _ => none
  | k + 1, o => if heB c i j q tk o = true then some o else kHe c i j q tk k (o + 1)
theorem kHe_lt {c : WD} {i j q : Nat} {tk : Int32} : ∀ k o, ∀ r, kHe c i j q tk k o = some r → r < o + k := by
  intro k
  induction k with
  | zero => intro o r h; cases h
  | succ k ih =>
    intro o r h
    unfold kHe at h
    split at h
    · injection h with h; omega
    · have := ih _ _ h; omega
def orO (z : Int32) (o : Option Nat) : Int32 := match o with
  | none => z
  | some r => z ||| sb r
def kWe (c : WD) (i j q : Nat) : Nat → Nat → Int32 → Option Nat
  | 0, _, _ => none
  | k + 1, l, tk => if (tb (c (8 + 4 * j) 5) l && !tb (c (8 + 4 * i) 5) l) = true then (if l = q then kHe c i j l tk 16 0 else kWe c i j q k (l + 1) (orO tk (kHe c i j l tk 16 0))) else kWe c i j q k (l + 1) tk
def wyA (y : Nat → Int64) (o : Option Nat) : Int64 := match o with
  | none => 0
  | some r => y r
section K5
variable {f : Hf} {x d sz us n : Nat} {c : WD} {y : Nat → Int64} {v : VD} {tm : Nat → Option Nat}
theorem K_heir {i j q : Nat} (tk : Int32) (hi : i < 30) (hj : j < 30) (hq : q < 16) : Ev (d + 2) 45 0 [some (.ref (x + (8 + 4 * i))), some (.int (nI q)), some (.ref (x + (8 + 4 * j))), some (.int tk), none] [] (sz, us, emC f x c y v tm) = some (some (.int (enc (kHe c i j q tk 16 0))), (sz, us, emC f x c y v tm)) := by
  have st : ∀ k o, o + k = 16 → Ev (d + 2) 45 3 [some (.ref (x + (8 + 4 * i))), some (.int (nI q)), some (.ref (x + (8 + 4 * j))), some (.int tk), some (.int (nI o))] [] (sz, us, emC f x c y v tm) = some (some (.int (enc (kHe c i j q tk k o))), (sz, us, emC f x c y v tm)) := by
    intro k
    induction k with
    | zero =>
      intro o ho
      have e : o = 16 := by omega
      subst e
      rw [s45_3]
      simp (maxSteps := 2000000) (disch := first | omega | with_reducible assumption | exact cobP | exact cobX | exact cobS (by omega) | exact bI_01 _ | exact Or.inl rfl | exact Or.inr rfl | (simp (decide := true) only [wid_0, wid_i, wid_l, wid_r, wid_n]; done) | decide | fail) only [s45_5, s45_7, s45_10, s45_11, s45_13, s45_16, s45_19, s45_20, s45_22, s45_25, s45_28, s45_30, s45_31, s45_34, s45_37, s45_38, s45_40, s45_41, s45_42, s45_45, s45_48, s45_50 (st := []), s45_51, s45_54, s45_57, s45_58 (st := []), Option.bind_some, Option.bind_none, Option.toList_some, Option.toList_none, List.cons_append, List.nil_append, clr_i, clr_r, clr_l, clr_n, nI_add, nsub, pk_mul, nle_F, nle_T, nlt_F, nlt_T, neq_F, nz_F, nz_T, nneg_F, npos_T, npos_lF, npos_lT, nle0_F, m1_neg, m1_pos, m1_z, neq_m1, m1_neq, ↓reduceIte, if_true, if_false, not_true_eq_false, not_false_eq_true, bI_eq0, Bool.true_eq_false, Bool.false_eq_true, true_and, and_true, false_and, and_false, true_or, or_true, false_or, or_false, decide_true, decide_false, Bool.and_self, Bool.true_and, Bool.and_true, Bool.false_and, Bool.and_false, Bool.true_or, Bool.or_true, Bool.false_or, Bool.or_false, Bool.not_true, Bool.not_false]
      rfl
    | succ k ih =>
      intro o ho
      have ho' : o < 16 := by omega
      unfold kHe heB
      rw [s45_3]
      cases h1 : tb (c (8 + 4 * i) 5) o
      · simp (maxSteps := 2000000) (disch := first | omega | with_reducible assumption | exact cobP | exact cobX | exact cobS (by omega) | exact bI_01 _ | exact Or.inl rfl | exact Or.inr rfl | (simp (decide := true) only [wid_0, wid_i, wid_l, wid_r, wid_n]; done) | decide | fail) only [s45_5, s45_7, s45_10, s45_11, s45_13, s45_16, s45_19, s45_20, s45_22, s45_25, s45_28, s45_30, s45_31, s45_34, s45_37, s45_38, s45_40, s45_41, s45_42, s45_45, s45_48, s45_50 (st := []), s45_51, s45_54, Option.bind_some, Option.bind_none, Option.toList_some, Option.toList_none, List.cons_append, List.nil_append, clr_i, clr_r, clr_l, clr_n, nI_add, nsub, pk_mul, nle_F, nle_T, nlt_F, nlt_T, neq_F, nz_F, nz_T, nneg_F, npos_T, npos_lF, npos_lT, nle0_F, m1_neg, m1_pos, m1_z, neq_m1, m1_neq, ↓reduceIte, if_true, if_false, not_true_eq_false, not_false_eq_true, bI_eq0, Bool.true_eq_false, Bool.false_eq_true, true_and, and_true, false_and, and_false, true_or, or_true, false_or, or_false, decide_true, decide_false, Bool.and_self, Bool.true_and, Bool.and_true, Bool.false_and, Bool.and_false, Bool.true_or, Bool.or_true, Bool.false_or, Bool.or_false, Bool.not_true, Bool.not_false, K_has, h1]
        exact ih (o + 1) (by omega)
      · cases h2 : tb (c (8 + 4 * j) 5) o
        · cases h3 : tb tk o
          · cases h4 : slk c i o j q
            · simp (maxSteps := 2000000) (disch := first | omega | with_reducible assumption | exact cobP | exact cobX | exact cobS (by omega) | exact bI_01 _ | exact Or.inl rfl | exact Or.inr rfl | (simp (decide := true) only [wid_0, wid_i, wid_l, wid_r, wid_n]; done) | decide | fail) only [s45_5, s45_7, s45_10, s45_11, s45_13, s45_16, s45_19, s45_20, s45_22, s45_25, s45_28, s45_30, s45_31, s45_34, s45_37, s45_38, s45_40, s45_41, s45_42, s45_45, s45_48, s45_50 (st := []), s45_51, s45_54, Option.bind_some, Option.bind_none, Option.toList_some, Option.toList_none, List.cons_append, List.nil_append, clr_i, clr_r, clr_l, clr_n, nI_add, nsub, pk_mul, nle_F, nle_T, nlt_F, nlt_T, neq_F, nz_F, nz_T, nneg_F, npos_T, npos_lF, npos_lT, nle0_F, m1_neg, m1_pos, m1_z, neq_m1, m1_neq, ↓reduceIte, if_true, if_false, not_true_eq_false, not_false_eq_true, bI_eq0, Bool.true_eq_false, Bool.false_eq_true, true_and, and_true, false_and, and_false, true_or, or_true, false_or, or_false, decide_true, decide_false, Bool.and_self, Bool.true_and, Bool.and_true, Bool.false_and, Bool.and_false, Bool.true_or, Bool.or_true, Bool.false_or, Bool.or_false, Bool.not_true, Bool.not_false, K_has, K_isIn, K_hasSameLook, h1, h2, h3, h4]
              exact ih (o + 1) (by omega)
            · simp (maxSteps := 2000000) (disch := first | omega | with_reducible assumption | exact cobP | exact cobX | exact cobS (by omega) | exact bI_01 _ | exact Or.inl rfl | exact Or.inr rfl | (simp (decide := true) only [wid_0, wid_i, wid_l, wid_r, wid_n]; done) | decide | fail) only [s45_5, s45_7, s45_10, s45_11, s45_13, s45_16, s45_19, s45_20, s45_22, s45_25, s45_28, s45_30, s45_31, s45_34, s45_37, s45_38, s45_40, s45_41, s45_42, s45_45, s45_48, s45_50 (st := []), s45_51, s45_54, Option.bind_some, Option.bind_none, Option.toList_some, Option.toList_none, List.cons_append, List.nil_append, clr_i, clr_r, clr_l, clr_n, nI_add, nsub, pk_mul, nle_F, nle_T, nlt_F, nlt_T, neq_F, nz_F, nz_T, nneg_F, npos_T, npos_lF, npos_lT, nle0_F, m1_neg, m1_pos, m1_z, neq_m1, m1_neq, ↓reduceIte, if_true, if_false, not_true_eq_false, not_false_eq_true, bI_eq0, Bool.true_eq_false, Bool.false_eq_true, true_and, and_true, false_and, and_false, true_or, or_true, false_or, or_false, decide_true, decide_false, Bool.and_self, Bool.true_and, Bool.and_true, Bool.false_and, Bool.and_false, Bool.true_or, Bool.or_true, Bool.false_or, Bool.or_false, Bool.not_true, Bool.not_false, K_has, K_isIn, K_hasSameLook, h1, h2, h3, h4]
              rfl
          · simp (maxSteps := 2000000) (disch := first | omega | with_reducible assumption | exact cobP | exact cobX | exact cobS (by omega) | exact bI_01 _ | exact Or.inl rfl | exact Or.inr rfl | (simp (decide := true) only [wid_0, wid_i, wid_l, wid_r, wid_n]; done) | decide | fail) only [s45_5, s45_7, s45_10, s45_11, s45_13, s45_16, s45_19, s45_20, s45_22, s45_25, s45_28, s45_30, s45_31, s45_34, s45_37, s45_38, s45_40, s45_41, s45_42, s45_45, s45_48, s45_50 (st := []), s45_51, s45_54, Option.bind_some, Option.bind_none, Option.toList_some, Option.toList_none, List.cons_append, List.nil_append, clr_i, clr_r, clr_l, clr_n, nI_add, nsub, pk_mul, nle_F, nle_T, nlt_F, nlt_T, neq_F, nz_F, nz_T, nneg_F, npos_T, npos_lF, npos_lT, nle0_F, m1_neg, m1_pos, m1_z, neq_m1, m1_neq, ↓reduceIte, if_true, if_false, not_true_eq_false, not_false_eq_true, bI_eq0, Bool.true_eq_false, Bool.false_eq_true, true_and, and_true, false_and, and_false, true_or, or_true, false_or, or_false, decide_true, decide_false, Bool.and_self, Bool.true_and, Bool.and_true, Bool.false_and, Bool.and_false, Bool.true_or, Bool.or_true, Bool.false_or, Bool.or_false, Bool.not_true, Bool.not_false, K_has, K_isIn, h1, h2, h3]
            exact ih (o + 1) (by omega)
        · simp (maxSteps := 2000000) (disch := first | omega | with_reducible assumption | exact cobP | exact cobX | exact cobS (by omega) | exact bI_01 _ | exact Or.inl rfl | exact Or.inr rfl | (simp (decide := true) only [wid_0, wid_i, wid_l, wid_r, wid_n]; done) | decide | fail) only [s45_5, s45_7, s45_10, s45_11, s45_13, s45_16, s45_19, s45_20, s45_22, s45_25, s45_28, s45_30, s45_31, s45_34, s45_37, s45_38, s45_40, s45_41, s45_42, s45_45, s45_48, s45_50 (st := []), s45_51, s45_54, Option.bind_some, Option.bind_none, Option.toList_some, Option.toList_none, List.cons_append, List.nil_append, clr_i, clr_r, clr_l, clr_n, nI_add, nsub, pk_mul, nle_F, nle_T, nlt_F, nlt_T, neq_F, nz_F, nz_T, nneg_F, npos_T, npos_lF, npos_lT, nle0_F, m1_neg, m1_pos, m1_z, neq_m1, m1_neq, ↓reduceIte, if_true, if_false, not_true_eq_false, not_false_eq_true, bI_eq0, Bool.true_eq_false, Bool.false_eq_true, true_and, and_true, false_and, and_false, true_or, or_true, false_or, or_false, decide_true, decide_false, Bool.and_self, Bool.true_and, Bool.and_true, Bool.false_and, Bool.and_false, Bool.true_or, Bool.or_true, Bool.false_or, Bool.or_false, Bool.not_true, Bool.not_false, K_has, h1, h2]
          exact ih (o + 1) (by omega)
  simp (maxSteps := 2000000) (disch := first | omega | with_reducible assumption | exact cobP | exact cobX | exact cobS (by omega) | exact bI_01 _ | exact Or.inl rfl | exact Or.inr rfl | (simp (decide := true) only [wid_0, wid_i, wid_l, wid_r, wid_n]; done) | decide | fail) only [s45_0, s45_1, Option.bind_some, Option.bind_none, Option.toList_some, Option.toList_none, List.cons_append, List.nil_append, clr_i, clr_r, clr_l, clr_n, nI_add, nsub, pk_mul, nle_F, nle_T, nlt_F, nlt_T, neq_F, nz_F, nz_T, nneg_F, npos_T, npos_lF, npos_lT, nle0_F, m1_neg, m1_pos, m1_z, neq_m1, m1_neq, ↓reduceIte, if_true, if_false, not_true_eq_false, not_false_eq_true, bI_eq0, Bool.true_eq_false, Bool.false_eq_true, true_and, and_true, false_and, and_false, true_or, or_true, false_or, or_false, decide_true, decide_false, Bool.and_self, Bool.true_and, Bool.and_true, Bool.false_and, Bool.and_false, Bool.true_or, Bool.or_true, Bool.false_or, Bool.or_false, Bool.not_true, Bool.not_false]
  exact st 16 0 rfl
theorem K_waysTo {a : Option Nat} (ha : ∀ j, a = some j → j < 30) : Ev d 47 0 [some (.ref (x + 1)), some (.int (enc a))] [] (sz, us, emC f x c y v tm) = some (some (.long (wyA y a)), (sz, us, emC f x c y v tm)) := by
  have aw : ∀ j, j < 30 → rll (emC f x c y v tm (x + 7)) (nI j) = some (y j) := fun j hj => by
    rw [emC_at f x c y v tm 7 (by omega)]; exact rll_nI (n := 30) hj (by omega)
  cases a with
  | none => simp (maxSteps := 2000000) (disch := first | omega | with_reducible assumption | exact cobP | exact cobX | exact cobS (by omega) | exact bI_01 _ | exact Or.inl rfl | exact Or.inr rfl | (simp (decide := true) only [wid_0, wid_i, wid_l, wid_r, wid_n]; done) | decide | fail) only [s47_0, s47_1, s47_4, s47_5, s47_8, s47_9, s47_10, s47_13, s47_14 (st := []), Option.bind_some, Option.bind_none, Option.toList_some, Option.toList_none, List.cons_append, List.nil_append, clr_i, clr_r, clr_l, clr_n, nI_add, nsub, pk_mul, nle_F, nle_T, nlt_F, nlt_T, neq_F, nz_F, nz_T, nneg_F, npos_T, npos_lF, npos_lT, nle0_F, m1_neg, m1_pos, m1_z, neq_m1, m1_neq, ↓reduceIte, if_true, if_false, not_true_eq_false, not_false_eq_true, bI_eq0, Bool.true_eq_false, Bool.false_eq_true, true_and, and_true, false_and, and_false, true_or, or_true, false_or, or_false, decide_true, decide_false, Bool.and_self, Bool.true_and, Bool.and_true, Bool.false_and, Bool.and_false, Bool.true_or, Bool.or_true, Bool.false_or, Bool.or_false, Bool.not_true, Bool.not_false, enc, wyA]
  | some j =>
    have hj := ha j rfl
    simp (maxSteps := 2000000) (disch := first | omega | with_reducible assumption | exact cobP | exact cobX | exact cobS (by omega) | exact bI_01 _ | exact Or.inl rfl | exact Or.inr rfl | (simp (decide := true) only [wid_0, wid_i, wid_l, wid_r, wid_n]; done) | decide | fail) only [s47_0, s47_1, s47_4, s47_5, s47_8, s47_9, s47_10, s47_13, s47_14 (st := []), Option.bind_some, Option.bind_none, Option.toList_some, Option.toList_none, List.cons_append, List.nil_append, clr_i, clr_r, clr_l, clr_n, nI_add, nsub, pk_mul, nle_F, nle_T, nlt_F, nlt_T, neq_F, nz_F, nz_T, nneg_F, npos_T, npos_lF, npos_lT, nle0_F, m1_neg, m1_pos, m1_z, neq_m1, m1_neq, ↓reduceIte, if_true, if_false, not_true_eq_false, not_false_eq_true, bI_eq0, Bool.true_eq_false, Bool.false_eq_true, true_and, and_true, false_and, and_false, true_or, or_true, false_or, or_false, decide_true, decide_false, Bool.and_self, Bool.true_and, Bool.and_true, Bool.false_and, Bool.and_false, Bool.true_or, Bool.or_true, Bool.false_or, Bool.or_false, Bool.not_true, Bool.not_false, g_3_30_2, enc, wyA, aw]
end K5
