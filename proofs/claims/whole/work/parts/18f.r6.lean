/-! the reference: roads, reaches -/
theorem loopI {α : Sort _} {σ : Sort _} (F : Nat → σ → α) (I : Nat → σ → Prop) (a n : Nat) (han : a ≤ n) (h : ∀ k, a ≤ k → k < n → ∀ s, I k s → ∃ s', I (k + 1) s' ∧ F k s = F (k + 1) s') (s : σ) (h0 : I a s) : ∃ s', I n s' ∧ F a s = F n s' := by
  induction n with
  | zero => obtain rfl : a = 0 := by omega
            exact ⟨s, h0, rfl⟩
  | succ n ih =>
    by_cases q : a = n + 1
    · subst q; exact ⟨s, h0, rfl⟩
    · obtain ⟨s1, h1, e1⟩ := ih (by omega) (fun k hk hkn => h k hk (by omega))
      obtain ⟨s2, h2, e2⟩ := h n (by omega) (by omega) s1 h1
      exact ⟨s2, h2, e1.trans e2⟩
/-- a table with one row of 16 put in -/
def rowU (T : Nat → Int32) (r : Nat) (R : Nat → Int32) : Nat → Int32 := fun i => if i / 16 = r then R (i % 16) else T i
theorem rowU_at (T : Nat → Int32) (r : Nat) (R : Nat → Int32) {p : Nat} (hp : p < 16) : rowU T r R (16 * r + p) = R p := by
  unfold rowU
  rw [if_pos (by omega), show (16 * r + p) % 16 = p by omega]
theorem rowU_up (T : Nat → Int32) (r : Nat) (R : Nat → Int32) {p : Nat} (hp : p < 16) (x : Int32) : upd (rowU T r R) (16 * r + p) x = rowU T r (upd R p x) := by
  funext i
  unfold upd rowU
  by_cases h : i = 16 * r + p
  · subst h
    dsimp only
    rw [if_pos rfl, if_pos (by omega), if_pos (by omega)]
  · rw [if_neg h]
    by_cases h2 : i / 16 = r
    · dsimp only
      rw [if_pos h2, if_pos h2, if_neg (by omega)]
    · rw [if_neg h2, if_neg h2]
def cloP (b : Nat) : Nat → (Nat → Int32) → (Nat → Int32) := fun p R => if tb (R p) b = true then upd R p (R p ||| R b) else R
def cloB : Nat → (Nat → Int32) → (Nat → Int32) := fun b R => itr (cloP b) R 16
def clo (R : Nat → Int32) : Nat → Int32 := itr cloB R 16
/-- a world with another cell k -/
def wT (w : WD) (k : Nat) (T : Nat → Int32) : WD := fun k' i => if k' = k then T i else w k' i
theorem wT_at (w : WD) (k : Nat) (T : Nat → Int32) (i : Nat) : wT w k T k i = T i := by simp [wT]
theorem wT_off (w : WD) (k : Nat) (T : Nat → Int32) {k' : Nat} (i : Nat) (h : k' ≠ k) : wT w k T k' i = w k' i := by simp [wT, h]
theorem wT_up (w : WD) (k : Nat) (T : Nat → Int32) (i : Nat) (x : Int32) : wU (wT w k T) k i x = wT w k (upd T i x) := by
  funext k' i'
  unfold wU wT upd
  by_cases h : k' = k <;> simp [h]
theorem wT_self (w : WD) (k : Nat) : wT w k (w k) = w := by
  funext k' i'
  unfold wT
  by_cases h : k' = k <;> simp [h]
def blk (L : Nat → Int32) (r : Nat) : Nat → Int32 := fun p => L (16 * r + p)
/-- the reach table, r rows done -/
def rch (L : Nat → Int32) (r : Nat) : Nat → Int32 := fun i => if i / 16 < r then clo (blk L (i / 16)) (i % 16) else L i
def cop (T L : Nat → Int32) (k : Nat) : Nat → Int32 := fun i => if i < k then L i else T i
def frV (w : WD) (n : Nat) : WD := if w 0 10 = 0 then w else wT (wU w 0 10 (nI 0)) 22 (cop (w 22) (rch (w 8) (3 * n)) 1440)
section R6
variable {f : Hf} {m d sz us : Nat} {w : WD} {y : Nat → Int64}
theorem R_findReaches {n : Nat} (hn : w 0 1 = nI n) (hn30 : n ≤ 30) : Ev (d + 1) 167 0 [some (.ref m), none, none, none] [] (sz, us, emR f m w y) = some (none, (sz, us, emR f m (frV w n) y)) := by
  unfold frV
  by_cases h0 : w 0 10 = 0
  · simp (disch := first | omega | with_reducible assumption | exact cobR | exact bI_01 _ | exact Or.inl rfl | exact Or.inr rfl | (simp (decide := true) only [wid_0, wid_i, wid_l, wid_r, wid_n]; done) | decide | fail) only [s167_0, s167_1, s167_4, s167_7 (st := []), Option.bind_some, Option.bind_none, Option.toList_some, Option.toList_none, List.cons_append, List.nil_append, clr_i, clr_r, clr_l, clr_n, nI_add, nsub, pk_mul, nle_F, nle_T, nlt_F, nlt_T, neq_F, nz_F, nz_T, nneg_F, npos_T, npos_lF, npos_lT, nle0_F, m1_neg, m1_pos, m1_z, neq_m1, m1_neq, ↓reduceIte, if_true, if_false, not_true_eq_false, not_false_eq_true, bI_eq0, Bool.true_eq_false, Bool.false_eq_true, true_and, and_true, false_and, and_false, true_or, or_true, false_or, or_false, decide_true, decide_false, Bool.and_self, Bool.true_and, Bool.and_true, Bool.false_and, Bool.and_false, Bool.true_or, Bool.or_true, Bool.false_or, Bool.or_false, Bool.not_true, Bool.not_false, gR_42, pR_42, hR_10_42, h0]
  · have hn1 : wU w 0 10 (nI 0) 0 1 = nI n := by simp [wU, hn]
    have hL : wU w 0 10 (nI 0) 8 = w 8 := by funext i; simp [wU]
    have h22 : wU w 0 10 (nI 0) 22 = w 22 := by funext i; simp [wU]
    simp (disch := first | omega | with_reducible assumption | exact cobR | exact bI_01 _ | exact Or.inl rfl | exact Or.inr rfl | (simp (decide := true) only [wid_0, wid_i, wid_l, wid_r, wid_n]; done) | decide | fail) only [s167_0, s167_1, s167_4, s167_7 (st := []), s167_8, s167_9, s167_10, s167_13, s167_14, Option.bind_some, Option.bind_none, Option.toList_some, Option.toList_none, List.cons_append, List.nil_append, clr_i, clr_r, clr_l, clr_n, nI_add, nsub, pk_mul, nle_F, nle_T, nlt_F, nlt_T, neq_F, nz_F, nz_T, nneg_F, npos_T, npos_lF, npos_lT, nle0_F, m1_neg, m1_pos, m1_z, neq_m1, m1_neq, ↓reduceIte, if_true, if_false, not_true_eq_false, not_false_eq_true, bI_eq0, Bool.true_eq_false, Bool.false_eq_true, true_and, and_true, false_and, and_false, true_or, or_true, false_or, or_false, decide_true, decide_false, Bool.and_self, Bool.true_and, Bool.and_true, Bool.false_and, Bool.and_false, Bool.true_or, Bool.or_true, Bool.false_or, Bool.or_false, Bool.not_true, Bool.not_false, gR_42, pR_42, hR_10_42, h0]
    generalize wU w 0 10 (nI 0) = w1 at hn1 hL h22 ⊢
    have k1 := loopE (fun k => Ev (d + 1) 167 15 [some (.ref m), some (.int (nI k)), none, none] [] (sz, us, emR f m (wT w1 22 (cop (w 22) (w 8) k)) y)) 1440 (fun k hk => by
      show Ev _ _ _ _ _ _ = Ev _ _ _ _ _ _
      rw [s167_15]
      simp (disch := first | omega | with_reducible assumption | exact cobR | exact bI_01 _ | exact Or.inl rfl | exact Or.inr rfl | (simp (decide := true) only [wid_0, wid_i, wid_l, wid_r, wid_n]; done) | decide | fail) only [s167_16, s167_19, s167_22, s167_23, s167_26, s167_27, s167_28, s167_31, s167_32, s167_33, s167_34, s167_37, Option.bind_some, Option.bind_none, Option.toList_some, Option.toList_none, List.cons_append, List.nil_append, clr_i, clr_r, clr_l, clr_n, nI_add, nsub, pk_mul, nle_F, nle_T, nlt_F, nlt_T, neq_F, nz_F, nz_T, nneg_F, npos_T, npos_lF, npos_lT, nle0_F, m1_neg, m1_pos, m1_z, neq_m1, m1_neq, ↓reduceIte, if_true, if_false, not_true_eq_false, not_false_eq_true, bI_eq0, Bool.true_eq_false, Bool.false_eq_true, true_and, and_true, false_and, and_false, true_or, or_true, false_or, or_false, decide_true, decide_false, Bool.and_self, Bool.true_and, Bool.and_true, Bool.false_and, Bool.and_false, Bool.true_or, Bool.or_true, Bool.false_or, Bool.or_false, Bool.not_true, Bool.not_false, gR_39, ra_8, wa_8, ha_8, gR_90, ra_22, wa_22, ha_22]
      rw [wT_up, wT_off _ _ _ _ (by decide), hL]
      congr 5
      funext i
      unfold upd cop
      by_cases q : i = k
      · subst q; simp
      · by_cases q2 : i < k
        · simp [q, q2, show i < k + 1 by omega]
        · simp [q, q2, show ¬ i < k + 1 by omega])
    have e0 : cop (w 22) (w 8) 0 = w1 22 := by rw [h22]; funext i; simp [cop]
    have e1 : emR f m w1 y = emR f m (wT w1 22 (cop (w 22) (w 8) 0)) y := by rw [e0, wT_self]
    rw [e1]
    refine k1.trans ?_
    show Ev _ _ _ _ _ _ = _
    rw [s167_15]
    simp (disch := first | omega | with_reducible assumption | exact cobR | exact bI_01 _ | exact Or.inl rfl | exact Or.inr rfl | (simp (decide := true) only [wid_0, wid_i, wid_l, wid_r, wid_n]; done) | decide | fail) only [s167_16, s167_19, s167_22, s167_23, s167_26, s167_27, s167_28, s167_31, s167_32, s167_33, s167_34, s167_37, s167_40, s167_41, Option.bind_some, Option.bind_none, Option.toList_some, Option.toList_none, List.cons_append, List.nil_append, clr_i, clr_r, clr_l, clr_n, nI_add, nsub, pk_mul, nle_F, nle_T, nlt_F, nlt_T, neq_F, nz_F, nz_T, nneg_F, npos_T, npos_lF, npos_lT, nle0_F, m1_neg, m1_pos, m1_z, neq_m1, m1_neq, ↓reduceIte, if_true, if_false, not_true_eq_false, not_false_eq_true, bI_eq0, Bool.true_eq_false, Bool.false_eq_true, true_and, and_true, false_and, and_false, true_or, or_true, false_or, or_false, decide_true, decide_false, Bool.and_self, Bool.true_and, Bool.and_true, Bool.false_and, Bool.and_false, Bool.true_or, Bool.or_true, Bool.false_or, Bool.or_false, Bool.not_true, Bool.not_false]
    obtain ⟨b, k2⟩ := loopA (fun r (j : Option Value × Option Value) => Ev (d + 1) 167 42 [some (.ref m), some (.int (nI r)), j.1, j.2] [] (sz, us, emR f m (wT w1 22 (cop (w 22) (rch (w 8) r) 1440)) y)) (3 * n) (fun r hr j => by
      obtain ⟨j1, j2⟩ := j
      have hstates : wT w1 22 (cop (w 22) (rch (w 8) r) 1440) 0 1 = nI n := by rw [wT_off _ _ _ _ (by decide), hn1]
      have er : cop (w 22) (rch (w 8) r) 1440 = rowU (cop (w 22) (rch (w 8) r) 1440) r (blk (w 8) r) := by
        funext i
        unfold rowU
        by_cases q : i / 16 = r
        · rw [if_pos q]
          unfold cop rch blk
          rw [if_pos (by omega), if_neg (by omega), show 16 * r + i % 16 = i by omega]
        · rw [if_neg q]
      obtain ⟨b3, k3⟩ := loopA (fun b (j2 : Option Value) => Ev (d + 1) 167 54 [some (.ref m), some (.int (nI r)), some (.int (nI b)), j2] [] (sz, us, emR f m (wT w1 22 (rowU (cop (w 22) (rch (w 8) r) 1440) r (itr cloB (blk (w 8) r) b))) y)) 16 (fun b hb j2 => by
        refine ⟨some (.int (nI 16)), ?_⟩
        show Ev _ _ _ _ _ _ = Ev _ _ _ _ _ _
        rw [itr_s]
        generalize itr cloB (blk (w 8) r) b = R
        generalize cop (w 22) (rch (w 8) r) 1440 = T
        rw [s167_54]
        simp (disch := first | omega | with_reducible assumption | exact cobR | exact bI_01 _ | exact Or.inl rfl | exact Or.inr rfl | (simp (decide := true) only [wid_0, wid_i, wid_l, wid_r, wid_n]; done) | decide | fail) only [s167_55, s167_57, s167_60, s167_61, Option.bind_some, Option.bind_none, Option.toList_some, Option.toList_none, List.cons_append, List.nil_append, clr_i, clr_r, clr_l, clr_n, nI_add, nsub, pk_mul, nle_F, nle_T, nlt_F, nlt_T, neq_F, nz_F, nz_T, nneg_F, npos_T, npos_lF, npos_lT, nle0_F, m1_neg, m1_pos, m1_z, neq_m1, m1_neq, ↓reduceIte, if_true, if_false, not_true_eq_false, not_false_eq_true, bI_eq0, Bool.true_eq_false, Bool.false_eq_true, true_and, and_true, false_and, and_false, true_or, or_true, false_or, or_false, decide_true, decide_false, Bool.and_self, Bool.true_and, Bool.and_true, Bool.false_and, Bool.and_false, Bool.true_or, Bool.or_true, Bool.false_or, Bool.or_false, Bool.not_true, Bool.not_false]
        have k4 := loopE (fun p => Ev (d + 1) 167 62 [some (.ref m), some (.int (nI r)), some (.int (nI b)), some (.int (nI p))] [] (sz, us, emR f m (wT w1 22 (rowU T r (itr (cloP b) R p))) y)) 16 (fun p hp => by
          show Ev _ _ _ _ _ _ = Ev _ _ _ _ _ _
          rw [itr_s]
          generalize itr (cloP b) R p = R2
          have c1 : wT w1 22 (rowU T r R2) 22 (16 * r + p) = R2 p := by rw [wT_at, rowU_at _ _ _ hp]
          have c2 : wT w1 22 (rowU T r R2) 22 (16 * r + b) = R2 b := by rw [wT_at, rowU_at _ _ _ hb]
          rw [s167_62]
          unfold cloP
          cases h1 : tb (R2 p) b
          · simp (disch := first | omega | with_reducible assumption | exact cobR | exact bI_01 _ | exact Or.inl rfl | exact Or.inr rfl | (simp (decide := true) only [wid_0, wid_i, wid_l, wid_r, wid_n]; done) | decide | fail) only [s167_63, s167_65, s167_68, s167_69, s167_70, s167_73, s167_75, s167_76, s167_77, s167_78, s167_79, s167_80, s167_81, s167_84, s167_87, s167_88, s167_91, s167_93, s167_94, s167_95, s167_96, s167_97, s167_98, s167_99, s167_100, s167_103, s167_105, s167_106, s167_107, s167_108, s167_109, s167_110, s167_111, s167_112, s167_115, Option.bind_some, Option.bind_none, Option.toList_some, Option.toList_none, List.cons_append, List.nil_append, clr_i, clr_r, clr_l, clr_n, nI_add, nsub, pk_mul, nle_F, nle_T, nlt_F, nlt_T, neq_F, nz_F, nz_T, nneg_F, npos_T, npos_lF, npos_lT, nle0_F, m1_neg, m1_pos, m1_z, neq_m1, m1_neq, ↓reduceIte, if_true, if_false, not_true_eq_false, not_false_eq_true, bI_eq0, Bool.true_eq_false, Bool.false_eq_true, true_and, and_true, false_and, and_false, true_or, or_true, false_or, or_false, decide_true, decide_false, Bool.and_self, Bool.true_and, Bool.and_true, Bool.false_and, Bool.and_false, Bool.true_or, Bool.or_true, Bool.false_or, Bool.or_false, Bool.not_true, Bool.not_false, gR_90, ra_22, wa_22, ha_22, R_isIn, c1, c2, h1]
          · simp (disch := first | omega | with_reducible assumption | exact cobR | exact bI_01 _ | exact Or.inl rfl | exact Or.inr rfl | (simp (decide := true) only [wid_0, wid_i, wid_l, wid_r, wid_n]; done) | decide | fail) only [s167_63, s167_65, s167_68, s167_69, s167_70, s167_73, s167_75, s167_76, s167_77, s167_78, s167_79, s167_80, s167_81, s167_84, s167_87, s167_88, s167_91, s167_93, s167_94, s167_95, s167_96, s167_97, s167_98, s167_99, s167_100, s167_103, s167_105, s167_106, s167_107, s167_108, s167_109, s167_110, s167_111, s167_112, s167_115, Option.bind_some, Option.bind_none, Option.toList_some, Option.toList_none, List.cons_append, List.nil_append, clr_i, clr_r, clr_l, clr_n, nI_add, nsub, pk_mul, nle_F, nle_T, nlt_F, nlt_T, neq_F, nz_F, nz_T, nneg_F, npos_T, npos_lF, npos_lT, nle0_F, m1_neg, m1_pos, m1_z, neq_m1, m1_neq, ↓reduceIte, if_true, if_false, not_true_eq_false, not_false_eq_true, bI_eq0, Bool.true_eq_false, Bool.false_eq_true, true_and, and_true, false_and, and_false, true_or, or_true, false_or, or_false, decide_true, decide_false, Bool.and_self, Bool.true_and, Bool.and_true, Bool.false_and, Bool.and_false, Bool.true_or, Bool.or_true, Bool.false_or, Bool.or_false, Bool.not_true, Bool.not_false, gR_90, ra_22, wa_22, ha_22, R_isIn, c1, c2, h1, wT_up]
            rw [rowU_up _ _ _ hp])
        refine k4.trans ?_
        show Ev _ _ _ _ _ _ = _
        rw [s167_62]
        simp (disch := first | omega | with_reducible assumption | exact cobR | exact bI_01 _ | exact Or.inl rfl | exact Or.inr rfl | (simp (decide := true) only [wid_0, wid_i, wid_l, wid_r, wid_n]; done) | decide | fail) only [s167_63, s167_65, s167_68, s167_69, s167_70, s167_73, s167_75, s167_76, s167_77, s167_78, s167_79, s167_80, s167_81, s167_84, s167_87, s167_88, s167_91, s167_93, s167_94, s167_95, s167_96, s167_97, s167_98, s167_99, s167_100, s167_103, s167_105, s167_106, s167_107, s167_108, s167_109, s167_110, s167_111, s167_112, s167_115, s167_118, s167_121, Option.bind_some, Option.bind_none, Option.toList_some, Option.toList_none, List.cons_append, List.nil_append, clr_i, clr_r, clr_l, clr_n, nI_add, nsub, pk_mul, nle_F, nle_T, nlt_F, nlt_T, neq_F, nz_F, nz_T, nneg_F, npos_T, npos_lF, npos_lT, nle0_F, m1_neg, m1_pos, m1_z, neq_m1, m1_neq, ↓reduceIte, if_true, if_false, not_true_eq_false, not_false_eq_true, bI_eq0, Bool.true_eq_false, Bool.false_eq_true, true_and, and_true, false_and, and_false, true_or, or_true, false_or, or_false, decide_true, decide_false, Bool.and_self, Bool.true_and, Bool.and_true, Bool.false_and, Bool.and_false, Bool.true_or, Bool.or_true, Bool.false_or, Bool.or_false, Bool.not_true, Bool.not_false]
        rfl) j2
      refine ⟨(some (.int (nI 16)), b3), ?_⟩
      show Ev _ _ _ [_, _, j1, j2] _ _ = Ev _ _ _ _ _ _
      rw [s167_42]
      simp (disch := first | omega | with_reducible assumption | exact cobR | exact bI_01 _ | exact Or.inl rfl | exact Or.inr rfl | (simp (decide := true) only [wid_0, wid_i, wid_l, wid_r, wid_n]; done) | decide | fail) only [s167_43, s167_44, s167_45, s167_48, s167_49, s167_52, s167_53, Option.bind_some, Option.bind_none, Option.toList_some, Option.toList_none, List.cons_append, List.nil_append, clr_i, clr_r, clr_l, clr_n, nI_add, nsub, pk_mul, nle_F, nle_T, nlt_F, nlt_T, neq_F, nz_F, nz_T, nneg_F, npos_T, npos_lF, npos_lT, nle0_F, m1_neg, m1_pos, m1_z, neq_m1, m1_neq, ↓reduceIte, if_true, if_false, not_true_eq_false, not_false_eq_true, bI_eq0, Bool.true_eq_false, Bool.false_eq_true, true_and, and_true, false_and, and_false, true_or, or_true, false_or, or_false, decide_true, decide_false, Bool.and_self, Bool.true_and, Bool.and_true, Bool.false_and, Bool.and_false, Bool.true_or, Bool.or_true, Bool.false_or, Bool.or_false, Bool.not_true, Bool.not_false, gR_13, pR_13, hR_1_13, hstates]
      rw [er]
      refine k3.trans ?_
      show Ev _ _ _ _ _ _ = _
      rw [s167_54]
      simp (disch := first | omega | with_reducible assumption | exact cobR | exact bI_01 _ | exact Or.inl rfl | exact Or.inr rfl | (simp (decide := true) only [wid_0, wid_i, wid_l, wid_r, wid_n]; done) | decide | fail) only [s167_55, s167_57, s167_60, s167_61, s167_62, s167_63, s167_65, s167_68, s167_69, s167_70, s167_73, s167_75, s167_76, s167_77, s167_78, s167_79, s167_80, s167_81, s167_84, s167_87, s167_88, s167_91, s167_93, s167_94, s167_95, s167_96, s167_97, s167_98, s167_99, s167_100, s167_103, s167_105, s167_106, s167_107, s167_108, s167_109, s167_110, s167_111, s167_112, s167_115, s167_118, s167_121, s167_124, s167_127, Option.bind_some, Option.bind_none, Option.toList_some, Option.toList_none, List.cons_append, List.nil_append, clr_i, clr_r, clr_l, clr_n, nI_add, nsub, pk_mul, nle_F, nle_T, nlt_F, nlt_T, neq_F, nz_F, nz_T, nneg_F, npos_T, npos_lF, npos_lT, nle0_F, m1_neg, m1_pos, m1_z, neq_m1, m1_neq, ↓reduceIte, if_true, if_false, not_true_eq_false, not_false_eq_true, bI_eq0, Bool.true_eq_false, Bool.false_eq_true, true_and, and_true, false_and, and_false, true_or, or_true, false_or, or_false, decide_true, decide_false, Bool.and_self, Bool.true_and, Bool.and_true, Bool.false_and, Bool.and_false, Bool.true_or, Bool.or_true, Bool.false_or, Bool.or_false, Bool.not_true, Bool.not_false]
      congr 5
      funext i
      unfold rowU
      by_cases q : i / 16 = r
      · rw [if_pos q]
        unfold cop rch
        rw [if_pos (by omega), if_pos (by omega), q]
        rfl
      · rw [if_neg q]
        unfold cop rch
        by_cases q2 : i / 16 < r
        · simp only [if_pos q2, if_pos (show i / 16 < r + 1 by omega)]
        · simp only [if_neg q2, if_neg (show ¬ i / 16 < r + 1 by omega)]) (none, none)
    obtain ⟨b1, b2⟩ := b
    have ez : cop (w 22) (w 8) 1440 = cop (w 22) (rch (w 8) 0) 1440 := by
      congr 1
    rw [ez]
    refine k2.trans ?_
    show Ev _ _ _ [_, _, b1, b2] _ _ = _
    have hstates : wT w1 22 (cop (w 22) (rch (w 8) (3 * n)) 1440) 0 1 = nI n := by rw [wT_off _ _ _ _ (by decide), hn1]
    rw [s167_42]
    simp (disch := first | omega | with_reducible assumption | exact cobR | exact bI_01 _ | exact Or.inl rfl | exact Or.inr rfl | (simp (decide := true) only [wid_0, wid_i, wid_l, wid_r, wid_n]; done) | decide | fail) only [s167_43, s167_44, s167_45, s167_48, s167_49, s167_52, s167_53, s167_54, s167_55, s167_57, s167_60, s167_61, s167_62, s167_63, s167_65, s167_68, s167_69, s167_70, s167_73, s167_75, s167_76, s167_77, s167_78, s167_79, s167_80, s167_81, s167_84, s167_87, s167_88, s167_91, s167_93, s167_94, s167_95, s167_96, s167_97, s167_98, s167_99, s167_100, s167_103, s167_105, s167_106, s167_107, s167_108, s167_109, s167_110, s167_111, s167_112, s167_115, s167_118, s167_121, s167_124, s167_127, s167_130 (st := []), Option.bind_some, Option.bind_none, Option.toList_some, Option.toList_none, List.cons_append, List.nil_append, clr_i, clr_r, clr_l, clr_n, nI_add, nsub, pk_mul, nle_F, nle_T, nlt_F, nlt_T, neq_F, nz_F, nz_T, nneg_F, npos_T, npos_lF, npos_lT, nle0_F, m1_neg, m1_pos, m1_z, neq_m1, m1_neq, ↓reduceIte, if_true, if_false, not_true_eq_false, not_false_eq_true, bI_eq0, Bool.true_eq_false, Bool.false_eq_true, true_and, and_true, false_and, and_false, true_or, or_true, false_or, or_false, decide_true, decide_false, Bool.and_self, Bool.true_and, Bool.and_true, Bool.false_and, Bool.and_false, Bool.true_or, Bool.or_true, Bool.false_or, Bool.or_false, Bool.not_true, Bool.not_false, gR_13, pR_13, hR_1_13, hstates]
end R6
