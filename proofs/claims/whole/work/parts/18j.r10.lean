/-! the reference: which terms are asked -/
def wAT (w : WD) (A F T : Nat → Int32) : WD := fun k => if k = 19 then A else if k = 20 then F else if k = 21 then T else w k
theorem wAT_u19 (w : WD) (A F T : Nat → Int32) (i : Nat) (x : Int32) : wU (wAT w A F T) 19 i x = wAT w (upd A i x) F T := by
  funext k j
  unfold wU wAT upd
  by_cases q : k = 19
  · subst q; simp
  · by_cases q2 : k = 20
    · subst q2; simp
    · by_cases q3 : k = 21 <;> simp [q, q2, q3]
theorem wAT_u20 (w : WD) (A F T : Nat → Int32) (i : Nat) (x : Int32) : wU (wAT w A F T) 20 i x = wAT w A (upd F i x) T := by
  funext k j
  unfold wU wAT upd
  by_cases q : k = 20
  · subst q; simp
  · by_cases q2 : k = 19
    · subst q2; simp
    · by_cases q3 : k = 21 <;> simp [q, q2, q3]
theorem wAT_u21 (w : WD) (A F T : Nat → Int32) (i : Nat) (x : Int32) : wU (wAT w A F T) 21 i x = wAT w A F (upd T i x) := by
  funext k j
  unfold wU wAT upd
  by_cases q : k = 21
  · subst q; simp
  · by_cases q2 : k = 19
    · subst q2; simp
    · by_cases q3 : k = 20 <;> simp [q, q2, q3]
theorem wAT_self (w : WD) : wAT w (w 19) (w 20) (w 21) = w := by
  funext k j
  unfold wAT
  by_cases q : k = 19
  · subst q; simp
  · by_cases q2 : k = 20
    · subst q2; simp
    · by_cases q3 : k = 21
      · subst q3; simp
      · simp [q, q2, q3]
theorem wAT_10 (w : WD) (A F T : Nat → Int32) (i : Nat) : wAT w A F T 10 i = w 10 i := rfl
theorem wAT_11 (w : WD) (A F T : Nat → Int32) (i : Nat) : wAT w A F T 11 i = w 11 i := rfl
theorem wAT_12 (w : WD) (A F T : Nat → Int32) (i : Nat) : wAT w A F T 12 i = w 12 i := rfl
theorem wAT_19 (w : WD) (A F T : Nat → Int32) (i : Nat) : wAT w A F T 19 i = A i := rfl
theorem wAT_20 (w : WD) (A F T : Nat → Int32) (i : Nat) : wAT w A F T 20 i = F i := rfl
theorem wAT_21 (w : WD) (A F T : Nat → Int32) (i : Nat) : wAT w A F T 21 i = T i := rfl
/-- the term k has what it needs asked -/
def okA (tm : Nat → Nat → Nat) (k : Nat) (A F T : Nat → Int32) : Prop := A k = nI 1 → 6 ≤ tm k 0 → (tm k 0 < 14 → A (tm k 1) = nI 1 ∧ A (tm k 2) = nI 1) ∧ (tm k 0 = 14 → A (tm k 2) = nI 1 ∧ F (tm k 1) = nI 0 ∧ T (tm k 1) = nI 15)
def AI (tm : Nat → Nat → Nat) (t : Nat) (F0 T0 : Nat → Int32) (j : Nat) (s : (Nat → Int32) × (Nat → Int32) × (Nat → Int32)) : Prop :=
  (∀ i, i < 60 → s.1 i = nI 0 ∨ s.1 i = nI 1) ∧ s.1 t = nI 1 ∧ (∀ k, k ≤ t → t < k + j → okA tm k s.1 s.2.1 s.2.2) ∧ (∀ v, v < 3 → (s.2.1 v = F0 v ∧ s.2.2 v = T0 v) ∨ (s.2.1 v = nI 0 ∧ s.2.2 v = nI 15))
def dn (t j : Nat) : Int32 := if j ≤ t then nI (t - j) else -1
theorem dn_s {t j : Nat} (h : j ≤ t) (ht : t < 60) : nI (t - j) + (-1) = dn t (j + 1) := by
  unfold dn
  by_cases q : j + 1 ≤ t
  · rw [if_pos q, nm1 (by omega), show t - j - 1 = t - (j + 1) by omega]
  · rw [if_neg q, show t - j = 0 by omega]; rfl
theorem nar_1 : vp_nar .boolean (nI 1) = nI 1 := rfl
theorem nar_0 : vp_nar .boolean (nI 0) = nI 0 := rfl
theorem up01 {A : Nat → Int32} {c : Nat} (h : ∀ i, i < 60 → A i = nI 0 ∨ A i = nI 1) : ∀ i, i < 60 → upd A c (nI 1) i = nI 0 ∨ upd A c (nI 1) i = nI 1 := by
  intro i hi
  by_cases q : i = c
  · right; rw [q, upd_at]
  · rw [upd_of q]; exact h i hi
theorem up1 {A : Nat → Int32} {c i : Nat} (h : A i = nI 1) : upd A c (nI 1) i = nI 1 := by
  by_cases q : i = c
  · rw [q, upd_at]
  · rw [upd_of q]; exact h
/-- a term asked below k leaves the terms from k up as they are -/
theorem okA_up {tm : Nat → Nat → Nat} {k k' c : Nat} {A F T : Nat → Int32} (hc : c < k) (hk : k ≤ k') (h : okA tm k' A F T) : okA tm k' (upd A c (nI 1)) F T := by
  intro h1 h2
  rw [upd_of (by omega)] at h1
  obtain ⟨a, b⟩ := h h1 h2
  exact ⟨fun q => ⟨up1 (a q).1, up1 (a q).2⟩, fun q => ⟨up1 (b q).1, (b q).2⟩⟩
theorem okA_ft {tm : Nat → Nat → Nat} {k v : Nat} {A F T : Nat → Int32} (h : okA tm k A F T) : okA tm k A (upd F v (nI 0)) (upd T v (nI 15)) := by
  intro h1 h2
  obtain ⟨a, b⟩ := h h1 h2
  refine ⟨a, fun q => ⟨(b q).1, ?_⟩⟩
  by_cases e : tm k 1 = v
  · rw [e, upd_at, upd_at]; exact ⟨rfl, rfl⟩
  · rw [upd_of e, upd_of e]; exact (b q).2
section R10
variable {f : Hf} {m d sz us : Nat} {w : WD} {y : Nat → Int64}
theorem R_ask {tm : Nat → Nat → Nat} {t : Nat} (ht : t < 60) (hT : ∀ i, i ≤ t → TMt w tm i) : ∃ A F T, AI tm t (w 20) (w 21) (t + 1) (A, F, T) ∧ Ev d 168 0 [some (.ref m), some (.int (nI t)), none] [] (sz, us, emR f m w y) = some (none, (sz, us, emR f m (wAT w A F T) y)) := by
  simp (maxSteps := 2000000) (disch := first | omega | with_reducible assumption | exact cobR | exact bI_01 _ | exact Or.inl rfl | exact Or.inr rfl | (simp (decide := true) only [wid_0, wid_i, wid_l, wid_r, wid_n]; done) | decide | fail) only [s168_0, s168_1, Option.bind_some, Option.bind_none, Option.toList_some, Option.toList_none, List.cons_append, List.nil_append, clr_i, clr_r, clr_l, clr_n, nI_add, nsub, pk_mul, nle_F, nle_T, nlt_F, nlt_T, neq_F, nz_F, nz_T, nneg_F, npos_T, npos_lF, npos_lT, nle0_F, m1_neg, m1_pos, m1_z, neq_m1, m1_neq, ↓reduceIte, if_true, if_false, not_true_eq_false, not_false_eq_true, bI_eq0, Bool.true_eq_false, Bool.false_eq_true, true_and, and_true, false_and, and_false, true_or, or_true, false_or, or_false, decide_true, decide_false, Bool.and_self, Bool.true_and, Bool.and_true, Bool.false_and, Bool.and_false, Bool.true_or, Bool.or_true, Bool.false_or, Bool.or_false, Bool.not_true, Bool.not_false]
  have k1 := loopE (fun k => Ev d 168 2 [some (.ref m), some (.int (nI t)), some (.int (nI k))] [] (sz, us, emR f m (wAT w (fun i => if i < k then (if i = t then nI 1 else nI 0) else w 19 i) (w 20) (w 21)) y)) 60 (fun k hk => by
    show Ev _ _ _ _ _ _ = Ev _ _ _ _ _ _
    rw [s168_2]
    have e : (fun i => if i < k + 1 then (if i = t then nI 1 else nI 0) else w 19 i) = upd (fun i => if i < k then (if i = t then nI 1 else nI 0) else w 19 i) k (if k = t then nI 1 else nI 0) := by
      funext i
      by_cases q : i = k
      · subst q; simp [upd]
      · by_cases q2 : i < k
        · simp [upd, q, q2, show i < k + 1 by omega]
        · simp [upd, q, q2, show ¬ i < k + 1 by omega]
    rw [e]
    generalize (fun i => if i < k then (if i = t then nI 1 else nI 0) else w 19 i) = A
    by_cases q : k = t
    · have hq : (nI k = nI t) = True := by rw [q]; simp
      simp (maxSteps := 2000000) (disch := first | omega | with_reducible assumption | exact cobR | exact bI_01 _ | exact Or.inl rfl | exact Or.inr rfl | (simp (decide := true) only [wid_0, wid_i, wid_l, wid_r, wid_n]; done) | decide | fail) only [s168_3, s168_5, s168_8, s168_9, s168_12, s168_13, s168_14, s168_15, s168_18, s168_19, s168_22, s168_23, s168_24, s168_27, Option.bind_some, Option.bind_none, Option.toList_some, Option.toList_none, List.cons_append, List.nil_append, clr_i, clr_r, clr_l, clr_n, nI_add, nsub, pk_mul, nle_F, nle_T, nlt_F, nlt_T, neq_F, nz_F, nz_T, nneg_F, npos_T, npos_lF, npos_lT, nle0_F, m1_neg, m1_pos, m1_z, neq_m1, m1_neq, ↓reduceIte, if_true, if_false, not_true_eq_false, not_false_eq_true, bI_eq0, Bool.true_eq_false, Bool.false_eq_true, true_and, and_true, false_and, and_false, true_or, or_true, false_or, or_false, decide_true, decide_false, Bool.and_self, Bool.true_and, Bool.and_true, Bool.false_and, Bool.and_false, Bool.true_or, Bool.or_true, Bool.false_or, Bool.or_false, Bool.not_true, Bool.not_false, gR_81, ra_19, wa_19, ha_19, wAT_19, wAT_u19, nar_1, nar_0, hq]
      rw [if_pos q]
    · simp (maxSteps := 2000000) (disch := first | omega | with_reducible assumption | exact cobR | exact bI_01 _ | exact Or.inl rfl | exact Or.inr rfl | (simp (decide := true) only [wid_0, wid_i, wid_l, wid_r, wid_n]; done) | decide | fail) only [s168_3, s168_5, s168_8, s168_9, s168_12, s168_13, s168_14, s168_15, s168_18, s168_19, s168_22, s168_23, s168_24, s168_27, Option.bind_some, Option.bind_none, Option.toList_some, Option.toList_none, List.cons_append, List.nil_append, clr_i, clr_r, clr_l, clr_n, nI_add, nsub, pk_mul, nle_F, nle_T, nlt_F, nlt_T, neq_F, nz_F, nz_T, nneg_F, npos_T, npos_lF, npos_lT, nle0_F, m1_neg, m1_pos, m1_z, neq_m1, m1_neq, ↓reduceIte, if_true, if_false, not_true_eq_false, not_false_eq_true, bI_eq0, Bool.true_eq_false, Bool.false_eq_true, true_and, and_true, false_and, and_false, true_or, or_true, false_or, or_false, decide_true, decide_false, Bool.and_self, Bool.true_and, Bool.and_true, Bool.false_and, Bool.and_false, Bool.true_or, Bool.or_true, Bool.false_or, Bool.or_false, Bool.not_true, Bool.not_false, gR_81, ra_19, wa_19, ha_19, wAT_19, wAT_u19, nar_1, nar_0]
      rw [if_neg q])
  have e0 : emR f m w y = emR f m (wAT w (fun i => if i < 0 then (if i = t then nI 1 else nI 0) else w 19 i) (w 20) (w 21)) y := by
    congr 1
    exact (wAT_self w).symm
  rw [e0]
  rw [show Ev d 168 2 [some (.ref m), some (.int (nI t)), some (.int (nI 0))] [] (sz, us, emR f m (wAT w (fun i => if i < 0 then (if i = t then nI 1 else nI 0) else w 19 i) (w 20) (w 21)) y) = _ from k1]
  obtain ⟨s', hI, k2⟩ := loopI (fun j (s : (Nat → Int32) × (Nat → Int32) × (Nat → Int32)) => Ev d 168 32 [some (.ref m), some (.int (nI t)), some (.int (dn t j))] [] (sz, us, emR f m (wAT w s.1 s.2.1 s.2.2) y)) (AI tm t (w 20) (w 21)) 0 (t + 1) (by omega) (fun j _ hj s hs => by
    obtain ⟨A, F, T⟩ := s
    obtain ⟨i1, i2, i3, i4⟩ := hs
    have ed : dn t j = nI (t - j) := by unfold dn; rw [if_pos (by omega)]
    have es := dn_s (t := t) (j := j) (by omega) ht
    generalize hk : t - j = k at ed es
    have hkt : k ≤ t := by omega
    obtain ⟨t1, t2, -, -, t5, t6⟩ := hT k hkt
    have stay : okA tm k A F T → ∀ k', k' ≤ t → t < k' + (j + 1) → okA tm k' A F T := fun h k' a b => by
      by_cases q : k' = k
      · rw [q]; exact h
      · exact i3 k' a (by omega)
    rcases (show A k = nI 0 ∨ A k = nI 1 from i1 k (by omega)) with h0 | h0
    · refine ⟨(A, F, T), ⟨i1, i2, stay (fun q => absurd (h0.symm.trans q) (by decide)), i4⟩, ?_⟩
      show Ev _ _ _ _ _ _ = Ev _ _ _ _ _ _
      rw [ed, s168_32]
      simp (maxSteps := 2000000) (disch := first | omega | with_reducible assumption | exact cobR | exact bI_01 _ | exact Or.inl rfl | exact Or.inr rfl | (simp (decide := true) only [wid_0, wid_i, wid_l, wid_r, wid_n]; done) | decide | fail) only [s168_33, s168_36, s168_37, s168_40, s168_41, s168_42, s168_45, s168_46, s168_49, s168_50, s168_51, s168_53, s168_56, s168_59, s168_60, s168_63, s168_64, s168_65, s168_67, s168_70, s168_71, s168_74, s168_75, s168_78, s168_79, s168_80, s168_81, s168_82, s168_83, s168_86, s168_87, s168_90, s168_91, s168_92, s168_94, s168_95, s168_96, s168_99, s168_100, s168_103, s168_104, s168_105, s168_106, s168_107, s168_110, s168_111, s168_114, s168_115, s168_118, s168_119, s168_120, s168_121, s168_122, s168_123, s168_126, s168_127, s168_130, s168_131, s168_132, s168_133, s168_134, s168_137, Option.bind_some, Option.bind_none, Option.toList_some, Option.toList_none, List.cons_append, List.nil_append, clr_i, clr_r, clr_l, clr_n, nI_add, nsub, pk_mul, nle_F, nle_T, nlt_F, nlt_T, neq_F, nz_F, nz_T, nneg_F, npos_T, npos_lF, npos_lT, nle0_F, m1_neg, m1_pos, m1_z, neq_m1, m1_neq, ↓reduceIte, if_true, if_false, not_true_eq_false, not_false_eq_true, bI_eq0, Bool.true_eq_false, Bool.false_eq_true, true_and, and_true, false_and, and_false, true_or, or_true, false_or, or_false, decide_true, decide_false, Bool.and_self, Bool.true_and, Bool.and_true, Bool.false_and, Bool.and_false, Bool.true_or, Bool.or_true, Bool.false_or, Bool.or_false, Bool.not_true, Bool.not_false, gR_81, ra_19, wa_19, ha_19, wAT_19, h0, es]
    · by_cases h6 : tm k 0 < 6
      · refine ⟨(A, F, T), ⟨i1, i2, stay (fun _ q => absurd q (by omega)), i4⟩, ?_⟩
        show Ev _ _ _ _ _ _ = Ev _ _ _ _ _ _
        rw [ed, s168_32]
        simp (maxSteps := 2000000) (disch := first | omega | with_reducible assumption | exact cobR | exact bI_01 _ | exact Or.inl rfl | exact Or.inr rfl | (simp (decide := true) only [wid_0, wid_i, wid_l, wid_r, wid_n]; done) | decide | fail) only [s168_33, s168_36, s168_37, s168_40, s168_41, s168_42, s168_45, s168_46, s168_49, s168_50, s168_51, s168_53, s168_56, s168_59, s168_60, s168_63, s168_64, s168_65, s168_67, s168_70, s168_71, s168_74, s168_75, s168_78, s168_79, s168_80, s168_81, s168_82, s168_83, s168_86, s168_87, s168_90, s168_91, s168_92, s168_94, s168_95, s168_96, s168_99, s168_100, s168_103, s168_104, s168_105, s168_106, s168_107, s168_110, s168_111, s168_114, s168_115, s168_118, s168_119, s168_120, s168_121, s168_122, s168_123, s168_126, s168_127, s168_130, s168_131, s168_132, s168_133, s168_134, s168_137, Option.bind_some, Option.bind_none, Option.toList_some, Option.toList_none, List.cons_append, List.nil_append, clr_i, clr_r, clr_l, clr_n, nI_add, nsub, pk_mul, nle_F, nle_T, nlt_F, nlt_T, neq_F, nz_F, nz_T, nneg_F, npos_T, npos_lF, npos_lT, nle0_F, m1_neg, m1_pos, m1_z, neq_m1, m1_neq, ↓reduceIte, if_true, if_false, not_true_eq_false, not_false_eq_true, bI_eq0, Bool.true_eq_false, Bool.false_eq_true, true_and, and_true, false_and, and_false, true_or, or_true, false_or, or_false, decide_true, decide_false, Bool.and_self, Bool.true_and, Bool.and_true, Bool.false_and, Bool.and_false, Bool.true_or, Bool.or_true, Bool.false_or, Bool.or_false, Bool.not_true, Bool.not_false, gR_81, ra_19, wa_19, ha_19, gR_53, ra_10, wa_10, ha_10, wAT_19, wAT_10, h0, t1, es]
      · by_cases h14 : tm k 0 = 14
        · obtain ⟨u1, u2, u3, u4⟩ := t6 h14
          rw [h14] at t1
          refine ⟨(upd A (tm k 2) (nI 1), upd F (tm k 1) (nI 0), upd T (tm k 1) (nI 15)), ⟨up01 i1, up1 i2, fun k' a b => ?_, fun v hv => ?_⟩, ?_⟩
          · by_cases q : k' = k
            · intro _ _
              rw [q]
              exact ⟨fun q => absurd h14 (by omega), fun _ => ⟨upd_at, upd_at, upd_at⟩⟩
            · exact okA_ft (okA_up (k := k) u4 (by omega) (i3 k' a (by omega)))
          · show (upd F _ _ v = _ ∧ upd T _ _ v = _) ∨ (upd F _ _ v = _ ∧ upd T _ _ v = _)
            by_cases e : v = tm k 1
            · rw [e, upd_at, upd_at]; exact Or.inr ⟨rfl, rfl⟩
            · rw [upd_of e, upd_of e]; exact i4 v hv
          · show Ev _ _ _ _ _ _ = Ev _ _ _ _ _ _
            rw [ed, s168_32]
            simp (maxSteps := 2000000) (disch := first | omega | with_reducible assumption | exact cobR | exact bI_01 _ | exact Or.inl rfl | exact Or.inr rfl | (simp (decide := true) only [wid_0, wid_i, wid_l, wid_r, wid_n]; done) | decide | fail) only [s168_33, s168_36, s168_37, s168_40, s168_41, s168_42, s168_45, s168_46, s168_49, s168_50, s168_51, s168_53, s168_56, s168_59, s168_60, s168_63, s168_64, s168_65, s168_67, s168_70, s168_71, s168_74, s168_75, s168_78, s168_79, s168_80, s168_81, s168_82, s168_83, s168_86, s168_87, s168_90, s168_91, s168_92, s168_94, s168_95, s168_96, s168_99, s168_100, s168_103, s168_104, s168_105, s168_106, s168_107, s168_110, s168_111, s168_114, s168_115, s168_118, s168_119, s168_120, s168_121, s168_122, s168_123, s168_126, s168_127, s168_130, s168_131, s168_132, s168_133, s168_134, s168_137, Option.bind_some, Option.bind_none, Option.toList_some, Option.toList_none, List.cons_append, List.nil_append, clr_i, clr_r, clr_l, clr_n, nI_add, nsub, pk_mul, nle_F, nle_T, nlt_F, nlt_T, neq_F, nz_F, nz_T, nneg_F, npos_T, npos_lF, npos_lT, nle0_F, m1_neg, m1_pos, m1_z, neq_m1, m1_neq, ↓reduceIte, if_true, if_false, not_true_eq_false, not_false_eq_true, bI_eq0, Bool.true_eq_false, Bool.false_eq_true, true_and, and_true, false_and, and_false, true_or, or_true, false_or, or_false, decide_true, decide_false, Bool.and_self, Bool.true_and, Bool.and_true, Bool.false_and, Bool.and_false, Bool.true_or, Bool.or_true, Bool.false_or, Bool.or_false, Bool.not_true, Bool.not_false, gR_81, ra_19, wa_19, ha_19, gR_53, ra_10, wa_10, ha_10, gR_56, ra_11, wa_11, ha_11, gR_59, ra_12, wa_12, ha_12, gR_84, ra_20, wa_20, ha_20, gR_87, ra_21, wa_21, ha_21, wAT_19, wAT_10, wAT_11, wAT_12, wAT_20, wAT_21, wAT_u19, wAT_u20, wAT_u21, nar_1, h0, t1, u1, u3, es]
            all_goals rfl
        · obtain ⟨u1, u2, u3, u4⟩ := t5 (by omega) (by omega)
          refine ⟨(upd (upd A (tm k 1) (nI 1)) (tm k 2) (nI 1), F, T), ⟨up01 (up01 i1), up1 (up1 i2), fun k' a b => ?_, i4⟩, ?_⟩
          · by_cases q : k' = k
            · intro _ _
              rw [q]
              exact ⟨fun _ => ⟨up1 upd_at, upd_at⟩, fun q => absurd q h14⟩
            · exact okA_up (k := k) u4 (by omega) (okA_up (k := k) u2 (by omega) (i3 k' a (by omega)))
          · show Ev _ _ _ _ _ _ = Ev _ _ _ _ _ _
            rw [ed, s168_32]
            simp (maxSteps := 2000000) (disch := first | omega | with_reducible assumption | exact cobR | exact bI_01 _ | exact Or.inl rfl | exact Or.inr rfl | (simp (decide := true) only [wid_0, wid_i, wid_l, wid_r, wid_n]; done) | decide | fail) only [s168_33, s168_36, s168_37, s168_40, s168_41, s168_42, s168_45, s168_46, s168_49, s168_50, s168_51, s168_53, s168_56, s168_59, s168_60, s168_63, s168_64, s168_65, s168_67, s168_70, s168_71, s168_74, s168_75, s168_78, s168_79, s168_80, s168_81, s168_82, s168_83, s168_86, s168_87, s168_90, s168_91, s168_92, s168_94, s168_95, s168_96, s168_99, s168_100, s168_103, s168_104, s168_105, s168_106, s168_107, s168_110, s168_111, s168_114, s168_115, s168_118, s168_119, s168_120, s168_121, s168_122, s168_123, s168_126, s168_127, s168_130, s168_131, s168_132, s168_133, s168_134, s168_137, Option.bind_some, Option.bind_none, Option.toList_some, Option.toList_none, List.cons_append, List.nil_append, clr_i, clr_r, clr_l, clr_n, nI_add, nsub, pk_mul, nle_F, nle_T, nlt_F, nlt_T, neq_F, nz_F, nz_T, nneg_F, npos_T, npos_lF, npos_lT, nle0_F, m1_neg, m1_pos, m1_z, neq_m1, m1_neq, ↓reduceIte, if_true, if_false, not_true_eq_false, not_false_eq_true, bI_eq0, Bool.true_eq_false, Bool.false_eq_true, true_and, and_true, false_and, and_false, true_or, or_true, false_or, or_false, decide_true, decide_false, Bool.and_self, Bool.true_and, Bool.and_true, Bool.false_and, Bool.and_false, Bool.true_or, Bool.or_true, Bool.false_or, Bool.or_false, Bool.not_true, Bool.not_false, gR_81, ra_19, wa_19, ha_19, gR_53, ra_10, wa_10, ha_10, gR_56, ra_11, wa_11, ha_11, gR_59, ra_12, wa_12, ha_12, wAT_19, wAT_10, wAT_11, wAT_12, wAT_u19, nar_1, h0, t1, u1, u3, es]
            all_goals rfl) ((fun i => if i < 60 then (if i = t then nI 1 else nI 0) else w 19 i), w 20, w 21) ⟨fun i hi => by
      show (if i < 60 then (if i = t then nI 1 else nI 0) else w 19 i) = nI 0 ∨ (if i < 60 then (if i = t then nI 1 else nI 0) else w 19 i) = nI 1
      rw [if_pos hi]
      by_cases q : i = t
      · rw [if_pos q]; exact Or.inr rfl
      · rw [if_neg q]; exact Or.inl rfl, by
      show (if t < 60 then (if t = t then nI 1 else nI 0) else w 19 t) = nI 1
      rw [if_pos ht, if_pos rfl], fun k a b => absurd b (by omega), fun v _ => Or.inl ⟨rfl, rfl⟩⟩
  obtain ⟨A, F, T⟩ := s'
  refine ⟨A, F, T, hI, ?_⟩
  show Ev _ _ _ _ _ _ = _
  rw [s168_2]
  simp (maxSteps := 2000000) (disch := first | omega | with_reducible assumption | exact cobR | exact bI_01 _ | exact Or.inl rfl | exact Or.inr rfl | (simp (decide := true) only [wid_0, wid_i, wid_l, wid_r, wid_n]; done) | decide | fail) only [s168_3, s168_5, s168_8, s168_9, s168_12, s168_13, s168_14, s168_15, s168_18, s168_19, s168_22, s168_23, s168_24, s168_27, s168_30, s168_31, Option.bind_some, Option.bind_none, Option.toList_some, Option.toList_none, List.cons_append, List.nil_append, clr_i, clr_r, clr_l, clr_n, nI_add, nsub, pk_mul, nle_F, nle_T, nlt_F, nlt_T, neq_F, nz_F, nz_T, nneg_F, npos_T, npos_lF, npos_lT, nle0_F, m1_neg, m1_pos, m1_z, neq_m1, m1_neq, ↓reduceIte, if_true, if_false, not_true_eq_false, not_false_eq_true, bI_eq0, Bool.true_eq_false, Bool.false_eq_true, true_and, and_true, false_and, and_false, true_or, or_true, false_or, or_false, decide_true, decide_false, Bool.and_self, Bool.true_and, Bool.and_true, Bool.false_and, Bool.and_false, Bool.true_or, Bool.or_true, Bool.false_or, Bool.or_false, Bool.not_true, Bool.not_false]
  have ed : nI t = dn t 0 := by unfold dn; rw [if_pos (by omega)]; rfl
  rw [ed]
  have k3 : Ev d 168 32 [some (.ref m), some (.int (nI t)), some (.int (dn t 0))] [] (sz, us, emR f m (wAT w (fun i => if i < 60 then (if i = t then nI 1 else nI 0) else w 19 i) (w 20) (w 21)) y) = Ev d 168 32 [some (.ref m), some (.int (nI t)), some (.int (dn t (t + 1)))] [] (sz, us, emR f m (wAT w A F T) y) := k2
  rw [ed] at k3
  refine k3.trans ?_
  have ez : dn t (t + 1) = -1 := by unfold dn; rw [if_neg (by omega)]
  rw [ez, s168_32]
  simp (maxSteps := 2000000) (disch := first | omega | with_reducible assumption | exact cobR | exact bI_01 _ | exact Or.inl rfl | exact Or.inr rfl | (simp (decide := true) only [wid_0, wid_i, wid_l, wid_r, wid_n]; done) | decide | fail) only [s168_33, s168_36, s168_37, s168_40, s168_41, s168_42, s168_45, s168_46, s168_49, s168_50, s168_51, s168_53, s168_56, s168_59, s168_60, s168_63, s168_64, s168_65, s168_67, s168_70, s168_71, s168_74, s168_75, s168_78, s168_79, s168_80, s168_81, s168_82, s168_83, s168_86, s168_87, s168_90, s168_91, s168_92, s168_94, s168_95, s168_96, s168_99, s168_100, s168_103, s168_104, s168_105, s168_106, s168_107, s168_110, s168_111, s168_114, s168_115, s168_118, s168_119, s168_120, s168_121, s168_122, s168_123, s168_126, s168_127, s168_130, s168_131, s168_132, s168_133, s168_134, s168_137, s168_140 (st := []), Option.bind_some, Option.bind_none, Option.toList_some, Option.toList_none, List.cons_append, List.nil_append, clr_i, clr_r, clr_l, clr_n, nI_add, nsub, pk_mul, nle_F, nle_T, nlt_F, nlt_T, neq_F, nz_F, nz_T, nneg_F, npos_T, npos_lF, npos_lT, nle0_F, m1_neg, m1_pos, m1_z, neq_m1, m1_neq, ↓reduceIte, if_true, if_false, not_true_eq_false, not_false_eq_true, bI_eq0, Bool.true_eq_false, Bool.false_eq_true, true_and, and_true, false_and, and_false, true_or, or_true, false_or, or_false, decide_true, decide_false, Bool.and_self, Bool.true_and, Bool.and_true, Bool.false_and, Bool.and_false, Bool.true_or, Bool.or_true, Bool.false_or, Bool.or_false, Bool.not_true, Bool.not_false]
end R10
