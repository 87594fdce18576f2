/-! the reference: apart, kept terms -/
theorem sem_c {w w' : WD} {n tn : Nat} {fs sn : Nat → Option Nat} {tm : Nat → Nat → Nat} (G : GW w n tn fs sn tm) (h : ∀ k i, 1 ≤ k → k ≤ 16 → w' k i = w k i) {t x y z : Nat} (ht : t < tn) (hx : x < 16) (hy : y < 16) (hz : z < 16) : sem (rW w' n) fs sn n tm t x y z = sem (rW w n) fs sn n tm t x y z := by
  refine sem_cg (fun k i a b => ?_) (fun s hs g hg p hp => ?_) t (fun i hi => G.hT i (by omega)) hx hy hz
  · rw [rW_k i (by omega), rW_k i (by omega)]
    exact h k i a b
  · unfold rW
    rw [wT_at, wT_at]
    have e : w' 8 = w 8 := by funext i; exact h 8 i (by omega) (by omega)
    rw [e]
theorem rwG_c {fr : Int32} {g g' : Nat → Nat → Int32 × Int32} {b : Bool} (h : ∀ x y, x < 16 → y < 16 → g x y = g' x y) {r : Nat} (hr : r < 256) : rwG fr g b r = rwG fr g' b r := by
  unfold rwG
  rw [h _ _ (by omega) (by omega)]
theorem sfG_c {fr : Int32} {g g' : Nat → Nat → Int32 × Int32} (h : ∀ x y, x < 16 → y < 16 → g x y = g' x y) {r : Nat} (hr : r < 256) : sfG fr g r = sfG fr g' r := by
  unfold sfG
  rw [h _ _ (by split <;> omega) (by split <;> omega)]
/-- a row of the table of kept spans put in, j of it done -/
def ksT (T : Nat → Int32) (k : Nat) (v : Nat → Int32) (j : Nat) : Nat → Int32 := fun i => if 256 * k ≤ i ∧ i < 256 * k + j then v (i - 256 * k) else T i
theorem ksT_0 (T : Nat → Int32) (k : Nat) (v : Nat → Int32) : ksT T k v 0 = T := by
  funext i
  unfold ksT
  rw [if_neg (by omega)]
theorem ksT_s (T : Nat → Int32) (k : Nat) (v : Nat → Int32) (j : Nat) : upd (ksT T k v j) (256 * k + j) (v j) = ksT T k v (j + 1) := by
  funext i
  by_cases q : i = 256 * k + j
  · rw [q, upd_at]
    unfold ksT
    rw [if_pos (by omega), show 256 * k + j - 256 * k = j by omega]
  · rw [upd_of q]
    unfold ksT
    by_cases q2 : 256 * k ≤ i ∧ i < 256 * k + j
    · rw [if_pos q2, if_pos (by omega)]
    · rw [if_neg q2, if_neg (by omega)]
theorem cop_s (T L : Nat → Int32) (k : Nat) : upd (cop T L k) k (L k) = cop T L (k + 1) := by
  funext i
  by_cases q : i = k
  · rw [q, upd_at]
    unfold cop
    rw [if_pos (by omega)]
  · rw [upd_of q]
    unfold cop
    by_cases q2 : i < k
    · rw [if_pos q2, if_pos (by omega)]
    · rw [if_neg q2, if_neg (by omega)]
theorem GW.cg {w w' : WD} {n tn : Nat} {fs sn : Nat → Option Nat} {tm : Nat → Nat → Nat} (G : GW w n tn fs sn tm) (h : ∀ k i, k ≤ 16 → w' k i = w k i) (h22 : ∀ i, w' 22 i = w 22 i) : GW w' n tn fs sn tm :=
  ⟨(h 0 1 (by omega)).trans G.hn, G.hn30, (h 0 12 (by omega)).trans G.ht, G.ht60,
   ⟨fun s hs => (h 1 s (by omega)).trans (G.hA.1 s hs), fun s hs => (h 2 s (by omega)).trans (G.hA.2.1 s hs), G.hA.2.2.1, G.hA.2.2.2⟩,
   fun i hi => TMt_cg (fun k _ _ => h k i (by omega)) (G.hT i hi), fun h0 i hi => by
     have e : w' 8 = w 8 := by funext j; exact h 8 j (by omega)
     rw [h22 i, e]
     exact G.rv ((h 0 10 (by omega)).symm.trans h0) i hi⟩
def apA (w : WD) (t o : Nat) : Int32 := if ¬ ((w 14 t ||| w 14 o) &&& nI 4 = 0) then -4 else if nI 600 < w 15 t ∨ nI 600 < w 15 o then -5 else nI 0
section R14
variable {f : Hf} {m d sz us : Nat} {w : WD} {y : Nat → Int64} {n tn : Nat} {fs sn : Nat → Option Nat} {tm : Nat → Nat → Nat}
theorem R_apart_nt {s o : Int32} (G : GW w n tn fs sn tm) (h : (vI s tn && vI o tn) = false) : Ev (d + 6) 187 0 [some (.ref m), some (.int s), some (.int o), none, none] [] (sz, us, emR f m w y) = some (some (.int (-1)), (sz, us, emR f m w y)) := by
  have hT := fun d s => R_isTerm (f := f) (m := m) (d := d) (sz := sz) (us := us) (y := y) G.ht G.ht60 s
  cases h1 : vI s tn
  · simp (disch := first | omega | with_reducible assumption | exact cobR | exact bI_01 _ | exact Or.inl rfl | exact Or.inr rfl | (simp (decide := true) only [wid_0, wid_i, wid_l, wid_r, wid_n]; done) | decide | fail) only [s187_0, s187_1, s187_2, s187_5, s187_8, s187_9, s187_10, s187_13, s187_16, s187_17 (st := []), Option.bind_some, Option.bind_none, Option.toList_some, Option.toList_none, List.cons_append, List.nil_append, clr_i, clr_r, clr_l, clr_n, nI_add, nsub, pk_mul, nle_F, nle_T, nlt_F, nlt_T, neq_F, nz_F, nz_T, nneg_F, npos_T, npos_lF, npos_lT, nle0_F, m1_neg, m1_pos, m1_z, neq_m1, m1_neq, ↓reduceIte, if_true, if_false, not_true_eq_false, not_false_eq_true, bI_eq0, Bool.true_eq_false, Bool.false_eq_true, true_and, and_true, false_and, and_false, true_or, or_true, false_or, or_false, decide_true, decide_false, Bool.and_self, Bool.true_and, Bool.and_true, Bool.false_and, Bool.and_false, Bool.true_or, Bool.or_true, Bool.false_or, Bool.or_false, Bool.not_true, Bool.not_false, hT, h1]
  · rw [h1, Bool.true_and] at h
    simp (disch := first | omega | with_reducible assumption | exact cobR | exact bI_01 _ | exact Or.inl rfl | exact Or.inr rfl | (simp (decide := true) only [wid_0, wid_i, wid_l, wid_r, wid_n]; done) | decide | fail) only [s187_0, s187_1, s187_2, s187_5, s187_8, s187_9, s187_10, s187_13, s187_16, s187_17 (st := []), Option.bind_some, Option.bind_none, Option.toList_some, Option.toList_none, List.cons_append, List.nil_append, clr_i, clr_r, clr_l, clr_n, nI_add, nsub, pk_mul, nle_F, nle_T, nlt_F, nlt_T, neq_F, nz_F, nz_T, nneg_F, npos_T, npos_lF, npos_lT, nle0_F, m1_neg, m1_pos, m1_z, neq_m1, m1_neq, ↓reduceIte, if_true, if_false, not_true_eq_false, not_false_eq_true, bI_eq0, Bool.true_eq_false, Bool.false_eq_true, true_and, and_true, false_and, and_false, true_or, or_true, false_or, or_false, decide_true, decide_false, Bool.and_self, Bool.true_and, Bool.and_true, Bool.false_and, Bool.and_false, Bool.true_or, Bool.or_true, Bool.false_or, Bool.or_false, Bool.not_true, Bool.not_false, hT, h1, h]
theorem R_apart_no {t o : Nat} (G : GW w n tn fs sn tm) (ht : t < tn) (ho : o < tn) (h : ¬ apA w t o = nI 0) : Ev (d + 6) 187 0 [some (.ref m), some (.int (nI t)), some (.int (nI o)), none, none] [] (sz, us, emR f m w y) = some (some (.int (apA w t o)), (sz, us, emR f m w y)) := by
  have h60 := G.ht60
  have hT := fun d s => R_isTerm (f := f) (m := m) (d := d) (sz := sz) (us := us) (y := y) G.ht G.ht60 s
  have e0 : vI (nI t) tn = true := by rw [vI_nI (by omega)]; exact decide_eq_true ht
  have e1 : vI (nI o) tn = true := by rw [vI_nI (by omega)]; exact decide_eq_true ho
  unfold apA at h ⊢
  by_cases h1 : (w 14 t ||| w 14 o) &&& nI 4 = 0
  · by_cases h2 : nI 600 < w 15 t
    · simp (disch := first | omega | with_reducible assumption | exact cobR | exact bI_01 _ | exact Or.inl rfl | exact Or.inr rfl | (simp (decide := true) only [wid_0, wid_i, wid_l, wid_r, wid_n]; done) | decide | fail) only [s187_0, s187_1, s187_2, s187_5, s187_8, s187_9, s187_10, s187_13, s187_16, s187_17 (st := []), s187_18, s187_19, s187_22, s187_23, s187_24, s187_25, s187_28, s187_29, s187_30, s187_31, s187_32, s187_33, s187_36, s187_38 (st := []), s187_39, s187_40, s187_43, s187_44, s187_45, s187_48, s187_51, s187_52, s187_55, s187_56, s187_57, s187_60, s187_63, s187_65 (st := []), Option.bind_some, Option.bind_none, Option.toList_some, Option.toList_none, List.cons_append, List.nil_append, clr_i, clr_r, clr_l, clr_n, nI_add, nsub, pk_mul, nle_F, nle_T, nlt_F, nlt_T, neq_F, nz_F, nz_T, nneg_F, npos_T, npos_lF, npos_lT, nle0_F, m1_neg, m1_pos, m1_z, neq_m1, m1_neq, ↓reduceIte, if_true, if_false, not_true_eq_false, not_false_eq_true, bI_eq0, Bool.true_eq_false, Bool.false_eq_true, true_and, and_true, false_and, and_false, true_or, or_true, false_or, or_false, decide_true, decide_false, Bool.and_self, Bool.true_and, Bool.and_true, Bool.false_and, Bool.and_false, Bool.true_or, Bool.or_true, Bool.false_or, Bool.or_false, Bool.not_true, Bool.not_false, gR_65, ra_14, wa_14, ha_14, gR_68, ra_15, wa_15, ha_15, hT, e0, e1, h1, h2]
    · by_cases h3 : nI 600 < w 15 o
      · have h3' : ¬ w 15 o ≤ nI 600 := Int32.not_le.mpr h3
        simp (disch := first | omega | with_reducible assumption | exact cobR | exact bI_01 _ | exact Or.inl rfl | exact Or.inr rfl | (simp (decide := true) only [wid_0, wid_i, wid_l, wid_r, wid_n]; done) | decide | fail) only [s187_0, s187_1, s187_2, s187_5, s187_8, s187_9, s187_10, s187_13, s187_16, s187_17 (st := []), s187_18, s187_19, s187_22, s187_23, s187_24, s187_25, s187_28, s187_29, s187_30, s187_31, s187_32, s187_33, s187_36, s187_38 (st := []), s187_39, s187_40, s187_43, s187_44, s187_45, s187_48, s187_51, s187_52, s187_55, s187_56, s187_57, s187_60, s187_63, s187_65 (st := []), Option.bind_some, Option.bind_none, Option.toList_some, Option.toList_none, List.cons_append, List.nil_append, clr_i, clr_r, clr_l, clr_n, nI_add, nsub, pk_mul, nle_F, nle_T, nlt_F, nlt_T, neq_F, nz_F, nz_T, nneg_F, npos_T, npos_lF, npos_lT, nle0_F, m1_neg, m1_pos, m1_z, neq_m1, m1_neq, ↓reduceIte, if_true, if_false, not_true_eq_false, not_false_eq_true, bI_eq0, Bool.true_eq_false, Bool.false_eq_true, true_and, and_true, false_and, and_false, true_or, or_true, false_or, or_false, decide_true, decide_false, Bool.and_self, Bool.true_and, Bool.and_true, Bool.false_and, Bool.and_false, Bool.true_or, Bool.or_true, Bool.false_or, Bool.or_false, Bool.not_true, Bool.not_false, gR_65, ra_14, wa_14, ha_14, gR_68, ra_15, wa_15, ha_15, hT, e0, e1, h1, h2, h3, h3']
      · rw [if_neg (fun q => q h1), if_neg (fun q => q.elim h2 h3)] at h
        exact absurd rfl h
  · simp (disch := first | omega | with_reducible assumption | exact cobR | exact bI_01 _ | exact Or.inl rfl | exact Or.inr rfl | (simp (decide := true) only [wid_0, wid_i, wid_l, wid_r, wid_n]; done) | decide | fail) only [s187_0, s187_1, s187_2, s187_5, s187_8, s187_9, s187_10, s187_13, s187_16, s187_17 (st := []), s187_18, s187_19, s187_22, s187_23, s187_24, s187_25, s187_28, s187_29, s187_30, s187_31, s187_32, s187_33, s187_36, s187_38 (st := []), s187_39, s187_40, s187_43, s187_44, s187_45, s187_48, s187_51, s187_52, s187_55, s187_56, s187_57, s187_60, s187_63, s187_65 (st := []), Option.bind_some, Option.bind_none, Option.toList_some, Option.toList_none, List.cons_append, List.nil_append, clr_i, clr_r, clr_l, clr_n, nI_add, nsub, pk_mul, nle_F, nle_T, nlt_F, nlt_T, neq_F, nz_F, nz_T, nneg_F, npos_T, npos_lF, npos_lT, nle0_F, m1_neg, m1_pos, m1_z, neq_m1, m1_neq, ↓reduceIte, if_true, if_false, not_true_eq_false, not_false_eq_true, bI_eq0, Bool.true_eq_false, Bool.false_eq_true, true_and, and_true, false_and, and_false, true_or, or_true, false_or, or_false, decide_true, decide_false, Bool.and_self, Bool.true_and, Bool.and_true, Bool.false_and, Bool.and_false, Bool.true_or, Bool.or_true, Bool.false_or, Bool.or_false, Bool.not_true, Bool.not_false, gR_65, ra_14, wa_14, ha_14, gR_68, ra_15, wa_15, ha_15, hT, e0, e1, h1]
theorem R_apart {t o : Nat} (G : GW w n tn fs sn tm) (ht : t < tn) (ho : o < tn) (h : apA w t o = nI 0) : ∃ w', Kj n w w' ∧ Ev (d + 6) 187 0 [some (.ref m), some (.int (nI t)), some (.int (nI o)), none, none] [] (sz, us, emR f m w y) = some (some (.int (fstB (xorR (sfG (w 14 t) (g2 w fs sn n tm t)) (sfG (w 14 o) (g2 w fs sn n tm o)) 256) n 0)), (sz, us, emR f m w' y)) := by
  have h60 := G.ht60
  have h30 := G.hn30
  have hT := fun d s => R_isTerm (f := f) (m := m) (d := d) (sz := sz) (us := us) (y := y) G.ht G.ht60 s
  have e0 : vI (nI t) tn = true := by rw [vI_nI (by omega)]; exact decide_eq_true ht
  have e1 : vI (nI o) tn = true := by rw [vI_nI (by omega)]; exact decide_eq_true ho
  have h1 : (w 14 t ||| w 14 o) &&& nI 4 = 0 := by
    by_cases q : (w 14 t ||| w 14 o) &&& nI 4 = 0
    · exact q
    · unfold apA at h
      rw [if_pos q] at h
      exact absurd h (by decide)
  have h2 : ¬ (nI 600 < w 15 t ∨ nI 600 < w 15 o) := fun q => by
    unfold apA at h
    rw [if_neg (fun z => z h1), if_pos q] at h
    exact absurd h (by decide)
  have h2a : ¬ nI 600 < w 15 t := fun q => h2 (Or.inl q)
  have h2b : ¬ nI 600 < w 15 o := fun q => h2 (Or.inr q)
  have h2c : w 15 o ≤ nI 600 := Int32.not_lt.mp h2b
  obtain ⟨w1, hk1, hT1, e14, key1⟩ := R_wR (f := f) (m := m) (d := d) (sz := sz) (us := us) (y := y) G ht
  have G1 := G.kp hk1
  simp (disch := first | omega | with_reducible assumption | exact cobR | exact bI_01 _ | exact Or.inl rfl | exact Or.inr rfl | (simp (decide := true) only [wid_0, wid_i, wid_l, wid_r, wid_n]; done) | decide | fail) only [s187_0, s187_1, s187_2, s187_5, s187_8, s187_9, s187_10, s187_13, s187_16, s187_17 (st := []), s187_18, s187_19, s187_22, s187_23, s187_24, s187_25, s187_28, s187_29, s187_30, s187_31, s187_32, s187_33, s187_36, s187_38 (st := []), s187_39, s187_40, s187_43, s187_44, s187_45, s187_48, s187_51, s187_52, s187_55, s187_56, s187_57, s187_60, s187_63, s187_65 (st := []), s187_66, s187_67, s187_68, s187_71, s187_72, Option.bind_some, Option.bind_none, Option.toList_some, Option.toList_none, List.cons_append, List.nil_append, clr_i, clr_r, clr_l, clr_n, nI_add, nsub, pk_mul, nle_F, nle_T, nlt_F, nlt_T, neq_F, nz_F, nz_T, nneg_F, npos_T, npos_lF, npos_lT, nle0_F, m1_neg, m1_pos, m1_z, neq_m1, m1_neq, ↓reduceIte, if_true, if_false, not_true_eq_false, not_false_eq_true, bI_eq0, Bool.true_eq_false, Bool.false_eq_true, true_and, and_true, false_and, and_false, true_or, or_true, false_or, or_false, decide_true, decide_false, Bool.and_self, Bool.true_and, Bool.and_true, Bool.false_and, Bool.and_false, Bool.true_or, Bool.or_true, Bool.false_or, Bool.or_false, Bool.not_true, Bool.not_false, gR_65, ra_14, wa_14, ha_14, gR_68, ra_15, wa_15, ha_15, hT, e0, e1, h1, h2a, h2b, h2c, key1]
  have hv := fun r hr => fun (T : Nat → Int32) => R_spanFor (f := f) (m := m) (d := d + 5) (sz := sz) (us := us) (y := y) (w := wT w1 23 T) (t := t) (r := r) (g := g2 w fs sn n tm t) (by omega) hr hT1
  have e14' : ∀ T, wT w1 23 T 14 t = w 14 t := fun T => e14
  simp only [e14'] at hv
  generalize hgv : sfG (w 14 t) (g2 w fs sn n tm t) = v at hv
  have k1 := loopE (fun k => Ev (d + 6) 187 73 [some (.ref m), some (.int (nI t)), some (.int (nI o)), some (.int (nI k)), none] [] (sz, us, emR f m (wT w1 23 (cop (w1 23) v k)) y)) 256 (fun k hk => by
    show Ev _ _ _ _ _ _ = Ev _ _ _ _ _ _
    have hk' := hv k hk
    rw [← cop_s]
    rw [s187_73]
    simp (maxSteps := 2000000) (disch := first | omega | with_reducible assumption | exact cobR | exact bI_01 _ | exact Or.inl rfl | exact Or.inr rfl | (simp (decide := true) only [wid_0, wid_i, wid_l, wid_r, wid_n]; done) | decide | fail) only [s187_74, s187_77, s187_80, s187_81, s187_84, s187_85, s187_86, s187_87, s187_88, s187_91, s187_92, s187_95, Option.bind_some, Option.bind_none, Option.toList_some, Option.toList_none, List.cons_append, List.nil_append, clr_i, clr_r, clr_l, clr_n, nI_add, nsub, pk_mul, nle_F, nle_T, nlt_F, nlt_T, neq_F, nz_F, nz_T, nneg_F, npos_T, npos_lF, npos_lT, nle0_F, m1_neg, m1_pos, m1_z, neq_m1, m1_neq, ↓reduceIte, if_true, if_false, not_true_eq_false, not_false_eq_true, bI_eq0, Bool.true_eq_false, Bool.false_eq_true, true_and, and_true, false_and, and_false, true_or, or_true, false_or, or_false, decide_true, decide_false, Bool.and_self, Bool.true_and, Bool.and_true, Bool.false_and, Bool.and_false, Bool.true_or, Bool.or_true, Bool.false_or, Bool.or_false, Bool.not_true, Bool.not_false, gR_93, ra_23, wa_23, ha_23, hk', wT_at, wT_up])
  have ea : wT w1 23 (cop (w1 23) v 0) = w1 := by
    have : cop (w1 23) v 0 = w1 23 := by funext i; simp [cop]
    rw [this, wT_self]
  simp only [ea] at k1
  generalize hw2 : wT w1 23 (cop (w1 23) v 256) = w2 at k1
  have kj2 : Kj n w1 w2 := ⟨fun k i a b => by rw [← hw2, wT_off _ _ _ _ (by omega)], by rw [← hw2]; exact hk1.2⟩
  have G2 := G1.kj kj2
  have kj02 := hk1.j.trans kj2
  obtain ⟨w3, hk3, hT3, e143, key3⟩ := R_wR (f := f) (m := m) (d := d) (sz := sz) (us := us) (y := y) G2 ho
  refine ⟨w3, kj02.trans hk3.j, ?_⟩
  refine k1.trans ?_
  show Ev _ _ _ _ _ _ = _
  rw [s187_73]
  simp (maxSteps := 2000000) (disch := first | omega | with_reducible assumption | exact cobR | exact bI_01 _ | exact Or.inl rfl | exact Or.inr rfl | (simp (decide := true) only [wid_0, wid_i, wid_l, wid_r, wid_n]; done) | decide | fail) only [s187_74, s187_77, s187_98, s187_99, s187_100, s187_103, s187_104, s187_105, s187_106, Option.bind_some, Option.bind_none, Option.toList_some, Option.toList_none, List.cons_append, List.nil_append, clr_i, clr_r, clr_l, clr_n, nI_add, nsub, pk_mul, nle_F, nle_T, nlt_F, nlt_T, neq_F, nz_F, nz_T, nneg_F, npos_T, npos_lF, npos_lT, nle0_F, m1_neg, m1_pos, m1_z, neq_m1, m1_neq, ↓reduceIte, if_true, if_false, not_true_eq_false, not_false_eq_true, bI_eq0, Bool.true_eq_false, Bool.false_eq_true, true_and, and_true, false_and, and_false, true_or, or_true, false_or, or_false, decide_true, decide_false, Bool.and_self, Bool.true_and, Bool.and_true, Bool.false_and, Bool.and_false, Bool.true_or, Bool.or_true, Bool.false_or, Bool.or_false, Bool.not_true, Bool.not_false, key3]
  have hu := fun r hr => R_spanFor (f := f) (m := m) (d := d + 5) (sz := sz) (us := us) (y := y) (w := w3) (t := o) (r := r) (g := g2 w2 fs sn n tm o) (by omega) hr hT3
  have e14o : w3 14 o = w 14 o := e143.trans (kj02.1 14 o (by omega) (by omega))
  have hgu : ∀ r, r < 256 → sfG (w3 14 o) (g2 w2 fs sn n tm o) r = sfG (w 14 o) (g2 w fs sn n tm o) r := fun r hr => by
    rw [e14o]
    exact sfG_c (fun x yy a b => sem_kj G kj02 ho a b (by omega)) hr
  have hs23 : ∀ r, r < 256 → w3 23 r = v r := fun r hr => by
    rw [hk3.1 23 r (by omega) (by omega), ← hw2, wT_at]
    unfold cop
    rw [if_pos hr]
  generalize sfG (w 14 o) (g2 w fs sn n tm o) = u at hgu
  have k2 := loopE (fun k => Ev (d + 6) 187 108 [some (.ref m), some (.int (nI t)), some (.int (nI o)), some (.int (xorR v u k)), some (.int (nI k))] [] (sz, us, emR f m w3 y)) 256 (fun k hk => by
    show Ev _ _ _ _ _ _ = Ev _ _ _ [_, _, _, some (.int (xorR v u k ||| (v k ^^^ u k))), _] _ _
    generalize xorR v u k = z
    have hu' := hu k hk
    rw [hgu k hk] at hu'
    have hs := hs23 k hk
    rw [s187_108]
    simp (maxSteps := 2000000) (disch := first | omega | with_reducible assumption | exact cobR | exact bI_01 _ | exact Or.inl rfl | exact Or.inr rfl | (simp (decide := true) only [wid_0, wid_i, wid_l, wid_r, wid_n]; done) | decide | fail) only [s187_110, s187_113, s187_116, s187_117, s187_118, s187_121, s187_123, s187_124, s187_125, s187_126, s187_128, s187_131, s187_132, s187_133, s187_134, s187_137, Option.bind_some, Option.bind_none, Option.toList_some, Option.toList_none, List.cons_append, List.nil_append, clr_i, clr_r, clr_l, clr_n, nI_add, nsub, pk_mul, nle_F, nle_T, nlt_F, nlt_T, neq_F, nz_F, nz_T, nneg_F, npos_T, npos_lF, npos_lT, nle0_F, m1_neg, m1_pos, m1_z, neq_m1, m1_neq, ↓reduceIte, if_true, if_false, not_true_eq_false, not_false_eq_true, bI_eq0, Bool.true_eq_false, Bool.false_eq_true, true_and, and_true, false_and, and_false, true_or, or_true, false_or, or_false, decide_true, decide_false, Bool.and_self, Bool.true_and, Bool.and_true, Bool.false_and, Bool.and_false, Bool.true_or, Bool.or_true, Bool.false_or, Bool.or_false, Bool.not_true, Bool.not_false, gR_93, ra_23, wa_23, ha_23, hu', hs])
  refine k2.trans ?_
  show Ev _ _ _ _ _ _ = _
  rw [s187_108]
  simp (maxSteps := 2000000) (disch := first | omega | with_reducible assumption | exact cobR | exact bI_01 _ | exact Or.inl rfl | exact Or.inr rfl | (simp (decide := true) only [wid_0, wid_i, wid_l, wid_r, wid_n]; done) | decide | fail) only [s187_110, s187_113, s187_116, s187_117, s187_118, s187_121, s187_123, s187_124, s187_125, s187_126, s187_128, s187_131, s187_132, s187_133, s187_134, s187_137, s187_140, s187_141, Option.bind_some, Option.bind_none, Option.toList_some, Option.toList_none, List.cons_append, List.nil_append, clr_i, clr_r, clr_l, clr_n, nI_add, nsub, pk_mul, nle_F, nle_T, nlt_F, nlt_T, neq_F, nz_F, nz_T, nneg_F, npos_T, npos_lF, npos_lT, nle0_F, m1_neg, m1_pos, m1_z, neq_m1, m1_neq, ↓reduceIte, if_true, if_false, not_true_eq_false, not_false_eq_true, bI_eq0, Bool.true_eq_false, Bool.false_eq_true, true_and, and_true, false_and, and_false, true_or, or_true, false_or, or_false, decide_true, decide_false, Bool.and_self, Bool.true_and, Bool.and_true, Bool.false_and, Bool.and_false, Bool.true_or, Bool.or_true, Bool.false_or, Bool.or_false, Bool.not_true, Bool.not_false]
  generalize xorR v u 256 = z
  have hn3 : w3 0 1 = nI n := (G2.kp hk3).hn
  have k3 : ∀ k j, j + k = n → Ev (d + 6) 187 143 [some (.ref m), some (.int (nI t)), some (.int (nI o)), some (.int z), some (.int (nI j))] [] (sz, us, emR f m w3 y) = some (some (.int (fstB z k j)), (sz, us, emR f m w3 y)) := by
    intro k
    induction k with
    | zero =>
      intro j hj
      rw [s187_143]
      have e : j = n := by omega
      subst e
      simp (maxSteps := 2000000) (disch := first | omega | with_reducible assumption | exact cobR | exact bI_01 _ | exact Or.inl rfl | exact Or.inr rfl | (simp (decide := true) only [wid_0, wid_i, wid_l, wid_r, wid_n]; done) | decide | fail) only [s187_145, s187_146, s187_149, s187_171, s187_173 (st := []), Option.bind_some, Option.bind_none, Option.toList_some, Option.toList_none, List.cons_append, List.nil_append, clr_i, clr_r, clr_l, clr_n, nI_add, nsub, pk_mul, nle_F, nle_T, nlt_F, nlt_T, neq_F, nz_F, nz_T, nneg_F, npos_T, npos_lF, npos_lT, nle0_F, m1_neg, m1_pos, m1_z, neq_m1, m1_neq, ↓reduceIte, if_true, if_false, not_true_eq_false, not_false_eq_true, bI_eq0, Bool.true_eq_false, Bool.false_eq_true, true_and, and_true, false_and, and_false, true_or, or_true, false_or, or_false, decide_true, decide_false, Bool.and_self, Bool.true_and, Bool.and_true, Bool.false_and, Bool.and_false, Bool.true_or, Bool.or_true, Bool.false_or, Bool.or_false, Bool.not_true, Bool.not_false, gR_13, pR_13, hR_1_13, hn3]
      rfl
    | succ k ih =>
      intro j hj
      unfold fstB
      rw [s187_143]
      cases q : tb z j
      · simp (maxSteps := 2000000) (disch := first | omega | with_reducible assumption | exact cobR | exact bI_01 _ | exact Or.inl rfl | exact Or.inr rfl | (simp (decide := true) only [wid_0, wid_i, wid_l, wid_r, wid_n]; done) | decide | fail) only [s187_145, s187_146, s187_149, s187_152, s187_153, s187_154, s187_156, s187_159, s187_162, s187_164 (st := []), s187_165, s187_168, Option.bind_some, Option.bind_none, Option.toList_some, Option.toList_none, List.cons_append, List.nil_append, clr_i, clr_r, clr_l, clr_n, nI_add, nsub, pk_mul, nle_F, nle_T, nlt_F, nlt_T, neq_F, nz_F, nz_T, nneg_F, npos_T, npos_lF, npos_lT, nle0_F, m1_neg, m1_pos, m1_z, neq_m1, m1_neq, ↓reduceIte, if_true, if_false, not_true_eq_false, not_false_eq_true, bI_eq0, Bool.true_eq_false, Bool.false_eq_true, true_and, and_true, false_and, and_false, true_or, or_true, false_or, or_false, decide_true, decide_false, Bool.and_self, Bool.true_and, Bool.and_true, Bool.false_and, Bool.and_false, Bool.true_or, Bool.or_true, Bool.false_or, Bool.or_false, Bool.not_true, Bool.not_false, gR_13, pR_13, hR_1_13, hn3, R_isIn, q]
        exact ih (j + 1) (by omega)
      · simp (maxSteps := 2000000) (disch := first | omega | with_reducible assumption | exact cobR | exact bI_01 _ | exact Or.inl rfl | exact Or.inr rfl | (simp (decide := true) only [wid_0, wid_i, wid_l, wid_r, wid_n]; done) | decide | fail) only [s187_145, s187_146, s187_149, s187_152, s187_153, s187_154, s187_156, s187_159, s187_162, s187_164 (st := []), s187_165, s187_168, Option.bind_some, Option.bind_none, Option.toList_some, Option.toList_none, List.cons_append, List.nil_append, clr_i, clr_r, clr_l, clr_n, nI_add, nsub, pk_mul, nle_F, nle_T, nlt_F, nlt_T, neq_F, nz_F, nz_T, nneg_F, npos_T, npos_lF, npos_lT, nle0_F, m1_neg, m1_pos, m1_z, neq_m1, m1_neq, ↓reduceIte, if_true, if_false, not_true_eq_false, not_false_eq_true, bI_eq0, Bool.true_eq_false, Bool.false_eq_true, true_and, and_true, false_and, and_false, true_or, or_true, false_or, or_false, decide_true, decide_false, Bool.and_self, Bool.true_and, Bool.and_true, Bool.false_and, Bool.and_false, Bool.true_or, Bool.or_true, Bool.false_or, Bool.or_false, Bool.not_true, Bool.not_false, gR_13, pR_13, hR_1_13, hn3, R_isIn, q]
  exact k3 n 0 (by omega)
theorem R_freshen {t k : Nat} (G : GW w n tn fs sn tm) (hk : k < 6) (hkt : w 24 k = nI t) (ht : t < tn) : ∃ w', Kp n w w' ∧ Ev (d + 6) 188 0 [some (.ref m), some (.int (nI k)), none] [] (sz, us, emR f m w y) = some (none, (sz, us, emR f m (wT w' 25 (ksT (w 25) k (rwG (w 14 t) (g2 w fs sn n tm t) false) 256)) y)) := by
  have h60 := G.ht60
  obtain ⟨w', hk', hT, e14, key⟩ := R_wR (f := f) (m := m) (d := d) (sz := sz) (us := us) (y := y) G ht
  refine ⟨w', hk', ?_⟩
  simp (disch := first | omega | with_reducible assumption | exact cobR | exact bI_01 _ | exact Or.inl rfl | exact Or.inr rfl | (simp (decide := true) only [wid_0, wid_i, wid_l, wid_r, wid_n]; done) | decide | fail) only [s188_0, s188_1, s188_2, s188_5, s188_6, s188_7, s188_10, s188_11, Option.bind_some, Option.bind_none, Option.toList_some, Option.toList_none, List.cons_append, List.nil_append, clr_i, clr_r, clr_l, clr_n, nI_add, nsub, pk_mul, nle_F, nle_T, nlt_F, nlt_T, neq_F, nz_F, nz_T, nneg_F, npos_T, npos_lF, npos_lT, nle0_F, m1_neg, m1_pos, m1_z, neq_m1, m1_neq, ↓reduceIte, if_true, if_false, not_true_eq_false, not_false_eq_true, bI_eq0, Bool.true_eq_false, Bool.false_eq_true, true_and, and_true, false_and, and_false, true_or, or_true, false_or, or_false, decide_true, decide_false, Bool.and_self, Bool.true_and, Bool.and_true, Bool.false_and, Bool.and_false, Bool.true_or, Bool.or_true, Bool.false_or, Bool.or_false, Bool.not_true, Bool.not_false, gR_99, ra_24, wa_24, ha_24, hkt, key]
  have hv := fun r hr => fun (T : Nat → Int32) => R_rowSpan (f := f) (m := m) (d := d + 5) (sz := sz) (us := us) (y := y) (w := wT w' 25 T) (t := t) (r := r) (g := g2 w fs sn n tm t) false (by omega) hr hT
  have e14' : ∀ T, wT w' 25 T 14 t = w 14 t := fun T => e14
  simp only [e14', bI_f] at hv
  generalize rwG (w 14 t) (g2 w fs sn n tm t) false = v at hv
  have hkt' : ∀ T, wT w' 25 T 24 k = nI t := fun T => (hk'.1 24 k (by omega) (by omega)).trans hkt
  have e25 : w' 25 = w 25 := by funext i; exact hk'.1 25 i (by omega) (by omega)
  have k1 := loopE (fun r => Ev (d + 6) 188 12 [some (.ref m), some (.int (nI k)), some (.int (nI r))] [] (sz, us, emR f m (wT w' 25 (ksT (w 25) k v r)) y)) 256 (fun r hr => by
    show Ev _ _ _ _ _ _ = Ev _ _ _ _ _ _
    have hv' := hv r hr
    rw [← ksT_s]
    rw [s188_12]
    simp (maxSteps := 2000000) (disch := first | omega | with_reducible assumption | exact cobR | exact bI_01 _ | exact Or.inl rfl | exact Or.inr rfl | (simp (decide := true) only [wid_0, wid_i, wid_l, wid_r, wid_n]; done) | decide | fail) only [s188_13, s188_16, s188_19, s188_20, s188_23, s188_26, s188_27, s188_28, s188_29, s188_30, s188_31, s188_32, s188_35, s188_36, s188_37, s188_38, s188_39, s188_42, s188_43, s188_46, Option.bind_some, Option.bind_none, Option.toList_some, Option.toList_none, List.cons_append, List.nil_append, clr_i, clr_r, clr_l, clr_n, nI_add, nsub, pk_mul, nle_F, nle_T, nlt_F, nlt_T, neq_F, nz_F, nz_T, nneg_F, npos_T, npos_lF, npos_lT, nle0_F, m1_neg, m1_pos, m1_z, neq_m1, m1_neq, ↓reduceIte, if_true, if_false, not_true_eq_false, not_false_eq_true, bI_eq0, Bool.true_eq_false, Bool.false_eq_true, true_and, and_true, false_and, and_false, true_or, or_true, false_or, or_false, decide_true, decide_false, Bool.and_self, Bool.true_and, Bool.and_true, Bool.false_and, Bool.and_false, Bool.true_or, Bool.or_true, Bool.false_or, Bool.or_false, Bool.not_true, Bool.not_false, gR_102, ra_25, wa_25, ha_25, gR_99, ra_24, wa_24, ha_24, hkt', hv', wT_at, wT_up])
  have ea : wT w' 25 (ksT (w 25) k v 0) = w' := by rw [ksT_0, ← e25, wT_self]
  simp only [ea] at k1
  refine k1.trans ?_
  show Ev _ _ _ _ _ _ = _
  rw [s188_12]
  simp (maxSteps := 2000000) (disch := first | omega | with_reducible assumption | exact cobR | exact bI_01 _ | exact Or.inl rfl | exact Or.inr rfl | (simp (decide := true) only [wid_0, wid_i, wid_l, wid_r, wid_n]; done) | decide | fail) only [s188_13, s188_16, s188_19, s188_20, s188_23, s188_26, s188_27, s188_28, s188_29, s188_30, s188_31, s188_32, s188_35, s188_36, s188_37, s188_38, s188_39, s188_42, s188_43, s188_46, s188_49 (st := []), Option.bind_some, Option.bind_none, Option.toList_some, Option.toList_none, List.cons_append, List.nil_append, clr_i, clr_r, clr_l, clr_n, nI_add, nsub, pk_mul, nle_F, nle_T, nlt_F, nlt_T, neq_F, nz_F, nz_T, nneg_F, npos_T, npos_lF, npos_lT, nle0_F, m1_neg, m1_pos, m1_z, neq_m1, m1_neq, ↓reduceIte, if_true, if_false, not_true_eq_false, not_false_eq_true, bI_eq0, Bool.true_eq_false, Bool.false_eq_true, true_and, and_true, false_and, and_false, true_or, or_true, false_or, or_false, decide_true, decide_false, Bool.and_self, Bool.true_and, Bool.and_true, Bool.false_and, Bool.and_false, Bool.true_or, Bool.or_true, Bool.false_or, Bool.or_false, Bool.not_true, Bool.not_false]
theorem R_keepTerm_nt {s : Int32} (G : GW w n tn fs sn tm) (h : vI s tn = false) : Ev (d + 7) 189 0 [some (.ref m), some (.int s)] [] (sz, us, emR f m w y) = some (some (.int (-1)), (sz, us, emR f m w y)) := by
  have hT := fun d s => R_isTerm (f := f) (m := m) (d := d) (sz := sz) (us := us) (y := y) G.ht G.ht60 s
  simp (disch := first | omega | with_reducible assumption | exact cobR | exact bI_01 _ | exact Or.inl rfl | exact Or.inr rfl | (simp (decide := true) only [wid_0, wid_i, wid_l, wid_r, wid_n]; done) | decide | fail) only [s189_0, s189_1, s189_2, s189_5, s189_8, s189_9 (st := []), Option.bind_some, Option.bind_none, Option.toList_some, Option.toList_none, List.cons_append, List.nil_append, clr_i, clr_r, clr_l, clr_n, nI_add, nsub, pk_mul, nle_F, nle_T, nlt_F, nlt_T, neq_F, nz_F, nz_T, nneg_F, npos_T, npos_lF, npos_lT, nle0_F, m1_neg, m1_pos, m1_z, neq_m1, m1_neq, ↓reduceIte, if_true, if_false, not_true_eq_false, not_false_eq_true, bI_eq0, Bool.true_eq_false, Bool.false_eq_true, true_and, and_true, false_and, and_false, true_or, or_true, false_or, or_false, decide_true, decide_false, Bool.and_self, Bool.true_and, Bool.and_true, Bool.false_and, Bool.and_false, Bool.true_or, Bool.or_true, Bool.false_or, Bool.or_false, Bool.not_true, Bool.not_false, hT, h]
theorem R_keepTerm_no {t kn : Nat} (G : GW w n tn fs sn tm) (hkn : w 0 27 = nI kn) (hk6 : kn ≤ 6) (ht : t < tn) (h : ¬ lacA w t = 0 ∨ kn = 6) : Ev (d + 7) 189 0 [some (.ref m), some (.int (nI t))] [] (sz, us, emR f m w y) = some (some (.int (if lacA w t = 0 then -2 else lacA w t)), (sz, us, emR f m w y)) := by
  have h60 := G.ht60
  have hT := fun d s => R_isTerm (f := f) (m := m) (d := d) (sz := sz) (us := us) (y := y) G.ht G.ht60 s
  have e0 : vI (nI t) tn = true := by rw [vI_nI (by omega)]; exact decide_eq_true ht
  have hL := R_lacksRowsT (f := f) (m := m) (d := d + 4) (sz := sz) (us := us) (y := y) G.ht G.ht60 ht
  by_cases q : lacA w t = 0
  · have hk : kn = 6 := h.elim (fun z => absurd q z) id
    subst hk
    simp (disch := first | omega | with_reducible assumption | exact cobR | exact bI_01 _ | exact Or.inl rfl | exact Or.inr rfl | (simp (decide := true) only [wid_0, wid_i, wid_l, wid_r, wid_n]; done) | decide | fail) only [s189_0, s189_1, s189_2, s189_5, s189_8, s189_9 (st := []), s189_10, s189_11, s189_12, s189_15, s189_18, s189_19, s189_20, s189_23 (st := []), s189_24, s189_25, s189_28, s189_30, s189_33, s189_35 (st := []), Option.bind_some, Option.bind_none, Option.toList_some, Option.toList_none, List.cons_append, List.nil_append, clr_i, clr_r, clr_l, clr_n, nI_add, nsub, pk_mul, nle_F, nle_T, nlt_F, nlt_T, neq_F, nz_F, nz_T, nneg_F, npos_T, npos_lF, npos_lT, nle0_F, m1_neg, m1_pos, m1_z, neq_m1, m1_neq, ↓reduceIte, if_true, if_false, not_true_eq_false, not_false_eq_true, bI_eq0, Bool.true_eq_false, Bool.false_eq_true, true_and, and_true, false_and, and_false, true_or, or_true, false_or, or_false, decide_true, decide_false, Bool.and_self, Bool.true_and, Bool.and_true, Bool.false_and, Bool.and_false, Bool.true_or, Bool.or_true, Bool.false_or, Bool.or_false, Bool.not_true, Bool.not_false, gR_96, pR_96, hR_27_96, hT, e0, hL, q, hkn]
  · simp (disch := first | omega | with_reducible assumption | exact cobR | exact bI_01 _ | exact Or.inl rfl | exact Or.inr rfl | (simp (decide := true) only [wid_0, wid_i, wid_l, wid_r, wid_n]; done) | decide | fail) only [s189_0, s189_1, s189_2, s189_5, s189_8, s189_9 (st := []), s189_10, s189_11, s189_12, s189_15, s189_18, s189_19, s189_20, s189_23 (st := []), s189_24, s189_25, s189_28, s189_30, s189_33, s189_35 (st := []), Option.bind_some, Option.bind_none, Option.toList_some, Option.toList_none, List.cons_append, List.nil_append, clr_i, clr_r, clr_l, clr_n, nI_add, nsub, pk_mul, nle_F, nle_T, nlt_F, nlt_T, neq_F, nz_F, nz_T, nneg_F, npos_T, npos_lF, npos_lT, nle0_F, m1_neg, m1_pos, m1_z, neq_m1, m1_neq, ↓reduceIte, if_true, if_false, not_true_eq_false, not_false_eq_true, bI_eq0, Bool.true_eq_false, Bool.false_eq_true, true_and, and_true, false_and, and_false, true_or, or_true, false_or, or_false, decide_true, decide_false, Bool.and_self, Bool.true_and, Bool.and_true, Bool.false_and, Bool.and_false, Bool.true_or, Bool.or_true, Bool.false_or, Bool.or_false, Bool.not_true, Bool.not_false, gR_96, pR_96, hR_27_96, hT, e0, hL, q, hkn]
theorem R_keepTerm {t kn : Nat} (G : GW w n tn fs sn tm) (hkn : w 0 27 = nI kn) (hk6 : kn < 6) (ht : t < tn) (h : lacA w t = 0) : ∃ w', Kp n (wU w 24 kn (nI t)) w' ∧ Ev (d + 7) 189 0 [some (.ref m), some (.int (nI t))] [] (sz, us, emR f m w y) = some (some (.int (nI kn)), (sz, us, emR f m (wU (wT w' 25 (ksT (w 25) kn (rwG (w 14 t) (g2 w fs sn n tm t) false) 256)) 0 27 (nI (kn + 1))) y)) := by
  have h60 := G.ht60
  have hT := fun d s => R_isTerm (f := f) (m := m) (d := d) (sz := sz) (us := us) (y := y) G.ht G.ht60 s
  have e0 : vI (nI t) tn = true := by rw [vI_nI (by omega)]; exact decide_eq_true ht
  have hL := R_lacksRowsT (f := f) (m := m) (d := d + 4) (sz := sz) (us := us) (y := y) G.ht G.ht60 ht
  have Gu : GW (wU w 24 kn (nI t)) n tn fs sn tm := G.cg (fun k i a => by rw [wU_ap, if_neg (by omega)]) (fun i => by rw [wU_ap, if_neg (by omega)])
  obtain ⟨w', hk', key⟩ := R_freshen (f := f) (m := m) (d := d) (sz := sz) (us := us) (y := y) Gu hk6 (by rw [wU_ap, if_pos ⟨rfl, rfl⟩]) ht
  refine ⟨w', hk', ?_⟩
  have e14 : wU w 24 kn (nI t) 14 t = w 14 t := by rw [wU_ap, if_neg (by omega)]
  have e25 : wU w 24 kn (nI t) 25 = w 25 := by funext i; rw [wU_ap, if_neg (by omega)]
  have ev : ksT (w 25) kn (rwG (w 14 t) (g2 (wU w 24 kn (nI t)) fs sn n tm t) false) 256 = ksT (w 25) kn (rwG (w 14 t) (g2 w fs sn n tm t) false) 256 := by
    funext i
    unfold ksT
    by_cases q : 256 * kn ≤ i ∧ i < 256 * kn + 256
    · rw [if_pos q, if_pos q]
      exact rwG_c (fun x yy a b => sem_c G (fun k i c e => by rw [wU_ap, if_neg (by omega)]) ht a b (by omega)) (by omega)
    · rw [if_neg q, if_neg q]
  rw [e14, e25, ev] at key
  generalize ksT (w 25) kn (rwG (w 14 t) (g2 w fs sn n tm t) false) 256 = T at *
  have hkn1 : wU w 24 kn (nI t) 0 27 = nI kn := by rw [wU_ap, if_neg (by omega)]; exact hkn
  have hkn2 : wT w' 25 T 0 27 = nI kn := (hk'.1 0 27 (by omega) (by omega)).trans hkn1
  have hkn3 : ∀ x, wU (wT w' 25 T) 0 27 x 0 27 = x := fun x => by rw [wU_ap, if_pos ⟨rfl, rfl⟩]
  simp (disch := first | omega | with_reducible assumption | exact cobR | exact bI_01 _ | exact Or.inl rfl | exact Or.inr rfl | (simp (decide := true) only [wid_0, wid_i, wid_l, wid_r, wid_n]; done) | decide | fail) only [s189_0, s189_1, s189_2, s189_5, s189_8, s189_9 (st := []), s189_10, s189_11, s189_12, s189_15, s189_18, s189_19, s189_20, s189_23 (st := []), s189_24, s189_25, s189_28, s189_30, s189_33, s189_35 (st := []), s189_36, s189_37, s189_40, s189_41, s189_44, s189_45, s189_46, s189_47, s189_48, s189_51, s189_54, s189_55, s189_56, s189_59, s189_60, s189_61, s189_64, s189_65, s189_68, s189_69, s189_70 (st := []), Option.bind_some, Option.bind_none, Option.toList_some, Option.toList_none, List.cons_append, List.nil_append, clr_i, clr_r, clr_l, clr_n, nI_add, nsub, pk_mul, nle_F, nle_T, nlt_F, nlt_T, neq_F, nz_F, nz_T, nneg_F, npos_T, npos_lF, npos_lT, nle0_F, m1_neg, m1_pos, m1_z, neq_m1, m1_neq, ↓reduceIte, if_true, if_false, not_true_eq_false, not_false_eq_true, bI_eq0, Bool.true_eq_false, Bool.false_eq_true, true_and, and_true, false_and, and_false, true_or, or_true, false_or, or_false, decide_true, decide_false, Bool.and_self, Bool.true_and, Bool.and_true, Bool.false_and, Bool.and_false, Bool.true_or, Bool.or_true, Bool.false_or, Bool.or_false, Bool.not_true, Bool.not_false, gR_96, pR_96, hR_27_96, gR_99, ra_24, wa_24, ha_24, hT, e0, hL, h, hkn, hkn1, hkn2, hkn3, key]
  rfl
theorem R_news_no {k q : Int32} {kn : Nat} (hkn : w 0 27 = nI kn) (hk6 : kn ≤ 6) (h : (vI k kn && vI q 4) = false) : Ev (d + 6) 190 0 [some (.ref m), some (.int k), some (.int q), none, none, none, none, none] [] (sz, us, emR f m w y) = some (some (.int (-1)), (sz, us, emR f m w y)) := by
  have e1 : (decide (nI 0 ≤ q) && decide (q ≤ nI 3)) = vI q 4 := in_vI (by omega)
  have e2 : (decide (nI 0 ≤ k) && decide (k ≤ nI kn - nI 1)) = vI k kn := in_vIs (by omega)
  cases h1 : vI k kn
  · simp (disch := first | omega | with_reducible assumption | exact cobR | exact bI_01 _ | exact Or.inl rfl | exact Or.inr rfl | (simp (decide := true) only [wid_0, wid_i, wid_l, wid_r, wid_n]; done) | decide | fail) only [s190_0, s190_1, s190_2, s190_3, s190_4, s190_7, s190_8, s190_9, s190_12, s190_15, s190_16, s190_17, s190_18, s190_19, s190_22, s190_25, s190_26 (st := []), Option.bind_some, Option.bind_none, Option.toList_some, Option.toList_none, List.cons_append, List.nil_append, clr_i, clr_r, clr_l, clr_n, nI_add, nsub, pk_mul, nle_F, nle_T, nlt_F, nlt_T, neq_F, nz_F, nz_T, nneg_F, npos_T, npos_lF, npos_lT, nle0_F, m1_neg, m1_pos, m1_z, neq_m1, m1_neq, ↓reduceIte, if_true, if_false, not_true_eq_false, not_false_eq_true, bI_eq0, Bool.true_eq_false, Bool.false_eq_true, true_and, and_true, false_and, and_false, true_or, or_true, false_or, or_false, decide_true, decide_false, Bool.and_self, Bool.true_and, Bool.and_true, Bool.false_and, Bool.and_false, Bool.true_or, Bool.or_true, Bool.false_or, Bool.or_false, Bool.not_true, Bool.not_false, gR_96, pR_96, hR_27_96, R_in, hkn, e2, h1]
  · rw [h1, Bool.true_and] at h
    simp (disch := first | omega | with_reducible assumption | exact cobR | exact bI_01 _ | exact Or.inl rfl | exact Or.inr rfl | (simp (decide := true) only [wid_0, wid_i, wid_l, wid_r, wid_n]; done) | decide | fail) only [s190_0, s190_1, s190_2, s190_3, s190_4, s190_7, s190_8, s190_9, s190_12, s190_15, s190_16, s190_17, s190_18, s190_19, s190_22, s190_25, s190_26 (st := []), Option.bind_some, Option.bind_none, Option.toList_some, Option.toList_none, List.cons_append, List.nil_append, clr_i, clr_r, clr_l, clr_n, nI_add, nsub, pk_mul, nle_F, nle_T, nlt_F, nlt_T, neq_F, nz_F, nz_T, nneg_F, npos_T, npos_lF, npos_lT, nle0_F, m1_neg, m1_pos, m1_z, neq_m1, m1_neq, ↓reduceIte, if_true, if_false, not_true_eq_false, not_false_eq_true, bI_eq0, Bool.true_eq_false, Bool.false_eq_true, true_and, and_true, false_and, and_false, true_or, or_true, false_or, or_false, decide_true, decide_false, Bool.and_self, Bool.true_and, Bool.and_true, Bool.false_and, Bool.and_false, Bool.true_or, Bool.or_true, Bool.false_or, Bool.or_false, Bool.not_true, Bool.not_false, gR_96, pR_96, hR_27_96, R_in, hkn, e1, e2, h1, h]
theorem R_news {k q kn t : Nat} (G : GW w n tn fs sn tm) (hkn : w 0 27 = nI kn) (hk6 : kn ≤ 6) (hk : k < kn) (hq : q < 4) (hkt : w 24 k = nI t) (ht : t < tn) : ∃ w', Kp n w w' ∧ Ev (d + 6) 190 0 [some (.ref m), some (.int (nI k)), some (.int (nI q)), none, none, none, none, none] [] (sz, us, emR f m w y) = some (some (.int (nI (nwC (fun r => w 25 (256 * k + r)) (rwG (w 14 t) (g2 w fs sn n tm t) false) q 256))), (sz, us, emR f m w' y)) := by
  have h60 := G.ht60
  have e1 : (decide (nI 0 ≤ nI q) && decide (nI q ≤ nI 3)) = true := by rw [in_vI (by omega), vI_nI (by omega)]; exact decide_eq_true hq
  have e2 : (decide (nI 0 ≤ nI k) && decide (nI k ≤ nI kn - nI 1)) = true := by rw [in_vIs (by omega), vI_nI (by omega)]; exact decide_eq_true hk
  obtain ⟨w', hk', hT, e14, key⟩ := R_wR (f := f) (m := m) (d := d) (sz := sz) (us := us) (y := y) G ht
  refine ⟨w', hk', ?_⟩
  simp (disch := first | omega | with_reducible assumption | exact cobR | exact bI_01 _ | exact Or.inl rfl | exact Or.inr rfl | (simp (decide := true) only [wid_0, wid_i, wid_l, wid_r, wid_n]; done) | decide | fail) only [s190_0, s190_1, s190_2, s190_3, s190_4, s190_7, s190_8, s190_9, s190_12, s190_15, s190_16, s190_17, s190_18, s190_19, s190_22, s190_25, s190_26 (st := []), s190_27, s190_28, s190_29, s190_32, s190_33, s190_34, s190_37, s190_38, s190_39, s190_40, Option.bind_some, Option.bind_none, Option.toList_some, Option.toList_none, List.cons_append, List.nil_append, clr_i, clr_r, clr_l, clr_n, nz_F, nz_T, if_true, if_false, not_true_eq_false, not_false_eq_true, bI_eq0, Bool.true_eq_false, gR_96, pR_96, hR_27_96, gR_99, ra_24, wa_24, ha_24, R_in, hkn, e1, e2, hkt, key]
  have hv := fun r hr => R_rowSpan (f := f) (m := m) (d := d + 5) (sz := sz) (us := us) (y := y) (w := w') (t := t) (r := r) (g := g2 w fs sn n tm t) false (by omega) hr hT
  simp only [e14, bI_f] at hv
  generalize rwG (w 14 t) (g2 w fs sn n tm t) false = u at hv
  have hkt' : w' 24 k = nI t := (hk'.1 24 k (by omega) (by omega)).trans hkt
  have e25 : ∀ r, w' 25 (256 * k + r) = w 25 (256 * k + r) := fun r => hk'.1 25 _ (by omega) (by omega)
  obtain ⟨b, k1⟩ := loopA (fun r (j : Option Value × Option Value × Option Value) => Ev (d + 6) 190 42 [some (.ref m), some (.int (nI k)), some (.int (nI q)), some (.int (nI (nwC (fun r => w 25 (256 * k + r)) u q r))), some (.int (nI r)), j.1, j.2.1, j.2.2] [] (sz, us, emR f m w' y)) 256 (fun r hr j => by
    obtain ⟨j1, j2, j3⟩ := j
    have hv' := hv r hr
    have hw25 := e25 r
    by_cases hE : w 25 (256 * k + r) = u r
    · refine ⟨(some (.int (w 25 (256 * k + r))), some (.int (u r)), j3), ?_⟩
      show Ev _ _ _ [_, _, _, _, _, j1, j2, j3] _ _ = Ev _ _ _ [_, _, _, some (.int (nI (nwC (fun r => w 25 (256 * k + r)) u q r + if w 25 (256 * k + r) = u r then 0 else if howR (w 25 (256 * k + r)) (u r) = q then 1 else 0))), _, _, _, j3] _ _
      generalize nwC (fun r => w 25 (256 * k + r)) u q r = c
      rw [if_pos hE]
      rw [s190_42]
      simp (maxSteps := 2000000) (disch := first | omega | with_reducible assumption | exact cobR | exact bI_01 _ | exact Or.inl rfl | exact Or.inr rfl | (simp (decide := true) only [wid_0, wid_i, wid_l, wid_r, wid_n]; done) | decide | fail) only [s190_44, s190_47, s190_50, s190_51, s190_54, s190_57, s190_58, s190_59, s190_61, s190_62, s190_63, s190_65, s190_66, s190_67, s190_70, s190_71, s190_72, s190_74, s190_75, s190_78, s190_80, s190_82, s190_84, s190_87, s190_90, s190_92, s190_95, s190_96, s190_99, s190_101, s190_104, s190_105, s190_108, s190_109, s190_111, s190_114, s190_115, s190_117, s190_120, s190_123, s190_124, s190_127, s190_128, s190_130, s190_131, s190_133, s190_134, s190_137, s190_138, s190_141, s190_142, s190_143, s190_144, s190_147, Option.bind_some, Option.bind_none, Option.toList_some, Option.toList_none, List.cons_append, List.nil_append, clr_i, clr_r, clr_l, clr_n, nI_add, nsub, pk_mul, nle_F, nle_T, nlt_F, nlt_T, neq_F, nz_F, nz_T, nneg_F, npos_T, npos_lF, npos_lT, nle0_F, m1_neg, m1_pos, m1_z, neq_m1, m1_neq, ↓reduceIte, if_true, if_false, not_true_eq_false, not_false_eq_true, bI_eq0, Bool.true_eq_false, Bool.false_eq_true, true_and, and_true, false_and, and_false, true_or, or_true, false_or, or_false, decide_true, decide_false, Bool.and_self, Bool.true_and, Bool.and_true, Bool.false_and, Bool.and_false, Bool.true_or, Bool.or_true, Bool.false_or, Bool.or_false, Bool.not_true, Bool.not_false, gR_102, ra_25, wa_25, ha_25, gR_99, ra_24, wa_24, ha_24, hkt', hv', hw25, hE]
      rfl
    · refine ⟨(some (.int (w 25 (256 * k + r))), some (.int (u r)), some (.int (nI (howR (w 25 (256 * k + r)) (u r))))), ?_⟩
      show Ev _ _ _ [_, _, _, _, _, j1, j2, j3] _ _ = Ev _ _ _ [_, _, _, some (.int (nI (nwC (fun r => w 25 (256 * k + r)) u q r + if w 25 (256 * k + r) = u r then 0 else if howR (w 25 (256 * k + r)) (u r) = q then 1 else 0))), _, _, _, _] _ _
      generalize nwC (fun r => w 25 (256 * k + r)) u q r = c
      rw [if_neg hE]
      have p1 : Ev (d + 6) 190 42 [some (.ref m), some (.int (nI k)), some (.int (nI q)), some (.int (nI c)), some (.int (nI r)), j1, j2, j3] [] (sz, us, emR f m w' y) = Ev (d + 6) 190 130 [some (.ref m), some (.int (nI k)), some (.int (nI q)), some (.int (nI c)), some (.int (nI r)), some (.int (w 25 (256 * k + r))), some (.int (u r)), some (.int (nI (howR (w 25 (256 * k + r)) (u r))))] [] (sz, us, emR f m w' y) := by
        have c1 := cnt_le (w 25 (256 * k + r)) 32
        have c2 := cnt_le (u r) 32
        generalize w 25 (256 * k + r) = A at *
        generalize u r = B at *
        rw [s190_42]
        unfold howR
        by_cases q1 : A = 0
        · simp (maxSteps := 2000000) (disch := first | omega | with_reducible assumption | exact cobR | exact bI_01 _ | exact Or.inl rfl | exact Or.inr rfl | (simp (decide := true) only [wid_0, wid_i, wid_l, wid_r, wid_n]; done) | decide | fail) only [s190_44, s190_47, s190_50, s190_51, s190_54, s190_57, s190_58, s190_59, s190_61, s190_62, s190_63, s190_65, s190_66, s190_67, s190_70, s190_71, s190_72, s190_74, s190_75, s190_78, s190_80, s190_82, s190_84, s190_87, s190_90, s190_92, s190_95, s190_96, s190_99, s190_101, s190_104, s190_105, s190_108, s190_109, s190_111, s190_114, s190_115, s190_117, s190_120, s190_123, s190_124, s190_127, s190_128, Option.bind_some, Option.bind_none, Option.toList_some, Option.toList_none, List.cons_append, List.nil_append, clr_i, clr_r, clr_l, clr_n, nI_add, nsub, pk_mul, nle_F, nle_T, nlt_F, nlt_T, neq_F, nz_F, nz_T, nneg_F, npos_T, npos_lF, npos_lT, nle0_F, m1_neg, m1_pos, m1_z, neq_m1, m1_neq, ↓reduceIte, if_true, if_false, not_true_eq_false, not_false_eq_true, bI_eq0, Bool.true_eq_false, Bool.false_eq_true, true_and, and_true, false_and, and_false, true_or, or_true, false_or, or_false, decide_true, decide_false, Bool.and_self, Bool.true_and, Bool.and_true, Bool.false_and, Bool.and_false, Bool.true_or, Bool.or_true, Bool.false_or, Bool.or_false, Bool.not_true, Bool.not_false, gR_102, ra_25, wa_25, ha_25, gR_99, ra_24, wa_24, ha_24, hkt', hv', hw25, hE, q1]
          rw [q1] at hE
          simp (maxSteps := 2000000) (disch := first | omega | with_reducible assumption | exact cobR | exact bI_01 _ | exact Or.inl rfl | exact Or.inr rfl | (simp (decide := true) only [wid_0, wid_i, wid_l, wid_r, wid_n]; done) | decide | fail) only [s190_44, s190_47, s190_50, s190_51, s190_54, s190_57, s190_58, s190_59, s190_61, s190_62, s190_63, s190_65, s190_66, s190_67, s190_70, s190_71, s190_72, s190_74, s190_75, s190_78, s190_80, s190_82, s190_84, s190_87, s190_90, s190_92, s190_95, s190_96, s190_99, s190_101, s190_104, s190_105, s190_108, s190_109, s190_111, s190_114, s190_115, s190_117, s190_120, s190_123, s190_124, s190_127, s190_128, Option.bind_some, Option.bind_none, Option.toList_some, Option.toList_none, List.cons_append, List.nil_append, clr_i, clr_r, clr_l, clr_n, nI_add, nsub, pk_mul, nle_F, nle_T, nlt_F, nlt_T, neq_F, nz_F, nz_T, nneg_F, npos_T, npos_lF, npos_lT, nle0_F, m1_neg, m1_pos, m1_z, neq_m1, m1_neq, ↓reduceIte, if_true, if_false, not_true_eq_false, not_false_eq_true, bI_eq0, Bool.true_eq_false, Bool.false_eq_true, true_and, and_true, false_and, and_false, true_or, or_true, false_or, or_false, decide_true, decide_false, Bool.and_self, Bool.true_and, Bool.and_true, Bool.false_and, Bool.and_false, Bool.true_or, Bool.or_true, Bool.false_or, Bool.or_false, Bool.not_true, Bool.not_false, hE]
        · by_cases q2 : B = 0
          · rw [q2] at hE
            simp (maxSteps := 2000000) (disch := first | omega | with_reducible assumption | exact cobR | exact bI_01 _ | exact Or.inl rfl | exact Or.inr rfl | (simp (decide := true) only [wid_0, wid_i, wid_l, wid_r, wid_n]; done) | decide | fail) only [s190_44, s190_47, s190_50, s190_51, s190_54, s190_57, s190_58, s190_59, s190_61, s190_62, s190_63, s190_65, s190_66, s190_67, s190_70, s190_71, s190_72, s190_74, s190_75, s190_78, s190_80, s190_82, s190_84, s190_87, s190_90, s190_92, s190_95, s190_96, s190_99, s190_101, s190_104, s190_105, s190_108, s190_109, s190_111, s190_114, s190_115, s190_117, s190_120, s190_123, s190_124, s190_127, s190_128, Option.bind_some, Option.bind_none, Option.toList_some, Option.toList_none, List.cons_append, List.nil_append, clr_i, clr_r, clr_l, clr_n, nI_add, nsub, pk_mul, nle_F, nle_T, nlt_F, nlt_T, neq_F, nz_F, nz_T, nneg_F, npos_T, npos_lF, npos_lT, nle0_F, m1_neg, m1_pos, m1_z, neq_m1, m1_neq, ↓reduceIte, if_true, if_false, not_true_eq_false, not_false_eq_true, bI_eq0, Bool.true_eq_false, Bool.false_eq_true, true_and, and_true, false_and, and_false, true_or, or_true, false_or, or_false, decide_true, decide_false, Bool.and_self, Bool.true_and, Bool.and_true, Bool.false_and, Bool.and_false, Bool.true_or, Bool.or_true, Bool.false_or, Bool.or_false, Bool.not_true, Bool.not_false, gR_102, ra_25, wa_25, ha_25, gR_99, ra_24, wa_24, ha_24, hkt', hv', hw25, hE, q1, q2]
          · by_cases q3 : cnt A 32 < cnt B 32
            · simp (maxSteps := 2000000) (disch := first | omega | with_reducible assumption | exact cobR | exact bI_01 _ | exact Or.inl rfl | exact Or.inr rfl | (simp (decide := true) only [wid_0, wid_i, wid_l, wid_r, wid_n]; done) | decide | fail) only [s190_44, s190_47, s190_50, s190_51, s190_54, s190_57, s190_58, s190_59, s190_61, s190_62, s190_63, s190_65, s190_66, s190_67, s190_70, s190_71, s190_72, s190_74, s190_75, s190_78, s190_80, s190_82, s190_84, s190_87, s190_90, s190_92, s190_95, s190_96, s190_99, s190_101, s190_104, s190_105, s190_108, s190_109, s190_111, s190_114, s190_115, s190_117, s190_120, s190_123, s190_124, s190_127, s190_128, Option.bind_some, Option.bind_none, Option.toList_some, Option.toList_none, List.cons_append, List.nil_append, clr_i, clr_r, clr_l, clr_n, nI_add, nsub, pk_mul, nle_F, nle_T, nlt_F, nlt_T, neq_F, nz_F, nz_T, nneg_F, npos_T, npos_lF, npos_lT, nle0_F, m1_neg, m1_pos, m1_z, neq_m1, m1_neq, ↓reduceIte, if_true, if_false, not_true_eq_false, not_false_eq_true, bI_eq0, Bool.true_eq_false, Bool.false_eq_true, true_and, and_true, false_and, and_false, true_or, or_true, false_or, or_false, decide_true, decide_false, Bool.and_self, Bool.true_and, Bool.and_true, Bool.false_and, Bool.and_false, Bool.true_or, Bool.or_true, Bool.false_or, Bool.or_false, Bool.not_true, Bool.not_false, gR_102, ra_25, wa_25, ha_25, gR_99, ra_24, wa_24, ha_24, hkt', hv', hw25, hE, q1, q2, q3, R_ones]
            · simp (maxSteps := 2000000) (disch := first | omega | with_reducible assumption | exact cobR | exact bI_01 _ | exact Or.inl rfl | exact Or.inr rfl | (simp (decide := true) only [wid_0, wid_i, wid_l, wid_r, wid_n]; done) | decide | fail) only [s190_44, s190_47, s190_50, s190_51, s190_54, s190_57, s190_58, s190_59, s190_61, s190_62, s190_63, s190_65, s190_66, s190_67, s190_70, s190_71, s190_72, s190_74, s190_75, s190_78, s190_80, s190_82, s190_84, s190_87, s190_90, s190_92, s190_95, s190_96, s190_99, s190_101, s190_104, s190_105, s190_108, s190_109, s190_111, s190_114, s190_115, s190_117, s190_120, s190_123, s190_124, s190_127, s190_128, Option.bind_some, Option.bind_none, Option.toList_some, Option.toList_none, List.cons_append, List.nil_append, clr_i, clr_r, clr_l, clr_n, nI_add, nsub, pk_mul, nle_F, nle_T, nlt_F, nlt_T, neq_F, nz_F, nz_T, nneg_F, npos_T, npos_lF, npos_lT, nle0_F, m1_neg, m1_pos, m1_z, neq_m1, m1_neq, ↓reduceIte, if_true, if_false, not_true_eq_false, not_false_eq_true, bI_eq0, Bool.true_eq_false, Bool.false_eq_true, true_and, and_true, false_and, and_false, true_or, or_true, false_or, or_false, decide_true, decide_false, Bool.and_self, Bool.true_and, Bool.and_true, Bool.false_and, Bool.and_false, Bool.true_or, Bool.or_true, Bool.false_or, Bool.or_false, Bool.not_true, Bool.not_false, gR_102, ra_25, wa_25, ha_25, gR_99, ra_24, wa_24, ha_24, hkt', hv', hw25, hE, q1, q2, q3, R_ones]
      refine p1.trans ?_
      have hh : howR (w 25 (256 * k + r)) (u r) < 4 := by unfold howR; split; omega; split; omega; split <;> omega
      generalize howR (w 25 (256 * k + r)) (u r) = hw at hh
      by_cases q1 : hw = q
      · have q1' : (nI hw = nI q) = True := by rw [q1]; simp
        simp (maxSteps := 2000000) (disch := first | omega | with_reducible assumption | exact cobR | exact bI_01 _ | exact Or.inl rfl | exact Or.inr rfl | (simp (decide := true) only [wid_0, wid_i, wid_l, wid_r, wid_n]; done) | decide | fail) only [s190_130, s190_131, s190_133, s190_134, s190_137, s190_138, s190_141, s190_142, s190_143, s190_144, s190_147, Option.bind_some, Option.bind_none, Option.toList_some, Option.toList_none, List.cons_append, List.nil_append, clr_i, clr_r, clr_l, clr_n, nI_add, nsub, pk_mul, nle_F, nle_T, nlt_F, nlt_T, neq_F, nz_F, nz_T, nneg_F, npos_T, npos_lF, npos_lT, nle0_F, m1_neg, m1_pos, m1_z, neq_m1, m1_neq, ↓reduceIte, if_true, if_false, not_true_eq_false, not_false_eq_true, bI_eq0, Bool.true_eq_false, Bool.false_eq_true, true_and, and_true, false_and, and_false, true_or, or_true, false_or, or_false, decide_true, decide_false, Bool.and_self, Bool.true_and, Bool.and_true, Bool.false_and, Bool.and_false, Bool.true_or, Bool.or_true, Bool.false_or, Bool.or_false, Bool.not_true, Bool.not_false, q1']
        rw [if_pos q1]
      · simp (maxSteps := 2000000) (disch := first | omega | with_reducible assumption | exact cobR | exact bI_01 _ | exact Or.inl rfl | exact Or.inr rfl | (simp (decide := true) only [wid_0, wid_i, wid_l, wid_r, wid_n]; done) | decide | fail) only [s190_130, s190_131, s190_133, s190_134, s190_137, s190_138, s190_141, s190_142, s190_143, s190_144, s190_147, Option.bind_some, Option.bind_none, Option.toList_some, Option.toList_none, List.cons_append, List.nil_append, clr_i, clr_r, clr_l, clr_n, nI_add, nsub, pk_mul, nle_F, nle_T, nlt_F, nlt_T, neq_F, nz_F, nz_T, nneg_F, npos_T, npos_lF, npos_lT, nle0_F, m1_neg, m1_pos, m1_z, neq_m1, m1_neq, ↓reduceIte, if_true, if_false, not_true_eq_false, not_false_eq_true, bI_eq0, Bool.true_eq_false, Bool.false_eq_true, true_and, and_true, false_and, and_false, true_or, or_true, false_or, or_false, decide_true, decide_false, Bool.and_self, Bool.true_and, Bool.and_true, Bool.false_and, Bool.and_false, Bool.true_or, Bool.or_true, Bool.false_or, Bool.or_false, Bool.not_true, Bool.not_false]
        rw [if_neg q1]) (none, none, none)
  refine k1.trans ?_
  obtain ⟨b1, b2, b3⟩ := b
  show Ev _ _ _ _ _ _ = _
  rw [s190_42]
  simp (maxSteps := 2000000) (disch := first | omega | with_reducible assumption | exact cobR | exact bI_01 _ | exact Or.inl rfl | exact Or.inr rfl | (simp (decide := true) only [wid_0, wid_i, wid_l, wid_r, wid_n]; done) | decide | fail) only [s190_44, s190_47, s190_150, s190_151 (st := []), Option.bind_some, Option.bind_none, Option.toList_some, Option.toList_none, List.cons_append, List.nil_append, clr_i, clr_r, clr_l, clr_n, nI_add, nsub, pk_mul, nle_F, nle_T, nlt_F, nlt_T, neq_F, nz_F, nz_T, nneg_F, npos_T, npos_lF, npos_lT, nle0_F, m1_neg, m1_pos, m1_z, neq_m1, m1_neq, ↓reduceIte, if_true, if_false, not_true_eq_false, not_false_eq_true, bI_eq0, Bool.true_eq_false, Bool.false_eq_true, true_and, and_true, false_and, and_false, true_or, or_true, false_or, or_false, decide_true, decide_false, Bool.and_self, Bool.true_and, Bool.and_true, Bool.false_and, Bool.and_false, Bool.true_or, Bool.or_true, Bool.false_or, Bool.or_false, Bool.not_true, Bool.not_false]
theorem R_fresh_no {k q : Int32} {kn : Nat} (hkn : w 0 27 = nI kn) (hk6 : kn ≤ 6) (h : (vI k kn && vI q 4) = false) : Ev (d + 7) 191 0 [some (.ref m), some (.int k), some (.int q), none] [] (sz, us, emR f m w y) = some (some (.int (-1)), (sz, us, emR f m w y)) := by
  have hN := R_news_no (f := f) (m := m) (d := d) (sz := sz) (us := us) (y := y) hkn hk6 h
  simp (disch := first | omega | with_reducible assumption | exact cobR | exact bI_01 _ | exact Or.inl rfl | exact Or.inr rfl | (simp (decide := true) only [wid_0, wid_i, wid_l, wid_r, wid_n]; done) | decide | fail) only [s191_0, s191_1, s191_2, s191_3, s191_6, s191_7, s191_8, s191_16, s191_17 (st := []), Option.bind_some, Option.bind_none, Option.toList_some, Option.toList_none, List.cons_append, List.nil_append, clr_i, clr_r, clr_l, clr_n, nI_add, nsub, pk_mul, nle_F, nle_T, nlt_F, nlt_T, neq_F, nz_F, nz_T, nneg_F, npos_T, npos_lF, npos_lT, nle0_F, m1_neg, m1_pos, m1_z, neq_m1, m1_neq, ↓reduceIte, if_true, if_false, not_true_eq_false, not_false_eq_true, bI_eq0, Bool.true_eq_false, Bool.false_eq_true, true_and, and_true, false_and, and_false, true_or, or_true, false_or, or_false, decide_true, decide_false, Bool.and_self, Bool.true_and, Bool.and_true, Bool.false_and, Bool.and_false, Bool.true_or, Bool.or_true, Bool.false_or, Bool.or_false, Bool.not_true, Bool.not_false, hN]
theorem nwC_le (v u : Nat → Int32) (q k : Nat) : nwC v u q k ≤ k := by
  induction k with
  | zero => exact Nat.le_refl 0
  | succ k ih =>
    show nwC v u q k + _ ≤ k + 1
    split
    · omega
    · split <;> omega
theorem R_fresh {k q kn t : Nat} (G : GW w n tn fs sn tm) (hkn : w 0 27 = nI kn) (hk6 : kn ≤ 6) (hk : k < kn) (hq : q < 4) (hkt : w 24 k = nI t) (ht : t < tn) : ∃ w', Kp n w w' ∧ Ev (d + 7) 191 0 [some (.ref m), some (.int (nI k)), some (.int (nI q)), none] [] (sz, us, emR f m w y) = some (some (.int (nI (nwC (fun r => w 25 (256 * k + r)) (rwG (w 14 t) (g2 w fs sn n tm t) false) q 256))), (sz, us, emR f m (wT w' 25 (ksT (w 25) k (rwG (w 14 t) (g2 w fs sn n tm t) false) 256)) y)) := by
  obtain ⟨w1, hk1, key1⟩ := R_news (f := f) (m := m) (d := d) (sz := sz) (us := us) (y := y) G hkn hk6 hk hq hkt ht
  obtain ⟨w2, hk2, key2⟩ := R_freshen (f := f) (m := m) (d := d) (sz := sz) (us := us) (y := y) (G.kp hk1) (by omega : k < 6) ((hk1.1 24 k (by omega) (by omega)).trans hkt) ht
  refine ⟨w2, hk1.trans hk2, ?_⟩
  have hc := nwC_le (fun r => w 25 (256 * k + r)) (rwG (w 14 t) (g2 w fs sn n tm t) false) q 256
  have ev : ksT (w1 25) k (rwG (w1 14 t) (g2 w1 fs sn n tm t) false) 256 = ksT (w 25) k (rwG (w 14 t) (g2 w fs sn n tm t) false) 256 := by
    funext i
    unfold ksT
    by_cases z : 256 * k ≤ i ∧ i < 256 * k + 256
    · rw [if_pos z, if_pos z, hk1.1 14 t (by omega) (by omega)]
      exact rwG_c (fun x yy a b => sem_kp G hk1 ht a b (by omega)) (by omega)
    · rw [if_neg z, if_neg z]
      exact hk1.1 25 i (by omega) (by omega)
  rw [ev] at key2
  generalize nwC (fun r => w 25 (256 * k + r)) (rwG (w 14 t) (g2 w fs sn n tm t) false) q 256 = c at *
  simp (disch := first | omega | with_reducible assumption | exact cobR | exact bI_01 _ | exact Or.inl rfl | exact Or.inr rfl | (simp (decide := true) only [wid_0, wid_i, wid_l, wid_r, wid_n]; done) | decide | fail) only [s191_0, s191_1, s191_2, s191_3, s191_6, s191_7, s191_8, s191_11, s191_12, s191_13, s191_16, s191_17 (st := []), Option.bind_some, Option.bind_none, Option.toList_some, Option.toList_none, List.cons_append, List.nil_append, clr_i, clr_r, clr_l, clr_n, nI_add, nsub, pk_mul, nle_F, nle_T, nlt_F, nlt_T, neq_F, nz_F, nz_T, nneg_F, npos_T, npos_lF, npos_lT, nle0_F, m1_neg, m1_pos, m1_z, neq_m1, m1_neq, ↓reduceIte, if_true, if_false, not_true_eq_false, not_false_eq_true, bI_eq0, Bool.true_eq_false, Bool.false_eq_true, true_and, and_true, false_and, and_false, true_or, or_true, false_or, or_false, decide_true, decide_false, Bool.and_self, Bool.true_and, Bool.and_true, Bool.false_and, Bool.and_false, Bool.true_or, Bool.or_true, Bool.false_or, Bool.or_false, Bool.not_true, Bool.not_false, key1, key2]
end R14
