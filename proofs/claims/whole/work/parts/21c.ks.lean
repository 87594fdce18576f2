/-! the class: rows of a term found (2); a run may have more frames -/
theorem run_dep : ∀ (n : Nat) (sp : SP) (scr : SC) (d mi pc : Nat) (ls : LL) (st : List Value) (h : Hp) (r : Option Value × Hp), run sp n scr d mi pc ls st h = some r → run sp n scr (d + 1) mi pc ls st h = some r := by
  intro n
  induction n with
  | zero => intro sp scr d mi pc ls st h r hr; simp [run] at hr
  | succ n ih =>
    intro sp scr d mi pc ls st h r hr
    rw [run] at hr ⊢
    cases hp : prog mi pc with
    | none => simp only [hp] at hr; cases hr
    | some q =>
      obtain ⟨ins, len⟩ := q
      simp only [hp] at hr ⊢
      by_cases hlen : len = ilen ins ∨ isTs ins = true
      · rw [if_pos hlen] at hr ⊢
        cases hv : rti (mtd mi).2.2.2.2 ins st with
        | some v => simp only [hv] at hr ⊢; exact hr
        | none =>
          simp only [hv] at hr ⊢
          cases hc : cli (mtd mi).1 ins st h with
          | some t =>
            obtain ⟨y, as, rest⟩ := t
            simp only [hc] at hr ⊢
            cases d with
            | zero => simp at hr
            | succ d' =>
              simp only at hr ⊢
              by_cases hl : ls.length = (mtd mi).2.2.2.1 ∧ (entL as).length ≤ (mtd y).2.2.2.1
              · rw [if_pos hl] at hr ⊢
                cases hr1 : run sp0 n none d' y 0 (ent (mtd y).2.2.2.1 as) [] h with
                | none => simp only [hr1] at hr; cases hr
                | some t =>
                  obtain ⟨v, h1⟩ := t
                  simp only [hr1] at hr
                  simp only [ih _ _ _ _ _ _ _ _ _ hr1]
                  exact ih _ _ _ _ _ _ _ _ _ hr
              · rw [if_neg hl] at hr; cases hr
          | none =>
            simp only [hc] at hr ⊢
            cases hnt : (ntv (mtd mi).1 ins st h).or (ntc (mtd mi).1 ins st h) with
            | some t =>
              obtain ⟨s1, h1⟩ := t
              simp only [hnt] at hr ⊢
              by_cases hq : d = 0 ∨ ls.length ≠ (mtd mi).2.2.2.1
              · rw [if_pos hq] at hr; cases hr
              · rw [if_neg hq] at hr; rw [if_neg (by omega)]; exact ih _ _ _ _ _ _ _ _ _ hr
            | none =>
              simp only [hnt] at hr ⊢
              cases hs : sp mi pc st h with
              | some t =>
                obtain ⟨s1, h1⟩ := t
                simp only [hs] at hr ⊢
                by_cases hq : d = 0 ∨ ls.length ≠ (mtd mi).2.2.2.1
                · rw [if_pos hq] at hr; cases hr
                · rw [if_neg hq] at hr; rw [if_neg (by omega)]; exact ih _ _ _ _ _ _ _ _ _ hr
              | none =>
                simp only [hs] at hr ⊢
                cases hn : nx scr (isIn0 mi) (mtd mi).1 ins pc ls st h with
                | none => simp only [hn] at hr; cases hr
                | some t =>
                  obtain ⟨p1, l1, s1, h1⟩ := t
                  simp only [hn] at hr ⊢
                  exact ih _ _ _ _ _ _ _ _ _ hr
      · rw [if_neg hlen] at hr; cases hr
theorem run_deps {n : Nat} {sp : SP} {scr : SC} {d d' mi pc : Nat} {ls : LL} {st : List Value} {h : Hp} {r : Option Value × Hp} (hd : d ≤ d') (hr : run sp n scr d mi pc ls st h = some r) : run sp n scr d' mi pc ls st h = some r := by
  induction hd with
  | refl => exact hr
  | step _ ih => exact run_dep _ _ _ _ _ _ _ _ _ _ ih
theorem Ev_mono {d d' mi pc : Nat} {ls : LL} {st : List Value} {h : Hp} {r : Option Value × Hp} (hd : d ≤ d') (e : Ev d mi pc ls st h = some r) : Ev d' mi pc ls st h = some r := by
  obtain ⟨n, hn⟩ := EV_iff.mp e
  exact EV_iff.mpr ⟨n, run_deps hd hn⟩
section KS
variable {F : Hf} {x d sz us n nt tn t ch : Nat} {c w : WD} {y : Nat → Int64} {v : VD} {tA : Nat → Option Nat} {fs sn : Nat → Option Nat} {B : Nat → Option Nat} {A : Nat → Nat} {tm : Nat → Nat → Nat} {td : Nat → Nat → Int32} {K : KT}
theorem A_inj (h : TBk B A x tn) {s t : Nat} (hs : s < tn) (ht : t < tn) (e : A s = A t) : s = t := by
  have h1 := (h.1 s hs).1
  rw [e, (h.1 t ht).1] at h1
  injection h1 with h1
  exact h1.symm
theorem K_rows (Q : ASP c w fs sn n nt tn tm td A B x ch) (ht : t < tn) (hK : KO (sem (rW w n) fs sn n tm) tn ch K) (hR : ROk c v w fs sn n tn ch tm A) : ∃ c' K' nt', Kf c c' ∧ ASP c' w fs sn n nt' tn tm td A B x ch ∧ KO (sem (rW w n) fs sn n tm) tn ch K' ∧ ROt c' w fs sn n tm t ∧ c' 151 1 = nI ch ∧ ∀ d, Ev (d + 130) 61 0 [some (.ref (x + 151)), some (.ref (A t)), some (.ref (x + 1)), none, none, none] [] (sz, us, emC (emT F B tm td A K) x c y v tA) = some (none, (sz, us, emC (emT F B tm td A K') x c' y (vU v 151 0 (.ref (A t))) tA)) := by
  have Q0 := Q
  obtain ⟨C, hr, hnt, hntn, hN, hT, hTB, hD, hch, hch2, htn⟩ := Q0
  by_cases hit : v 151 0 = .ref (A t) ∧ c 151 1 = nI ch
  · obtain ⟨h1, h2⟩ := hit
    refine ⟨c, K, nt, Kf.refl c, Q, hK, ?_, h2, fun d => ?_⟩
    · obtain ⟨-, h3⟩ := hR
      rcases h3 with h3 | ⟨t0, ht0, h4, h5⟩
      · rw [h1] at h3; cases h3
      · rw [h1] at h4
        injection h4 with h4
        have := A_inj hTB ht ht0 h4
        subst this
        exact h5 h2
    · rw [vU_self h1]
      simp (maxSteps := 2000000) (disch := first | omega | with_reducible assumption | exact cobP | exact cobX | exact cobS (by omega) | exact cobK (by omega) | exact cobF (by omega) | exact cobW | exact isTC_T (by assumption) (by assumption) | exact bI_01 _ | exact Or.inl rfl | exact Or.inr rfl | (simp (decide := true) only [wid_0, wid_i, wid_l, wid_r, wid_n]; done) | decide | fail) only [s61_0, s61_1, s61_4, s61_5, s61_5n, s61_8, s61_9, s61_12, s61_13, s61_16, s61_19 (st := []), Option.bind_some, Option.bind_none, Option.toList_some, Option.toList_none, List.cons_append, List.nil_append, clr_i, clr_r, clr_l, clr_n, nI_add, nsub, pk_mul, nle_F, nle_T, nlt_F, nlt_T, neq_F, nz_F, nz_T, nneg_F, npos_T, npos_lF, npos_lT, nle0_F, m1_neg, m1_pos, m1_z, neq_m1, m1_neq, ↓reduceIte, if_true, if_false, not_true_eq_false, not_false_eq_true, bI_eq0, Bool.true_eq_false, Bool.false_eq_true, true_and, and_true, false_and, and_false, true_or, or_true, false_or, or_false, decide_true, decide_false, Bool.and_self, Bool.true_and, Bool.and_true, Bool.false_and, Bool.and_false, Bool.true_or, Bool.or_true, Bool.false_or, Bool.or_false, Bool.not_true, Bool.not_false, g_5_26_4, g_5_30_4, g_5_34_2, g_5_42_T, g_5_9_4, g_5_15_4, p_5_26_4, p_5_26_4n, p_5_30_4, h1, h2, hch]
  · have p1 : ∀ d, Ev (d + 130) 61 0 [some (.ref (x + 151)), some (.ref (A t)), some (.ref (x + 1)), none, none, none] [] (sz, us, emC (emT F B tm td A K) x c y v tA) = Ev (d + 130) 61 20 [some (.ref (x + 151)), some (.ref (A t)), some (.ref (x + 1)), none, none, none] [] (sz, us, emC (emT F B tm td A K) x c y v tA) := by
      intro d
      rcases hR.2 with h3 | ⟨t0, ht0, h4, -⟩
      · simp (maxSteps := 2000000) (disch := first | omega | with_reducible assumption | exact cobP | exact cobX | exact cobS (by omega) | exact cobK (by omega) | exact cobF (by omega) | exact cobW | exact isTC_T (by assumption) (by assumption) | exact bI_01 _ | exact Or.inl rfl | exact Or.inr rfl | (simp (decide := true) only [wid_0, wid_i, wid_l, wid_r, wid_n]; done) | decide | fail) only [s61_0, s61_1, s61_4, s61_5, s61_5n, s61_8, s61_9, s61_12, s61_13, s61_16, s61_19 (st := []), Option.bind_some, Option.bind_none, Option.toList_some, Option.toList_none, List.cons_append, List.nil_append, clr_i, clr_r, clr_l, clr_n, nI_add, nsub, pk_mul, nle_F, nle_T, nlt_F, nlt_T, neq_F, nz_F, nz_T, nneg_F, npos_T, npos_lF, npos_lT, nle0_F, m1_neg, m1_pos, m1_z, neq_m1, m1_neq, ↓reduceIte, if_true, if_false, not_true_eq_false, not_false_eq_true, bI_eq0, Bool.true_eq_false, Bool.false_eq_true, true_and, and_true, false_and, and_false, true_or, or_true, false_or, or_false, decide_true, decide_false, Bool.and_self, Bool.true_and, Bool.and_true, Bool.false_and, Bool.and_false, Bool.true_or, Bool.or_true, Bool.false_or, Bool.or_false, Bool.not_true, Bool.not_false, g_5_26_4, g_5_30_4, g_5_34_2, g_5_42_T, g_5_9_4, g_5_15_4, p_5_26_4, p_5_26_4n, p_5_30_4, h3]
      · by_cases he : A t0 = A t
        · have h2 : ¬ c 151 1 = nI ch := fun h => hit ⟨by rw [h4, he], h⟩
          simp (maxSteps := 2000000) (disch := first | omega | with_reducible assumption | exact cobP | exact cobX | exact cobS (by omega) | exact cobK (by omega) | exact cobF (by omega) | exact cobW | exact isTC_T (by assumption) (by assumption) | exact bI_01 _ | exact Or.inl rfl | exact Or.inr rfl | (simp (decide := true) only [wid_0, wid_i, wid_l, wid_r, wid_n]; done) | decide | fail) only [s61_0, s61_1, s61_4, s61_5, s61_5n, s61_8, s61_9, s61_12, s61_13, s61_16, s61_19 (st := []), Option.bind_some, Option.bind_none, Option.toList_some, Option.toList_none, List.cons_append, List.nil_append, clr_i, clr_r, clr_l, clr_n, nI_add, nsub, pk_mul, nle_F, nle_T, nlt_F, nlt_T, neq_F, nz_F, nz_T, nneg_F, npos_T, npos_lF, npos_lT, nle0_F, m1_neg, m1_pos, m1_z, neq_m1, m1_neq, ↓reduceIte, if_true, if_false, not_true_eq_false, not_false_eq_true, bI_eq0, Bool.true_eq_false, Bool.false_eq_true, true_and, and_true, false_and, and_false, true_or, or_true, false_or, or_false, decide_true, decide_false, Bool.and_self, Bool.true_and, Bool.and_true, Bool.false_and, Bool.and_false, Bool.true_or, Bool.or_true, Bool.false_or, Bool.or_false, Bool.not_true, Bool.not_false, g_5_26_4, g_5_30_4, g_5_34_2, g_5_42_T, g_5_9_4, g_5_15_4, p_5_26_4, p_5_26_4n, p_5_30_4, h4, he, h2, hch]
        · simp (maxSteps := 2000000) (disch := first | omega | with_reducible assumption | exact cobP | exact cobX | exact cobS (by omega) | exact cobK (by omega) | exact cobF (by omega) | exact cobW | exact isTC_T (by assumption) (by assumption) | exact bI_01 _ | exact Or.inl rfl | exact Or.inr rfl | (simp (decide := true) only [wid_0, wid_i, wid_l, wid_r, wid_n]; done) | decide | fail) only [s61_0, s61_1, s61_4, s61_5, s61_5n, s61_8, s61_9, s61_12, s61_13, s61_16, s61_19 (st := []), Option.bind_some, Option.bind_none, Option.toList_some, Option.toList_none, List.cons_append, List.nil_append, clr_i, clr_r, clr_l, clr_n, nI_add, nsub, pk_mul, nle_F, nle_T, nlt_F, nlt_T, neq_F, nz_F, nz_T, nneg_F, npos_T, npos_lF, npos_lT, nle0_F, m1_neg, m1_pos, m1_z, neq_m1, m1_neq, ↓reduceIte, if_true, if_false, not_true_eq_false, not_false_eq_true, bI_eq0, Bool.true_eq_false, Bool.false_eq_true, true_and, and_true, false_and, and_false, true_or, or_true, false_or, or_false, decide_true, decide_false, Bool.and_self, Bool.true_and, Bool.and_true, Bool.false_and, Bool.and_false, Bool.true_or, Bool.or_true, Bool.false_or, Bool.or_false, Bool.not_true, Bool.not_false, g_5_26_4, g_5_30_4, g_5_34_2, g_5_42_T, g_5_9_4, g_5_15_4, p_5_26_4, p_5_26_4n, p_5_30_4, h4, he]
    obtain ⟨c1, kn1, hnt1, hN1, e1⟩ := K_note (f := emT F B tm td A K) (x := x) (d := 0) (sz := sz) (us := us) (c := c) (y := y) (v := v) (tm := tA) C.1 C.2.1 hnt hntn hr hN
    have e1 : ∀ d, Ev (d + 4) 34 0 [some (.ref (x + 1)), none] [] (sz, us, emC (emT F B tm td A K) x c y v tA) = some (none, (sz, us, emC (emT F B tm td A K) x c1 y v tA)) := fun d => Ev_mono (by omega) e1
    have Q1 := Q.note kn1.f hN1
    obtain ⟨K2, j4, j5, ok2, e2⟩ := K_fillB (F := F) (sz := sz) (us := us) (y := y) (v := v) (tA := tA) Q1 ht hK
    generalize hc2 : w52 c1 (cop (c1 152) (rwG (w 14 t) (g2 w fs sn n tm t) false) 256) (cop (c1 153) (rwG (w 14 t) (g2 w fs sn n tm t) true) 256) = c2 at e2
    have o2 : ∀ k, k < 152 → c2 k = c1 k := fun k hk => by rw [← hc2]; exact w52_o _ _ _ hk
    have hR2 : ROt c2 w fs sn n tm t := fun r hr => by rw [← hc2, w52_152, w52_153, cop_in hr, cop_in hr]; exact ⟨rfl, rfl⟩
    have hch1 : c2 1 2 = nI ch := by rw [o2 1 (by omega), kn1.2 2 (by omega)]; exact hch
    have kf : Kf c (wU c2 151 1 (nI ch)) := by
      refine ⟨fun k hk => ?_, fun i hi => ?_⟩
      · rw [wU_off (by omega), o2 k (by omega), kn1.1 k (by omega)]
      · rw [wU_off (by omega), o2 1 (by omega), kn1.2 i hi]
    have Q2 : ASK (wU c2 151 1 (nI ch)) w fs sn n tn tm td A B x ch := Q1.cg (fun k hk => by rw [wU_off (by omega), o2 k (by omega)])
    refine ⟨wU c2 151 1 (nI ch), K2, n, kf, Q2.p ?_, ok2, ?_, wU_at, fun d => (p1 d).trans ?_⟩
    · rw [wU_off (by omega), o2 1 (by omega)]; exact hnt1
    · intro r hr
      rw [wU_off (by omega), wU_off (by omega)]
      exact hR2 r hr
    · simp (maxSteps := 2000000) (disch := first | omega | with_reducible assumption | exact cobP | exact cobX | exact cobS (by omega) | exact cobK (by omega) | exact cobF (by omega) | exact cobW | exact isTC_T (by assumption) (by assumption) | exact bI_01 _ | exact Or.inl rfl | exact Or.inr rfl | (simp (decide := true) only [wid_0, wid_i, wid_l, wid_r, wid_n]; done) | decide | fail) only [s61_20, s61_21, s61_24, s61_25, Option.bind_some, Option.bind_none, Option.toList_some, Option.toList_none, List.cons_append, List.nil_append, clr_i, clr_r, clr_l, clr_n, nI_add, nsub, pk_mul, nle_F, nle_T, nlt_F, nlt_T, neq_F, nz_F, nz_T, nneg_F, npos_T, npos_lF, npos_lT, nle0_F, m1_neg, m1_pos, m1_z, neq_m1, m1_neq, ↓reduceIte, if_true, if_false, not_true_eq_false, not_false_eq_true, bI_eq0, Bool.true_eq_false, Bool.false_eq_true, true_and, and_true, false_and, and_false, true_or, or_true, false_or, or_false, decide_true, decide_false, Bool.and_self, Bool.true_and, Bool.and_true, Bool.false_and, Bool.and_false, Bool.true_or, Bool.or_true, Bool.false_or, Bool.or_false, Bool.not_true, Bool.not_false, g_5_26_4, g_5_30_4, g_5_34_2, g_5_42_T, g_5_9_4, g_5_15_4, p_5_26_4, p_5_26_4n, p_5_30_4, e1]
      rw [e2 d, s61_26]
      simp (maxSteps := 2000000) (disch := first | omega | with_reducible assumption | exact cobP | exact cobX | exact cobS (by omega) | exact cobK (by omega) | exact cobF (by omega) | exact cobW | exact isTC_T (by assumption) (by assumption) | exact bI_01 _ | exact Or.inl rfl | exact Or.inr rfl | (simp (decide := true) only [wid_0, wid_i, wid_l, wid_r, wid_n]; done) | decide | fail) only [s61_27, s61_30, s61_89, s61_90, s61_91, s61_94, s61_95, s61_96, s61_99, s61_102 (st := []), Option.bind_some, Option.bind_none, Option.toList_some, Option.toList_none, List.cons_append, List.nil_append, clr_i, clr_r, clr_l, clr_n, nI_add, nsub, pk_mul, nle_F, nle_T, nlt_F, nlt_T, neq_F, nz_F, nz_T, nneg_F, npos_T, npos_lF, npos_lT, nle0_F, m1_neg, m1_pos, m1_z, neq_m1, m1_neq, ↓reduceIte, if_true, if_false, not_true_eq_false, not_false_eq_true, bI_eq0, Bool.true_eq_false, Bool.false_eq_true, true_and, and_true, false_and, and_false, true_or, or_true, false_or, or_false, decide_true, decide_false, Bool.and_self, Bool.true_and, Bool.and_true, Bool.false_and, Bool.and_false, Bool.true_or, Bool.or_true, Bool.false_or, Bool.or_false, Bool.not_true, Bool.not_false, g_5_26_4, g_5_30_4, g_5_34_2, g_5_42_T, g_5_9_4, g_5_15_4, p_5_26_4, p_5_26_4n, p_5_30_4, h_ro0, h_ro1, hch1]
end KS
