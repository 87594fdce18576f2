/-! the class: a term asked -/
def KO (sm : Nat → Nat → Nat → Nat → Int32 × Int32) (tn ch : Nat) (K : KT) : Prop := ∀ t, t < tn → (K t).2.2.toInt ≤ (ch : Int) ∧ ((K t).2.2 = nI ch → ∃ a b g, a < 16 ∧ b < 16 ∧ g < 16 ∧ (K t).2.1 = nI (pn a b g) ∧ (K t).1 = bsp (sm t a b g).1 (sm t a b g).2)
section KP
variable {F : Hf} {x d sz us n tn t ch : Nat} {c w : WD} {y : Nat → Int64} {v : VD} {tA : Nat → Option Nat} {fs sn : Nat → Option Nat} {B : Nat → Option Nat} {A : Nat → Nat} {tm : Nat → Nat → Nat} {td : Nat → Nat → Int32} {K : KT}
theorem KO_up {sm : Nat → Nat → Nat → Nat → Int32 × Int32} {a b g : Nat} (hK : KO sm tn ch K) (hch : ch < 1000) (ha : a < 16) (hb : b < 16) (hg : g < 16) : KO sm tn ch (upK K t (bsp (sm t a b g).1 (sm t a b g).2, nI (pn a b g), nI ch)) := by
  intro s hs
  by_cases q : s = t
  · subst q
    rw [upK_at]
    refine ⟨?_, fun _ => ⟨a, b, g, ha, hb, hg, rfl, rfl⟩⟩
    show (nI ch).toInt ≤ _
    rw [nI_toInt (by omega)]
    exact Int.le_refl _
  · rw [upK_of q]
    exact hK s hs
theorem K_spans (Q : ASK c w fs sn n tn tm td A B x ch) : ∀ t, t < tn → SPN F x sz us c y v tA B A tm td (sem (rW w n) fs sn n tm) (KO (sem (rW w n) fs sn n tm) tn ch) t := by
  intro t
  induction t using Nat.strongRecOn with
  | _ t ih =>
    intro ht K hK a b g ha hb hg
    have ih' : ∀ s, s < t → SPN F x sz us c y v tA B A tm td (sem (rW w n) fs sn n tm) (KO (sem (rW w n) fs sn n tm) tn ch) s := fun s hs => ih s hs (by omega)
    have Q0 := Q
    obtain ⟨C, hN, hT, ⟨hTB, hTi⟩, hD, hch, hch2, htn⟩ := Q0
    obtain ⟨hB, hx⟩ := hTB t ht
    have hi : ∀ a, B a = some t → a = A t := fun a h => hTi a t h
    have T := hT t ht
    obtain ⟨hd0, -, -, -, h14f, hF⟩ := hD t ht
    have ha' : mk (tb (td t 0) 0) a < 16 := mk_lt ha
    have hb' : mk (tb (td t 0) 1) b < 16 := mk_lt hb
    have hg' : mk (tb (td t 0) 2) g < 16 := mk_lt hg
    have hm := pn_mk (td t 0) ha hb hg
    have hag : agr (td t 0) (mk (tb (td t 0) 0) a) (mk (tb (td t 0) 1) b) (mk (tb (td t 0) 2) g) a b g := agr_mk _ _ _ _
    have hz : tm t 0 = 14 → pl0 (tm t 1) 0 (mk (tb (td t 0) 0) a) = mk (tb (td t 0) 0) a ∧ pl1 (tm t 1) 0 (mk (tb (td t 0) 1) b) = mk (tb (td t 0) 1) b ∧ pl2 (tm t 1) 0 (mk (tb (td t 0) 2) g) = mk (tb (td t 0) 2) g := by
      intro h14
      have hf := h14f h14
      rw [← hd0] at hf
      have hv := (T.2.2.2.2.2 h14).2.1
      have hvv : tm t 1 = 0 ∨ tm t 1 = 1 ∨ tm t 1 = 2 := by omega
      rcases hvv with h | h | h
      · rw [h] at hf ⊢
        rw [hf]
        exact ⟨rfl, rfl, rfl⟩
      · rw [h] at hf ⊢
        rw [hf]
        exact ⟨rfl, rfl, rfl⟩
      · rw [h] at hf ⊢
        rw [hf]
        exact ⟨rfl, rfl, rfl⟩
    rw [hd0] at hag
    have hsem := sem_fr (w := rW w n) (fs := fs) (sn := sn) (n := n) hT (fun i hi => (hD i hi).2.2.2.2.2) t ht _ _ _ _ _ _ hag
    rw [← hd0] at hsem
    generalize mk (tb (td t 0) 0) a = a' at *
    generalize mk (tb (td t 0) 1) b = b' at *
    generalize mk (tb (td t 0) 2) g = g' at *
    rw [← hsem]
    by_cases hit : (K t).2.2 = nI ch ∧ (K t).2.1 = nI (pn a' b' g')
    · obtain ⟨h1, h2⟩ := hit
      obtain ⟨-, h3⟩ := hK t ht
      obtain ⟨a0, b0, g0, l1, l2, l3, e1, e2⟩ := h3 h1
      rw [h2] at e1
      obtain ⟨q1, q2, q3⟩ := pn_inj ha' hb' hg' l1 l2 l3 e1
      subst q1 q2 q3
      refine ⟨K, hK, fun D hD' => ?_⟩
      simp (maxSteps := 2000000) (disch := first | omega | with_reducible assumption | exact cobP | exact cobX | exact cobS (by omega) | exact cobK (by omega) | exact cobF (by omega) | exact cobW | exact isTC_T (by assumption) (by assumption) | exact bI_01 _ | exact Or.inl rfl | exact Or.inr rfl | (simp (decide := true) only [wid_0, wid_i, wid_l, wid_r, wid_n]; done) | decide | fail) only [s56_0, s56_1, s56_2, s56_5, s56_6, s56_7, s56_8, s56_11, s56_12, s56_15, s56_18, s56_19, s56_22, s56_23, s56_26, s56_27, s56_28, s56_29, s56_30c0, s56_30c3, s56_30c6, s56_30c8, s56_33, s56_36, s56_37, s56_38, s56_41, s56_42, s56_43, s56_46, s56_49, s56_50, s56_53 (st := []), Option.bind_some, Option.bind_none, Option.toList_some, Option.toList_none, List.cons_append, List.nil_append, clr_i, clr_r, clr_l, clr_n, nI_add, nsub, pk_mul, nle_F, nle_T, nlt_F, nlt_T, neq_F, nz_F, nz_T, nneg_F, npos_T, npos_lF, npos_lT, nle0_F, m1_neg, m1_pos, m1_z, neq_m1, m1_neq, ↓reduceIte, if_true, if_false, not_true_eq_false, not_false_eq_true, bI_eq0, Bool.true_eq_false, Bool.false_eq_true, true_and, and_true, false_and, and_false, true_or, or_true, false_or, or_false, decide_true, decide_false, Bool.and_self, Bool.true_and, Bool.and_true, Bool.false_and, Bool.and_false, Bool.true_or, Bool.or_true, Bool.false_or, Bool.or_false, Bool.not_true, Bool.not_false, g_9_28_T, g_9_31_T, g_9_34_2, g_9_39_T, p_9_46_T, p_9_39_T, p_9_31_T, g_9_46_T, hm, hch, h1, h2, e2]
    · have hfs : ∃ K1, KO (sem (rW w n) fs sn n tm) tn ch K1 ∧ ∀ D, 2 * t + 6 ≤ D → Ev D 56 26 [some (.ref (A t)), some (.ref (x + 1)), some (.int (nI (pn a b g))), some (.int (nI (pn a' b' g')))] [] (sz, us, emC (emT F B tm td A K) x c y v tA) = Ev D 56 33 [some (.ref (A t)), some (.ref (x + 1)), some (.int (nI (pn a b g))), some (.int (nI (pn a' b' g')))] [.long (bsp (sem (rW w n) fs sn n tm t a' b' g').1 (sem (rW w n) fs sn n tm t a' b' g').2), .ref (A t)] (sz, us, emC (emT F B tm td A K1) x c y v tA) := by
        by_cases q : tm t 0 < 6
        · refine ⟨K, hK, fun D hD' => ?_⟩
          obtain ⟨d, rfl⟩ : ∃ d, D = d + 2 * t + 6 := ⟨D - (2 * t + 6), by omega⟩
          have hq : cob (emC (emT F B tm td A K) x c y v tA (A t)) = some 0 := by rw [cob_T hB hx]; unfold tkc; rw [if_pos q]
          have e := fun d => K_fs0 (d := d) (F := F) (sz := sz) (us := us) (y := y) (v := v) (tA := tA) (K := K) Q ht q ha' hb' hg'
          simp (maxSteps := 2000000) (disch := first | omega | with_reducible assumption | exact cobP | exact cobX | exact cobS (by omega) | exact cobK (by omega) | exact cobF (by omega) | exact cobW | exact isTC_T (by assumption) (by assumption) | exact bI_01 _ | exact Or.inl rfl | exact Or.inr rfl | (simp (decide := true) only [wid_0, wid_i, wid_l, wid_r, wid_n]; done) | decide | fail) only [s56_26, s56_27, s56_28, s56_29, s56_30c0, s56_30c3, s56_30c6, s56_30c8, Option.bind_some, Option.bind_none, Option.toList_some, Option.toList_none, List.cons_append, List.nil_append, clr_i, clr_r, clr_l, clr_n, nI_add, nsub, pk_mul, nle_F, nle_T, nlt_F, nlt_T, neq_F, nz_F, nz_T, nneg_F, npos_T, npos_lF, npos_lT, nle0_F, m1_neg, m1_pos, m1_z, neq_m1, m1_neq, ↓reduceIte, if_true, if_false, not_true_eq_false, not_false_eq_true, bI_eq0, Bool.true_eq_false, Bool.false_eq_true, true_and, and_true, false_and, and_false, true_or, or_true, false_or, or_false, decide_true, decide_false, Bool.and_self, Bool.true_and, Bool.and_true, Bool.false_and, Bool.and_false, Bool.true_or, Bool.or_true, Bool.false_or, Bool.or_false, Bool.not_true, Bool.not_false, e]
        · by_cases q2 : tm t 0 < 9
          · obtain ⟨K1, ok1, e1⟩ := K_fs3 Q ht (by omega) q2 ih' hK ha' hb' hg'
            refine ⟨K1, ok1, fun D hD' => ?_⟩
            obtain ⟨d, rfl⟩ : ∃ d, D = d + 2 * t + 6 := ⟨D - (2 * t + 6), by omega⟩
            have hq : cob (emC (emT F B tm td A K) x c y v tA (A t)) = some 3 := by rw [cob_T hB hx]; unfold tkc; rw [if_neg q, if_pos q2]
            simp (maxSteps := 2000000) (disch := first | omega | with_reducible assumption | exact cobP | exact cobX | exact cobS (by omega) | exact cobK (by omega) | exact cobF (by omega) | exact cobW | exact isTC_T (by assumption) (by assumption) | exact bI_01 _ | exact Or.inl rfl | exact Or.inr rfl | (simp (decide := true) only [wid_0, wid_i, wid_l, wid_r, wid_n]; done) | decide | fail) only [s56_26, s56_27, s56_28, s56_29, s56_30c0, s56_30c3, s56_30c6, s56_30c8, Option.bind_some, Option.bind_none, Option.toList_some, Option.toList_none, List.cons_append, List.nil_append, clr_i, clr_r, clr_l, clr_n, nI_add, nsub, pk_mul, nle_F, nle_T, nlt_F, nlt_T, neq_F, nz_F, nz_T, nneg_F, npos_T, npos_lF, npos_lT, nle0_F, m1_neg, m1_pos, m1_z, neq_m1, m1_neq, ↓reduceIte, if_true, if_false, not_true_eq_false, not_false_eq_true, bI_eq0, Bool.true_eq_false, Bool.false_eq_true, true_and, and_true, false_and, and_false, true_or, or_true, false_or, or_false, decide_true, decide_false, Bool.and_self, Bool.true_and, Bool.and_true, Bool.false_and, Bool.and_false, Bool.true_or, Bool.or_true, Bool.false_or, Bool.or_false, Bool.not_true, Bool.not_false, e1]
          · by_cases q3 : tm t 0 < 14
            · obtain ⟨K1, ok1, e1⟩ := K_fs8 Q ht (by omega) q3 ih' hK ha' hb' hg'
              refine ⟨K1, ok1, fun D hD' => ?_⟩
              obtain ⟨d, rfl⟩ : ∃ d, D = d + 2 * t + 6 := ⟨D - (2 * t + 6), by omega⟩
              have hq : cob (emC (emT F B tm td A K) x c y v tA (A t)) = some 8 := by rw [cob_T hB hx]; unfold tkc; rw [if_neg q, if_neg q2, if_pos q3]
              simp (maxSteps := 2000000) (disch := first | omega | with_reducible assumption | exact cobP | exact cobX | exact cobS (by omega) | exact cobK (by omega) | exact cobF (by omega) | exact cobW | exact isTC_T (by assumption) (by assumption) | exact bI_01 _ | exact Or.inl rfl | exact Or.inr rfl | (simp (decide := true) only [wid_0, wid_i, wid_l, wid_r, wid_n]; done) | decide | fail) only [s56_26, s56_27, s56_28, s56_29, s56_30c0, s56_30c3, s56_30c6, s56_30c8, Option.bind_some, Option.bind_none, Option.toList_some, Option.toList_none, List.cons_append, List.nil_append, clr_i, clr_r, clr_l, clr_n, nI_add, nsub, pk_mul, nle_F, nle_T, nlt_F, nlt_T, neq_F, nz_F, nz_T, nneg_F, npos_T, npos_lF, npos_lT, nle0_F, m1_neg, m1_pos, m1_z, neq_m1, m1_neq, ↓reduceIte, if_true, if_false, not_true_eq_false, not_false_eq_true, bI_eq0, Bool.true_eq_false, Bool.false_eq_true, true_and, and_true, false_and, and_false, true_or, or_true, false_or, or_false, decide_true, decide_false, Bool.and_self, Bool.true_and, Bool.and_true, Bool.false_and, Bool.and_false, Bool.true_or, Bool.or_true, Bool.false_or, Bool.or_false, Bool.not_true, Bool.not_false, e1]
            · have h14 : tm t 0 = 14 := by have := T.2.1; omega
              obtain ⟨K1, ok1, e1⟩ := K_fs6 Q ht h14 ih' hK ha' hb' hg' (hz h14)
              refine ⟨K1, ok1, fun D hD' => ?_⟩
              obtain ⟨d, rfl⟩ : ∃ d, D = d + 2 * t + 6 := ⟨D - (2 * t + 6), by omega⟩
              have hq : cob (emC (emT F B tm td A K) x c y v tA (A t)) = some 6 := by rw [cob_T hB hx, h14]; rfl
              simp (maxSteps := 2000000) (disch := first | omega | with_reducible assumption | exact cobP | exact cobX | exact cobS (by omega) | exact cobK (by omega) | exact cobF (by omega) | exact cobW | exact isTC_T (by assumption) (by assumption) | exact bI_01 _ | exact Or.inl rfl | exact Or.inr rfl | (simp (decide := true) only [wid_0, wid_i, wid_l, wid_r, wid_n]; done) | decide | fail) only [s56_26, s56_27, s56_28, s56_29, s56_30c0, s56_30c3, s56_30c6, s56_30c8, Option.bind_some, Option.bind_none, Option.toList_some, Option.toList_none, List.cons_append, List.nil_append, clr_i, clr_r, clr_l, clr_n, nI_add, nsub, pk_mul, nle_F, nle_T, nlt_F, nlt_T, neq_F, nz_F, nz_T, nneg_F, npos_T, npos_lF, npos_lT, nle0_F, m1_neg, m1_pos, m1_z, neq_m1, m1_neq, ↓reduceIte, if_true, if_false, not_true_eq_false, not_false_eq_true, bI_eq0, Bool.true_eq_false, Bool.false_eq_true, true_and, and_true, false_and, and_false, true_or, or_true, false_or, or_false, decide_true, decide_false, Bool.and_self, Bool.true_and, Bool.and_true, Bool.false_and, Bool.and_false, Bool.true_or, Bool.or_true, Bool.false_or, Bool.or_false, Bool.not_true, Bool.not_false, e1]
      obtain ⟨K1, ok1, e1⟩ := hfs
      refine ⟨upK K1 t (bsp (sem (rW w n) fs sn n tm t a' b' g').1 (sem (rW w n) fs sn n tm t a' b' g').2, nI (pn a' b' g'), nI ch), KO_up ok1 hch2 ha' hb' hg', fun D hD' => ?_⟩
      have p1 : Ev D 56 0 [some (.ref (A t)), some (.ref (x + 1)), some (.int (nI (pn a b g))), none] [] (sz, us, emC (emT F B tm td A K) x c y v tA) = Ev D 56 26 [some (.ref (A t)), some (.ref (x + 1)), some (.int (nI (pn a b g))), some (.int (nI (pn a' b' g')))] [] (sz, us, emC (emT F B tm td A K) x c y v tA) := by
        by_cases h1 : (K t).2.2 = nI ch
        · have h2 : ¬ (K t).2.1 = nI (pn a' b' g') := fun h => hit ⟨h1, h⟩
          simp (maxSteps := 2000000) (disch := first | omega | with_reducible assumption | exact cobP | exact cobX | exact cobS (by omega) | exact cobK (by omega) | exact cobF (by omega) | exact cobW | exact isTC_T (by assumption) (by assumption) | exact bI_01 _ | exact Or.inl rfl | exact Or.inr rfl | (simp (decide := true) only [wid_0, wid_i, wid_l, wid_r, wid_n]; done) | decide | fail) only [s56_0, s56_1, s56_2, s56_5, s56_6, s56_7, s56_8, s56_11, s56_12, s56_15, s56_18, s56_19, s56_22, s56_23, Option.bind_some, Option.bind_none, Option.toList_some, Option.toList_none, List.cons_append, List.nil_append, clr_i, clr_r, clr_l, clr_n, nI_add, nsub, pk_mul, nle_F, nle_T, nlt_F, nlt_T, neq_F, nz_F, nz_T, nneg_F, npos_T, npos_lF, npos_lT, nle0_F, m1_neg, m1_pos, m1_z, neq_m1, m1_neq, ↓reduceIte, if_true, if_false, not_true_eq_false, not_false_eq_true, bI_eq0, Bool.true_eq_false, Bool.false_eq_true, true_and, and_true, false_and, and_false, true_or, or_true, false_or, or_false, decide_true, decide_false, Bool.and_self, Bool.true_and, Bool.and_true, Bool.false_and, Bool.and_false, Bool.true_or, Bool.or_true, Bool.false_or, Bool.or_false, Bool.not_true, Bool.not_false, g_9_28_T, g_9_31_T, g_9_34_2, g_9_39_T, p_9_46_T, p_9_39_T, p_9_31_T, g_9_46_T, hm, hch, h1, h2]
        · simp (maxSteps := 2000000) (disch := first | omega | with_reducible assumption | exact cobP | exact cobX | exact cobS (by omega) | exact cobK (by omega) | exact cobF (by omega) | exact cobW | exact isTC_T (by assumption) (by assumption) | exact bI_01 _ | exact Or.inl rfl | exact Or.inr rfl | (simp (decide := true) only [wid_0, wid_i, wid_l, wid_r, wid_n]; done) | decide | fail) only [s56_0, s56_1, s56_2, s56_5, s56_6, s56_7, s56_8, s56_11, s56_12, s56_15, s56_18, s56_19, s56_22, s56_23, Option.bind_some, Option.bind_none, Option.toList_some, Option.toList_none, List.cons_append, List.nil_append, clr_i, clr_r, clr_l, clr_n, nI_add, nsub, pk_mul, nle_F, nle_T, nlt_F, nlt_T, neq_F, nz_F, nz_T, nneg_F, npos_T, npos_lF, npos_lT, nle0_F, m1_neg, m1_pos, m1_z, neq_m1, m1_neq, ↓reduceIte, if_true, if_false, not_true_eq_false, not_false_eq_true, bI_eq0, Bool.true_eq_false, Bool.false_eq_true, true_and, and_true, false_and, and_false, true_or, or_true, false_or, or_false, decide_true, decide_false, Bool.and_self, Bool.true_and, Bool.and_true, Bool.false_and, Bool.and_false, Bool.true_or, Bool.or_true, Bool.false_or, Bool.or_false, Bool.not_true, Bool.not_false, g_9_28_T, g_9_31_T, g_9_34_2, g_9_39_T, p_9_46_T, p_9_39_T, p_9_31_T, g_9_46_T, hm, hch, h1]
      rw [p1, e1 D hD']
      simp (maxSteps := 2000000) (disch := first | omega | with_reducible assumption | exact cobP | exact cobX | exact cobS (by omega) | exact cobK (by omega) | exact cobF (by omega) | exact cobW | exact isTC_T (by assumption) (by assumption) | exact bI_01 _ | exact Or.inl rfl | exact Or.inr rfl | (simp (decide := true) only [wid_0, wid_i, wid_l, wid_r, wid_n]; done) | decide | fail) only [s56_33, s56_36, s56_37, s56_38, s56_41, s56_42, s56_43, s56_46, s56_49, s56_50, s56_53 (st := []), Option.bind_some, Option.bind_none, Option.toList_some, Option.toList_none, List.cons_append, List.nil_append, clr_i, clr_r, clr_l, clr_n, nI_add, nsub, pk_mul, nle_F, nle_T, nlt_F, nlt_T, neq_F, nz_F, nz_T, nneg_F, npos_T, npos_lF, npos_lT, nle0_F, m1_neg, m1_pos, m1_z, neq_m1, m1_neq, ↓reduceIte, if_true, if_false, not_true_eq_false, not_false_eq_true, bI_eq0, Bool.true_eq_false, Bool.false_eq_true, true_and, and_true, false_and, and_false, true_or, or_true, false_or, or_false, decide_true, decide_false, Bool.and_self, Bool.true_and, Bool.and_true, Bool.false_and, Bool.and_false, Bool.true_or, Bool.or_true, Bool.false_or, Bool.or_false, Bool.not_true, Bool.not_false, g_9_28_T, g_9_31_T, g_9_34_2, g_9_39_T, p_9_46_T, p_9_39_T, p_9_31_T, g_9_46_T, emT_hup, upK_at, upK_up, hch]
end KP
