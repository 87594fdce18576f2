/-! the class: rows of a term found -/
/-- a question may come: the states ahead of nt are noted -/
def ASP (c w : WD) (fs sn : Nat → Option Nat) (n nt tn : Nat) (tm : Nat → Nat → Nat) (td : Nat → Nat → Int32) (A : Nat → Nat) (B : Nat → Option Nat) (x ch : Nat) : Prop :=
  CS c w fs sn n ∧ (∀ s, s < n → ∃ r, c (8 + 4 * s) 4 = bI r) ∧ c 1 3 = nI nt ∧ nt ≤ n ∧ (∀ s, s < nt → NTs c s) ∧ (∀ t, t < tn → TMt w tm t) ∧ TBk B A x tn ∧ (∀ t, t < tn → TDt w tm td t) ∧ c 1 2 = nI ch ∧ ch < 1000 ∧ tn ≤ 60
theorem CS.cg {c c' w : WD} {fs sn : Nat → Option Nat} {n : Nat} (C : CS c w fs sn n) (h : ∀ k, 8 ≤ k → k < 128 → c' k = c k) (h1 : c' 1 1 = c 1 1) : CS c' w fs sn n := by
  obtain ⟨a1, a2, a3, a4⟩ := C
  refine ⟨h1.trans a1, a2, fun s hs => ?_, fun s hs => ?_⟩
  · rw [h (8 + 4 * s) (by omega) (by omega), h (9 + 4 * s) (by omega) (by omega), h (10 + 4 * s) (by omega) (by omega), h (11 + 4 * s) (by omega) (by omega)]
    exact a3 s hs
  · rw [h (8 + 4 * s) (by omega) (by omega)]
    exact a4 s hs
theorem NTs.cg {c c' : WD} {s : Nat} (N : NTs c s) (hs : s < 30) (h : ∀ k, (3 ≤ k ∧ k < 6) ∨ (8 ≤ k ∧ k < 128) → c' k = c k) (h1 : c' 1 4 = c 1 4) : NTs c' s := by
  unfold NTs at N ⊢
  rw [h (8 + 4 * s) (by omega), h (11 + 4 * s) (by omega), h 3 (by omega), h 4 (by omega), h 5 (by omega), h1]
  exact N
theorem ASK.cg {c c' w : WD} {fs sn : Nat → Option Nat} {n tn ch x : Nat} {tm : Nat → Nat → Nat} {td : Nat → Nat → Int32} {A : Nat → Nat} {B : Nat → Option Nat} (Q : ASK c w fs sn n tn tm td A B x ch) (h : ∀ k, k < 128 → c' k = c k) : ASK c' w fs sn n tn tm td A B x ch := by
  obtain ⟨C, hN, hT, hTB, hD, hch, hr⟩ := Q
  have h1 : c' 1 = c 1 := h 1 (by omega)
  have := C.2.1
  exact ⟨C.cg (fun k _ hk => h k hk) (by rw [h1]), fun s hs => (hN s hs).cg (by omega) (fun k hk => h k (by omega)) (by rw [h1]), hT, hTB, hD, by rw [h1]; exact hch, hr⟩
/-- what noting and rows found leave as they are -/
def Kf (c c' : WD) : Prop := (∀ k, k = 0 ∨ k = 2 ∨ (7 ≤ k ∧ k < 151) → c' k = c k) ∧ (∀ i, i < 3 → c' 1 i = c 1 i)
theorem Kn.f {c c' : WD} (h : Kn c c') : Kf c c' := ⟨fun k hk => h.1 k (by omega), h.2⟩
theorem Kf.refl (c : WD) : Kf c c := ⟨fun _ _ => rfl, fun _ _ => rfl⟩
theorem Kf.trans {a b c : WD} (h : Kf a b) (h' : Kf b c) : Kf a c := ⟨fun k hk => (h'.1 k hk).trans (h.1 k hk), fun i hi => (h'.2 i hi).trans (h.2 i hi)⟩
theorem ASP.note {c c' w : WD} {fs sn : Nat → Option Nat} {n nt tn ch x : Nat} {tm : Nat → Nat → Nat} {td : Nat → Nat → Int32} {A : Nat → Nat} {B : Nat → Option Nat} (Q : ASP c w fs sn n nt tn tm td A B x ch) (h : Kf c c') (hN : ∀ s, s < n → NTs c' s) : ASK c' w fs sn n tn tm td A B x ch := by
  obtain ⟨C, hr, ht, hnt, hN', hT, hTB, hD, hch, hl⟩ := Q
  exact ⟨C.cg (fun k h1 h2 => h.1 k (by omega)) (h.2 1 (by omega)), hN, hT, hTB, hD, by rw [h.2 2 (by omega)]; exact hch, hl⟩
theorem ASK.p {c w : WD} {fs sn : Nat → Option Nat} {n tn ch x : Nat} {tm : Nat → Nat → Nat} {td : Nat → Nat → Int32} {A : Nat → Nat} {B : Nat → Option Nat} (Q : ASK c w fs sn n tn tm td A B x ch) (h : c 1 3 = nI n) : ASP c w fs sn n n tn tm td A B x ch := by
  obtain ⟨C, hN, hT, hTB, hD, hl⟩ := Q
  exact ⟨C, fun s hs => ⟨_, (hN s hs).1⟩, h, Nat.le_refl n, hN, hT, hTB, hD, hl⟩
/-- the table of rows is right for term t -/
def ROt (c w : WD) (fs sn : Nat → Option Nat) (n : Nat) (tm : Nat → Nat → Nat) (t : Nat) : Prop := ∀ r, r < 256 → c 152 r = rwG (w 14 t) (g2 w fs sn n tm t) false r ∧ c 153 r = rwG (w 14 t) (g2 w fs sn n tm t) true r
/-- what is known of the rows found last -/
def ROk (c : WD) (v : VD) (w : WD) (fs sn : Nat → Option Nat) (n tn ch : Nat) (tm : Nat → Nat → Nat) (A : Nat → Nat) : Prop :=
  (c 151 1).toInt ≤ (ch : Int) ∧ (v 151 0 = .null ∨ ∃ t, t < tn ∧ v 151 0 = .ref (A t) ∧ (c 151 1 = nI ch → ROt c w fs sn n tm t))
def w52 (c : WD) (P Q : Nat → Int32) : WD := wT (wT c 152 P) 153 Q
theorem w52_152 (c : WD) (P Q : Nat → Int32) (j : Nat) : w52 c P Q 152 j = P j := rfl
theorem w52_153 (c : WD) (P Q : Nat → Int32) (j : Nat) : w52 c P Q 153 j = Q j := rfl
theorem w52_o (c : WD) (P Q : Nat → Int32) {k : Nat} (h : k < 152) : w52 c P Q k = c k := by
  funext j
  unfold w52
  rw [wT_off _ _ _ _ (by omega), wT_off _ _ _ _ (by omega)]
theorem w52_u (c : WD) (P Q : Nat → Int32) (j : Nat) (z : Int32) : wU (w52 c P Q) 152 j z = w52 c (upd P j z) Q := by
  funext k i
  simp only [w52, wU_ap, wT, upd]
  by_cases h4 : k = 152
  · subst h4
    by_cases h : i = j <;> simp [h]
  · simp [h4]
theorem w52_v (c : WD) (P Q : Nat → Int32) (j : Nat) (z : Int32) : wU (w52 c P Q) 153 j z = w52 c P (upd Q j z) := by
  funext k i
  simp only [w52, wU_ap, wT, upd]
  by_cases h4 : k = 153
  · subst h4
    by_cases h : i = j <;> simp [h]
  · simp [h4]
theorem w52_s (c : WD) : w52 c (c 152) (c 153) = c := by
  unfold w52
  have e : c 153 = wT c 152 (c 152) 153 := by funext j; exact (wT_off _ _ _ _ (by omega)).symm
  rw [wT_self, wT_self]
theorem spo_00 : spo 0 false = nI 0 ∧ spo 0 true = nI 0 := by decide
theorem vU_self {v : VD} {k i : Nat} {z : Value} (h : v k i = z) : vU v k i z = v := by
  funext a b
  rw [vU_ap]
  split
  · rename_i q; obtain ⟨rfl, rfl⟩ := q; exact h.symm
  · rfl
section KR
variable {F : Hf} {x d sz us n nt tn t ch : Nat} {c w : WD} {y : Nat → Int64} {v : VD} {tA : Nat → Option Nat} {fs sn : Nat → Option Nat} {B : Nat → Option Nat} {A : Nat → Nat} {tm : Nat → Nat → Nat} {td : Nat → Nat → Int32} {K : KT}
theorem K_fillB (Q : ASK c w fs sn n tn tm td A B x ch) (ht : t < tn) (hK : KO (sem (rW w n) fs sn n tm) tn ch K) : ∃ K' j4 j5, KO (sem (rW w n) fs sn n tm) tn ch K' ∧ ∀ d, Ev (d + 130) 61 26 [some (.ref (x + 151)), some (.ref (A t)), some (.ref (x + 1)), some (.int (nI 0)), none, none] [] (sz, us, emC (emT F B tm td A K) x c y v tA) = Ev (d + 130) 61 26 [some (.ref (x + 151)), some (.ref (A t)), some (.ref (x + 1)), some (.int (nI 256)), j4, j5] [] (sz, us, emC (emT F B tm td A K') x (w52 c (cop (c 152) (rwG (w 14 t) (g2 w fs sn n tm t) false) 256) (cop (c 153) (rwG (w 14 t) (g2 w fs sn n tm t) true) 256)) y v tA) := by
  have key : ∀ m, m ≤ 256 → ∃ K' j4 j5, KO (sem (rW w n) fs sn n tm) tn ch K' ∧ ∀ d, Ev (d + 130) 61 26 [some (.ref (x + 151)), some (.ref (A t)), some (.ref (x + 1)), some (.int (nI 0)), none, none] [] (sz, us, emC (emT F B tm td A K) x c y v tA) = Ev (d + 130) 61 26 [some (.ref (x + 151)), some (.ref (A t)), some (.ref (x + 1)), some (.int (nI m)), j4, j5] [] (sz, us, emC (emT F B tm td A K') x (w52 c (cop (c 152) (rwG (w 14 t) (g2 w fs sn n tm t) false) m) (cop (c 153) (rwG (w 14 t) (g2 w fs sn n tm t) true) m)) y v tA) := by
    intro m
    induction m with
    | zero => intro _; exact ⟨K, none, none, hK, fun d => by rw [cop_0, cop_0, w52_s]⟩
    | succ m ih =>
      intro hm
      obtain ⟨K1, j4, j5, ok1, e1⟩ := ih (by omega)
      have hm' : m < 256 := by omega
      rw [← cop_s (c 152) (rwG (w 14 t) (g2 w fs sn n tm t) false) m, ← cop_s (c 153) (rwG (w 14 t) (g2 w fs sn n tm t) true) m, ← w52_v, ← w52_u]
      have Q1 : ASK (w52 c (cop (c 152) (rwG (w 14 t) (g2 w fs sn n tm t) false) m) (cop (c 153) (rwG (w 14 t) (g2 w fs sn n tm t) true) m)) w fs sn n tn tm td A B x ch := Q.cg (fun k hk => w52_o _ _ _ (by omega))
      generalize w52 c (cop (c 152) (rwG (w 14 t) (g2 w fs sn n tm t) false) m) (cop (c 153) (rwG (w 14 t) (g2 w fs sn n tm t) true) m) = c1 at *
      have hsp := K_spans (F := F) (sz := sz) (us := us) (y := y) (v := v) (tA := tA) Q1 t ht
      obtain ⟨K2, ok2, e2⟩ := hsp K1 ok1 (m / 16) (m % 16) 0 (by omega) (by omega) (by omega)
      obtain ⟨C, hN, hT, ⟨hTB, hTi⟩, hD, hch, hch2, htn⟩ := Q1
      obtain ⟨hB, hx⟩ := hTB t ht
      have hfr := (hD t ht).1
      have hhi := hi0_sem (w := rW w n) (fs := fs) (sn := sn) C.2.1 hT t ht (m / 16) (m % 16) 0
      have hn30 := C.2.1
      have p1 := hhi.1 31 (by omega) (by omega)
      have e152 : wU c1 152 m (rwG (w 14 t) (g2 w fs sn n tm t) false m) 153 = c1 153 := wU_off (by omega)
      unfold rwG
      cases ho : oneB (td t 0) m
      · have hc : ¬ ((m / 16 = 0 ∨ tb (w 14 t) 0 = true) ∧ (m % 16 = 0 ∨ tb (w 14 t) 1 = true)) := by
          rw [← hfr]
          unfold oneB at ho
          intro h
          obtain ⟨h1, h2⟩ := h
          have a1 : (tb (td t 0) 0 || decide (m / 16 = 0)) = true := by rcases h1 with h1 | h1 <;> simp [h1]
          have a2 : (tb (td t 0) 1 || decide (m % 16 = 0)) = true := by rcases h2 with h2 | h2 <;> simp [h2]
          rw [a1, a2] at ho
          cases ho
        rw [if_neg hc, if_neg hc]
        refine ⟨K1, some (.long 0), none, ok1, fun d => (e1 d).trans ?_⟩
        rw [s61_26]
        simp (maxSteps := 2000000) (disch := first | omega | with_reducible assumption | exact cobP | exact cobX | exact cobS (by omega) | exact cobK (by omega) | exact cobF (by omega) | exact cobW | exact isTC_T (by assumption) (by assumption) | exact bI_01 _ | exact Or.inl rfl | exact Or.inr rfl | (simp (decide := true) only [wid_0, wid_i, wid_l, wid_r, wid_n]; done) | decide | fail) only [s61_27, s61_30, s61_33, s61_34, s61_35, s61_38, s61_41, s61_44, s61_45, s61_46, s61_47, s61_50c0, s61_50c3, s61_50c6, s61_50c8, s61_53, s61_56, s61_57, s61_59, s61_60, s61_63, s61_64, s61_66, s61_67, s61_70, s61_71, s61_72, s61_75, s61_76, s61_78, s61_79, s61_82, s61_83, s61_86, s61_50T, Option.bind_some, Option.bind_none, Option.toList_some, Option.toList_none, List.cons_append, List.nil_append, clr_i, clr_r, clr_l, clr_n, nI_add, nsub, pk_mul, nle_F, nle_T, nlt_F, nlt_T, neq_F, nz_F, nz_T, nneg_F, npos_T, npos_lF, npos_lT, nle0_F, m1_neg, m1_pos, m1_z, neq_m1, m1_neq, ↓reduceIte, if_true, if_false, not_true_eq_false, not_false_eq_true, bI_eq0, Bool.true_eq_false, Bool.false_eq_true, true_and, and_true, false_and, and_false, true_or, or_true, false_or, or_false, decide_true, decide_false, Bool.and_self, Bool.true_and, Bool.and_true, Bool.false_and, Bool.and_false, Bool.true_or, Bool.or_true, Bool.false_or, Bool.or_false, Bool.not_true, Bool.not_false, g_5_26_4, g_5_30_4, g_5_34_2, g_5_42_T, g_5_9_4, g_5_15_4, p_5_26_4, p_5_26_4n, p_5_30_4, K_isOne, ho, K_spanOf_t, K_spanOf_f, spo_00, bC_152, bC_153, uC_152, uC_153]
      · have hc : (m / 16 = 0 ∨ tb (w 14 t) 0 = true) ∧ (m % 16 = 0 ∨ tb (w 14 t) 1 = true) := by
          rw [← hfr]
          unfold oneB at ho
          simp only [Bool.and_eq_true, Bool.or_eq_true, decide_eq_true_eq] at ho
          exact ⟨ho.1.symm, ho.2.symm⟩
        rw [if_pos hc, if_pos hc, if_pos rfl, if_neg (by simp)]
        unfold g2
        generalize sem (rW w n) fs sn n tm t (m / 16) (m % 16) 0 = r1 at *
        have b1 := bsp_lo r1.1 r1.2
        have b2 := bsp_hi r1.1 r1.2 p1
        refine ⟨K2, some (.long (bsp r1.1 r1.2)), none, ok2, fun d => (e1 d).trans ?_⟩
        rw [s61_26]
        simp (maxSteps := 2000000) (disch := first | omega | with_reducible assumption | exact cobP | exact cobX | exact cobS (by omega) | exact cobK (by omega) | exact cobF (by omega) | exact cobW | exact isTC_T (by assumption) (by assumption) | exact bI_01 _ | exact Or.inl rfl | exact Or.inr rfl | (simp (decide := true) only [wid_0, wid_i, wid_l, wid_r, wid_n]; done) | decide | fail) only [s61_27, s61_30, s61_33, s61_34, s61_35, s61_38, s61_41, s61_44, s61_45, s61_46, s61_47, s61_50c0, s61_50c3, s61_50c6, s61_50c8, s61_53, s61_56, s61_57, s61_59, s61_60, s61_63, s61_64, s61_66, s61_67, s61_70, s61_71, s61_72, s61_75, s61_76, s61_78, s61_79, s61_82, s61_83, s61_86, s61_50T, Option.bind_some, Option.bind_none, Option.toList_some, Option.toList_none, List.cons_append, List.nil_append, clr_i, clr_r, clr_l, clr_n, nI_add, nsub, pk_mul, nle_F, nle_T, nlt_F, nlt_T, neq_F, nz_F, nz_T, nneg_F, npos_T, npos_lF, npos_lT, nle0_F, m1_neg, m1_pos, m1_z, neq_m1, m1_neq, ↓reduceIte, if_true, if_false, not_true_eq_false, not_false_eq_true, bI_eq0, Bool.true_eq_false, Bool.false_eq_true, true_and, and_true, false_and, and_false, true_or, or_true, false_or, or_false, decide_true, decide_false, Bool.and_self, Bool.true_and, Bool.and_true, Bool.false_and, Bool.and_false, Bool.true_or, Bool.or_true, Bool.false_or, Bool.or_false, Bool.not_true, Bool.not_false, g_5_26_4, g_5_30_4, g_5_34_2, g_5_42_T, g_5_9_4, g_5_15_4, p_5_26_4, p_5_26_4n, p_5_30_4, K_isOne, K_partsOf, ho, e2, K_spanOf_t, K_spanOf_f, b1, b2, bC_152, bC_153, uC_152, uC_153]
  exact key 256 (Nat.le_refl 256)
end KR
