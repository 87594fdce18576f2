/-! class and reference: term -/
theorem and_clr {z : Int32} {u : Nat} (hu : u < 32) : tb (z &&& (sb u ^^^ (-1))) u = false := by
  rw [tb_and, tb_not _ hu, tb_sb hu]
  simp
theorem maxSym (a b : Int32) : (if a < b then b else a) = (if b < a then a else b) := by
  by_cases h : a < b
  · rw [if_pos h, if_neg (fun q => Int32.lt_irrefl (Int32.lt_trans h q))]
  · rw [if_neg h]
    by_cases q : b < a
    · rw [if_pos q]
    · rw [if_neg q]
      exact Int32.le_antisymm (Int32.not_lt.mp q) (Int32.not_lt.mp h)
theorem maxSelf (a : Int32) : (if a < a then a else a) = a := by split <;> rfl
theorem comA_c {t : Nat} {p : Int32} (h : t < 60) (hp : ¬ nI 100000 < p) : comA t p = nI t := by
  unfold comA
  rw [if_neg (by omega), if_neg hp]
theorem comV_c {w : WD} {t : Nat} {p : Int32} (h : t < 60) (hp : ¬ nI 100000 < p) (k u v x o q : Int32) : comV w t k u v x o p q = comW w t k u v x o p q := by
  unfold comV
  rw [if_neg (by omega), if_neg hp]
theorem comV_n {w : WD} {t : Nat} {p : Int32} (h : t = 60 ∨ nI 100000 < p) (k u v x o q : Int32) : comV w t k u v x o p q = w := by
  unfold comV
  rcases h with h | h
  · rw [if_pos h]
  · by_cases q : t = 60
    · rw [if_pos q]
    · rw [if_neg q, if_pos h]
section OPN
variable {F : Hf} {B : Nat → Option Nat} {A : Nat → Nat} {td : Nat → Nat → Int32} {K : KT} {c : WD} {y : Nat → Int64} {v : VD} {tA : Nat → Option Nat} {w : WD} {fs sn : Nat → Option Nat} {tm : Nat → Nat → Nat} {x sz us n nt tn ch kn : Nat}
/-- a term of terms comes, both sides -/
theorem OpOK.termT (RL : RLm F B A td K c v tA w fs sn tm x sz n nt tn ch kn) {k a b : Nat} {co : Int32} {miC miR : Nat} {aC : List (Option Value)} {aR : Nat → List (Option Value)} (hk : 6 ≤ k) (hk2 : k < 14) (ha : a < tn) (hb : b < tn)
    (hC : ∀ r : Option Value × Hp, Ev 299 108 0 [some (.ref x), some (.int (nI k)), some (.ref (A a)), some (.ref (A b)), some (.int co)] [] (sz, us, emC (emT F B tm td A K) x c y v tA) = some r → (∃ z, r.1 = some (.int z)) → Ev 300 miC 0 aC [] (sz, us, emC (emT F B tm td A K) x c y v tA) = some r)
    (hR : ∀ f m sz us y, Ev 300 miR 0 (aR m) [] (sz, us, emR f m w y) = some (some (.int (comA tn co)), (sz, us, emR f m (comV w tn (nI k) (nI a) (nI b) (nI 0) (w 14 a ||| w 14 b) co (nI 1 + (if w 16 b < w 16 a then w 16 a else w 16 b))) y))) : OpOK x w ch (sz, us, emC (emT F B tm td A K) x c y v tA) miC aC miR aR := by
  have ht60 := RL.2.1.ht60
  have hct : c 0 2 = nI tn := RL.2.2.2.2.2.1.1
  have a5 := RL.2.2.2.2.2.1.2.2.2.2
  have G := RL.2.1
  have hTB := RL.1.2.2.2.2.2.2.1
  have hD := RL.1.2.2.2.2.2.2.2.1
  by_cases hno : tn = 60 ∨ nI 100000 < co
  · refine OpOK.pure ⟨F, B, A, td, K, c, y, v, tA, fs, sn, tm, n, nt, tn, kn, rfl, RL⟩ (comA tn co) (hC _ (K_addOf_no (d := 294) hct ht60 hno) ⟨_, rfl⟩) (fun f m sz us y => ?_)
    have := hR f m sz us y
    rw [comV_n hno] at this
    exact this
  · have htn : tn < 60 := by
      have : tn ≠ 60 := fun q => hno (Or.inl q)
      omega
    have hc : ¬ nI 100000 < co := fun q => hno (Or.inr q)
    rw [comA_c htn hc, comV_c htn hc] at hR
    have cw := comW_at w tn (nI k) (nI a) (nI b) (nI 0) (w 14 a ||| w 14 b) co (nI 1 + (if w 16 b < w 16 a then w 16 a else w 16 b))
    have co' := comW_of w tn (nI k) (nI a) (nI b) (nI 0) (w 14 a ||| w 14 b) co (nI 1 + (if w 16 b < w 16 a then w 16 a else w 16 b))
    generalize comW w tn (nI k) (nI a) (nI b) (nI 0) (w 14 a ||| w 14 b) co (nI 1 + (if w 16 b < w 16 a then w 16 a else w 16 b)) = w' at cw co' hR
    obtain ⟨c10, c11, c12, c13, c14, c15, c16, c0⟩ := cw
    have w14 : ∀ s, s < tn → w' 14 s = w 14 s := fun s hs => co' 14 s (by omega) (by omega)
    obtain ⟨da0, da1, da2, -⟩ := hD a ha
    obtain ⟨db0, db1, db2, -⟩ := hD b hb
    obtain ⟨ba, xa⟩ := hTB.1 a ha
    obtain ⟨bb, xb⟩ := hTB.1 b hb
    have TM : TMt w' (atT tm tn (fun i => if i = 0 then k else if i = 1 then a else b)) tn := by
      unfold TMt
      rw [atT_at]
      simp only [if_true, if_neg (show ¬ (1 = 0) by omega), if_neg (show ¬ (2 = 0) by omega), if_neg (show ¬ (2 = 1) by omega)]
      exact ⟨c10, by omega, fun q => by omega, fun q => by omega, fun _ _ => ⟨c11, ha, c12, hb⟩, fun q => by omega⟩
    have TD : TDt w' (atT tm tn (fun i => if i = 0 then k else if i = 1 then a else b)) (atT td tn (fun i => if i = 0 then w 14 a ||| w 14 b else if i = 1 then co else nI 1 + (if w 16 b < w 16 a then w 16 a else w 16 b))) tn := by
      unfold TDt FRt
      rw [atT_at, atT_at]
      simp only [if_true, if_neg (show ¬ (1 = 0) by omega), if_neg (show ¬ (2 = 0) by omega), if_neg (show ¬ (2 = 1) by omega)]
      refine ⟨c14.symm, c15.symm, c16.symm, fun q => by omega, fun q => by omega, fun q => by omega, fun q => by omega, fun _ _ j hj h => ?_, fun q => by omega⟩
      rw [w14 a ha, w14 b hb] at h
      rw [c14, tb_or]
      rcases h with h | h <;> rw [h] <;> simp
    have go : ∀ ci, tkc k = ci → ci = 3 ∨ ci = 8 → newT ci A td (nI k) co a b = .inr (tkc ((fun i => if i = 0 then k else if i = 1 then a else b) 0), tFl (atT tm tn (fun i => if i = 0 then k else if i = 1 then a else b)) (atT td tn (fun i => if i = 0 then w 14 a ||| w 14 b else if i = 1 then co else nI 1 + (if w 16 b < w 16 a then w 16 a else w 16 b))) (atT A tn sz) tn ((0 : Int64), (0 : Int32), (-1 : Int32))) := by
      intro ci hci h38
      have e1 : tkc (atT tm tn (fun i => if i = 0 then k else if i = 1 then a else b) tn 0) = ci := by rw [atT_at]; exact hci
      have ea : atT A tn sz a = A a := atT_of A sz (by omega)
      have eb : atT A tn sz b = A b := atT_of A sz (by omega)
      have key : ∀ L, L = [.ref (atT A tn sz (tca (atT tm tn (fun i => if i = 0 then k else if i = 1 then a else b)) tn)), .ref (atT A tn sz (atT tm tn (fun i => if i = 0 then k else if i = 1 then a else b) tn 2)), .int (nI (atT tm tn (fun i => if i = 0 then k else if i = 1 then a else b) tn 0)), .int (atT td tn (fun i => if i = 0 then w 14 a ||| w 14 b else if i = 1 then co else nI 1 + (if w 16 b < w 16 a then w 16 a else w 16 b)) tn 0), .int (atT td tn (fun i => if i = 0 then w 14 a ||| w 14 b else if i = 1 then co else nI 1 + (if w 16 b < w 16 a then w 16 a else w 16 b)) tn 1), .int (atT td tn (fun i => if i = 0 then w 14 a ||| w 14 b else if i = 1 then co else nI 1 + (if w 16 b < w 16 a then w 16 a else w 16 b)) tn 2), .int (pip (atT td tn (fun i => if i = 0 then w 14 a ||| w 14 b else if i = 1 then co else nI 1 + (if w 16 b < w 16 a then w 16 a else w 16 b)) tn 0)), .long ((0 : Int64), (0 : Int32), (-1 : Int32)).1, .int ((0 : Int64), (0 : Int32), (-1 : Int32)).2.1, .int ((0 : Int64), (0 : Int32), (-1 : Int32)).2.2] → newT ci A td (nI k) co a b = .inr (ci, L) := by
        intro L hL
        subst hL
        unfold newT tca
        rw [atT_at, atT_at]
        simp only [if_true, if_neg (show ¬ (1 = 0) by omega), if_neg (show ¬ (2 = 0) by omega), if_neg (show ¬ (2 = 1) by omega), if_neg (show ¬ (k = 14) by omega), ea, eb, da0, da2, db0, db2, maxSym (w 16 a)]
      dsimp only
      simp only [if_true]
      rw [hci]
      refine key _ ?_
      rcases h38 with h | h
      · rw [tFl_3 (by rw [e1]; exact h)]
      · rw [tFl_8 (by rw [e1]; exact h)]
    by_cases h9 : k < 9
    · have hci : tkc k = 3 := by unfold tkc; rw [if_neg (by omega), if_pos h9]
      exact OpOK.term RL (show 10 ≤ 64 by omega) htn (hC _ (K_addOf_P (d := 294) RL.hi (by omega) hct htn hc h9 ba xa bb xb) ⟨_, rfl⟩) hR (go 3 hci (Or.inl rfl)) co' c0 TM TD
    · have hci : tkc k = 8 := by unfold tkc; rw [if_neg (by omega), if_neg h9, if_pos hk2]
      exact OpOK.term RL (show 10 ≤ 64 by omega) htn (hC _ (K_addOf_T (d := 294) RL.hi (by omega) hct htn hc (by omega) (by omega) ba xa bb xb) ⟨_, rfl⟩) hR (go 8 hci (Or.inr rfl)) co' c0 TM TD
end OPN
section OPN2
variable {x ch : Nat} {w : WD} {h : Hp}
theorem op_term (R : RelC x w ch h) (k a b : Int32) : OpOK x w ch h 109 [some (.ref x), some (.int k), some (.int a), some (.int b)] 165 (fun m => [some (.ref m), some (.int k), some (.int a), some (.int b)]) := by
  have R0 := R
  obtain ⟨F, B, A, td, K, c, y, v, tA, fs, sn, tm, n, nt, tn, kn, e0, RL⟩ := R0
  obtain ⟨sz, us, hf⟩ := h
  dsimp only at e0 RL
  subst e0
  have ht60 := RL.2.1.ht60
  have hct : c 0 2 = nI tn := RL.2.2.2.2.2.1.1
  have htA := RL.2.2.2.2.2.1.2.1
  have a5 := RL.2.2.2.2.2.1.2.2.2.2
  have G := RL.2.1
  have hTB := RL.1.2.2.2.2.2.2.1
  have hD := RL.1.2.2.2.2.2.2.2.1
  cases hok : okTm tn k a b
  · exact OpOK.pure R (-1) (K_term_no (d := 294) hct ht60 htA hTB.1 hok) (fun f m sz us y => R_term_no (d := 298) G.ht ht60 k a b hok)
  · have hR0 := fun f m sz us y => R_term_ok (d := 298) (f := f) (m := m) (sz := sz) (us := us) (y := y) G.ht ht60 k a b hok
    unfold okTm at hok
    rw [Bool.and_eq_true] at hok
    obtain ⟨k1, k2⟩ := hok
    obtain ⟨k, hk, hk', rfl⟩ := rI_T k1 (by omega) (by omega)
    by_cases h14 : k = 14
    · subst h14
      rw [if_pos rfl, Bool.and_eq_true] at k2
      obtain ⟨u, hu, rfl⟩ := vI_T k2.1 (by omega)
      obtain ⟨b, hb, rfl⟩ := vI_T k2.2 (by omega)
      obtain ⟨db0, db1, db2, -⟩ := hD b hb
      obtain ⟨bb, xb⟩ := hTB.1 b hb
      have hR := fun f m sz us y => (hR0 f m sz us y).trans (R_term_some (d := 298) (f := f) (m := m) (sz := sz) (us := us) (y := y) G.ht ht60 hb hu)
      by_cases hno : tn = 60 ∨ nI 100000 < nI 1 + nI 16 * w 15 b
      · refine OpOK.pure R (comA tn (nI 1 + nI 16 * w 15 b)) (K_term_some (d := 294) hct ht60 hb hu (htA b hb) (K_addSome_no (d := 294) hct ht60 bb xb (by rw [db1]; exact hno)) ⟨_, rfl⟩ |>.trans ?_) (fun f m sz us y => ?_)
        · rw [db1]
        · have := hR f m sz us y
          rw [comV_n hno] at this
          exact this
      · have htn : tn < 60 := by
          have : tn ≠ 60 := fun q => hno (Or.inl q)
          omega
        have hc : ¬ nI 100000 < nI 1 + nI 16 * w 15 b := fun q => hno (Or.inr q)
        rw [comA_c htn hc, comV_c htn hc] at hR
        have cw := comW_at w tn (nI 14) (nI u) (nI b) (nI 0) (w 14 b &&& (sb u ^^^ (-1))) (nI 1 + nI 16 * w 15 b) (nI 1 + w 16 b)
        have co' := comW_of w tn (nI 14) (nI u) (nI b) (nI 0) (w 14 b &&& (sb u ^^^ (-1))) (nI 1 + nI 16 * w 15 b) (nI 1 + w 16 b)
        generalize comW w tn (nI 14) (nI u) (nI b) (nI 0) (w 14 b &&& (sb u ^^^ (-1))) (nI 1 + nI 16 * w 15 b) (nI 1 + w 16 b) = w' at cw co' hR
        obtain ⟨c10, c11, c12, c13, c14, c15, c16, c0⟩ := cw
        have w14 : ∀ s, s < tn → w' 14 s = w 14 s := fun s hs => co' 14 s (by omega) (by omega)
        refine OpOK.term RL (e := fun i => if i = 0 then 14 else if i = 1 then u else b) (q := fun i => if i = 0 then w 14 b &&& (sb u ^^^ (-1)) else if i = 1 then nI 1 + nI 16 * w 15 b else nI 1 + w 16 b) (show 11 ≤ 64 by omega) htn (K_term_some (d := 294) hct ht60 hb hu (htA b hb) (K_addSome (d := 294) RL.hi (by omega) hct htn bb xb (by rw [db1]; exact hc)) ⟨_, rfl⟩) hR ?_ co' c0 ?_ ?_
        · have e1 : tkc (atT tm tn (fun i => if i = 0 then 14 else if i = 1 then u else b) tn 0) = 6 := by rw [atT_at]; rfl
          have eb : atT A tn sz b = A b := atT_of A sz (by omega)
          have e6 : tkc 14 = 6 := rfl
          rw [tFl_6 e1]
          unfold newS tca
          rw [atT_at, atT_at, nI_sh]
          simp only [if_true, if_neg (show ¬ (1 = 0) by omega), if_neg (show ¬ (2 = 0) by omega), if_neg (show ¬ (2 = 1) by omega), eb, db0, db1, db2, maxSelf, e6]
        · unfold TMt
          rw [atT_at]
          simp only [if_true, if_neg (show ¬ (1 = 0) by omega), if_neg (show ¬ (2 = 0) by omega), if_neg (show ¬ (2 = 1) by omega)]
          exact ⟨c10, by omega, fun q => by omega, fun q => by omega, fun q => by omega, fun _ => ⟨c11, hu, c12, hb⟩⟩
        · unfold TDt FRt
          rw [atT_at, atT_at]
          simp only [if_true, if_neg (show ¬ (1 = 0) by omega), if_neg (show ¬ (2 = 0) by omega), if_neg (show ¬ (2 = 1) by omega)]
          refine ⟨c14.symm, c15.symm, c16.symm, fun q => by omega, fun _ => by rw [c14]; exact and_clr (by omega), fun q => by omega, fun q => by omega, fun q => by omega, fun _ j hj hju h => ?_⟩
          rw [w14 b hb] at h
          rw [c14, tb_and, tb_not _ (by omega), tb_sb (by omega), h, decide_eq_false hju]
          rfl
    · have hk14 : ¬ nI k = nI 14 := fun q => h14 (nI_ij (by omega) (by omega) q)
      rw [if_neg hk14, Bool.and_eq_true] at k2
      obtain ⟨k2, k3⟩ := k2
      obtain ⟨a, ha, rfl⟩ := vI_T k2 (by omega)
      obtain ⟨da0, da1, da2, -⟩ := hD a ha
      obtain ⟨ba, xa⟩ := hTB.1 a ha
      cases h2 : isT2 (nI k)
      · have hR := fun f m sz us y => (hR0 f m sz us y).trans (R_term_one (d := 298) (f := f) (m := m) (sz := sz) (us := us) (y := y) b G.ht ht60 ha hk14 h2)
        refine OpOK.termT RL (co := nI 1 + w 15 a) hk (by omega) ha ha (fun r hr hz => K_term_one (d := 294) hct ht60 ha hk (by omega) h2 (htA a ha) ba xa (by rw [da1]; exact hr) hz) (fun f m sz us y => ?_)
        rw [orSelf, maxSelf]
        exact hR f m sz us y
      · rw [h2] at k3
        have k4 : vI b tn = true := by simpa using k3
        obtain ⟨b, hb, rfl⟩ := vI_T k4 (by omega)
        obtain ⟨db0, db1, db2, -⟩ := hD b hb
        obtain ⟨bb, xb⟩ := hTB.1 b hb
        have hR := fun f m sz us y => (hR0 f m sz us y).trans (R_term_two (d := 298) (f := f) (m := m) (sz := sz) (us := us) (y := y) G.ht ht60 ha hb hk14 h2)
        exact OpOK.termT RL (co := nI 1 + w 15 a + w 15 b) hk (by omega) ha hb (fun r hr hz => K_term_two (d := 294) hct ht60 ha hb hk (by omega) h2 (htA a ha) (htA b hb) ba xa bb xb (by rw [da1, db1]; exact hr) hz) (fun f m sz us y => hR f m sz us y)
end OPN2
