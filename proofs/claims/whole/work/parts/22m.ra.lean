/-! class and reference: of, two, term -/
theorem comW_at (w : WD) (t : Nat) (k u v x o p q : Int32) : comW w t k u v x o p q 10 t = k ∧ comW w t k u v x o p q 11 t = u ∧ comW w t k u v x o p q 12 t = v ∧ comW w t k u v x o p q 13 t = x ∧ comW w t k u v x o p q 14 t = o ∧ comW w t k u v x o p q 15 t = p ∧ comW w t k u v x o p q 16 t = q ∧ comW w t k u v x o p q 0 12 = nI (t + 1) := by
  unfold comW
  refine ⟨?_, ?_, ?_, ?_, ?_, ?_, ?_, wU_at⟩
  · rw [wU_off (by omega), wU_off (by omega), wU_off (by omega), wU_off (by omega), wU_off (by omega), wU_off (by omega), wU_off (by omega), wU_at]
  · rw [wU_off (by omega), wU_off (by omega), wU_off (by omega), wU_off (by omega), wU_off (by omega), wU_off (by omega), wU_at]
  · rw [wU_off (by omega), wU_off (by omega), wU_off (by omega), wU_off (by omega), wU_off (by omega), wU_at]
  · rw [wU_off (by omega), wU_off (by omega), wU_off (by omega), wU_off (by omega), wU_at]
  · rw [wU_off (by omega), wU_off (by omega), wU_off (by omega), wU_at]
  · rw [wU_off (by omega), wU_off (by omega), wU_at]
  · rw [wU_off (by omega), wU_at]
theorem comW_of (w : WD) (t : Nat) (k u v x o p q : Int32) (kk i : Nat) (h : ¬ (10 ≤ kk ∧ kk ≤ 16 ∧ i = t)) (h0 : ¬ (kk = 0 ∧ i = 12)) : comW w t k u v x o p q kk i = w kk i := by
  unfold comW
  rw [wU_ap, if_neg h0, wU_ap, if_neg (by omega), wU_ap, if_neg (by omega), wU_ap, if_neg (by omega), wU_ap, if_neg (by omega), wU_ap, if_neg (by omega), wU_ap, if_neg (by omega), wU_ap, if_neg (by omega)]
theorem orSelf (z : Int32) : z ||| z = z := by
  apply i32_ext
  intro k _
  rw [tb_or]; cases tb z k <;> rfl
theorem frO_lo {u : Nat} (h : u < 3) : tb (frO (nI u)) u = true := by
  have hc : u = 0 ∨ u = 1 ∨ u = 2 := by omega
  rcases hc with rfl | rfl | rfl <;> decide
theorem tgB_T {u : Int32} (h : tgB u = true) : ∃ k, Tg k ∧ u = nI k := by
  unfold tgB at h
  rw [Bool.or_eq_true] at h
  rcases h with h | h
  · obtain ⟨k, hk, rfl⟩ := vI_T h (by omega)
    exact ⟨k, Or.inl hk, rfl⟩
  · obtain ⟨k, h1, h2, rfl⟩ := rI_T h (by omega) (by omega)
    exact ⟨k, Or.inr ⟨h1, by omega⟩, rfl⟩
theorem comA_1 {t : Nat} (h : t < 60) : comA t (nI 1) = nI t := by
  unfold comA
  rw [if_neg (by omega), if_neg (by decide)]
theorem comV_1 {w : WD} {t : Nat} (h : t < 60) (k u v x o q : Int32) : comV w t k u v x o (nI 1) q = comW w t k u v x o (nI 1) q := by
  unfold comV
  rw [if_neg (by omega), if_neg (by decide)]
section OPM
variable {F : Hf} {B : Nat → Option Nat} {A : Nat → Nat} {td : Nat → Nat → Int32} {K : KT} {c : WD} {y : Nat → Int64} {v : VD} {tA : Nat → Option Nat} {w : WD} {fs sn : Nat → Option Nat} {tm : Nat → Nat → Nat} {x sz us n nt tn ch kn : Nat}
/-- a new term, both sides -/
theorem OpOK.term (RL : RLm F B A td K c v tA w fs sn tm x sz n nt tn ch kn) {o : PE} {e : Nat → Nat} {q : Nat → Int32} {w' : WD} {miC miR : Nat} {aC : List (Option Value)} {aR : Nat → List (Option Value)} {du : Nat} (hdu : du ≤ 64) (htn : tn < 60)
    (hC : Ev 300 miC 0 aC [] (sz, us, emC (emT F B tm td A K) x c y v tA) = some (some (.int (nI tn)), (sz + 1, us + du, emC (emT (hup F sz o) B tm td A K) x (wU c 0 2 (nI (tn + 1))) y v (va_up tA tn (some sz)))))
    (hR : ∀ f m sz us y, Ev 300 miR 0 (aR m) [] (sz, us, emR f m w y) = some (some (.int (nI tn)), (sz, us, emR f m w' y)))
    (ho : o = .inr (tkc (e 0), tFl (atT tm tn e) (atT td tn q) (atT A tn sz) tn ((0 : Int64), (0 : Int32), (-1 : Int32))))
    (hw : ∀ k i, ¬ (10 ≤ k ∧ k ≤ 16 ∧ i = tn) → ¬ (k = 0 ∧ i = 12) → w' k i = w k i) (h12 : w' 0 12 = nI (tn + 1)) (TM : TMt w' (atT tm tn e) tn) (TD : TDt w' (atT tm tn e) (atT td tn q) tn) : OpOK x w ch (sz, us, emC (emT F B tm td A K) x c y v tA) miC aC miR aR := by
  have a5 := RL.2.2.2.2.2.1.2.2.2.2
  refine ⟨_, _, hC, ⟨by dsimp only; omega, by dsimp only; omega, by dsimp only; omega, by dsimp only; omega, fun a h1 h2 => emCT_lo h1 (RL.lo h1 h2) (RL.lo h1 h2) (hup_of (by omega))⟩, fun f m sz1 us1 y1 => ⟨w', y1, hR f m sz1 us1 y1, ch, by omega, hup F sz o, atT B sz (some tn), atT A tn sz, atT td tn q, atT K tn ((0 : Int64), (0 : Int32), (-1 : Int32)), _, y, v, va_up tA tn (some sz), fs, sn, atT tm tn e, n, nt, tn + 1, kn, ?_, RL.term o htn hw h12 TM TD⟩⟩
  dsimp only
  rw [emT_new (w := w) RL.hi RL.2.2.2.2.2.1.2.2.2.1 RL.2.1.hT ho]
/-- no room: an object lies there that nobody has -/
theorem OpOK.waste (RL : RLm F B A td K c v tA w fs sn tm x sz n nt tn ch kn) {o : PE} {ans : Int32} {miC miR : Nat} {aC : List (Option Value)} {aR : Nat → List (Option Value)} {du : Nat} (hdu : du ≤ 64)
    (hC : Ev 300 miC 0 aC [] (sz, us, emC (emT F B tm td A K) x c y v tA) = some (some (.int ans), (sz + 1, us + du, emC (emT (hup F sz o) B tm td A K) x c y v tA)))
    (hR : ∀ f m sz us y, Ev 300 miR 0 (aR m) [] (sz, us, emR f m w y) = some (some (.int ans), (sz, us, emR f m w y))) : OpOK x w ch (sz, us, emC (emT F B tm td A K) x c y v tA) miC aC miR aR := by
  have a5 := RL.2.2.2.2.2.1.2.2.2.2
  refine ⟨_, _, hC, ⟨by dsimp only; omega, by dsimp only; omega, by dsimp only; omega, by dsimp only; omega, fun a h1 h2 => emCT_lo h1 (RL.lo h1 h2) (RL.lo h1 h2) (hup_of (by omega))⟩, fun f m sz1 us1 y1 => ⟨w, y1, hR f m sz1 us1 y1, ch, by omega, hup F sz o, B, A, td, K, c, y, v, tA, fs, sn, tm, n, nt, tn, kn, rfl, ?_⟩⟩
  exact RL.gen (by omega) (fun _ _ => rfl) rfl rfl (fun _ _ _ _ => rfl) RL.2.1 RL.2.2.2.2.2.2.1 (RL.2.2.2.2.2.2.2.cg (fun q h1 h2 => hup_of (by omega)) (by omega) (fun _ _ _ => rfl) (fun _ _ _ _ => rfl))
end OPM
section OPM2
variable {x ch : Nat} {w : WD} {h : Hp}
theorem op_of (R : RelC x w ch h) (k u z : Int32) : OpOK x w ch h 103 [some (.ref x), some (.int k), some (.int u), some (.int z), none] 162 (fun m => [some (.ref m), some (.int k), some (.int u), some (.int z), none]) := by
  have R0 := R
  obtain ⟨F, B, A, td, K, c, y, v, tA, fs, sn, tm, n, nt, tn, kn, e0, RL⟩ := R0
  obtain ⟨sz, us, hf⟩ := h
  dsimp only at e0 RL
  subst e0
  have ht60 := RL.2.1.ht60
  have hct : c 0 2 = nI tn := RL.2.2.2.2.2.1.1
  have a5 := RL.2.2.2.2.2.1.2.2.2.2
  have G := RL.2.1
  cases hok : okOf k u z
  · exact OpOK.pure R (-1) (K_of_no (d := 294) hok) (fun f m sz us y => R_of_no (d := 298) k u z hok)
  · by_cases h6 : tn = 60
    · subst h6
      exact OpOK.waste RL (by omega) (K_of_full (d := 294) RL.hi (by omega) hct hok) (fun f m sz us y => R_of (d := 298) G.ht ht60 k u z hok)
    · have htn : tn < 60 := by omega
      have hok0 := hok
      unfold okOf at hok
      simp only [Bool.and_eq_true] at hok
      obtain ⟨k1, k2, k3⟩ := hok
      obtain ⟨k, hk, rfl⟩ := vI_T k1 (by omega)
      obtain ⟨u, hu, rfl⟩ := tgB_T k2
      have hR := fun f m sz us y => R_of (d := 298) (f := f) (m := m) (sz := sz) (us := us) (y := y) G.ht ht60 (nI k) (nI u) z hok0
      rw [comA_1 htn, comV_1 htn] at hR
      have cw := comW_at w tn (nI k) (nI u) z (nI 0) (frO (nI u)) (nI 1) (nI 1)
      have co := comW_of w tn (nI k) (nI u) z (nI 0) (frO (nI u)) (nI 1) (nI 1)
      generalize comW w tn (nI k) (nI u) z (nI 0) (frO (nI u)) (nI 1) (nI 1) = w' at cw co hR
      obtain ⟨c10, c11, c12, c13, c14, c15, c16, c0⟩ := cw
      have ek : kfr (nI u) ||| kfr (nI u) = frO (nI u) := by rw [orSelf, kfr_frO hu]
      refine OpOK.term RL (e := fun i => if i = 0 then k else if i = 1 then u else 0) (q := fun i => if i = 0 then frO (nI u) else if i = 1 then nI 1 else if i = 2 then nI 1 else z) (show 11 ≤ 64 by omega) htn (K_of (d := 294) RL.hi (by omega) hct htn hok0) hR ?_ co c0 ?_ ?_
      · have hk6 : tkc k = 0 := if_pos (by omega)
        have e1 : tkc (atT tm tn (fun i => if i = 0 then k else if i = 1 then u else 0) tn 0) = 0 := by rw [atT_at]; exact hk6
        rw [tFl_0 e1]
        unfold newA tuu tww
        rw [atT_at, atT_at, ek]
        simp only [if_true, if_neg (show ¬ (1 = 0) by omega), if_neg (show ¬ (2 = 0) by omega), if_neg (show ¬ (2 = 1) by omega), if_neg (show ¬ (3 = 0) by omega), if_neg (show ¬ (3 = 1) by omega), if_neg (show ¬ (3 = 2) by omega), if_pos hk, hk6]
      · unfold TMt
        rw [atT_at]
        simp only [if_true, if_neg (show ¬ (1 = 0) by omega)]
        exact ⟨c10, by omega, fun _ => ⟨c11, hu⟩, fun q => by omega, fun q => by omega, fun q => by omega⟩
      · unfold TDt FRt
        rw [atT_at, atT_at]
        simp only [if_true, if_neg (show ¬ (1 = 0) by omega), if_neg (show ¬ (2 = 0) by omega), if_neg (show ¬ (2 = 1) by omega), if_neg (show ¬ (3 = 0) by omega), if_neg (show ¬ (3 = 1) by omega), if_neg (show ¬ (3 = 2) by omega)]
        refine ⟨c14.symm, c15.symm, c16.symm, fun _ => by rw [if_pos hk]; exact c12.symm, fun q => by omega, fun _ q => by rw [c14]; exact frO_lo q, fun q => by omega, fun q => by omega, fun q => by omega⟩
theorem op_two (R : RelC x w ch h) (k g u z : Int32) : OpOK x w ch h 104 [some (.ref x), some (.int k), some (.int g), some (.int u), some (.int z), none] 163 (fun m => [some (.ref m), some (.int k), some (.int g), some (.int u), some (.int z), none]) := by
  have R0 := R
  obtain ⟨F, B, A, td, K, c, y, v, tA, fs, sn, tm, n, nt, tn, kn, e0, RL⟩ := R0
  obtain ⟨sz, us, hf⟩ := h
  dsimp only at e0 RL
  subst e0
  have ht60 := RL.2.1.ht60
  have hct : c 0 2 = nI tn := RL.2.2.2.2.2.1.1
  have a5 := RL.2.2.2.2.2.1.2.2.2.2
  have G := RL.2.1
  cases hok : okTw k g u z
  · exact OpOK.pure R (-1) (K_two_no (d := 294) hok) (fun f m sz us y => R_two_no (d := 298) k g u z hok)
  · by_cases h6 : tn = 60
    · subst h6
      exact OpOK.waste RL (by omega) (K_two_full (d := 294) RL.hi (by omega) hct hok) (fun f m sz us y => R_two (d := 298) G.ht ht60 k g u z hok)
    · have htn : tn < 60 := by omega
      have hok0 := hok
      unfold okTw at hok
      simp only [Bool.and_eq_true] at hok
      obtain ⟨k1, k2, k3, k4⟩ := hok
      obtain ⟨k, hk, hk', rfl⟩ := rI_T k1 (by omega) (by omega)
      obtain ⟨u, hu, rfl⟩ := tgB_T k2
      obtain ⟨z, hz, rfl⟩ := tgB_T k3
      obtain ⟨g', hg'⟩ : ∃ g', k ≠ 5 → g = nI g' ∧ g' < 3 := by
        by_cases q : k = 5
        · exact ⟨0, fun h => absurd q h⟩
        · rw [Bool.or_eq_true] at k4
          rcases k4 with k4 | k4
          · have := of_decide_eq_true k4
            exact absurd (nI_ij (by omega) (by omega) this) q
          · obtain ⟨g', h1, h2⟩ := vI_T k4 (by omega)
            exact ⟨g', fun _ => ⟨h2, h1⟩⟩
      have hR := fun f m sz us y => R_two (d := 298) (f := f) (m := m) (sz := sz) (us := us) (y := y) G.ht ht60 (nI k) g (nI u) (nI z) hok0
      rw [comA_1 htn, comV_1 htn] at hR
      have cw := comW_at w tn (nI k) g (nI u) (nI z) (frO (nI u) ||| frO (nI z)) (nI 1) (nI 1)
      have co := comW_of w tn (nI k) g (nI u) (nI z) (frO (nI u) ||| frO (nI z)) (nI 1) (nI 1)
      generalize comW w tn (nI k) g (nI u) (nI z) (frO (nI u) ||| frO (nI z)) (nI 1) (nI 1) = w' at cw co hR
      obtain ⟨c10, c11, c12, c13, c14, c15, c16, c0⟩ := cw
      have ek : kfr (nI u) ||| kfr (nI z) = frO (nI u) ||| frO (nI z) := by rw [kfr_frO hu, kfr_frO hz]
      refine OpOK.term RL (e := fun i => if i = 0 then k else if i = 1 then g' else if i = 2 then u else z) (q := fun i => if i = 0 then frO (nI u) ||| frO (nI z) else if i = 1 then nI 1 else if i = 2 then nI 1 else g) (show 11 ≤ 64 by omega) htn (K_two (d := 294) RL.hi (by omega) hct htn hok0) hR ?_ co c0 ?_ ?_
      · have hk6 : tkc k = 0 := if_pos (by omega)
        have e1 : tkc (atT tm tn (fun i => if i = 0 then k else if i = 1 then g' else if i = 2 then u else z) tn 0) = 0 := by rw [atT_at]; exact hk6
        rw [tFl_0 e1]
        unfold newA tuu tww
        rw [atT_at, atT_at, ek]
        simp only [if_true, if_neg (show ¬ (1 = 0) by omega), if_neg (show ¬ (2 = 0) by omega), if_neg (show ¬ (2 = 1) by omega), if_neg (show ¬ (3 = 0) by omega), if_neg (show ¬ (3 = 1) by omega), if_neg (show ¬ (3 = 2) by omega), if_neg (show ¬ (k < 3) by omega), hk6]
      · unfold TMt
        rw [atT_at]
        simp only [if_true, if_neg (show ¬ (1 = 0) by omega), if_neg (show ¬ (2 = 0) by omega), if_neg (show ¬ (2 = 1) by omega), if_neg (show ¬ (3 = 0) by omega), if_neg (show ¬ (3 = 1) by omega), if_neg (show ¬ (3 = 2) by omega)]
        exact ⟨c10, by omega, fun _ => by omega, fun _ _ => ⟨c12, hu, c13, hz, fun q => ⟨c11.trans (hg' q).1, (hg' q).2⟩⟩, fun q => by omega, fun q => by omega⟩
      · unfold TDt FRt
        rw [atT_at, atT_at]
        simp only [if_true, if_neg (show ¬ (1 = 0) by omega), if_neg (show ¬ (2 = 0) by omega), if_neg (show ¬ (2 = 1) by omega), if_neg (show ¬ (3 = 0) by omega), if_neg (show ¬ (3 = 1) by omega), if_neg (show ¬ (3 = 2) by omega)]
        refine ⟨c14.symm, c15.symm, c16.symm, fun _ => by rw [if_neg (by omega)]; exact c11.symm, fun q => by omega, fun q => by omega, fun _ _ => ⟨fun q => ?_, fun q => ?_⟩, fun q => by omega, fun q => by omega⟩
        · rw [c14, tb_or, frO_lo q]; rfl
        · rw [c14, tb_or, frO_lo q, Bool.or_true]
end OPM2
