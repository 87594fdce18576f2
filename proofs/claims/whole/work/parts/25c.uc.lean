/-! class and reference: element -/
section KT3
variable {x ch d : Nat} {w w' : WD} {h : Hp} {g : Nat → Int64}
theorem K_isBelow_m {sz us : Nat} {hf : Hf} (s : Int32) : Ev d 85 0 [some (.int s), some (.int (-1))] [] (sz, us, hf) = some (some (.int (bI false)), (sz, us, hf)) := by
  by_cases h : s < 0
  · have h' : ¬ 0 ≤ s := Int32.not_le.mpr h
    simp (disch := first | omega | with_reducible assumption | exact cobR | exact bI_01 _ | exact Or.inl rfl | exact Or.inr rfl | (simp (decide := true) only [wid_0, wid_i, wid_l, wid_r, wid_n]; done) | decide | fail) only [s85_0, s85_1, s85_4, s85_5, s85_6, s85_9, s85_10, s85_13, s85_14 (st := []) nI01_0, s85_14 (st := []) nI01_1, s85_14 (st := []) (bI_01 _), Option.bind_some, Option.bind_none, Option.toList_some, Option.toList_none, List.cons_append, List.nil_append, clr_i, clr_r, clr_l, clr_n, nI_add, nsub, pk_mul, nle_F, nle_T, nlt_F, nlt_T, neq_F, nz_F, nz_T, nneg_F, npos_T, npos_lF, npos_lT, nle0_F, m1_neg, m1_pos, m1_z, neq_m1, m1_neq, ↓reduceIte, if_true, if_false, not_true_eq_false, not_false_eq_true, bI_eq0, Bool.true_eq_false, Bool.false_eq_true, true_and, and_true, false_and, and_false, true_or, or_true, false_or, or_false, decide_true, decide_false, Bool.and_self, Bool.true_and, Bool.and_true, Bool.false_and, Bool.and_false, Bool.true_or, Bool.or_true, Bool.false_or, Bool.or_false, Bool.not_true, Bool.not_false, h, h', bI_f]
  · have h' : 0 ≤ s := Int32.not_lt.mp h
    have h3 : (-1 : Int32) ≤ s := by
      have z : (0 : Int32).toInt = 0 := rfl
      have z1 : (-1 : Int32).toInt = -1 := rfl
      rw [Int32.le_iff_toInt_le] at h' ⊢
      omega
    simp (disch := first | omega | with_reducible assumption | exact cobR | exact bI_01 _ | exact Or.inl rfl | exact Or.inr rfl | (simp (decide := true) only [wid_0, wid_i, wid_l, wid_r, wid_n]; done) | decide | fail) only [s85_0, s85_1, s85_4, s85_5, s85_6, s85_9, s85_10, s85_13, s85_14 (st := []) nI01_0, s85_14 (st := []) nI01_1, s85_14 (st := []) (bI_01 _), Option.bind_some, Option.bind_none, Option.toList_some, Option.toList_none, List.cons_append, List.nil_append, clr_i, clr_r, clr_l, clr_n, nI_add, nsub, pk_mul, nle_F, nle_T, nlt_F, nlt_T, neq_F, nz_F, nz_T, nneg_F, npos_T, npos_lF, npos_lT, nle0_F, m1_neg, m1_pos, m1_z, neq_m1, m1_neq, ↓reduceIte, if_true, if_false, not_true_eq_false, not_false_eq_true, bI_eq0, Bool.true_eq_false, Bool.false_eq_true, true_and, and_true, false_and, and_false, true_or, or_true, false_or, or_false, decide_true, decide_false, Bool.and_self, Bool.true_and, Bool.and_true, Bool.false_and, Bool.and_false, Bool.true_or, Bool.or_true, Bool.false_or, Bool.or_false, Bool.not_true, Bool.not_false, h, h3, bI_f]
theorem elT_low {w : WD} {e kd : Nat} {b : Int32} (h : w 26 e = nI kd) (hk : kd < 3) : elT w e b = false := by
  have h5 : w 26 e < nI 3 := by rw [h, Int32.lt_iff_toInt_lt, nI_toInt (by omega), nI_toInt (by omega)]; omega
  unfold elT
  rw [decide_eq_true h5]
  rfl
theorem elT_row {w : WD} {e kd q : Nat} {b : Int32} (h : w 26 e = nI kd) (hk : 3 ≤ kd) (hk4 : kd ≤ 4) (hq : w 28 e = nI q) (hq60 : q ≤ 60) : elT w e b = vI b q := by
  have h5 : ¬ w 26 e < nI 3 := by rw [h, Int32.lt_iff_toInt_lt, nI_toInt (by omega), nI_toInt (by omega)]; omega
  have h1 : (nI q - nI 1).toInt = (q : Int) - 1 := by
    rw [Int32.toInt_sub, nI_toInt (by omega), nI_toInt (by omega)]
    exact Int.bmod_eq_of_le (by omega) (by omega)
  have h0 : (nI 0).toInt = 0 := rfl
  unfold elT vI
  rw [decide_eq_false h5, hq, Bool.not_false, Bool.true_and, ← Bool.decide_and]
  refine decide_eq_decide.mpr ?_
  rw [Int32.le_iff_toInt_le, Int32.le_iff_toInt_le, h1, h0]
  omega
theorem op_element (R : RelC x w ch h) (ho : h.2.2 (x + 185) = some (.inl (3, 1, .inr (.inl g)))) (a b : Int32) : ∃ ans h1 g1, ElR h x (x + 185) a b (ans, h1) ∧ FRo x h h1 ∧ h1.2.2 (x + 185) = some (.inl (3, 1, .inr (.inl g1))) ∧ ∀ f m sz us y, ∃ w' y' z, Ev 300 197 0 [some (.ref m), some (.int a), some (.int b)] [] (sz, us, emR f m w y) = some (some (.long z), (sz, us, emR f m w' y')) ∧ w' 0 0 = ans ∧ (ans = 0 → g1 0 = z) ∧ ∃ ch1, ch1 ≤ ch + 1 ∧ RelC x w' ch1 h1 := by
  have R0 := R
  obtain ⟨F, B, A, td, K, c, y, v, tA, fs, sn, tm, n, nt, tn, kn, e0, RL⟩ := R0
  obtain ⟨sz, us, hf⟩ := h
  dsimp only at e0 RL ho
  subst e0
  have RL0 := RL
  obtain ⟨Q, G, h3, h4, W, h6, h7, h8⟩ := RL0
  have hx : ∃ fs0, emC (emT F B tm td A K) x c y v tA x = some (.inr (9, fs0)) := ⟨_, emC_0⟩
  by_cases hb : vI a 8 = true
  · have hb0 := hb
    obtain ⟨e, he, rfl⟩ := vI_T hb (by omega)
    obtain ⟨kd, o0, o1, o2, a1, a2, a3, a4, a5, a6, a7, a8⟩ := (h8.1 e he).dec
    have hno : elT w e b = false → ∀ zs, Ev 300 71 0 [some (.ref (x + (143 + e)))] [] (sz, us, emC (emT F B tm td A K) x c y v tA) = some (some (.int zs), (sz, us, emC (emT F B tm td A K) x c y v tA)) → Ev 300 85 0 [some (.int b), some (.int zs)] [] (sz, us, emC (emT F B tm td A K) x c y v tA) = some (some (.int (bI false)), (sz, us, emC (emT F B tm td A K) x c y v tA)) → ∃ ans h1 g1, ElR (sz, us, emC (emT F B tm td A K) x c y v tA) x (x + 185) (nI e) b (ans, h1) ∧ FRo x (sz, us, emC (emT F B tm td A K) x c y v tA) h1 ∧ h1.2.2 (x + 185) = some (.inl (3, 1, .inr (.inl g1))) ∧ ∀ f m sz us y, ∃ w' y' z, Ev 300 197 0 [some (.ref m), some (.int (nI e)), some (.int b)] [] (sz, us, emR f m w y) = some (some (.long z), (sz, us, emR f m w' y')) ∧ w' 0 0 = ans ∧ (ans = 0 → g1 0 = z) ∧ ∃ ch1, ch1 ≤ ch + 1 ∧ RelC x w' ch1 h1 := fun hel zs hz0 hz1 =>
      ⟨nI 2, _, g, ⟨hx, Or.inr ⟨hb0, _, _, zs, g_11_31_9, aC_shel he, cobF he, hz0, Or.inl ⟨hz1, rfl⟩⟩⟩, FRo.grow, ho, fun f m sz' us' y' => ⟨_, _, _, R_element_no (d := 298) he hel, wU_at, fun q => absurd q (by decide), ch, by omega, RelC.lift (sz := sz) (us := us) R (Nat.le_succ _) (fun k i hk => by rw [wU_ap, if_neg (by omega)])⟩⟩
    have hyes : ∀ i z, i < 60 → b = nI i → elT w e (nI i) = true → z = w 29 (60 * e + i) → ∀ zs, Ev 300 71 0 [some (.ref (x + (143 + e)))] [] (sz, us, emC (emT F B tm td A K) x c y v tA) = some (some (.int zs), (sz, us, emC (emT F B tm td A K) x c y v tA)) → Ev 300 85 0 [some (.int b), some (.int zs)] [] (sz, us, emC (emT F B tm td A K) x c y v tA) = some (some (.int (bI true)), (sz, us, emC (emT F B tm td A K) x c y v tA)) → Ev 300 72 0 [some (.ref (x + (143 + e))), some (.int b)] [] (sz, us, emC (emT F B tm td A K) x c y v tA) = some (some (.long z.toInt64), (sz, us, emC (emT F B tm td A K) x c y v tA)) → ∃ ans h1 g1, ElR (sz, us, emC (emT F B tm td A K) x c y v tA) x (x + 185) (nI e) b (ans, h1) ∧ FRo x (sz, us, emC (emT F B tm td A K) x c y v tA) h1 ∧ h1.2.2 (x + 185) = some (.inl (3, 1, .inr (.inl g1))) ∧ ∀ f m sz us y, ∃ w' y' z, Ev 300 197 0 [some (.ref m), some (.int (nI e)), some (.int b)] [] (sz, us, emR f m w y) = some (some (.long z), (sz, us, emR f m w' y')) ∧ w' 0 0 = ans ∧ (ans = 0 → g1 0 = z) ∧ ∃ ch1, ch1 ≤ ch + 1 ∧ RelC x w' ch1 h1 := by
      intro i z hi hbi hel hz zs hz0 hz1 hz2
      have hk2 : wll (emC (emT F B tm td A K) x c y v tA (x + 185)) 0 z.toInt64 = some (.inl (3, 1, .inr (.inl (vp_updL g 0 z.toInt64)))) := by
        rw [ho]
        exact wll_1
      have hEl : ElR (sz, us, emC (emT F B tm td A K) x c y v tA) x (x + 185) (nI e) b (nI 0, (sz, us, hup (emC (emT F B tm td A K) x c y v tA) (x + 185) (.inl (3, 1, .inr (.inl (vp_updL g 0 z.toInt64)))))) := ⟨hx, Or.inr ⟨hb0, _, _, zs, g_11_31_9, aC_shel he, cobF he, hz0, Or.inr ⟨hz1, _, _, hz2, hk2, rfl⟩⟩⟩
      refine ⟨nI 0, _, vp_updL g 0 z.toInt64, hEl, ⟨Nat.le_refl _, Nat.le_succ _, Nat.le_refl _, Nat.le_add_right _ _, fun q q1 q2 => hup_of (by omega)⟩, hup_at, fun f m sz' us' y' => ?_⟩
      subst hbi
      refine ⟨_, _, _, R_element (d := 298) he hi hel, wU_at, fun _ => ?_, ch, by omega, ?_⟩
      · rw [vpL_0, hz]
      · exact RelC.lift (R.frame (hf := hup (emC (emT F B tm td A K) x c y v tA) (x + 185) _) (fun q hq => hup_of (by omega))) (Nat.le_refl _) (fun k i hk => by rw [wU_ap, if_neg (by omega)])
    rcases a5 with ⟨b1, b2, b3, b4⟩ | ⟨b1, ⟨r, b2⟩, b3, b4⟩ | ⟨b1, b2, ⟨r, b3⟩, b4⟩ | ⟨b1, b2, b3, ⟨r, b4⟩⟩
    · rw [b3] at a3
      rw [b4] at a4
      exact hno (elT_low a1 (by omega)) (-1) (K_size0 he a3 a4) (K_isBelow_m b)
    · rw [b3] at a3
      rw [b4] at a4
      exact hno (elT_low a1 (by omega)) (-1) (K_size0 he a3 a4) (K_isBelow_m b)
    · obtain ⟨r, r1, q, g0, k1, k2, k3, k4, k5, k6, k7, k8⟩ := a7 b1
      have hcell : emC (emT F B tm td A K) x c y v tA r = some (.inl (0, q, .inl g0)) := by
        rw [emC_off _ _ _ _ _ _ _ (Or.inr (by omega))]
        unfold emT
        rw [k5]
        exact k6
      have hsz := fun d => K_sizeI (f := emT F B tm td A K) (x := x) (d := d) (sz := sz) (us := us) (c := c) (y := y) (v := v) (tm := tA) (k := e) (r := r) (q := q) he r1 (by rw [hcell]; rfl)
      have hbe := K_isBelow (d := 300) (sz := sz) (us := us) (hf := emC (emT F B tm td A K) x c y v tA) b (show q < 2 ^ 31 by omega)
      have hel := elT_row (b := b) a1 (by omega) (by omega) k2 k1
      cases hv : vI b q
      · rw [hv] at hel hbe
        exact hno hel _ (hsz 300) hbe
      · rw [hv] at hel hbe
        obtain ⟨i, hi, rfl⟩ := vI_T hv (by omega)
        refine hyes i (g0 i) (by omega) rfl hel (k7 i hi) _ (hsz 300) hbe (K_atI he r1 ?_)
        rw [hcell]
        simp only [ral]
        rw [if_pos ⟨trivial, by rw [nI_toInt (by omega)]; omega⟩, nI_clamp (by omega)]
    · obtain ⟨r, r1, q, g0, k1, k2, k3, k4, k5, k6, k7, k8⟩ := a8 b1
      rw [b3] at a3
      have hcell : emC (emT F B tm td A K) x c y v tA r = some (.inl (1, q, .inl g0)) := by
        rw [emC_off _ _ _ _ _ _ _ (Or.inr (by omega))]
        unfold emT
        rw [k5]
        exact k6
      have hsz := fun d => K_sizeB (f := emT F B tm td A K) (x := x) (d := d) (sz := sz) (us := us) (c := c) (y := y) (v := v) (tm := tA) (k := e) (r := r) (q := q) he a3 r1 (by rw [hcell]; rfl)
      have hbe := K_isBelow (d := 300) (sz := sz) (us := us) (hf := emC (emT F B tm td A K) x c y v tA) b (show q < 2 ^ 31 by omega)
      have hel := elT_row (b := b) a1 (by omega) (by omega) k2 k1
      cases hv : vI b q
      · rw [hv] at hel hbe
        exact hno hel _ (hsz 300) hbe
      · rw [hv] at hel hbe
        obtain ⟨i, hi, rfl⟩ := vI_T hv (by omega)
        refine hyes i (g0 i) (by omega) rfl hel (k7 i hi) _ (hsz 300) hbe (K_atB he a3 r1 ?_)
        rw [hcell]
        simp only [rbl, ral]
        rw [if_pos ⟨trivial, by rw [nI_toInt (by omega)]; omega⟩, nI_clamp (by omega)]
  · have hb' : vI a 8 = false := by simpa using hb
    exact ⟨nI 1, _, g, ⟨hx, Or.inl ⟨hb', rfl⟩⟩, FRo.grow, ho, fun f m sz' us' y' => ⟨_, _, _, R_element_ns (d := 298) hb', wU_at, fun q => absurd q (by decide), ch, by omega, RelC.lift (sz := sz) (us := us) R (Nat.le_succ _) (fun k i hk => by rw [wU_ap, if_neg (by omega)])⟩⟩
end KT3
