/-! the law's cases: roads, element, toss (wip/whole/gen28c.py) -/
section CAT
variable {b L x U k : Nat} {xs : Nat → Int32}
theorem lg_same (z : Int64) : lg_cmp z z = 0 := by simp [lg_cmp]
theorem Inv.of {sz1 us1 ch ch1 : Nat} {hf1 : Hf} {w' : WD} {y' : Nat → Int64} {g1 : Nat → Int64} (R1 : RelC x w' ch1 (sz1, us1, hf1)) (ho : hf1 (x + 185) = some (.inl (3, 1, .inr (.inl g1)))) (hch : ch ≤ k) (h1 : ch1 ≤ ch + 1) (hs : sz1 ≤ x + 186 + (k + 1)) (hu : us1 ≤ U + 64 * (k + 1)) : Inv x U (k + 1) (sz1, us1, emR hf1 (x + 154) w' y') :=
  ⟨hf1, w', y', ch1, g1, rfl, R1.frame (hf := emR hf1 (x + 154) w' y') (fun a q => emR_off (by omega)), (emR_off (by omega)).trans ho, by omega, hs, hu⟩
theorem c_toss (hL : L ≤ 3072) (hk : 6 * k + 6 ≤ L) : GOAL b L x U k xs 1567 := by
  intro h I a5 a6 a7
  obtain ⟨f, w, y, ch, g, e0, R, ho, hch, hs, hu⟩ := I
  obtain ⟨sz, us, hf⟩ := h
  dsimp only at e0 ho hs hu
  subst e0
  obtain ⟨ans, ⟨sz1, us1, hf1⟩, hr, ⟨F1, F2, F3, F4, F5⟩, e2⟩ := op_toss R (xs (6 * k + 1))
  dsimp only at F1 F2 F3 F4 F5
  have hf : hf1 = emR hf1 (x + 154) w y := emR_self (f := f) (fun a q1 q2 => F5 a q1 (by omega))
  obtain ⟨w', y', e3, ch1, hch1, R1⟩ := e2 hf1 (x + 154) sz1 us1 y
  have I1 : Inv x U (k + 1) (sz1, us1, emR hf1 (x + 154) w' y') := Inv.of R1 ((F5 (x + 185) (by omega) (by omega)).trans ho) hch hch1 (by omega) (by omega)
  rw [hf] at hr
  have es := fun a0 a1 a2 a3 a4 a5 a6 a7 => s202_1574 (b := b) (L := L) (xs := xs) (a0 := a0) (a1 := a1) (a2 := a2) (a3 := a3) (a4 := a4) (a5 := a5) (a6 := a6) (a7 := a7) hr
  refine ⟨_, I1, a5, a6, a7, ?_⟩
  simp (disch := first | omega | with_reducible assumption | exact cobR | exact bI_01 _ | exact Or.inl rfl | exact Or.inr rfl | (simp (decide := true) only [wid_0, wid_i, wid_l, wid_r, wid_n]; done) | decide | fail) only [s202_1567, s202_1568, s202_1569, s202_1571, s202_1572, s202_1573, s202_1577, s202_1578, s202_1579, s202_1581, s202_1582, s202_1583, s202_1584, s202_1587, s202_1590, Option.bind_some, Option.bind_none, Option.toList_some, Option.toList_none, List.cons_append, List.nil_append, clr_i, clr_r, clr_l, clr_n, nI_add, nsub, pk_mul, nle_F, nle_T, nlt_F, nlt_T, neq_F, nz_F, nz_T, nneg_F, npos_T, npos_lF, npos_lT, nle0_F, m1_neg, m1_pos, m1_z, neq_m1, m1_neq, ↓reduceIte, if_true, if_false, not_true_eq_false, not_false_eq_true, bI_eq0, Bool.true_eq_false, Bool.false_eq_true, true_and, and_true, false_and, and_false, true_or, or_true, false_or, or_false, decide_true, decide_false, Bool.and_self, Bool.true_and, Bool.and_true, Bool.false_and, Bool.and_false, Bool.true_or, Bool.or_true, Bool.false_or, Bool.or_false, Bool.not_true, Bool.not_false, eq_self, es, e3]
theorem c_roads (hL : L ≤ 3072) (hk : 6 * k + 6 ≤ L) : GOAL b L x U k xs 512 := by
  intro h I a5 a6 a7
  obtain ⟨f, w, y, ch, g, e0, R, ho, hch, hs, hu⟩ := I
  obtain ⟨sz, us, hf⟩ := h
  dsimp only at e0 ho hs hu
  subst e0
  obtain ⟨ans, ⟨sz1, us1, hf1⟩, g1, hr, ⟨F1, F2, F3, F4, F5⟩, ho1, e2⟩ := op_roads R ho (xs (6 * k + 1)) (xs (6 * k + 2))
  dsimp only at F1 F2 F3 F4 F5 ho1
  have hf : hf1 = emR hf1 (x + 154) w y := emR_self (f := f) (fun a q1 q2 => F5 a q1 (by omega))
  obtain ⟨w', y', z, e3, hw, hz, ch1, hch1, R1⟩ := e2 hf1 (x + 154) sz1 us1 y
  have I1 : Inv x U (k + 1) (sz1, us1, emR hf1 (x + 154) w' y') := Inv.of R1 ho1 hch hch1 (by omega) (by omega)
  rw [hf] at hr
  have es := fun a0 a1 a2 a3 a4 a5 a6 a7 => s202_526 (b := b) (L := L) (xs := xs) (a0 := a0) (a1 := a1) (a2 := a2) (a3 := a3) (a4 := a4) (a5 := a5) (a6 := a6) (a7 := a7) hr
  have et : Ev 300 134 0 [some (.ref (x + 154))] [] (sz1, us1, emR hf1 (x + 154) w' y') = some (some (.int ans), (sz1, us1, emR hf1 (x + 154) w' y')) := by rw [R_thrown, hw]
  have er : rll (emR hf1 (x + 154) w' y' (x + 185)) (nI 0) = some (g1 0) := by
    rw [emR_off (by omega), ho1]
    rfl
  refine ⟨_, I1, some (.int ans), some (.long z), none, ?_⟩
  by_cases ha : ans = 0
  · have hz1 : g1 0 = z := hz ha
    rw [hz1] at er
    have el := lg_same z
    simp (disch := first | omega | with_reducible assumption | exact cobR | exact bI_01 _ | exact Or.inl rfl | exact Or.inr rfl | (simp (decide := true) only [wid_0, wid_i, wid_l, wid_r, wid_n]; done) | decide | fail) only [s202_512, s202_513, s202_514, s202_516, s202_517, s202_518, s202_519, s202_520, s202_522, s202_523, s202_524, s202_525, s202_529, s202_531, s202_532, s202_533, s202_535, s202_536, s202_537, s202_538, s202_539, s202_541, s202_542, s202_543, s202_544, s202_547, s202_549, s202_550, s202_553, s202_555, s202_558, s202_560, s202_562, s202_565, s202_566, s202_567, s202_568, s202_570, s202_571, s202_574, s202_576, Option.bind_some, Option.bind_none, Option.toList_some, Option.toList_none, List.cons_append, List.nil_append, clr_i, clr_r, clr_l, clr_n, nI_add, nsub, pk_mul, nle_F, nle_T, nlt_F, nlt_T, neq_F, nz_F, nz_T, nneg_F, npos_T, npos_lF, npos_lT, nle0_F, m1_neg, m1_pos, m1_z, neq_m1, m1_neq, ↓reduceIte, if_true, if_false, not_true_eq_false, not_false_eq_true, bI_eq0, Bool.true_eq_false, Bool.false_eq_true, true_and, and_true, false_and, and_false, true_or, or_true, false_or, or_false, decide_true, decide_false, Bool.and_self, Bool.true_and, Bool.and_true, Bool.false_and, Bool.and_false, Bool.true_or, Bool.or_true, Bool.false_or, Bool.or_false, Bool.not_true, Bool.not_false, eq_self, es, e3, et, er, el, ha]
  · simp (disch := first | omega | with_reducible assumption | exact cobR | exact bI_01 _ | exact Or.inl rfl | exact Or.inr rfl | (simp (decide := true) only [wid_0, wid_i, wid_l, wid_r, wid_n]; done) | decide | fail) only [s202_512, s202_513, s202_514, s202_516, s202_517, s202_518, s202_519, s202_520, s202_522, s202_523, s202_524, s202_525, s202_529, s202_531, s202_532, s202_533, s202_535, s202_536, s202_537, s202_538, s202_539, s202_541, s202_542, s202_543, s202_544, s202_547, s202_549, s202_550, s202_553, s202_555, s202_558, s202_560, s202_562, s202_565, s202_566, s202_567, s202_568, s202_570, s202_571, s202_574, s202_576, Option.bind_some, Option.bind_none, Option.toList_some, Option.toList_none, List.cons_append, List.nil_append, clr_i, clr_r, clr_l, clr_n, nI_add, nsub, pk_mul, nle_F, nle_T, nlt_F, nlt_T, neq_F, nz_F, nz_T, nneg_F, npos_T, npos_lF, npos_lT, nle0_F, m1_neg, m1_pos, m1_z, neq_m1, m1_neq, ↓reduceIte, if_true, if_false, not_true_eq_false, not_false_eq_true, bI_eq0, Bool.true_eq_false, Bool.false_eq_true, true_and, and_true, false_and, and_false, true_or, or_true, false_or, or_false, decide_true, decide_false, Bool.and_self, Bool.true_and, Bool.and_true, Bool.false_and, Bool.and_false, Bool.true_or, Bool.or_true, Bool.false_or, Bool.or_false, Bool.not_true, Bool.not_false, eq_self, es, e3, et, ha]
theorem c_element (hL : L ≤ 3072) (hk : 6 * k + 6 ≤ L) : GOAL b L x U k xs 1402 := by
  intro h I a5 a6 a7
  obtain ⟨f, w, y, ch, g, e0, R, ho, hch, hs, hu⟩ := I
  obtain ⟨sz, us, hf⟩ := h
  dsimp only at e0 ho hs hu
  subst e0
  obtain ⟨ans, ⟨sz1, us1, hf1⟩, g1, hr, ⟨F1, F2, F3, F4, F5⟩, ho1, e2⟩ := op_element R ho (xs (6 * k + 1)) (xs (6 * k + 2))
  dsimp only at F1 F2 F3 F4 F5 ho1
  have hf : hf1 = emR hf1 (x + 154) w y := emR_self (f := f) (fun a q1 q2 => F5 a q1 (by omega))
  obtain ⟨w', y', z, e3, hw, hz, ch1, hch1, R1⟩ := e2 hf1 (x + 154) sz1 us1 y
  have I1 : Inv x U (k + 1) (sz1, us1, emR hf1 (x + 154) w' y') := Inv.of R1 ho1 hch hch1 (by omega) (by omega)
  rw [hf] at hr
  have es := fun a0 a1 a2 a3 a4 a5 a6 a7 => s202_1416 (b := b) (L := L) (xs := xs) (a0 := a0) (a1 := a1) (a2 := a2) (a3 := a3) (a4 := a4) (a5 := a5) (a6 := a6) (a7 := a7) hr
  have et : Ev 300 134 0 [some (.ref (x + 154))] [] (sz1, us1, emR hf1 (x + 154) w' y') = some (some (.int ans), (sz1, us1, emR hf1 (x + 154) w' y')) := by rw [R_thrown, hw]
  have er : rll (emR hf1 (x + 154) w' y' (x + 185)) (nI 0) = some (g1 0) := by
    rw [emR_off (by omega), ho1]
    rfl
  refine ⟨_, I1, some (.int ans), some (.long z), none, ?_⟩
  by_cases ha : ans = 0
  · have hz1 : g1 0 = z := hz ha
    rw [hz1] at er
    have el := lg_same z
    simp (disch := first | omega | with_reducible assumption | exact cobR | exact bI_01 _ | exact Or.inl rfl | exact Or.inr rfl | (simp (decide := true) only [wid_0, wid_i, wid_l, wid_r, wid_n]; done) | decide | fail) only [s202_1402, s202_1403, s202_1404, s202_1406, s202_1407, s202_1408, s202_1409, s202_1410, s202_1412, s202_1413, s202_1414, s202_1415, s202_1419, s202_1421, s202_1422, s202_1423, s202_1425, s202_1426, s202_1427, s202_1428, s202_1429, s202_1431, s202_1432, s202_1433, s202_1434, s202_1437, s202_1439, s202_1440, s202_1443, s202_1445, s202_1448, s202_1450, s202_1452, s202_1455, s202_1456, s202_1457, s202_1458, s202_1460, s202_1461, s202_1464, s202_1466, Option.bind_some, Option.bind_none, Option.toList_some, Option.toList_none, List.cons_append, List.nil_append, clr_i, clr_r, clr_l, clr_n, nI_add, nsub, pk_mul, nle_F, nle_T, nlt_F, nlt_T, neq_F, nz_F, nz_T, nneg_F, npos_T, npos_lF, npos_lT, nle0_F, m1_neg, m1_pos, m1_z, neq_m1, m1_neq, ↓reduceIte, if_true, if_false, not_true_eq_false, not_false_eq_true, bI_eq0, Bool.true_eq_false, Bool.false_eq_true, true_and, and_true, false_and, and_false, true_or, or_true, false_or, or_false, decide_true, decide_false, Bool.and_self, Bool.true_and, Bool.and_true, Bool.false_and, Bool.and_false, Bool.true_or, Bool.or_true, Bool.false_or, Bool.or_false, Bool.not_true, Bool.not_false, eq_self, es, e3, et, er, el, ha]
  · simp (disch := first | omega | with_reducible assumption | exact cobR | exact bI_01 _ | exact Or.inl rfl | exact Or.inr rfl | (simp (decide := true) only [wid_0, wid_i, wid_l, wid_r, wid_n]; done) | decide | fail) only [s202_1402, s202_1403, s202_1404, s202_1406, s202_1407, s202_1408, s202_1409, s202_1410, s202_1412, s202_1413, s202_1414, s202_1415, s202_1419, s202_1421, s202_1422, s202_1423, s202_1425, s202_1426, s202_1427, s202_1428, s202_1429, s202_1431, s202_1432, s202_1433, s202_1434, s202_1437, s202_1439, s202_1440, s202_1443, s202_1445, s202_1448, s202_1450, s202_1452, s202_1455, s202_1456, s202_1457, s202_1458, s202_1460, s202_1461, s202_1464, s202_1466, Option.bind_some, Option.bind_none, Option.toList_some, Option.toList_none, List.cons_append, List.nil_append, clr_i, clr_r, clr_l, clr_n, nI_add, nsub, pk_mul, nle_F, nle_T, nlt_F, nlt_T, neq_F, nz_F, nz_T, nneg_F, npos_T, npos_lF, npos_lT, nle0_F, m1_neg, m1_pos, m1_z, neq_m1, m1_neq, ↓reduceIte, if_true, if_false, not_true_eq_false, not_false_eq_true, bI_eq0, Bool.true_eq_false, Bool.false_eq_true, true_and, and_true, false_and, and_false, true_or, or_true, false_or, or_false, decide_true, decide_false, Bool.and_self, Bool.true_and, Bool.and_true, Bool.false_and, Bool.and_false, Bool.true_or, Bool.or_true, Bool.false_or, Bool.or_false, Bool.not_true, Bool.not_false, eq_self, es, e3, et, ha]
end CAT
