/-! the law's cases (wip/whole/gen28.py) -/
section CAS
variable {b L x U k : Nat} {xs : Nat → Int32} {h : Hp} {a5 a6 a7 : Option Value}
def GOAL (b L x U k : Nat) (xs : Nat → Int32) (pc : Nat) : Prop := ∀ h, Inv x U k h → ∀ a5 a6 a7, ∃ h', Inv x U (k + 1) h' ∧ ∃ a5' a6' a7', LV b L xs pc [some (.ref b), some (.ref x), some (.ref (x + 154)), some (.ref (x + 185)), some (.int (nI (6 * k))), a5, a6, a7] [] h = LV b L xs 1592 [some (.ref b), some (.ref x), some (.ref (x + 154)), some (.ref (x + 185)), some (.int (nI (6 * k))), a5', a6', a7'] [] h'
theorem c_state (hL : L ≤ 3072) (hk : 6 * k + 6 ≤ L) : GOAL b L x U k xs 184 := by
  intro h I a5 a6 a7
  obtain ⟨f, w, y, ch, g, e0, R, ho, hch, hs, hu⟩ := I
  obtain ⟨sz, us, hf⟩ := h
  dsimp only at e0 ho hs hu
  subst e0
  have hc := R.cob9
  obtain ⟨ans, sz1, us1, f1, w', y', e1, e2, I1⟩ := (op_state (by omega) R (xs (6 * k + 1)) (xs (6 * k + 2))).rnd (U := U) ho hch hs hu
  refine ⟨_, I1, a5, a6, a7, ?_⟩
  dsimp only at hc e2
  simp (disch := first | omega | with_reducible assumption | exact cobR | exact bI_01 _ | exact Or.inl rfl | exact Or.inr rfl | (simp (decide := true) only [wid_0, wid_i, wid_l, wid_r, wid_n]; done) | decide | fail) only [s202_184, s202_185, s202_186, s202_188, s202_189, s202_190, s202_191, s202_192, s202_194, s202_195, s202_196, s202_197, s202_200, s202_201, s202_202, s202_204, s202_205, s202_206, s202_207, s202_208, s202_210, s202_211, s202_212, s202_213, s202_216, s202_219, Option.bind_some, Option.bind_none, Option.toList_some, Option.toList_none, List.cons_append, List.nil_append, clr_i, clr_r, clr_l, clr_n, nI_add, nsub, pk_mul, nle_F, nle_T, nlt_F, nlt_T, neq_F, nz_F, nz_T, nneg_F, npos_T, npos_lF, npos_lT, nle0_F, m1_neg, m1_pos, m1_z, neq_m1, m1_neq, ↓reduceIte, if_true, if_false, not_true_eq_false, not_false_eq_true, bI_eq0, Bool.true_eq_false, Bool.false_eq_true, true_and, and_true, false_and, and_false, true_or, or_true, false_or, or_false, decide_true, decide_false, Bool.and_self, Bool.true_and, Bool.and_true, Bool.false_and, Bool.and_false, Bool.true_or, Bool.or_true, Bool.false_or, Bool.or_false, Bool.not_true, Bool.not_false, eq_self, e1, e2]
theorem c_put (hL : L ≤ 3072) (hk : 6 * k + 6 ≤ L) : GOAL b L x U k xs 221 := by
  intro h I a5 a6 a7
  obtain ⟨f, w, y, ch, g, e0, R, ho, hch, hs, hu⟩ := I
  obtain ⟨sz, us, hf⟩ := h
  dsimp only at e0 ho hs hu
  subst e0
  have hc := R.cob9
  obtain ⟨ans, sz1, us1, f1, w', y', e1, e2, I1⟩ := (op_put (by omega) R (xs (6 * k + 1)) (xs (6 * k + 2)) (xs (6 * k + 3))).rnd (U := U) ho hch hs hu
  refine ⟨_, I1, a5, a6, a7, ?_⟩
  dsimp only at hc e2
  simp (disch := first | omega | with_reducible assumption | exact cobR | exact bI_01 _ | exact Or.inl rfl | exact Or.inr rfl | (simp (decide := true) only [wid_0, wid_i, wid_l, wid_r, wid_n]; done) | decide | fail) only [s202_221, s202_222, s202_223, s202_225, s202_226, s202_227, s202_228, s202_229, s202_231, s202_232, s202_233, s202_234, s202_235, s202_237, s202_238, s202_239, s202_240, s202_243, s202_244, s202_245, s202_247, s202_248, s202_249, s202_250, s202_251, s202_253, s202_254, s202_255, s202_256, s202_257, s202_259, s202_260, s202_261, s202_262, s202_265, s202_268, Option.bind_some, Option.bind_none, Option.toList_some, Option.toList_none, List.cons_append, List.nil_append, clr_i, clr_r, clr_l, clr_n, nI_add, nsub, pk_mul, nle_F, nle_T, nlt_F, nlt_T, neq_F, nz_F, nz_T, nneg_F, npos_T, npos_lF, npos_lT, nle0_F, m1_neg, m1_pos, m1_z, neq_m1, m1_neq, ↓reduceIte, if_true, if_false, not_true_eq_false, not_false_eq_true, bI_eq0, Bool.true_eq_false, Bool.false_eq_true, true_and, and_true, false_and, and_false, true_or, or_true, false_or, or_false, decide_true, decide_false, Bool.and_self, Bool.true_and, Bool.and_true, Bool.false_and, Bool.and_false, Bool.true_or, Bool.or_true, Bool.false_or, Bool.or_false, Bool.not_true, Bool.not_false, eq_self, e1, e2]
theorem c_gone (hL : L ≤ 3072) (hk : 6 * k + 6 ≤ L) : GOAL b L x U k xs 270 := by
  intro h I a5 a6 a7
  obtain ⟨f, w, y, ch, g, e0, R, ho, hch, hs, hu⟩ := I
  obtain ⟨sz, us, hf⟩ := h
  dsimp only at e0 ho hs hu
  subst e0
  have hc := R.cob9
  obtain ⟨ans, sz1, us1, f1, w', y', e1, e2, I1⟩ := (op_gone (by omega) R (xs (6 * k + 1))).rnd (U := U) ho hch hs hu
  refine ⟨_, I1, a5, a6, a7, ?_⟩
  dsimp only at hc e2
  simp (disch := first | omega | with_reducible assumption | exact cobR | exact bI_01 _ | exact Or.inl rfl | exact Or.inr rfl | (simp (decide := true) only [wid_0, wid_i, wid_l, wid_r, wid_n]; done) | decide | fail) only [s202_270, s202_271, s202_272, s202_274, s202_275, s202_276, s202_277, s202_280, s202_281, s202_282, s202_284, s202_285, s202_286, s202_287, s202_290, s202_293, Option.bind_some, Option.bind_none, Option.toList_some, Option.toList_none, List.cons_append, List.nil_append, clr_i, clr_r, clr_l, clr_n, nI_add, nsub, pk_mul, nle_F, nle_T, nlt_F, nlt_T, neq_F, nz_F, nz_T, nneg_F, npos_T, npos_lF, npos_lT, nle0_F, m1_neg, m1_pos, m1_z, neq_m1, m1_neq, ↓reduceIte, if_true, if_false, not_true_eq_false, not_false_eq_true, bI_eq0, Bool.true_eq_false, Bool.false_eq_true, true_and, and_true, false_and, and_false, true_or, or_true, false_or, or_false, decide_true, decide_false, Bool.and_self, Bool.true_and, Bool.and_true, Bool.false_and, Bool.and_false, Bool.true_or, Bool.or_true, Bool.false_or, Bool.or_false, Bool.not_true, Bool.not_false, eq_self, e1, e2]
theorem c_link (hL : L ≤ 3072) (hk : 6 * k + 6 ≤ L) : GOAL b L x U k xs 295 := by
  intro h I a5 a6 a7
  obtain ⟨f, w, y, ch, g, e0, R, ho, hch, hs, hu⟩ := I
  obtain ⟨sz, us, hf⟩ := h
  dsimp only at e0 ho hs hu
  subst e0
  have hc := R.cob9
  by_cases hz : xs (6 * k + 4) = 0
  · skip
    obtain ⟨ans, sz1, us1, f1, w', y', e1, e2, I1⟩ := (op_link (by omega) R (xs (6 * k + 1)) (xs (6 * k + 2)) (xs (6 * k + 3)) false).rnd (U := U) ho hch hs hu
    refine ⟨_, I1, a5, a6, a7, ?_⟩
    rw [bI_f] at e1
    dsimp only at hc e2
    rw [bI_f] at e2
    simp (disch := first | omega | with_reducible assumption | exact cobR | exact bI_01 _ | exact Or.inl rfl | exact Or.inr rfl | (simp (decide := true) only [wid_0, wid_i, wid_l, wid_r, wid_n]; done) | decide | fail) only [s202_295, s202_296, s202_297, s202_299, s202_300, s202_301, s202_302, s202_303, s202_305, s202_306, s202_307, s202_308, s202_309, s202_311, s202_312, s202_313, s202_314, s202_315, s202_317, s202_318, s202_319, s202_320, s202_323, s202_324, s202_327, s202_328, s202_331, s202_332, s202_333, s202_335, s202_336, s202_337, s202_338, s202_339, s202_341, s202_342, s202_343, s202_344, s202_345, s202_347, s202_348, s202_349, s202_350, s202_351, s202_353, s202_354, s202_355, s202_356, s202_359, s202_360, s202_363, s202_364, s202_367, s202_370, Option.bind_some, Option.bind_none, Option.toList_some, Option.toList_none, List.cons_append, List.nil_append, clr_i, clr_r, clr_l, clr_n, nI_add, nsub, pk_mul, nle_F, nle_T, nlt_F, nlt_T, neq_F, nz_F, nz_T, nneg_F, npos_T, npos_lF, npos_lT, nle0_F, m1_neg, m1_pos, m1_z, neq_m1, m1_neq, ↓reduceIte, if_true, if_false, not_true_eq_false, not_false_eq_true, bI_eq0, Bool.true_eq_false, Bool.false_eq_true, true_and, and_true, false_and, and_false, true_or, or_true, false_or, or_false, decide_true, decide_false, Bool.and_self, Bool.true_and, Bool.and_true, Bool.false_and, Bool.and_false, Bool.true_or, Bool.or_true, Bool.false_or, Bool.or_false, Bool.not_true, Bool.not_false, eq_self, e1, e2, hz]
  · skip
    obtain ⟨ans, sz1, us1, f1, w', y', e1, e2, I1⟩ := (op_link (by omega) R (xs (6 * k + 1)) (xs (6 * k + 2)) (xs (6 * k + 3)) true).rnd (U := U) ho hch hs hu
    refine ⟨_, I1, a5, a6, a7, ?_⟩
    rw [bI_t] at e1
    dsimp only at hc e2
    rw [bI_t] at e2
    simp (disch := first | omega | with_reducible assumption | exact cobR | exact bI_01 _ | exact Or.inl rfl | exact Or.inr rfl | (simp (decide := true) only [wid_0, wid_i, wid_l, wid_r, wid_n]; done) | decide | fail) only [s202_295, s202_296, s202_297, s202_299, s202_300, s202_301, s202_302, s202_303, s202_305, s202_306, s202_307, s202_308, s202_309, s202_311, s202_312, s202_313, s202_314, s202_315, s202_317, s202_318, s202_319, s202_320, s202_323, s202_324, s202_327, s202_328, s202_331, s202_332, s202_333, s202_335, s202_336, s202_337, s202_338, s202_339, s202_341, s202_342, s202_343, s202_344, s202_345, s202_347, s202_348, s202_349, s202_350, s202_351, s202_353, s202_354, s202_355, s202_356, s202_359, s202_360, s202_363, s202_364, s202_367, s202_370, Option.bind_some, Option.bind_none, Option.toList_some, Option.toList_none, List.cons_append, List.nil_append, clr_i, clr_r, clr_l, clr_n, nI_add, nsub, pk_mul, nle_F, nle_T, nlt_F, nlt_T, neq_F, nz_F, nz_T, nneg_F, npos_T, npos_lF, npos_lT, nle0_F, m1_neg, m1_pos, m1_z, neq_m1, m1_neq, ↓reduceIte, if_true, if_false, not_true_eq_false, not_false_eq_true, bI_eq0, Bool.true_eq_false, Bool.false_eq_true, true_and, and_true, false_and, and_false, true_or, or_true, false_or, or_false, decide_true, decide_false, Bool.and_self, Bool.true_and, Bool.and_true, Bool.false_and, Bool.and_false, Bool.true_or, Bool.or_true, Bool.false_or, Bool.or_false, Bool.not_true, Bool.not_false, eq_self, e1, e2, hz]
theorem c_read (hL : L ≤ 3072) (hk : 6 * k + 6 ≤ L) : GOAL b L x U k xs 372 := by
  intro h I a5 a6 a7
  obtain ⟨f, w, y, ch, g, e0, R, ho, hch, hs, hu⟩ := I
  obtain ⟨sz, us, hf⟩ := h
  dsimp only at e0 ho hs hu
  subst e0
  have hc := R.cob9
  by_cases hz : xs (6 * k + 1) = 0
  · skip
    obtain ⟨ans, sz1, us1, f1, w', y', e1, e2, I1⟩ := (op_read (by omega) R false).rnd (U := U) ho hch hs hu
    refine ⟨_, I1, a5, a6, a7, ?_⟩
    rw [bI_f] at e1
    dsimp only at hc e2
    rw [bI_f] at e2
    simp (disch := first | omega | with_reducible assumption | exact cobR | exact bI_01 _ | exact Or.inl rfl | exact Or.inr rfl | (simp (decide := true) only [wid_0, wid_i, wid_l, wid_r, wid_n]; done) | decide | fail) only [s202_372, s202_373, s202_374, s202_376, s202_377, s202_378, s202_379, s202_382, s202_383, s202_386, s202_387, s202_390, s202_391, s202_392, s202_394, s202_395, s202_396, s202_397, s202_400, s202_401, s202_404, s202_405, s202_408, s202_411, Option.bind_some, Option.bind_none, Option.toList_some, Option.toList_none, List.cons_append, List.nil_append, clr_i, clr_r, clr_l, clr_n, nI_add, nsub, pk_mul, nle_F, nle_T, nlt_F, nlt_T, neq_F, nz_F, nz_T, nneg_F, npos_T, npos_lF, npos_lT, nle0_F, m1_neg, m1_pos, m1_z, neq_m1, m1_neq, ↓reduceIte, if_true, if_false, not_true_eq_false, not_false_eq_true, bI_eq0, Bool.true_eq_false, Bool.false_eq_true, true_and, and_true, false_and, and_false, true_or, or_true, false_or, or_false, decide_true, decide_false, Bool.and_self, Bool.true_and, Bool.and_true, Bool.false_and, Bool.and_false, Bool.true_or, Bool.or_true, Bool.false_or, Bool.or_false, Bool.not_true, Bool.not_false, eq_self, e1, e2, hz]
  · skip
    obtain ⟨ans, sz1, us1, f1, w', y', e1, e2, I1⟩ := (op_read (by omega) R true).rnd (U := U) ho hch hs hu
    refine ⟨_, I1, a5, a6, a7, ?_⟩
    rw [bI_t] at e1
    dsimp only at hc e2
    rw [bI_t] at e2
    simp (disch := first | omega | with_reducible assumption | exact cobR | exact bI_01 _ | exact Or.inl rfl | exact Or.inr rfl | (simp (decide := true) only [wid_0, wid_i, wid_l, wid_r, wid_n]; done) | decide | fail) only [s202_372, s202_373, s202_374, s202_376, s202_377, s202_378, s202_379, s202_382, s202_383, s202_386, s202_387, s202_390, s202_391, s202_392, s202_394, s202_395, s202_396, s202_397, s202_400, s202_401, s202_404, s202_405, s202_408, s202_411, Option.bind_some, Option.bind_none, Option.toList_some, Option.toList_none, List.cons_append, List.nil_append, clr_i, clr_r, clr_l, clr_n, nI_add, nsub, pk_mul, nle_F, nle_T, nlt_F, nlt_T, neq_F, nz_F, nz_T, nneg_F, npos_T, npos_lF, npos_lT, nle0_F, m1_neg, m1_pos, m1_z, neq_m1, m1_neq, ↓reduceIte, if_true, if_false, not_true_eq_false, not_false_eq_true, bI_eq0, Bool.true_eq_false, Bool.false_eq_true, true_and, and_true, false_and, and_false, true_or, or_true, false_or, or_false, decide_true, decide_false, Bool.and_self, Bool.true_and, Bool.and_true, Bool.false_and, Bool.and_false, Bool.true_or, Bool.or_true, Bool.false_or, Bool.or_false, Bool.not_true, Bool.not_false, eq_self, e1, e2, hz]
theorem c_undo (hL : L ≤ 3072) (hk : 6 * k + 6 ≤ L) : GOAL b L x U k xs 413 := by
  intro h I a5 a6 a7
  obtain ⟨f, w, y, ch, g, e0, R, ho, hch, hs, hu⟩ := I
  obtain ⟨sz, us, hf⟩ := h
  dsimp only at e0 ho hs hu
  subst e0
  have hc := R.cob9
  obtain ⟨ans, sz1, us1, f1, w', y', e1, e2, I1⟩ := (op_undo (by omega) R).rnd (U := U) ho hch hs hu
  refine ⟨_, I1, a5, a6, a7, ?_⟩
  dsimp only at hc e2
  simp (disch := first | omega | with_reducible assumption | exact cobR | exact bI_01 _ | exact Or.inl rfl | exact Or.inr rfl | (simp (decide := true) only [wid_0, wid_i, wid_l, wid_r, wid_n]; done) | decide | fail) only [s202_413, s202_414, s202_417, s202_418, s202_421, s202_424, Option.bind_some, Option.bind_none, Option.toList_some, Option.toList_none, List.cons_append, List.nil_append, clr_i, clr_r, clr_l, clr_n, nI_add, nsub, pk_mul, nle_F, nle_T, nlt_F, nlt_T, neq_F, nz_F, nz_T, nneg_F, npos_T, npos_lF, npos_lT, nle0_F, m1_neg, m1_pos, m1_z, neq_m1, m1_neq, ↓reduceIte, if_true, if_false, not_true_eq_false, not_false_eq_true, bI_eq0, Bool.true_eq_false, Bool.false_eq_true, true_and, and_true, false_and, and_false, true_or, or_true, false_or, or_false, decide_true, decide_false, Bool.and_self, Bool.true_and, Bool.and_true, Bool.false_and, Bool.and_false, Bool.true_or, Bool.or_true, Bool.false_or, Bool.or_false, Bool.not_true, Bool.not_false, eq_self, e1, e2]
theorem c_look (hL : L ≤ 3072) (hk : 6 * k + 6 ≤ L) : GOAL b L x U k xs 426 := by
  intro h I a5 a6 a7
  obtain ⟨f, w, y, ch, g, e0, R, ho, hch, hs, hu⟩ := I
  obtain ⟨sz, us, hf⟩ := h
  dsimp only at e0 ho hs hu
  subst e0
  have hc := R.cob9
  obtain ⟨ans, sz1, us1, f1, w', y', e1, e2, I1⟩ := (op_look R (xs (6 * k + 1)) (xs (6 * k + 2))).rnd (U := U) ho hch hs hu
  refine ⟨_, I1, a5, a6, a7, ?_⟩
  dsimp only at hc e2
  simp (disch := first | omega | with_reducible assumption | exact cobR | exact bI_01 _ | exact Or.inl rfl | exact Or.inr rfl | (simp (decide := true) only [wid_0, wid_i, wid_l, wid_r, wid_n]; done) | decide | fail) only [s202_426, s202_427, s202_428, s202_430, s202_431, s202_432, s202_433, s202_434, s202_436, s202_437, s202_438, s202_439, s202_442, s202_443, s202_444, s202_446, s202_447, s202_448, s202_449, s202_450, s202_452, s202_453, s202_454, s202_455, s202_458, s202_461, Option.bind_some, Option.bind_none, Option.toList_some, Option.toList_none, List.cons_append, List.nil_append, clr_i, clr_r, clr_l, clr_n, nI_add, nsub, pk_mul, nle_F, nle_T, nlt_F, nlt_T, neq_F, nz_F, nz_T, nneg_F, npos_T, npos_lF, npos_lT, nle0_F, m1_neg, m1_pos, m1_z, neq_m1, m1_neq, ↓reduceIte, if_true, if_false, not_true_eq_false, not_false_eq_true, bI_eq0, Bool.true_eq_false, Bool.false_eq_true, true_and, and_true, false_and, and_false, true_or, or_true, false_or, or_false, decide_true, decide_false, Bool.and_self, Bool.true_and, Bool.and_true, Bool.false_and, Bool.and_false, Bool.true_or, Bool.or_true, Bool.false_or, Bool.or_false, Bool.not_true, Bool.not_false, eq_self, e1, e2]
theorem c_part (hL : L ≤ 3072) (hk : 6 * k + 6 ≤ L) : GOAL b L x U k xs 463 := by
  intro h I a5 a6 a7
  obtain ⟨f, w, y, ch, g, e0, R, ho, hch, hs, hu⟩ := I
  obtain ⟨sz, us, hf⟩ := h
  dsimp only at e0 ho hs hu
  subst e0
  have hc := R.cob9
  obtain ⟨ans, sz1, us1, f1, w', y', e1, e2, I1⟩ := (op_part R (xs (6 * k + 1)) (xs (6 * k + 2)) (xs (6 * k + 3))).rnd (U := U) ho hch hs hu
  refine ⟨_, I1, a5, a6, a7, ?_⟩
  dsimp only at hc e2
  simp (disch := first | omega | with_reducible assumption | exact cobR | exact bI_01 _ | exact Or.inl rfl | exact Or.inr rfl | (simp (decide := true) only [wid_0, wid_i, wid_l, wid_r, wid_n]; done) | decide | fail) only [s202_463, s202_464, s202_465, s202_467, s202_468, s202_469, s202_470, s202_471, s202_473, s202_474, s202_475, s202_476, s202_477, s202_479, s202_480, s202_481, s202_482, s202_485, s202_486, s202_487, s202_489, s202_490, s202_491, s202_492, s202_493, s202_495, s202_496, s202_497, s202_498, s202_499, s202_501, s202_502, s202_503, s202_504, s202_507, s202_510, Option.bind_some, Option.bind_none, Option.toList_some, Option.toList_none, List.cons_append, List.nil_append, clr_i, clr_r, clr_l, clr_n, nI_add, nsub, pk_mul, nle_F, nle_T, nlt_F, nlt_T, neq_F, nz_F, nz_T, nneg_F, npos_T, npos_lF, npos_lT, nle0_F, m1_neg, m1_pos, m1_z, neq_m1, m1_neq, ↓reduceIte, if_true, if_false, not_true_eq_false, not_false_eq_true, bI_eq0, Bool.true_eq_false, Bool.false_eq_true, true_and, and_true, false_and, and_false, true_or, or_true, false_or, or_false, decide_true, decide_false, Bool.and_self, Bool.true_and, Bool.and_true, Bool.false_and, Bool.and_false, Bool.true_or, Bool.or_true, Bool.false_or, Bool.or_false, Bool.not_true, Bool.not_false, eq_self, e1, e2]
theorem c_meet (hL : L ≤ 3072) (hk : 6 * k + 6 ≤ L) : GOAL b L x U k xs 579 := by
  intro h I a5 a6 a7
  obtain ⟨f, w, y, ch, g, e0, R, ho, hch, hs, hu⟩ := I
  obtain ⟨sz, us, hf⟩ := h
  dsimp only at e0 ho hs hu
  subst e0
  have hc := R.cob9
  obtain ⟨ans, sz1, us1, f1, w', y', e1, e2, I1⟩ := (op_meet R (xs (6 * k + 1)) (xs (6 * k + 2))).rnd (U := U) ho hch hs hu
  refine ⟨_, I1, a5, a6, a7, ?_⟩
  dsimp only at hc e2
  simp (disch := first | omega | with_reducible assumption | exact cobR | exact bI_01 _ | exact Or.inl rfl | exact Or.inr rfl | (simp (decide := true) only [wid_0, wid_i, wid_l, wid_r, wid_n]; done) | decide | fail) only [s202_579, s202_580, s202_581, s202_583, s202_584, s202_585, s202_586, s202_587, s202_589, s202_590, s202_591, s202_592, s202_595, s202_596, s202_597, s202_599, s202_600, s202_601, s202_602, s202_603, s202_605, s202_606, s202_607, s202_608, s202_611, s202_614, Option.bind_some, Option.bind_none, Option.toList_some, Option.toList_none, List.cons_append, List.nil_append, clr_i, clr_r, clr_l, clr_n, nI_add, nsub, pk_mul, nle_F, nle_T, nlt_F, nlt_T, neq_F, nz_F, nz_T, nneg_F, npos_T, npos_lF, npos_lT, nle0_F, m1_neg, m1_pos, m1_z, neq_m1, m1_neq, ↓reduceIte, if_true, if_false, not_true_eq_false, not_false_eq_true, bI_eq0, Bool.true_eq_false, Bool.false_eq_true, true_and, and_true, false_and, and_false, true_or, or_true, false_or, or_false, decide_true, decide_false, Bool.and_self, Bool.true_and, Bool.and_true, Bool.false_and, Bool.and_false, Bool.true_or, Bool.or_true, Bool.false_or, Bool.or_false, Bool.not_true, Bool.not_false, eq_self, e1, e2]
theorem c_between (hL : L ≤ 3072) (hk : 6 * k + 6 ≤ L) : GOAL b L x U k xs 616 := by
  intro h I a5 a6 a7
  obtain ⟨f, w, y, ch, g, e0, R, ho, hch, hs, hu⟩ := I
  obtain ⟨sz, us, hf⟩ := h
  dsimp only at e0 ho hs hu
  subst e0
  have hc := R.cob9
  obtain ⟨ans, sz1, us1, f1, w', y', e1, e2, I1⟩ := (op_between R (xs (6 * k + 1)) (xs (6 * k + 2))).rnd (U := U) ho hch hs hu
  refine ⟨_, I1, a5, a6, a7, ?_⟩
  dsimp only at hc e2
  simp (disch := first | omega | with_reducible assumption | exact cobR | exact bI_01 _ | exact Or.inl rfl | exact Or.inr rfl | (simp (decide := true) only [wid_0, wid_i, wid_l, wid_r, wid_n]; done) | decide | fail) only [s202_616, s202_617, s202_618, s202_620, s202_621, s202_622, s202_623, s202_624, s202_626, s202_627, s202_628, s202_629, s202_632, s202_633, s202_634, s202_636, s202_637, s202_638, s202_639, s202_640, s202_642, s202_643, s202_644, s202_645, s202_648, s202_651, Option.bind_some, Option.bind_none, Option.toList_some, Option.toList_none, List.cons_append, List.nil_append, clr_i, clr_r, clr_l, clr_n, nI_add, nsub, pk_mul, nle_F, nle_T, nlt_F, nlt_T, neq_F, nz_F, nz_T, nneg_F, npos_T, npos_lF, npos_lT, nle0_F, m1_neg, m1_pos, m1_z, neq_m1, m1_neq, ↓reduceIte, if_true, if_false, not_true_eq_false, not_false_eq_true, bI_eq0, Bool.true_eq_false, Bool.false_eq_true, true_and, and_true, false_and, and_false, true_or, or_true, false_or, or_false, decide_true, decide_false, Bool.and_self, Bool.true_and, Bool.and_true, Bool.false_and, Bool.and_false, Bool.true_or, Bool.or_true, Bool.false_or, Bool.or_false, Bool.not_true, Bool.not_false, eq_self, e1, e2]
theorem c_together (hL : L ≤ 3072) (hk : 6 * k + 6 ≤ L) : GOAL b L x U k xs 653 := by
  intro h I a5 a6 a7
  obtain ⟨f, w, y, ch, g, e0, R, ho, hch, hs, hu⟩ := I
  obtain ⟨sz, us, hf⟩ := h
  dsimp only at e0 ho hs hu
  subst e0
  have hc := R.cob9
  obtain ⟨ans, sz1, us1, f1, w', y', e1, e2, I1⟩ := (op_together R (xs (6 * k + 1)) (xs (6 * k + 2)) (xs (6 * k + 3))).rnd (U := U) ho hch hs hu
  refine ⟨_, I1, a5, a6, a7, ?_⟩
  dsimp only at hc e2
  simp (disch := first | omega | with_reducible assumption | exact cobR | exact bI_01 _ | exact Or.inl rfl | exact Or.inr rfl | (simp (decide := true) only [wid_0, wid_i, wid_l, wid_r, wid_n]; done) | decide | fail) only [s202_653, s202_654, s202_655, s202_657, s202_658, s202_659, s202_660, s202_661, s202_663, s202_664, s202_665, s202_666, s202_667, s202_669, s202_670, s202_671, s202_672, s202_675, s202_676, s202_677, s202_679, s202_680, s202_681, s202_682, s202_683, s202_685, s202_686, s202_687, s202_688, s202_689, s202_691, s202_692, s202_693, s202_694, s202_697, s202_700, Option.bind_some, Option.bind_none, Option.toList_some, Option.toList_none, List.cons_append, List.nil_append, clr_i, clr_r, clr_l, clr_n, nI_add, nsub, pk_mul, nle_F, nle_T, nlt_F, nlt_T, neq_F, nz_F, nz_T, nneg_F, npos_T, npos_lF, npos_lT, nle0_F, m1_neg, m1_pos, m1_z, neq_m1, m1_neq, ↓reduceIte, if_true, if_false, not_true_eq_false, not_false_eq_true, bI_eq0, Bool.true_eq_false, Bool.false_eq_true, true_and, and_true, false_and, and_false, true_or, or_true, false_or, or_false, decide_true, decide_false, Bool.and_self, Bool.true_and, Bool.and_true, Bool.false_and, Bool.and_false, Bool.true_or, Bool.or_true, Bool.false_or, Bool.or_false, Bool.not_true, Bool.not_false, eq_self, e1, e2]
theorem c_of (hL : L ≤ 3072) (hk : 6 * k + 6 ≤ L) : GOAL b L x U k xs 702 := by
  intro h I a5 a6 a7
  obtain ⟨f, w, y, ch, g, e0, R, ho, hch, hs, hu⟩ := I
  obtain ⟨sz, us, hf⟩ := h
  dsimp only at e0 ho hs hu
  subst e0
  have hc := R.cob9
  obtain ⟨ans, sz1, us1, f1, w', y', e1, e2, I1⟩ := (op_of R (xs (6 * k + 1)) (xs (6 * k + 2)) (xs (6 * k + 3))).rnd (U := U) ho hch hs hu
  refine ⟨_, I1, a5, a6, a7, ?_⟩
  dsimp only at hc e2
  simp (disch := first | omega | with_reducible assumption | exact cobR | exact bI_01 _ | exact Or.inl rfl | exact Or.inr rfl | (simp (decide := true) only [wid_0, wid_i, wid_l, wid_r, wid_n]; done) | decide | fail) only [s202_702, s202_703, s202_704, s202_706, s202_707, s202_708, s202_709, s202_710, s202_712, s202_713, s202_714, s202_715, s202_716, s202_718, s202_719, s202_720, s202_721, s202_724, s202_725, s202_726, s202_728, s202_729, s202_730, s202_731, s202_732, s202_734, s202_735, s202_736, s202_737, s202_738, s202_740, s202_741, s202_742, s202_743, s202_746, s202_749, Option.bind_some, Option.bind_none, Option.toList_some, Option.toList_none, List.cons_append, List.nil_append, clr_i, clr_r, clr_l, clr_n, nI_add, nsub, pk_mul, nle_F, nle_T, nlt_F, nlt_T, neq_F, nz_F, nz_T, nneg_F, npos_T, npos_lF, npos_lT, nle0_F, m1_neg, m1_pos, m1_z, neq_m1, m1_neq, ↓reduceIte, if_true, if_false, not_true_eq_false, not_false_eq_true, bI_eq0, Bool.true_eq_false, Bool.false_eq_true, true_and, and_true, false_and, and_false, true_or, or_true, false_or, or_false, decide_true, decide_false, Bool.and_self, Bool.true_and, Bool.and_true, Bool.false_and, Bool.and_false, Bool.true_or, Bool.or_true, Bool.false_or, Bool.or_false, Bool.not_true, Bool.not_false, eq_self, e1, e2]
theorem c_two (hL : L ≤ 3072) (hk : 6 * k + 6 ≤ L) : GOAL b L x U k xs 751 := by
  intro h I a5 a6 a7
  obtain ⟨f, w, y, ch, g, e0, R, ho, hch, hs, hu⟩ := I
  obtain ⟨sz, us, hf⟩ := h
  dsimp only at e0 ho hs hu
  subst e0
  have hc := R.cob9
  obtain ⟨ans, sz1, us1, f1, w', y', e1, e2, I1⟩ := (op_two R (xs (6 * k + 1)) (xs (6 * k + 2)) (xs (6 * k + 3)) (xs (6 * k + 4))).rnd (U := U) ho hch hs hu
  refine ⟨_, I1, a5, a6, a7, ?_⟩
  dsimp only at hc e2
  simp (disch := first | omega | with_reducible assumption | exact cobR | exact bI_01 _ | exact Or.inl rfl | exact Or.inr rfl | (simp (decide := true) only [wid_0, wid_i, wid_l, wid_r, wid_n]; done) | decide | fail) only [s202_751, s202_752, s202_753, s202_755, s202_756, s202_757, s202_758, s202_759, s202_761, s202_762, s202_763, s202_764, s202_765, s202_767, s202_768, s202_769, s202_770, s202_771, s202_773, s202_774, s202_775, s202_776, s202_779, s202_780, s202_781, s202_783, s202_784, s202_785, s202_786, s202_787, s202_789, s202_790, s202_791, s202_792, s202_793, s202_795, s202_796, s202_797, s202_798, s202_799, s202_801, s202_802, s202_803, s202_804, s202_807, s202_810, Option.bind_some, Option.bind_none, Option.toList_some, Option.toList_none, List.cons_append, List.nil_append, clr_i, clr_r, clr_l, clr_n, nI_add, nsub, pk_mul, nle_F, nle_T, nlt_F, nlt_T, neq_F, nz_F, nz_T, nneg_F, npos_T, npos_lF, npos_lT, nle0_F, m1_neg, m1_pos, m1_z, neq_m1, m1_neq, ↓reduceIte, if_true, if_false, not_true_eq_false, not_false_eq_true, bI_eq0, Bool.true_eq_false, Bool.false_eq_true, true_and, and_true, false_and, and_false, true_or, or_true, false_or, or_false, decide_true, decide_false, Bool.and_self, Bool.true_and, Bool.and_true, Bool.false_and, Bool.and_false, Bool.true_or, Bool.or_true, Bool.false_or, Bool.or_false, Bool.not_true, Bool.not_false, eq_self, e1, e2]
theorem c_term (hL : L ≤ 3072) (hk : 6 * k + 6 ≤ L) : GOAL b L x U k xs 812 := by
  intro h I a5 a6 a7
  obtain ⟨f, w, y, ch, g, e0, R, ho, hch, hs, hu⟩ := I
  obtain ⟨sz, us, hf⟩ := h
  dsimp only at e0 ho hs hu
  subst e0
  have hc := R.cob9
  obtain ⟨ans, sz1, us1, f1, w', y', e1, e2, I1⟩ := (op_term R (xs (6 * k + 1)) (xs (6 * k + 2)) (xs (6 * k + 3))).rnd (U := U) ho hch hs hu
  refine ⟨_, I1, a5, a6, a7, ?_⟩
  dsimp only at hc e2
  simp (disch := first | omega | with_reducible assumption | exact cobR | exact bI_01 _ | exact Or.inl rfl | exact Or.inr rfl | (simp (decide := true) only [wid_0, wid_i, wid_l, wid_r, wid_n]; done) | decide | fail) only [s202_812, s202_813, s202_814, s202_816, s202_817, s202_818, s202_819, s202_820, s202_822, s202_823, s202_824, s202_825, s202_826, s202_828, s202_829, s202_830, s202_831, s202_834, s202_835, s202_836, s202_838, s202_839, s202_840, s202_841, s202_842, s202_844, s202_845, s202_846, s202_847, s202_848, s202_850, s202_851, s202_852, s202_853, s202_856, s202_859, Option.bind_some, Option.bind_none, Option.toList_some, Option.toList_none, List.cons_append, List.nil_append, clr_i, clr_r, clr_l, clr_n, nI_add, nsub, pk_mul, nle_F, nle_T, nlt_F, nlt_T, neq_F, nz_F, nz_T, nneg_F, npos_T, npos_lF, npos_lT, nle0_F, m1_neg, m1_pos, m1_z, neq_m1, m1_neq, ↓reduceIte, if_true, if_false, not_true_eq_false, not_false_eq_true, bI_eq0, Bool.true_eq_false, Bool.false_eq_true, true_and, and_true, false_and, and_false, true_or, or_true, false_or, or_false, decide_true, decide_false, Bool.and_self, Bool.true_and, Bool.and_true, Bool.false_and, Bool.and_false, Bool.true_or, Bool.or_true, Bool.false_or, Bool.or_false, Bool.not_true, Bool.not_false, eq_self, e1, e2]
theorem c_told (hL : L ≤ 3072) (hk : 6 * k + 6 ≤ L) : GOAL b L x U k xs 861 := by
  intro h I a5 a6 a7
  obtain ⟨f, w, y, ch, g, e0, R, ho, hch, hs, hu⟩ := I
  obtain ⟨sz, us, hf⟩ := h
  dsimp only at e0 ho hs hu
  subst e0
  have hc := R.cob9
  obtain ⟨ans, sz1, us1, f1, w', y', e1, e2, I1⟩ := (op_told R (xs (6 * k + 1)) (xs (6 * k + 2))).rnd (U := U) ho hch hs hu
  refine ⟨_, I1, a5, a6, a7, ?_⟩
  dsimp only at hc e2
  simp (disch := first | omega | with_reducible assumption | exact cobR | exact bI_01 _ | exact Or.inl rfl | exact Or.inr rfl | (simp (decide := true) only [wid_0, wid_i, wid_l, wid_r, wid_n]; done) | decide | fail) only [s202_861, s202_862, s202_863, s202_865, s202_866, s202_867, s202_868, s202_869, s202_871, s202_872, s202_873, s202_874, s202_877, s202_878, s202_879, s202_881, s202_882, s202_883, s202_884, s202_885, s202_887, s202_888, s202_889, s202_890, s202_893, s202_896, Option.bind_some, Option.bind_none, Option.toList_some, Option.toList_none, List.cons_append, List.nil_append, clr_i, clr_r, clr_l, clr_n, nI_add, nsub, pk_mul, nle_F, nle_T, nlt_F, nlt_T, neq_F, nz_F, nz_T, nneg_F, npos_T, npos_lF, npos_lT, nle0_F, m1_neg, m1_pos, m1_z, neq_m1, m1_neq, ↓reduceIte, if_true, if_false, not_true_eq_false, not_false_eq_true, bI_eq0, Bool.true_eq_false, Bool.false_eq_true, true_and, and_true, false_and, and_false, true_or, or_true, false_or, or_false, decide_true, decide_false, Bool.and_self, Bool.true_and, Bool.and_true, Bool.false_and, Bool.and_false, Bool.true_or, Bool.or_true, Bool.false_or, Bool.or_false, Bool.not_true, Bool.not_false, eq_self, e1, e2]
theorem c_span (hL : L ≤ 3072) (hk : 6 * k + 6 ≤ L) : GOAL b L x U k xs 898 := by
  intro h I a5 a6 a7
  obtain ⟨f, w, y, ch, g, e0, R, ho, hch, hs, hu⟩ := I
  obtain ⟨sz, us, hf⟩ := h
  dsimp only at e0 ho hs hu
  subst e0
  have hc := R.cob9
  by_cases hz : xs (6 * k + 5) = 0
  · skip
    obtain ⟨ans, sz1, us1, f1, w', y', e1, e2, I1⟩ := (op_span R (xs (6 * k + 1)) (xs (6 * k + 2)) (xs (6 * k + 3)) (xs (6 * k + 4)) false).rnd (U := U) ho hch hs hu
    refine ⟨_, I1, a5, a6, a7, ?_⟩
    rw [bI_f] at e1
    dsimp only at hc e2
    rw [bI_f] at e2
    simp (disch := first | omega | with_reducible assumption | exact cobR | exact bI_01 _ | exact Or.inl rfl | exact Or.inr rfl | (simp (decide := true) only [wid_0, wid_i, wid_l, wid_r, wid_n]; done) | decide | fail) only [s202_898, s202_899, s202_900, s202_902, s202_903, s202_904, s202_905, s202_906, s202_908, s202_909, s202_910, s202_911, s202_912, s202_914, s202_915, s202_916, s202_917, s202_918, s202_920, s202_921, s202_922, s202_923, s202_924, s202_926, s202_927, s202_928, s202_929, s202_932, s202_933, s202_936, s202_937, s202_940, s202_941, s202_942, s202_944, s202_945, s202_946, s202_947, s202_948, s202_950, s202_951, s202_952, s202_953, s202_954, s202_956, s202_957, s202_958, s202_959, s202_960, s202_962, s202_963, s202_964, s202_965, s202_966, s202_968, s202_969, s202_970, s202_971, s202_974, s202_975, s202_978, s202_979, s202_982, s202_985, Option.bind_some, Option.bind_none, Option.toList_some, Option.toList_none, List.cons_append, List.nil_append, clr_i, clr_r, clr_l, clr_n, nI_add, nsub, pk_mul, nle_F, nle_T, nlt_F, nlt_T, neq_F, nz_F, nz_T, nneg_F, npos_T, npos_lF, npos_lT, nle0_F, m1_neg, m1_pos, m1_z, neq_m1, m1_neq, ↓reduceIte, if_true, if_false, not_true_eq_false, not_false_eq_true, bI_eq0, Bool.true_eq_false, Bool.false_eq_true, true_and, and_true, false_and, and_false, true_or, or_true, false_or, or_false, decide_true, decide_false, Bool.and_self, Bool.true_and, Bool.and_true, Bool.false_and, Bool.and_false, Bool.true_or, Bool.or_true, Bool.false_or, Bool.or_false, Bool.not_true, Bool.not_false, eq_self, e1, e2, hz]
  · skip
    obtain ⟨ans, sz1, us1, f1, w', y', e1, e2, I1⟩ := (op_span R (xs (6 * k + 1)) (xs (6 * k + 2)) (xs (6 * k + 3)) (xs (6 * k + 4)) true).rnd (U := U) ho hch hs hu
    refine ⟨_, I1, a5, a6, a7, ?_⟩
    rw [bI_t] at e1
    dsimp only at hc e2
    rw [bI_t] at e2
    simp (disch := first | omega | with_reducible assumption | exact cobR | exact bI_01 _ | exact Or.inl rfl | exact Or.inr rfl | (simp (decide := true) only [wid_0, wid_i, wid_l, wid_r, wid_n]; done) | decide | fail) only [s202_898, s202_899, s202_900, s202_902, s202_903, s202_904, s202_905, s202_906, s202_908, s202_909, s202_910, s202_911, s202_912, s202_914, s202_915, s202_916, s202_917, s202_918, s202_920, s202_921, s202_922, s202_923, s202_924, s202_926, s202_927, s202_928, s202_929, s202_932, s202_933, s202_936, s202_937, s202_940, s202_941, s202_942, s202_944, s202_945, s202_946, s202_947, s202_948, s202_950, s202_951, s202_952, s202_953, s202_954, s202_956, s202_957, s202_958, s202_959, s202_960, s202_962, s202_963, s202_964, s202_965, s202_966, s202_968, s202_969, s202_970, s202_971, s202_974, s202_975, s202_978, s202_979, s202_982, s202_985, Option.bind_some, Option.bind_none, Option.toList_some, Option.toList_none, List.cons_append, List.nil_append, clr_i, clr_r, clr_l, clr_n, nI_add, nsub, pk_mul, nle_F, nle_T, nlt_F, nlt_T, neq_F, nz_F, nz_T, nneg_F, npos_T, npos_lF, npos_lT, nle0_F, m1_neg, m1_pos, m1_z, neq_m1, m1_neq, ↓reduceIte, if_true, if_false, not_true_eq_false, not_false_eq_true, bI_eq0, Bool.true_eq_false, Bool.false_eq_true, true_and, and_true, false_and, and_false, true_or, or_true, false_or, or_false, decide_true, decide_false, Bool.and_self, Bool.true_and, Bool.and_true, Bool.false_and, Bool.and_false, Bool.true_or, Bool.or_true, Bool.false_or, Bool.or_false, Bool.not_true, Bool.not_false, eq_self, e1, e2, hz]
theorem c_lines (hL : L ≤ 3072) (hk : 6 * k + 6 ≤ L) : GOAL b L x U k xs 987 := by
  intro h I a5 a6 a7
  obtain ⟨f, w, y, ch, g, e0, R, ho, hch, hs, hu⟩ := I
  obtain ⟨sz, us, hf⟩ := h
  dsimp only at e0 ho hs hu
  subst e0
  have hc := R.cob9
  obtain ⟨ans, sz1, us1, f1, w', y', e1, e2, I1⟩ := (op_lines R (xs (6 * k + 1))).rnd (U := U) ho hch hs hu
  refine ⟨_, I1, a5, a6, a7, ?_⟩
  dsimp only at hc e2
  simp (disch := first | omega | with_reducible assumption | exact cobR | exact bI_01 _ | exact Or.inl rfl | exact Or.inr rfl | (simp (decide := true) only [wid_0, wid_i, wid_l, wid_r, wid_n]; done) | decide | fail) only [s202_987, s202_988, s202_989, s202_991, s202_992, s202_993, s202_994, s202_997, s202_998, s202_999, s202_1001, s202_1002, s202_1003, s202_1004, s202_1007, s202_1010, Option.bind_some, Option.bind_none, Option.toList_some, Option.toList_none, List.cons_append, List.nil_append, clr_i, clr_r, clr_l, clr_n, nI_add, nsub, pk_mul, nle_F, nle_T, nlt_F, nlt_T, neq_F, nz_F, nz_T, nneg_F, npos_T, npos_lF, npos_lT, nle0_F, m1_neg, m1_pos, m1_z, neq_m1, m1_neq, ↓reduceIte, if_true, if_false, not_true_eq_false, not_false_eq_true, bI_eq0, Bool.true_eq_false, Bool.false_eq_true, true_and, and_true, false_and, and_false, true_or, or_true, false_or, or_false, decide_true, decide_false, Bool.and_self, Bool.true_and, Bool.and_true, Bool.false_and, Bool.and_false, Bool.true_or, Bool.or_true, Bool.false_or, Bool.or_false, Bool.not_true, Bool.not_false, eq_self, e1, e2]
theorem c_rows (hL : L ≤ 3072) (hk : 6 * k + 6 ≤ L) : GOAL b L x U k xs 1012 := by
  intro h I a5 a6 a7
  obtain ⟨f, w, y, ch, g, e0, R, ho, hch, hs, hu⟩ := I
  obtain ⟨sz, us, hf⟩ := h
  dsimp only at e0 ho hs hu
  subst e0
  have hc := R.cob9
  by_cases hz : xs (6 * k + 2) = 0
  · skip
    obtain ⟨ans, sz1, us1, f1, w', y', e1, e2, I1⟩ := (op_rows R (xs (6 * k + 1)) false).rnd (U := U) ho hch hs hu
    refine ⟨_, I1, a5, a6, a7, ?_⟩
    rw [bI_f] at e1
    dsimp only at hc e2
    rw [bI_f] at e2
    simp (disch := first | omega | with_reducible assumption | exact cobR | exact bI_01 _ | exact Or.inl rfl | exact Or.inr rfl | (simp (decide := true) only [wid_0, wid_i, wid_l, wid_r, wid_n]; done) | decide | fail) only [s202_1012, s202_1013, s202_1014, s202_1016, s202_1017, s202_1018, s202_1019, s202_1020, s202_1022, s202_1023, s202_1024, s202_1025, s202_1028, s202_1029, s202_1032, s202_1033, s202_1036, s202_1037, s202_1038, s202_1040, s202_1041, s202_1042, s202_1043, s202_1044, s202_1046, s202_1047, s202_1048, s202_1049, s202_1052, s202_1053, s202_1056, s202_1057, s202_1060, s202_1063, Option.bind_some, Option.bind_none, Option.toList_some, Option.toList_none, List.cons_append, List.nil_append, clr_i, clr_r, clr_l, clr_n, nI_add, nsub, pk_mul, nle_F, nle_T, nlt_F, nlt_T, neq_F, nz_F, nz_T, nneg_F, npos_T, npos_lF, npos_lT, nle0_F, m1_neg, m1_pos, m1_z, neq_m1, m1_neq, ↓reduceIte, if_true, if_false, not_true_eq_false, not_false_eq_true, bI_eq0, Bool.true_eq_false, Bool.false_eq_true, true_and, and_true, false_and, and_false, true_or, or_true, false_or, or_false, decide_true, decide_false, Bool.and_self, Bool.true_and, Bool.and_true, Bool.false_and, Bool.and_false, Bool.true_or, Bool.or_true, Bool.false_or, Bool.or_false, Bool.not_true, Bool.not_false, eq_self, e1, e2, hz]
  · skip
    obtain ⟨ans, sz1, us1, f1, w', y', e1, e2, I1⟩ := (op_rows R (xs (6 * k + 1)) true).rnd (U := U) ho hch hs hu
    refine ⟨_, I1, a5, a6, a7, ?_⟩
    rw [bI_t] at e1
    dsimp only at hc e2
    rw [bI_t] at e2
    simp (disch := first | omega | with_reducible assumption | exact cobR | exact bI_01 _ | exact Or.inl rfl | exact Or.inr rfl | (simp (decide := true) only [wid_0, wid_i, wid_l, wid_r, wid_n]; done) | decide | fail) only [s202_1012, s202_1013, s202_1014, s202_1016, s202_1017, s202_1018, s202_1019, s202_1020, s202_1022, s202_1023, s202_1024, s202_1025, s202_1028, s202_1029, s202_1032, s202_1033, s202_1036, s202_1037, s202_1038, s202_1040, s202_1041, s202_1042, s202_1043, s202_1044, s202_1046, s202_1047, s202_1048, s202_1049, s202_1052, s202_1053, s202_1056, s202_1057, s202_1060, s202_1063, Option.bind_some, Option.bind_none, Option.toList_some, Option.toList_none, List.cons_append, List.nil_append, clr_i, clr_r, clr_l, clr_n, nI_add, nsub, pk_mul, nle_F, nle_T, nlt_F, nlt_T, neq_F, nz_F, nz_T, nneg_F, npos_T, npos_lF, npos_lT, nle0_F, m1_neg, m1_pos, m1_z, neq_m1, m1_neq, ↓reduceIte, if_true, if_false, not_true_eq_false, not_false_eq_true, bI_eq0, Bool.true_eq_false, Bool.false_eq_true, true_and, and_true, false_and, and_false, true_or, or_true, false_or, or_false, decide_true, decide_false, Bool.and_self, Bool.true_and, Bool.and_true, Bool.false_and, Bool.and_false, Bool.true_or, Bool.or_true, Bool.false_or, Bool.or_false, Bool.not_true, Bool.not_false, eq_self, e1, e2, hz]
theorem c_row (hL : L ≤ 3072) (hk : 6 * k + 6 ≤ L) : GOAL b L x U k xs 1065 := by
  intro h I a5 a6 a7
  obtain ⟨f, w, y, ch, g, e0, R, ho, hch, hs, hu⟩ := I
  obtain ⟨sz, us, hf⟩ := h
  dsimp only at e0 ho hs hu
  subst e0
  have hc := R.cob9
  by_cases hz : xs (6 * k + 3) = 0
  · skip
    obtain ⟨ans, sz1, us1, f1, w', y', e1, e2, I1⟩ := (op_row R (xs (6 * k + 1)) (xs (6 * k + 2)) false).rnd (U := U) ho hch hs hu
    refine ⟨_, I1, a5, a6, a7, ?_⟩
    rw [bI_f] at e1
    dsimp only at hc e2
    rw [bI_f] at e2
    simp (disch := first | omega | with_reducible assumption | exact cobR | exact bI_01 _ | exact Or.inl rfl | exact Or.inr rfl | (simp (decide := true) only [wid_0, wid_i, wid_l, wid_r, wid_n]; done) | decide | fail) only [s202_1065, s202_1066, s202_1067, s202_1069, s202_1070, s202_1071, s202_1072, s202_1073, s202_1075, s202_1076, s202_1077, s202_1078, s202_1079, s202_1081, s202_1082, s202_1083, s202_1084, s202_1087, s202_1088, s202_1091, s202_1092, s202_1095, s202_1096, s202_1097, s202_1099, s202_1100, s202_1101, s202_1102, s202_1103, s202_1105, s202_1106, s202_1107, s202_1108, s202_1109, s202_1111, s202_1112, s202_1113, s202_1114, s202_1117, s202_1118, s202_1121, s202_1122, s202_1125, s202_1128, Option.bind_some, Option.bind_none, Option.toList_some, Option.toList_none, List.cons_append, List.nil_append, clr_i, clr_r, clr_l, clr_n, nI_add, nsub, pk_mul, nle_F, nle_T, nlt_F, nlt_T, neq_F, nz_F, nz_T, nneg_F, npos_T, npos_lF, npos_lT, nle0_F, m1_neg, m1_pos, m1_z, neq_m1, m1_neq, ↓reduceIte, if_true, if_false, not_true_eq_false, not_false_eq_true, bI_eq0, Bool.true_eq_false, Bool.false_eq_true, true_and, and_true, false_and, and_false, true_or, or_true, false_or, or_false, decide_true, decide_false, Bool.and_self, Bool.true_and, Bool.and_true, Bool.false_and, Bool.and_false, Bool.true_or, Bool.or_true, Bool.false_or, Bool.or_false, Bool.not_true, Bool.not_false, eq_self, e1, e2, hz]
  · skip
    obtain ⟨ans, sz1, us1, f1, w', y', e1, e2, I1⟩ := (op_row R (xs (6 * k + 1)) (xs (6 * k + 2)) true).rnd (U := U) ho hch hs hu
    refine ⟨_, I1, a5, a6, a7, ?_⟩
    rw [bI_t] at e1
    dsimp only at hc e2
    rw [bI_t] at e2
    simp (disch := first | omega | with_reducible assumption | exact cobR | exact bI_01 _ | exact Or.inl rfl | exact Or.inr rfl | (simp (decide := true) only [wid_0, wid_i, wid_l, wid_r, wid_n]; done) | decide | fail) only [s202_1065, s202_1066, s202_1067, s202_1069, s202_1070, s202_1071, s202_1072, s202_1073, s202_1075, s202_1076, s202_1077, s202_1078, s202_1079, s202_1081, s202_1082, s202_1083, s202_1084, s202_1087, s202_1088, s202_1091, s202_1092, s202_1095, s202_1096, s202_1097, s202_1099, s202_1100, s202_1101, s202_1102, s202_1103, s202_1105, s202_1106, s202_1107, s202_1108, s202_1109, s202_1111, s202_1112, s202_1113, s202_1114, s202_1117, s202_1118, s202_1121, s202_1122, s202_1125, s202_1128, Option.bind_some, Option.bind_none, Option.toList_some, Option.toList_none, List.cons_append, List.nil_append, clr_i, clr_r, clr_l, clr_n, nI_add, nsub, pk_mul, nle_F, nle_T, nlt_F, nlt_T, neq_F, nz_F, nz_T, nneg_F, npos_T, npos_lF, npos_lT, nle0_F, m1_neg, m1_pos, m1_z, neq_m1, m1_neq, ↓reduceIte, if_true, if_false, not_true_eq_false, not_false_eq_true, bI_eq0, Bool.true_eq_false, Bool.false_eq_true, true_and, and_true, false_and, and_false, true_or, or_true, false_or, or_false, decide_true, decide_false, Bool.and_self, Bool.true_and, Bool.and_true, Bool.false_and, Bool.and_false, Bool.true_or, Bool.or_true, Bool.false_or, Bool.or_false, Bool.not_true, Bool.not_false, eq_self, e1, e2, hz]
theorem c_apart (hL : L ≤ 3072) (hk : 6 * k + 6 ≤ L) : GOAL b L x U k xs 1130 := by
  intro h I a5 a6 a7
  obtain ⟨f, w, y, ch, g, e0, R, ho, hch, hs, hu⟩ := I
  obtain ⟨sz, us, hf⟩ := h
  dsimp only at e0 ho hs hu
  subst e0
  have hc := R.cob9
  obtain ⟨ans, sz1, us1, f1, w', y', e1, e2, I1⟩ := (op_apart R (xs (6 * k + 1)) (xs (6 * k + 2))).rnd (U := U) ho hch hs hu
  refine ⟨_, I1, a5, a6, a7, ?_⟩
  dsimp only at hc e2
  simp (disch := first | omega | with_reducible assumption | exact cobR | exact bI_01 _ | exact Or.inl rfl | exact Or.inr rfl | (simp (decide := true) only [wid_0, wid_i, wid_l, wid_r, wid_n]; done) | decide | fail) only [s202_1130, s202_1131, s202_1132, s202_1134, s202_1135, s202_1136, s202_1137, s202_1138, s202_1140, s202_1141, s202_1142, s202_1143, s202_1146, s202_1147, s202_1148, s202_1150, s202_1151, s202_1152, s202_1153, s202_1154, s202_1156, s202_1157, s202_1158, s202_1159, s202_1162, s202_1165, Option.bind_some, Option.bind_none, Option.toList_some, Option.toList_none, List.cons_append, List.nil_append, clr_i, clr_r, clr_l, clr_n, nI_add, nsub, pk_mul, nle_F, nle_T, nlt_F, nlt_T, neq_F, nz_F, nz_T, nneg_F, npos_T, npos_lF, npos_lT, nle0_F, m1_neg, m1_pos, m1_z, neq_m1, m1_neq, ↓reduceIte, if_true, if_false, not_true_eq_false, not_false_eq_true, bI_eq0, Bool.true_eq_false, Bool.false_eq_true, true_and, and_true, false_and, and_false, true_or, or_true, false_or, or_false, decide_true, decide_false, Bool.and_self, Bool.true_and, Bool.and_true, Bool.false_and, Bool.and_false, Bool.true_or, Bool.or_true, Bool.false_or, Bool.or_false, Bool.not_true, Bool.not_false, eq_self, e1, e2]
theorem c_keepTerm (hL : L ≤ 3072) (hk : 6 * k + 6 ≤ L) : GOAL b L x U k xs 1167 := by
  intro h I a5 a6 a7
  obtain ⟨f, w, y, ch, g, e0, R, ho, hch, hs, hu⟩ := I
  obtain ⟨sz, us, hf⟩ := h
  dsimp only at e0 ho hs hu
  subst e0
  have hc := R.cob9
  obtain ⟨ans, sz1, us1, f1, w', y', e1, e2, I1⟩ := (op_keepTerm R (xs (6 * k + 1))).rnd (U := U) ho hch hs hu
  refine ⟨_, I1, a5, a6, a7, ?_⟩
  dsimp only at hc e2
  simp (disch := first | omega | with_reducible assumption | exact cobR | exact bI_01 _ | exact Or.inl rfl | exact Or.inr rfl | (simp (decide := true) only [wid_0, wid_i, wid_l, wid_r, wid_n]; done) | decide | fail) only [s202_1167, s202_1168, s202_1169, s202_1171, s202_1172, s202_1173, s202_1174, s202_1177, s202_1178, s202_1179, s202_1181, s202_1182, s202_1183, s202_1184, s202_1187, s202_1190, Option.bind_some, Option.bind_none, Option.toList_some, Option.toList_none, List.cons_append, List.nil_append, clr_i, clr_r, clr_l, clr_n, nI_add, nsub, pk_mul, nle_F, nle_T, nlt_F, nlt_T, neq_F, nz_F, nz_T, nneg_F, npos_T, npos_lF, npos_lT, nle0_F, m1_neg, m1_pos, m1_z, neq_m1, m1_neq, ↓reduceIte, if_true, if_false, not_true_eq_false, not_false_eq_true, bI_eq0, Bool.true_eq_false, Bool.false_eq_true, true_and, and_true, false_and, and_false, true_or, or_true, false_or, or_false, decide_true, decide_false, Bool.and_self, Bool.true_and, Bool.and_true, Bool.false_and, Bool.and_false, Bool.true_or, Bool.or_true, Bool.false_or, Bool.or_false, Bool.not_true, Bool.not_false, eq_self, e1, e2]
theorem c_fresh (hL : L ≤ 3072) (hk : 6 * k + 6 ≤ L) : GOAL b L x U k xs 1192 := by
  intro h I a5 a6 a7
  obtain ⟨f, w, y, ch, g, e0, R, ho, hch, hs, hu⟩ := I
  obtain ⟨sz, us, hf⟩ := h
  dsimp only at e0 ho hs hu
  subst e0
  have hc := R.cob9
  obtain ⟨ans, sz1, us1, f1, w', y', e1, e2, I1⟩ := (op_fresh R (xs (6 * k + 1)) (xs (6 * k + 2))).rnd (U := U) ho hch hs hu
  refine ⟨_, I1, a5, a6, a7, ?_⟩
  dsimp only at hc e2
  simp (disch := first | omega | with_reducible assumption | exact cobR | exact bI_01 _ | exact Or.inl rfl | exact Or.inr rfl | (simp (decide := true) only [wid_0, wid_i, wid_l, wid_r, wid_n]; done) | decide | fail) only [s202_1192, s202_1193, s202_1194, s202_1196, s202_1197, s202_1198, s202_1199, s202_1200, s202_1202, s202_1203, s202_1204, s202_1205, s202_1208, s202_1209, s202_1210, s202_1212, s202_1213, s202_1214, s202_1215, s202_1216, s202_1218, s202_1219, s202_1220, s202_1221, s202_1224, s202_1227, Option.bind_some, Option.bind_none, Option.toList_some, Option.toList_none, List.cons_append, List.nil_append, clr_i, clr_r, clr_l, clr_n, nI_add, nsub, pk_mul, nle_F, nle_T, nlt_F, nlt_T, neq_F, nz_F, nz_T, nneg_F, npos_T, npos_lF, npos_lT, nle0_F, m1_neg, m1_pos, m1_z, neq_m1, m1_neq, ↓reduceIte, if_true, if_false, not_true_eq_false, not_false_eq_true, bI_eq0, Bool.true_eq_false, Bool.false_eq_true, true_and, and_true, false_and, and_false, true_or, or_true, false_or, or_false, decide_true, decide_false, Bool.and_self, Bool.true_and, Bool.and_true, Bool.false_and, Bool.and_false, Bool.true_or, Bool.or_true, Bool.false_or, Bool.or_false, Bool.not_true, Bool.not_false, eq_self, e1, e2]
theorem c_news (hL : L ≤ 3072) (hk : 6 * k + 6 ≤ L) : GOAL b L x U k xs 1229 := by
  intro h I a5 a6 a7
  obtain ⟨f, w, y, ch, g, e0, R, ho, hch, hs, hu⟩ := I
  obtain ⟨sz, us, hf⟩ := h
  dsimp only at e0 ho hs hu
  subst e0
  have hc := R.cob9
  obtain ⟨ans, sz1, us1, f1, w', y', e1, e2, I1⟩ := (op_news R (xs (6 * k + 1)) (xs (6 * k + 2))).rnd (U := U) ho hch hs hu
  refine ⟨_, I1, a5, a6, a7, ?_⟩
  dsimp only at hc e2
  simp (disch := first | omega | with_reducible assumption | exact cobR | exact bI_01 _ | exact Or.inl rfl | exact Or.inr rfl | (simp (decide := true) only [wid_0, wid_i, wid_l, wid_r, wid_n]; done) | decide | fail) only [s202_1229, s202_1230, s202_1231, s202_1233, s202_1234, s202_1235, s202_1236, s202_1237, s202_1239, s202_1240, s202_1241, s202_1242, s202_1245, s202_1246, s202_1247, s202_1249, s202_1250, s202_1251, s202_1252, s202_1253, s202_1255, s202_1256, s202_1257, s202_1258, s202_1261, s202_1264, Option.bind_some, Option.bind_none, Option.toList_some, Option.toList_none, List.cons_append, List.nil_append, clr_i, clr_r, clr_l, clr_n, nI_add, nsub, pk_mul, nle_F, nle_T, nlt_F, nlt_T, neq_F, nz_F, nz_T, nneg_F, npos_T, npos_lF, npos_lT, nle0_F, m1_neg, m1_pos, m1_z, neq_m1, m1_neq, ↓reduceIte, if_true, if_false, not_true_eq_false, not_false_eq_true, bI_eq0, Bool.true_eq_false, Bool.false_eq_true, true_and, and_true, false_and, and_false, true_or, or_true, false_or, or_false, decide_true, decide_false, Bool.and_self, Bool.true_and, Bool.and_true, Bool.false_and, Bool.and_false, Bool.true_or, Bool.or_true, Bool.false_or, Bool.or_false, Bool.not_true, Bool.not_false, eq_self, e1, e2]
theorem c_forget (hL : L ≤ 3072) (hk : 6 * k + 6 ≤ L) : GOAL b L x U k xs 1266 := by
  intro h I a5 a6 a7
  obtain ⟨f, w, y, ch, g, e0, R, ho, hch, hs, hu⟩ := I
  obtain ⟨sz, us, hf⟩ := h
  dsimp only at e0 ho hs hu
  subst e0
  have hc := R.cob9
  obtain ⟨ans, sz1, us1, f1, w', y', e1, e2, I1⟩ := (op_forget R).rnd (U := U) ho hch hs hu
  refine ⟨_, I1, a5, a6, a7, ?_⟩
  dsimp only at hc e2
  simp (disch := first | omega | with_reducible assumption | exact cobR | exact bI_01 _ | exact Or.inl rfl | exact Or.inr rfl | (simp (decide := true) only [wid_0, wid_i, wid_l, wid_r, wid_n]; done) | decide | fail) only [s202_1266, s202_1267, s202_1270, s202_1271, s202_1274, s202_1277, Option.bind_some, Option.bind_none, Option.toList_some, Option.toList_none, List.cons_append, List.nil_append, clr_i, clr_r, clr_l, clr_n, nI_add, nsub, pk_mul, nle_F, nle_T, nlt_F, nlt_T, neq_F, nz_F, nz_T, nneg_F, npos_T, npos_lF, npos_lT, nle0_F, m1_neg, m1_pos, m1_z, neq_m1, m1_neq, ↓reduceIte, if_true, if_false, not_true_eq_false, not_false_eq_true, bI_eq0, Bool.true_eq_false, Bool.false_eq_true, true_and, and_true, false_and, and_false, true_or, or_true, false_or, or_false, decide_true, decide_false, Bool.and_self, Bool.true_and, Bool.and_true, Bool.false_and, Bool.and_false, Bool.true_or, Bool.or_true, Bool.false_or, Bool.or_false, Bool.not_true, Bool.not_false, eq_self, e1, e2]
theorem c_count (hL : L ≤ 3072) (hk : 6 * k + 6 ≤ L) : GOAL b L x U k xs 1279 := by
  intro h I a5 a6 a7
  obtain ⟨f, w, y, ch, g, e0, R, ho, hch, hs, hu⟩ := I
  obtain ⟨sz, us, hf⟩ := h
  dsimp only at e0 ho hs hu
  subst e0
  have hc := R.cob9
  obtain ⟨ans, sz1, us1, f1, w', y', e1, e2, I1⟩ := (op_count R (xs (6 * k + 1))).rnd (U := U) ho hch hs hu
  refine ⟨_, I1, a5, a6, a7, ?_⟩
  dsimp only at hc e2
  simp (disch := first | omega | with_reducible assumption | exact cobR | exact bI_01 _ | exact Or.inl rfl | exact Or.inr rfl | (simp (decide := true) only [wid_0, wid_i, wid_l, wid_r, wid_n]; done) | decide | fail) only [s202_1279, s202_1280, s202_1281, s202_1283, s202_1284, s202_1285, s202_1286, s202_1289, s202_1290, s202_1291, s202_1293, s202_1294, s202_1295, s202_1296, s202_1299, s202_1302, Option.bind_some, Option.bind_none, Option.toList_some, Option.toList_none, List.cons_append, List.nil_append, clr_i, clr_r, clr_l, clr_n, nI_add, nsub, pk_mul, nle_F, nle_T, nlt_F, nlt_T, neq_F, nz_F, nz_T, nneg_F, npos_T, npos_lF, npos_lT, nle0_F, m1_neg, m1_pos, m1_z, neq_m1, m1_neq, ↓reduceIte, if_true, if_false, not_true_eq_false, not_false_eq_true, bI_eq0, Bool.true_eq_false, Bool.false_eq_true, true_and, and_true, false_and, and_false, true_or, or_true, false_or, or_false, decide_true, decide_false, Bool.and_self, Bool.true_and, Bool.and_true, Bool.false_and, Bool.and_false, Bool.true_or, Bool.or_true, Bool.false_or, Bool.or_false, Bool.not_true, Bool.not_false, eq_self, e1, e2]
theorem c_keep (hL : L ≤ 3072) (hk : 6 * k + 6 ≤ L) : GOAL b L x U k xs 1304 := by
  intro h I a5 a6 a7
  obtain ⟨f, w, y, ch, g, e0, R, ho, hch, hs, hu⟩ := I
  obtain ⟨sz, us, hf⟩ := h
  dsimp only at e0 ho hs hu
  subst e0
  have hc := R.cob9
  obtain ⟨ans, sz1, us1, f1, w', y', e1, e2, I1⟩ := (op_keep R (xs (6 * k + 1)) (xs (6 * k + 2)) (xs (6 * k + 3))).rnd (U := U) ho hch hs hu
  refine ⟨_, I1, a5, a6, a7, ?_⟩
  dsimp only at hc e2
  simp (disch := first | omega | with_reducible assumption | exact cobR | exact bI_01 _ | exact Or.inl rfl | exact Or.inr rfl | (simp (decide := true) only [wid_0, wid_i, wid_l, wid_r, wid_n]; done) | decide | fail) only [s202_1304, s202_1305, s202_1306, s202_1308, s202_1309, s202_1310, s202_1311, s202_1312, s202_1314, s202_1315, s202_1316, s202_1317, s202_1318, s202_1320, s202_1321, s202_1322, s202_1323, s202_1326, s202_1327, s202_1328, s202_1330, s202_1331, s202_1332, s202_1333, s202_1334, s202_1336, s202_1337, s202_1338, s202_1339, s202_1340, s202_1342, s202_1343, s202_1344, s202_1345, s202_1348, s202_1351, Option.bind_some, Option.bind_none, Option.toList_some, Option.toList_none, List.cons_append, List.nil_append, clr_i, clr_r, clr_l, clr_n, nI_add, nsub, pk_mul, nle_F, nle_T, nlt_F, nlt_T, neq_F, nz_F, nz_T, nneg_F, npos_T, npos_lF, npos_lT, nle0_F, m1_neg, m1_pos, m1_z, neq_m1, m1_neq, ↓reduceIte, if_true, if_false, not_true_eq_false, not_false_eq_true, bI_eq0, Bool.true_eq_false, Bool.false_eq_true, true_and, and_true, false_and, and_false, true_or, or_true, false_or, or_false, decide_true, decide_false, Bool.and_self, Bool.true_and, Bool.and_true, Bool.false_and, Bool.and_false, Bool.true_or, Bool.or_true, Bool.false_or, Bool.or_false, Bool.not_true, Bool.not_false, eq_self, e1, e2]
theorem c_make (hL : L ≤ 3072) (hk : 6 * k + 6 ≤ L) : GOAL b L x U k xs 1353 := by
  intro h I a5 a6 a7
  obtain ⟨f, w, y, ch, g, e0, R, ho, hch, hs, hu⟩ := I
  obtain ⟨sz, us, hf⟩ := h
  dsimp only at e0 ho hs hu
  subst e0
  have hc := R.cob9
  obtain ⟨ans, sz1, us1, f1, w', y', e1, e2, I1⟩ := (op_make R (xs (6 * k + 1)) (xs (6 * k + 2)) (xs (6 * k + 3))).rnd (U := U) ho hch hs hu
  refine ⟨_, I1, a5, a6, a7, ?_⟩
  dsimp only at hc e2
  simp (disch := first | omega | with_reducible assumption | exact cobR | exact bI_01 _ | exact Or.inl rfl | exact Or.inr rfl | (simp (decide := true) only [wid_0, wid_i, wid_l, wid_r, wid_n]; done) | decide | fail) only [s202_1353, s202_1354, s202_1355, s202_1357, s202_1358, s202_1359, s202_1360, s202_1361, s202_1363, s202_1364, s202_1365, s202_1366, s202_1367, s202_1369, s202_1370, s202_1371, s202_1372, s202_1375, s202_1376, s202_1377, s202_1379, s202_1380, s202_1381, s202_1382, s202_1383, s202_1385, s202_1386, s202_1387, s202_1388, s202_1389, s202_1391, s202_1392, s202_1393, s202_1394, s202_1397, s202_1400, Option.bind_some, Option.bind_none, Option.toList_some, Option.toList_none, List.cons_append, List.nil_append, clr_i, clr_r, clr_l, clr_n, nI_add, nsub, pk_mul, nle_F, nle_T, nlt_F, nlt_T, neq_F, nz_F, nz_T, nneg_F, npos_T, npos_lF, npos_lT, nle0_F, m1_neg, m1_pos, m1_z, neq_m1, m1_neq, ↓reduceIte, if_true, if_false, not_true_eq_false, not_false_eq_true, bI_eq0, Bool.true_eq_false, Bool.false_eq_true, true_and, and_true, false_and, and_false, true_or, or_true, false_or, or_false, decide_true, decide_false, Bool.and_self, Bool.true_and, Bool.and_true, Bool.false_and, Bool.and_false, Bool.true_or, Bool.or_true, Bool.false_or, Bool.or_false, Bool.not_true, Bool.not_false, eq_self, e1, e2]
theorem c_copy (hL : L ≤ 3072) (hk : 6 * k + 6 ≤ L) : GOAL b L x U k xs 1469 := by
  intro h I a5 a6 a7
  obtain ⟨f, w, y, ch, g, e0, R, ho, hch, hs, hu⟩ := I
  obtain ⟨sz, us, hf⟩ := h
  dsimp only at e0 ho hs hu
  subst e0
  have hc := R.cob9
  obtain ⟨ans, sz1, us1, f1, w', y', e1, e2, I1⟩ := (op_copy R (xs (6 * k + 1)) (xs (6 * k + 2)) (xs (6 * k + 3)) (xs (6 * k + 4)) (xs (6 * k + 5))).rnd (U := U) ho hch hs hu
  refine ⟨_, I1, a5, a6, a7, ?_⟩
  dsimp only at hc e2
  simp (disch := first | omega | with_reducible assumption | exact cobR | exact bI_01 _ | exact Or.inl rfl | exact Or.inr rfl | (simp (decide := true) only [wid_0, wid_i, wid_l, wid_r, wid_n]; done) | decide | fail) only [s202_1469, s202_1470, s202_1471, s202_1473, s202_1474, s202_1475, s202_1476, s202_1477, s202_1479, s202_1480, s202_1481, s202_1482, s202_1483, s202_1485, s202_1486, s202_1487, s202_1488, s202_1489, s202_1491, s202_1492, s202_1493, s202_1494, s202_1495, s202_1497, s202_1498, s202_1499, s202_1500, s202_1503, s202_1504, s202_1505, s202_1507, s202_1508, s202_1509, s202_1510, s202_1511, s202_1513, s202_1514, s202_1515, s202_1516, s202_1517, s202_1519, s202_1520, s202_1521, s202_1522, s202_1523, s202_1525, s202_1526, s202_1527, s202_1528, s202_1529, s202_1531, s202_1532, s202_1533, s202_1534, s202_1537, s202_1540, Option.bind_some, Option.bind_none, Option.toList_some, Option.toList_none, List.cons_append, List.nil_append, clr_i, clr_r, clr_l, clr_n, nI_add, nsub, pk_mul, nle_F, nle_T, nlt_F, nlt_T, neq_F, nz_F, nz_T, nneg_F, npos_T, npos_lF, npos_lT, nle0_F, m1_neg, m1_pos, m1_z, neq_m1, m1_neq, ↓reduceIte, if_true, if_false, not_true_eq_false, not_false_eq_true, bI_eq0, Bool.true_eq_false, Bool.false_eq_true, true_and, and_true, false_and, and_false, true_or, or_true, false_or, or_false, decide_true, decide_false, Bool.and_self, Bool.true_and, Bool.and_true, Bool.false_and, Bool.and_false, Bool.true_or, Bool.or_true, Bool.false_or, Bool.or_false, Bool.not_true, Bool.not_false, eq_self, e1, e2]
theorem c_weight (hL : L ≤ 3072) (hk : 6 * k + 6 ≤ L) : GOAL b L x U k xs 1542 := by
  intro h I a5 a6 a7
  obtain ⟨f, w, y, ch, g, e0, R, ho, hch, hs, hu⟩ := I
  obtain ⟨sz, us, hf⟩ := h
  dsimp only at e0 ho hs hu
  subst e0
  have hc := R.cob9
  obtain ⟨ans, sz1, us1, f1, w', y', e1, e2, I1⟩ := (op_weight R (xs (6 * k + 1))).rnd (U := U) ho hch hs hu
  refine ⟨_, I1, a5, a6, a7, ?_⟩
  dsimp only at hc e2
  simp (disch := first | omega | with_reducible assumption | exact cobR | exact bI_01 _ | exact Or.inl rfl | exact Or.inr rfl | (simp (decide := true) only [wid_0, wid_i, wid_l, wid_r, wid_n]; done) | decide | fail) only [s202_1542, s202_1543, s202_1544, s202_1546, s202_1547, s202_1548, s202_1549, s202_1552, s202_1553, s202_1554, s202_1556, s202_1557, s202_1558, s202_1559, s202_1562, s202_1565, Option.bind_some, Option.bind_none, Option.toList_some, Option.toList_none, List.cons_append, List.nil_append, clr_i, clr_r, clr_l, clr_n, nI_add, nsub, pk_mul, nle_F, nle_T, nlt_F, nlt_T, neq_F, nz_F, nz_T, nneg_F, npos_T, npos_lF, npos_lT, nle0_F, m1_neg, m1_pos, m1_z, neq_m1, m1_neq, ↓reduceIte, if_true, if_false, not_true_eq_false, not_false_eq_true, bI_eq0, Bool.true_eq_false, Bool.false_eq_true, true_and, and_true, false_and, and_false, true_or, or_true, false_or, or_false, decide_true, decide_false, Bool.and_self, Bool.true_and, Bool.and_true, Bool.false_and, Bool.and_false, Bool.true_or, Bool.or_true, Bool.false_or, Bool.or_false, Bool.not_true, Bool.not_false, eq_self, e1, e2]
end CAS
