/-! the class: a state comes; shapes told -/
def coA (c : WD) (n : Nat) (o : Option Nat) : WD := match o with
  | some i => foW c n i
  | none => c
def coB (c : WD) (n : Nat) (a b : Option Nat) : WD := coA (coA (beW c n (enc a) (enc b)) n a) n b
def coW (c : WD) (n ch : Nat) (a b : Option Nat) : WD := wU (wU (coB c n a b) 1 2 (nI (ch + 1))) 1 1 (nI (n + 1))
theorem foW_o {c : WD} {i g k : Nat} (q : Nat) (h : k < 8 + 4 * i ∨ 11 + 4 * i < k) : foW c i g k q = c k q := by
  unfold foW
  rw [wT_off _ _ _ _ (by omega)]
  unfold foB
  rw [foB_o (by omega)]
  unfold foA
  rw [wU_off (by omega), wU_off (by omega)]
theorem beW_o {c : WD} {i k : Nat} {a b : Int32} (q : Nat) (h : k ≠ 8 + 4 * i ∧ k ≠ 11 + 4 * i) : beW c i a b k q = c k q := by
  unfold beW
  rw [wT_off _ _ _ _ h.2, wU_off h.1, wU_off h.1, wU_off h.1, wU_off h.1, wU_off h.1, wU_off h.1]
theorem coA_o {c : WD} {i k : Nat} {o : Option Nat} (q : Nat) (h : k < 8 + 4 * i ∨ 11 + 4 * i < k) : coA c i o k q = c k q := by
  cases o with
  | none => rfl
  | some g => exact foW_o q h
theorem coB_o {c : WD} {i k : Nat} {a b : Option Nat} (q : Nat) (h : k < 8 + 4 * i ∨ 11 + 4 * i < k) : coB c i a b k q = c k q := by
  unfold coB
  rw [coA_o q h, coA_o q h, beW_o q (by omega)]
/-- the bytes are small -/
def by7 (c : WD) (n : Nat) : Prop := ∀ s, s < n → ∀ p, p < 16 → (∃ q, q < 128 ∧ c (9 + 4 * s) p = nI q) ∧ (∃ q, q < 128 ∧ c (10 + 4 * s) p = nI q)
def tsF (c : WD) (i : Nat) : Nat → Int32 := fun p => if tb (c (8 + 4 * i) 5) p = true then c (10 + 4 * i) p else -1
theorem nar8m : vp_nar .byte (-1) = -1 := by decide +kernel
section KI
variable {f : Hf} {x d sz us n : Nat} {c : WD} {y : Nat → Int64} {v : VD} {tm : Nat → Option Nat}
theorem K_come {ch : Nat} {a b : Option Nat} (hn : c 1 1 = nI n) (hn30 : n < 30) (hc : c 1 2 = nI ch) (ha : ∀ i, a = some i → i < n) (hb : ∀ i, b = some i → i < n) (h7 : by7 c n) : Ev (d + 4) 27 0 [some (.ref (x + 1)), some (.int (enc a)), some (.int (enc b)), none] [] (sz, us, emC f x c y v tm) = some (some (.int (nI n)), (sz, us, emC f x (coW c n ch a b) y v tm)) := by
  unfold coW
  have o1 : coB c n a b 1 1 = nI n := by rw [coB_o _ (by omega)]; exact hn
  have o2 : coB c n a b 1 2 = nI ch := by rw [coB_o _ (by omega)]; exact hc
  have o3 : ∀ z, wU (coB c n a b) 1 2 z 1 1 = nI n := fun z => by rw [wU_ap, if_neg (by omega)]; exact o1
  have fin : Ev (d + 4) 27 46 [some (.ref (x + 1)), some (.int (enc a)), some (.int (enc b)), some (.ref (x + (8 + 4 * n)))] [] (sz, us, emC f x (coB c n a b) y v tm) = some (some (.int (nI n)), (sz, us, emC f x (wU (wU (coB c n a b) 1 2 (nI (ch + 1))) 1 1 (nI (n + 1))) y v tm)) := by
    generalize coB c n a b = c1 at *
    simp (maxSteps := 2000000) (disch := first | omega | with_reducible assumption | exact cobP | exact cobX | exact cobS (by omega) | exact bI_01 _ | exact Or.inl rfl | exact Or.inr rfl | (simp (decide := true) only [wid_0, wid_i, wid_l, wid_r, wid_n]; done) | decide | fail) only [s27_46, s27_47, s27_48, s27_51, s27_52, s27_53, s27_56, s27_57, s27_58, s27_61, s27_62, s27_63, s27_64, s27_67 (st := []), Option.bind_some, Option.bind_none, Option.toList_some, Option.toList_none, List.cons_append, List.nil_append, clr_i, clr_r, clr_l, clr_n, nI_add, nsub, pk_mul, nle_F, nle_T, nlt_F, nlt_T, neq_F, nz_F, nz_T, nneg_F, npos_T, npos_lF, npos_lT, nle0_F, m1_neg, m1_pos, m1_z, neq_m1, m1_neq, ↓reduceIte, if_true, if_false, not_true_eq_false, not_false_eq_true, bI_eq0, Bool.true_eq_false, Bool.false_eq_true, true_and, and_true, false_and, and_false, true_or, or_true, false_or, or_false, decide_true, decide_false, Bool.and_self, Bool.true_and, Bool.and_true, Bool.false_and, Bool.and_false, Bool.true_or, Bool.or_true, Bool.false_or, Bool.or_false, Bool.not_true, Bool.not_false, g_3_11_2, g_3_35_2, g_3_47_2, p_3_47_2, p_3_35_2, h_X3, o1, o2, o3]
  unfold coB at fin
  have st : ∀ c1 : WD, c1 1 1 = nI n → ∀ o, (∀ i, o = some i → i < n) → by7 c1 n → ∀ d, (∀ i, o = some i → Ev (d + 3) 26 0 [some (.ref (x + (8 + 4 * n))), some (.ref (x + (8 + 4 * i))), some (.int (nI i)), none] [] (sz, us, emC f x c1 y v tm) = some (none, (sz, us, emC f x (coA c1 n o) y v tm))) := by
    intro c1 h1 o ho h71 d i hi
    subst hi
    have := ho i rfl
    exact K_follow (by omega) (by omega) (by omega) (fun p hp => (h71 i this p hp).1) (fun p hp => (h71 i this p hp).2)
  have b1 : beW c n (enc a) (enc b) 1 1 = nI n := by rw [beW_o _ (by omega)]; exact hn
  have b7 : by7 (beW c n (enc a) (enc b)) n := fun s hs p hp => by rw [beW_o _ (by omega), beW_o _ (by omega)]; exact h7 s hs p hp
  have fa := st _ b1 a ha b7
  have c1 : coA (beW c n (enc a) (enc b)) n a 1 1 = nI n := by rw [coA_o _ (by omega)]; exact b1
  have c7 : by7 (coA (beW c n (enc a) (enc b)) n a) n := fun s hs p hp => by rw [coA_o _ (by omega), coA_o _ (by omega)]; exact b7 s hs p hp
  have fb := st _ c1 b hb c7
  refine Eq.trans ?_ fin
  have p1 : Ev (d + 4) 27 0 [some (.ref (x + 1)), some (.int (enc a)), some (.int (enc b)), none] [] (sz, us, emC f x c y v tm) = Ev (d + 4) 27 16 [some (.ref (x + 1)), some (.int (enc a)), some (.int (enc b)), some (.ref (x + (8 + 4 * n)))] [] (sz, us, emC f x (beW c n (enc a) (enc b)) y v tm) := by
    simp (maxSteps := 2000000) (disch := first | omega | with_reducible assumption | exact cobP | exact cobX | exact cobS (by omega) | exact bI_01 _ | exact Or.inl rfl | exact Or.inr rfl | (simp (decide := true) only [wid_0, wid_i, wid_l, wid_r, wid_n]; done) | decide | fail) only [s27_0, s27_1, s27_4, s27_5, s27_8, s27_9, s27_10, s27_11, s27_12, s27_13, Option.bind_some, Option.bind_none, Option.toList_some, Option.toList_none, List.cons_append, List.nil_append, clr_i, clr_r, clr_l, clr_n, nI_add, nsub, pk_mul, nle_F, nle_T, nlt_F, nlt_T, neq_F, nz_F, nz_T, nneg_F, npos_T, npos_lF, npos_lT, nle0_F, m1_neg, m1_pos, m1_z, neq_m1, m1_neq, ↓reduceIte, if_true, if_false, not_true_eq_false, not_false_eq_true, bI_eq0, Bool.true_eq_false, Bool.false_eq_true, true_and, and_true, false_and, and_false, true_or, or_true, false_or, or_false, decide_true, decide_false, Bool.and_self, Bool.true_and, Bool.and_true, Bool.false_and, Bool.and_false, Bool.true_or, Bool.or_true, Bool.false_or, Bool.or_false, Bool.not_true, Bool.not_false, g_3_11_2, g_3_35_2, g_3_47_2, p_3_47_2, p_3_35_2, aC_states, vrf_s, K_begin, hn]
  rw [p1]
  generalize beW c n (enc a) (enc b) = c2 at *
  have p2 : Ev (d + 4) 27 16 [some (.ref (x + 1)), some (.int (enc a)), some (.int (enc b)), some (.ref (x + (8 + 4 * n)))] [] (sz, us, emC f x c2 y v tm) = Ev (d + 4) 27 31 [some (.ref (x + 1)), some (.int (enc a)), some (.int (enc b)), some (.ref (x + (8 + 4 * n)))] [] (sz, us, emC f x (coA c2 n a) y v tm) := by
    cases a with
    | none =>
      have e : enc none = -1 := rfl
      rw [e]
      simp (maxSteps := 2000000) (disch := first | omega | with_reducible assumption | exact cobP | exact cobX | exact cobS (by omega) | exact bI_01 _ | exact Or.inl rfl | exact Or.inr rfl | (simp (decide := true) only [wid_0, wid_i, wid_l, wid_r, wid_n]; done) | decide | fail) only [s27_16, s27_17, s27_20, s27_21, s27_22, s27_25, s27_26, s27_27, s27_28, Option.bind_some, Option.bind_none, Option.toList_some, Option.toList_none, List.cons_append, List.nil_append, clr_i, clr_r, clr_l, clr_n, nI_add, nsub, pk_mul, nle_F, nle_T, nlt_F, nlt_T, neq_F, nz_F, nz_T, nneg_F, npos_T, npos_lF, npos_lT, nle0_F, m1_neg, m1_pos, m1_z, neq_m1, m1_neq, ↓reduceIte, if_true, if_false, not_true_eq_false, not_false_eq_true, bI_eq0, Bool.true_eq_false, Bool.false_eq_true, true_and, and_true, false_and, and_false, true_or, or_true, false_or, or_false, decide_true, decide_false, Bool.and_self, Bool.true_and, Bool.and_true, Bool.false_and, Bool.and_false, Bool.true_or, Bool.or_true, Bool.false_or, Bool.or_false, Bool.not_true, Bool.not_false, coA]
    | some i =>
      have hi := ha i rfl
      have e : enc (some i) = nI i := rfl
      have fa' := fun d => fa d i rfl
      rw [e]
      simp (maxSteps := 2000000) (disch := first | omega | with_reducible assumption | exact cobP | exact cobX | exact cobS (by omega) | exact bI_01 _ | exact Or.inl rfl | exact Or.inr rfl | (simp (decide := true) only [wid_0, wid_i, wid_l, wid_r, wid_n]; done) | decide | fail) only [s27_16, s27_17, s27_20, s27_21, s27_22, s27_25, s27_26, s27_27, s27_28, Option.bind_some, Option.bind_none, Option.toList_some, Option.toList_none, List.cons_append, List.nil_append, clr_i, clr_r, clr_l, clr_n, nI_add, nsub, pk_mul, nle_F, nle_T, nlt_F, nlt_T, neq_F, nz_F, nz_T, nneg_F, npos_T, npos_lF, npos_lT, nle0_F, m1_neg, m1_pos, m1_z, neq_m1, m1_neq, ↓reduceIte, if_true, if_false, not_true_eq_false, not_false_eq_true, bI_eq0, Bool.true_eq_false, Bool.false_eq_true, true_and, and_true, false_and, and_false, true_or, or_true, false_or, or_false, decide_true, decide_false, Bool.and_self, Bool.true_and, Bool.and_true, Bool.false_and, Bool.and_false, Bool.true_or, Bool.or_true, Bool.false_or, Bool.or_false, Bool.not_true, Bool.not_false, g_3_11_2, g_3_35_2, g_3_47_2, p_3_47_2, p_3_35_2, aC_states, vrf_s, fa']
  rw [p2]
  generalize coA c2 n a = c3 at *
  cases b with
  | none =>
    have e : enc none = -1 := rfl
    rw [e]
    simp (maxSteps := 2000000) (disch := first | omega | with_reducible assumption | exact cobP | exact cobX | exact cobS (by omega) | exact bI_01 _ | exact Or.inl rfl | exact Or.inr rfl | (simp (decide := true) only [wid_0, wid_i, wid_l, wid_r, wid_n]; done) | decide | fail) only [s27_31, s27_32, s27_35, s27_36, s27_37, s27_40, s27_41, s27_42, s27_43, Option.bind_some, Option.bind_none, Option.toList_some, Option.toList_none, List.cons_append, List.nil_append, clr_i, clr_r, clr_l, clr_n, nI_add, nsub, pk_mul, nle_F, nle_T, nlt_F, nlt_T, neq_F, nz_F, nz_T, nneg_F, npos_T, npos_lF, npos_lT, nle0_F, m1_neg, m1_pos, m1_z, neq_m1, m1_neq, ↓reduceIte, if_true, if_false, not_true_eq_false, not_false_eq_true, bI_eq0, Bool.true_eq_false, Bool.false_eq_true, true_and, and_true, false_and, and_false, true_or, or_true, false_or, or_false, decide_true, decide_false, Bool.and_self, Bool.true_and, Bool.and_true, Bool.false_and, Bool.and_false, Bool.true_or, Bool.or_true, Bool.false_or, Bool.or_false, Bool.not_true, Bool.not_false, coA]
  | some i =>
    have hi := hb i rfl
    have e : enc (some i) = nI i := rfl
    have fb' := fun d => fb d i rfl
    rw [e]
    simp (maxSteps := 2000000) (disch := first | omega | with_reducible assumption | exact cobP | exact cobX | exact cobS (by omega) | exact bI_01 _ | exact Or.inl rfl | exact Or.inr rfl | (simp (decide := true) only [wid_0, wid_i, wid_l, wid_r, wid_n]; done) | decide | fail) only [s27_31, s27_32, s27_35, s27_36, s27_37, s27_40, s27_41, s27_42, s27_43, Option.bind_some, Option.bind_none, Option.toList_some, Option.toList_none, List.cons_append, List.nil_append, clr_i, clr_r, clr_l, clr_n, nI_add, nsub, pk_mul, nle_F, nle_T, nlt_F, nlt_T, neq_F, nz_F, nz_T, nneg_F, npos_T, npos_lF, npos_lT, nle0_F, m1_neg, m1_pos, m1_z, neq_m1, m1_neq, ↓reduceIte, if_true, if_false, not_true_eq_false, not_false_eq_true, bI_eq0, Bool.true_eq_false, Bool.false_eq_true, true_and, and_true, false_and, and_false, true_or, or_true, false_or, or_false, decide_true, decide_false, Bool.and_self, Bool.true_and, Bool.and_true, Bool.false_and, Bool.and_false, Bool.true_or, Bool.or_true, Bool.false_or, Bool.or_false, Bool.not_true, Bool.not_false, g_3_11_2, g_3_35_2, g_3_47_2, p_3_47_2, p_3_35_2, aC_states, vrf_s, fb']
theorem emC_hup {a : Nat} {e : PE} (h : x + 154 ≤ a) : hup (emC f x c y v tm) a e = emC (hup f a e) x c y v tm := by
  funext b
  show (if b = a then some e else if x ≤ b ∧ b < x + 154 then some (cce x c y v tm (b - x)) else f b) = if x ≤ b ∧ b < x + 154 then some (cce x c y v tm (b - x)) else (if b = a then some e else f b)
  by_cases q : b = a
  · subst q
    rw [if_pos rfl, if_neg (by omega), if_pos rfl]
  · rw [if_neg q, if_neg q]
theorem hup_hup {g : Hf} {a : Nat} {e e' : PE} : hup (hup g a e) a e' = hup g a e' := by
  funext b
  unfold hup
  split <;> rfl
theorem hup_at {g : Hf} {a : Nat} {e : PE} : hup g a e a = some e := if_pos rfl
theorem hup_of {g : Hf} {a b : Nat} {e : PE} (h : b ≠ a) : hup g a e b = g b := if_neg h
theorem K_tellShapes {i : Nat} (hi : i < 30) (hsz : x + 154 ≤ sz) (h7 : ∀ p, p < 16 → ∃ q, q < 128 ∧ c (10 + 4 * i) p = nI q) : Ev (d + 2) 80 0 [some (.ref (x + (8 + 4 * i))), none, none] [] (sz, us, emC f x c y v tm) = some (some (.ref sz), (sz + 1, us + 16, emC (hup f sz (.inl (1, 16, .inl (cop (fun _ => 0) (tsF c i) 16)))) x c y v tm)) := by
  have hz : zar 1 16 = .inl (1, 16, .inl (cop (fun _ => 0) (tsF c i) 0)) := by rw [cop_0]; rfl
  have p1 : Ev (d + 2) 80 0 [some (.ref (x + (8 + 4 * i))), none, none] [] (sz, us, emC f x c y v tm) = Ev (d + 2) 80 7 [some (.ref (x + (8 + 4 * i))), some (.ref sz), some (.int (nI 0))] [] (sz + 1, us + 16, emC (hup f sz (.inl (1, 16, .inl (cop (fun _ => 0) (tsF c i) 0)))) x c y v tm) := by
    rw [← hz]
    simp (maxSteps := 2000000) (disch := first | omega | with_reducible assumption | exact cobP | exact cobX | exact cobS (by omega) | exact bI_01 _ | exact Or.inl rfl | exact Or.inr rfl | (simp (decide := true) only [wid_0, wid_i, wid_l, wid_r, wid_n]; done) | decide | fail) only [s80_0, s80_2, s80_4, s80_5, s80_6, Option.bind_some, Option.bind_none, Option.toList_some, Option.toList_none, List.cons_append, List.nil_append, clr_i, clr_r, clr_l, clr_n, nI_add, nsub, pk_mul, nle_F, nle_T, nlt_F, nlt_T, neq_F, nz_F, nz_T, nneg_F, npos_T, npos_lF, npos_lT, nle0_F, m1_neg, m1_pos, m1_z, neq_m1, m1_neq, ↓reduceIte, if_true, if_false, not_true_eq_false, not_false_eq_true, bI_eq0, Bool.true_eq_false, Bool.false_eq_true, true_and, and_true, false_and, and_false, true_or, or_true, false_or, or_false, decide_true, decide_false, Bool.and_self, Bool.true_and, Bool.and_true, Bool.false_and, Bool.and_false, Bool.true_or, Bool.or_true, Bool.false_or, Bool.or_false, Bool.not_true, Bool.not_false, emC_hup]
  rw [p1]
  have key := loopE (fun p => Ev (d + 2) 80 7 [some (.ref (x + (8 + 4 * i))), some (.ref sz), some (.int (nI p))] [] (sz + 1, us + 16, emC (hup f sz (.inl (1, 16, .inl (cop (fun _ => 0) (tsF c i) p)))) x c y v tm)) 16 (fun p hp => by
    show Ev _ _ _ _ _ _ = Ev _ _ _ _ _ _
    rw [← cop_s]
    have wb : ∀ z, wbl (emC (hup f sz (.inl (1, 16, .inl (cop (fun _ => 0) (tsF c i) p)))) x c y v tm sz) (nI p) z = some (.inl (1, 16, .inl (upd (cop (fun _ => 0) (tsF c i) p) p (vp_nar .byte z)))) := fun z => by
      rw [emC_off _ _ _ _ _ _ _ (Or.inr hsz), hup_at]
      unfold wbl
      rw [wal_nI hp (by omega)]
    have hs : ∀ B, hup (emC (hup f sz (.inl (1, 16, .inl (cop (fun _ => 0) (tsF c i) p)))) x c y v tm) sz B = emC (hup f sz B) x c y v tm := fun B => by rw [emC_hup hsz, hup_hup]
    have et : tsF c i p = if tb (c (8 + 4 * i) 5) p = true then c (10 + 4 * i) p else -1 := rfl
    obtain ⟨q, hq, e7⟩ := h7 p hp
    rw [et]
    rw [s80_7]
    cases h : tb (c (8 + 4 * i) 5) p
    · simp (maxSteps := 2000000) (disch := first | omega | with_reducible assumption | exact cobP | exact cobX | exact cobS (by omega) | exact bI_01 _ | exact Or.inl rfl | exact Or.inr rfl | (simp (decide := true) only [wid_0, wid_i, wid_l, wid_r, wid_n]; done) | decide | fail) only [s80_8, s80_10, s80_13, s80_14, s80_15, s80_16, s80_17, s80_20, s80_23, s80_24, s80_27, s80_28, s80_29, s80_32, s80_33, s80_34, s80_37, Option.bind_some, Option.bind_none, Option.toList_some, Option.toList_none, List.cons_append, List.nil_append, clr_i, clr_r, clr_l, clr_n, nI_add, nsub, pk_mul, nle_F, nle_T, nlt_F, nlt_T, neq_F, nz_F, nz_T, nneg_F, npos_T, npos_lF, npos_lT, nle0_F, m1_neg, m1_pos, m1_z, neq_m1, m1_neq, ↓reduceIte, if_true, if_false, not_true_eq_false, not_false_eq_true, bI_eq0, Bool.true_eq_false, Bool.false_eq_true, true_and, and_true, false_and, and_false, true_or, or_true, false_or, or_false, decide_true, decide_false, Bool.and_self, Bool.true_and, Bool.and_true, Bool.false_and, Bool.and_false, Bool.true_or, Bool.or_true, Bool.false_or, Bool.or_false, Bool.not_true, Bool.not_false, g_8_15_7, K_has, h, wb, hs, nar8m]
    · simp (maxSteps := 2000000) (disch := first | omega | with_reducible assumption | exact cobP | exact cobX | exact cobS (by omega) | exact bI_01 _ | exact Or.inl rfl | exact Or.inr rfl | (simp (decide := true) only [wid_0, wid_i, wid_l, wid_r, wid_n]; done) | decide | fail) only [s80_8, s80_10, s80_13, s80_14, s80_15, s80_16, s80_17, s80_20, s80_23, s80_24, s80_27, s80_28, s80_29, s80_32, s80_33, s80_34, s80_37, Option.bind_some, Option.bind_none, Option.toList_some, Option.toList_none, List.cons_append, List.nil_append, clr_i, clr_r, clr_l, clr_n, nI_add, nsub, pk_mul, nle_F, nle_T, nlt_F, nlt_T, neq_F, nz_F, nz_T, nneg_F, npos_T, npos_lF, npos_lT, nle0_F, m1_neg, m1_pos, m1_z, neq_m1, m1_neq, ↓reduceIte, if_true, if_false, not_true_eq_false, not_false_eq_true, bI_eq0, Bool.true_eq_false, Bool.false_eq_true, true_and, and_true, false_and, and_false, true_or, or_true, false_or, or_false, decide_true, decide_false, Bool.and_self, Bool.true_and, Bool.and_true, Bool.false_and, Bool.and_false, Bool.true_or, Bool.or_true, Bool.false_or, Bool.or_false, Bool.not_true, Bool.not_false, g_8_15_7, K_has, a_sh, h, wb, hs, nar8, e7])
  refine key.trans ?_
  show Ev _ _ _ _ _ _ = _
  rw [s80_7]
  simp (maxSteps := 2000000) (disch := first | omega | with_reducible assumption | exact cobP | exact cobX | exact cobS (by omega) | exact bI_01 _ | exact Or.inl rfl | exact Or.inr rfl | (simp (decide := true) only [wid_0, wid_i, wid_l, wid_r, wid_n]; done) | decide | fail) only [s80_8, s80_10, s80_40, s80_41 (st := []), Option.bind_some, Option.bind_none, Option.toList_some, Option.toList_none, List.cons_append, List.nil_append, clr_i, clr_r, clr_l, clr_n, nI_add, nsub, pk_mul, nle_F, nle_T, nlt_F, nlt_T, neq_F, nz_F, nz_T, nneg_F, npos_T, npos_lF, npos_lT, nle0_F, m1_neg, m1_pos, m1_z, neq_m1, m1_neq, ↓reduceIte, if_true, if_false, not_true_eq_false, not_false_eq_true, bI_eq0, Bool.true_eq_false, Bool.false_eq_true, true_and, and_true, false_and, and_false, true_or, or_true, false_or, or_false, decide_true, decide_false, Bool.and_self, Bool.true_and, Bool.and_true, Bool.false_and, Bool.and_false, Bool.true_or, Bool.or_true, Bool.false_or, Bool.or_false, Bool.not_true, Bool.not_false]
end KI
