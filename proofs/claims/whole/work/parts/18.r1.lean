/-! the reference's methods, one by one: answers and what becomes of its world -/
theorem loopA {α : Sort _} {β : Sort _} (F : Nat → β → α) (n : Nat) (h : ∀ k, k < n → ∀ b, ∃ b', F k b = F (k + 1) b') (b : β) : ∃ b', F 0 b = F n b' := by
  induction n generalizing b with
  | zero => exact ⟨b, rfl⟩
  | succ n ih =>
    obtain ⟨b1, h1⟩ := ih (fun k hk => h k (by omega)) b
    obtain ⟨b2, h2⟩ := h n (by omega) b1
    exact ⟨b2, h1.trans h2⟩
theorem loopB {α : Sort _} {β : Sort _} (F : Nat → β → α) (a n : Nat) (ha : a ≤ n) (h : ∀ k, a ≤ k → k < n → ∀ b, ∃ b', F k b = F (k + 1) b') (b : β) : ∃ b', F a b = F n b' := by
  obtain ⟨m, rfl⟩ : ∃ m, n = a + m := ⟨n - a, by omega⟩
  exact loopA (fun k => F (a + k)) m (fun k hk => h (a + k) (by omega) (by omega)) b
def itr {α : Type} (g : Nat → α → α) (a : α) : Nat → α
  | 0 => a
  | n + 1 => g n (itr g a n)
theorem itr_0 {α : Type} (g : Nat → α → α) (a : α) : itr g a 0 = a := rfl
theorem itr_s {α : Type} (g : Nat → α → α) (a : α) (n : Nat) : itr g a (n + 1) = g n (itr g a n) := rfl
theorem bI_nI (b : Bool) : bI b = nI (if b = true then 1 else 0) := by cases b <;> rfl
theorem tb_ushr (s : Int32) : ∀ k, k < 32 → tb ((s.toUInt32 >>> ((nI k).toUInt32 &&& Int32.toUInt32 31)).toInt32) 0 = tb s k := by
  intro k hk
  have h1 : ∀ k, k < 32 → (((nI k).toUInt32 &&& Int32.toUInt32 31).toBitVec % 32).toNat = k := by decide
  have h2 := pk_ushr s (nI k) k (h1 k hk)
  unfold tb
  rw [BitVec.getLsbD, BitVec.getLsbD, h2, Nat.testBit_div_two_pow, Nat.zero_add]
theorem ubit_val (s : Int32) {k : Nat} (hk : k < 32) : (s.toUInt32 >>> ((nI k).toUInt32 &&& Int32.toUInt32 31)).toInt32 &&& nI 1 = bI (tb s k) := by
  rw [← tb_ushr s k hk]
  cases h : tb (s.toUInt32 >>> ((nI k).toUInt32 &&& Int32.toUInt32 31)).toInt32 0 with
  | true => exact one_eq.mpr h
  | false => exact one_ne.mpr h
/-- how many of the first k bits are set -/
def cnt (s : Int32) (k : Nat) : Nat := itr (fun j n => n + if tb s j = true then 1 else 0) 0 k
theorem cnt_le (s : Int32) (k : Nat) : cnt s k ≤ k := by
  induction k with
  | zero => exact Nat.le_refl 0
  | succ k ih =>
    show cnt s k + (if tb s k = true then 1 else 0) ≤ k + 1
    split <;> omega
section R1
variable {f : Hf} {m d sz us : Nat} {w : WD} {y : Nat → Int64}
theorem R_in (v lo hi : Int32) (q : Nat) {hf : Hf} : Ev d 135 0 [some (.ref q), some (.int v), some (.int lo), some (.int hi)] [] (sz, us, hf) = some (some (.int (bI (decide (lo ≤ v) && decide (v ≤ hi)))), (sz, us, hf)) := by
  simp (disch := first | omega | with_reducible assumption | exact cobR | exact bI_01 _ | exact Or.inl rfl | exact Or.inr rfl | (simp (decide := true) only [wid_0, wid_i, wid_l, wid_r, wid_n]; done) | fail) only [s135_0, s135_1, s135_2, s135_5, s135_6, s135_7, s135_10, s135_11, s135_14, s135_15 (st := []) nI01_0, s135_15 (st := []) nI01_1, s135_15 (st := []) (bI_01 _), Option.bind_some, Option.bind_none, Option.toList_some, Option.toList_none, List.cons_append, List.nil_append, clr_i, clr_r, clr_l, clr_n]
  by_cases h1 : v < lo
  · have : ¬ lo ≤ v := Int32.not_le.mpr h1
    simp [h1, this, bI_f]
  · have h2 : lo ≤ v := Int32.not_lt.mp h1
    by_cases h3 : hi < v
    · have : ¬ v ≤ hi := Int32.not_le.mpr h3
      simp [h1, h3, this, bI_f]
    · have h4 : v ≤ hi := Int32.not_lt.mp h3
      simp [h1, h2, h3, h4, bI_t]
theorem R_isIn (s : Int32) {k : Nat} (hk : k < 32) (q : Nat) {hf : Hf} : Ev d 139 0 [some (.ref q), some (.int s), some (.int (nI k))] [] (sz, us, hf) = some (some (.int (bI (tb s k))), (sz, us, hf)) := by
  rw [← bit_eq s hk]
  simp (disch := first | omega | with_reducible assumption | exact cobR | exact bI_01 _ | exact Or.inl rfl | exact Or.inr rfl | (simp (decide := true) only [wid_0, wid_i, wid_l, wid_r, wid_n]; done) | fail) only [s139_0, s139_1, s139_2, s139_3, s139_4, s139_5, s139_6, s139_9, s139_10, s139_13, s139_14 (st := []) nI01_0, s139_14 (st := []) nI01_1, s139_14 (st := []) (bI_01 _), Option.bind_some, Option.bind_none, Option.toList_some, Option.toList_none, List.cons_append, List.nil_append, clr_i, clr_r, clr_l, clr_n]
  by_cases h1 : (s >>> (nI k &&& 31)) &&& nI 1 = nI 1 <;> simp [h1, bI_f, bI_t]
theorem R_isState {n : Nat} (hn : w 0 1 = nI n) (hn30 : n ≤ 30) (s : Int32) : Ev (d + 1) 136 0 [some (.ref m), some (.int s)] [] (sz, us, emR f m w y) = some (some (.int (bI (vI s n))), (sz, us, emR f m w y)) := by
  simp (disch := first | omega | with_reducible assumption | exact cobR | exact bI_01 _ | exact Or.inl rfl | exact Or.inr rfl | (simp (decide := true) only [wid_0, wid_i, wid_l, wid_r, wid_n]; done) | fail) only [s136_0, s136_1, s136_2, s136_3, s136_4, s136_7, s136_8, s136_9, s136_12 (st := []) nI01_0, s136_12 (st := []) nI01_1, s136_12 (st := []) (bI_01 _), Option.bind_some, Option.bind_none, Option.toList_some, Option.toList_none, List.cons_append, List.nil_append, clr_i, clr_r, clr_l, clr_n, gR_13, pR_13, hR_1_13, R_in]
  rw [hn, in_vIs (by omega)]
theorem R_isPart (s : Int32) : Ev (d + 1) 137 0 [some (.ref m), some (.int s)] [] (sz, us, emR f m w y) = some (some (.int (bI (vI s 16))), (sz, us, emR f m w y)) := by
  simp (disch := first | omega | with_reducible assumption | exact cobR | exact bI_01 _ | exact Or.inl rfl | exact Or.inr rfl | (simp (decide := true) only [wid_0, wid_i, wid_l, wid_r, wid_n]; done) | fail) only [s137_0, s137_1, s137_2, s137_3, s137_5, s137_8 (st := []) nI01_0, s137_8 (st := []) nI01_1, s137_8 (st := []) (bI_01 _), Option.bind_some, Option.bind_none, Option.toList_some, Option.toList_none, List.cons_append, List.nil_append, clr_i, clr_r, clr_l, clr_n, R_in]
  rw [in_vI (by omega)]
theorem R_linkAt (s k p q : Nat) {hf : Hf} : Ev d 138 0 [some (.ref q), some (.int (nI s)), some (.int (nI k)), some (.int (nI p))] [] (sz, us, hf) = some (some (.int (nI ((3 * s + k) * 16 + p))), (sz, us, hf)) := by
  simp (disch := first | omega | with_reducible assumption | exact cobR | exact bI_01 _ | exact Or.inl rfl | exact Or.inr rfl | (simp (decide := true) only [wid_0, wid_i, wid_l, wid_r, wid_n]; done) | fail) only [s138_0, s138_1, s138_2, s138_3, s138_4, s138_5, s138_7, s138_8, s138_9, s138_10 (st := []), Option.bind_some, Option.bind_none, Option.toList_some, Option.toList_none, List.cons_append, List.nil_append, clr_i, clr_r, clr_l, clr_n, nI_add, nsub, pk_mul, nle_F, nle_T, nlt_F, nlt_T, neq_F, nz_F, nz_T, nneg_F, npos_T, npos_lF, npos_lT, nle0_F, m1_neg, m1_pos, m1_z, neq_m1, m1_neq, ↓reduceIte, if_true, if_false, not_true_eq_false, not_false_eq_true, bI_eq0, Bool.true_eq_false, Bool.false_eq_true, true_and, and_true, false_and, and_false, true_or, or_true, false_or, or_false]
theorem R_upTo {s : Nat} (hs : s < 30) : Ev d 154 0 [some (.ref m), some (.int (nI s))] [] (sz, us, emR f m w y) = some (some (.int (w 3 s ||| sb s)), (sz, us, emR f m w y)) := by
  simp (disch := first | omega | with_reducible assumption | exact cobR | exact bI_01 _ | exact Or.inl rfl | exact Or.inr rfl | (simp (decide := true) only [wid_0, wid_i, wid_l, wid_r, wid_n]; done) | fail) only [s154_0, s154_1, s154_4, s154_5, s154_6, s154_7, s154_8, s154_9, s154_10 (st := []), Option.bind_some, Option.bind_none, Option.toList_some, Option.toList_none, List.cons_append, List.nil_append, clr_i, clr_r, clr_l, clr_n, gR_23, ra_3, wa_3, ha_3]
  rfl
theorem R_ones (s : Int32) (q : Nat) {hf : Hf} : Ev d 140 0 [some (.ref q), some (.int s), none, none] [] (sz, us, hf) = some (some (.int (nI (cnt s 32))), (sz, us, hf)) := by
  simp (disch := first | omega | with_reducible assumption | exact cobR | exact bI_01 _ | exact Or.inl rfl | exact Or.inr rfl | (simp (decide := true) only [wid_0, wid_i, wid_l, wid_r, wid_n]; done) | fail) only [s140_0, s140_1, s140_2, s140_3, s140_5, s140_7, s140_10, s140_11, s140_12, s140_13, s140_14, s140_15, s140_16, s140_17, s140_18, s140_21, s140_24, s140_25 (st := []), Option.bind_some, Option.bind_none, Option.toList_some, Option.toList_none, List.cons_append, List.nil_append, clr_i, clr_r, clr_l, clr_n]
  have key := loopE (fun k => Ev d 140 4 [some (.ref q), some (.int s), some (.int (nI (cnt s k))), some (.int (nI k))] [] (sz, us, hf)) 32 (fun k hk => by
    show Ev _ _ _ _ _ _ = Ev _ _ _ _ _ _
    rw [s140_4]
    simp (disch := first | omega | with_reducible assumption | exact cobR | exact bI_01 _ | exact Or.inl rfl | exact Or.inr rfl | (simp (decide := true) only [wid_0, wid_i, wid_l, wid_r, wid_n]; done) | fail) only [s140_0, s140_1, s140_2, s140_3, s140_5, s140_7, s140_10, s140_11, s140_12, s140_13, s140_14, s140_15, s140_16, s140_17, s140_18, s140_21, s140_24, s140_25 (st := []), Option.bind_some, Option.bind_none, Option.toList_some, Option.toList_none, List.cons_append, List.nil_append, clr_i, clr_r, clr_l, clr_n, nI_add, nsub, pk_mul, nle_F, nle_T, nlt_F, nlt_T, neq_F, nz_F, nz_T, nneg_F, npos_T, npos_lF, npos_lT, nle0_F, m1_neg, m1_pos, m1_z, neq_m1, m1_neq, ↓reduceIte, if_true, if_false, not_true_eq_false, not_false_eq_true, bI_eq0, Bool.true_eq_false, Bool.false_eq_true, true_and, and_true, false_and, and_false, true_or, or_true, false_or, or_false, ubit_val, bI_nI]
    rfl)
  refine key.trans ?_
  show Ev _ _ _ _ _ _ = _
  rw [s140_4]
  simp (disch := first | omega | with_reducible assumption | exact cobR | exact bI_01 _ | exact Or.inl rfl | exact Or.inr rfl | (simp (decide := true) only [wid_0, wid_i, wid_l, wid_r, wid_n]; done) | fail) only [s140_0, s140_1, s140_2, s140_3, s140_5, s140_7, s140_10, s140_11, s140_12, s140_13, s140_14, s140_15, s140_16, s140_17, s140_18, s140_21, s140_24, s140_25 (st := []), Option.bind_some, Option.bind_none, Option.toList_some, Option.toList_none, List.cons_append, List.nil_append, clr_i, clr_r, clr_l, clr_n, nI_add, nsub, pk_mul, nle_F, nle_T, nlt_F, nlt_T, neq_F, nz_F, nz_T, nneg_F, npos_T, npos_lF, npos_lT, nle0_F, m1_neg, m1_pos, m1_z, neq_m1, m1_neq, ↓reduceIte, if_true, if_false, not_true_eq_false, not_false_eq_true, bI_eq0, Bool.true_eq_false, Bool.false_eq_true, true_and, and_true, false_and, and_false, true_or, or_true, false_or, or_false]
/-- links of part p of state f come to s: kind k -/
def tkL (s f p : Nat) : Nat → WD → WD := fun k w => wU w 8 ((3 * s + k) * 16 + p) (w 8 ((3 * s + k) * 16 + p) ||| w 8 ((3 * f + k) * 16 + p))
def tkP (s f : Nat) : Nat → WD → WD := fun p w0 =>
  let w := itr (tkL s f p) w0 3
  if tb (w 4 f) p = false then w else if tb (w 4 s) p = false then wU (wU w 6 (16 * s + p) (w 6 (16 * f + p))) 7 (16 * s + p) (w 7 (16 * f + p)) else w
def tkO (w0 : WD) (s f : Nat) : WD :=
  let w := itr (tkP s f) w0 16
  let w1 := wU w 4 s (w 4 s ||| w 4 f)
  wU w1 3 s (w1 3 s ||| (w1 3 f ||| sb f))
theorem wU_sh (w : WD) (s f p : Nat) (x z : Int32) (i : Nat) : wU w 6 (16 * s + p) x 7 i = w 7 i := by simp [wU]
theorem R_takeOver {s g : Nat} (hs : s < 30) (hg : g < 30) : Ev (d + 1) 141 0 [some (.ref m), some (.int (nI s)), some (.int (nI g)), none, none] [] (sz, us, emR f m w y) = some (none, (sz, us, emR f m (tkO w s g) y)) := by
  simp (disch := first | omega | with_reducible assumption | exact cobR | exact bI_01 _ | exact Or.inl rfl | exact Or.inr rfl | (simp (decide := true) only [wid_0, wid_i, wid_l, wid_r, wid_n]; done) | fail) only [s141_0, s141_1, s141_3, s141_5, s141_8, s141_9, s141_13, s141_14, s141_17, s141_18, s141_21, s141_22, s141_23, s141_25, s141_26, s141_29, s141_30, s141_31, s141_32, s141_35, s141_36, s141_37, s141_39, s141_40, s141_43, s141_44, s141_45, s141_46, s141_49, s141_52, s141_53, s141_54, s141_57, s141_58, s141_59, s141_60, s141_63, s141_66, s141_67, s141_68, s141_71, s141_72, s141_73, s141_74, s141_77, s141_80, s141_83, s141_84, s141_87, s141_89, s141_90, s141_91, s141_92, s141_93, s141_94, s141_97, s141_99, s141_100, s141_101, s141_102, s141_103, s141_104, s141_105, s141_106, s141_109, s141_111, s141_112, s141_113, s141_114, s141_115, s141_116, s141_119, s141_121, s141_122, s141_123, s141_124, s141_125, s141_126, s141_127, s141_130, s141_133, s141_134, s141_137, s141_138, s141_139, s141_140, s141_141, s141_144, s141_145, s141_146, s141_147, s141_148, s141_149, s141_152, s141_153, s141_154, s141_155, s141_156, s141_159, s141_160, s141_161, s141_162, s141_163, s141_164, s141_165, s141_166, s141_167 (st := []), Option.bind_some, Option.bind_none, Option.toList_some, Option.toList_none, List.cons_append, List.nil_append, clr_i, clr_r, clr_l, clr_n]
  obtain ⟨b, key⟩ := loopA (fun p a4 => Ev (d + 1) 141 2 [some (.ref m), some (.int (nI s)), some (.int (nI g)), some (.int (nI p)), a4] [] (sz, us, emR f m (itr (tkP s g) w p) y)) 16 (fun p hp a4 => by
    refine ⟨some (.int (nI 3)), ?_⟩
    show Ev _ _ _ _ _ _ = Ev _ _ _ _ _ _
    rw [s141_2]
    simp (disch := first | omega | with_reducible assumption | exact cobR | exact bI_01 _ | exact Or.inl rfl | exact Or.inr rfl | (simp (decide := true) only [wid_0, wid_i, wid_l, wid_r, wid_n]; done) | fail) only [s141_0, s141_1, s141_3, s141_5, s141_8, s141_9, s141_13, s141_14, s141_17, s141_18, s141_21, s141_22, s141_23, s141_25, s141_26, s141_29, s141_30, s141_31, s141_32, s141_35, s141_36, s141_37, s141_39, s141_40, s141_43, s141_44, s141_45, s141_46, s141_49, s141_52, s141_53, s141_54, s141_57, s141_58, s141_59, s141_60, s141_63, s141_66, s141_67, s141_68, s141_71, s141_72, s141_73, s141_74, s141_77, s141_80, s141_83, s141_84, s141_87, s141_89, s141_90, s141_91, s141_92, s141_93, s141_94, s141_97, s141_99, s141_100, s141_101, s141_102, s141_103, s141_104, s141_105, s141_106, s141_109, s141_111, s141_112, s141_113, s141_114, s141_115, s141_116, s141_119, s141_121, s141_122, s141_123, s141_124, s141_125, s141_126, s141_127, s141_130, s141_133, s141_134, s141_137, s141_138, s141_139, s141_140, s141_141, s141_144, s141_145, s141_146, s141_147, s141_148, s141_149, s141_152, s141_153, s141_154, s141_155, s141_156, s141_159, s141_160, s141_161, s141_162, s141_163, s141_164, s141_165, s141_166, s141_167 (st := []), Option.bind_some, Option.bind_none, Option.toList_some, Option.toList_none, List.cons_append, List.nil_append, clr_i, clr_r, clr_l, clr_n, nI_add, nsub, pk_mul, nle_F, nle_T, nlt_F, nlt_T, neq_F, nz_F, nz_T, nneg_F, npos_T, npos_lF, npos_lT, nle0_F, m1_neg, m1_pos, m1_z, neq_m1, m1_neq, ↓reduceIte, if_true, if_false, not_true_eq_false, not_false_eq_true, bI_eq0, Bool.true_eq_false, Bool.false_eq_true, true_and, and_true, false_and, and_false, true_or, or_true, false_or, or_false]
    have inner := loopE (fun k => Ev (d + 1) 141 11 [some (.ref m), some (.int (nI s)), some (.int (nI g)), some (.int (nI p)), some (.int (nI k))] [] (sz, us, emR f m (itr (tkL s g p) (itr (tkP s g) w p) k) y)) 3 (fun k hk => by
      show Ev _ _ _ _ _ _ = Ev _ _ _ _ _ _
      rw [s141_11]
      simp (disch := first | omega | with_reducible assumption | exact cobR | exact bI_01 _ | exact Or.inl rfl | exact Or.inr rfl | (simp (decide := true) only [wid_0, wid_i, wid_l, wid_r, wid_n]; done) | fail) only [s141_0, s141_1, s141_3, s141_5, s141_8, s141_9, s141_13, s141_14, s141_17, s141_18, s141_21, s141_22, s141_23, s141_25, s141_26, s141_29, s141_30, s141_31, s141_32, s141_35, s141_36, s141_37, s141_39, s141_40, s141_43, s141_44, s141_45, s141_46, s141_49, s141_52, s141_53, s141_54, s141_57, s141_58, s141_59, s141_60, s141_63, s141_66, s141_67, s141_68, s141_71, s141_72, s141_73, s141_74, s141_77, s141_80, s141_83, s141_84, s141_87, s141_89, s141_90, s141_91, s141_92, s141_93, s141_94, s141_97, s141_99, s141_100, s141_101, s141_102, s141_103, s141_104, s141_105, s141_106, s141_109, s141_111, s141_112, s141_113, s141_114, s141_115, s141_116, s141_119, s141_121, s141_122, s141_123, s141_124, s141_125, s141_126, s141_127, s141_130, s141_133, s141_134, s141_137, s141_138, s141_139, s141_140, s141_141, s141_144, s141_145, s141_146, s141_147, s141_148, s141_149, s141_152, s141_153, s141_154, s141_155, s141_156, s141_159, s141_160, s141_161, s141_162, s141_163, s141_164, s141_165, s141_166, s141_167 (st := []), Option.bind_some, Option.bind_none, Option.toList_some, Option.toList_none, List.cons_append, List.nil_append, clr_i, clr_r, clr_l, clr_n, nI_add, nsub, pk_mul, nle_F, nle_T, nlt_F, nlt_T, neq_F, nz_F, nz_T, nneg_F, npos_T, npos_lF, npos_lT, nle0_F, m1_neg, m1_pos, m1_z, neq_m1, m1_neq, ↓reduceIte, if_true, if_false, not_true_eq_false, not_false_eq_true, bI_eq0, Bool.true_eq_false, Bool.false_eq_true, true_and, and_true, false_and, and_false, true_or, or_true, false_or, or_false, R_linkAt, gR_39, ra_8, wa_8, ha_8]
      rfl)
    refine inner.trans ?_
    show Ev _ _ _ _ _ _ = Ev _ _ _ _ _ _
    rw [s141_11, itr_s (tkP s g)]
    generalize itr (tkP s g) w p = w0
    show _ = Ev _ _ _ _ _ (sz, us, emR f m (tkP s g p w0) y)
    unfold tkP
    generalize itr (tkL s g p) w0 3 = w1
    simp (disch := first | omega | with_reducible assumption | exact cobR | exact bI_01 _ | exact Or.inl rfl | exact Or.inr rfl | (simp (decide := true) only [wid_0, wid_i, wid_l, wid_r, wid_n]; done) | fail) only [s141_0, s141_1, s141_3, s141_5, s141_8, s141_9, s141_13, s141_14, s141_17, s141_18, s141_21, s141_22, s141_23, s141_25, s141_26, s141_29, s141_30, s141_31, s141_32, s141_35, s141_36, s141_37, s141_39, s141_40, s141_43, s141_44, s141_45, s141_46, s141_49, s141_52, s141_53, s141_54, s141_57, s141_58, s141_59, s141_60, s141_63, s141_66, s141_67, s141_68, s141_71, s141_72, s141_73, s141_74, s141_77, s141_80, s141_83, s141_84, s141_87, s141_89, s141_90, s141_91, s141_92, s141_93, s141_94, s141_97, s141_99, s141_100, s141_101, s141_102, s141_103, s141_104, s141_105, s141_106, s141_109, s141_111, s141_112, s141_113, s141_114, s141_115, s141_116, s141_119, s141_121, s141_122, s141_123, s141_124, s141_125, s141_126, s141_127, s141_130, s141_133, s141_134, s141_137, s141_138, s141_139, s141_140, s141_141, s141_144, s141_145, s141_146, s141_147, s141_148, s141_149, s141_152, s141_153, s141_154, s141_155, s141_156, s141_159, s141_160, s141_161, s141_162, s141_163, s141_164, s141_165, s141_166, s141_167 (st := []), Option.bind_some, Option.bind_none, Option.toList_some, Option.toList_none, List.cons_append, List.nil_append, clr_i, clr_r, clr_l, clr_n, nI_add, nsub, pk_mul, nle_F, nle_T, nlt_F, nlt_T, neq_F, nz_F, nz_T, nneg_F, npos_T, npos_lF, npos_lT, nle0_F, m1_neg, m1_pos, m1_z, neq_m1, m1_neq, ↓reduceIte, if_true, if_false, not_true_eq_false, not_false_eq_true, bI_eq0, Bool.true_eq_false, Bool.false_eq_true, true_and, and_true, false_and, and_false, true_or, or_true, false_or, or_false, R_isIn, gR_26, ra_4, wa_4, ha_4, gR_33, ra_6, wa_6, ha_6, gR_36, ra_7, wa_7, ha_7]
    cases h1 : tb (w1 4 g) p <;> cases h2 : tb (w1 4 s) p <;> simp (disch := first | omega | with_reducible assumption | exact cobR | exact bI_01 _ | exact Or.inl rfl | exact Or.inr rfl | (simp (decide := true) only [wid_0, wid_i, wid_l, wid_r, wid_n]; done) | fail) only [s141_0, s141_1, s141_3, s141_5, s141_8, s141_9, s141_13, s141_14, s141_17, s141_18, s141_21, s141_22, s141_23, s141_25, s141_26, s141_29, s141_30, s141_31, s141_32, s141_35, s141_36, s141_37, s141_39, s141_40, s141_43, s141_44, s141_45, s141_46, s141_49, s141_52, s141_53, s141_54, s141_57, s141_58, s141_59, s141_60, s141_63, s141_66, s141_67, s141_68, s141_71, s141_72, s141_73, s141_74, s141_77, s141_80, s141_83, s141_84, s141_87, s141_89, s141_90, s141_91, s141_92, s141_93, s141_94, s141_97, s141_99, s141_100, s141_101, s141_102, s141_103, s141_104, s141_105, s141_106, s141_109, s141_111, s141_112, s141_113, s141_114, s141_115, s141_116, s141_119, s141_121, s141_122, s141_123, s141_124, s141_125, s141_126, s141_127, s141_130, s141_133, s141_134, s141_137, s141_138, s141_139, s141_140, s141_141, s141_144, s141_145, s141_146, s141_147, s141_148, s141_149, s141_152, s141_153, s141_154, s141_155, s141_156, s141_159, s141_160, s141_161, s141_162, s141_163, s141_164, s141_165, s141_166, s141_167 (st := []), Option.bind_some, Option.bind_none, Option.toList_some, Option.toList_none, List.cons_append, List.nil_append, clr_i, clr_r, clr_l, clr_n, nI_add, nsub, pk_mul, nle_F, nle_T, nlt_F, nlt_T, neq_F, nz_F, nz_T, nneg_F, npos_T, npos_lF, npos_lT, nle0_F, m1_neg, m1_pos, m1_z, neq_m1, m1_neq, ↓reduceIte, if_true, if_false, not_true_eq_false, not_false_eq_true, bI_eq0, Bool.true_eq_false, Bool.false_eq_true, true_and, and_true, false_and, and_false, true_or, or_true, false_or, or_false, R_isIn, gR_26, ra_4, wa_4, ha_4, gR_33, ra_6, wa_6, ha_6, gR_36, ra_7, wa_7, ha_7, h1, h2, wU_ap, Nat.reduceEqDiff]) none
  refine key.trans ?_
  show Ev _ _ _ _ _ _ = _
  rw [s141_2]
  simp (disch := first | omega | with_reducible assumption | exact cobR | exact bI_01 _ | exact Or.inl rfl | exact Or.inr rfl | (simp (decide := true) only [wid_0, wid_i, wid_l, wid_r, wid_n]; done) | fail) only [s141_0, s141_1, s141_3, s141_5, s141_8, s141_9, s141_13, s141_14, s141_17, s141_18, s141_21, s141_22, s141_23, s141_25, s141_26, s141_29, s141_30, s141_31, s141_32, s141_35, s141_36, s141_37, s141_39, s141_40, s141_43, s141_44, s141_45, s141_46, s141_49, s141_52, s141_53, s141_54, s141_57, s141_58, s141_59, s141_60, s141_63, s141_66, s141_67, s141_68, s141_71, s141_72, s141_73, s141_74, s141_77, s141_80, s141_83, s141_84, s141_87, s141_89, s141_90, s141_91, s141_92, s141_93, s141_94, s141_97, s141_99, s141_100, s141_101, s141_102, s141_103, s141_104, s141_105, s141_106, s141_109, s141_111, s141_112, s141_113, s141_114, s141_115, s141_116, s141_119, s141_121, s141_122, s141_123, s141_124, s141_125, s141_126, s141_127, s141_130, s141_133, s141_134, s141_137, s141_138, s141_139, s141_140, s141_141, s141_144, s141_145, s141_146, s141_147, s141_148, s141_149, s141_152, s141_153, s141_154, s141_155, s141_156, s141_159, s141_160, s141_161, s141_162, s141_163, s141_164, s141_165, s141_166, s141_167 (st := []), Option.bind_some, Option.bind_none, Option.toList_some, Option.toList_none, List.cons_append, List.nil_append, clr_i, clr_r, clr_l, clr_n, nI_add, nsub, pk_mul, nle_F, nle_T, nlt_F, nlt_T, neq_F, nz_F, nz_T, nneg_F, npos_T, npos_lF, npos_lT, nle0_F, m1_neg, m1_pos, m1_z, neq_m1, m1_neq, ↓reduceIte, if_true, if_false, not_true_eq_false, not_false_eq_true, bI_eq0, Bool.true_eq_false, Bool.false_eq_true, true_and, and_true, false_and, and_false, true_or, or_true, false_or, or_false, gR_26, ra_4, wa_4, ha_4, gR_23, ra_3, wa_3, ha_3]
  rfl
end R1
