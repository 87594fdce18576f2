/-! the class: states noted, a state comes -/
theorem nI_sh (k : Nat) : nI 1 <<< (nI k &&& 31) = sb k := rfl
theorem tb_wbt (s : Int32) (b : Bool) {i : Nat} (hi : i < 32) {k : Nat} (hk : k < 32) : tb (wbt s (sb i) b) k = if k = i then b else tb s k := by
  unfold wbt
  cases b
  · simp only [Bool.false_eq_true, if_false]
    rw [tb_and, tb_not _ hk, tb_sb hi]
    by_cases h : k = i <;> simp [h]
  · simp only [if_true]
    rw [tb_or, tb_sb hi]
    by_cases h : k = i <;> simp [h]
/-- the tables are right for state s -/
def NTs (c : WD) (s : Nat) : Prop := c (8 + 4 * s) 4 = bI (tb (c 1 4) s) ∧ (∀ p, p < 16 → tb (c 3 p) s = tb (c (8 + 4 * s) 5) p) ∧
  (∀ j, j < 768 → tb (c 4 j) s = tb (c (11 + 4 * s) (j / 256 * 16 + j % 256 / 16)) (j % 16)) ∧ (∀ j, j < 768 → tb (c 5 j) s = tb (clo (fun p => c (11 + 4 * s) (j / 256 * 16 + p)) (j % 256 / 16)) (j % 16))
/-- what noting leaves as it is -/
def Kn (c c' : WD) : Prop := (∀ k, k = 0 ∨ k = 2 ∨ 7 ≤ k → c' k = c k) ∧ (∀ i, i < 3 → c' 1 i = c 1 i)
theorem noW_o (c : WD) (i : Nat) (r : Bool) {k : Nat} (h : k ≠ 1 ∧ k ≠ 3) : noW c i r k = c k := by
  funext q
  unfold noW
  rw [wT_off _ _ _ _ h.2, wU_off h.1]
theorem noW_14 (c : WD) (i : Nat) (r : Bool) : noW c i r 1 4 = wbt (c 1 4) (sb i) r := by
  unfold noW
  rw [wT_off _ _ _ _ (by omega), wU_at]
theorem noW_1 (c : WD) (i : Nat) (r : Bool) {j : Nat} (h : j ≠ 4) : noW c i r 1 j = c 1 j := by
  unfold noW
  rw [wT_off _ _ _ _ (by omega), wU_ap, if_neg (by omega)]
theorem noW_3 (c : WD) (i : Nat) (r : Bool) {p : Nat} (h : p < 16) : noW c i r 3 p = wbt (c 3 p) (sb i) (tb (c (8 + 4 * i) 5) p) := by
  unfold noW
  rw [wT_at, cop_in h]
theorem NTs_note {c : WD} {i : Nat} {r : Bool} {R : Nat → Int32} (hi : i < 30) (hr : c (8 + 4 * i) 4 = bI r) {s : Nat} (hs : s < 30) (h : s = i ∨ NTs c s) : NTs (w3 (noW c i r) (cop (c 4) (nN4 c i) 768) (cop (c 5) (nN5 c i) 768) R) s := by
  have e8 : ∀ k q, 7 ≤ k → w3 (noW c i r) (cop (c 4) (nN4 c i) 768) (cop (c 5) (nN5 c i) 768) R k q = c k q := fun k q hk => by rw [w3_o _ _ _ _ _ (by omega), noW_o _ _ _ (by omega)]
  have e1 : w3 (noW c i r) (cop (c 4) (nN4 c i) 768) (cop (c 5) (nN5 c i) 768) R 1 4 = wbt (c 1 4) (sb i) r := by rw [w3_o _ _ _ _ _ (by omega), noW_14]
  have e3 : ∀ p, p < 16 → w3 (noW c i r) (cop (c 4) (nN4 c i) 768) (cop (c 5) (nN5 c i) 768) R 3 p = wbt (c 3 p) (sb i) (tb (c (8 + 4 * i) 5) p) := fun p hp => by rw [w3_o _ _ _ _ _ (by omega), noW_3 _ _ _ hp]
  have e4 : ∀ j, j < 768 → w3 (noW c i r) (cop (c 4) (nN4 c i) 768) (cop (c 5) (nN5 c i) 768) R 4 j = nN4 c i j := fun j hj => by rw [w3_4, cop_in hj]
  have e5 : ∀ j, j < 768 → w3 (noW c i r) (cop (c 4) (nN4 c i) 768) (cop (c 5) (nN5 c i) 768) R 5 j = nN5 c i j := fun j hj => by rw [w3_5, cop_in hj]
  have e11 : w3 (noW c i r) (cop (c 4) (nN4 c i) 768) (cop (c 5) (nN5 c i) 768) R (11 + 4 * s) = c (11 + 4 * s) := funext fun q => e8 _ q (by omega)
  have e88 : w3 (noW c i r) (cop (c 4) (nN4 c i) 768) (cop (c 5) (nN5 c i) 768) R (8 + 4 * s) = c (8 + 4 * s) := funext fun q => e8 _ q (by omega)
  unfold NTs
  rw [e11, e88, e1, tb_wbt _ _ (by omega) (by omega)]
  by_cases q : s = i
  · subst q
    rw [if_pos rfl]
    refine ⟨hr, fun p hp => ?_, fun j hj => ?_, fun j hj => ?_⟩
    · rw [e3 p hp, tb_wbt _ _ (by omega) (by omega), if_pos rfl]
    · rw [e4 j hj]; unfold nN4; rw [tb_wbt _ _ (by omega) (by omega), if_pos rfl]
    · rw [e5 j hj]; unfold nN5; rw [tb_wbt _ _ (by omega) (by omega), if_pos rfl]
  · rcases h with h | ⟨h1, h2, h3, h4⟩
    · exact absurd h q
    rw [if_neg q]
    refine ⟨h1, fun p hp => ?_, fun j hj => ?_, fun j hj => ?_⟩
    · rw [e3 p hp, tb_wbt _ _ (by omega) (by omega), if_neg q, h2 p hp]
    · rw [e4 j hj]; unfold nN4; rw [tb_wbt _ _ (by omega) (by omega), if_neg q, h3 j hj]
    · rw [e5 j hj]; unfold nN5; rw [tb_wbt _ _ (by omega) (by omega), if_neg q, h4 j hj]
section KH
variable {f : Hf} {x d sz us n : Nat} {c : WD} {y : Nat → Int64} {v : VD} {tm : Nat → Option Nat}
theorem K_note {nt : Nat} (hn : c 1 1 = nI n) (hn30 : n ≤ 30) (ht : c 1 3 = nI nt) (hnt : nt ≤ n) (hr : ∀ s, s < n → ∃ r, c (8 + 4 * s) 4 = bI r) (hN : ∀ s, s < nt → NTs c s) : ∃ c', Kn c c' ∧ c' 1 3 = nI n ∧ (∀ s, s < n → NTs c' s) ∧ Ev (d + 4) 34 0 [some (.ref (x + 1)), none] [] (sz, us, emC f x c y v tm) = some (none, (sz, us, emC f x c' y v tm)) := by
  obtain ⟨c1, ⟨⟨h1, h2⟩, h3⟩, key⟩ := loopI (fun k c' => Ev (d + 4) 34 5 [some (.ref (x + 1)), some (.int (nI k))] [] (sz, us, emC f x c' y v tm)) (fun k c' => Kn c c' ∧ ∀ s, s < k → NTs c' s) nt n hnt (fun k hk hkn c1 hI => by
    obtain ⟨⟨h1, h2⟩, h3⟩ := hI
    obtain ⟨r, hr1⟩ := hr k hkn
    have hr2 : c1 (8 + 4 * k) 4 = bI r := by rw [h1 _ (by omega)]; exact hr1
    obtain ⟨R, hE⟩ := K_noteState (f := f) (x := x) (d := d) (sz := sz) (us := us) (c := c1) (y := y) (v := v) (tm := tm) (i := k) (by omega) hr2
    have hn1 : c1 1 1 = nI n := by rw [h2 1 (by omega)]; exact hn
    refine ⟨_, ⟨⟨fun q hq => ?_, fun q hq => ?_⟩, fun s hs => NTs_note (R := R) (by omega) hr2 (by omega) ?_⟩, ?_⟩
    · rw [show w3 (noW c1 k r) (cop (c1 4) (nN4 c1 k) 768) (cop (c1 5) (nN5 c1 k) 768) R q = noW c1 k r q from funext fun j => w3_o _ _ _ _ _ (by omega), noW_o _ _ _ (by omega), h1 q hq]
    · rw [w3_o _ _ _ _ _ (by omega), noW_1 _ _ _ (by omega), h2 q hq]
    · by_cases e : s = k
      · exact Or.inl e
      · exact Or.inr (h3 s (by omega))
    · have hk30 : k < 30 := by omega
      rw [s34_5]
      simp (maxSteps := 2000000) (disch := first | omega | with_reducible assumption | exact cobP | exact cobX | exact cobS (by omega) | exact bI_01 _ | exact Or.inl rfl | exact Or.inr rfl | (simp (decide := true) only [wid_0, wid_i, wid_l, wid_r, wid_n]; done) | decide | fail) only [s34_6, s34_7, s34_10, s34_13, s34_14, s34_15, s34_18, s34_19, s34_20, s34_21, s34_22, s34_23, s34_26, s34_29, Option.bind_some, Option.bind_none, Option.toList_some, Option.toList_none, List.cons_append, List.nil_append, clr_i, clr_r, clr_l, clr_n, nI_add, nsub, pk_mul, nle_F, nle_T, nlt_F, nlt_T, neq_F, nz_F, nz_T, nneg_F, npos_T, npos_lF, npos_lT, nle0_F, m1_neg, m1_pos, m1_z, neq_m1, m1_neq, ↓reduceIte, if_true, if_false, not_true_eq_false, not_false_eq_true, bI_eq0, Bool.true_eq_false, Bool.false_eq_true, true_and, and_true, false_and, and_false, true_or, or_true, false_or, or_false, decide_true, decide_false, Bool.and_self, Bool.true_and, Bool.and_true, Bool.false_and, Bool.and_false, Bool.true_or, Bool.or_true, Bool.false_or, Bool.or_false, Bool.not_true, Bool.not_false, g_3_50_2, g_3_35_2, g_3_11_2, p_3_50_2, aC_states, vrf_s, hn1, nI_sh, hE]) c ⟨⟨fun _ _ => rfl, fun _ _ => rfl⟩, hN⟩
  refine ⟨wU c1 1 3 (nI n), ⟨fun k hk => ?_, fun i hi => ?_⟩, ?_, fun s hs => ?_, ?_⟩
  · rw [wU_off (by omega)]; exact h1 k hk
  · rw [wU_ap, if_neg (by omega)]; exact h2 i hi
  · exact wU_at
  · have := h3 s hs
    unfold NTs at this ⊢
    have r8 : wU c1 1 3 (nI n) (8 + 4 * s) = c1 (8 + 4 * s) := wU_off (by omega)
    have r11 : wU c1 1 3 (nI n) (11 + 4 * s) = c1 (11 + 4 * s) := wU_off (by omega)
    have r3 : wU c1 1 3 (nI n) 3 = c1 3 := wU_off (by omega)
    have r4 : wU c1 1 3 (nI n) 4 = c1 4 := wU_off (by omega)
    have r5 : wU c1 1 3 (nI n) 5 = c1 5 := wU_off (by omega)
    have r1 : wU c1 1 3 (nI n) 1 4 = c1 1 4 := by rw [wU_ap, if_neg (by omega)]
    rw [r8, r11, r3, r4, r5, r1]
    exact this
  · simp (maxSteps := 2000000) (disch := first | omega | with_reducible assumption | exact cobP | exact cobX | exact cobS (by omega) | exact bI_01 _ | exact Or.inl rfl | exact Or.inr rfl | (simp (decide := true) only [wid_0, wid_i, wid_l, wid_r, wid_n]; done) | decide | fail) only [s34_0, s34_1, s34_4, Option.bind_some, Option.bind_none, Option.toList_some, Option.toList_none, List.cons_append, List.nil_append, clr_i, clr_r, clr_l, clr_n, nI_add, nsub, pk_mul, nle_F, nle_T, nlt_F, nlt_T, neq_F, nz_F, nz_T, nneg_F, npos_T, npos_lF, npos_lT, nle0_F, m1_neg, m1_pos, m1_z, neq_m1, m1_neq, ↓reduceIte, if_true, if_false, not_true_eq_false, not_false_eq_true, bI_eq0, Bool.true_eq_false, Bool.false_eq_true, true_and, and_true, false_and, and_false, true_or, or_true, false_or, or_false, decide_true, decide_false, Bool.and_self, Bool.true_and, Bool.and_true, Bool.false_and, Bool.and_false, Bool.true_or, Bool.or_true, Bool.false_or, Bool.or_false, Bool.not_true, Bool.not_false, g_3_50_2, g_3_35_2, g_3_11_2, p_3_50_2, ht]
    refine key.trans ?_
    have hn1 : c1 1 1 = nI n := by rw [h2 1 (by omega)]; exact hn
    rw [s34_5]
    simp (maxSteps := 2000000) (disch := first | omega | with_reducible assumption | exact cobP | exact cobX | exact cobS (by omega) | exact bI_01 _ | exact Or.inl rfl | exact Or.inr rfl | (simp (decide := true) only [wid_0, wid_i, wid_l, wid_r, wid_n]; done) | decide | fail) only [s34_6, s34_7, s34_10, s34_32, s34_33, s34_34, s34_37, s34_40 (st := []), Option.bind_some, Option.bind_none, Option.toList_some, Option.toList_none, List.cons_append, List.nil_append, clr_i, clr_r, clr_l, clr_n, nI_add, nsub, pk_mul, nle_F, nle_T, nlt_F, nlt_T, neq_F, nz_F, nz_T, nneg_F, npos_T, npos_lF, npos_lT, nle0_F, m1_neg, m1_pos, m1_z, neq_m1, m1_neq, ↓reduceIte, if_true, if_false, not_true_eq_false, not_false_eq_true, bI_eq0, Bool.true_eq_false, Bool.false_eq_true, true_and, and_true, false_and, and_false, true_or, or_true, false_or, or_false, decide_true, decide_false, Bool.and_self, Bool.true_and, Bool.and_true, Bool.false_and, Bool.and_false, Bool.true_or, Bool.or_true, Bool.false_or, Bool.or_false, Bool.not_true, Bool.not_false, g_3_50_2, g_3_35_2, g_3_11_2, p_3_50_2, hn1, h_X3]
/-- parts of state g come to state i -/
def foP (i g : Nat) : Nat → WD → WD := fun p c => if (tb (c (8 + 4 * g) 5) p && !tb (c (8 + 4 * i) 5) p) = true then wU (wU (wU c (8 + 4 * i) 5 (c (8 + 4 * i) 5 ||| sb p)) (9 + 4 * i) p (c (9 + 4 * g) p)) (10 + 4 * i) p (c (10 + 4 * g) p) else c
def foA (c : WD) (i g : Nat) : WD := wU (wU c (8 + 4 * i) 2 (c (8 + 4 * i) 2 ||| sb g)) (8 + 4 * i) 3 (c (8 + 4 * i) 3 ||| (c (8 + 4 * g) 3 ||| sb g))
def foB (c : WD) (i g : Nat) : WD := itr (foP i g) (foA c i g) 16
def foW (c : WD) (i g : Nat) : WD := wT (foB c i g) (11 + 4 * i) (cop (c (11 + 4 * i)) (fun k => c (11 + 4 * i) k ||| c (11 + 4 * g) k) 48)
theorem foP_o {i g p : Nat} {c : WD} {k q : Nat} (h : ¬ (k = 8 + 4 * i ∧ q = 5) ∧ k ≠ 9 + 4 * i ∧ k ≠ 10 + 4 * i) : foP i g p c k q = c k q := by
  unfold foP
  split
  · rw [wU_off h.2.2, wU_off h.2.1, wU_ap, if_neg h.1]
  · rfl
theorem foB_o {i g n : Nat} {c : WD} {k q : Nat} (h : ¬ (k = 8 + 4 * i ∧ q = 5) ∧ k ≠ 9 + 4 * i ∧ k ≠ 10 + 4 * i) : itr (foP i g) c n k q = c k q :=
  itr_at (α := WD) (g := foP i g) (P := fun b : WD => b k q = c k q) n rfl (fun _ _ _ hb => (foP_o h).trans hb)
theorem K_follow {i g : Nat} (hi : i < 30) (hg : g < 30) (hig : i ≠ g) (hso : ∀ p, p < 16 → ∃ q, q < 128 ∧ c (9 + 4 * g) p = nI q) (hsh : ∀ p, p < 16 → ∃ q, q < 128 ∧ c (10 + 4 * g) p = nI q) : Ev (d + 3) 26 0 [some (.ref (x + (8 + 4 * i))), some (.ref (x + (8 + 4 * g))), some (.int (nI g)), none] [] (sz, us, emC f x c y v tm) = some (none, (sz, us, emC f x (foW c i g) y v tm)) := by
  have e0 : wU c (8 + 4 * i) 2 (c (8 + 4 * i) 2 ||| sb g) (8 + 4 * i) 3 = c (8 + 4 * i) 3 := by rw [wU_ap, if_neg (by omega)]
  have e1 : wU c (8 + 4 * i) 2 (c (8 + 4 * i) 2 ||| sb g) (8 + 4 * g) 3 = c (8 + 4 * g) 3 := by rw [wU_ap, if_neg (by omega)]
  simp (maxSteps := 2000000) (disch := first | omega | with_reducible assumption | exact cobP | exact cobX | exact cobS (by omega) | exact bI_01 _ | exact Or.inl rfl | exact Or.inr rfl | (simp (decide := true) only [wid_0, wid_i, wid_l, wid_r, wid_n]; done) | decide | fail) only [s26_0, s26_1, s26_2, s26_5, s26_6, s26_7, s26_8, s26_9, s26_12, s26_13, s26_14, s26_17, s26_18, s26_21, s26_22, s26_23, s26_24, s26_25, s26_26, s26_29, s26_30, Option.bind_some, Option.bind_none, Option.toList_some, Option.toList_none, List.cons_append, List.nil_append, clr_i, clr_r, clr_l, clr_n, nI_add, nsub, pk_mul, nle_F, nle_T, nlt_F, nlt_T, neq_F, nz_F, nz_T, nneg_F, npos_T, npos_lF, npos_lT, nle0_F, m1_neg, m1_pos, m1_z, neq_m1, m1_neq, ↓reduceIte, if_true, if_false, not_true_eq_false, not_false_eq_true, bI_eq0, Bool.true_eq_false, Bool.false_eq_true, true_and, and_true, false_and, and_false, true_or, or_true, false_or, or_false, decide_true, decide_false, Bool.and_self, Bool.true_and, Bool.and_true, Bool.false_and, Bool.and_false, Bool.true_or, Bool.or_true, Bool.false_or, Bool.or_false, Bool.not_true, Bool.not_false, g_8_29_7, p_8_29_7, g_8_32_7, p_8_32_7, g_8_9_7, g_8_15_7, g_8_18_7, h_X8, nI_sh, e0, e1]
  have k1 := loopE (fun p => Ev (d + 3) 26 31 [some (.ref (x + (8 + 4 * i))), some (.ref (x + (8 + 4 * g))), some (.int (nI g)), some (.int (nI p))] [] (sz, us, emC f x (itr (foP i g) (foA c i g) p) y v tm)) 16 (fun p hp => by
    show Ev _ _ _ _ _ _ = Ev _ _ _ _ _ (_, _, emC f x (foP i g p (itr (foP i g) (foA c i g) p)) y v tm)
    have hA : ∀ k, k = 9 + 4 * g ∨ k = 10 + 4 * g → ∀ q, itr (foP i g) (foA c i g) p k q = c k q := fun k hk q => by
      rw [foB_o (by omega)]
      unfold foA
      rw [wU_off (by omega), wU_off (by omega)]
    obtain ⟨q1, hq1, e1⟩ := hso p hp
    obtain ⟨q2, hq2, e2⟩ := hsh p hp
    have f1 := hA (9 + 4 * g) (Or.inl rfl) p
    have f2 := hA (10 + 4 * g) (Or.inr rfl) p
    rw [e1] at f1
    rw [e2] at f2
    generalize itr (foP i g) (foA c i g) p = c1 at f1 f2 ⊢
    unfold foP
    rw [s26_31]
    cases h1 : tb (c1 (8 + 4 * g) 5) p
    · simp (maxSteps := 2000000) (disch := first | omega | with_reducible assumption | exact cobP | exact cobX | exact cobS (by omega) | exact bI_01 _ | exact Or.inl rfl | exact Or.inr rfl | (simp (decide := true) only [wid_0, wid_i, wid_l, wid_r, wid_n]; done) | decide | fail) only [s26_32, s26_34, s26_37, s26_38, s26_39, s26_42, s26_45, s26_46, s26_47, s26_50, s26_53, s26_54, s26_55, s26_56, s26_59, s26_60, s26_61, s26_62, s26_65, s26_66, s26_67, s26_70, s26_71, s26_74, Option.bind_some, Option.bind_none, Option.toList_some, Option.toList_none, List.cons_append, List.nil_append, clr_i, clr_r, clr_l, clr_n, nI_add, nsub, pk_mul, nle_F, nle_T, nlt_F, nlt_T, neq_F, nz_F, nz_T, nneg_F, npos_T, npos_lF, npos_lT, nle0_F, m1_neg, m1_pos, m1_z, neq_m1, m1_neq, ↓reduceIte, if_true, if_false, not_true_eq_false, not_false_eq_true, bI_eq0, Bool.true_eq_false, Bool.false_eq_true, true_and, and_true, false_and, and_false, true_or, or_true, false_or, or_false, decide_true, decide_false, Bool.and_self, Bool.true_and, Bool.and_true, Bool.false_and, Bool.and_false, Bool.true_or, Bool.or_true, Bool.false_or, Bool.or_false, Bool.not_true, Bool.not_false, K_has, h1]
    · cases h2 : tb (c1 (8 + 4 * i) 5) p
      · simp (maxSteps := 2000000) (disch := first | omega | with_reducible assumption | exact cobP | exact cobX | exact cobS (by omega) | exact bI_01 _ | exact Or.inl rfl | exact Or.inr rfl | (simp (decide := true) only [wid_0, wid_i, wid_l, wid_r, wid_n]; done) | decide | fail) only [s26_32, s26_34, s26_37, s26_38, s26_39, s26_42, s26_45, s26_46, s26_47, s26_50, s26_53, s26_54, s26_55, s26_56, s26_59, s26_60, s26_61, s26_62, s26_65, s26_66, s26_67, s26_70, s26_71, s26_74, Option.bind_some, Option.bind_none, Option.toList_some, Option.toList_none, List.cons_append, List.nil_append, clr_i, clr_r, clr_l, clr_n, nI_add, nsub, pk_mul, nle_F, nle_T, nlt_F, nlt_T, neq_F, nz_F, nz_T, nneg_F, npos_T, npos_lF, npos_lT, nle0_F, m1_neg, m1_pos, m1_z, neq_m1, m1_neq, ↓reduceIte, if_true, if_false, not_true_eq_false, not_false_eq_true, bI_eq0, Bool.true_eq_false, Bool.false_eq_true, true_and, and_true, false_and, and_false, true_or, or_true, false_or, or_false, decide_true, decide_false, Bool.and_self, Bool.true_and, Bool.and_true, Bool.false_and, Bool.and_false, Bool.true_or, Bool.or_true, Bool.false_or, Bool.or_false, Bool.not_true, Bool.not_false, g_8_29_7, p_8_29_7, g_8_32_7, p_8_32_7, g_8_9_7, g_8_15_7, g_8_18_7, K_has, K_set, a_so, a_sh, h1, h2, f1, f2]
      · simp (maxSteps := 2000000) (disch := first | omega | with_reducible assumption | exact cobP | exact cobX | exact cobS (by omega) | exact bI_01 _ | exact Or.inl rfl | exact Or.inr rfl | (simp (decide := true) only [wid_0, wid_i, wid_l, wid_r, wid_n]; done) | decide | fail) only [s26_32, s26_34, s26_37, s26_38, s26_39, s26_42, s26_45, s26_46, s26_47, s26_50, s26_53, s26_54, s26_55, s26_56, s26_59, s26_60, s26_61, s26_62, s26_65, s26_66, s26_67, s26_70, s26_71, s26_74, Option.bind_some, Option.bind_none, Option.toList_some, Option.toList_none, List.cons_append, List.nil_append, clr_i, clr_r, clr_l, clr_n, nI_add, nsub, pk_mul, nle_F, nle_T, nlt_F, nlt_T, neq_F, nz_F, nz_T, nneg_F, npos_T, npos_lF, npos_lT, nle0_F, m1_neg, m1_pos, m1_z, neq_m1, m1_neq, ↓reduceIte, if_true, if_false, not_true_eq_false, not_false_eq_true, bI_eq0, Bool.true_eq_false, Bool.false_eq_true, true_and, and_true, false_and, and_false, true_or, or_true, false_or, or_false, decide_true, decide_false, Bool.and_self, Bool.true_and, Bool.and_true, Bool.false_and, Bool.and_false, Bool.true_or, Bool.or_true, Bool.false_or, Bool.or_false, Bool.not_true, Bool.not_false, g_8_29_7, p_8_29_7, g_8_32_7, p_8_32_7, g_8_9_7, g_8_15_7, g_8_18_7, K_has, h1, h2])
  refine Eq.trans ?_ (k1.trans ?_)
  · rfl
  show Ev _ _ _ _ _ (_, _, emC f x (foB c i g) y v tm) = _
  unfold foW
  have g11 : ∀ k, k = 11 + 4 * i ∨ k = 11 + 4 * g → foB c i g k = c k := fun k hk => by
    funext q
    unfold foB
    rw [foB_o (by omega)]
    unfold foA
    rw [wU_off (by omega), wU_off (by omega)]
  have g1 := g11 _ (Or.inl rfl)
  have g2 := g11 _ (Or.inr rfl)
  generalize foB c i g = c1 at g1 g2 ⊢
  rw [s26_31]
  simp (maxSteps := 2000000) (disch := first | omega | with_reducible assumption | exact cobP | exact cobX | exact cobS (by omega) | exact bI_01 _ | exact Or.inl rfl | exact Or.inr rfl | (simp (decide := true) only [wid_0, wid_i, wid_l, wid_r, wid_n]; done) | decide | fail) only [s26_32, s26_34, s26_77, s26_78, Option.bind_some, Option.bind_none, Option.toList_some, Option.toList_none, List.cons_append, List.nil_append, clr_i, clr_r, clr_l, clr_n, nI_add, nsub, pk_mul, nle_F, nle_T, nlt_F, nlt_T, neq_F, nz_F, nz_T, nneg_F, npos_T, npos_lF, npos_lT, nle0_F, m1_neg, m1_pos, m1_z, neq_m1, m1_neq, ↓reduceIte, if_true, if_false, not_true_eq_false, not_false_eq_true, bI_eq0, Bool.true_eq_false, Bool.false_eq_true, true_and, and_true, false_and, and_false, true_or, or_true, false_or, or_false, decide_true, decide_false, Bool.and_self, Bool.true_and, Bool.and_true, Bool.false_and, Bool.and_false, Bool.true_or, Bool.or_true, Bool.false_or, Bool.or_false, Bool.not_true, Bool.not_false]
  have k2 := loopE (fun k => Ev (d + 3) 26 79 [some (.ref (x + (8 + 4 * i))), some (.ref (x + (8 + 4 * g))), some (.int (nI g)), some (.int (nI k))] [] (sz, us, emC f x (wT c1 (11 + 4 * i) (cop (c (11 + 4 * i)) (fun k => c (11 + 4 * i) k ||| c (11 + 4 * g) k) k)) y v tm)) 48 (fun k hk => by
    show Ev _ _ _ _ _ _ = Ev _ _ _ _ _ _
    rw [← cop_s, ← wT_up]
    have ea := wT_at c1 (11 + 4 * i) (cop (c (11 + 4 * i)) (fun k => c (11 + 4 * i) k ||| c (11 + 4 * g) k) k) k
    rw [cop_at] at ea
    have eb : wT c1 (11 + 4 * i) (cop (c (11 + 4 * i)) (fun k => c (11 + 4 * i) k ||| c (11 + 4 * g) k) k) (11 + 4 * g) k = c (11 + 4 * g) k := by rw [wT_off _ _ _ _ (by omega), g2]
    generalize wT c1 (11 + 4 * i) (cop (c (11 + 4 * i)) (fun k => c (11 + 4 * i) k ||| c (11 + 4 * g) k) k) = c2 at ea eb ⊢
    rw [s26_79]
    simp (maxSteps := 2000000) (disch := first | omega | with_reducible assumption | exact cobP | exact cobX | exact cobS (by omega) | exact bI_01 _ | exact Or.inl rfl | exact Or.inr rfl | (simp (decide := true) only [wid_0, wid_i, wid_l, wid_r, wid_n]; done) | decide | fail) only [s26_80, s26_81, s26_84, s26_85, s26_88, s26_89, s26_92, s26_93, s26_94, s26_95, s26_96, s26_99, s26_100, s26_101, s26_102, s26_103, s26_106, Option.bind_some, Option.bind_none, Option.toList_some, Option.toList_none, List.cons_append, List.nil_append, clr_i, clr_r, clr_l, clr_n, nI_add, nsub, pk_mul, nle_F, nle_T, nlt_F, nlt_T, neq_F, nz_F, nz_T, nneg_F, npos_T, npos_lF, npos_lT, nle0_F, m1_neg, m1_pos, m1_z, neq_m1, m1_neq, ↓reduceIte, if_true, if_false, not_true_eq_false, not_false_eq_true, bI_eq0, Bool.true_eq_false, Bool.false_eq_true, true_and, and_true, false_and, and_false, true_or, or_true, false_or, or_false, decide_true, decide_false, Bool.and_self, Bool.true_and, Bool.and_true, Bool.false_and, Bool.and_false, Bool.true_or, Bool.or_true, Bool.false_or, Bool.or_false, Bool.not_true, Bool.not_false, g_8_29_7, p_8_29_7, g_8_32_7, p_8_32_7, g_8_9_7, g_8_15_7, g_8_18_7, a_le, n_le, b_le, u_le, ea, eb])
  rw [cop_0] at k2
  have e3 : wT c1 (11 + 4 * i) (c (11 + 4 * i)) = c1 := by rw [← g1]; exact wT_self _ _
  rw [e3] at k2
  refine k2.trans ?_
  show Ev _ _ _ _ _ _ = _
  rw [s26_79]
  simp (maxSteps := 2000000) (disch := first | omega | with_reducible assumption | exact cobP | exact cobX | exact cobS (by omega) | exact bI_01 _ | exact Or.inl rfl | exact Or.inr rfl | (simp (decide := true) only [wid_0, wid_i, wid_l, wid_r, wid_n]; done) | decide | fail) only [s26_80, s26_81, s26_84, s26_85, s26_109 (st := []), Option.bind_some, Option.bind_none, Option.toList_some, Option.toList_none, List.cons_append, List.nil_append, clr_i, clr_r, clr_l, clr_n, nI_add, nsub, pk_mul, nle_F, nle_T, nlt_F, nlt_T, neq_F, nz_F, nz_T, nneg_F, npos_T, npos_lF, npos_lT, nle0_F, m1_neg, m1_pos, m1_z, neq_m1, m1_neq, ↓reduceIte, if_true, if_false, not_true_eq_false, not_false_eq_true, bI_eq0, Bool.true_eq_false, Bool.false_eq_true, true_and, and_true, false_and, and_false, true_or, or_true, false_or, or_false, decide_true, decide_false, Bool.and_self, Bool.true_and, Bool.and_true, Bool.false_and, Bool.and_false, Bool.true_or, Bool.or_true, Bool.false_or, Bool.or_false, Bool.not_true, Bool.not_false, g_8_29_7, p_8_29_7, g_8_32_7, p_8_32_7, g_8_9_7, g_8_15_7, g_8_18_7, n_le]
end KH
