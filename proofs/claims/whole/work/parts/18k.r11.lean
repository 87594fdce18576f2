/-! the reference: what a term is worth at every place of a box -/
theorem nI_ij {a b : Nat} (ha : a < 2 ^ 31) (hb : b < 2 ^ 31) (h : nI a = nI b) : a = b := by
  by_cases q : a = b
  · exact q
  · have := neq_F q ha hb
    rw [h] at this
    simp at this
theorem itr_cg {α : Type} {g g' : Nat → α → α} {a : α} {n : Nat} (h : ∀ k, k < n → ∀ b, g k b = g' k b) : itr g a n = itr g' a n := by
  induction n with
  | zero => rfl
  | succ n ih => rw [itr_s, itr_s, ih (fun k hk => h k (by omega)), h n (by omega)]
theorem orU_cg {F G : Nat → Int32} {n : Nat} (h : ∀ k, k < n → F k = G k) : orU F n = orU G n := itr_cg (fun k hk b => by rw [h k hk])
def sem (w : WD) (fs sn : Nat → Option Nat) (n : Nat) (tm : Nat → Nat → Nat) (t x y z : Nat) : Int32 × Int32 :=
  semO w fs sn n tm (fun a x y z => if h : a < t then sem w fs sn n tm a x y z else (nI 0, nI 0)) t x y z
termination_by t
decreasing_by exact h
theorem pl0_lt {v p x : Nat} (hp : p < 16) (hx : x < 16) : pl0 v p x < 16 := by unfold pl0; split <;> omega
theorem pl1_lt {v p x : Nat} (hp : p < 16) (hx : x < 16) : pl1 v p x < 16 := by unfold pl1; split <;> omega
theorem pl2_lt {v p x : Nat} (hp : p < 16) (hx : x < 16) : pl2 v p x < 16 := by unfold pl2; split <;> omega
theorem semO_g {w w0 : WD} {fs sn : Nat → Option Nat} {n t x y z : Nat} {tm : Nat → Nat → Nat} {g g' : Nat → Nat → Nat → Nat → Int32 × Int32} (T : TMt w0 tm t)
    (h1 : 6 ≤ tm t 0 → tm t 0 < 14 → g (tm t 1) x y z = g' (tm t 1) x y z ∧ g (tm t 2) x y z = g' (tm t 2) x y z)
    (h2 : tm t 0 = 14 → ∀ p, p < 16 → g (tm t 2) (pl0 (tm t 1) p x) (pl1 (tm t 1) p y) (pl2 (tm t 1) p z) = g' (tm t 2) (pl0 (tm t 1) p x) (pl1 (tm t 1) p y) (pl2 (tm t 1) p z)) : semO w fs sn n tm g t x y z = semO w fs sn n tm g' t x y z := by
  unfold semO
  by_cases q : tm t 0 < 6
  · simp only [if_pos q]
  · by_cases q2 : tm t 0 < 14
    · obtain ⟨e1, e2⟩ := h1 (by omega) q2
      have hc : tm t 0 = 6 ∨ tm t 0 = 7 ∨ tm t 0 = 8 ∨ tm t 0 = 9 ∨ tm t 0 = 10 ∨ tm t 0 = 11 ∨ tm t 0 = 12 ∨ tm t 0 = 13 := by omega
      rw [e1, e2]
      rcases hc with h | h | h | h | h | h | h | h <;> simp [h]
    · have h14 : tm t 0 = 14 := by have := T.2.1; omega
      simp only [h14, show ¬ (14 : Nat) < 6 by omega, show ¬ (14 : Nat) = 6 by omega, show ¬ (14 : Nat) = 7 by omega, show ¬ (14 : Nat) = 8 by omega, show ¬ (14 : Nat) = 9 by omega, show ¬ (14 : Nat) = 10 by omega, show ¬ (14 : Nat) = 11 by omega, show ¬ (14 : Nat) = 12 by omega, show ¬ (14 : Nat) = 13 by omega, if_false]
      congr 1
      · exact orU_cg (fun p hp => by rw [h2 h14 p hp])
      · exact orU_cg (fun p hp => by rw [h2 h14 p hp])
theorem sem_eq {w w0 : WD} {fs sn : Nat → Option Nat} {n t x y z : Nat} {tm : Nat → Nat → Nat} (T : TMt w0 tm t) : sem w fs sn n tm t x y z = semO w fs sn n tm (sem w fs sn n tm) t x y z := by
  rw [sem]
  refine semO_g T (fun a b => ?_) (fun a p hp => ?_)
  · obtain ⟨-, h1, -, h2⟩ := T.2.2.2.2.1 a b
    rw [dif_pos h1, dif_pos h2]
    exact ⟨rfl, rfl⟩
  · rw [dif_pos (T.2.2.2.2.2 a).2.2.2]
def inBx (L H : Nat → Nat) (x y z : Nat) : Prop := (L 0 ≤ x ∧ x ≤ H 0) ∧ (L 1 ≤ y ∧ y ≤ H 1) ∧ (L 2 ≤ z ∧ z ≤ H 2)
/-- the places done so far -/
def dnP (L H : Nat → Nat) (A : Nat → Int32) (G : Nat → Nat → Nat → Nat → Int32 × Int32) (k x y z : Nat) (S M : Nat → Int32) : Prop :=
  (∀ j, j < k → A j = nI 1 → ∀ x' y' z', inBx L H x' y' z' → gST S M j x' y' z' = G j x' y' z') ∧
  (A k = nI 1 → ∀ x' y' z', inBx L H x' y' z' → (x' < x ∨ (x' = x ∧ (y' < y ∨ (y' = y ∧ z' < z)))) → gST S M k x' y' z' = G k x' y' z')
def bxW (w : WD) (L H : Nat → Nat) : Prop := ∀ v, v < 3 → w 20 v = nI (L v) ∧ w 21 v = nI (H v) ∧ L v ≤ H v ∧ H v < 16
theorem dnP_step {w : WD} {fs sn : Nat → Option Nat} {n k x y z : Nat} {tm : Nat → Nat → Nat} {L H : Nat → Nat} {S M : Nat → Int32} (T : TMt w tm k) (hB : bxW w L H) (ho : okA tm k (w 19) (w 20) (w 21)) (hk : w 19 k = nI 1) (hxyz : inBx L H x y z) (hD : dnP L H (w 19) (sem w fs sn n tm) k x y z S M) :
    dnP L H (w 19) (sem w fs sn n tm) k x y (z + 1) (upd S (ix k x y z) (semO w fs sn n tm (gST S M) k x y z).1) (upd M (ix k x y z) (semO w fs sn n tm (gST S M) k x y z).2) := by
  obtain ⟨hb0, hb1, hb2⟩ : (H 0 < 16) ∧ (H 1 < 16) ∧ (H 2 < 16) := ⟨(hB 0 (by omega)).2.2.2, (hB 1 (by omega)).2.2.2, (hB 2 (by omega)).2.2.2⟩
  have hs : semO w fs sn n tm (gST S M) k x y z = sem w fs sn n tm k x y z := by
    rw [sem_eq T]
    refine semO_g T (fun a b => ?_) (fun a p hp => ?_)
    · obtain ⟨-, h1, -, h2⟩ := T.2.2.2.2.1 a b
      obtain ⟨o1, o2⟩ := (ho hk a).1 b
      exact ⟨hD.1 _ h1 o1 _ _ _ hxyz, hD.1 _ h2 o2 _ _ _ hxyz⟩
    · obtain ⟨-, hv, -, h2⟩ := T.2.2.2.2.2 a
      obtain ⟨o1, o2, o3⟩ := (ho hk (by omega)).2 a
      refine hD.1 _ h2 o1 _ _ _ ?_
      obtain ⟨f1, f2, f3, f4⟩ := hB _ hv
      have g1 := nI_ij (by omega) (by omega) (f1.symm.trans o2)
      have g2 := nI_ij (by omega) (by omega) (f2.symm.trans o3)
      unfold inBx at hxyz ⊢
      unfold pl0 pl1 pl2
      have hc : tm k 1 = 0 ∨ tm k 1 = 1 ∨ tm k 1 = 2 := by omega
      rcases hc with q | q | q <;> rw [q] at g1 g2 <;> simp only [q] <;> simp <;> omega
  rw [hs]
  have oth : ∀ j x' y' z', inBx L H x' y' z' → ¬ (j = k ∧ x' = x ∧ y' = y ∧ z' = z) → gST (upd S (ix k x y z) (sem w fs sn n tm k x y z).1) (upd M (ix k x y z) (sem w fs sn n tm k x y z).2) j x' y' z' = gST S M j x' y' z' := by
    intro j x' y' z' hi hne
    have : ix j x' y' z' ≠ ix k x y z := by
      unfold inBx at hi hxyz
      unfold ix
      omega
    unfold gST
    rw [upd_of this, upd_of this]
  refine ⟨fun j hj hA x' y' z' hi => ?_, fun hA x' y' z' hi hlt => ?_⟩
  · rw [oth j x' y' z' hi (by omega)]
    exact hD.1 j hj hA x' y' z' hi
  · by_cases q : x' = x ∧ y' = y ∧ z' = z
    · obtain ⟨rfl, rfl, rfl⟩ := q
      unfold gST
      rw [upd_at, upd_at]
    · rw [oth k x' y' z' hi (by omega)]
      exact hD.2 hA x' y' z' hi (by omega)
section R11
variable {f : Hf} {m d sz us : Nat} {w : WD} {y : Nat → Int64}
theorem R_workBox {tm : Nat → Nat → Nat} {fs sn : Nat → Option Nat} {n t : Nat} {L H : Nat → Nat} {S M : Nat → Int32} (hn : w 0 1 = nI n) (hn30 : n ≤ 30) (hA : AHs w fs sn n) (ht : t < 60) (hT : ∀ i, i ≤ t → TMt w tm i) (hB : bxW w L H) (ho : ∀ k, k ≤ t → okA tm k (w 19) (w 20) (w 21)) (h01 : ∀ i, i < 60 → w 19 i = nI 0 ∨ w 19 i = nI 1) :
    ∃ S' M', dnP L H (w 19) (sem w fs sn n tm) (t + 1) 0 0 0 S' M' ∧ Ev (d + 4) 178 11 [some (.ref m), some (.int (nI t)), some (.int (nI 0)), none, none, none] [] (sz, us, emR f m (wST w S M) y) = some (none, (sz, us, emR f m (wST w S' M') y)) := by
  obtain ⟨l0, h0, lh0, hb0⟩ := hB 0 (by omega)
  obtain ⟨l1, h1, lh1, hb1⟩ := hB 1 (by omega)
  obtain ⟨l2, h2, lh2, hb2⟩ := hB 2 (by omega)
  have one : ∀ k, k ≤ t → ∀ x yy z, inBx L H x yy z → ∀ S M, Ev (d + 3) 177 0 [some (.ref m), some (.int (nI k)), some (.int (nI x)), some (.int (nI yy)), some (.int (nI z)), none, none, none, none, none, none, none, none] [] (sz, us, emR f m (wST w S M) y) = some (none, (sz, us, emR f m (wST w (upd S (ix k x yy z) (semO w fs sn n tm (gST S M) k x yy z).1) (upd M (ix k x yy z) (semO w fs sn n tm (gST S M) k x yy z).2)) y)) := fun k hk x yy z hi S M => R_workOne hn hn30 hA (by omega) (by unfold inBx at hi; omega) (by unfold inBx at hi; omega) (by unfold inBx at hi; omega) (hT k hk)
  have zl : ∀ k, k ≤ t → w 19 k = nI 1 → ∀ x yy S M, (L 0 ≤ x ∧ x ≤ H 0) → (L 1 ≤ yy ∧ yy ≤ H 1) → dnP L H (w 19) (sem w fs sn n tm) k x yy 0 S M → ∃ S' M' a5', dnP L H (w 19) (sem w fs sn n tm) k x (yy + 1) 0 S' M' ∧ Ev (d + 4) 178 69 [some (.ref m), some (.int (nI t)), some (.int (nI k)), some (.int (nI x)), some (.int (nI yy)), some (.int (nI (L 2)))] [] (sz, us, emR f m (wST w S M) y) = Ev (d + 4) 178 50 [some (.ref m), some (.int (nI t)), some (.int (nI k)), some (.int (nI x)), some (.int (nI (yy + 1))), a5'] [] (sz, us, emR f m (wST w S' M') y) := by
    intro k hk hak x yy S M hx hy hD
    obtain ⟨s', hI, key⟩ := loopI (fun z (s : (Nat → Int32) × (Nat → Int32)) => Ev (d + 4) 178 69 [some (.ref m), some (.int (nI t)), some (.int (nI k)), some (.int (nI x)), some (.int (nI yy)), some (.int (nI z))] [] (sz, us, emR f m (wST w s.1 s.2) y)) (fun z s => dnP L H (w 19) (sem w fs sn n tm) k x yy z s.1 s.2) (L 2) (H 2 + 1) (by omega) (fun z hz1 hz2 s hs => by
      obtain ⟨S, M⟩ := s
      have hi : inBx L H x yy z := ⟨hx, hy, hz1, by omega⟩
      refine ⟨(upd S (ix k x yy z) (semO w fs sn n tm (gST S M) k x yy z).1, upd M (ix k x yy z) (semO w fs sn n tm (gST S M) k x yy z).2), dnP_step (hT k hk) hB (ho k hk) hak hi hs, ?_⟩
      show Ev _ _ _ _ _ _ = Ev _ _ _ _ _ (_, _, emR f m (wST w (upd S (ix k x yy z) (semO w fs sn n tm (gST S M) k x yy z).1) (upd M (ix k x yy z) (semO w fs sn n tm (gST S M) k x yy z).2)) y)
      rw [s178_69]
      simp (maxSteps := 2000000) (disch := first | omega | with_reducible assumption | exact cobR | exact bI_01 _ | exact Or.inl rfl | exact Or.inr rfl | (simp (decide := true) only [wid_0, wid_i, wid_l, wid_r, wid_n]; done) | decide | fail) only [s178_71, s178_72, s178_75, s178_76, s178_77, s178_80, s178_81, s178_82, s178_83, s178_85, s178_87, s178_90, s178_93, Option.bind_some, Option.bind_none, Option.toList_some, Option.toList_none, List.cons_append, List.nil_append, clr_i, clr_r, clr_l, clr_n, nI_add, nsub, pk_mul, nle_F, nle_T, nlt_F, nlt_T, neq_F, nz_F, nz_T, nneg_F, npos_T, npos_lF, npos_lT, nle0_F, m1_neg, m1_pos, m1_z, neq_m1, m1_neq, ↓reduceIte, if_true, if_false, not_true_eq_false, not_false_eq_true, bI_eq0, Bool.true_eq_false, Bool.false_eq_true, true_and, and_true, false_and, and_false, true_or, or_true, false_or, or_false, decide_true, decide_false, Bool.and_self, Bool.true_and, Bool.and_true, Bool.false_and, Bool.and_false, Bool.true_or, Bool.or_true, Bool.false_or, Bool.or_false, Bool.not_true, Bool.not_false, gR_87, ra_21, wa_21, ha_21, wST_21, h2, one k hk x yy z hi]) (S, M) ⟨hD.1, fun a x' y' z' hi q => hD.2 a x' y' z' hi (by unfold inBx at hi; omega)⟩
    obtain ⟨S', M'⟩ := s'
    refine ⟨S', M', some (.int (nI (H 2 + 1))), ⟨hI.1, fun a x' y' z' hi q => hI.2 a x' y' z' hi (by unfold inBx at hi; omega)⟩, ?_⟩
    refine key.trans ?_
    show Ev _ _ _ _ _ _ = _
    rw [s178_69]
    simp (maxSteps := 2000000) (disch := first | omega | with_reducible assumption | exact cobR | exact bI_01 _ | exact Or.inl rfl | exact Or.inr rfl | (simp (decide := true) only [wid_0, wid_i, wid_l, wid_r, wid_n]; done) | decide | fail) only [s178_71, s178_72, s178_75, s178_76, s178_77, s178_80, s178_81, s178_82, s178_83, s178_85, s178_87, s178_90, s178_93, s178_96, s178_99, Option.bind_some, Option.bind_none, Option.toList_some, Option.toList_none, List.cons_append, List.nil_append, clr_i, clr_r, clr_l, clr_n, nI_add, nsub, pk_mul, nle_F, nle_T, nlt_F, nlt_T, neq_F, nz_F, nz_T, nneg_F, npos_T, npos_lF, npos_lT, nle0_F, m1_neg, m1_pos, m1_z, neq_m1, m1_neq, ↓reduceIte, if_true, if_false, not_true_eq_false, not_false_eq_true, bI_eq0, Bool.true_eq_false, Bool.false_eq_true, true_and, and_true, false_and, and_false, true_or, or_true, false_or, or_false, decide_true, decide_false, Bool.and_self, Bool.true_and, Bool.and_true, Bool.false_and, Bool.and_false, Bool.true_or, Bool.or_true, Bool.false_or, Bool.or_false, Bool.not_true, Bool.not_false, gR_87, ra_21, wa_21, ha_21, wST_21, h2]
  have yl : ∀ k, k ≤ t → w 19 k = nI 1 → ∀ x S M a5, (L 0 ≤ x ∧ x ≤ H 0) → dnP L H (w 19) (sem w fs sn n tm) k x 0 0 S M → ∃ S' M' a4' a5', dnP L H (w 19) (sem w fs sn n tm) k (x + 1) 0 0 S' M' ∧ Ev (d + 4) 178 50 [some (.ref m), some (.int (nI t)), some (.int (nI k)), some (.int (nI x)), some (.int (nI (L 1))), a5] [] (sz, us, emR f m (wST w S M) y) = Ev (d + 4) 178 23 [some (.ref m), some (.int (nI t)), some (.int (nI k)), some (.int (nI (x + 1))), a4', a5'] [] (sz, us, emR f m (wST w S' M') y) := by
    intro k hk hak x S M a5 hx hD
    obtain ⟨s', hI, key⟩ := loopI (fun yy (s : (Nat → Int32) × (Nat → Int32) × Option Value) => Ev (d + 4) 178 50 [some (.ref m), some (.int (nI t)), some (.int (nI k)), some (.int (nI x)), some (.int (nI yy)), s.2.2] [] (sz, us, emR f m (wST w s.1 s.2.1) y)) (fun yy s => dnP L H (w 19) (sem w fs sn n tm) k x yy 0 s.1 s.2.1) (L 1) (H 1 + 1) (by omega) (fun yy hz1 hz2 s hs => by
      obtain ⟨S, M, a5⟩ := s
      obtain ⟨S', M', a5', hI, key⟩ := zl k hk hak x yy S M hx ⟨hz1, by omega⟩ hs
      refine ⟨(S', M', a5'), hI, ?_⟩
      show Ev _ _ _ [_, _, _, _, _, a5] _ (_, _, emR f m (wST w S M) y) = Ev _ _ _ [_, _, _, _, _, a5'] _ (_, _, emR f m (wST w S' M') y)
      rw [s178_50]
      simp (maxSteps := 2000000) (disch := first | omega | with_reducible assumption | exact cobR | exact bI_01 _ | exact Or.inl rfl | exact Or.inr rfl | (simp (decide := true) only [wid_0, wid_i, wid_l, wid_r, wid_n]; done) | decide | fail) only [s178_52, s178_53, s178_56, s178_57, s178_58, s178_61, s178_62, s178_65, s178_66, s178_67, Option.bind_some, Option.bind_none, Option.toList_some, Option.toList_none, List.cons_append, List.nil_append, clr_i, clr_r, clr_l, clr_n, nI_add, nsub, pk_mul, nle_F, nle_T, nlt_F, nlt_T, neq_F, nz_F, nz_T, nneg_F, npos_T, npos_lF, npos_lT, nle0_F, m1_neg, m1_pos, m1_z, neq_m1, m1_neq, ↓reduceIte, if_true, if_false, not_true_eq_false, not_false_eq_true, bI_eq0, Bool.true_eq_false, Bool.false_eq_true, true_and, and_true, false_and, and_false, true_or, or_true, false_or, or_false, decide_true, decide_false, Bool.and_self, Bool.true_and, Bool.and_true, Bool.false_and, Bool.and_false, Bool.true_or, Bool.or_true, Bool.false_or, Bool.or_false, Bool.not_true, Bool.not_false, gR_84, ra_20, wa_20, ha_20, gR_87, ra_21, wa_21, ha_21, wST_21, wST_20, h1, l2]
      exact key) (S, M, a5) ⟨hD.1, fun a x' y' z' hi q => hD.2 a x' y' z' hi (by unfold inBx at hi; omega)⟩
    obtain ⟨S', M', a5'⟩ := s'
    refine ⟨S', M', some (.int (nI (H 1 + 1))), a5', ⟨hI.1, fun a x' y' z' hi q => hI.2 a x' y' z' hi (by unfold inBx at hi; omega)⟩, ?_⟩
    refine key.trans ?_
    show Ev _ _ _ _ _ _ = _
    rw [s178_50]
    simp (maxSteps := 2000000) (disch := first | omega | with_reducible assumption | exact cobR | exact bI_01 _ | exact Or.inl rfl | exact Or.inr rfl | (simp (decide := true) only [wid_0, wid_i, wid_l, wid_r, wid_n]; done) | decide | fail) only [s178_52, s178_53, s178_56, s178_57, s178_58, s178_61, s178_96, s178_99, s178_102, s178_105, Option.bind_some, Option.bind_none, Option.toList_some, Option.toList_none, List.cons_append, List.nil_append, clr_i, clr_r, clr_l, clr_n, nI_add, nsub, pk_mul, nle_F, nle_T, nlt_F, nlt_T, neq_F, nz_F, nz_T, nneg_F, npos_T, npos_lF, npos_lT, nle0_F, m1_neg, m1_pos, m1_z, neq_m1, m1_neq, ↓reduceIte, if_true, if_false, not_true_eq_false, not_false_eq_true, bI_eq0, Bool.true_eq_false, Bool.false_eq_true, true_and, and_true, false_and, and_false, true_or, or_true, false_or, or_false, decide_true, decide_false, Bool.and_self, Bool.true_and, Bool.and_true, Bool.false_and, Bool.and_false, Bool.true_or, Bool.or_true, Bool.false_or, Bool.or_false, Bool.not_true, Bool.not_false, gR_87, ra_21, wa_21, ha_21, wST_21, h1]
  have xl : ∀ k, k ≤ t → w 19 k = nI 1 → ∀ S M a4 a5, dnP L H (w 19) (sem w fs sn n tm) k 0 0 0 S M → ∃ S' M' a3' a4' a5', dnP L H (w 19) (sem w fs sn n tm) (k + 1) 0 0 0 S' M' ∧ Ev (d + 4) 178 23 [some (.ref m), some (.int (nI t)), some (.int (nI k)), some (.int (nI (L 0))), a4, a5] [] (sz, us, emR f m (wST w S M) y) = Ev (d + 4) 178 11 [some (.ref m), some (.int (nI t)), some (.int (nI (k + 1))), a3', a4', a5'] [] (sz, us, emR f m (wST w S' M') y) := by
    intro k hk hak S M a4 a5 hD
    obtain ⟨s', hI, key⟩ := loopI (fun x (s : (Nat → Int32) × (Nat → Int32) × Option Value × Option Value) => Ev (d + 4) 178 23 [some (.ref m), some (.int (nI t)), some (.int (nI k)), some (.int (nI x)), s.2.2.1, s.2.2.2] [] (sz, us, emR f m (wST w s.1 s.2.1) y)) (fun x s => dnP L H (w 19) (sem w fs sn n tm) k x 0 0 s.1 s.2.1) (L 0) (H 0 + 1) (by omega) (fun x hz1 hz2 s hs => by
      obtain ⟨S, M, a4, a5⟩ := s
      obtain ⟨S', M', a4', a5', hI, key⟩ := yl k hk hak x S M a5 ⟨hz1, by omega⟩ hs
      refine ⟨(S', M', a4', a5'), hI, ?_⟩
      show Ev _ _ _ [_, _, _, _, a4, a5] _ (_, _, emR f m (wST w S M) y) = Ev _ _ _ [_, _, _, _, a4', a5'] _ (_, _, emR f m (wST w S' M') y)
      rw [s178_23]
      simp (maxSteps := 2000000) (disch := first | omega | with_reducible assumption | exact cobR | exact bI_01 _ | exact Or.inl rfl | exact Or.inr rfl | (simp (decide := true) only [wid_0, wid_i, wid_l, wid_r, wid_n]; done) | decide | fail) only [s178_24, s178_25, s178_28, s178_29, s178_30, s178_33, s178_34, s178_37, s178_38, s178_39, s178_42, s178_43, s178_46, s178_47, s178_48, Option.bind_some, Option.bind_none, Option.toList_some, Option.toList_none, List.cons_append, List.nil_append, clr_i, clr_r, clr_l, clr_n, nI_add, nsub, pk_mul, nle_F, nle_T, nlt_F, nlt_T, neq_F, nz_F, nz_T, nneg_F, npos_T, npos_lF, npos_lT, nle0_F, m1_neg, m1_pos, m1_z, neq_m1, m1_neq, ↓reduceIte, if_true, if_false, not_true_eq_false, not_false_eq_true, bI_eq0, Bool.true_eq_false, Bool.false_eq_true, true_and, and_true, false_and, and_false, true_or, or_true, false_or, or_false, decide_true, decide_false, Bool.and_self, Bool.true_and, Bool.and_true, Bool.false_and, Bool.and_false, Bool.true_or, Bool.or_true, Bool.false_or, Bool.or_false, Bool.not_true, Bool.not_false, gR_84, ra_20, wa_20, ha_20, gR_87, ra_21, wa_21, ha_21, gR_81, ra_19, wa_19, ha_19, wST_21, wST_20, wST_19, h0, l1, hak]
      exact key) (S, M, a4, a5) ⟨hD.1, fun a x' y' z' hi q => hD.2 a x' y' z' hi (by unfold inBx at hi; omega)⟩
    obtain ⟨S', M', a4', a5'⟩ := s'
    refine ⟨S', M', some (.int (nI (H 0 + 1))), a4', a5', ⟨fun j hj a x' y' z' hi => ?_, fun a x' y' z' hi q => absurd q (by omega)⟩, ?_⟩
    · by_cases q : j = k
      · rw [q]; exact hI.2 hak x' y' z' hi (by unfold inBx at hi; omega)
      · exact hI.1 j (by omega) a x' y' z' hi
    refine key.trans ?_
    show Ev _ _ _ _ _ _ = _
    rw [s178_23]
    simp (maxSteps := 2000000) (disch := first | omega | with_reducible assumption | exact cobR | exact bI_01 _ | exact Or.inl rfl | exact Or.inr rfl | (simp (decide := true) only [wid_0, wid_i, wid_l, wid_r, wid_n]; done) | decide | fail) only [s178_24, s178_25, s178_28, s178_29, s178_30, s178_33, s178_108, s178_111, Option.bind_some, Option.bind_none, Option.toList_some, Option.toList_none, List.cons_append, List.nil_append, clr_i, clr_r, clr_l, clr_n, nI_add, nsub, pk_mul, nle_F, nle_T, nlt_F, nlt_T, neq_F, nz_F, nz_T, nneg_F, npos_T, npos_lF, npos_lT, nle0_F, m1_neg, m1_pos, m1_z, neq_m1, m1_neq, ↓reduceIte, if_true, if_false, not_true_eq_false, not_false_eq_true, bI_eq0, Bool.true_eq_false, Bool.false_eq_true, true_and, and_true, false_and, and_false, true_or, or_true, false_or, or_false, decide_true, decide_false, Bool.and_self, Bool.true_and, Bool.and_true, Bool.false_and, Bool.and_false, Bool.true_or, Bool.or_true, Bool.false_or, Bool.or_false, Bool.not_true, Bool.not_false, gR_87, ra_21, wa_21, ha_21, wST_21, h0]
  obtain ⟨s', hI, key⟩ := loopI (fun k (s : (Nat → Int32) × (Nat → Int32) × Option Value × Option Value × Option Value) => Ev (d + 4) 178 11 [some (.ref m), some (.int (nI t)), some (.int (nI k)), s.2.2.1, s.2.2.2.1, s.2.2.2.2] [] (sz, us, emR f m (wST w s.1 s.2.1) y)) (fun k s => dnP L H (w 19) (sem w fs sn n tm) k 0 0 0 s.1 s.2.1) 0 (t + 1) (by omega) (fun k hz1 hz2 s hs => by
    obtain ⟨S, M, a3, a4, a5⟩ := s
    have hs : dnP L H (w 19) (sem w fs sn n tm) k 0 0 0 S M := hs
    rcases h01 k (by omega) with hak | hak
    · refine ⟨(S, M, some (.int (nI (L 0))), a4, a5), ⟨fun j hj a x' y' z' hi => ?_, fun a x' y' z' hi q => absurd q (by omega)⟩, ?_⟩
      · by_cases q : j = k
        · rw [q, hak] at a; exact absurd a (by decide)
        · exact hs.1 j (by omega) a x' y' z' hi
      show Ev _ _ _ [_, _, _, a3, a4, a5] _ (_, _, emR f m (wST w S M) y) = Ev _ _ _ [_, _, _, _, a4, a5] _ (_, _, emR f m (wST w S M) y)
      rw [s178_11]
      simp (maxSteps := 2000000) (disch := first | omega | with_reducible assumption | exact cobR | exact bI_01 _ | exact Or.inl rfl | exact Or.inr rfl | (simp (decide := true) only [wid_0, wid_i, wid_l, wid_r, wid_n]; done) | decide | fail) only [s178_12, s178_13, s178_16, s178_17, s178_20, s178_21, s178_22, s178_23, s178_24, s178_25, s178_28, s178_29, s178_30, s178_33, s178_34, s178_37, s178_38, s178_39, s178_108, s178_111, Option.bind_some, Option.bind_none, Option.toList_some, Option.toList_none, List.cons_append, List.nil_append, clr_i, clr_r, clr_l, clr_n, nI_add, nsub, pk_mul, nle_F, nle_T, nlt_F, nlt_T, neq_F, nz_F, nz_T, nneg_F, npos_T, npos_lF, npos_lT, nle0_F, m1_neg, m1_pos, m1_z, neq_m1, m1_neq, ↓reduceIte, if_true, if_false, not_true_eq_false, not_false_eq_true, bI_eq0, Bool.true_eq_false, Bool.false_eq_true, true_and, and_true, false_and, and_false, true_or, or_true, false_or, or_false, decide_true, decide_false, Bool.and_self, Bool.true_and, Bool.and_true, Bool.false_and, Bool.and_false, Bool.true_or, Bool.or_true, Bool.false_or, Bool.or_false, Bool.not_true, Bool.not_false, gR_84, ra_20, wa_20, ha_20, gR_87, ra_21, wa_21, ha_21, gR_81, ra_19, wa_19, ha_19, wST_21, wST_20, wST_19, l0, h0, hak]
    · obtain ⟨S', M', a3', a4', a5', hI, key⟩ := xl k (by omega) hak S M a4 a5 hs
      refine ⟨(S', M', a3', a4', a5'), hI, ?_⟩
      show Ev _ _ _ [_, _, _, a3, a4, a5] _ (_, _, emR f m (wST w S M) y) = Ev _ _ _ [_, _, _, a3', a4', a5'] _ (_, _, emR f m (wST w S' M') y)
      rw [s178_11]
      simp (maxSteps := 2000000) (disch := first | omega | with_reducible assumption | exact cobR | exact bI_01 _ | exact Or.inl rfl | exact Or.inr rfl | (simp (decide := true) only [wid_0, wid_i, wid_l, wid_r, wid_n]; done) | decide | fail) only [s178_12, s178_13, s178_16, s178_17, s178_20, s178_21, s178_22, Option.bind_some, Option.bind_none, Option.toList_some, Option.toList_none, List.cons_append, List.nil_append, clr_i, clr_r, clr_l, clr_n, nI_add, nsub, pk_mul, nle_F, nle_T, nlt_F, nlt_T, neq_F, nz_F, nz_T, nneg_F, npos_T, npos_lF, npos_lT, nle0_F, m1_neg, m1_pos, m1_z, neq_m1, m1_neq, ↓reduceIte, if_true, if_false, not_true_eq_false, not_false_eq_true, bI_eq0, Bool.true_eq_false, Bool.false_eq_true, true_and, and_true, false_and, and_false, true_or, or_true, false_or, or_false, decide_true, decide_false, Bool.and_self, Bool.true_and, Bool.and_true, Bool.false_and, Bool.and_false, Bool.true_or, Bool.or_true, Bool.false_or, Bool.or_false, Bool.not_true, Bool.not_false, gR_84, ra_20, wa_20, ha_20, gR_87, ra_21, wa_21, ha_21, wST_21, wST_20, l0]
      exact key) (S, M, none, none, none) ⟨fun j hj => absurd hj (by omega), fun a x' y' z' hi q => absurd q (by omega)⟩
  obtain ⟨S', M', a3, a4, a5⟩ := s'
  refine ⟨S', M', hI, ?_⟩
  refine key.trans ?_
  show Ev _ _ _ _ _ _ = _
  rw [s178_11]
  simp (maxSteps := 2000000) (disch := first | omega | with_reducible assumption | exact cobR | exact bI_01 _ | exact Or.inl rfl | exact Or.inr rfl | (simp (decide := true) only [wid_0, wid_i, wid_l, wid_r, wid_n]; done) | decide | fail) only [s178_12, s178_13, s178_16, s178_114 (st := []), Option.bind_some, Option.bind_none, Option.toList_some, Option.toList_none, List.cons_append, List.nil_append, clr_i, clr_r, clr_l, clr_n, nI_add, nsub, pk_mul, nle_F, nle_T, nlt_F, nlt_T, neq_F, nz_F, nz_T, nneg_F, npos_T, npos_lF, npos_lT, nle0_F, m1_neg, m1_pos, m1_z, neq_m1, m1_neq, ↓reduceIte, if_true, if_false, not_true_eq_false, not_false_eq_true, bI_eq0, Bool.true_eq_false, Bool.false_eq_true, true_and, and_true, false_and, and_false, true_or, or_true, false_or, or_false, decide_true, decide_false, Bool.and_self, Bool.true_and, Bool.and_true, Bool.false_and, Bool.and_false, Bool.true_or, Bool.or_true, Bool.false_or, Bool.or_false, Bool.not_true, Bool.not_false]
end R11
