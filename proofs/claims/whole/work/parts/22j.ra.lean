/-! class and reference: read, undo, a new state -/
section TKO
def SEs (c w : WD) (s : Nat) : Prop := c (8 + 4 * s) 3 = w 3 s ∧ c (8 + 4 * s) 4 = w 5 s ∧ c (8 + 4 * s) 5 = w 4 s ∧ (∀ p, p < 16 → c (9 + 4 * s) p = w 6 (16 * s + p) ∧ c (10 + 4 * s) p = w 7 (16 * s + p)) ∧ (∀ k, k < 3 → ∀ p, p < 16 → c (11 + 4 * s) (k * 16 + p) = w 8 (lk s k p))
variable {s f : Nat} {w : WD}
theorem tkL_it {p : Nat} (hsf : s ≠ f) (hp : p < 16) (w : WD) : ∀ m, m ≤ 3 → ∀ kk i, itr (tkL s f p) w m kk i = if kk = 8 ∧ 48 * s ≤ i ∧ i < 48 * s + 16 * m ∧ i % 16 = p then w 8 i ||| w 8 (48 * f + (i - 48 * s)) else w kk i := by
  intro m
  induction m with
  | zero => intro _ kk i; rw [if_neg (by omega)]; rfl
  | succ m ih =>
    intro hm kk i
    have h := ih (by omega)
    rw [itr_s]
    generalize itr (tkL s f p) w m = y at h ⊢
    have e1 : y 8 ((3 * s + m) * 16 + p) = w 8 ((3 * s + m) * 16 + p) := by rw [h, if_neg (by omega)]
    have e2 : y 8 ((3 * f + m) * 16 + p) = w 8 ((3 * f + m) * 16 + p) := by rw [h, if_neg (by omega)]
    unfold tkL
    rw [wU_ap, e1, e2]
    by_cases q : kk = 8 ∧ i = (3 * s + m) * 16 + p
    · rw [if_pos q, if_pos (by omega), q.2, show 48 * f + ((3 * s + m) * 16 + p - 48 * s) = (3 * f + m) * 16 + p by omega]
    · rw [if_neg q, h]
      by_cases q2 : kk = 8 ∧ 48 * s ≤ i ∧ i < 48 * s + 16 * m ∧ i % 16 = p
      · rw [if_pos q2, if_pos (by omega)]
      · rw [if_neg q2, if_neg (by omega)]
theorem tkP_it (hsf : s ≠ f) (w : WD) : ∀ m, m ≤ 16 → (∀ i, itr (tkP s f) w m 8 i = if 48 * s ≤ i ∧ i < 48 * s + 48 ∧ i % 16 < m then w 8 i ||| w 8 (48 * f + (i - 48 * s)) else w 8 i) ∧
    (∀ kk i, kk ≠ 8 → itr (tkP s f) w m kk i = if (kk = 6 ∨ kk = 7) ∧ 16 * s ≤ i ∧ i < 16 * s + m ∧ tb (w 4 f) (i - 16 * s) = true ∧ tb (w 4 s) (i - 16 * s) = false then w kk (16 * f + (i - 16 * s)) else w kk i) := by
  intro m
  induction m with
  | zero => intro _; exact ⟨fun i => by rw [if_neg (by omega)]; rfl, fun kk i _ => by rw [if_neg (by omega)]; rfl⟩
  | succ m ih =>
    intro hm
    obtain ⟨h8, hk⟩ := ih (by omega)
    rw [itr_s]
    generalize itr (tkP s f) w m = y at h8 hk ⊢
    have hL := tkL_it (p := m) hsf (by omega) y 3 (Nat.le_refl 3)
    unfold tkP
    generalize itr (tkL s f m) y 3 = u at hL ⊢
    have u8 : ∀ i, u 8 i = if 48 * s ≤ i ∧ i < 48 * s + 48 ∧ i % 16 < m + 1 then w 8 i ||| w 8 (48 * f + (i - 48 * s)) else w 8 i := by
      intro i
      rw [hL]
      by_cases q : 8 = 8 ∧ 48 * s ≤ i ∧ i < 48 * s + 16 * 3 ∧ i % 16 = m
      · rw [if_pos q, if_pos (by omega), h8, if_neg (by omega), h8, if_neg (by omega)]
      · rw [if_neg q, h8]
        by_cases q2 : 48 * s ≤ i ∧ i < 48 * s + 48 ∧ i % 16 < m
        · rw [if_pos q2, if_pos (by omega)]
        · rw [if_neg q2, if_neg (by omega)]
    have uk : ∀ kk i, kk ≠ 8 → u kk i = y kk i := fun kk i hkk => by rw [hL, if_neg (by omega)]
    have u4 : ∀ i, u 4 i = w 4 i := fun i => by rw [uk 4 i (by omega), hk 4 i (by omega), if_neg (by omega)]
    rw [u4, u4]
    have uf : ∀ kk, kk ≠ 8 → u kk (16 * f + m) = w kk (16 * f + m) := fun kk hkk => by rw [uk kk _ hkk, hk kk _ hkk, if_neg (by omega)]
    by_cases t1 : tb (w 4 f) m = false
    · rw [if_pos t1]
      refine ⟨u8, fun kk i hkk => ?_⟩
      rw [uk kk i hkk, hk kk i hkk]
      by_cases q : i = 16 * s + m
      · rw [if_neg (by omega), if_neg (fun h => ?_)]
        have e := h.2.2.2.1
        rw [q, Nat.add_sub_cancel_left, t1] at e
        cases e
      · simp only [show i < 16 * s + (m + 1) ↔ i < 16 * s + m by omega]
    · have t1' : tb (w 4 f) m = true := by simpa using t1
      rw [if_neg t1]
      by_cases t2 : tb (w 4 s) m = false
      · rw [if_pos t2]
        refine ⟨fun i => by rw [wU_off (by omega), wU_off (by omega)]; exact u8 i, fun kk i hkk => ?_⟩
        rw [wU_ap, wU_ap, uf 6 (by omega), uf 7 (by omega)]
        by_cases q : i = 16 * s + m
        · subst q
          rw [Nat.add_sub_cancel_left, t1', t2]
          by_cases q7 : kk = 7
          · subst q7; rw [if_pos (by omega), if_pos ⟨by omega, by omega, by omega, rfl, rfl⟩]
          · rw [if_neg (by omega)]
            by_cases q6 : kk = 6
            · subst q6; rw [if_pos (by omega), if_pos ⟨by omega, by omega, by omega, rfl, rfl⟩]
            · rw [if_neg (by omega), if_neg (by omega), uk kk _ hkk, hk kk _ hkk, if_neg (by omega)]
        · rw [if_neg (by omega), if_neg (by omega), uk kk i hkk, hk kk i hkk]
          simp only [show i < 16 * s + (m + 1) ↔ i < 16 * s + m by omega]
      · rw [if_neg t2]
        refine ⟨u8, fun kk i hkk => ?_⟩
        rw [uk kk i hkk, hk kk i hkk]
        by_cases q : i = 16 * s + m
        · rw [if_neg (by omega), if_neg (fun h => ?_)]
          have e := h.2.2.2.2
          rw [q, Nat.add_sub_cancel_left] at e
          exact t2 e
        · simp only [show i < 16 * s + (m + 1) ↔ i < 16 * s + m by omega]
theorem tkO_8 (hsf : s ≠ f) (w : WD) (i : Nat) : tkO w s f 8 i = if 48 * s ≤ i ∧ i < 48 * s + 48 then w 8 i ||| w 8 (48 * f + (i - 48 * s)) else w 8 i := by
  unfold tkO
  rw [wU_off (by omega), wU_off (by omega), (tkP_it hsf w 16 (Nat.le_refl 16)).1]
  by_cases q : 48 * s ≤ i ∧ i < 48 * s + 48
  · rw [if_pos q, if_pos (by omega)]
  · rw [if_neg q, if_neg (by omega)]
theorem tkO_3 (hsf : s ≠ f) (w : WD) (i : Nat) : tkO w s f 3 i = if i = s then w 3 s ||| (w 3 f ||| sb f) else w 3 i := by
  have h := (tkP_it hsf w 16 (Nat.le_refl 16)).2
  unfold tkO
  have e3 : ∀ i, itr (tkP s f) w 16 3 i = w 3 i := fun i => by rw [h 3 i (by omega), if_neg (by omega)]
  simp only [wU_ap, show ¬ (3 = 4) by omega, false_and, if_false, e3]
  by_cases q : i = s
  · rw [if_pos ⟨trivial, q⟩, if_pos q]
  · rw [if_neg (by omega), if_neg q]
theorem tkO_4 (hsf : s ≠ f) (w : WD) (i : Nat) : tkO w s f 4 i = if i = s then w 4 s ||| w 4 f else w 4 i := by
  have h := (tkP_it hsf w 16 (Nat.le_refl 16)).2
  unfold tkO
  have e4 : ∀ i, itr (tkP s f) w 16 4 i = w 4 i := fun i => by rw [h 4 i (by omega), if_neg (by omega)]
  rw [wU_off (by omega), wU_ap, e4, e4, e4]
  by_cases q : i = s
  · rw [if_pos ⟨rfl, q⟩, if_pos q]
  · rw [if_neg (by omega), if_neg q]
theorem tkO_6 (hsf : s ≠ f) (w : WD) (kk i : Nat) (h6 : kk = 6 ∨ kk = 7) : tkO w s f kk i = if 16 * s ≤ i ∧ i < 16 * s + 16 ∧ tb (w 4 f) (i - 16 * s) = true ∧ tb (w 4 s) (i - 16 * s) = false then w kk (16 * f + (i - 16 * s)) else w kk i := by
  unfold tkO
  rw [wU_off (by omega), wU_off (by omega), (tkP_it hsf w 16 (Nat.le_refl 16)).2 kk i (by omega)]
  simp only [h6, true_and]
theorem tkO_o (hsf : s ≠ f) (w : WD) {kk : Nat} (i : Nat) (h : kk ≠ 3 ∧ kk ≠ 4 ∧ kk ≠ 6 ∧ kk ≠ 7 ∧ kk ≠ 8) : tkO w s f kk i = w kk i := by
  unfold tkO
  rw [wU_off (by omega), wU_off (by omega), (tkP_it hsf w 16 (Nat.le_refl 16)).2 kk i (by omega), if_neg (by omega)]
theorem foP_it {c : WD} (hsf : s ≠ f) : ∀ m, m ≤ 16 → (∀ k, tb (itr (foP s f) c m (8 + 4 * s) 5) k = (tb (c (8 + 4 * s) 5) k || (decide (k < m) && tb (c (8 + 4 * f) 5) k))) ∧
    (∀ k q, ¬ (k = 8 + 4 * s ∧ q = 5) → itr (foP s f) c m k q = if (k = 9 + 4 * s ∨ k = 10 + 4 * s) ∧ q < m ∧ tb (c (8 + 4 * f) 5) q = true ∧ tb (c (8 + 4 * s) 5) q = false then c (k + 4 * f - 4 * s) q else c k q) := by
  intro m
  induction m with
  | zero => intro _; exact ⟨fun k => by simp [itr], fun k q _ => by rw [if_neg (by omega)]; rfl⟩
  | succ m ih =>
    intro hm
    obtain ⟨h5, hk⟩ := ih (by omega)
    rw [itr_s]
    generalize itr (foP s f) c m = y at h5 hk ⊢
    have yf : y (8 + 4 * f) 5 = c (8 + 4 * f) 5 := by rw [hk _ _ (by omega), if_neg (by omega)]
    have ys : tb (y (8 + 4 * s) 5) m = tb (c (8 + 4 * s) 5) m := by rw [h5]; simp
    have y9 : y (9 + 4 * f) m = c (9 + 4 * f) m := by rw [hk _ _ (by omega), if_neg (by omega)]
    have y10 : y (10 + 4 * f) m = c (10 + 4 * f) m := by rw [hk _ _ (by omega), if_neg (by omega)]
    unfold foP
    rw [yf, ys]
    by_cases t : (tb (c (8 + 4 * f) 5) m && !tb (c (8 + 4 * s) 5) m) = true
    · rw [if_pos t]
      simp only [Bool.and_eq_true, Bool.not_eq_true'] at t
      obtain ⟨t1, t2⟩ := t
      refine ⟨fun k => ?_, fun k q hkq => ?_⟩
      · rw [wU_off (by omega), wU_off (by omega), wU_at, tb_or, h5, tb_sb (by omega)]
        by_cases q : k = m
        · subst q; rw [t1]; simp
        · rw [decide_eq_false q, Bool.or_false, show decide (k < m + 1) = decide (k < m) from decide_eq_decide.mpr (by omega)]
      · have e1 : wU y (8 + 4 * s) 5 (y (8 + 4 * s) 5 ||| sb m) (9 + 4 * f) m = c (9 + 4 * f) m := by rw [wU_off (by omega)]; exact y9
        have e2 : wU (wU y (8 + 4 * s) 5 (y (8 + 4 * s) 5 ||| sb m)) (9 + 4 * s) m (y (9 + 4 * f) m) (10 + 4 * f) m = c (10 + 4 * f) m := by rw [wU_off (by omega), wU_off (by omega)]; exact y10
        rw [y9, y10]
        rw [wU_ap, wU_ap, wU_ap, if_neg hkq]
        by_cases q1 : q = m
        · subst q1
          by_cases a1 : k = 10 + 4 * s
          · rw [if_pos ⟨a1, rfl⟩, if_pos ⟨by omega, by omega, t1, t2⟩, show k + 4 * f - 4 * s = 10 + 4 * f by omega]
          · rw [if_neg (by omega)]
            by_cases a2 : k = 9 + 4 * s
            · rw [if_pos ⟨a2, rfl⟩, if_pos ⟨by omega, by omega, t1, t2⟩, show k + 4 * f - 4 * s = 9 + 4 * f by omega]
            · rw [if_neg (by omega), hk k q hkq, if_neg (by omega), if_neg (by omega)]
        · rw [if_neg (by omega), if_neg (by omega), hk k q hkq]
          simp only [show q < m + 1 ↔ q < m by omega]
    · rw [if_neg t]
      refine ⟨fun k => ?_, fun k q hkq => ?_⟩
      · rw [h5]
        by_cases q : k = m
        · subst q
          cases t1 : tb (c (8 + 4 * f) 5) k
          · simp
          · rw [t1] at t
            have t2 : tb (c (8 + 4 * s) 5) k = true := by simpa using t
            rw [t2]; simp
        · rw [show decide (k < m + 1) = decide (k < m) from decide_eq_decide.mpr (by omega)]
      · rw [hk k q hkq]
        by_cases q1 : q = m
        · subst q1
          rw [if_neg (by omega), if_neg (fun h => ?_)]
          rw [h.2.2.1, h.2.2.2] at t
          exact t rfl
        · simp only [show q < m + 1 ↔ q < m by omega]
theorem foW_8 {c : WD} (hsf : s ≠ f) {q : Nat} (hq : q < 5) : foW c s f (8 + 4 * s) q = foA c s f (8 + 4 * s) q := by
  unfold foW
  rw [wT_off _ _ _ _ (by omega)]
  unfold foB
  rw [(foP_it (c := foA c s f) hsf 16 (Nat.le_refl 16)).2 _ _ (by omega), if_neg (by omega)]
theorem foA_at {c : WD} {q : Nat} : foA c s f (8 + 4 * s) q = if q = 3 then c (8 + 4 * s) 3 ||| (c (8 + 4 * f) 3 ||| sb f) else if q = 2 then c (8 + 4 * s) 2 ||| sb f else c (8 + 4 * s) q := by
  unfold foA
  rw [wU_ap, wU_ap]
  by_cases q3 : q = 3
  · rw [if_pos ⟨rfl, q3⟩, if_pos q3]
  · rw [if_neg (by omega), if_neg q3]
    by_cases q2 : q = 2
    · rw [if_pos ⟨rfl, q2⟩, if_pos q2]
    · rw [if_neg (by omega), if_neg q2]
theorem foA_o {c : WD} {k q : Nat} (h : ¬ (k = 8 + 4 * s ∧ (q = 2 ∨ q = 3))) : foA c s f k q = c k q := by
  unfold foA
  rw [wU_ap, wU_ap, if_neg (by omega), if_neg (by omega)]
theorem SE_fo {c : WD} (hsf : s ≠ f) (E : SEs c w s) (E' : SEs c w f) (hb : ∀ k, k < 32 → tb (w 4 f) k = true → k < 16) : SEs (foW c s f) (tkO w s f) s := by
  obtain ⟨a1, a2, a3, a4, a5⟩ := E
  obtain ⟨b1, b2, b3, b4, b5⟩ := E'
  obtain ⟨h5, hk⟩ := foP_it (c := foA c s f) hsf 16 (Nat.le_refl 16)
  refine ⟨?_, ?_, ?_, fun p hp => ?_, fun k hk' p hp => ?_⟩
  · rw [foW_8 hsf (by omega), foA_at, if_pos rfl, tkO_3 hsf, if_pos rfl, a1, b1]
  · rw [foW_8 hsf (by omega), foA_at, if_neg (by omega), if_neg (by omega), tkO_o hsf _ _ (by omega)]; exact a2
  · unfold foW
    rw [wT_off _ _ _ _ (by omega)]
    unfold foB
    apply i32_ext
    intro k hk
    rw [h5, tkO_4 hsf, if_pos rfl, tb_or, foA_o (by omega), foA_o (by omega), a3, b3]
    cases t : tb (w 4 f) k
    · simp
    · rw [decide_eq_true (hb k hk t)]; simp
  · have e : ∀ kk, kk = 9 + 4 * s ∨ kk = 10 + 4 * s → foW c s f kk p = if tb (w 4 f) p = true ∧ tb (w 4 s) p = false then c (kk + 4 * f - 4 * s) p else c kk p := by
      intro kk hkk
      unfold foW
      rw [wT_off _ _ _ _ (by omega)]
      unfold foB
      rw [hk kk p (by omega), foA_o (by omega), foA_o (by omega), foA_o (by omega), foA_o (by omega), a3, b3]
      simp only [hkk, hp, true_and]
    have e2 : ∀ kk, kk = 6 ∨ kk = 7 → tkO w s f kk (16 * s + p) = if tb (w 4 f) p = true ∧ tb (w 4 s) p = false then w kk (16 * f + p) else w kk (16 * s + p) := by
      intro kk hkk
      rw [tkO_6 hsf w kk _ hkk, Nat.add_sub_cancel_left]
      simp only [show 16 * s ≤ 16 * s + p by omega, show 16 * s + p < 16 * s + 16 by omega, true_and]
    rw [e _ (Or.inl rfl), e _ (Or.inr rfl), e2 6 (Or.inl rfl), e2 7 (Or.inr rfl), show 9 + 4 * s + 4 * f - 4 * s = 9 + 4 * f by omega, show 10 + 4 * s + 4 * f - 4 * s = 10 + 4 * f by omega]
    by_cases q : tb (w 4 f) p = true ∧ tb (w 4 s) p = false
    · rw [if_pos q, if_pos q, if_pos q, if_pos q]; exact b4 p hp
    · rw [if_neg q, if_neg q, if_neg q, if_neg q]; exact a4 p hp
  · have e8 := tkO_8 hsf w (lk s k p)
    rw [if_pos (by unfold lk; omega), show 48 * f + (lk s k p - 48 * s) = lk f k p by unfold lk; omega] at e8
    rw [e8]
    unfold foW
    rw [wT_at, cop_in (by omega), a5 k hk' p hp, b5 k hk' p hp]
theorem SE_cg {c c' w w' : WD} {s : Nat} (E : SEs c w s) (hc : ∀ k q, 8 + 4 * s ≤ k → k ≤ 11 + 4 * s → c' k q = c k q) (h3 : w' 3 s = w 3 s) (h4 : w' 4 s = w 4 s) (h5 : w' 5 s = w 5 s) (h6 : ∀ k i, k = 6 ∨ k = 7 → 16 * s ≤ i → i < 16 * s + 16 → w' k i = w k i) (h8 : ∀ i, 48 * s ≤ i → i < 48 * s + 48 → w' 8 i = w 8 i) : SEs c' w' s := by
  obtain ⟨a1, a2, a3, a4, a5⟩ := E
  refine ⟨?_, ?_, ?_, fun p hp => ?_, fun k hk p hp => ?_⟩
  · rw [hc _ _ (by omega) (by omega), h3]; exact a1
  · rw [hc _ _ (by omega) (by omega), h5]; exact a2
  · rw [hc _ _ (by omega) (by omega), h4]; exact a3
  · rw [hc _ _ (by omega) (by omega), hc _ _ (by omega) (by omega), h6 6 _ (by omega) (by omega) (by omega), h6 7 _ (by omega) (by omega) (by omega)]; exact a4 p hp
  · rw [hc _ _ (by omega) (by omega), h8 _ (by unfold lk; omega) (by unfold lk; omega)]; exact a5 k hk p hp
theorem SE_coA {c w : WD} {n : Nat} {o : Option Nat} (ho : ∀ i, o = some i → i < n) (hb : ∀ s, s < n → ∀ k, k < 32 → tb (w 4 s) k = true → k < 16) (hn : n < 30) (E : ∀ s, s < 30 → SEs c w s) : ∀ s, s < 30 → SEs (coA c n o) (stA w n o) s := by
  intro s hs
  cases o with
  | none => exact E s hs
  | some g =>
    have hg := ho g rfl
    have hne : n ≠ g := by omega
    show SEs (foW c n g) (tkO w n g) s
    by_cases q : s = n
    · subst q
      exact SE_fo hne (E s hs) (E g (by omega)) (hb g hg)
    · refine SE_cg (E s hs) (fun k q h1 h2 => foW_o q (by omega)) ?_ ?_ ?_ (fun k i h1 h2 h3 => ?_) (fun i h2 h3 => ?_)
      · rw [tkO_3 hne, if_neg q]
      · rw [tkO_4 hne, if_neg q]
      · exact tkO_o hne _ _ (by omega)
      · rw [tkO_6 hne _ _ _ h1, if_neg (by omega)]
      · rw [tkO_8 hne, if_neg (by omega)]
theorem stA_o {n : Nat} {o : Option Nat} (ho : ∀ i, o = some i → i < n) (w : WD) {kk : Nat} (i : Nat) (h : kk ≠ 3 ∧ kk ≠ 4 ∧ kk ≠ 6 ∧ kk ≠ 7 ∧ kk ≠ 8) : stA w n o kk i = w kk i := by
  cases o with
  | none => rfl
  | some g =>
    have := ho g rfl
    exact tkO_o (by omega) _ _ h
theorem stA_bt {n : Nat} {o : Option Nat} (ho : ∀ i, o = some i → i < n) {w : WD} (hb : ∀ s, s < n + 1 → ∀ k, k < 32 → tb (w 4 s) k = true → k < 16) : ∀ s, s < n + 1 → ∀ k, k < 32 → tb (stA w n o 4 s) k = true → k < 16 := by
  cases o with
  | none => exact hb
  | some g =>
    have hg := ho g rfl
    intro s hs k hk
    show tb (tkO w n g 4 s) k = true → _
    rw [tkO_4 (by omega)]
    by_cases q : s = n
    · rw [if_pos q, tb_or, Bool.or_eq_true]
      intro h
      rcases h with h | h
      · exact hb n (by omega) k hk h
      · exact hb g (by omega) k hk h
    · rw [if_neg q]; exact hb s hs k hk
theorem stA_67 {n : Nat} {o : Option Nat} (hn : n < 30) (ho : ∀ i, o = some i → i < n) {w : WD} {kk : Nat} (hkk : kk = 6 ∨ kk = 7) (h : ∀ i, i < 480 → ∃ q, q < 128 ∧ w kk i = nI q) : ∀ i, i < 480 → ∃ q, q < 128 ∧ stA w n o kk i = nI q := by
  cases o with
  | none => exact h
  | some g =>
    have hg := ho g rfl
    intro i hi
    show ∃ q, q < 128 ∧ tkO w n g kk i = nI q
    rw [tkO_6 (by omega) _ _ _ hkk]
    by_cases q : 16 * n ≤ i ∧ i < 16 * n + 16 ∧ tb (w 4 g) (i - 16 * n) = true ∧ tb (w 4 n) (i - 16 * n) = false
    · rw [if_pos q]; exact h _ (by omega)
    · rw [if_neg q]; exact h i hi
theorem stB_at (w : WD) (n : Nat) (a b : Int32) (kk i : Nat) : stB w n a b kk i = if kk = 8 ∧ 48 * n ≤ i ∧ i < 48 * n + 48 then nI 0 else if kk = 1 ∧ i = n then a else if kk = 2 ∧ i = n then b else if (kk = 3 ∨ kk = 4) ∧ i = n then nI 0 else if kk = 5 ∧ i = n then nI 1 else w kk i := by
  have key : ∀ (z : WD) m, m ≤ 48 → ∀ kk i, itr (fun k w => wU w 8 (48 * n + k) (nI 0)) z m kk i = if kk = 8 ∧ 48 * n ≤ i ∧ i < 48 * n + m then nI 0 else z kk i := by
    intro z m
    induction m with
    | zero => intro _ kk i; rw [if_neg (by omega)]; rfl
    | succ m ih =>
      intro hm kk i
      rw [itr_s, wU_ap, ih (by omega)]
      by_cases q : kk = 8 ∧ i = 48 * n + m
      · rw [if_pos q, if_pos (by omega)]
      · rw [if_neg q]
        by_cases q2 : kk = 8 ∧ 48 * n ≤ i ∧ i < 48 * n + m
        · rw [if_pos q2, if_pos (by omega)]
        · rw [if_neg q2, if_neg (by omega)]
  unfold stB
  rw [key _ 48 (Nat.le_refl 48)]
  by_cases q8 : kk = 8 ∧ 48 * n ≤ i ∧ i < 48 * n + 48
  · rw [if_pos q8, if_pos q8]
  rw [if_neg q8, if_neg q8, wU_ap, wU_ap, wU_ap, wU_ap, wU_ap]
  by_cases q : i = n
  · simp only [q, and_true]
    by_cases k5 : kk = 5
    · subst k5; simp
    by_cases k4 : kk = 4
    · subst k4; simp
    by_cases k3 : kk = 3
    · subst k3; simp
    by_cases k2 : kk = 2
    · subst k2; simp
    by_cases k1 : kk = 1
    · subst k1; simp
    simp [k1, k2, k3, k4, k5]
  · simp only [q, and_false, if_false]
theorem SE_be {c w : WD} {n : Nat} {a b : Int32} (E : ∀ s, s < 30 → SEs c w s) : ∀ s, s < 30 → SEs (beW c n a b) (stB w n a b) s := by
  intro s hs
  by_cases q : s = n
  · subst q
    obtain ⟨a1, a2, a3, a4, a5⟩ := E s hs
    have h8 : ∀ i, beW c s a b (8 + 4 * s) i = if i = 5 then nI 0 else if i = 4 then nI 1 else if i = 3 then nI 0 else if i = 2 then nI 0 else if i = 1 then b else if i = 0 then a else c (8 + 4 * s) i := by
      intro i
      unfold beW
      rw [wT_off _ _ _ _ (by omega), wU_ap, wU_ap, wU_ap, wU_ap, wU_ap, wU_ap]
      simp only [true_and]
    refine ⟨?_, ?_, ?_, fun p hp => ?_, fun k hk p hp => ?_⟩
    · rw [h8, stB_at, if_neg (by omega), if_neg (by omega), if_pos rfl, if_neg (by omega), if_neg (by omega), if_neg (by omega), if_pos (by omega)]
    · rw [h8, stB_at, if_neg (by omega), if_pos rfl, if_neg (by omega), if_neg (by omega), if_neg (by omega), if_neg (by omega), if_pos (by omega)]
    · rw [h8, stB_at, if_pos rfl, if_neg (by omega), if_neg (by omega), if_neg (by omega), if_pos (by omega)]
    · rw [beW_o _ (by omega), beW_o _ (by omega), stB_at, stB_at, if_neg (by omega), if_neg (by omega), if_neg (by omega), if_neg (by omega), if_neg (by omega), if_neg (by omega), if_neg (by omega), if_neg (by omega), if_neg (by omega), if_neg (by omega)]
      exact a4 p hp
    · rw [stB_at, if_pos (by unfold lk; omega)]
      unfold beW
      rw [wT_at, cop_in (by omega)]
  · refine SE_cg (E s hs) (fun k q h1 h2 => beW_o q (by omega)) ?_ ?_ ?_ (fun k i h1 h2 h3 => ?_) (fun i h2 h3 => ?_)
    · rw [stB_at, if_neg (by omega), if_neg (by omega), if_neg (by omega), if_neg (by omega), if_neg (by omega)]
    · rw [stB_at, if_neg (by omega), if_neg (by omega), if_neg (by omega), if_neg (by omega), if_neg (by omega)]
    · rw [stB_at, if_neg (by omega), if_neg (by omega), if_neg (by omega), if_neg (by omega), if_neg (by omega)]
    · rw [stB_at, if_neg (by omega), if_neg (by omega), if_neg (by omega), if_neg (by omega), if_neg (by omega)]
    · rw [stB_at, if_neg (by omega), if_neg (by omega), if_neg (by omega), if_neg (by omega), if_neg (by omega)]
end TKO
