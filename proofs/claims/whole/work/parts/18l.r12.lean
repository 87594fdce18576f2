/-! the reference: work, the rows of a term, spans -/
theorem frV_k {w : WD} {n k i : Nat} (h1 : k ≠ 22) (h2 : ¬ (k = 0 ∧ i = 10)) : frV w n k i = w k i := by
  unfold frV
  split
  · rfl
  · rw [wT_off _ _ _ _ h1, wU_ap, if_neg h2]
/-- the reaches are those of the links, or marked old -/
def RV (w : WD) (n : Nat) : Prop := w 0 10 = nI 0 → ∀ i, i < 48 * n → w 22 i = rch (w 8) (3 * n) i
/-- the world with the reaches found -/
def rW (w : WD) (n : Nat) : WD := wT w 22 (rch (w 8) (3 * n))
theorem rW_k {w : WD} {n k : Nat} (i : Nat) (h : k ≠ 22) : rW w n k i = w k i := wT_off _ _ _ _ h
theorem hlT_cg {w v w0 : WD} {tm : Nat → Nat → Nat} {n t s x y z : Nat} (h : ∀ k i, 1 ≤ k → k ≤ 16 → w k i = v k i) (h22 : ∀ s, s < n → ∀ g, g < 3 → ∀ p, p < 16 → w 22 (lk s g p) = v 22 (lk s g p)) (T : TMt w0 tm t) (hs : s < n) (hk : tm t 0 < 6) (hx : x < 16) (hy : y < 16) (hz : z < 16) : hlT w tm t s x y z = hlT v tm t s x y z := by
  unfold hlT hl1 hl2
  rw [h 12 t (by omega) (by omega)]
  by_cases q : tm t 0 < 3
  · rw [if_pos q, if_pos q, h 4 s (by omega) (by omega), h 6 _ (by omega) (by omega), h 7 _ (by omega) (by omega)]
  · rw [if_neg q, if_neg q]
    obtain ⟨-, u2, -, -, u5⟩ := T.2.2.2.1 (by omega) hk
    by_cases q5 : tm t 0 = 5
    · rw [if_pos q5, if_pos q5]
    · rw [if_neg q5, if_neg q5, h22 s hs _ (u5 q5).2 _ (pfU_lt u2 hx hy hz), h 8 _ (by omega) (by omega)]
theorem semO_cg {w v w0 : WD} {fs sn : Nat → Option Nat} {tm : Nat → Nat → Nat} {g : Nat → Nat → Nat → Nat → Int32 × Int32} {n t x y z : Nat} (h : ∀ k i, 1 ≤ k → k ≤ 16 → w k i = v k i) (h22 : ∀ s, s < n → ∀ g, g < 3 → ∀ p, p < 16 → w 22 (lk s g p) = v 22 (lk s g p)) (T : TMt w0 tm t) (hx : x < 16) (hy : y < 16) (hz : z < 16) : semO w fs sn n tm g t x y z = semO v fs sn n tm g t x y z := by
  have e3 : ∀ i, w 3 i = v 3 i := fun i => h 3 i (by omega) (by omega)
  have e5 : ∀ i, w 5 i = v 5 i := fun i => h 5 i (by omega) (by omega)
  have c1 : ∀ a, evO w a n = evO v a n := fun a => itr_cg (fun k hk b => by rw [e3])
  have c2 : ∀ a, alO w a n = alO v a n := fun a => itr_cg (fun k hk b => by rw [e3])
  have c3 : ∀ a b, wnb w a b n = wnb v a b n := fun a b => itr_cg (fun k hk b => by rw [e3])
  unfold semO
  by_cases q : tm t 0 < 6
  · have hl : ∀ s, s < n → hlT w tm t s x y z = hlT v tm t s x y z := fun s hs => hlT_cg h h22 T hs q hx hy hz
    have c4 : smS w tm t x y z n = smS v tm t x y z n := itr_cg (fun s hs b => by unfold smH smU; rw [hl s hs, e5])
    have c5 : smM w tm t x y z n = smM v tm t x y z n := itr_cg (fun s hs b => by unfold smH smU; rw [hl s hs, e5])
    simp only [if_pos q, c4, c5]
  · simp only [if_neg q, c1, c2, c3]
theorem sem_cg {w v w0 : WD} {fs sn : Nat → Option Nat} {tm : Nat → Nat → Nat} {n : Nat} (h : ∀ k i, 1 ≤ k → k ≤ 16 → w k i = v k i) (h22 : ∀ s, s < n → ∀ g, g < 3 → ∀ p, p < 16 → w 22 (lk s g p) = v 22 (lk s g p)) (t : Nat) : (∀ i, i ≤ t → TMt w0 tm i) → ∀ {x y z : Nat}, x < 16 → y < 16 → z < 16 → sem w fs sn n tm t x y z = sem v fs sn n tm t x y z := by
  induction t using Nat.strongRecOn with
  | _ t ih =>
    intro T x y z hx hy hz
    rw [sem_eq (T t (Nat.le_refl _)), sem_eq (w := v) (T t (Nat.le_refl _)), semO_cg (v := v) h h22 (T t (Nat.le_refl _)) hx hy hz]
    refine semO_g (T t (Nat.le_refl _)) (fun a b => ?_) (fun a p hp => ?_)
    · obtain ⟨-, h1, -, h2⟩ := (T t (Nat.le_refl _)).2.2.2.2.1 a b
      exact ⟨ih _ h1 (fun i hi => T i (by omega)) hx hy hz, ih _ h2 (fun i hi => T i (by omega)) hx hy hz⟩
    · obtain ⟨-, -, -, h2⟩ := (T t (Nat.le_refl _)).2.2.2.2.2 a
      exact ih _ h2 (fun i hi => T i (by omega)) (pl0_lt hp hx) (pl1_lt hp hy) (pl2_lt hp hz)
theorem lk_lt {s g p n : Nat} (hs : s < n) (hg : g < 3) (hp : p < 16) : lk s g p < 48 * n := by unfold lk; omega
theorem frV_22 {w : WD} {n i : Nat} (hn : n ≤ 30) (hR : RV w n) (hi : i < 48 * n) : frV w n 22 i = rch (w 8) (3 * n) i := by
  unfold frV
  by_cases q : w 0 10 = 0
  · rw [if_pos q]; exact hR q i hi
  · rw [if_neg q, wT_at]
    unfold cop
    rw [if_pos (by omega)]
/-- what work leaves as it is -/
def Kp (n : Nat) (w w' : WD) : Prop := (∀ k i, k ≤ 16 ∨ 23 ≤ k → ¬ (k = 0 ∧ i = 10) → w' k i = w k i) ∧ RV w' n
/-- what a call that only asks leaves as it is -/
def Kj (n : Nat) (w w' : WD) : Prop := (∀ k i, k ≤ 16 ∨ (24 ≤ k ∧ k ≤ 29) → ¬ (k = 0 ∧ i = 10) → w' k i = w k i) ∧ RV w' n
theorem Kp.j {n : Nat} {w w' : WD} (h : Kp n w w') : Kj n w w' := ⟨fun k i a b => h.1 k i (by omega) b, h.2⟩
def GW (w : WD) (n tn : Nat) (fs sn : Nat → Option Nat) (tm : Nat → Nat → Nat) : Prop :=
  w 0 1 = nI n ∧ n ≤ 30 ∧ w 0 12 = nI tn ∧ tn ≤ 60 ∧ AHs w fs sn n ∧ (∀ i, i < tn → TMt w tm i) ∧ RV w n
section
variable {w : WD} {n tn : Nat} {fs sn : Nat → Option Nat} {tm : Nat → Nat → Nat}
theorem GW.hn (G : GW w n tn fs sn tm) : w 0 1 = nI n := G.1
theorem GW.hn30 (G : GW w n tn fs sn tm) : n ≤ 30 := G.2.1
theorem GW.ht (G : GW w n tn fs sn tm) : w 0 12 = nI tn := G.2.2.1
theorem GW.ht60 (G : GW w n tn fs sn tm) : tn ≤ 60 := G.2.2.2.1
theorem GW.hA (G : GW w n tn fs sn tm) : AHs w fs sn n := G.2.2.2.2.1
theorem GW.hT (G : GW w n tn fs sn tm) : ∀ i, i < tn → TMt w tm i := G.2.2.2.2.2.1
theorem GW.rv (G : GW w n tn fs sn tm) : RV w n := G.2.2.2.2.2.2
end
theorem TMt_cg {w v : WD} {tm : Nat → Nat → Nat} {t : Nat} (h : ∀ k, 10 ≤ k → k ≤ 13 → w k t = v k t) (T : TMt v tm t) : TMt w tm t := by
  unfold TMt at T ⊢
  rw [h 10 (by omega) (by omega), h 11 (by omega) (by omega), h 12 (by omega) (by omega), h 13 (by omega) (by omega)]
  exact T
theorem GW.kj {w w' : WD} {n tn : Nat} {fs sn : Nat → Option Nat} {tm : Nat → Nat → Nat} (G : GW w n tn fs sn tm) (h : Kj n w w') : GW w' n tn fs sn tm :=
  ⟨(h.1 0 1 (by omega) (by omega)).trans G.hn, G.hn30, (h.1 0 12 (by omega) (by omega)).trans G.ht, G.ht60,
   ⟨fun s hs => (h.1 1 s (by omega) (by omega)).trans (G.hA.1 s hs), fun s hs => (h.1 2 s (by omega) (by omega)).trans (G.hA.2.1 s hs), G.hA.2.2.1, G.hA.2.2.2⟩,
   fun i hi => TMt_cg (fun k _ _ => h.1 k i (by omega) (by omega)) (G.hT i hi), h.2⟩
theorem Kj.trans {n : Nat} {w w' w'' : WD} (h : Kj n w w') (h' : Kj n w' w'') : Kj n w w'' := ⟨fun k i a b => (h'.1 k i a b).trans (h.1 k i a b), h'.2⟩
theorem sem_kj {w w' : WD} {n tn : Nat} {fs sn : Nat → Option Nat} {tm : Nat → Nat → Nat} (G : GW w n tn fs sn tm) (h : Kj n w w') {t x y z : Nat} (ht : t < tn) (hx : x < 16) (hy : y < 16) (hz : z < 16) : sem (rW w' n) fs sn n tm t x y z = sem (rW w n) fs sn n tm t x y z := by
  refine sem_cg (fun k i a b => ?_) (fun s hs g hg p hp => ?_) t (fun i hi => G.hT i (by omega)) hx hy hz
  · rw [rW_k i (by omega), rW_k i (by omega)]
    exact h.1 k i (by omega) (by omega)
  · unfold rW
    rw [wT_at, wT_at]
    have e : w' 8 = w 8 := by funext i; exact h.1 8 i (by omega) (by omega)
    rw [e]
theorem Kp.trans {n : Nat} {w w' w'' : WD} (h : Kp n w w') (h' : Kp n w' w'') : Kp n w w'' := ⟨fun k i a b => (h'.1 k i a b).trans (h.1 k i a b), h'.2⟩
theorem GW.kp {w w' : WD} {n tn : Nat} {fs sn : Nat → Option Nat} {tm : Nat → Nat → Nat} (G : GW w n tn fs sn tm) (h : Kp n w w') : GW w' n tn fs sn tm := G.kj h.j
theorem sem_kp {w w' : WD} {n tn : Nat} {fs sn : Nat → Option Nat} {tm : Nat → Nat → Nat} (G : GW w n tn fs sn tm) (h : Kp n w w') {t x y z : Nat} (ht : t < tn) (hx : x < 16) (hy : y < 16) (hz : z < 16) : sem (rW w' n) fs sn n tm t x y z = sem (rW w n) fs sn n tm t x y z := sem_kj G h.j ht hx hy hz
section R12
variable {f : Hf} {m d sz us : Nat} {w : WD} {y : Nat → Int64} {n tn : Nat} {fs sn : Nat → Option Nat} {tm : Nat → Nat → Nat}
theorem R_work {t : Nat} {L0 H0 : Nat → Nat} (G : GW w n tn fs sn tm) (ht : t < tn) (hB : bxW w L0 H0) : ∃ w', Kp n w w' ∧ (∀ x y z, inBx L0 H0 x y z → gST (w' 17) (w' 18) t x y z = sem (rW w n) fs sn n tm t x y z) ∧
    Ev (d + 4) 178 0 [some (.ref m), some (.int (nI t)), none, none, none, none] [] (sz, us, emR f m w y) = some (none, (sz, us, emR f m w' y)) := by
  have h60 := G.ht60
  have h30 := G.hn30
  generalize hw1 : frV w n = w1
  have k1 : ∀ k i, k ≠ 22 → ¬ (k = 0 ∧ i = 10) → w1 k i = w k i := fun k i a b => by rw [← hw1]; exact frV_k a b
  have T1 : ∀ i, i < tn → TMt w1 tm i := fun i hi => TMt_cg (fun k _ _ => k1 k i (by omega) (by omega)) (G.hT i hi)
  obtain ⟨A, F, T, hAI, kA⟩ := R_ask (f := f) (m := m) (d := d + 3) (sz := sz) (us := us) (y := y) (w := w1) (tm := tm) (t := t) (by omega) (fun i hi => T1 i (by omega))
  obtain ⟨a1, a2, a3, a4⟩ := hAI
  have hB2 : bxW (wAT w1 A F T) (fun v => if F v = nI (L0 v) ∧ T v = nI (H0 v) then L0 v else 0) (fun v => if F v = nI (L0 v) ∧ T v = nI (H0 v) then H0 v else 15) := by
    intro v hv
    obtain ⟨b1, b2, b3, b4⟩ := hB v hv
    show F v = _ ∧ T v = _ ∧ _ ∧ _
    by_cases q : F v = nI (L0 v) ∧ T v = nI (H0 v)
    · simp only [if_pos q]; exact ⟨q.1, q.2, b3, b4⟩
    · simp only [if_neg q]
      rcases a4 v hv with c | c
      · exact absurd ⟨c.1.trans ((k1 20 v (by omega) (by omega)).trans b1), c.2.trans ((k1 21 v (by omega) (by omega)).trans b2)⟩ q
      · exact ⟨c.1, c.2, by omega, by omega⟩
  have hin : ∀ x y z, inBx L0 H0 x y z → inBx (fun v => if F v = nI (L0 v) ∧ T v = nI (H0 v) then L0 v else 0) (fun v => if F v = nI (L0 v) ∧ T v = nI (H0 v) then H0 v else 15) x y z := by
    intro x y z hi
    have b0 := (hB 0 (by omega)).2.2
    have b1 := (hB 1 (by omega)).2.2
    have b2 := (hB 2 (by omega)).2.2
    unfold inBx at hi ⊢
    refine ⟨?_, ?_, ?_⟩ <;> (simp only; split <;> omega)
  obtain ⟨S, M, hD, kB⟩ := R_workBox (f := f) (m := m) (d := d) (sz := sz) (us := us) (y := y) (w := wAT w1 A F T) (tm := tm) (fs := fs) (sn := sn) (n := n) (t := t) (S := wAT w1 A F T 17) (M := wAT w1 A F T 18)
    ((k1 0 1 (by omega) (by omega)).trans G.hn) G.hn30 ⟨fun s hs => (k1 1 s (by omega) (by omega)).trans (G.hA.1 s hs), fun s hs => (k1 2 s (by omega) (by omega)).trans (G.hA.2.1 s hs), G.hA.2.2.1, G.hA.2.2.2⟩ (by omega) (fun i hi => T1 i (by omega)) hB2 (fun k hk => a3 k hk (by omega)) a1
  refine ⟨wST (wAT w1 A F T) S M, ⟨fun k i a b => ?_, fun h0 i hi => ?_⟩, fun x y z hi => ?_, ?_⟩
  · have e : wST (wAT w1 A F T) S M k i = w1 k i := by
      unfold wST wAT
      rw [if_neg (by omega), if_neg (by omega), if_neg (by omega), if_neg (by omega), if_neg (by omega)]
    rw [e]
    exact k1 k i (by omega) b
  · show w1 22 i = rch (w1 8) (3 * n) i
    have e : w1 8 = w 8 := by funext i; exact k1 8 i (by omega) (by omega)
    rw [e, ← hw1]
    exact frV_22 h30 G.rv hi
  · show gST S M t x y z = _
    have hlt : x < 16 ∧ y < 16 ∧ z < 16 := by
      have b0 := (hB 0 (by omega)).2.2
      have b1 := (hB 1 (by omega)).2.2
      have b2 := (hB 2 (by omega)).2.2
      unfold inBx at hi
      omega
    rw [hD.1 t (by omega) a2 x y z (hin x y z hi)]
    refine sem_cg (fun k i a b => ?_) (fun s hs g hg p hp => ?_) t (fun i hi => G.hT i (by omega)) hlt.1 hlt.2.1 hlt.2.2
    · rw [rW_k i (by omega)]
      have e : wAT w1 A F T k i = w1 k i := by
        unfold wAT
        rw [if_neg (by omega), if_neg (by omega), if_neg (by omega)]
      rw [e]
      exact k1 k i (by omega) (by omega)
    · show w1 22 _ = _
      unfold rW
      rw [wT_at, ← hw1]
      exact frV_22 h30 G.rv (lk_lt hs hg hp)
  · have kF := R_findReaches (f := f) (m := m) (d := d + 2) (sz := sz) (us := us) (y := y) (w := w) G.hn G.hn30
    rw [hw1] at kF
    simp (maxSteps := 2000000) (disch := first | omega | with_reducible assumption | exact cobR | exact bI_01 _ | exact Or.inl rfl | exact Or.inr rfl | (simp (decide := true) only [wid_0, wid_i, wid_l, wid_r, wid_n]; done) | decide | fail) only [s178_0, s178_1, s178_4, s178_5, s178_6, s178_9, s178_10, Option.bind_some, Option.bind_none, Option.toList_some, Option.toList_none, List.cons_append, List.nil_append, clr_i, clr_r, clr_l, clr_n, nI_add, nsub, pk_mul, nle_F, nle_T, nlt_F, nlt_T, neq_F, nz_F, nz_T, nneg_F, npos_T, npos_lF, npos_lT, nle0_F, m1_neg, m1_pos, m1_z, neq_m1, m1_neq, ↓reduceIte, if_true, if_false, not_true_eq_false, not_false_eq_true, bI_eq0, Bool.true_eq_false, Bool.false_eq_true, true_and, and_true, false_and, and_false, true_or, or_true, false_or, or_false, decide_true, decide_false, Bool.and_self, Bool.true_and, Bool.and_true, Bool.false_and, Bool.and_false, Bool.true_or, Bool.or_true, Bool.false_or, Bool.or_false, Bool.not_true, Bool.not_false, kF, kA]
    have e : emR f m (wAT w1 A F T) y = emR f m (wST (wAT w1 A F T) (wAT w1 A F T 17) (wAT w1 A F T 18)) y := by rw [wST_self]
    rw [e]
    exact kB
theorem R_workRows {t : Nat} (G : GW w n tn fs sn tm) (ht : t < tn) : ∃ w', Kp n w w' ∧ (∀ x y, x < 16 → y < 16 → (x = 0 ∨ tb (w 14 t) 0 = true) → (y = 0 ∨ tb (w 14 t) 1 = true) → gST (w' 17) (w' 18) t x y 0 = sem (rW w n) fs sn n tm t x y 0) ∧
    Ev (d + 5) 182 0 [some (.ref m), some (.int (nI t)), none] [] (sz, us, emR f m w y) = some (none, (sz, us, emR f m w' y)) := by
  have h60 := G.ht60
  simp (maxSteps := 2000000) (disch := first | omega | with_reducible assumption | exact cobR | exact bI_01 _ | exact Or.inl rfl | exact Or.inr rfl | (simp (decide := true) only [wid_0, wid_i, wid_l, wid_r, wid_n]; done) | decide | fail) only [s182_0, s182_1, Option.bind_some, Option.bind_none, Option.toList_some, Option.toList_none, List.cons_append, List.nil_append, clr_i, clr_r, clr_l, clr_n, nI_add, nsub, pk_mul, nle_F, nle_T, nlt_F, nlt_T, neq_F, nz_F, nz_T, nneg_F, npos_T, npos_lF, npos_lT, nle0_F, m1_neg, m1_pos, m1_z, neq_m1, m1_neq, ↓reduceIte, if_true, if_false, not_true_eq_false, not_false_eq_true, bI_eq0, Bool.true_eq_false, Bool.false_eq_true, true_and, and_true, false_and, and_false, true_or, or_true, false_or, or_false, decide_true, decide_false, Bool.and_self, Bool.true_and, Bool.and_true, Bool.false_and, Bool.and_false, Bool.true_or, Bool.or_true, Bool.false_or, Bool.or_false, Bool.not_true, Bool.not_false]
  have k1 := loopE (fun k => Ev (d + 5) 182 2 [some (.ref m), some (.int (nI t)), some (.int (nI k))] [] (sz, us, emR f m (wAT w (w 19) (fun v => if v < k then nI 0 else w 20 v) (fun v => if v < k then (if tb (w 14 t) v = true then nI 15 else nI 0) else w 21 v)) y)) 3 (fun k hk => by
    show Ev _ _ _ _ _ _ = Ev _ _ _ _ _ _
    have e1 : (fun v => if v < k + 1 then nI 0 else w 20 v) = upd (fun v => if v < k then nI 0 else w 20 v) k (nI 0) := by
      funext i
      unfold upd
      by_cases q : i = k
      · subst q; simp
      · by_cases q2 : i < k
        · simp [q, q2, show i < k + 1 by omega]
        · simp [q, q2, show ¬ i < k + 1 by omega]
    have e2 : (fun v => if v < k + 1 then (if tb (w 14 t) v = true then nI 15 else nI 0) else w 21 v) = upd (fun v => if v < k then (if tb (w 14 t) v = true then nI 15 else nI 0) else w 21 v) k (if tb (w 14 t) k = true then nI 15 else nI 0) := by
      funext i
      unfold upd
      by_cases q : i = k
      · subst q; simp
      · by_cases q2 : i < k
        · simp [q, q2, show i < k + 1 by omega]
        · simp [q, q2, show ¬ i < k + 1 by omega]
    rw [e1, e2]
    generalize (fun v => if v < k then nI 0 else w 20 v) = F
    generalize (fun v => if v < k then (if tb (w 14 t) v = true then nI 15 else nI 0) else w 21 v) = T
    have e14 : ∀ F T, wAT w (w 19) F T 14 t = w 14 t := fun F T => rfl
    rw [s182_2]
    cases h : tb (w 14 t) k
    · simp (maxSteps := 2000000) (disch := first | omega | with_reducible assumption | exact cobR | exact bI_01 _ | exact Or.inl rfl | exact Or.inr rfl | (simp (decide := true) only [wid_0, wid_i, wid_l, wid_r, wid_n]; done) | decide | fail) only [s182_3, s182_4, s182_7, s182_8, s182_11, s182_12, s182_13, s182_14, s182_15, s182_18, s182_19, s182_20, s182_21, s182_24, s182_25, s182_26, s182_27, s182_30, s182_33, s182_35, s182_38, s182_39, s182_40, s182_43, Option.bind_some, Option.bind_none, Option.toList_some, Option.toList_none, List.cons_append, List.nil_append, clr_i, clr_r, clr_l, clr_n, nI_add, nsub, pk_mul, nle_F, nle_T, nlt_F, nlt_T, neq_F, nz_F, nz_T, nneg_F, npos_T, npos_lF, npos_lT, nle0_F, m1_neg, m1_pos, m1_z, neq_m1, m1_neq, ↓reduceIte, if_true, if_false, not_true_eq_false, not_false_eq_true, bI_eq0, Bool.true_eq_false, Bool.false_eq_true, true_and, and_true, false_and, and_false, true_or, or_true, false_or, or_false, decide_true, decide_false, Bool.and_self, Bool.true_and, Bool.and_true, Bool.false_and, Bool.and_false, Bool.true_or, Bool.or_true, Bool.false_or, Bool.or_false, Bool.not_true, Bool.not_false, gR_84, ra_20, wa_20, ha_20, gR_87, ra_21, wa_21, ha_21, gR_65, ra_14, wa_14, ha_14, wAT_20, wAT_21, wAT_u20, wAT_u21, e14, R_isIn, h]
    · simp (maxSteps := 2000000) (disch := first | omega | with_reducible assumption | exact cobR | exact bI_01 _ | exact Or.inl rfl | exact Or.inr rfl | (simp (decide := true) only [wid_0, wid_i, wid_l, wid_r, wid_n]; done) | decide | fail) only [s182_3, s182_4, s182_7, s182_8, s182_11, s182_12, s182_13, s182_14, s182_15, s182_18, s182_19, s182_20, s182_21, s182_24, s182_25, s182_26, s182_27, s182_30, s182_33, s182_35, s182_38, s182_39, s182_40, s182_43, Option.bind_some, Option.bind_none, Option.toList_some, Option.toList_none, List.cons_append, List.nil_append, clr_i, clr_r, clr_l, clr_n, nI_add, nsub, pk_mul, nle_F, nle_T, nlt_F, nlt_T, neq_F, nz_F, nz_T, nneg_F, npos_T, npos_lF, npos_lT, nle0_F, m1_neg, m1_pos, m1_z, neq_m1, m1_neq, ↓reduceIte, if_true, if_false, not_true_eq_false, not_false_eq_true, bI_eq0, Bool.true_eq_false, Bool.false_eq_true, true_and, and_true, false_and, and_false, true_or, or_true, false_or, or_false, decide_true, decide_false, Bool.and_self, Bool.true_and, Bool.and_true, Bool.false_and, Bool.and_false, Bool.true_or, Bool.or_true, Bool.false_or, Bool.or_false, Bool.not_true, Bool.not_false, gR_84, ra_20, wa_20, ha_20, gR_87, ra_21, wa_21, ha_21, gR_65, ra_14, wa_14, ha_14, wAT_20, wAT_21, wAT_u20, wAT_u21, e14, R_isIn, h])
  have e0 : emR f m w y = emR f m (wAT w (w 19) (fun v => if v < 0 then nI 0 else w 20 v) (fun v => if v < 0 then (if tb (w 14 t) v = true then nI 15 else nI 0) else w 21 v)) y := by
    congr 1
    exact (wAT_self w).symm
  generalize hF : (fun v => if v < 3 then nI 0 else w 20 v) = F at k1
  generalize hT : (fun v => if v < 3 then (if tb (w 14 t) v = true then nI 15 else nI 0) else w 21 v) = T at k1
  have kp : Kp n w (wAT w (w 19) F T) := ⟨fun k i a b => by
    unfold wAT
    rw [if_neg (by omega), if_neg (by omega), if_neg (by omega)], G.rv⟩
  have G' := G.kp kp
  have hB : bxW (wAT w (w 19) F T) (fun _ => 0) (fun v => if tb (w 14 t) v = true then 15 else 0) := by
    intro v hv
    show F v = _ ∧ T v = _ ∧ _ ∧ _
    rw [← hF, ← hT]
    simp only [if_pos hv]
    refine ⟨trivial, ?_, by omega, ?_⟩
    · split <;> rfl
    · split <;> omega
  obtain ⟨w', hk, hg, key⟩ := R_work (f := f) (m := m) (d := d) (sz := sz) (us := us) (y := y) G' ht hB
  refine ⟨w', kp.trans hk, fun x yy hx hy h1 h2 => ?_, ?_⟩
  · have hb : ∀ c v, c < 16 → (c = 0 ∨ tb (w 14 t) v = true) → c ≤ if tb (w 14 t) v = true then 15 else 0 := by
      intro c v hc q
      rcases q with q | q
      · omega
      · rw [if_pos q]; omega
    rw [hg x yy 0 ⟨⟨Nat.zero_le _, hb x 0 hx h1⟩, ⟨Nat.zero_le _, hb yy 1 hy h2⟩, ⟨Nat.zero_le _, Nat.zero_le _⟩⟩]
    exact sem_kp G kp ht hx hy (by omega)
  · rw [e0]
    refine k1.trans ?_
    show Ev _ _ _ _ _ _ = _
    rw [s182_2]
    simp (maxSteps := 2000000) (disch := first | omega | with_reducible assumption | exact cobR | exact bI_01 _ | exact Or.inl rfl | exact Or.inr rfl | (simp (decide := true) only [wid_0, wid_i, wid_l, wid_r, wid_n]; done) | decide | fail) only [s182_3, s182_4, s182_7, s182_8, s182_11, s182_12, s182_13, s182_14, s182_15, s182_18, s182_19, s182_20, s182_21, s182_24, s182_25, s182_26, s182_27, s182_30, s182_33, s182_35, s182_38, s182_39, s182_40, s182_43, s182_46, s182_47, s182_48, s182_51 (st := []), Option.bind_some, Option.bind_none, Option.toList_some, Option.toList_none, List.cons_append, List.nil_append, clr_i, clr_r, clr_l, clr_n, nI_add, nsub, pk_mul, nle_F, nle_T, nlt_F, nlt_T, neq_F, nz_F, nz_T, nneg_F, npos_T, npos_lF, npos_lT, nle0_F, m1_neg, m1_pos, m1_z, neq_m1, m1_neq, ↓reduceIte, if_true, if_false, not_true_eq_false, not_false_eq_true, bI_eq0, Bool.true_eq_false, Bool.false_eq_true, true_and, and_true, false_and, and_false, true_or, or_true, false_or, or_false, decide_true, decide_false, Bool.and_self, Bool.true_and, Bool.and_true, Bool.false_and, Bool.and_false, Bool.true_or, Bool.or_true, Bool.false_or, Bool.or_false, Bool.not_true, Bool.not_false, key]
theorem R_span_no {s x y' z : Int32} (b : Bool) (G : GW w n tn fs sn tm) (h : (vI s tn && (vI x 16 && (vI y' 16 && vI z 16))) = false) : Ev (d + 5) 179 0 [some (.ref m), some (.int s), some (.int x), some (.int y'), some (.int z), some (.int (bI b)), none] [] (sz, us, emR f m w y) = some (some (.int (-1)), (sz, us, emR f m w y)) := by
  have hT := fun d s => R_isTerm (f := f) (m := m) (d := d) (sz := sz) (us := us) (y := y) G.ht G.ht60 s
  cases h1 : vI s tn
  · simp (disch := first | omega | with_reducible assumption | exact cobR | exact bI_01 _ | exact Or.inl rfl | exact Or.inr rfl | (simp (decide := true) only [wid_0, wid_i, wid_l, wid_r, wid_n]; done) | decide | fail) only [s179_0, s179_1, s179_2, s179_5, s179_8, s179_9, s179_10, s179_13, s179_16, s179_17, s179_18, s179_21, s179_24, s179_25, s179_27, s179_30, s179_33, s179_34 (st := []), Option.bind_some, Option.bind_none, Option.toList_some, Option.toList_none, List.cons_append, List.nil_append, clr_i, clr_r, clr_l, clr_n, nI_add, nsub, pk_mul, nle_F, nle_T, nlt_F, nlt_T, neq_F, nz_F, nz_T, nneg_F, npos_T, npos_lF, npos_lT, nle0_F, m1_neg, m1_pos, m1_z, neq_m1, m1_neq, ↓reduceIte, if_true, if_false, not_true_eq_false, not_false_eq_true, bI_eq0, Bool.true_eq_false, Bool.false_eq_true, true_and, and_true, false_and, and_false, true_or, or_true, false_or, or_false, decide_true, decide_false, Bool.and_self, Bool.true_and, Bool.and_true, Bool.false_and, Bool.and_false, Bool.true_or, Bool.or_true, Bool.false_or, Bool.or_false, Bool.not_true, Bool.not_false, hT, R_isPart, h1]
  · cases h2 : vI x 16
    · simp (disch := first | omega | with_reducible assumption | exact cobR | exact bI_01 _ | exact Or.inl rfl | exact Or.inr rfl | (simp (decide := true) only [wid_0, wid_i, wid_l, wid_r, wid_n]; done) | decide | fail) only [s179_0, s179_1, s179_2, s179_5, s179_8, s179_9, s179_10, s179_13, s179_16, s179_17, s179_18, s179_21, s179_24, s179_25, s179_27, s179_30, s179_33, s179_34 (st := []), Option.bind_some, Option.bind_none, Option.toList_some, Option.toList_none, List.cons_append, List.nil_append, clr_i, clr_r, clr_l, clr_n, nI_add, nsub, pk_mul, nle_F, nle_T, nlt_F, nlt_T, neq_F, nz_F, nz_T, nneg_F, npos_T, npos_lF, npos_lT, nle0_F, m1_neg, m1_pos, m1_z, neq_m1, m1_neq, ↓reduceIte, if_true, if_false, not_true_eq_false, not_false_eq_true, bI_eq0, Bool.true_eq_false, Bool.false_eq_true, true_and, and_true, false_and, and_false, true_or, or_true, false_or, or_false, decide_true, decide_false, Bool.and_self, Bool.true_and, Bool.and_true, Bool.false_and, Bool.and_false, Bool.true_or, Bool.or_true, Bool.false_or, Bool.or_false, Bool.not_true, Bool.not_false, hT, R_isPart, h1, h2]
    · cases h3 : vI y' 16
      · simp (disch := first | omega | with_reducible assumption | exact cobR | exact bI_01 _ | exact Or.inl rfl | exact Or.inr rfl | (simp (decide := true) only [wid_0, wid_i, wid_l, wid_r, wid_n]; done) | decide | fail) only [s179_0, s179_1, s179_2, s179_5, s179_8, s179_9, s179_10, s179_13, s179_16, s179_17, s179_18, s179_21, s179_24, s179_25, s179_27, s179_30, s179_33, s179_34 (st := []), Option.bind_some, Option.bind_none, Option.toList_some, Option.toList_none, List.cons_append, List.nil_append, clr_i, clr_r, clr_l, clr_n, nI_add, nsub, pk_mul, nle_F, nle_T, nlt_F, nlt_T, neq_F, nz_F, nz_T, nneg_F, npos_T, npos_lF, npos_lT, nle0_F, m1_neg, m1_pos, m1_z, neq_m1, m1_neq, ↓reduceIte, if_true, if_false, not_true_eq_false, not_false_eq_true, bI_eq0, Bool.true_eq_false, Bool.false_eq_true, true_and, and_true, false_and, and_false, true_or, or_true, false_or, or_false, decide_true, decide_false, Bool.and_self, Bool.true_and, Bool.and_true, Bool.false_and, Bool.and_false, Bool.true_or, Bool.or_true, Bool.false_or, Bool.or_false, Bool.not_true, Bool.not_false, hT, R_isPart, h1, h2, h3]
      · rw [h1, h2, h3] at h
        simp only [Bool.true_and] at h
        simp (disch := first | omega | with_reducible assumption | exact cobR | exact bI_01 _ | exact Or.inl rfl | exact Or.inr rfl | (simp (decide := true) only [wid_0, wid_i, wid_l, wid_r, wid_n]; done) | decide | fail) only [s179_0, s179_1, s179_2, s179_5, s179_8, s179_9, s179_10, s179_13, s179_16, s179_17, s179_18, s179_21, s179_24, s179_25, s179_27, s179_30, s179_33, s179_34 (st := []), Option.bind_some, Option.bind_none, Option.toList_some, Option.toList_none, List.cons_append, List.nil_append, clr_i, clr_r, clr_l, clr_n, nI_add, nsub, pk_mul, nle_F, nle_T, nlt_F, nlt_T, neq_F, nz_F, nz_T, nneg_F, npos_T, npos_lF, npos_lT, nle0_F, m1_neg, m1_pos, m1_z, neq_m1, m1_neq, ↓reduceIte, if_true, if_false, not_true_eq_false, not_false_eq_true, bI_eq0, Bool.true_eq_false, Bool.false_eq_true, true_and, and_true, false_and, and_false, true_or, or_true, false_or, or_false, decide_true, decide_false, Bool.and_self, Bool.true_and, Bool.and_true, Bool.false_and, Bool.and_false, Bool.true_or, Bool.or_true, Bool.false_or, Bool.or_false, Bool.not_true, Bool.not_false, hT, R_isPart, h1, h2, h3, h]
theorem R_span {t x y' z : Nat} (b : Bool) (G : GW w n tn fs sn tm) (ht : t < tn) (hx : x < 16) (hy : y' < 16) (hz : z < 16) : ∃ w', Kp n w w' ∧ Ev (d + 5) 179 0 [some (.ref m), some (.int (nI t)), some (.int (nI x)), some (.int (nI y')), some (.int (nI z)), some (.int (bI b)), none] [] (sz, us, emR f m w y) = some (some (.int (if nI 600 < w 15 t then -5 else if b = true then (sem (rW w n) fs sn n tm t x y' z).2 else (sem (rW w n) fs sn n tm t x y' z).1)), (sz, us, emR f m w' y)) := by
  have h60 := G.ht60
  have hT := fun d s => R_isTerm (f := f) (m := m) (d := d) (sz := sz) (us := us) (y := y) G.ht G.ht60 s
  have e0 : vI (nI t) tn = true := by rw [vI_nI (by omega)]; exact decide_eq_true ht
  have e1 : vI (nI x) 16 = true := by rw [vI_nI (by omega)]; exact decide_eq_true hx
  have e2 : vI (nI y') 16 = true := by rw [vI_nI (by omega)]; exact decide_eq_true hy
  have e3 : vI (nI z) 16 = true := by rw [vI_nI (by omega)]; exact decide_eq_true hz
  by_cases h : nI 600 < w 15 t
  · have h' : ¬ w 15 t ≤ nI 600 := Int32.not_le.mpr h
    refine ⟨w, ⟨fun _ _ _ _ => rfl, G.rv⟩, ?_⟩
    simp (disch := first | omega | with_reducible assumption | exact cobR | exact bI_01 _ | exact Or.inl rfl | exact Or.inr rfl | (simp (decide := true) only [wid_0, wid_i, wid_l, wid_r, wid_n]; done) | decide | fail) only [s179_0, s179_1, s179_2, s179_5, s179_8, s179_9, s179_10, s179_13, s179_16, s179_17, s179_18, s179_21, s179_24, s179_25, s179_27, s179_30, s179_33, s179_34 (st := []), s179_35, s179_36, s179_39, s179_40, s179_41, s179_44, s179_47, s179_49 (st := []), Option.bind_some, Option.bind_none, Option.toList_some, Option.toList_none, List.cons_append, List.nil_append, clr_i, clr_r, clr_l, clr_n, nI_add, nsub, pk_mul, nle_F, nle_T, nlt_F, nlt_T, neq_F, nz_F, nz_T, nneg_F, npos_T, npos_lF, npos_lT, nle0_F, m1_neg, m1_pos, m1_z, neq_m1, m1_neq, ↓reduceIte, if_true, if_false, not_true_eq_false, not_false_eq_true, bI_eq0, Bool.true_eq_false, Bool.false_eq_true, true_and, and_true, false_and, and_false, true_or, or_true, false_or, or_false, decide_true, decide_false, Bool.and_self, Bool.true_and, Bool.and_true, Bool.false_and, Bool.and_false, Bool.true_or, Bool.or_true, Bool.false_or, Bool.or_false, Bool.not_true, Bool.not_false, gR_68, ra_15, wa_15, ha_15, hT, R_isPart, e0, e1, e2, e3, h, h']
  · have h' : w 15 t ≤ nI 600 := Int32.not_lt.mp h
    have k1 := loopE (fun k => Ev (d + 5) 179 53 [some (.ref m), some (.int (nI t)), some (.int (nI x)), some (.int (nI y')), some (.int (nI z)), some (.int (bI b)), some (.int (nI k))] [] (sz, us, emR f m (wAT w (w 19) (fun v => if v < k then nI (if v = 0 then x else if v = 1 then y' else z) else w 20 v) (fun v => if v < k then nI (if v = 0 then x else if v = 1 then y' else z) else w 21 v)) y)) 3 (fun k hk => by
      show Ev _ _ _ _ _ _ = Ev _ _ _ _ _ _
      have e1 : ∀ (g : Nat → Int32), (fun v => if v < k + 1 then nI (if v = 0 then x else if v = 1 then y' else z) else g v) = upd (fun v => if v < k then nI (if v = 0 then x else if v = 1 then y' else z) else g v) k (nI (if k = 0 then x else if k = 1 then y' else z)) := by
        intro g
        funext i
        unfold upd
        by_cases q : i = k
        · subst q; simp
        · by_cases q2 : i < k
          · simp [q, q2, show i < k + 1 by omega]
          · simp [q, q2, show ¬ i < k + 1 by omega]
      rw [e1, e1]
      generalize (fun v => if v < k then nI (if v = 0 then x else if v = 1 then y' else z) else w 20 v) = F
      generalize (fun v => if v < k then nI (if v = 0 then x else if v = 1 then y' else z) else w 21 v) = T
      have hc : k = 0 ∨ k = 1 ∨ k = 2 := by omega
      rw [s179_53]
      rcases hc with q | q | q <;> subst q <;> simp (maxSteps := 2000000) (disch := first | omega | with_reducible assumption | exact cobR | exact bI_01 _ | exact Or.inl rfl | exact Or.inr rfl | (simp (decide := true) only [wid_0, wid_i, wid_l, wid_r, wid_n]; done) | decide | fail) only [s179_55, s179_56, s179_59, s179_60, s179_63, s179_65, s179_67, s179_70, s179_71, s179_74, s179_76, s179_77, s179_80, s179_81, s179_84, s179_86, s179_87, s179_88, s179_91, s179_93, s179_94, s179_97, s179_99, s179_100, s179_101, s179_104, Option.bind_some, Option.bind_none, Option.toList_some, Option.toList_none, List.cons_append, List.nil_append, clr_i, clr_r, clr_l, clr_n, nI_add, nsub, pk_mul, nle_F, nle_T, nlt_F, nlt_T, neq_F, nz_F, nz_T, nneg_F, npos_T, npos_lF, npos_lT, nle0_F, m1_neg, m1_pos, m1_z, neq_m1, m1_neq, ↓reduceIte, if_true, if_false, not_true_eq_false, not_false_eq_true, bI_eq0, Bool.true_eq_false, Bool.false_eq_true, true_and, and_true, false_and, and_false, true_or, or_true, false_or, or_false, decide_true, decide_false, Bool.and_self, Bool.true_and, Bool.and_true, Bool.false_and, Bool.and_false, Bool.true_or, Bool.or_true, Bool.false_or, Bool.or_false, Bool.not_true, Bool.not_false, gR_84, ra_20, wa_20, ha_20, gR_87, ra_21, wa_21, ha_21, wAT_20, wAT_21, wAT_u20, wAT_u21, upd_at]
      all_goals rfl)
    have e0' : emR f m w y = emR f m (wAT w (w 19) (fun v => if v < 0 then nI (if v = 0 then x else if v = 1 then y' else z) else w 20 v) (fun v => if v < 0 then nI (if v = 0 then x else if v = 1 then y' else z) else w 21 v)) y := by
      congr 1
      exact (wAT_self w).symm
    generalize hF : (fun v => if v < 3 then nI (if v = 0 then x else if v = 1 then y' else z) else w 20 v) = F at k1
    generalize hT' : (fun v => if v < 3 then nI (if v = 0 then x else if v = 1 then y' else z) else w 21 v) = T at k1
    have kp : Kp n w (wAT w (w 19) F T) := ⟨fun k i a b => by
      unfold wAT
      rw [if_neg (by omega), if_neg (by omega), if_neg (by omega)], G.rv⟩
    have hB : bxW (wAT w (w 19) F T) (fun v => if v = 0 then x else if v = 1 then y' else z) (fun v => if v = 0 then x else if v = 1 then y' else z) := by
      intro v hv
      show F v = _ ∧ T v = _ ∧ _ ∧ _
      rw [← hF, ← hT']
      simp only [if_pos hv]
      refine ⟨trivial, trivial, by omega, ?_⟩
      split
      · omega
      · split <;> omega
    obtain ⟨w', hk, hg, key⟩ := R_work (f := f) (m := m) (d := d) (sz := sz) (us := us) (y := y) (G.kp kp) ht hB
    have hs := hg x y' z ⟨⟨Nat.le_refl _, Nat.le_refl _⟩, ⟨Nat.le_refl _, Nat.le_refl _⟩, ⟨Nat.le_refl _, Nat.le_refl _⟩⟩
    rw [sem_kp G kp ht hx hy hz] at hs
    refine ⟨w', kp.trans hk, ?_⟩
    rw [if_neg h, ← hs]
    unfold gST
    simp (maxSteps := 2000000) (disch := first | omega | with_reducible assumption | exact cobR | exact bI_01 _ | exact Or.inl rfl | exact Or.inr rfl | (simp (decide := true) only [wid_0, wid_i, wid_l, wid_r, wid_n]; done) | decide | fail) only [s179_0, s179_1, s179_2, s179_5, s179_8, s179_9, s179_10, s179_13, s179_16, s179_17, s179_18, s179_21, s179_24, s179_25, s179_27, s179_30, s179_33, s179_34 (st := []), s179_35, s179_36, s179_39, s179_40, s179_41, s179_44, s179_47, s179_49 (st := []), s179_50, s179_51, Option.bind_some, Option.bind_none, Option.toList_some, Option.toList_none, List.cons_append, List.nil_append, clr_i, clr_r, clr_l, clr_n, nI_add, nsub, pk_mul, nle_F, nle_T, nlt_F, nlt_T, neq_F, nz_F, nz_T, nneg_F, npos_T, npos_lF, npos_lT, nle0_F, m1_neg, m1_pos, m1_z, neq_m1, m1_neq, ↓reduceIte, if_true, if_false, not_true_eq_false, not_false_eq_true, bI_eq0, Bool.true_eq_false, Bool.false_eq_true, true_and, and_true, false_and, and_false, true_or, or_true, false_or, or_false, decide_true, decide_false, Bool.and_self, Bool.true_and, Bool.and_true, Bool.false_and, Bool.and_false, Bool.true_or, Bool.or_true, Bool.false_or, Bool.or_false, Bool.not_true, Bool.not_false, gR_68, ra_15, wa_15, ha_15, hT, R_isPart, e0, e1, e2, e3, h, h']
    rw [e0']
    refine k1.trans ?_
    show Ev _ _ _ _ _ _ = _
    rw [s179_53]
    have ei : 4096 * t + 256 * x + 16 * y' + z = ix t x y' z := by unfold ix; omega
    have il : ix t x y' z < 245760 := by unfold ix; omega
    cases b
    · simp (maxSteps := 2000000) (disch := first | omega | with_reducible assumption | exact cobR | exact bI_01 _ | exact Or.inl rfl | exact Or.inr rfl | (simp (decide := true) only [wid_0, wid_i, wid_l, wid_r, wid_n]; done) | decide | fail) only [s179_55, s179_56, s179_107, s179_108, s179_109, s179_112, s179_115, s179_116, s179_117, s179_120, s179_121, s179_122, s179_123, s179_125, s179_126, s179_127, s179_128, s179_130, s179_131, s179_133, s179_135, s179_138, s179_139, s179_142, s179_144, s179_145, s179_148, s179_149, s179_152, s179_154, s179_155 (st := []), Option.bind_some, Option.bind_none, Option.toList_some, Option.toList_none, List.cons_append, List.nil_append, clr_i, clr_r, clr_l, clr_n, nI_add, nsub, pk_mul, nle_F, nle_T, nlt_F, nlt_T, neq_F, nz_F, nz_T, nneg_F, npos_T, npos_lF, npos_lT, nle0_F, m1_neg, m1_pos, m1_z, neq_m1, m1_neq, ↓reduceIte, if_true, if_false, not_true_eq_false, not_false_eq_true, bI_eq0, Bool.true_eq_false, Bool.false_eq_true, true_and, and_true, false_and, and_false, true_or, or_true, false_or, or_false, decide_true, decide_false, Bool.and_self, Bool.true_and, Bool.and_true, Bool.false_and, Bool.and_false, Bool.true_or, Bool.or_true, Bool.false_or, Bool.or_false, Bool.not_true, Bool.not_false, gR_75, ra_17, wa_17, ha_17, gR_78, ra_18, wa_18, ha_18, key, ei, bI_f]
    · simp (maxSteps := 2000000) (disch := first | omega | with_reducible assumption | exact cobR | exact bI_01 _ | exact Or.inl rfl | exact Or.inr rfl | (simp (decide := true) only [wid_0, wid_i, wid_l, wid_r, wid_n]; done) | decide | fail) only [s179_55, s179_56, s179_107, s179_108, s179_109, s179_112, s179_115, s179_116, s179_117, s179_120, s179_121, s179_122, s179_123, s179_125, s179_126, s179_127, s179_128, s179_130, s179_131, s179_133, s179_135, s179_138, s179_139, s179_142, s179_144, s179_145, s179_148, s179_149, s179_152, s179_154, s179_155 (st := []), Option.bind_some, Option.bind_none, Option.toList_some, Option.toList_none, List.cons_append, List.nil_append, clr_i, clr_r, clr_l, clr_n, nI_add, nsub, pk_mul, nle_F, nle_T, nlt_F, nlt_T, neq_F, nz_F, nz_T, nneg_F, npos_T, npos_lF, npos_lT, nle0_F, m1_neg, m1_pos, m1_z, neq_m1, m1_neq, ↓reduceIte, if_true, if_false, not_true_eq_false, not_false_eq_true, bI_eq0, Bool.true_eq_false, Bool.false_eq_true, true_and, and_true, false_and, and_false, true_or, or_true, false_or, or_false, decide_true, decide_false, Bool.and_self, Bool.true_and, Bool.and_true, Bool.false_and, Bool.and_false, Bool.true_or, Bool.or_true, Bool.false_or, Bool.or_false, Bool.not_true, Bool.not_false, gR_75, ra_17, wa_17, ha_17, gR_78, ra_18, wa_18, ha_18, key, ei, bI_t]
end R12
