/-! what a term is worth: bits, free variables -/
theorem tb_stp {z b : Int32} {s k : Nat} (hs : s < 32) (hb : b = sb s ∨ b = nI 0) (hk : k ≠ s) : tb (z ||| b) k = tb z k := by
  rw [tb_or]
  rcases hb with rfl | rfl
  · rw [tb_sb hs]; simp [hk]
  · rw [tb_0, Bool.or_false]
theorem orS_hi {g : Nat → Int32 → Int32} {n k : Nat} (h : ∀ s z, s < n → k ≠ s → tb (g s z) k = tb z k) (hk : n ≤ k) : tb (itr g (nI 0) n) k = false := by
  induction n with
  | zero => exact tb_0 k
  | succ n ih =>
    rw [itr_s, h n _ (by omega) (by omega)]
    exact ih (fun s z hs => h s z (by omega)) (by omega)
theorem orS_tb {P : Nat → Bool} {n : Nat} (hn : n ≤ 32) {k : Nat} (hk : k < 32) : tb (itr (fun s z => z ||| (if P s = true then sb s else nI 0)) (nI 0) n) k = (decide (k < n) && P k) := by
  induction n with
  | zero => simp [itr, tb_0]
  | succ n ih =>
    rw [itr_s, tb_or, ih (by omega)]
    by_cases q : k = n
    · subst q
      cases h : P k
      · rw [if_neg (by simp), tb_0]; simp
      · rw [if_pos rfl, tb_sb (by omega)]; simp
    · have h2 : tb (if P n = true then sb n else nI 0) k = false := by
        cases h : P n
        · rw [if_neg (by simp), tb_0]
        · rw [if_pos rfl, tb_sb (by omega)]; simp [q]
      rw [h2, Bool.or_false]
      congr 1
      exact decide_eq_decide.mpr (by omega)
theorem tb_wal1 : ∀ n, n < 31 → ∀ k, k < 32 → tb (wal1 n) k = decide (k < n) := by decide +kernel
def hi0 (n : Nat) (a : Int32) : Prop := ∀ k, k < 32 → n ≤ k → tb a k = false
theorem hi0_and {n : Nat} {a b : Int32} (h : hi0 n a) : hi0 n (a &&& b) := fun k hk hn => by rw [tb_and, h k hk hn, Bool.false_and]
theorem hi0_or {n : Nat} {a b : Int32} (h : hi0 n a) (h' : hi0 n b) : hi0 n (a ||| b) := fun k hk hn => by rw [tb_or, h k hk hn, h' k hk hn, Bool.or_false]
theorem hi0_wal {n : Nat} (hn : n ≤ 30) : hi0 n (wal1 n) := fun k hk h => by rw [tb_wal1 n (by omega) k hk]; exact decide_eq_false (by omega)
theorem hi0_0 (n : Nat) : hi0 n (nI 0) := fun k _ _ => tb_0 k
theorem hi0_orU {n : Nat} {G : Nat → Int32} (h : ∀ p, p < 16 → hi0 n (G p)) : ∀ m, m ≤ 16 → hi0 n (orU G m) := by
  intro m
  induction m with
  | zero => intro _; exact hi0_0 n
  | succ m ih => intro hm; exact hi0_or (ih (by omega)) (h m (by omega))
section HI
variable {w : WD} {n : Nat}
theorem hi0_ev (a : Int32) : hi0 n (evO w a n) := fun k hk h => orS_hi (fun s z hs hks => tb_stp (by omega) (by split <;> simp) hks) h
theorem hi0_al (a : Int32) : hi0 n (alO w a n) := fun k hk h => orS_hi (fun s z hs hks => tb_stp (by omega) (by split <;> simp) hks) h
theorem hi0_wn (a b : Int32) : hi0 n (wnb w a b n) := fun k hk h => orS_hi (fun s z hs hks => tb_stp (by omega) (by (repeat' split) <;> simp) hks) h
theorem hi0_ah (fs sn : Nat → Option Nat) (a : Int32) : hi0 n (ahO fs sn a n) := fun k hk h => orS_hi (fun s z hs hks => tb_stp (by omega) (by split <;> simp) hks) h
theorem hi0_si (fs sn : Nat → Option Nat) (a b : Int32) : hi0 n (siO fs sn a b n) := fun k hk h => orS_hi (fun s z hs hks => tb_stp (by omega) (by split <;> simp) hks) h
theorem hi0_sm (tm : Nat → Nat → Nat) (t x y z : Nat) : hi0 n (smS w tm t x y z n) ∧ hi0 n (smM w tm t x y z n) :=
  ⟨fun k hk h => orS_hi (fun s z hs hks => tb_stp (by omega) (by split <;> simp) hks) h, fun k hk h => orS_hi (fun s z hs hks => tb_stp (by omega) (by split <;> simp) hks) h⟩
end HI
/-- one case of what a term is worth, by its kind -/
theorem semO_lo {w : WD} {fs sn : Nat → Option Nat} {n t x y z : Nat} {tm : Nat → Nat → Nat} {g : Nat → Nat → Nat → Nat → Int32 × Int32} (h : tm t 0 < 6) : semO w fs sn n tm g t x y z = (smS w tm t x y z n, smM w tm t x y z n) := by
  unfold semO
  exact if_pos h
def semK (w : WD) (fs sn : Nat → Option Nat) (n k : Nat) (a b : Int32 × Int32) : Int32 × Int32 :=
  if k = 6 then (wal1 n &&& (a.2 ^^^ (-1)), wal1 n &&& (a.1 ^^^ (-1)))
  else if k = 7 then (a.1 &&& b.1, a.2 &&& b.2)
  else if k = 8 then (a.1 ||| b.1, a.2 ||| b.2)
  else if k = 9 then (evO w a.1 n, evO w a.2 n)
  else if k = 10 then (alO w a.1 n, alO w a.2 n)
  else if k = 11 then (wnb w a.1 a.2 n, wnb w a.2 a.1 n)
  else if k = 12 then (ahO fs sn a.1 n, ahO fs sn a.2 n)
  else (siO fs sn a.1 b.1 n, siO fs sn a.2 b.2 n)
theorem semO_mid {w : WD} {fs sn : Nat → Option Nat} {n t x y z : Nat} {tm : Nat → Nat → Nat} {g : Nat → Nat → Nat → Nat → Int32 × Int32} (h : 6 ≤ tm t 0) (h2 : tm t 0 < 14) : semO w fs sn n tm g t x y z = semK w fs sn n (tm t 0) (g (tm t 1) x y z) (g (tm t 2) x y z) := by
  unfold semO semK
  rw [if_neg (by omega)]
  by_cases q : tm t 0 = 13
  · simp [q]
  · have hq : tm t 0 = 6 ∨ tm t 0 = 7 ∨ tm t 0 = 8 ∨ tm t 0 = 9 ∨ tm t 0 = 10 ∨ tm t 0 = 11 ∨ tm t 0 = 12 := by omega
    rcases hq with q | q | q | q | q | q | q <;> simp [q]
theorem semO_14 {w : WD} {fs sn : Nat → Option Nat} {n t x y z : Nat} {tm : Nat → Nat → Nat} {g : Nat → Nat → Nat → Nat → Int32 × Int32} (h : tm t 0 = 14) : semO w fs sn n tm g t x y z = (orU (fun p => (g (tm t 2) (pl0 (tm t 1) p x) (pl1 (tm t 1) p y) (pl2 (tm t 1) p z)).1) 16, orU (fun p => (g (tm t 2) (pl0 (tm t 1) p x) (pl1 (tm t 1) p y) (pl2 (tm t 1) p z)).2) 16) := by
  unfold semO
  simp [h]
theorem hi0_semK {w : WD} {fs sn : Nat → Option Nat} {n k : Nat} {a b : Int32 × Int32} (hn : n ≤ 30) (ha : hi0 n a.1 ∧ hi0 n a.2) (hb : hi0 n b.1 ∧ hi0 n b.2) : hi0 n (semK w fs sn n k a b).1 ∧ hi0 n (semK w fs sn n k a b).2 := by
  unfold semK
  (repeat' split)
  · exact ⟨hi0_and (hi0_wal hn), hi0_and (hi0_wal hn)⟩
  · exact ⟨hi0_and ha.1, hi0_and ha.2⟩
  · exact ⟨hi0_or ha.1 hb.1, hi0_or ha.2 hb.2⟩
  · exact ⟨hi0_ev _, hi0_ev _⟩
  · exact ⟨hi0_al _, hi0_al _⟩
  · exact ⟨hi0_wn _ _, hi0_wn _ _⟩
  · exact ⟨hi0_ah _ _ _, hi0_ah _ _ _⟩
  · exact ⟨hi0_si _ _ _ _, hi0_si _ _ _ _⟩
theorem hi0_sem {w w0 : WD} {fs sn : Nat → Option Nat} {n tn : Nat} {tm : Nat → Nat → Nat} (hn : n ≤ 30) (hT : ∀ i, i < tn → TMt w0 tm i) : ∀ t, t < tn → ∀ x y z, hi0 n (sem w fs sn n tm t x y z).1 ∧ hi0 n (sem w fs sn n tm t x y z).2 := by
  intro t
  induction t using Nat.strongRecOn with
  | _ t ih =>
    intro ht x y z
    have T := hT t ht
    rw [sem_eq T]
    by_cases q : tm t 0 < 6
    · rw [semO_lo q]
      exact hi0_sm tm t x y z
    · by_cases q2 : tm t 0 < 14
      · obtain ⟨-, h1, -, h2⟩ := T.2.2.2.2.1 (by omega) q2
        rw [semO_mid (by omega) q2]
        exact hi0_semK hn (ih _ h1 (by omega) x y z) (ih _ h2 (by omega) x y z)
      · have h14 : tm t 0 = 14 := by have := T.2.1; omega
        have h2 := (T.2.2.2.2.2 h14).2.2.2
        rw [semO_14 h14]
        exact ⟨hi0_orU (fun p _ => (ih _ h2 (by omega) _ _ _).1) 16 (Nat.le_refl 16), hi0_orU (fun p _ => (ih _ h2 (by omega) _ _ _).2) 16 (Nat.le_refl 16)⟩
/-- what is free in a term -/
def FRt (fr : Nat → Int32) (tm : Nat → Nat → Nat) (t : Nat) : Prop :=
  (tm t 0 < 3 → tm t 1 < 3 → tb (fr t) (tm t 1) = true) ∧
  (3 ≤ tm t 0 → tm t 0 < 6 → (tm t 2 < 3 → tb (fr t) (tm t 2) = true) ∧ (tm t 3 < 3 → tb (fr t) (tm t 3) = true)) ∧
  (6 ≤ tm t 0 → tm t 0 < 14 → ∀ j, j < 3 → tb (fr (tm t 1)) j = true ∨ tb (fr (tm t 2)) j = true → tb (fr t) j = true) ∧
  (tm t 0 = 14 → ∀ j, j < 3 → j ≠ tm t 1 → tb (fr (tm t 2)) j = true → tb (fr t) j = true)
/-- places that agree where a variable is free -/
def agr (r : Int32) (x y z x' y' z' : Nat) : Prop := (tb r 0 = true → x = x') ∧ (tb r 1 = true → y = y') ∧ (tb r 2 = true → z = z')
theorem pfU_agr {r : Int32} {u x y z x' y' z' : Nat} (hu : Tg u) (hf : u < 3 → tb r u = true) (h : agr r x y z x' y' z') : pfU u x y z = pfU u x' y' z' := by
  unfold pfU
  rcases hu with hu | hu
  · have hc : u = 0 ∨ u = 1 ∨ u = 2 := by omega
    have hf := hf hu
    rcases hc with rfl | rfl | rfl
    · simpa using h.1 hf
    · simpa using h.2.1 hf
    · simpa using h.2.2 hf
  · rw [if_pos (by omega), if_pos (by omega)]
theorem sem_fr {w w0 : WD} {fs sn : Nat → Option Nat} {n tn : Nat} {fr : Nat → Int32} {tm : Nat → Nat → Nat} (hT : ∀ i, i < tn → TMt w0 tm i) (hF : ∀ i, i < tn → FRt fr tm i) : ∀ t, t < tn → ∀ x y z x' y' z', agr (fr t) x y z x' y' z' → sem w fs sn n tm t x y z = sem w fs sn n tm t x' y' z' := by
  intro t
  induction t using Nat.strongRecOn with
  | _ t ih =>
    intro ht x y z x' y' z' h
    have T := hT t ht
    obtain ⟨F1, F2, F3, F4⟩ := hF t ht
    rw [sem_eq T, sem_eq T]
    by_cases q : tm t 0 < 6
    · rw [semO_lo q, semO_lo q]
      have hl : ∀ s, hlT w tm t s x y z = hlT w tm t s x' y' z' := by
        intro s
        unfold hlT
        by_cases q3 : tm t 0 < 3
        · rw [if_pos q3, if_pos q3, pfU_agr (T.2.2.1 q3).2 (F1 q3) h]
        · obtain ⟨-, u2, -, u4, -⟩ := T.2.2.2.1 (by omega) q
          obtain ⟨f2, f3⟩ := F2 (by omega) q
          rw [if_neg q3, if_neg q3, pfU_agr u2 f2 h, pfU_agr u4 f3 h]
      unfold smS smM smH
      simp only [hl]
    · by_cases q2 : tm t 0 < 14
      · obtain ⟨-, h1, -, h2⟩ := T.2.2.2.2.1 (by omega) q2
        have F3 := F3 (by omega) q2
        rw [semO_mid (by omega) q2, semO_mid (by omega) q2]
        rw [ih _ h1 (by omega) x y z x' y' z' ⟨fun e => h.1 (F3 0 (by omega) (Or.inl e)), fun e => h.2.1 (F3 1 (by omega) (Or.inl e)), fun e => h.2.2 (F3 2 (by omega) (Or.inl e))⟩]
        rw [ih _ h2 (by omega) x y z x' y' z' ⟨fun e => h.1 (F3 0 (by omega) (Or.inr e)), fun e => h.2.1 (F3 1 (by omega) (Or.inr e)), fun e => h.2.2 (F3 2 (by omega) (Or.inr e))⟩]
      · have h14 : tm t 0 = 14 := by have := T.2.1; omega
        obtain ⟨-, hv, -, h2⟩ := T.2.2.2.2.2 h14
        have F4 := F4 h14
        have key : ∀ p, sem w fs sn n tm (tm t 2) (pl0 (tm t 1) p x) (pl1 (tm t 1) p y) (pl2 (tm t 1) p z) = sem w fs sn n tm (tm t 2) (pl0 (tm t 1) p x') (pl1 (tm t 1) p y') (pl2 (tm t 1) p z') := by
          intro p
          refine ih _ h2 (by omega) _ _ _ _ _ _ ⟨fun e => ?_, fun e => ?_, fun e => ?_⟩
          · unfold pl0
            by_cases a : tm t 1 = 0
            · rw [if_pos a, if_pos a]
            · rw [if_neg a, if_neg a]; exact h.1 (F4 0 (by omega) (by omega) e)
          · unfold pl1
            by_cases a : tm t 1 = 1
            · rw [if_pos a, if_pos a]
            · rw [if_neg a, if_neg a]; exact h.2.1 (F4 1 (by omega) (by omega) e)
          · unfold pl2
            by_cases a : tm t 1 = 2
            · rw [if_pos a, if_pos a]
            · rw [if_neg a, if_neg a]; exact h.2.2 (F4 2 (by omega) (by omega) e)
        rw [semO_14 h14, semO_14 h14]
        simp only [key]
