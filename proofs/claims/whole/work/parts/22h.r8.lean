/-! class and reference: the latest state changed -/
def sumN (f : Nat → Nat) : Nat → Nat := itr (fun k c => c + f k) 0
theorem sumN_s (f : Nat → Nat) (n : Nat) : sumN f (n + 1) = sumN f n + f n := rfl
theorem sumN_cg {f g : Nat → Nat} {n : Nat} (h : ∀ k, k < n → f k = g k) : sumN f n = sumN g n := itr_cg (fun k hk b => by rw [h k hk])
theorem sumN_add (f g : Nat → Nat) (n : Nat) : sumN (fun k => f k + g k) n = sumN f n + sumN g n := by
  induction n with
  | zero => rfl
  | succ n ih => rw [sumN_s, sumN_s, sumN_s, ih]; omega
theorem sumN_one (p a : Nat) (n : Nat) : sumN (fun o => if o = p then a else 0) n = if p < n then a else 0 := by
  induction n with
  | zero => rfl
  | succ n ih =>
    rw [sumN_s, ih]
    by_cases h : n = p
    · subst h; rw [if_neg (by omega), if_pos rfl, if_pos (by omega)]; omega
    · rw [if_neg h]
      by_cases h2 : p < n
      · rw [if_pos h2, if_pos (by omega)]; rfl
      · rw [if_neg h2, if_neg (by omega)]
theorem sumN_app (f : Nat → Nat) (a b : Nat) : sumN f (a + b) = sumN f a + sumN (fun k => f (a + k)) b := by
  induction b with
  | zero => rfl
  | succ b ih => rw [← Nat.add_assoc, sumN_s, sumN_s, ih]; omega
def bN (b : Bool) : Nat := if b = true then 1 else 0
theorem cnt_sum (s : Int32) : cnt s 32 = sumN (fun j => bN (tb s j)) 32 := rfl
theorem cnt_clr (s : Int32) {p : Nat} (hp : p < 32) : cnt s 32 = cnt (s &&& (sb p ^^^ (-1))) 32 + bN (tb s p) := by
  rw [cnt_sum, cnt_sum]
  have e : sumN (fun j => bN (tb s j)) 32 = sumN (fun j => bN (tb (s &&& (sb p ^^^ (-1))) j) + (if j = p then bN (tb s p) else 0)) 32 := by
    refine sumN_cg (fun j hj => ?_)
    rw [tb_and, tb_not _ hj, tb_sb hp]
    by_cases h : j = p
    · subst h; rw [if_pos rfl]; simp [bN]
    · rw [if_neg h]; simp [h]
  rw [e, sumN_add, sumN_one, if_pos hp]
theorem and_0l (z : Int32) : nI 0 &&& z = nI 0 := by
  apply i32_ext
  intro k _
  rw [tb_and, tb_0]; rfl
theorem tb_b01 (b : Bool) : (if b = true then (1 : Nat) else 0) = bN b := rfl
section GO
variable {w : WD} {s p : Nat}
theorem goO_it (k : Nat) (z : Nat × WD) : ∀ m, m ≤ 16 → (itr (goO s k p) z m).1 = z.1 + sumN (fun o => bN (tb (z.2 8 (lk s k o)) p)) m ∧ ∀ kk i, (itr (goO s k p) z m).2 kk i = if kk = 8 ∧ lk s k 0 ≤ i ∧ i < lk s k 0 + m then z.2 8 i &&& (sb p ^^^ (-1)) else z.2 kk i := by
  intro m
  induction m with
  | zero => intro _; exact ⟨rfl, fun kk i => by rw [if_neg (by omega)]; rfl⟩
  | succ m ih =>
    intro hm
    obtain ⟨h1, h2⟩ := ih (by omega)
    rw [itr_s]
    generalize itr (goO s k p) z m = y at h1 h2
    have e : y.2 8 (lk s k m) = z.2 8 (lk s k m) := by rw [h2, if_neg (by unfold lk; omega)]
    unfold goO
    dsimp only
    rw [e]
    refine ⟨by rw [h1, sumN_s, tb_b01]; omega, fun kk i => ?_⟩
    rw [wU_ap]
    by_cases q : kk = 8 ∧ i = lk s k m
    · rw [if_pos q, if_pos (by unfold lk at *; omega), q.2]
    · rw [if_neg q, h2]
      by_cases q2 : kk = 8 ∧ lk s k 0 ≤ i ∧ i < lk s k 0 + m
      · rw [if_pos q2, if_pos (by omega)]
      · rw [if_neg q2, if_neg (by unfold lk at *; omega)]
/-- how many links go with place o of a kind -/
def goD (w : WD) (s p i : Nat) : Nat := if i % 16 = p then cnt (w 8 (48 * s + i)) 32 else bN (tb (w 8 (48 * s + i)) p)
def goL (w : WD) (s p i : Nat) : Int32 := if i % 16 = p then nI 0 else w 8 (48 * s + i) &&& (sb p ^^^ (-1))
theorem goK_it (hp : p < 16) : ∀ m, m ≤ 3 → (itr (goK s p) (0, w) m).1 = sumN (goD w s p) (16 * m) ∧ ∀ kk i, (itr (goK s p) (0, w) m).2 kk i = if kk = 8 ∧ 48 * s ≤ i ∧ i < 48 * s + 16 * m then goL w s p (i - 48 * s) else w kk i := by
  intro m
  induction m with
  | zero => intro _; exact ⟨rfl, fun kk i => by rw [if_neg (by omega)]; rfl⟩
  | succ m ih =>
    intro hm
    obtain ⟨h1, h2⟩ := ih (by omega)
    rw [itr_s]
    generalize itr (goK s p) (0, w) m = y at h1 h2
    unfold goK
    obtain ⟨g1, g2⟩ := goO_it (s := s) (p := p) m (y.1 + cnt (y.2 8 (lk s m p)) 32, wU y.2 8 (lk s m p) (nI 0)) 16 (Nat.le_refl 16)
    have e0 : ∀ o, o < 16 → y.2 8 (lk s m o) = w 8 (48 * s + (16 * m + o)) := fun o ho => by
      rw [h2, if_neg (by unfold lk; omega)]
      unfold lk
      rw [show (3 * s + m) * 16 + o = 48 * s + (16 * m + o) by omega]
    refine ⟨?_, fun kk i => ?_⟩
    · rw [g1, h1]
      dsimp only
      rw [e0 p hp, show 16 * (m + 1) = 16 * m + 16 by omega, sumN_app]
      have e1 : sumN (fun o => goD w s p (16 * m + o)) 16 = sumN (fun o => (if o = p then cnt (w 8 (48 * s + (16 * m + p))) 32 else 0) + bN (tb (wU y.2 8 (lk s m p) (nI 0) 8 (lk s m o)) p)) 16 := by
        refine sumN_cg (fun o ho => ?_)
        unfold goD
        by_cases q : o = p
        · subst q
          rw [if_pos (by omega), if_pos rfl, wU_at, tb_0]; rfl
        · rw [if_neg (by omega), if_neg q, wU_ap, if_neg (by unfold lk; omega), e0 o ho, Nat.zero_add]
      rw [e1, sumN_add, sumN_one, if_pos hp]
      omega
    · rw [g2]
      dsimp only
      by_cases q : kk = 8 ∧ lk s m 0 ≤ i ∧ i < lk s m 0 + 16
      · rw [if_pos q, if_pos (by unfold lk at q; omega), wU_ap]
        unfold goL
        by_cases q2 : i = lk s m p
        · rw [if_pos ⟨rfl, q2⟩, if_pos (by rw [q2]; unfold lk; omega), and_0l]
        · rw [if_neg (by omega), if_neg (by unfold lk at *; omega), h2, if_neg (by unfold lk at *; omega), show 48 * s + (i - 48 * s) = i by unfold lk at q; omega]
      · rw [if_neg q, wU_ap, if_neg (by unfold lk at *; omega), h2]
        by_cases q2 : kk = 8 ∧ 48 * s ≤ i ∧ i < 48 * s + 16 * m
        · rw [if_pos q2, if_pos (by omega)]
        · rw [if_neg q2, if_neg (by unfold lk at *; omega)]
theorem goN_eq (hp : p < 16) : goN w s p = sumN (goD w s p) 48 := (goK_it hp 3 (Nat.le_refl 3)).1
theorem goW_at (hp : p < 16) (kk i : Nat) : goW w s p kk i = if kk = 0 ∧ i = 10 then nI 1 else if kk = 4 ∧ i = s then w 4 s &&& (sb p ^^^ (-1)) else if kk = 8 ∧ 48 * s ≤ i ∧ i < 48 * s + 48 then goL w s p (i - 48 * s) else w kk i := by
  have h2 := (goK_it (w := w) (s := s) hp 3 (Nat.le_refl 3)).2
  unfold goW
  rw [wU_ap]
  by_cases q : kk = 0 ∧ i = 10
  · rw [if_pos q, if_pos q]
  · rw [if_neg q, if_neg q, wU_ap]
    by_cases q2 : kk = 4 ∧ i = s
    · rw [if_pos q2, if_pos q2, h2, if_neg (by omega)]
    · rw [if_neg q2, if_neg q2, h2]
end GO
theorem kCL_drop {c : WD} {i p : Nat} (hp : p < 16) {w : WD} {s : Nat} (h : ∀ k, k < 48 → c (11 + 4 * i) k = w 8 (48 * s + k)) : nI (kCL c i 48) - nI (kCL (drW c i p) i 48) = nI (sumN (goD w s p) 48) := by
  have e : kCL c i 48 = kCL (drW c i p) i 48 + sumN (goD w s p) 48 := by
    have e1 : kCL c i 48 = sumN (fun k => cnt (drW c i p (11 + 4 * i) k) 32 + goD w s p k) 48 := by
      refine sumN_cg (fun k hk => ?_)
      unfold drW goD
      rw [wT_at, cop_in hk, ← h k hk]
      unfold drL
      by_cases q : k % 16 = p
      · rw [if_pos q, if_pos q]
        have : cnt (nI 0) 32 = 0 := by decide
        rw [this, Nat.zero_add]
      · rw [if_neg q, if_neg q]
        exact cnt_clr _ (by omega)
    rw [e1, sumN_add]
    rfl
  rw [nsub (by omega), e, Nat.add_sub_cancel_left]
section CH
variable {F : Hf} {B : Nat → Option Nat} {A : Nat → Nat} {td : Nat → Nat → Int32} {K : KT} {c c' : WD} {v : VD} {tA : Nat → Option Nat} {w w' : WD} {fs sn fs' sn' : Nat → Option Nat} {tm : Nat → Nat → Nat} {x sz n n' nt nt' tn ch kn : Nat}
theorem GW_st (G : GW w n tn fs sn tm) (h : ∀ k i, k = 1 ∨ k = 2 ∨ (10 ≤ k ∧ k ≤ 13) → w' k i = w k i) (h0 : w' 0 1 = w 0 1) (h2 : w' 0 12 = w 0 12) (hr : w' 0 10 = nI 0 → w 0 10 = nI 0 ∧ ∀ i, w' 22 i = w 22 i ∧ w' 8 i = w 8 i) : GW w' n tn fs sn tm := by
  obtain ⟨g1, g2, g3, g4, g5, g6, g7⟩ := G
  refine ⟨h0.trans g1, g2, h2.trans g3, g4, ⟨fun s hs => by rw [h 1 s (by omega)]; exact g5.1 s hs, fun s hs => by rw [h 2 s (by omega)]; exact g5.2.1 s hs, g5.2.2⟩, fun i hi => TMt_cg (fun k a b => h k i (by omega)) (g6 i hi), ?_⟩
  intro e i hi
  obtain ⟨e1, e2⟩ := hr e
  have e8 : w' 8 = w 8 := funext fun i => (e2 i).2
  rw [(e2 i).1, e8]
  exact g7 e1 i hi
theorem RLm.chg (R : RLm F B A td K c v tA w fs sn tm x sz n nt tn ch kn) (hch : ch + 1 < 1000) (hc : ∀ k, k = 0 ∨ 128 ≤ k → c' k = c k) (C' : CS c' w' fs' sn' n') (h13 : c' 1 3 = nI nt') (hnt : nt' ≤ n') (hN : ∀ s, s < nt' → NTs c' s) (h12 : c' 1 2 = nI (ch + 1)) (hw : ∀ k i, (10 ≤ k ∧ k ≤ 16) ∨ (24 ≤ k ∧ k ≤ 29) → w' k i = w k i) (hw0 : w' 0 27 = w 0 27) (G' : GW w' n' tn fs' sn' tm) (W' : WBd w' n') : RLm F B A td K c' v tA w' fs' sn' tm x sz n' nt' tn (ch + 1) kn := by
  obtain ⟨⟨C, q2, q3, q4, q5, q6, q7, q8, q9, q10, q11⟩, G, h3, h4, W, h6, h7, h8⟩ := R
  have hn' := C'.2.1
  have hne : ∀ z : Int32, z.toInt ≤ (ch : Int) → z = nI (ch + 1) → False := fun z hz e => by
    rw [e, nI_toInt (by omega)] at hz
    omega
  refine ⟨⟨C', fun s hs => ?_, h13, hnt, hN, G'.hT, q7, fun t ht => TDt_w (q8 t ht) (fun k i a b => hw k i (by omega)), h12, hch, q11⟩, G', ?_, ?_, W', ⟨by rw [hc 0 (by omega)]; exact h6.1, h6.2⟩, ?_, ?_⟩
  · obtain ⟨r, hr⟩ := W'.1 s (by omega)
    exact ⟨r, (CS.r C' (by omega)).trans hr⟩
  · intro t ht
    obtain ⟨a1, -⟩ := h3 t ht
    exact ⟨by omega, fun e => (hne _ a1 e).elim⟩
  · obtain ⟨r1, r2⟩ := h4
    rw [← hc 151 (by omega)] at r1
    refine ⟨by omega, ?_⟩
    rcases r2 with r2 | ⟨t, ht, r3, -⟩
    · exact Or.inl r2
    · exact Or.inr ⟨t, ht, r3, fun e => (hne _ r1 e).elim⟩
  · have hk6 := h7.2.2.1
    exact h7.cg (by rw [hc 0 (by omega)]) (fun k hk => hc _ (by omega)) (fun _ _ => rfl) hw0 (fun k _ => hw 24 k (by omega)) (fun i _ => hw 25 i (by omega)) (fun t => ⟨hw 14 t (by omega), hw 15 t (by omega)⟩)
  · exact h8.cg (fun _ _ _ => rfl) (Nat.le_refl _) (fun _ _ _ => rfl) (fun k i a b => hw k i (by omega))
theorem NTs_cg2 {s : Nat} (N : NTs c s) (h8 : c' (8 + 4 * s) = c (8 + 4 * s)) (h11 : c' (11 + 4 * s) = c (11 + 4 * s)) (h : ∀ k, 3 ≤ k → k < 6 → c' k = c k) (h1 : c' 1 4 = c 1 4) : NTs c' s := by
  unfold NTs at N ⊢
  rw [h8, h11, h 3 (by omega) (by omega), h 4 (by omega) (by omega), h 5 (by omega) (by omega), h1]
  exact N
theorem chW_o {ch nt n : Nat} {k : Nat} (h : k ≠ 1) : chW c ch nt n k = c k := by
  unfold chW
  rw [wU_off h, wU_off h]
theorem chW_1 (c : WD) (ch nt n : Nat) : chW c ch nt n 1 1 = c 1 1 ∧ chW c ch nt n 1 2 = nI (ch + 1) ∧ chW c ch nt n 1 3 = nI (min nt (n - 1)) ∧ chW c ch nt n 1 4 = c 1 4 := by
  unfold chW
  refine ⟨?_, ?_, wU_at, ?_⟩
  · rw [wU_ap, if_neg (by omega), wU_ap, if_neg (by omega)]
  · rw [wU_ap, if_neg (by omega), wU_at]
  · rw [wU_ap, if_neg (by omega), wU_ap, if_neg (by omega)]
end CH
