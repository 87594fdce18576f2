/-! the class made: a world -/
def cZ : WD := fun _ _ => 0
def vZ : VD := fun _ _ => .null
def tZ : Nat → Option Nat := fun _ => none
def gS2 (m k : Nat) : List PE := [.inr (7, [.int 0, .int 0, .int 0, .int 0, .int 0, .int 0, .ref (m + (8 + 4 * k + 1)), .ref (m + (8 + 4 * k + 2)), .ref (m + (8 + 4 * k + 3))]), zar 1 16, zar 1 16, zar 0 48]
def gA2 (m : Nat) : Nat → Nat := fun i => m + (8 + 4 * i)
def LPb (m : Nat) : List PE := [.inr (2, [.ref (m + 2), .int 0, .int 0, .int 0, .int 0, .ref (m + 3), .ref (m + 4), .ref (m + 5), .ref (m + 6), .ref (m + 7)]), arO 4 30 (gA2 m) 30, zar 0 16, zar 0 768, zar 0 768, zar 0 16, zar 3 30] ++ bkL (gS2 m) 30
theorem LPa_b (m : Nat) : LPa m = LPb m := by
  have e1 : gSA (m + 1) = gA2 m := by
    funext i
    unfold gSA gA2
    omega
  have e2 : gST' (m + 1) = gS2 m := by
    funext k
    unfold gST' gS2 stO
    rw [show m + 1 + (7 + 4 * k) + 1 = m + (8 + 4 * k + 1) by omega, show m + 1 + (7 + 4 * k) + 2 = m + (8 + 4 * k + 2) by omega, show m + 1 + (7 + 4 * k) + 3 = m + (8 + 4 * k + 3) by omega]
  have e3 : paO (m + 1) = .inr (2, [.ref (m + 2), .int 0, .int 0, .int 0, .int 0, .ref (m + 3), .ref (m + 4), .ref (m + 5), .ref (m + 6), .ref (m + 7)]) := rfl
  unfold LPa LPb pHd
  rw [e1, e2, e3]
  generalize bkL (gS2 m) 30 = T
  generalize arO 4 30 (gA2 m) 30 = U
  simp only [List.cons_append, List.nil_append]
theorem getL {α : Type} {L T : List α} {n i : Nat} (h : L.length = n) (hi : i < n) : (L ++ T)[i]? = L[i]? := List.getElem?_append_left (by omega)
theorem getR {α : Type} {L T : List α} {n i : Nat} (h : L.length = n) (hi : n ≤ i) : (L ++ T)[i]? = T[i - n]? := by rw [List.getElem?_append_right (by omega), h]
theorem bkL_get {g : Nat → List PE} {c : Nat} (h : ∀ k, (g k).length = c) {s j : Nat} (hj : j < c) : ∀ n, s < n → (bkL g n)[c * s + j]? = (g s)[j]? := by
  intro n
  induction n with
  | zero => intro hs; omega
  | succ n ih =>
    intro hs
    show (bkL g n ++ g n)[c * s + j]? = _
    have hl := bkL_len h n
    by_cases q : s = n
    · subst q
      rw [getR hl (by omega), Nat.add_sub_cancel_left]
    · have h1 : c * s + c ≤ c * n := by
        have := Nat.mul_le_mul_left c (show s + 1 ≤ n by omega)
        rw [Nat.mul_succ] at this
        exact this
      rw [getL hl (by omega)]
      exact ih (by omega)
theorem cce_3 {m k : Nat} (h : ckd k = 3) : cce m cZ yZ vZ tZ k = .inl (ctag k, clen k, .inl (fun _ => 0)) := by
  unfold cce
  rw [h]
  rfl
theorem cce_5 {m k : Nat} (h : ckd k = 5) : cce m cZ yZ vZ tZ k = .inr (7, [.int 0, .int 0, .int 0, .int 0, .int 0, .int 0, .ref (m + (k + 1)), .ref (m + (k + 2)), .ref (m + (k + 3))]) := by
  unfold cce
  rw [h]
  rfl
theorem cce_8 {m k : Nat} (h : ckd k = 8) : cce m cZ yZ vZ tZ k = .inr (1, [.null, .ref (m + (k + 1))]) := by
  unfold cce
  rw [h]
  rfl
theorem cce_10 {m k : Nat} (h : ckd k = 10) : cce m cZ yZ vZ tZ k = shO := by
  unfold cce
  rw [h]
  rfl
theorem ckd_lo {k : Nat} (h : k < 3) : ckd k = k := if_pos h
theorem ckd_37 {k : Nat} (h : 3 ≤ k) (h2 : k < 7) : ckd k = 3 := by unfold ckd; rw [if_neg (by omega), if_pos h2]
theorem ckd_7 : ckd 7 = 4 := rfl
theorem ckd_s5 {k : Nat} (h : 8 ≤ k) (h2 : k < 128) : ckd k = if (k - 8) % 4 = 0 then 5 else 3 := by unfold ckd; rw [if_neg (by omega), if_neg (by omega), if_neg (by omega), if_pos h2]
theorem ckd_k8 {k : Nat} (h : 130 ≤ k) (h2 : k < 142) : ckd k = if (k - 130) % 2 = 0 then 8 else 3 := by unfold ckd; rw [if_neg (by omega), if_neg (by omega), if_neg (by omega), if_neg (by omega), if_neg (by omega), if_neg (by omega), if_pos h2]
theorem ckd_sh {k : Nat} (h : 143 ≤ k) (h2 : k < 151) : ckd k = 10 := by unfold ckd; rw [if_neg (by omega), if_neg (by omega), if_neg (by omega), if_neg (by omega), if_neg (by omega), if_neg (by omega), if_neg (by omega), if_neg (by omega), if_pos h2]
theorem ckd_ro {k : Nat} (h : 151 < k) : ckd k = 3 := by unfold ckd; rw [if_neg (by omega), if_neg (by omega), if_neg (by omega), if_neg (by omega), if_neg (by omega), if_neg (by omega), if_neg (by omega), if_neg (by omega), if_neg (by omega), if_neg (by omega)]
theorem zar_0 (n : Nat) : zar 0 n = .inl (0, n, .inl (fun _ => 0)) := rfl
theorem zar_1 (n : Nat) : zar 1 n = .inl (1, n, .inl (fun _ => 0)) := rfl
theorem LPb_len (m : Nat) : (LPb m).length = 127 := by rw [← LPa_b]; exact LPa_len m
/-- the 127 cells of Past -/
theorem LPb_at (m k : Nat) (hk : k < 127) : (LPb m)[k]? = some (cce m cZ yZ vZ tZ (k + 1)) := by
  unfold LPb
  by_cases h7 : k < 7
  · rw [getL (n := 7) rfl h7]
    have hc : k = 0 ∨ k = 1 ∨ k = 2 ∨ k = 3 ∨ k = 4 ∨ k = 5 ∨ k = 6 := by omega
    rcases hc with rfl | rfl | rfl | rfl | rfl | rfl | rfl
    · unfold cce; rw [ckd_lo (by omega)]; rfl
    · unfold cce; rw [ckd_lo (by omega)]; rfl
    · rw [cce_3 (ckd_37 (by omega) (by omega))]; rfl
    · rw [cce_3 (ckd_37 (by omega) (by omega))]; rfl
    · rw [cce_3 (ckd_37 (by omega) (by omega))]; rfl
    · rw [cce_3 (ckd_37 (by omega) (by omega))]; rfl
    · unfold cce; rw [show ckd (6 + 1) = 4 from ckd_7]; rfl
  · rw [getR (n := 7) rfl (by omega)]
    obtain ⟨s, j, hj, e⟩ : ∃ s j, j < 4 ∧ k = 7 + (4 * s + j) := ⟨(k - 7) / 4, (k - 7) % 4, by omega, by omega⟩
    subst e
    rw [Nat.add_sub_cancel_left, bkL_get (g := gS2 m) (c := 4) (fun _ => rfl) hj 30 (by omega)]
    have hn := ckd_s5 (k := 7 + (4 * s + j) + 1) (by omega) (by omega)
    have hc : j = 0 ∨ j = 1 ∨ j = 2 ∨ j = 3 := by omega
    rcases hc with rfl | rfl | rfl | rfl
    · rw [if_pos (by omega)] at hn
      rw [cce_5 hn, show 7 + (4 * s + 0) + 1 = 8 + 4 * s by omega]
      rfl
    · rw [if_neg (by omega)] at hn
      rw [cce_3 hn]
      have e1 : ctag (7 + (4 * s + 1) + 1) = 1 := by unfold ctag; rw [if_pos (by omega)]
      have e2 : clen (7 + (4 * s + 1) + 1) = 16 := by unfold clen; rw [if_neg (by omega), if_neg (by omega), if_neg (by omega), if_neg (by omega), if_pos (by omega), if_neg (by omega)]
      rw [e1, e2]
      rfl
    · rw [if_neg (by omega)] at hn
      rw [cce_3 hn]
      have e1 : ctag (7 + (4 * s + 2) + 1) = 1 := by unfold ctag; rw [if_pos (by omega)]
      have e2 : clen (7 + (4 * s + 2) + 1) = 16 := by unfold clen; rw [if_neg (by omega), if_neg (by omega), if_neg (by omega), if_neg (by omega), if_pos (by omega), if_neg (by omega)]
      rw [e1, e2]
      rfl
    · rw [if_neg (by omega)] at hn
      rw [cce_3 hn]
      have e1 : ctag (7 + (4 * s + 3) + 1) = 0 := by unfold ctag; rw [if_neg (by omega)]
      have e2 : clen (7 + (4 * s + 3) + 1) = 48 := by unfold clen; rw [if_neg (by omega), if_neg (by omega), if_neg (by omega), if_neg (by omega), if_pos (by omega), if_pos (by omega)]
      rw [e1, e2]
      rfl
