/-! the law's loop (wip/whole/gen29.py) -/
theorem and31 (z : Int32) : ∃ j, j < 32 ∧ z &&& nI 31 = nI j := by
  have h2 : ∀ j, j < 32 → (nI j).toBitVec.toNat = j := by decide
  have h1 : (nI 31).toBitVec.toNat = 2 ^ 5 - 1 := by decide
  refine ⟨z.toBitVec.toNat % 32, Nat.mod_lt _ (by omega), ?_⟩
  apply Int32.toBitVec_inj.mp
  apply BitVec.eq_of_toNat_eq
  rw [Int32.toBitVec_and, BitVec.toNat_and, h1, Nat.and_two_pow_sub_one_eq_mod, h2 _ (Nat.mod_lt _ (by omega))]
theorem end_lt {L i : Nat} (hL : L ≤ 3072) (hi : i ≤ 4000) : (nI L - nI 6 < nI i) ↔ L < i + 6 := by
  have h1 : (nI L - nI 6).toInt = (L : Int) - 6 := by
    rw [Int32.toInt_sub, nI_toInt (by omega), nI_toInt (by omega)]
    exact Int.bmod_eq_of_le (by omega) (by omega)
  rw [Int32.lt_iff_toInt_lt, h1, nI_toInt (by omega)]
  omega
section LOP
variable {b L x U k : Nat} {xs : Nat → Int32}
theorem law_round (hL : L ≤ 3072) (hk : 6 * k + 6 ≤ L) {h : Hp} (I : Inv x U k h) (a5 a6 a7 : Option Value) : ∃ h', Inv x U (k + 1) h' ∧ ∃ a5' a6' a7', LV b L xs 23 [some (.ref b), some (.ref x), some (.ref (x + 154)), some (.ref (x + 185)), some (.int (nI (6 * k))), a5, a6, a7] [] h = LV b L xs 23 [some (.ref b), some (.ref x), some (.ref (x + 154)), some (.ref (x + 185)), some (.int (nI (6 * (k + 1)))), a5', a6', a7'] [] h' := by
  have hlt : ¬ (nI L - nI 6 < nI (6 * k)) := fun q => by
    have := (end_lt hL (by omega)).mp q
    omega
  obtain ⟨j, hj, hjx⟩ := and31 (xs (6 * k))
  have head : ∀ h, LV b L xs 23 [some (.ref b), some (.ref x), some (.ref (x + 154)), some (.ref (x + 185)), some (.int (nI (6 * k))), a5, a6, a7] [] h = LV b L xs 40 [some (.ref b), some (.ref x), some (.ref (x + 154)), some (.ref (x + 185)), some (.int (nI (6 * k))), a5, a6, a7] [.int (nI j)] h := by
    rintro ⟨sz, us, hf⟩
    simp (disch := first | omega | with_reducible assumption | exact cobR | exact bI_01 _ | exact Or.inl rfl | exact Or.inr rfl | (simp (decide := true) only [wid_0, wid_i, wid_l, wid_r, wid_n]; done) | decide | fail) only [s202_23, s202_25, s202_26, s202_27, s202_29, s202_30, s202_33, s202_34, s202_36, s202_37, s202_39, Option.bind_some, Option.bind_none, Option.toList_some, Option.toList_none, List.cons_append, List.nil_append, clr_i, clr_r, clr_l, clr_n, hlt, if_false, hjx]
  have tail : ∀ h a5 a6 a7, LV b L xs 1592 [some (.ref b), some (.ref x), some (.ref (x + 154)), some (.ref (x + 185)), some (.int (nI (6 * k))), a5, a6, a7] [] h = LV b L xs 23 [some (.ref b), some (.ref x), some (.ref (x + 154)), some (.ref (x + 185)), some (.int (nI (6 * (k + 1)))), a5, a6, a7] [] h := by
    rintro ⟨sz, us, hf⟩ a5 a6 a7
    have e : 6 * (k + 1) = 6 * k + 6 := by omega
    rw [e]
    simp (disch := first | omega | with_reducible assumption | exact cobR | exact bI_01 _ | exact Or.inl rfl | exact Or.inr rfl | (simp (decide := true) only [wid_0, wid_i, wid_l, wid_r, wid_n]; done) | decide | fail) only [s202_1592, s202_1595, Option.bind_some, Option.bind_none, Option.toList_some, Option.toList_none, List.cons_append, List.nil_append, clr_i, clr_r, clr_l, clr_n, nI_add]
  have key : ∀ pc, GOAL b L x U k xs pc → (∀ h, LV b L xs 40 [some (.ref b), some (.ref x), some (.ref (x + 154)), some (.ref (x + 185)), some (.int (nI (6 * k))), a5, a6, a7] [.int (nI j)] h = LV b L xs pc [some (.ref b), some (.ref x), some (.ref (x + 154)), some (.ref (x + 185)), some (.int (nI (6 * k))), a5, a6, a7] [] h) → ∃ h', Inv x U (k + 1) h' ∧ ∃ a5' a6' a7', LV b L xs 23 [some (.ref b), some (.ref x), some (.ref (x + 154)), some (.ref (x + 185)), some (.int (nI (6 * k))), a5, a6, a7] [] h = LV b L xs 23 [some (.ref b), some (.ref x), some (.ref (x + 154)), some (.ref (x + 185)), some (.int (nI (6 * (k + 1)))), a5', a6', a7'] [] h' := by
    intro pc G hp
    obtain ⟨h', I', a5', a6', a7', e⟩ := G h I a5 a6 a7
    exact ⟨h', I', a5', a6', a7', by rw [head, hp, e, tail]⟩
  have hc : j = 0 ∨ j = 1 ∨ j = 2 ∨ j = 3 ∨ j = 4 ∨ j = 5 ∨ j = 6 ∨ j = 7 ∨ j = 8 ∨ j = 9 ∨ j = 10 ∨ j = 11 ∨ j = 12 ∨ j = 13 ∨ j = 14 ∨ j = 15 ∨ j = 16 ∨ j = 17 ∨ j = 18 ∨ j = 19 ∨ j = 20 ∨ j = 21 ∨ j = 22 ∨ j = 23 ∨ j = 24 ∨ j = 25 ∨ j = 26 ∨ j = 27 ∨ j = 28 ∨ j = 29 ∨ j = 30 ∨ j = 31 := by omega
  rcases hc with rfl | rfl | rfl | rfl | rfl | rfl | rfl | rfl | rfl | rfl | rfl | rfl | rfl | rfl | rfl | rfl | rfl | rfl | rfl | rfl | rfl | rfl | rfl | rfl | rfl | rfl | rfl | rfl | rfl | rfl | rfl | rfl
  · exact key _ (c_state hL hk) (by rintro ⟨sz, us, hf⟩; exact s202_40k0)
  · exact key _ (c_put hL hk) (by rintro ⟨sz, us, hf⟩; exact s202_40k1)
  · exact key _ (c_gone hL hk) (by rintro ⟨sz, us, hf⟩; exact s202_40k2)
  · exact key _ (c_link hL hk) (by rintro ⟨sz, us, hf⟩; exact s202_40k3)
  · exact key _ (c_read hL hk) (by rintro ⟨sz, us, hf⟩; exact s202_40k4)
  · exact key _ (c_undo hL hk) (by rintro ⟨sz, us, hf⟩; exact s202_40k5)
  · exact key _ (c_look hL hk) (by rintro ⟨sz, us, hf⟩; exact s202_40k6)
  · exact key _ (c_part hL hk) (by rintro ⟨sz, us, hf⟩; exact s202_40k7)
  · exact key _ (c_roads hL hk) (by rintro ⟨sz, us, hf⟩; exact s202_40k8)
  · exact key _ (c_meet hL hk) (by rintro ⟨sz, us, hf⟩; exact s202_40k9)
  · exact key _ (c_between hL hk) (by rintro ⟨sz, us, hf⟩; exact s202_40k10)
  · exact key _ (c_together hL hk) (by rintro ⟨sz, us, hf⟩; exact s202_40k11)
  · exact key _ (c_of hL hk) (by rintro ⟨sz, us, hf⟩; exact s202_40k12)
  · exact key _ (c_two hL hk) (by rintro ⟨sz, us, hf⟩; exact s202_40k13)
  · exact key _ (c_term hL hk) (by rintro ⟨sz, us, hf⟩; exact s202_40k14)
  · exact key _ (c_told hL hk) (by rintro ⟨sz, us, hf⟩; exact s202_40k15)
  · exact key _ (c_span hL hk) (by rintro ⟨sz, us, hf⟩; exact s202_40k16)
  · exact key _ (c_lines hL hk) (by rintro ⟨sz, us, hf⟩; exact s202_40k17)
  · exact key _ (c_rows hL hk) (by rintro ⟨sz, us, hf⟩; exact s202_40k18)
  · exact key _ (c_row hL hk) (by rintro ⟨sz, us, hf⟩; exact s202_40k19)
  · exact key _ (c_apart hL hk) (by rintro ⟨sz, us, hf⟩; exact s202_40k20)
  · exact key _ (c_keepTerm hL hk) (by rintro ⟨sz, us, hf⟩; exact s202_40k21)
  · exact key _ (c_fresh hL hk) (by rintro ⟨sz, us, hf⟩; exact s202_40k22)
  · exact key _ (c_news hL hk) (by rintro ⟨sz, us, hf⟩; exact s202_40k23)
  · exact key _ (c_forget hL hk) (by rintro ⟨sz, us, hf⟩; exact s202_40k24)
  · exact key _ (c_count hL hk) (by rintro ⟨sz, us, hf⟩; exact s202_40k25)
  · exact key _ (c_keep hL hk) (by rintro ⟨sz, us, hf⟩; exact s202_40k26)
  · exact key _ (c_make hL hk) (by rintro ⟨sz, us, hf⟩; exact s202_40k27)
  · exact key _ (c_element hL hk) (by rintro ⟨sz, us, hf⟩; exact s202_40k28)
  · exact key _ (c_copy hL hk) (by rintro ⟨sz, us, hf⟩; exact s202_40k29)
  · exact key _ (c_weight hL hk) (by rintro ⟨sz, us, hf⟩; exact s202_40k30)
  · exact key _ (c_toss hL hk) (by rintro ⟨sz, us, hf⟩; exact s202_40k31)
theorem law_stop (hL : L ≤ 3072) (hk : L < 6 * k + 6) (hk2 : k ≤ 600) (h : Hp) (a5 a6 a7 : Option Value) : LV b L xs 23 [some (.ref b), some (.ref x), some (.ref (x + 154)), some (.ref (x + 185)), some (.int (nI (6 * k))), a5, a6, a7] [] h = some (some (.int (nI 1)), h) := by
  have hlt : nI L - nI 6 < nI (6 * k) := (end_lt hL (by omega)).mpr hk
  obtain ⟨sz, us, hf⟩ := h
  simp (disch := first | omega | with_reducible assumption | exact cobR | exact bI_01 _ | exact Or.inl rfl | exact Or.inr rfl | (simp (decide := true) only [wid_0, wid_i, wid_l, wid_r, wid_n]; done) | decide | fail) only [s202_23, s202_25, s202_26, s202_27, s202_29, s202_30, Option.bind_some, Option.bind_none, Option.toList_some, Option.toList_none, List.cons_append, List.nil_append, clr_i, clr_r, clr_l, clr_n, hlt, if_true, s202_1598]
  exact s202_1599 (st := []) (Or.inr rfl)
theorem law_runs (hL : L ≤ 3072) : ∀ (n k : Nat) (h : Hp), k + n ≤ 600 → L < 6 * (k + n) + 6 → Inv x U k h → ∀ a5 a6 a7, ∃ h', LV b L xs 23 [some (.ref b), some (.ref x), some (.ref (x + 154)), some (.ref (x + 185)), some (.int (nI (6 * k))), a5, a6, a7] [] h = some (some (.int (nI 1)), h') ∧ h'.1 ≤ x + 186 + (k + n) ∧ h'.2.1 ≤ U + 64 * (k + n) := by
  have stop : ∀ (n k : Nat) (h : Hp), k + n ≤ 600 → L < 6 * k + 6 → Inv x U k h → ∀ a5 a6 a7, ∃ h', LV b L xs 23 [some (.ref b), some (.ref x), some (.ref (x + 154)), some (.ref (x + 185)), some (.int (nI (6 * k))), a5, a6, a7] [] h = some (some (.int (nI 1)), h') ∧ h'.1 ≤ x + 186 + (k + n) ∧ h'.2.1 ≤ U + 64 * (k + n) := by
    intro n k h h6 hlt I a5 a6 a7
    obtain ⟨f, w, y, ch, g, e0, R, ho, hch, hs, hu⟩ := I
    exact ⟨h, law_stop hL hlt (by omega) h a5 a6 a7, by omega, by omega⟩
  intro n
  induction n with
  | zero => intro k h h6 hlt I a5 a6 a7; exact stop 0 k h h6 (by omega) I a5 a6 a7
  | succ n ih =>
    intro k h h6 hlt I a5 a6 a7
    by_cases hk : 6 * k + 6 ≤ L
    · obtain ⟨h', I', a5', a6', a7', e⟩ := law_round (b := b) (xs := xs) hL hk I a5 a6 a7
      obtain ⟨h2, e2, b1, b2⟩ := ih (k + 1) h' (by omega) (by omega) I' a5' a6' a7'
      exact ⟨h2, e.trans e2, by omega, by omega⟩
    · exact stop (n + 1) k h h6 (by omega) I a5 a6 a7
end LOP
