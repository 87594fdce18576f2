/-! the law's entry: both objects made (wip/whole/gen29b.py) -/
section ENT
variable {b L x : Nat} {xs : Nat → Int32}
def hf0 (x : Nat) : Hf := emC (fun _ => none) x cZ yZ vZ tZ
def hf1 (x : Nat) : Hf := emR (hf0 x) (x + 154) wZ yZ
def hf2 (x : Nat) : Hf := hup (hf1 x) (x + 185) (zar 3 1)
theorem law_e1 : LV b L xs 0 [some (.ref b), none, none, none, none, none, none, none] [] (x, 0, fun _ => none) = LV b L xs 8 [some (.ref b), some (.ref x), none, none, none, none, none, none] [] (x + 154, 6477, hf0 x) := by
  have e1 : Ev 300 84 0 [some (.ref x), none] [] (x + 1, 7, hup (fun _ => none) x (.inr (9, cdf 9))) = some (none, (x + 154, 7 + 6470, hf0 x)) := K_init (d := 296)
  have hc : cob (hup (fun _ => none) x (.inr (9, cdf 9)) x) = some 9 := by rw [hup_at]; rfl
  simp (disch := first | omega | with_reducible assumption | exact cobR | exact bI_01 _ | exact Or.inl rfl | exact Or.inr rfl | (simp (decide := true) only [wid_0, wid_i, wid_l, wid_r, wid_n]; done) | decide | fail) only [s202_0, s202_3, s202_4, s202_7, Option.bind_some, Option.bind_none, Option.toList_some, Option.toList_none, List.cons_append, List.nil_append, clr_i, clr_r, clr_l, clr_n, e1]
theorem law_e2 : LV b L xs 8 [some (.ref b), some (.ref x), none, none, none, none, none, none] [] (x + 154, 6477, hf0 x) = LV b L xs 16 [some (.ref b), some (.ref x), some (.ref (x + 154)), none, none, none, none, none] [] (x + 185, 504900, hf1 x) := by
  have e1 : Ev 300 133 0 [some (.ref (x + 154))] [] (x + 154 + 1, 6477 + 35, hup (hf0 x) (x + 154) (.inr (10, cdf 10))) = some (none, (x + 185, 504900, hf1 x)) := R_init (d := 299)
  have hc : cob (hup (hf0 x) (x + 154) (.inr (10, cdf 10)) (x + 154)) = some 10 := by rw [hup_at]; rfl
  rw [s202_8, s202_11, s202_12 hc (Nat.le_of_ble_eq_true rfl), e1]
  simp (disch := first | omega | with_reducible assumption | exact cobR | exact bI_01 _ | exact Or.inl rfl | exact Or.inr rfl | (simp (decide := true) only [wid_0, wid_i, wid_l, wid_r, wid_n]; done) | decide | fail) only [s202_15, Option.bind_some, Option.bind_none, Option.toList_some, Option.toList_none, List.cons_append, List.nil_append, clr_i, clr_r, clr_l, clr_n]
theorem law_e3 : LV b L xs 16 [some (.ref b), some (.ref x), some (.ref (x + 154)), none, none, none, none, none] [] (x + 185, 504900, hf1 x) = LV b L xs 23 [some (.ref b), some (.ref x), some (.ref (x + 154)), some (.ref (x + 185)), some (.int (nI (6 * 0))), none, none, none] [] (x + 186, 504901, hf2 x) := by
  rw [s202_16, s202_17 (by omega), s202_19, s202_20, s202_21]
  rfl
theorem law_inv : Inv x 504901 0 (x + 186, 504901, hf2 x) := by
  have e : hf2 x = emR (hf2 x) (x + 154) wZ yZ := emR_self (f := hf0 x) (fun a q1 q2 => by unfold hf2; rw [hup_of (by omega)]; rfl)
  have R0 : RelC x wZ 0 (x + 186, 504901, hf0 x) := RelC_init
  have R1 : RelC x wZ 0 (x + 186, 504901, hf2 x) := R0.frame (hf := hf2 x) (fun a q => by
    unfold hf2 hf1
    rw [hup_of (by omega), emR_off (by omega)])
  exact ⟨hf2 x, wZ, yZ, 0, fun _ => 0, e, R1, hup_at, Nat.le_refl _, Nat.le_refl _, Nat.le_refl _⟩
theorem law_all (hL : L ≤ 3072) : ∃ h', LV b L xs 0 [some (.ref b), none, none, none, none, none, none, none] [] (x, 0, fun _ => none) = some (some (.int (nI 1)), h') ∧ h'.1 ≤ x + 186 + 513 ∧ h'.2.1 ≤ 504901 + 64 * 513 := by
  obtain ⟨h', e, b1, b2⟩ := law_runs (b := b) (xs := xs) hL 513 0 _ (by omega) (by omega) law_inv none none none
  exact ⟨h', law_e1.trans (law_e2.trans (law_e3.trans e)), by omega, by omega⟩
end ENT
