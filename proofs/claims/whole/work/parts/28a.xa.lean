/-! a round of the law: what stands between the rounds -/
def Inv (x U k : Nat) (h : Hp) : Prop := ∃ (f : Hf) (w : WD) (y : Nat → Int64) (ch : Nat) (g : Nat → Int64), h.2.2 = emR f (x + 154) w y ∧ RelC x w ch h ∧ h.2.2 (x + 185) = some (.inl (3, 1, .inr (.inl g))) ∧ ch ≤ k ∧ h.1 ≤ x + 186 + k ∧ h.2.1 ≤ U + 64 * k
section RND
variable {x U k ch sz us m : Nat} {f g : Hf} {w : WD} {y : Nat → Int64} {gz : Nat → Int64} {h : Hp}
theorem emR_off {a : Nat} (h : a < m ∨ m + 31 ≤ a) : emR f m w y a = f a := by
  unfold emR
  exact if_neg (by omega)
theorem emR_self (h : ∀ a, m ≤ a → a < m + 31 → g a = emR f m w y a) : g = emR g m w y := by
  funext a
  by_cases q : m ≤ a ∧ a < m + 31
  · rw [h a q.1 q.2]
    unfold emR
    rw [if_pos q, if_pos q]
  · exact (emR_off (by omega)).symm
theorem RelC.cob9 (R : RelC x w ch h) : cob (h.2.2 x) = some 9 := by
  obtain ⟨F, B, A, td, K, c, y, v, tA, fs, sn, tm, n, nt, tn, kn, e0, RL⟩ := R
  rw [e0]
  exact cobX
theorem OpOK.rnd {miC miR : Nat} {aC : List (Option Value)} {aR : Nat → List (Option Value)} (O : OpOK x w ch (sz, us, emR f (x + 154) w y) miC aC miR aR) (ho : emR f (x + 154) w y (x + 185) = some (.inl (3, 1, .inr (.inl gz)))) (hch : ch ≤ k) (hs : sz ≤ x + 186 + k) (hu : us ≤ U + 64 * k) : ∃ ans sz1 us1 f1 w' y', Ev 300 miC 0 aC [] (sz, us, emR f (x + 154) w y) = some (some (.int ans), (sz1, us1, emR f1 (x + 154) w y)) ∧ Ev 300 miR 0 (aR (x + 154)) [] (sz1, us1, emR f1 (x + 154) w y) = some (some (.int ans), (sz1, us1, emR f1 (x + 154) w' y')) ∧ Inv x U (k + 1) (sz1, us1, emR f1 (x + 154) w' y') := by
  obtain ⟨ans, ⟨sz1, us1, hf1⟩, e1, ⟨F1, F2, F3, F4, F5⟩, e2⟩ := O
  dsimp only at F1 F2 F3 F4 F5
  have hf : hf1 = emR hf1 (x + 154) w y := emR_self (f := f) (fun a q1 q2 => F5 a q1 (by omega))
  obtain ⟨w', y', e3, ch1, hch1, R1⟩ := e2 hf1 (x + 154) sz1 us1 y
  refine ⟨ans, sz1, us1, hf1, w', y', by rw [← hf]; exact e1, e3, hf1, w', y', ch1, gz, rfl, R1.frame (hf := emR hf1 (x + 154) w' y') (fun a q => emR_off (by omega)), ?_, by omega, by show sz1 ≤ _; omega, by show us1 ≤ _; omega⟩
  show emR hf1 (x + 154) w' y' (x + 185) = _
  rw [emR_off (by omega), F5 (x + 185) (by omega) (by omega)]
  exact ho
end RND
