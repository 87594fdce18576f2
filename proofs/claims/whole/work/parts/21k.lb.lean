/-! the class: terms made (wip/whole/gen21k.py) -/
def kfr (u : Int32) : Int32 := if u < nI 10 then nI 1 <<< (u &&& 31) else nI 0
theorem kfr_frO0 : ∀ u, u < 26 → (u < 3 ∨ 10 ≤ u) → kfr (nI u) = frO (nI u) := by decide +kernel
theorem kfr_frO {u : Nat} (h : Tg u) : kfr (nI u) = frO (nI u) := kfr_frO0 u (Tg_lt h) (by rcases h with h | h <;> omega)
theorem cdf_0 : cdf 0 = [.int 0, .int 0, .int 0, .int 0, .int 0, .long 0, .int 0, .int 0, .int 0, .int 0, .int 0] := by decide
theorem cdf_3 : cdf 3 = [.null, .null, .int 0, .int 0, .int 0, .int 0, .int 0, .long 0, .int 0, .int 0] := by decide
theorem cdf_6 : cdf 6 = [.null, .null, .int 0, .int 0, .int 0, .int 0, .int 0, .long 0, .int 0, .int 0, .int 0] := by decide
theorem cdf_8 : cdf 8 = [.null, .null, .int 0, .int 0, .int 0, .int 0, .int 0, .long 0, .int 0, .int 0] := by decide
theorem pi_0_15_0 {v0 v1 v2 v3 v4 v5 v6 v7 v8 v9 v10 : Value} {z : Int32} : pfl true 0 15 (some (.inr (0, [v0, v1, v2, v3, v4, v5, v6, v7, v8, v9, v10]))) (.int z) = some (.inr (0, [v0, v1, v2, v3, v4, v5, v6, v7, .int z, v9, v10])) := by
  unfold pfl
  dsimp only
  rw [fs_0_15_0]
  exact if_pos ⟨Nat.le_of_ble_eq_true rfl, okv_i _, Or.inr ⟨rfl, rfl⟩⟩
theorem pi_0_19_0 {v0 v1 v2 v3 v4 v5 v6 v7 v8 v9 v10 : Value} {z : Int32} : pfl true 0 19 (some (.inr (0, [v0, v1, v2, v3, v4, v5, v6, v7, v8, v9, v10]))) (.int z) = some (.inr (0, [v0, v1, v2, v3, v4, v5, v6, v7, v8, .int z, v10])) := by
  unfold pfl
  dsimp only
  rw [fs_0_19_0]
  exact if_pos ⟨Nat.le_of_ble_eq_true rfl, okv_i _, Or.inr ⟨rfl, rfl⟩⟩
theorem pi_0_22_0 {v0 v1 v2 v3 v4 v5 v6 v7 v8 v9 v10 : Value} {z : Int32} : pfl true 0 22 (some (.inr (0, [v0, v1, v2, v3, v4, v5, v6, v7, v8, v9, v10]))) (.int z) = some (.inr (0, [v0, v1, v2, v3, v4, v5, v6, v7, v8, v9, .int z])) := by
  unfold pfl
  dsimp only
  rw [fs_0_22_0]
  exact if_pos ⟨Nat.le_of_ble_eq_true rfl, okv_i _, Or.inr ⟨rfl, rfl⟩⟩
theorem pi_2_17_3 {v0 v1 v2 v3 v4 v5 v6 v7 v8 v9 : Value} {r : Nat} : pfl true 2 17 (some (.inr (3, [v0, v1, v2, v3, v4, v5, v6, v7, v8, v9]))) (.ref r) = some (.inr (3, [.ref r, v1, v2, v3, v4, v5, v6, v7, v8, v9])) := by
  unfold pfl
  dsimp only
  rw [fs_2_17_3]
  exact if_pos ⟨Nat.le_of_ble_eq_true rfl, okv_r _ _, Or.inr ⟨rfl, rfl⟩⟩
theorem pi_2_17_6 {v0 v1 v2 v3 v4 v5 v6 v7 v8 v9 v10 : Value} {r : Nat} : pfl true 2 17 (some (.inr (6, [v0, v1, v2, v3, v4, v5, v6, v7, v8, v9, v10]))) (.ref r) = some (.inr (6, [.ref r, v1, v2, v3, v4, v5, v6, v7, v8, v9, v10])) := by
  unfold pfl
  dsimp only
  rw [fs_2_17_6]
  exact if_pos ⟨Nat.le_of_ble_eq_true rfl, okv_r _ _, Or.inr ⟨rfl, rfl⟩⟩
theorem pi_2_17_8 {v0 v1 v2 v3 v4 v5 v6 v7 v8 v9 : Value} {r : Nat} : pfl true 2 17 (some (.inr (8, [v0, v1, v2, v3, v4, v5, v6, v7, v8, v9]))) (.ref r) = some (.inr (8, [.ref r, v1, v2, v3, v4, v5, v6, v7, v8, v9])) := by
  unfold pfl
  dsimp only
  rw [fs_2_17_8]
  exact if_pos ⟨Nat.le_of_ble_eq_true rfl, okv_r _ _, Or.inr ⟨rfl, rfl⟩⟩
theorem pi_2_23_3 {v0 v1 v2 v3 v4 v5 v6 v7 v8 v9 : Value} {r : Nat} : pfl true 2 23 (some (.inr (3, [v0, v1, v2, v3, v4, v5, v6, v7, v8, v9]))) (.ref r) = some (.inr (3, [v0, .ref r, v2, v3, v4, v5, v6, v7, v8, v9])) := by
  unfold pfl
  dsimp only
  rw [fs_2_23_3]
  exact if_pos ⟨Nat.le_of_ble_eq_true rfl, okv_r _ _, Or.inr ⟨rfl, rfl⟩⟩
theorem pi_2_23_6 {v0 v1 v2 v3 v4 v5 v6 v7 v8 v9 v10 : Value} {r : Nat} : pfl true 2 23 (some (.inr (6, [v0, v1, v2, v3, v4, v5, v6, v7, v8, v9, v10]))) (.ref r) = some (.inr (6, [v0, .ref r, v2, v3, v4, v5, v6, v7, v8, v9, v10])) := by
  unfold pfl
  dsimp only
  rw [fs_2_23_6]
  exact if_pos ⟨Nat.le_of_ble_eq_true rfl, okv_r _ _, Or.inr ⟨rfl, rfl⟩⟩
theorem pi_2_23_8 {v0 v1 v2 v3 v4 v5 v6 v7 v8 v9 : Value} {r : Nat} : pfl true 2 23 (some (.inr (8, [v0, v1, v2, v3, v4, v5, v6, v7, v8, v9]))) (.ref r) = some (.inr (8, [v0, .ref r, v2, v3, v4, v5, v6, v7, v8, v9])) := by
  unfold pfl
  dsimp only
  rw [fs_2_23_8]
  exact if_pos ⟨Nat.le_of_ble_eq_true rfl, okv_r _ _, Or.inr ⟨rfl, rfl⟩⟩
theorem pi_7_15_6 {v0 v1 v2 v3 v4 v5 v6 v7 v8 v9 v10 : Value} {z : Int32} : pfl true 7 15 (some (.inr (6, [v0, v1, v2, v3, v4, v5, v6, v7, v8, v9, v10]))) (.int z) = some (.inr (6, [v0, v1, v2, v3, v4, v5, v6, v7, v8, v9, .int z])) := by
  unfold pfl
  dsimp only
  rw [fs_7_15_6]
  exact if_pos ⟨Nat.le_of_ble_eq_true rfl, okv_i _, Or.inr ⟨rfl, rfl⟩⟩
theorem pi_9_7_0 {v0 v1 v2 v3 v4 v5 v6 v7 v8 v9 v10 : Value} {z : Int32} : pfl true 9 7 (some (.inr (0, [v0, v1, v2, v3, v4, v5, v6, v7, v8, v9, v10]))) (.int z) = some (.inr (0, [.int z, v1, v2, v3, v4, v5, v6, v7, v8, v9, v10])) := by
  unfold pfl
  dsimp only
  rw [fs_9_7_0]
  exact if_pos ⟨Nat.le_of_ble_eq_true rfl, okv_i _, Or.inr ⟨rfl, rfl⟩⟩
theorem pi_9_7_3 {v0 v1 v2 v3 v4 v5 v6 v7 v8 v9 : Value} {z : Int32} : pfl true 9 7 (some (.inr (3, [v0, v1, v2, v3, v4, v5, v6, v7, v8, v9]))) (.int z) = some (.inr (3, [v0, v1, .int z, v3, v4, v5, v6, v7, v8, v9])) := by
  unfold pfl
  dsimp only
  rw [fs_9_7_3]
  exact if_pos ⟨Nat.le_of_ble_eq_true rfl, okv_i _, Or.inr ⟨rfl, rfl⟩⟩
theorem pi_9_7_6 {v0 v1 v2 v3 v4 v5 v6 v7 v8 v9 v10 : Value} {z : Int32} : pfl true 9 7 (some (.inr (6, [v0, v1, v2, v3, v4, v5, v6, v7, v8, v9, v10]))) (.int z) = some (.inr (6, [v0, v1, .int z, v3, v4, v5, v6, v7, v8, v9, v10])) := by
  unfold pfl
  dsimp only
  rw [fs_9_7_6]
  exact if_pos ⟨Nat.le_of_ble_eq_true rfl, okv_i _, Or.inr ⟨rfl, rfl⟩⟩
theorem pi_9_7_8 {v0 v1 v2 v3 v4 v5 v6 v7 v8 v9 : Value} {z : Int32} : pfl true 9 7 (some (.inr (8, [v0, v1, v2, v3, v4, v5, v6, v7, v8, v9]))) (.int z) = some (.inr (8, [v0, v1, .int z, v3, v4, v5, v6, v7, v8, v9])) := by
  unfold pfl
  dsimp only
  rw [fs_9_7_8]
  exact if_pos ⟨Nat.le_of_ble_eq_true rfl, okv_i _, Or.inr ⟨rfl, rfl⟩⟩
theorem pi_9_13_0 {v0 v1 v2 v3 v4 v5 v6 v7 v8 v9 v10 : Value} {z : Int32} : pfl true 9 13 (some (.inr (0, [v0, v1, v2, v3, v4, v5, v6, v7, v8, v9, v10]))) (.int z) = some (.inr (0, [v0, .int z, v2, v3, v4, v5, v6, v7, v8, v9, v10])) := by
  unfold pfl
  dsimp only
  rw [fs_9_13_0]
  exact if_pos ⟨Nat.le_of_ble_eq_true rfl, okv_i _, Or.inr ⟨rfl, rfl⟩⟩
theorem pi_9_13_3 {v0 v1 v2 v3 v4 v5 v6 v7 v8 v9 : Value} {z : Int32} : pfl true 9 13 (some (.inr (3, [v0, v1, v2, v3, v4, v5, v6, v7, v8, v9]))) (.int z) = some (.inr (3, [v0, v1, v2, .int z, v4, v5, v6, v7, v8, v9])) := by
  unfold pfl
  dsimp only
  rw [fs_9_13_3]
  exact if_pos ⟨Nat.le_of_ble_eq_true rfl, okv_i _, Or.inr ⟨rfl, rfl⟩⟩
theorem pi_9_13_6 {v0 v1 v2 v3 v4 v5 v6 v7 v8 v9 v10 : Value} {z : Int32} : pfl true 9 13 (some (.inr (6, [v0, v1, v2, v3, v4, v5, v6, v7, v8, v9, v10]))) (.int z) = some (.inr (6, [v0, v1, v2, .int z, v4, v5, v6, v7, v8, v9, v10])) := by
  unfold pfl
  dsimp only
  rw [fs_9_13_6]
  exact if_pos ⟨Nat.le_of_ble_eq_true rfl, okv_i _, Or.inr ⟨rfl, rfl⟩⟩
theorem pi_9_13_8 {v0 v1 v2 v3 v4 v5 v6 v7 v8 v9 : Value} {z : Int32} : pfl true 9 13 (some (.inr (8, [v0, v1, v2, v3, v4, v5, v6, v7, v8, v9]))) (.int z) = some (.inr (8, [v0, v1, v2, .int z, v4, v5, v6, v7, v8, v9])) := by
  unfold pfl
  dsimp only
  rw [fs_9_13_8]
  exact if_pos ⟨Nat.le_of_ble_eq_true rfl, okv_i _, Or.inr ⟨rfl, rfl⟩⟩
theorem pi_9_16_0 {v0 v1 v2 v3 v4 v5 v6 v7 v8 v9 v10 : Value} {z : Int32} : pfl true 9 16 (some (.inr (0, [v0, v1, v2, v3, v4, v5, v6, v7, v8, v9, v10]))) (.int z) = some (.inr (0, [v0, v1, .int z, v3, v4, v5, v6, v7, v8, v9, v10])) := by
  unfold pfl
  dsimp only
  rw [fs_9_16_0]
  exact if_pos ⟨Nat.le_of_ble_eq_true rfl, okv_i _, Or.inr ⟨rfl, rfl⟩⟩
theorem pi_9_16_3 {v0 v1 v2 v3 v4 v5 v6 v7 v8 v9 : Value} {z : Int32} : pfl true 9 16 (some (.inr (3, [v0, v1, v2, v3, v4, v5, v6, v7, v8, v9]))) (.int z) = some (.inr (3, [v0, v1, v2, v3, .int z, v5, v6, v7, v8, v9])) := by
  unfold pfl
  dsimp only
  rw [fs_9_16_3]
  exact if_pos ⟨Nat.le_of_ble_eq_true rfl, okv_i _, Or.inr ⟨rfl, rfl⟩⟩
theorem pi_9_16_6 {v0 v1 v2 v3 v4 v5 v6 v7 v8 v9 v10 : Value} {z : Int32} : pfl true 9 16 (some (.inr (6, [v0, v1, v2, v3, v4, v5, v6, v7, v8, v9, v10]))) (.int z) = some (.inr (6, [v0, v1, v2, v3, .int z, v5, v6, v7, v8, v9, v10])) := by
  unfold pfl
  dsimp only
  rw [fs_9_16_6]
  exact if_pos ⟨Nat.le_of_ble_eq_true rfl, okv_i _, Or.inr ⟨rfl, rfl⟩⟩
theorem pi_9_16_8 {v0 v1 v2 v3 v4 v5 v6 v7 v8 v9 : Value} {z : Int32} : pfl true 9 16 (some (.inr (8, [v0, v1, v2, v3, v4, v5, v6, v7, v8, v9]))) (.int z) = some (.inr (8, [v0, v1, v2, v3, .int z, v5, v6, v7, v8, v9])) := by
  unfold pfl
  dsimp only
  rw [fs_9_16_8]
  exact if_pos ⟨Nat.le_of_ble_eq_true rfl, okv_i _, Or.inr ⟨rfl, rfl⟩⟩
theorem pi_9_19_0 {v0 v1 v2 v3 v4 v5 v6 v7 v8 v9 v10 : Value} {z : Int32} : pfl true 9 19 (some (.inr (0, [v0, v1, v2, v3, v4, v5, v6, v7, v8, v9, v10]))) (.int z) = some (.inr (0, [v0, v1, v2, .int z, v4, v5, v6, v7, v8, v9, v10])) := by
  unfold pfl
  dsimp only
  rw [fs_9_19_0]
  exact if_pos ⟨Nat.le_of_ble_eq_true rfl, okv_i _, Or.inr ⟨rfl, rfl⟩⟩
theorem pi_9_19_3 {v0 v1 v2 v3 v4 v5 v6 v7 v8 v9 : Value} {z : Int32} : pfl true 9 19 (some (.inr (3, [v0, v1, v2, v3, v4, v5, v6, v7, v8, v9]))) (.int z) = some (.inr (3, [v0, v1, v2, v3, v4, .int z, v6, v7, v8, v9])) := by
  unfold pfl
  dsimp only
  rw [fs_9_19_3]
  exact if_pos ⟨Nat.le_of_ble_eq_true rfl, okv_i _, Or.inr ⟨rfl, rfl⟩⟩
theorem pi_9_19_6 {v0 v1 v2 v3 v4 v5 v6 v7 v8 v9 v10 : Value} {z : Int32} : pfl true 9 19 (some (.inr (6, [v0, v1, v2, v3, v4, v5, v6, v7, v8, v9, v10]))) (.int z) = some (.inr (6, [v0, v1, v2, v3, v4, .int z, v6, v7, v8, v9, v10])) := by
  unfold pfl
  dsimp only
  rw [fs_9_19_6]
  exact if_pos ⟨Nat.le_of_ble_eq_true rfl, okv_i _, Or.inr ⟨rfl, rfl⟩⟩
theorem pi_9_19_8 {v0 v1 v2 v3 v4 v5 v6 v7 v8 v9 : Value} {z : Int32} : pfl true 9 19 (some (.inr (8, [v0, v1, v2, v3, v4, v5, v6, v7, v8, v9]))) (.int z) = some (.inr (8, [v0, v1, v2, v3, v4, .int z, v6, v7, v8, v9])) := by
  unfold pfl
  dsimp only
  rw [fs_9_19_8]
  exact if_pos ⟨Nat.le_of_ble_eq_true rfl, okv_i _, Or.inr ⟨rfl, rfl⟩⟩
theorem pi_9_28_0 {v0 v1 v2 v3 v4 v5 v6 v7 v8 v9 v10 : Value} {z : Int32} : pfl true 9 28 (some (.inr (0, [v0, v1, v2, v3, v4, v5, v6, v7, v8, v9, v10]))) (.int z) = some (.inr (0, [v0, v1, v2, v3, .int z, v5, v6, v7, v8, v9, v10])) := by
  unfold pfl
  dsimp only
  rw [fs_9_28_0]
  exact if_pos ⟨Nat.le_of_ble_eq_true rfl, okv_i _, Or.inr ⟨rfl, rfl⟩⟩
theorem pi_9_28_3 {v0 v1 v2 v3 v4 v5 v6 v7 v8 v9 : Value} {z : Int32} : pfl true 9 28 (some (.inr (3, [v0, v1, v2, v3, v4, v5, v6, v7, v8, v9]))) (.int z) = some (.inr (3, [v0, v1, v2, v3, v4, v5, .int z, v7, v8, v9])) := by
  unfold pfl
  dsimp only
  rw [fs_9_28_3]
  exact if_pos ⟨Nat.le_of_ble_eq_true rfl, okv_i _, Or.inr ⟨rfl, rfl⟩⟩
theorem pi_9_28_6 {v0 v1 v2 v3 v4 v5 v6 v7 v8 v9 v10 : Value} {z : Int32} : pfl true 9 28 (some (.inr (6, [v0, v1, v2, v3, v4, v5, v6, v7, v8, v9, v10]))) (.int z) = some (.inr (6, [v0, v1, v2, v3, v4, v5, .int z, v7, v8, v9, v10])) := by
  unfold pfl
  dsimp only
  rw [fs_9_28_6]
  exact if_pos ⟨Nat.le_of_ble_eq_true rfl, okv_i _, Or.inr ⟨rfl, rfl⟩⟩
theorem pi_9_28_8 {v0 v1 v2 v3 v4 v5 v6 v7 v8 v9 : Value} {z : Int32} : pfl true 9 28 (some (.inr (8, [v0, v1, v2, v3, v4, v5, v6, v7, v8, v9]))) (.int z) = some (.inr (8, [v0, v1, v2, v3, v4, v5, .int z, v7, v8, v9])) := by
  unfold pfl
  dsimp only
  rw [fs_9_28_8]
  exact if_pos ⟨Nat.le_of_ble_eq_true rfl, okv_i _, Or.inr ⟨rfl, rfl⟩⟩
theorem pi_9_31_0 {v0 v1 v2 v3 v4 v5 v6 v7 v8 v9 v10 : Value} {z : Int32} : pfl true 9 31 (some (.inr (0, [v0, v1, v2, v3, v4, v5, v6, v7, v8, v9, v10]))) (.int z) = some (.inr (0, [v0, v1, v2, v3, v4, v5, v6, .int z, v8, v9, v10])) := by
  unfold pfl
  dsimp only
  rw [fs_9_31_0]
  exact if_pos ⟨Nat.le_of_ble_eq_true rfl, okv_i _, Or.inl rfl⟩
theorem pi_9_31_3 {v0 v1 v2 v3 v4 v5 v6 v7 v8 v9 : Value} {z : Int32} : pfl true 9 31 (some (.inr (3, [v0, v1, v2, v3, v4, v5, v6, v7, v8, v9]))) (.int z) = some (.inr (3, [v0, v1, v2, v3, v4, v5, v6, v7, v8, .int z])) := by
  unfold pfl
  dsimp only
  rw [fs_9_31_3]
  exact if_pos ⟨Nat.le_of_ble_eq_true rfl, okv_i _, Or.inl rfl⟩
theorem pi_9_31_6 {v0 v1 v2 v3 v4 v5 v6 v7 v8 v9 v10 : Value} {z : Int32} : pfl true 9 31 (some (.inr (6, [v0, v1, v2, v3, v4, v5, v6, v7, v8, v9, v10]))) (.int z) = some (.inr (6, [v0, v1, v2, v3, v4, v5, v6, v7, v8, .int z, v10])) := by
  unfold pfl
  dsimp only
  rw [fs_9_31_6]
  exact if_pos ⟨Nat.le_of_ble_eq_true rfl, okv_i _, Or.inl rfl⟩
theorem pi_9_31_8 {v0 v1 v2 v3 v4 v5 v6 v7 v8 v9 : Value} {z : Int32} : pfl true 9 31 (some (.inr (8, [v0, v1, v2, v3, v4, v5, v6, v7, v8, v9]))) (.int z) = some (.inr (8, [v0, v1, v2, v3, v4, v5, v6, v7, v8, .int z])) := by
  unfold pfl
  dsimp only
  rw [fs_9_31_8]
  exact if_pos ⟨Nat.le_of_ble_eq_true rfl, okv_i _, Or.inl rfl⟩
section LB
variable {F : Hf} {x d sz us n tn t q s1 s2 : Nat} {c : WD} {y : Nat → Int64} {v : VD} {tA : Nat → Option Nat} {B : Nat → Option Nat} {A : Nat → Nat} {tm : Nat → Nat → Nat} {td : Nat → Nat → Int32} {K : KT}
theorem emN_at {e : PE} (hB : B q = none) (hx : x + 154 ≤ q) : emC (emT (hup F q e) B tm td A K) x c y v tA q = some e := by
  rw [emC_off _ _ _ _ _ _ _ (Or.inr hx)]
  unfold emT
  rw [hB]
  exact hup_at
theorem emN_up {e e' : PE} (hB : B q = none) (hx : x + 154 ≤ q) : hup (emC (emT (hup F q e) B tm td A K) x c y v tA) q e' = emC (emT (hup F q e') B tm td A K) x c y v tA := by
  rw [emC_hup hx, emT_hupF hB, hup_hup]
theorem emN_new {e : PE} (hB : B q = none) (hx : x + 154 ≤ q) : hup (emC (emT F B tm td A K) x c y v tA) q e = emC (emT (hup F q e) B tm td A K) x c y v tA := by
  rw [emC_hup hx, emT_hupF hB]
theorem cobN {ci : Nat} {L : List Value} (hB : B q = none) (hx : x + 154 ≤ q) : cob (emC (emT (hup F q (.inr (ci, L))) B tm td A K) x c y v tA q) = some ci := by
  rw [emN_at hB hx]
  rfl
theorem K_freeIn {hf : Hf} (u : Int32) : Ev d 0 0 [some (.int u)] [] (sz, us, hf) = some (some (.int (kfr u)), (sz, us, hf)) := by
  unfold kfr
  by_cases h : u < nI 10
  · have h' : ¬ nI 10 ≤ u := Int32.not_le.mpr h
    simp (maxSteps := 2000000) (disch := first | omega | with_reducible assumption | exact cobP | exact cobX | exact cobS (by omega) | exact cobK (by omega) | exact cobF (by omega) | exact cobW | exact isTC_T (by assumption) (by assumption) | exact cobN (by assumption) (by assumption) | exact bI_01 _ | exact Or.inl rfl | exact Or.inr rfl | (simp (decide := true) only [wid_0, wid_i, wid_l, wid_r, wid_n]; done) | decide | fail) only [s0_0, s0_1, s0_3, s0_6, s0_7, s0_8, s0_9, s0_12, s0_13 (st := []), Option.bind_some, Option.bind_none, Option.toList_some, Option.toList_none, List.cons_append, List.nil_append, clr_i, clr_r, clr_l, clr_n, nI_add, nsub, pk_mul, nle_F, nle_T, nlt_F, nlt_T, neq_F, nz_F, nz_T, nneg_F, npos_T, npos_lF, npos_lT, nle0_F, m1_neg, m1_pos, m1_z, neq_m1, m1_neq, ↓reduceIte, if_true, if_false, not_true_eq_false, not_false_eq_true, bI_eq0, Bool.true_eq_false, Bool.false_eq_true, true_and, and_true, false_and, and_false, true_or, or_true, false_or, or_false, decide_true, decide_false, Bool.and_self, Bool.true_and, Bool.and_true, Bool.false_and, Bool.and_false, Bool.true_or, Bool.or_true, Bool.false_or, Bool.or_false, Bool.not_true, Bool.not_false, h, h']
  · have h' : nI 10 ≤ u := Int32.not_lt.mp h
    simp (maxSteps := 2000000) (disch := first | omega | with_reducible assumption | exact cobP | exact cobX | exact cobS (by omega) | exact cobK (by omega) | exact cobF (by omega) | exact cobW | exact isTC_T (by assumption) (by assumption) | exact cobN (by assumption) (by assumption) | exact bI_01 _ | exact Or.inl rfl | exact Or.inr rfl | (simp (decide := true) only [wid_0, wid_i, wid_l, wid_r, wid_n]; done) | decide | fail) only [s0_0, s0_1, s0_3, s0_6, s0_7, s0_8, s0_9, s0_12, s0_13 (st := []), Option.bind_some, Option.bind_none, Option.toList_some, Option.toList_none, List.cons_append, List.nil_append, clr_i, clr_r, clr_l, clr_n, nI_add, nsub, pk_mul, nle_F, nle_T, nlt_F, nlt_T, neq_F, nz_F, nz_T, nneg_F, npos_T, npos_lF, npos_lT, nle0_F, m1_neg, m1_pos, m1_z, neq_m1, m1_neq, ↓reduceIte, if_true, if_false, not_true_eq_false, not_false_eq_true, bI_eq0, Bool.true_eq_false, Bool.false_eq_true, true_and, and_true, false_and, and_false, true_or, or_true, false_or, or_false, decide_true, decide_false, Bool.and_self, Bool.true_and, Bool.and_true, Bool.false_and, Bool.and_false, Bool.true_or, Bool.or_true, Bool.false_or, Bool.or_false, Bool.not_true, Bool.not_false, h, h']
theorem K_init9_0 {v0 v1 v2 v3 v4 v5 v6 v7 v8 v9 v10 : Value} {k fr co de : Int32} (hB : B q = none) (hx : x + 154 ≤ q) : Ev (d + 2) 3 0 [some (.ref q), some (.int k), some (.int fr), some (.int co), some (.int de)] [] (sz, us, emC (emT (hup F q (.inr (0, [v0, v1, v2, v3, v4, v5, v6, v7, v8, v9, v10]))) B tm td A K) x c y v tA) = some (none, (sz, us, emC (emT (hup F q (.inr (0, [.int k, .int fr, .int co, .int de, .int (pip fr), v5, v6, .int (-1), v8, v9, v10]))) B tm td A K) x c y v tA)) := by
  simp (maxSteps := 2000000) (disch := first | omega | with_reducible assumption | exact cobP | exact cobX | exact cobS (by omega) | exact cobK (by omega) | exact cobF (by omega) | exact cobW | exact isTC_T (by assumption) (by assumption) | exact cobN (by assumption) (by assumption) | exact bI_01 _ | exact Or.inl rfl | exact Or.inr rfl | (simp (decide := true) only [wid_0, wid_i, wid_l, wid_r, wid_n]; done) | decide | fail) only [s3_0, s3_1, s3_4, s3_5, s3_6, s3_9, s3_10, s3_11, s3_14, s3_15, s3_16, s3_19, s3_20, s3_22, s3_25, s3_26, s3_27, s3_30, s3_33, s3_34, s3_35, s3_38 (st := []), Option.bind_some, Option.bind_none, Option.toList_some, Option.toList_none, List.cons_append, List.nil_append, clr_i, clr_r, clr_l, clr_n, nI_add, nsub, pk_mul, nle_F, nle_T, nlt_F, nlt_T, neq_F, nz_F, nz_T, nneg_F, npos_T, npos_lF, npos_lT, nle0_F, m1_neg, m1_pos, m1_z, neq_m1, m1_neq, ↓reduceIte, if_true, if_false, not_true_eq_false, not_false_eq_true, bI_eq0, Bool.true_eq_false, Bool.false_eq_true, true_and, and_true, false_and, and_false, true_or, or_true, false_or, or_false, decide_true, decide_false, Bool.and_self, Bool.true_and, Bool.and_true, Bool.false_and, Bool.and_false, Bool.true_or, Bool.or_true, Bool.false_or, Bool.or_false, Bool.not_true, Bool.not_false, emN_at, emN_up, K_partsInPlaceOf, pi_9_7_0, pi_9_13_0, pi_9_16_0, pi_9_19_0, pi_9_28_0, pi_9_31_0]
theorem K_init9_3 {v0 v1 v2 v3 v4 v5 v6 v7 v8 v9 : Value} {k fr co de : Int32} (hB : B q = none) (hx : x + 154 ≤ q) : Ev (d + 2) 3 0 [some (.ref q), some (.int k), some (.int fr), some (.int co), some (.int de)] [] (sz, us, emC (emT (hup F q (.inr (3, [v0, v1, v2, v3, v4, v5, v6, v7, v8, v9]))) B tm td A K) x c y v tA) = some (none, (sz, us, emC (emT (hup F q (.inr (3, [v0, v1, .int k, .int fr, .int co, .int de, .int (pip fr), v7, v8, .int (-1)]))) B tm td A K) x c y v tA)) := by
  simp (maxSteps := 2000000) (disch := first | omega | with_reducible assumption | exact cobP | exact cobX | exact cobS (by omega) | exact cobK (by omega) | exact cobF (by omega) | exact cobW | exact isTC_T (by assumption) (by assumption) | exact cobN (by assumption) (by assumption) | exact bI_01 _ | exact Or.inl rfl | exact Or.inr rfl | (simp (decide := true) only [wid_0, wid_i, wid_l, wid_r, wid_n]; done) | decide | fail) only [s3_0, s3_1, s3_4, s3_5, s3_6, s3_9, s3_10, s3_11, s3_14, s3_15, s3_16, s3_19, s3_20, s3_22, s3_25, s3_26, s3_27, s3_30, s3_33, s3_34, s3_35, s3_38 (st := []), Option.bind_some, Option.bind_none, Option.toList_some, Option.toList_none, List.cons_append, List.nil_append, clr_i, clr_r, clr_l, clr_n, nI_add, nsub, pk_mul, nle_F, nle_T, nlt_F, nlt_T, neq_F, nz_F, nz_T, nneg_F, npos_T, npos_lF, npos_lT, nle0_F, m1_neg, m1_pos, m1_z, neq_m1, m1_neq, ↓reduceIte, if_true, if_false, not_true_eq_false, not_false_eq_true, bI_eq0, Bool.true_eq_false, Bool.false_eq_true, true_and, and_true, false_and, and_false, true_or, or_true, false_or, or_false, decide_true, decide_false, Bool.and_self, Bool.true_and, Bool.and_true, Bool.false_and, Bool.and_false, Bool.true_or, Bool.or_true, Bool.false_or, Bool.or_false, Bool.not_true, Bool.not_false, emN_at, emN_up, K_partsInPlaceOf, pi_9_7_3, pi_9_13_3, pi_9_16_3, pi_9_19_3, pi_9_28_3, pi_9_31_3]
theorem K_init9_6 {v0 v1 v2 v3 v4 v5 v6 v7 v8 v9 v10 : Value} {k fr co de : Int32} (hB : B q = none) (hx : x + 154 ≤ q) : Ev (d + 2) 3 0 [some (.ref q), some (.int k), some (.int fr), some (.int co), some (.int de)] [] (sz, us, emC (emT (hup F q (.inr (6, [v0, v1, v2, v3, v4, v5, v6, v7, v8, v9, v10]))) B tm td A K) x c y v tA) = some (none, (sz, us, emC (emT (hup F q (.inr (6, [v0, v1, .int k, .int fr, .int co, .int de, .int (pip fr), v7, v8, .int (-1), v10]))) B tm td A K) x c y v tA)) := by
  simp (maxSteps := 2000000) (disch := first | omega | with_reducible assumption | exact cobP | exact cobX | exact cobS (by omega) | exact cobK (by omega) | exact cobF (by omega) | exact cobW | exact isTC_T (by assumption) (by assumption) | exact cobN (by assumption) (by assumption) | exact bI_01 _ | exact Or.inl rfl | exact Or.inr rfl | (simp (decide := true) only [wid_0, wid_i, wid_l, wid_r, wid_n]; done) | decide | fail) only [s3_0, s3_1, s3_4, s3_5, s3_6, s3_9, s3_10, s3_11, s3_14, s3_15, s3_16, s3_19, s3_20, s3_22, s3_25, s3_26, s3_27, s3_30, s3_33, s3_34, s3_35, s3_38 (st := []), Option.bind_some, Option.bind_none, Option.toList_some, Option.toList_none, List.cons_append, List.nil_append, clr_i, clr_r, clr_l, clr_n, nI_add, nsub, pk_mul, nle_F, nle_T, nlt_F, nlt_T, neq_F, nz_F, nz_T, nneg_F, npos_T, npos_lF, npos_lT, nle0_F, m1_neg, m1_pos, m1_z, neq_m1, m1_neq, ↓reduceIte, if_true, if_false, not_true_eq_false, not_false_eq_true, bI_eq0, Bool.true_eq_false, Bool.false_eq_true, true_and, and_true, false_and, and_false, true_or, or_true, false_or, or_false, decide_true, decide_false, Bool.and_self, Bool.true_and, Bool.and_true, Bool.false_and, Bool.and_false, Bool.true_or, Bool.or_true, Bool.false_or, Bool.or_false, Bool.not_true, Bool.not_false, emN_at, emN_up, K_partsInPlaceOf, pi_9_7_6, pi_9_13_6, pi_9_16_6, pi_9_19_6, pi_9_28_6, pi_9_31_6]
theorem K_init9_8 {v0 v1 v2 v3 v4 v5 v6 v7 v8 v9 : Value} {k fr co de : Int32} (hB : B q = none) (hx : x + 154 ≤ q) : Ev (d + 2) 3 0 [some (.ref q), some (.int k), some (.int fr), some (.int co), some (.int de)] [] (sz, us, emC (emT (hup F q (.inr (8, [v0, v1, v2, v3, v4, v5, v6, v7, v8, v9]))) B tm td A K) x c y v tA) = some (none, (sz, us, emC (emT (hup F q (.inr (8, [v0, v1, .int k, .int fr, .int co, .int de, .int (pip fr), v7, v8, .int (-1)]))) B tm td A K) x c y v tA)) := by
  simp (maxSteps := 2000000) (disch := first | omega | with_reducible assumption | exact cobP | exact cobX | exact cobS (by omega) | exact cobK (by omega) | exact cobF (by omega) | exact cobW | exact isTC_T (by assumption) (by assumption) | exact cobN (by assumption) (by assumption) | exact bI_01 _ | exact Or.inl rfl | exact Or.inr rfl | (simp (decide := true) only [wid_0, wid_i, wid_l, wid_r, wid_n]; done) | decide | fail) only [s3_0, s3_1, s3_4, s3_5, s3_6, s3_9, s3_10, s3_11, s3_14, s3_15, s3_16, s3_19, s3_20, s3_22, s3_25, s3_26, s3_27, s3_30, s3_33, s3_34, s3_35, s3_38 (st := []), Option.bind_some, Option.bind_none, Option.toList_some, Option.toList_none, List.cons_append, List.nil_append, clr_i, clr_r, clr_l, clr_n, nI_add, nsub, pk_mul, nle_F, nle_T, nlt_F, nlt_T, neq_F, nz_F, nz_T, nneg_F, npos_T, npos_lF, npos_lT, nle0_F, m1_neg, m1_pos, m1_z, neq_m1, m1_neq, ↓reduceIte, if_true, if_false, not_true_eq_false, not_false_eq_true, bI_eq0, Bool.true_eq_false, Bool.false_eq_true, true_and, and_true, false_and, and_false, true_or, or_true, false_or, or_false, decide_true, decide_false, Bool.and_self, Bool.true_and, Bool.and_true, Bool.false_and, Bool.and_false, Bool.true_or, Bool.or_true, Bool.false_or, Bool.or_false, Bool.not_true, Bool.not_false, emN_at, emN_up, K_partsInPlaceOf, pi_9_7_8, pi_9_13_8, pi_9_16_8, pi_9_19_8, pi_9_28_8, pi_9_31_8]
theorem K_init0 {k nn u u2 : Int32} (hB : B q = none) (hx : x + 154 ≤ q) : Ev (d + 3) 4 0 [some (.ref q), some (.int k), some (.int nn), some (.int u), some (.int u2)] [] (sz, us, emC (emT (hup F q (.inr (0, [.int 0, .int 0, .int 0, .int 0, .int 0, .long 0, .int 0, .int 0, .int 0, .int 0, .int 0]))) B tm td A K) x c y v tA) = some (none, (sz, us, emC (emT (hup F q (.inr (0, [.int k, .int (kfr u ||| kfr u2), .int (nI 1), .int (nI 1), .int (pip (kfr u ||| kfr u2)), .long 0, .int 0, .int (-1), .int nn, .int u, .int u2]))) B tm td A K) x c y v tA)) := by
  simp (maxSteps := 2000000) (disch := first | omega | with_reducible assumption | exact cobP | exact cobX | exact cobS (by omega) | exact cobK (by omega) | exact cobF (by omega) | exact cobW | exact isTC_T (by assumption) (by assumption) | exact cobN (by assumption) (by assumption) | exact bI_01 _ | exact Or.inl rfl | exact Or.inr rfl | (simp (decide := true) only [wid_0, wid_i, wid_l, wid_r, wid_n]; done) | decide | fail) only [s4_0, s4_1, s4_2, s4_3, s4_6, s4_8, s4_11, s4_12, s4_13, s4_14c0, s4_14c3, s4_14c6, s4_14c8, s4_17, s4_18, s4_19, s4_22, s4_23, s4_24, s4_27, s4_28, s4_30, s4_33 (st := []), s4_14T, Option.bind_some, Option.bind_none, Option.toList_some, Option.toList_none, List.cons_append, List.nil_append, clr_i, clr_r, clr_l, clr_n, nI_add, nsub, pk_mul, nle_F, nle_T, nlt_F, nlt_T, neq_F, nz_F, nz_T, nneg_F, npos_T, npos_lF, npos_lT, nle0_F, m1_neg, m1_pos, m1_z, neq_m1, m1_neq, ↓reduceIte, if_true, if_false, not_true_eq_false, not_false_eq_true, bI_eq0, Bool.true_eq_false, Bool.false_eq_true, true_and, and_true, false_and, and_false, true_or, or_true, false_or, or_false, decide_true, decide_false, Bool.and_self, Bool.true_and, Bool.and_true, Bool.false_and, Bool.and_false, Bool.true_or, Bool.or_true, Bool.false_or, Bool.or_false, Bool.not_true, Bool.not_false, emN_at, emN_up, K_freeIn, K_init9_0, pi_0_15_0, pi_0_19_0, pi_0_22_0]
theorem K_init2_3 {k fr co : Int32} (hB : B q = none) (hx : x + 154 ≤ q) (hB1 : B (A s1) = some s1) (hx1 : x + 154 ≤ A s1) (hB2 : B (A s2) = some s2) (hx2 : x + 154 ≤ A s2) : Ev (d + 3) 18 0 [some (.ref q), some (.int k), some (.ref (A s1)), some (.ref (A s2)), some (.int fr), some (.int co)] [] (sz, us, emC (emT (hup F q (.inr (3, [.null, .null, .int 0, .int 0, .int 0, .int 0, .int 0, .long 0, .int 0, .int 0]))) B tm td A K) x c y v tA) = some (none, (sz, us, emC (emT (hup F q (.inr (3, [.ref (A s1), .ref (A s2), .int k, .int fr, .int co, .int (nI 1 + (if td s1 2 < td s2 2 then td s2 2 else td s1 2)), .int (pip fr), .long 0, .int 0, .int (-1)]))) B tm td A K) x c y v tA)) := by
  simp (maxSteps := 2000000) (disch := first | omega | with_reducible assumption | exact cobP | exact cobX | exact cobS (by omega) | exact cobK (by omega) | exact cobF (by omega) | exact cobW | exact isTC_T (by assumption) (by assumption) | exact cobN (by assumption) (by assumption) | exact bI_01 _ | exact Or.inl rfl | exact Or.inr rfl | (simp (decide := true) only [wid_0, wid_i, wid_l, wid_r, wid_n]; done) | decide | fail) only [s18_0, s18_1, s18_2, s18_4, s18_6, s18_7, s18_8, s18_11, s18_12, s18_15, s18_18, s18_19c0, s18_19c3, s18_19c6, s18_19c8, s18_22, s18_23, s18_24, s18_27, s18_28, s18_29, s18_32 (st := []), s18_19T, Option.bind_some, Option.bind_none, Option.toList_some, Option.toList_none, List.cons_append, List.nil_append, clr_i, clr_r, clr_l, clr_n, nI_add, nsub, pk_mul, nle_F, nle_T, nlt_F, nlt_T, neq_F, nz_F, nz_T, nneg_F, npos_T, npos_lF, npos_lT, nle0_F, m1_neg, m1_pos, m1_z, neq_m1, m1_neq, ↓reduceIte, if_true, if_false, not_true_eq_false, not_false_eq_true, bI_eq0, Bool.true_eq_false, Bool.false_eq_true, true_and, and_true, false_and, and_false, true_or, or_true, false_or, or_false, decide_true, decide_false, Bool.and_self, Bool.true_and, Bool.and_true, Bool.false_and, Bool.and_false, Bool.true_or, Bool.or_true, Bool.false_or, Bool.or_false, Bool.not_true, Bool.not_false, emN_at, emN_up, g_2_1_T, K_init9_3, pi_2_17_3, pi_2_23_3]
theorem K_init2_6 {k fr co : Int32} (hB : B q = none) (hx : x + 154 ≤ q) (hB1 : B (A s1) = some s1) (hx1 : x + 154 ≤ A s1) (hB2 : B (A s2) = some s2) (hx2 : x + 154 ≤ A s2) : Ev (d + 3) 18 0 [some (.ref q), some (.int k), some (.ref (A s1)), some (.ref (A s2)), some (.int fr), some (.int co)] [] (sz, us, emC (emT (hup F q (.inr (6, [.null, .null, .int 0, .int 0, .int 0, .int 0, .int 0, .long 0, .int 0, .int 0, .int 0]))) B tm td A K) x c y v tA) = some (none, (sz, us, emC (emT (hup F q (.inr (6, [.ref (A s1), .ref (A s2), .int k, .int fr, .int co, .int (nI 1 + (if td s1 2 < td s2 2 then td s2 2 else td s1 2)), .int (pip fr), .long 0, .int 0, .int (-1), .int 0]))) B tm td A K) x c y v tA)) := by
  simp (maxSteps := 2000000) (disch := first | omega | with_reducible assumption | exact cobP | exact cobX | exact cobS (by omega) | exact cobK (by omega) | exact cobF (by omega) | exact cobW | exact isTC_T (by assumption) (by assumption) | exact cobN (by assumption) (by assumption) | exact bI_01 _ | exact Or.inl rfl | exact Or.inr rfl | (simp (decide := true) only [wid_0, wid_i, wid_l, wid_r, wid_n]; done) | decide | fail) only [s18_0, s18_1, s18_2, s18_4, s18_6, s18_7, s18_8, s18_11, s18_12, s18_15, s18_18, s18_19c0, s18_19c3, s18_19c6, s18_19c8, s18_22, s18_23, s18_24, s18_27, s18_28, s18_29, s18_32 (st := []), s18_19T, Option.bind_some, Option.bind_none, Option.toList_some, Option.toList_none, List.cons_append, List.nil_append, clr_i, clr_r, clr_l, clr_n, nI_add, nsub, pk_mul, nle_F, nle_T, nlt_F, nlt_T, neq_F, nz_F, nz_T, nneg_F, npos_T, npos_lF, npos_lT, nle0_F, m1_neg, m1_pos, m1_z, neq_m1, m1_neq, ↓reduceIte, if_true, if_false, not_true_eq_false, not_false_eq_true, bI_eq0, Bool.true_eq_false, Bool.false_eq_true, true_and, and_true, false_and, and_false, true_or, or_true, false_or, or_false, decide_true, decide_false, Bool.and_self, Bool.true_and, Bool.and_true, Bool.false_and, Bool.and_false, Bool.true_or, Bool.or_true, Bool.false_or, Bool.or_false, Bool.not_true, Bool.not_false, emN_at, emN_up, g_2_1_T, K_init9_6, pi_2_17_6, pi_2_23_6]
theorem K_init2_8 {k fr co : Int32} (hB : B q = none) (hx : x + 154 ≤ q) (hB1 : B (A s1) = some s1) (hx1 : x + 154 ≤ A s1) (hB2 : B (A s2) = some s2) (hx2 : x + 154 ≤ A s2) : Ev (d + 3) 18 0 [some (.ref q), some (.int k), some (.ref (A s1)), some (.ref (A s2)), some (.int fr), some (.int co)] [] (sz, us, emC (emT (hup F q (.inr (8, [.null, .null, .int 0, .int 0, .int 0, .int 0, .int 0, .long 0, .int 0, .int 0]))) B tm td A K) x c y v tA) = some (none, (sz, us, emC (emT (hup F q (.inr (8, [.ref (A s1), .ref (A s2), .int k, .int fr, .int co, .int (nI 1 + (if td s1 2 < td s2 2 then td s2 2 else td s1 2)), .int (pip fr), .long 0, .int 0, .int (-1)]))) B tm td A K) x c y v tA)) := by
  simp (maxSteps := 2000000) (disch := first | omega | with_reducible assumption | exact cobP | exact cobX | exact cobS (by omega) | exact cobK (by omega) | exact cobF (by omega) | exact cobW | exact isTC_T (by assumption) (by assumption) | exact cobN (by assumption) (by assumption) | exact bI_01 _ | exact Or.inl rfl | exact Or.inr rfl | (simp (decide := true) only [wid_0, wid_i, wid_l, wid_r, wid_n]; done) | decide | fail) only [s18_0, s18_1, s18_2, s18_4, s18_6, s18_7, s18_8, s18_11, s18_12, s18_15, s18_18, s18_19c0, s18_19c3, s18_19c6, s18_19c8, s18_22, s18_23, s18_24, s18_27, s18_28, s18_29, s18_32 (st := []), s18_19T, Option.bind_some, Option.bind_none, Option.toList_some, Option.toList_none, List.cons_append, List.nil_append, clr_i, clr_r, clr_l, clr_n, nI_add, nsub, pk_mul, nle_F, nle_T, nlt_F, nlt_T, neq_F, nz_F, nz_T, nneg_F, npos_T, npos_lF, npos_lT, nle0_F, m1_neg, m1_pos, m1_z, neq_m1, m1_neq, ↓reduceIte, if_true, if_false, not_true_eq_false, not_false_eq_true, bI_eq0, Bool.true_eq_false, Bool.false_eq_true, true_and, and_true, false_and, and_false, true_or, or_true, false_or, or_false, decide_true, decide_false, Bool.and_self, Bool.true_and, Bool.and_true, Bool.false_and, Bool.and_false, Bool.true_or, Bool.or_true, Bool.false_or, Bool.or_false, Bool.not_true, Bool.not_false, emN_at, emN_up, g_2_1_T, K_init9_8, pi_2_17_8, pi_2_23_8]
theorem K_init4 {k co : Int32} (hB : B q = none) (hx : x + 154 ≤ q) (hB1 : B (A s1) = some s1) (hx1 : x + 154 ≤ A s1) (hB2 : B (A s2) = some s2) (hx2 : x + 154 ≤ A s2) : Ev (d + 4) 51 0 [some (.ref q), some (.int k), some (.ref (A s1)), some (.ref (A s2)), some (.int co)] [] (sz, us, emC (emT (hup F q (.inr (3, [.null, .null, .int 0, .int 0, .int 0, .int 0, .int 0, .long 0, .int 0, .int 0]))) B tm td A K) x c y v tA) = some (none, (sz, us, emC (emT (hup F q (.inr (3, [.ref (A s1), .ref (A s2), .int k, .int (td s1 0 ||| td s2 0), .int co, .int (nI 1 + (if td s1 2 < td s2 2 then td s2 2 else td s1 2)), .int (pip (td s1 0 ||| td s2 0)), .long 0, .int 0, .int (-1)]))) B tm td A K) x c y v tA)) := by
  simp (maxSteps := 2000000) (disch := first | omega | with_reducible assumption | exact cobP | exact cobX | exact cobS (by omega) | exact cobK (by omega) | exact cobF (by omega) | exact cobW | exact isTC_T (by assumption) (by assumption) | exact cobN (by assumption) (by assumption) | exact bI_01 _ | exact Or.inl rfl | exact Or.inr rfl | (simp (decide := true) only [wid_0, wid_i, wid_l, wid_r, wid_n]; done) | decide | fail) only [s51_0, s51_1, s51_2, s51_3, s51_4, s51_5, s51_8, s51_9, s51_12, s51_13, s51_15c3, s51_15c6, s51_15c8, s51_18 (st := []), Option.bind_some, Option.bind_none, Option.toList_some, Option.toList_none, List.cons_append, List.nil_append, clr_i, clr_r, clr_l, clr_n, nI_add, nsub, pk_mul, nle_F, nle_T, nlt_F, nlt_T, neq_F, nz_F, nz_T, nneg_F, npos_T, npos_lF, npos_lT, nle0_F, m1_neg, m1_pos, m1_z, neq_m1, m1_neq, ↓reduceIte, if_true, if_false, not_true_eq_false, not_false_eq_true, bI_eq0, Bool.true_eq_false, Bool.false_eq_true, true_and, and_true, false_and, and_false, true_or, or_true, false_or, or_false, decide_true, decide_false, Bool.and_self, Bool.true_and, Bool.and_true, Bool.false_and, Bool.and_false, Bool.true_or, Bool.or_true, Bool.false_or, Bool.or_false, Bool.not_true, Bool.not_false, g_4_3_T, K_init2_3]
theorem K_init10 {k co : Int32} (hB : B q = none) (hx : x + 154 ≤ q) (hB1 : B (A s1) = some s1) (hx1 : x + 154 ≤ A s1) (hB2 : B (A s2) = some s2) (hx2 : x + 154 ≤ A s2) : Ev (d + 4) 82 0 [some (.ref q), some (.int k), some (.ref (A s1)), some (.ref (A s2)), some (.int co)] [] (sz, us, emC (emT (hup F q (.inr (8, [.null, .null, .int 0, .int 0, .int 0, .int 0, .int 0, .long 0, .int 0, .int 0]))) B tm td A K) x c y v tA) = some (none, (sz, us, emC (emT (hup F q (.inr (8, [.ref (A s1), .ref (A s2), .int k, .int (td s1 0 ||| td s2 0), .int co, .int (nI 1 + (if td s1 2 < td s2 2 then td s2 2 else td s1 2)), .int (pip (td s1 0 ||| td s2 0)), .long 0, .int 0, .int (-1)]))) B tm td A K) x c y v tA)) := by
  simp (maxSteps := 2000000) (disch := first | omega | with_reducible assumption | exact cobP | exact cobX | exact cobS (by omega) | exact cobK (by omega) | exact cobF (by omega) | exact cobW | exact isTC_T (by assumption) (by assumption) | exact cobN (by assumption) (by assumption) | exact bI_01 _ | exact Or.inl rfl | exact Or.inr rfl | (simp (decide := true) only [wid_0, wid_i, wid_l, wid_r, wid_n]; done) | decide | fail) only [s82_0, s82_1, s82_2, s82_3, s82_4, s82_5, s82_8, s82_9, s82_12, s82_13, s82_15c3, s82_15c6, s82_15c8, s82_18 (st := []), Option.bind_some, Option.bind_none, Option.toList_some, Option.toList_none, List.cons_append, List.nil_append, clr_i, clr_r, clr_l, clr_n, nI_add, nsub, pk_mul, nle_F, nle_T, nlt_F, nlt_T, neq_F, nz_F, nz_T, nneg_F, npos_T, npos_lF, npos_lT, nle0_F, m1_neg, m1_pos, m1_z, neq_m1, m1_neq, ↓reduceIte, if_true, if_false, not_true_eq_false, not_false_eq_true, bI_eq0, Bool.true_eq_false, Bool.false_eq_true, true_and, and_true, false_and, and_false, true_or, or_true, false_or, or_false, decide_true, decide_false, Bool.and_self, Bool.true_and, Bool.and_true, Bool.false_and, Bool.and_false, Bool.true_or, Bool.or_true, Bool.false_or, Bool.or_false, Bool.not_true, Bool.not_false, g_10_3_T, K_init2_8]
theorem K_init7 {u co : Int32} (hB : B q = none) (hx : x + 154 ≤ q) (hB1 : B (A s1) = some s1) (hx1 : x + 154 ≤ A s1) : Ev (d + 4) 75 0 [some (.ref q), some (.int u), some (.ref (A s1)), some (.int co)] [] (sz, us, emC (emT (hup F q (.inr (6, [.null, .null, .int 0, .int 0, .int 0, .int 0, .int 0, .long 0, .int 0, .int 0, .int 0]))) B tm td A K) x c y v tA) = some (none, (sz, us, emC (emT (hup F q (.inr (6, [.ref (A s1), .ref (A s1), .int (nI 14), .int (td s1 0 &&& (nI 1 <<< (u &&& 31) ^^^ (-1))), .int co, .int (nI 1 + (if td s1 2 < td s1 2 then td s1 2 else td s1 2)), .int (pip (td s1 0 &&& (nI 1 <<< (u &&& 31) ^^^ (-1)))), .long 0, .int 0, .int (-1), .int u]))) B tm td A K) x c y v tA)) := by
  have hB2 := hB1
  have hx2 := hx1
  simp (maxSteps := 2000000) (disch := first | omega | with_reducible assumption | exact cobP | exact cobX | exact cobS (by omega) | exact cobK (by omega) | exact cobF (by omega) | exact cobW | exact isTC_T (by assumption) (by assumption) | exact cobN (by assumption) (by assumption) | exact bI_01 _ | exact Or.inl rfl | exact Or.inr rfl | (simp (decide := true) only [wid_0, wid_i, wid_l, wid_r, wid_n]; done) | decide | fail) only [s75_0, s75_1, s75_3, s75_4, s75_5, s75_6, s75_9, s75_10, s75_11, s75_12, s75_13, s75_14, s75_15, s75_16c3, s75_16c6, s75_16c8, s75_19, s75_20, s75_21, s75_24 (st := []), Option.bind_some, Option.bind_none, Option.toList_some, Option.toList_none, List.cons_append, List.nil_append, clr_i, clr_r, clr_l, clr_n, nI_add, nsub, pk_mul, nle_F, nle_T, nlt_F, nlt_T, neq_F, nz_F, nz_T, nneg_F, npos_T, npos_lF, npos_lT, nle0_F, m1_neg, m1_pos, m1_z, neq_m1, m1_neq, ↓reduceIte, if_true, if_false, not_true_eq_false, not_false_eq_true, bI_eq0, Bool.true_eq_false, Bool.false_eq_true, true_and, and_true, false_and, and_false, true_or, or_true, false_or, or_false, decide_true, decide_false, Bool.and_self, Bool.true_and, Bool.and_true, Bool.false_and, Bool.and_false, Bool.true_or, Bool.or_true, Bool.false_or, Bool.or_false, Bool.not_true, Bool.not_false, g_7_3_T, emN_at, emN_up, K_init2_6, pi_7_15_6]
theorem w_terms {f : Hf} {tm : Nat → Option Nat} {k r : Nat} {ev : Option PE} (hk : k < 60) (h : isTC (cob ev)) : wrl (emC f x c y v tm (x + 128)) (nI k) r ev = some (.inl (5, 60, .inr (.inr (.inr (.inr (va_up tm k (some r))))))) := by
  rw [emC_at f x c y v tm 128 (by omega)]
  show wrl (some (.inl (5, 60, _))) _ _ _ = _
  have h1 : (nI k).toInt = (k : Int) := nI_toInt (by omega)
  have h2 : (nI k).toNatClampNeg = k := nI_clamp (by omega)
  unfold wrl
  dsimp only
  rcases h with h | h | h | h <;> rw [h] <;> dsimp only <;> rw [if_pos ⟨rfl, by rw [h1]; omega⟩, h2]
theorem h_terms {f : Hf} {tm : Nat → Option Nat} {T : Nat → Option Nat} : hup (emC f x c y v tm) (x + 128) (.inl (5, 60, .inr (.inr (.inr (.inr T))))) = emC f x c y v T := by
  refine emC_up (k := 128) (by omega) rfl (fun j hj hjk => ?_)
  unfold cce
  split <;> first | rfl | (rename_i hk; exfalso; unfold ckd at hk; (repeat' split at hk) <;> omega)
theorem K_addTerm_full {f : Hf} {tm : Nat → Option Nat} {r : Nat} (ht : c 0 2 = nI 60) : Ev (d + 1) 102 0 [some (.ref x), some (.ref r)] [] (sz, us, emC f x c y v tm) = some (some (.int (-2)), (sz, us, emC f x c y v tm)) := by
  simp (maxSteps := 2000000) (disch := first | omega | with_reducible assumption | exact cobP | exact cobX | exact cobS (by omega) | exact cobK (by omega) | exact cobF (by omega) | exact cobW | exact isTC_T (by assumption) (by assumption) | exact cobN (by assumption) (by assumption) | exact bI_01 _ | exact Or.inl rfl | exact Or.inr rfl | (simp (decide := true) only [wid_0, wid_i, wid_l, wid_r, wid_n]; done) | decide | fail) only [s102_0, s102_1, s102_4, s102_6, s102_9, s102_11 (st := []), s102_12, s102_13, s102_16, s102_17, s102_20, s102_21, s102_22, s102_23, s102_24, s102_27, s102_28, s102_29, s102_30, s102_33 (st := []), Option.bind_some, Option.bind_none, Option.toList_some, Option.toList_none, List.cons_append, List.nil_append, clr_i, clr_r, clr_l, clr_n, nI_add, nsub, pk_mul, nle_F, nle_T, nlt_F, nlt_T, neq_F, nz_F, nz_T, nneg_F, npos_T, npos_lF, npos_lT, nle0_F, m1_neg, m1_pos, m1_z, neq_m1, m1_neq, ↓reduceIte, if_true, if_false, not_true_eq_false, not_false_eq_true, bI_eq0, Bool.true_eq_false, Bool.false_eq_true, true_and, and_true, false_and, and_false, true_or, or_true, false_or, or_false, decide_true, decide_false, Bool.and_self, Bool.true_and, Bool.and_true, Bool.false_and, Bool.and_false, Bool.true_or, Bool.or_true, Bool.false_or, Bool.or_false, Bool.not_true, Bool.not_false, g_11_255_9, g_11_18_9, p_11_255_9, ht]
theorem K_addTerm {f : Hf} {tm : Nat → Option Nat} {r : Nat} (ht : c 0 2 = nI tn) (ht60 : tn < 60) (h : isTC (cob (emC f x c y v tm r))) : Ev (d + 1) 102 0 [some (.ref x), some (.ref r)] [] (sz, us, emC f x c y v tm) = some (some (.int (nI tn)), (sz, us, emC f x (wU c 0 2 (nI (tn + 1))) y v (va_up tm tn (some r)))) := by
  have hw := w_terms (f := f) (x := x) (c := c) (y := y) (v := v) (tm := tm) (k := tn) (r := r) ht60 h
  simp (maxSteps := 2000000) (disch := first | omega | with_reducible assumption | exact cobP | exact cobX | exact cobS (by omega) | exact cobK (by omega) | exact cobF (by omega) | exact cobW | exact isTC_T (by assumption) (by assumption) | exact cobN (by assumption) (by assumption) | exact bI_01 _ | exact Or.inl rfl | exact Or.inr rfl | (simp (decide := true) only [wid_0, wid_i, wid_l, wid_r, wid_n]; done) | decide | fail) only [s102_0, s102_1, s102_4, s102_6, s102_9, s102_11 (st := []), s102_12, s102_13, s102_16, s102_17, s102_20, s102_21, s102_22, s102_23, s102_24, s102_27, s102_28, s102_29, s102_30, s102_33 (st := []), Option.bind_some, Option.bind_none, Option.toList_some, Option.toList_none, List.cons_append, List.nil_append, clr_i, clr_r, clr_l, clr_n, nI_add, nsub, pk_mul, nle_F, nle_T, nlt_F, nlt_T, neq_F, nz_F, nz_T, nneg_F, npos_T, npos_lF, npos_lT, nle0_F, m1_neg, m1_pos, m1_z, neq_m1, m1_neq, ↓reduceIte, if_true, if_false, not_true_eq_false, not_false_eq_true, bI_eq0, Bool.true_eq_false, Bool.false_eq_true, true_and, and_true, false_and, and_false, true_or, or_true, false_or, or_false, decide_true, decide_false, Bool.and_self, Bool.true_and, Bool.and_true, Bool.false_and, Bool.and_false, Bool.true_or, Bool.or_true, Bool.false_or, Bool.or_false, Bool.not_true, Bool.not_false, g_11_255_9, g_11_18_9, p_11_255_9, ht, hw, h_terms, h_X11]
theorem isTC_N {ci : Nat} {L : List Value} (hB : B q = none) (hx : x + 154 ≤ q) (h : ci = 0 ∨ ci = 3 ∨ ci = 6 ∨ ci = 8) : isTC (cob (emC (emT (hup F q (.inr (ci, L))) B tm td A K) x c y v tA q)) := by
  rw [cobN hB hx]
  rcases h with rfl | rfl | rfl | rfl <;> unfold isTC <;> simp
end LB
