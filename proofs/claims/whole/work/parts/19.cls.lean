/-! the class's fixed cells as one world (wip/whole/gen19.py), from x on, in the order in which the constructors make them:
0 PastWeb (ints of it: 2 termCount, 4 keptCount); 1 Past (1 count, 2 changes, 3 noted, 4 readIn); 2 states; 3 thereIn; 4 linkedIn; 5 reachedIn; 6 reached; 7 ways;
8 + 4i State i (0 first, 1 second, 2 ahead, 3 before, 4 isRead, 5 parts); 9 + 4i sorts; 10 + 4i shapes; 11 + 4i leads; 128 terms; 129 keptTerms; 130 + 2i Kept i; 131 + 2i spans; 142 shelves; 143 + d Shelf d; 151 Rows (1 madeAt); 152 sure; 153 may.
c: ints; y: ways; v: references that change (Kept's, Shelf's, Rows'), by cell and field; tm: the terms; f: all else -/
def pwf (x : Nat) (c : WD) : List Value := [.ref (x + 1), .ref (x + 128), .int (c 0 2), .ref (x + 129), .int (c 0 4), .ref (x + 142), .ref (x + 151)]
def paf (x : Nat) (c : WD) : List Value := [.ref (x + 2), .int (c 1 1), .int (c 1 2), .int (c 1 3), .int (c 1 4), .ref (x + 3), .ref (x + 4), .ref (x + 5), .ref (x + 6), .ref (x + 7)]
def stf (x : Nat) (c : WD) (k : Nat) : List Value := [.int (c k 0), .int (c k 1), .int (c k 2), .int (c k 3), .int (c k 4), .int (c k 5), .ref (x + (k + 1)), .ref (x + (k + 2)), .ref (x + (k + 3))]
abbrev VD : Type := Nat → Nat → Value
def vU (v : VD) (k i : Nat) (z : Value) : VD := fun k' i' => if k' = k ∧ i' = i then z else v k' i'
theorem vU_ap (v : VD) (k i k' i' : Nat) (z : Value) : vU v k i z k' i' = if k' = k ∧ i' = i then z else v k' i' := rfl
def clen (k : Nat) : Nat := if k = 3 then 16 else if k = 4 then 768 else if k = 5 then 768 else if k = 6 then 16 else if k < 128 then (if (k - 8) % 4 = 3 then 48 else 16) else 256
def ctag (k : Nat) : Nat := if 8 ≤ k ∧ k < 128 ∧ (k - 8) % 4 < 3 then 1 else 0
/-- what kind of cell: 0 the object PastWeb, 1 Past, 2 states, 3 ints or bytes, 4 ways, 5 State, 6 terms, 7 keptTerms, 8 Kept, 9 shelves, 10 Shelf, 11 Rows -/
def ckd (k : Nat) : Nat := if k < 3 then k else if k < 7 then 3 else if k = 7 then 4 else if k < 128 then (if (k - 8) % 4 = 0 then 5 else 3) else if k = 128 then 6 else if k = 129 then 7 else if k < 142 then (if (k - 130) % 2 = 0 then 8 else 3) else if k = 142 then 9 else if k < 151 then 10 else if k = 151 then 11 else 3
def cce (x : Nat) (c : WD) (y : Nat → Int64) (v : VD) (tm : Nat → Option Nat) (k : Nat) : PE := match ckd k with
  | 0 => .inr (9, pwf x c)
  | 1 => .inr (2, paf x c)
  | 2 => .inl (4, 30, .inr (.inr (.inr (.inr (fun i => if i < 30 then some (x + (8 + 4 * i)) else none)))))
  | 3 => .inl (ctag k, clen k, .inl (c k))
  | 4 => .inl (3, 30, .inr (.inl y))
  | 5 => .inr (7, stf x c k)
  | 6 => .inl (5, 60, .inr (.inr (.inr (.inr tm))))
  | 7 => .inl (6, 6, .inr (.inr (.inr (.inr (fun i => if i < 6 then some (x + (130 + 2 * i)) else none)))))
  | 8 => .inr (1, [v k 0, .ref (x + (k + 1))])
  | 9 => .inl (7, 8, .inr (.inr (.inr (.inr (fun i => if i < 8 then some (x + (143 + i)) else none)))))
  | 10 => .inr (5, [v k 0, v k 1, v k 2])
  | _ => .inr (4, [v k 0, .int (c k 1), .ref (x + 152), .ref (x + 153)])
def emC (f : Hf) (x : Nat) (c : WD) (y : Nat → Int64) (v : VD) (tm : Nat → Option Nat) : Hf := fun a => if x ≤ a ∧ a < x + 154 then some (cce x c y v tm (a - x)) else f a
theorem emC_at (f : Hf) (x : Nat) (c : WD) (y : Nat → Int64) (v : VD) (tm : Nat → Option Nat) (k : Nat) (h : k < 154) : emC f x c y v tm (x + k) = some (cce x c y v tm k) := by
  unfold emC
  rw [if_pos ⟨by omega, by omega⟩, Nat.add_sub_cancel_left]
theorem emC_off (f : Hf) (x : Nat) (c : WD) (y : Nat → Int64) (v : VD) (tm : Nat → Option Nat) (a : Nat) (h : a < x ∨ x + 154 ≤ a) : emC f x c y v tm a = f a := by
  unfold emC
  rw [if_neg (by omega)]
theorem emC_up {f : Hf} {x : Nat} {c c' : WD} {y y' : Nat → Int64} {v v' : VD} {tm tm' : Nat → Option Nat} {k : Nat} {e : PE} (hk : k < 154) (he : e = cce x c' y' v' tm' k) (ho : ∀ j, j < 154 → j ≠ k → cce x c' y' v' tm' j = cce x c y v tm j) : hup (emC f x c y v tm) (x + k) e = emC f x c' y' v' tm' := by
  subst he
  funext a
  unfold hup emC
  by_cases h1 : a = x + k
  · subst h1
    rw [if_pos rfl, if_pos ⟨by omega, by omega⟩, Nat.add_sub_cancel_left]
  · rw [if_neg h1]
    by_cases h2 : x ≤ a ∧ a < x + 154
    · rw [if_pos h2, if_pos h2, ho (a - x) (by omega) (by omega)]
    · rw [if_neg h2, if_neg h2]
theorem cce_c {x : Nat} {c c' : WD} {y : Nat → Int64} {v : VD} {tm : Nat → Option Nat} {j : Nat} (h : c' j = c j) : cce x c' y v tm j = cce x c y v tm j := by
  unfold cce pwf paf stf
  split <;> first | rfl | (rename_i hk; rw [h]) | skip
  all_goals (rename_i hk)
  · have : j = 0 := by unfold ckd at hk; (repeat' split at hk) <;> omega
    subst this; rw [h]
  · have : j = 1 := by unfold ckd at hk; (repeat' split at hk) <;> omega
    subst this; rw [h]
theorem wU_off {c : WD} {k i : Nat} {z : Int32} {j : Nat} (h : j ≠ k) : wU c k i z j = c j := by
  funext q; simp [wU, h]
theorem wU_upd {c : WD} {k i : Nat} {z : Int32} : upd (c k) i z = wU c k i z k := by
  funext q; simp [upd, wU]
theorem emC_wa {f : Hf} {x : Nat} {c : WD} {y : Nat → Int64} {v : VD} {tm : Nat → Option Nat} {k i : Nat} {z : Int32} (hk : k < 154) (h3 : ckd k = 3) : hup (emC f x c y v tm) (x + k) (.inl (ctag k, clen k, .inl (upd (c k) i z))) = emC f x (wU c k i z) y v tm := by
  refine emC_up hk ?_ (fun j hj hjk => cce_c (wU_off hjk))
  unfold cce
  rw [h3, wU_upd]
  rfl
theorem emC_wf {f : Hf} {x : Nat} {c c' : WD} {y : Nat → Int64} {v : VD} {tm : Nat → Option Nat} {k : Nat} {e : PE} (hk : k < 154) (he : e = cce x c' y v tm k) (ho : ∀ j, j ≠ k → c' j = c j) : hup (emC f x c y v tm) (x + k) e = emC f x c' y v tm :=
  emC_up hk he (fun j _ hjk => cce_c (ho j hjk))
section CLS
variable {f : Hf} {x j i n k : Nat} {c : WD} {y : Nat → Int64} {v : VD} {tm : Nat → Option Nat} {z : Int32}
theorem emC_0 : emC f x c y v tm x = some (.inr (9, pwf x c)) := emC_at f x c y v tm 0 (by omega)
theorem emC_1 : emC f x c y v tm (x + 1) = some (.inr (2, paf x c)) := emC_at f x c y v tm 1 (by omega)
theorem ckd_st (h : i < 30) : ckd (8 + 4 * i) = 5 ∧ ckd (9 + 4 * i) = 3 ∧ ckd (10 + 4 * i) = 3 ∧ ckd (11 + 4 * i) = 3 := by
  unfold ckd
  refine ⟨?_, ?_, ?_, ?_⟩ <;> (repeat' split) <;> omega
theorem emC_st (h : i < 30) : emC f x c y v tm (x + (8 + 4 * i)) = some (.inr (7, stf x c (8 + 4 * i))) := by
  rw [emC_at _ _ _ _ _ _ _ (by omega)]; unfold cce; rw [(ckd_st h).1]; rfl
theorem emC_so (h : i < 30) : emC f x c y v tm (x + (9 + 4 * i)) = some (.inl (1, 16, .inl (c (9 + 4 * i)))) := by
  rw [emC_at _ _ _ _ _ _ _ (by omega)]; unfold cce; rw [(ckd_st h).2.1]
  have h1 : ctag (9 + 4 * i) = 1 := by unfold ctag; rw [if_pos (by omega)]
  have h2 : clen (9 + 4 * i) = 16 := by unfold clen; (repeat' split) <;> omega
  rw [h1, h2]
  rfl
theorem emC_sh (h : i < 30) : emC f x c y v tm (x + (10 + 4 * i)) = some (.inl (1, 16, .inl (c (10 + 4 * i)))) := by
  rw [emC_at _ _ _ _ _ _ _ (by omega)]; unfold cce; rw [(ckd_st h).2.2.1]
  have h1 : ctag (10 + 4 * i) = 1 := by unfold ctag; rw [if_pos (by omega)]
  have h2 : clen (10 + 4 * i) = 16 := by unfold clen; (repeat' split) <;> omega
  rw [h1, h2]
  rfl
theorem emC_le (h : i < 30) : emC f x c y v tm (x + (11 + 4 * i)) = some (.inl (0, 48, .inl (c (11 + 4 * i)))) := by
  rw [emC_at _ _ _ _ _ _ _ (by omega)]; unfold cce; rw [(ckd_st h).2.2.2]
  have h1 : ctag (11 + 4 * i) = 0 := by unfold ctag; rw [if_neg (by omega)]
  have h2 : clen (11 + 4 * i) = 48 := by unfold clen; (repeat' split) <;> omega
  rw [h1, h2]
  rfl
theorem cobX : cob (emC f x c y v tm x) = some 9 := by rw [emC_0]; rfl
theorem cobP : cob (emC f x c y v tm (x + 1)) = some 2 := by rw [emC_1]; rfl
theorem cobS (h : i < 30) : cob (emC f x c y v tm (x + (8 + 4 * i))) = some 7 := by rw [emC_st h]; rfl
theorem aC_states (h : i < 30) : rrl (emC f x c y v tm (x + 2)) (nI i) = some (some (x + (8 + 4 * i))) := by
  rw [emC_at f x c y v tm 2 (by omega)]
  show rrl (some (.inl (4, 30, _))) _ = _
  rw [rrl_nI (by decide) h (by omega), if_pos h]

theorem fs_11_12_9 : fsl 11 12 9 = some 0 := by decide +kernel
theorem g_11_12_9 : gfl 11 12 (emC f x c y v tm x) = some (.ref (x + 1)) := by rw [emC_0]; simp only [gfl, fs_11_12_9]; rfl
theorem fs_11_18_9 : fsl 11 18 9 = some 1 := by decide +kernel
theorem g_11_18_9 : gfl 11 18 (emC f x c y v tm x) = some (.ref (x + 128)) := by rw [emC_0]; simp only [gfl, fs_11_18_9]; rfl
theorem fs_11_24_9 : fsl 11 24 9 = some 3 := by decide +kernel
theorem g_11_24_9 : gfl 11 24 (emC f x c y v tm x) = some (.ref (x + 129)) := by rw [emC_0]; simp only [gfl, fs_11_24_9]; rfl
theorem fs_11_31_9 : fsl 11 31 9 = some 5 := by decide +kernel
theorem g_11_31_9 : gfl 11 31 (emC f x c y v tm x) = some (.ref (x + 142)) := by rw [emC_0]; simp only [gfl, fs_11_31_9]; rfl
theorem fs_11_39_9 : fsl 11 39 9 = some 6 := by decide +kernel
theorem g_11_39_9 : gfl 11 39 (emC f x c y v tm x) = some (.ref (x + 151)) := by rw [emC_0]; simp only [gfl, fs_11_39_9]; rfl
theorem fs_11_93_9 : fsl 11 93 9 = some 4 := by decide +kernel
theorem g_11_93_9 : gfl 11 93 (emC f x c y v tm x) = some (.int (c 0 4)) := by rw [emC_0]; simp only [gfl, fs_11_93_9]; rfl
theorem p_11_93_9 : pfl false 11 93 (emC f x c y v tm x) (.int z) = some (.inr (9, pwf x (wU c 0 4 z))) := by
  rw [emC_0]
  unfold pfl
  dsimp only
  rw [fs_11_93_9]
  exact if_pos ⟨Nat.le_of_ble_eq_true rfl, okv_i _, Or.inl rfl⟩
theorem fs_11_255_9 : fsl 11 255 9 = some 2 := by decide +kernel
theorem g_11_255_9 : gfl 11 255 (emC f x c y v tm x) = some (.int (c 0 2)) := by rw [emC_0]; simp only [gfl, fs_11_255_9]; rfl
theorem p_11_255_9 : pfl false 11 255 (emC f x c y v tm x) (.int z) = some (.inr (9, pwf x (wU c 0 2 z))) := by
  rw [emC_0]
  unfold pfl
  dsimp only
  rw [fs_11_255_9]
  exact if_pos ⟨Nat.le_of_ble_eq_true rfl, okv_i _, Or.inl rfl⟩
theorem fs_0_32_2 : fsl 0 32 2 = some 5 := by decide +kernel
theorem g_0_32_2 : gfl 0 32 (emC f x c y v tm (x + 1)) = some (.ref (x + 3)) := by rw [emC_1]; simp only [gfl, fs_0_32_2]; rfl
theorem fs_0_48_2 : fsl 0 48 2 = some 6 := by decide +kernel
theorem g_0_48_2 : gfl 0 48 (emC f x c y v tm (x + 1)) = some (.ref (x + 4)) := by rw [emC_1]; simp only [gfl, fs_0_48_2]; rfl
theorem fs_0_51_2 : fsl 0 51 2 = some 7 := by decide +kernel
theorem g_0_51_2 : gfl 0 51 (emC f x c y v tm (x + 1)) = some (.ref (x + 5)) := by rw [emC_1]; simp only [gfl, fs_0_51_2]; rfl
theorem fs_3_11_2 : fsl 3 11 2 = some 0 := by decide +kernel
theorem g_3_11_2 : gfl 3 11 (emC f x c y v tm (x + 1)) = some (.ref (x + 2)) := by rw [emC_1]; simp only [gfl, fs_3_11_2]; rfl
theorem fs_3_17_2 : fsl 3 17 2 = some 5 := by decide +kernel
theorem g_3_17_2 : gfl 3 17 (emC f x c y v tm (x + 1)) = some (.ref (x + 3)) := by rw [emC_1]; simp only [gfl, fs_3_17_2]; rfl
theorem fs_3_21_2 : fsl 3 21 2 = some 6 := by decide +kernel
theorem g_3_21_2 : gfl 3 21 (emC f x c y v tm (x + 1)) = some (.ref (x + 4)) := by rw [emC_1]; simp only [gfl, fs_3_21_2]; rfl
theorem fs_3_24_2 : fsl 3 24 2 = some 7 := by decide +kernel
theorem g_3_24_2 : gfl 3 24 (emC f x c y v tm (x + 1)) = some (.ref (x + 5)) := by rw [emC_1]; simp only [gfl, fs_3_24_2]; rfl
theorem fs_3_27_2 : fsl 3 27 2 = some 8 := by decide +kernel
theorem g_3_27_2 : gfl 3 27 (emC f x c y v tm (x + 1)) = some (.ref (x + 6)) := by rw [emC_1]; simp only [gfl, fs_3_27_2]; rfl
theorem fs_3_30_2 : fsl 3 30 2 = some 9 := by decide +kernel
theorem g_3_30_2 : gfl 3 30 (emC f x c y v tm (x + 1)) = some (.ref (x + 7)) := by rw [emC_1]; simp only [gfl, fs_3_30_2]; rfl
theorem fs_3_35_2 : fsl 3 35 2 = some 1 := by decide +kernel
theorem g_3_35_2 : gfl 3 35 (emC f x c y v tm (x + 1)) = some (.int (c 1 1)) := by rw [emC_1]; simp only [gfl, fs_3_35_2]; rfl
theorem p_3_35_2 : pfl false 3 35 (emC f x c y v tm (x + 1)) (.int z) = some (.inr (2, paf x (wU c 1 1 z))) := by
  rw [emC_1]
  unfold pfl
  dsimp only
  rw [fs_3_35_2]
  exact if_pos ⟨Nat.le_of_ble_eq_true rfl, okv_i _, Or.inl rfl⟩
theorem fs_3_47_2 : fsl 3 47 2 = some 2 := by decide +kernel
theorem g_3_47_2 : gfl 3 47 (emC f x c y v tm (x + 1)) = some (.int (c 1 2)) := by rw [emC_1]; simp only [gfl, fs_3_47_2]; rfl
theorem p_3_47_2 : pfl false 3 47 (emC f x c y v tm (x + 1)) (.int z) = some (.inr (2, paf x (wU c 1 2 z))) := by
  rw [emC_1]
  unfold pfl
  dsimp only
  rw [fs_3_47_2]
  exact if_pos ⟨Nat.le_of_ble_eq_true rfl, okv_i _, Or.inl rfl⟩
theorem fs_3_50_2 : fsl 3 50 2 = some 3 := by decide +kernel
theorem g_3_50_2 : gfl 3 50 (emC f x c y v tm (x + 1)) = some (.int (c 1 3)) := by rw [emC_1]; simp only [gfl, fs_3_50_2]; rfl
theorem p_3_50_2 : pfl false 3 50 (emC f x c y v tm (x + 1)) (.int z) = some (.inr (2, paf x (wU c 1 3 z))) := by
  rw [emC_1]
  unfold pfl
  dsimp only
  rw [fs_3_50_2]
  exact if_pos ⟨Nat.le_of_ble_eq_true rfl, okv_i _, Or.inl rfl⟩
theorem fs_3_69_2 : fsl 3 69 2 = some 4 := by decide +kernel
theorem g_3_69_2 : gfl 3 69 (emC f x c y v tm (x + 1)) = some (.int (c 1 4)) := by rw [emC_1]; simp only [gfl, fs_3_69_2]; rfl
theorem p_3_69_2 : pfl false 3 69 (emC f x c y v tm (x + 1)) (.int z) = some (.inr (2, paf x (wU c 1 4 z))) := by
  rw [emC_1]
  unfold pfl
  dsimp only
  rw [fs_3_69_2]
  exact if_pos ⟨Nat.le_of_ble_eq_true rfl, okv_i _, Or.inl rfl⟩
theorem fs_5_34_2 : fsl 5 34 2 = some 2 := by decide +kernel
theorem g_5_34_2 : gfl 5 34 (emC f x c y v tm (x + 1)) = some (.int (c 1 2)) := by rw [emC_1]; simp only [gfl, fs_5_34_2]; rfl
theorem p_5_34_2 : pfl false 5 34 (emC f x c y v tm (x + 1)) (.int z) = some (.inr (2, paf x (wU c 1 2 z))) := by
  rw [emC_1]
  unfold pfl
  dsimp only
  rw [fs_5_34_2]
  exact if_pos ⟨Nat.le_of_ble_eq_true rfl, okv_i _, Or.inl rfl⟩
theorem fs_9_34_2 : fsl 9 34 2 = some 2 := by decide +kernel
theorem g_9_34_2 : gfl 9 34 (emC f x c y v tm (x + 1)) = some (.int (c 1 2)) := by rw [emC_1]; simp only [gfl, fs_9_34_2]; rfl
theorem p_9_34_2 : pfl false 9 34 (emC f x c y v tm (x + 1)) (.int z) = some (.inr (2, paf x (wU c 1 2 z))) := by
  rw [emC_1]
  unfold pfl
  dsimp only
  rw [fs_9_34_2]
  exact if_pos ⟨Nat.le_of_ble_eq_true rfl, okv_i _, Or.inl rfl⟩
theorem fs_11_47_2 : fsl 11 47 2 = some 1 := by decide +kernel
theorem g_11_47_2 : gfl 11 47 (emC f x c y v tm (x + 1)) = some (.int (c 1 1)) := by rw [emC_1]; simp only [gfl, fs_11_47_2]; rfl
theorem p_11_47_2 : pfl false 11 47 (emC f x c y v tm (x + 1)) (.int z) = some (.inr (2, paf x (wU c 1 1 z))) := by
  rw [emC_1]
  unfold pfl
  dsimp only
  rw [fs_11_47_2]
  exact if_pos ⟨Nat.le_of_ble_eq_true rfl, okv_i _, Or.inl rfl⟩
theorem fs_11_103_2 : fsl 11 103 2 = some 0 := by decide +kernel
theorem g_11_103_2 : gfl 11 103 (emC f x c y v tm (x + 1)) = some (.ref (x + 2)) := by rw [emC_1]; simp only [gfl, fs_11_103_2]; rfl
theorem h_X11 {i : Nat} : hup (emC f x c y v tm) x (.inr (9, pwf x (wU c 0 i z))) = emC f x (wU c 0 i z) y v tm := emC_wf (k := 0) (by omega) rfl (fun _ hj => wU_off hj)
theorem h_X3 {i : Nat} : hup (emC f x c y v tm) (x + 1) (.inr (2, paf x (wU c 1 i z))) = emC f x (wU c 1 i z) y v tm := emC_wf (k := 1) (by omega) rfl (fun _ hj => wU_off hj)
theorem h_X8 {i q : Nat} (h : i < 30) : hup (emC f x c y v tm) (x + (8 + 4 * i)) (.inr (7, stf x (wU c (8 + 4 * i) q z) (8 + 4 * i))) = emC f x (wU c (8 + 4 * i) q z) y v tm :=
  emC_wf (by omega) (by unfold cce; rw [(ckd_st h).1]; rfl) (fun _ hj => wU_off hj)
theorem fs_3_72_7 : fsl 3 72 7 = some 4 := by decide +kernel
theorem g_3_72_7 (h : i < 30) : gfl 3 72 (emC f x c y v tm (x + (8 + 4 * i))) = some (.int (c (8 + 4 * i) 4)) := by
  rw [emC_st h]; simp only [gfl, fs_3_72_7]
  rfl
theorem p_3_72_7 (hx : z = 0 ∨ z = 1) (h : i < 30) : pfl false 3 72 (emC f x c y v tm (x + (8 + 4 * i))) (.int z) = some (.inr (7, stf x (wU c (8 + 4 * i) 4 z) (8 + 4 * i))) := by
  rw [emC_st h]
  unfold pfl
  dsimp only
  rw [fs_3_72_7]
  refine (if_pos ⟨Nat.le_of_ble_eq_true rfl, by rcases hx with rfl | rfl <;> decide, Or.inl rfl⟩).trans ?_
  simp [stf, wU_ap]
theorem fs_3_88_7 : fsl 3 88 7 = some 8 := by decide +kernel
theorem g_3_88_7 (h : i < 30) : gfl 3 88 (emC f x c y v tm (x + (8 + 4 * i))) = some (.ref (x + (11 + 4 * i))) := by
  rw [emC_st h]; simp only [gfl, fs_3_88_7]
  exact congrArg (fun q => some (Value.ref (x + q))) (by omega : 8 + 4 * i + 3 = 11 + 4 * i)
theorem fs_3_103_7 : fsl 3 103 7 = some 6 := by decide +kernel
theorem g_3_103_7 (h : i < 30) : gfl 3 103 (emC f x c y v tm (x + (8 + 4 * i))) = some (.ref (x + (9 + 4 * i))) := by
  rw [emC_st h]; simp only [gfl, fs_3_103_7]
  exact congrArg (fun q => some (Value.ref (x + q))) (by omega : 8 + 4 * i + 1 = 9 + 4 * i)
theorem fs_3_107_7 : fsl 3 107 7 = some 7 := by decide +kernel
theorem g_3_107_7 (h : i < 30) : gfl 3 107 (emC f x c y v tm (x + (8 + 4 * i))) = some (.ref (x + (10 + 4 * i))) := by
  rw [emC_st h]; simp only [gfl, fs_3_107_7]
  exact congrArg (fun q => some (Value.ref (x + q))) (by omega : 8 + 4 * i + 2 = 10 + 4 * i)
theorem fs_3_110_7 : fsl 3 110 7 = some 3 := by decide +kernel
theorem g_3_110_7 (h : i < 30) : gfl 3 110 (emC f x c y v tm (x + (8 + 4 * i))) = some (.int (c (8 + 4 * i) 3)) := by
  rw [emC_st h]; simp only [gfl, fs_3_110_7]
  rfl
theorem p_3_110_7 (h : i < 30) : pfl false 3 110 (emC f x c y v tm (x + (8 + 4 * i))) (.int z) = some (.inr (7, stf x (wU c (8 + 4 * i) 3 z) (8 + 4 * i))) := by
  rw [emC_st h]
  unfold pfl
  dsimp only
  rw [fs_3_110_7]
  refine (if_pos ⟨Nat.le_of_ble_eq_true rfl, okv_i _, Or.inl rfl⟩).trans ?_
  simp [stf, wU_ap]
theorem fs_3_117_7 : fsl 3 117 7 = some 2 := by decide +kernel
theorem g_3_117_7 (h : i < 30) : gfl 3 117 (emC f x c y v tm (x + (8 + 4 * i))) = some (.int (c (8 + 4 * i) 2)) := by
  rw [emC_st h]; simp only [gfl, fs_3_117_7]
  rfl
theorem p_3_117_7 (h : i < 30) : pfl false 3 117 (emC f x c y v tm (x + (8 + 4 * i))) (.int z) = some (.inr (7, stf x (wU c (8 + 4 * i) 2 z) (8 + 4 * i))) := by
  rw [emC_st h]
  unfold pfl
  dsimp only
  rw [fs_3_117_7]
  refine (if_pos ⟨Nat.le_of_ble_eq_true rfl, okv_i _, Or.inl rfl⟩).trans ?_
  simp [stf, wU_ap]
theorem fs_3_120_7 : fsl 3 120 7 = some 0 := by decide +kernel
theorem g_3_120_7 (h : i < 30) : gfl 3 120 (emC f x c y v tm (x + (8 + 4 * i))) = some (.int (c (8 + 4 * i) 0)) := by
  rw [emC_st h]; simp only [gfl, fs_3_120_7]
  rfl
theorem p_3_120_7 (h : i < 30) : pfl false 3 120 (emC f x c y v tm (x + (8 + 4 * i))) (.int z) = some (.inr (7, stf x (wU c (8 + 4 * i) 0 z) (8 + 4 * i))) := by
  rw [emC_st h]
  unfold pfl
  dsimp only
  rw [fs_3_120_7]
  refine (if_pos ⟨Nat.le_of_ble_eq_true rfl, okv_i _, Or.inl rfl⟩).trans ?_
  simp [stf, wU_ap]
theorem fs_3_127_7 : fsl 3 127 7 = some 5 := by decide +kernel
theorem g_3_127_7 (h : i < 30) : gfl 3 127 (emC f x c y v tm (x + (8 + 4 * i))) = some (.int (c (8 + 4 * i) 5)) := by
  rw [emC_st h]; simp only [gfl, fs_3_127_7]
  rfl
theorem p_3_127_7 (h : i < 30) : pfl false 3 127 (emC f x c y v tm (x + (8 + 4 * i))) (.int z) = some (.inr (7, stf x (wU c (8 + 4 * i) 5 z) (8 + 4 * i))) := by
  rw [emC_st h]
  unfold pfl
  dsimp only
  rw [fs_3_127_7]
  refine (if_pos ⟨Nat.le_of_ble_eq_true rfl, okv_i _, Or.inl rfl⟩).trans ?_
  simp [stf, wU_ap]
theorem fs_3_138_7 : fsl 3 138 7 = some 1 := by decide +kernel
theorem g_3_138_7 (h : i < 30) : gfl 3 138 (emC f x c y v tm (x + (8 + 4 * i))) = some (.int (c (8 + 4 * i) 1)) := by
  rw [emC_st h]; simp only [gfl, fs_3_138_7]
  rfl
theorem p_3_138_7 (h : i < 30) : pfl false 3 138 (emC f x c y v tm (x + (8 + 4 * i))) (.int z) = some (.inr (7, stf x (wU c (8 + 4 * i) 1 z) (8 + 4 * i))) := by
  rw [emC_st h]
  unfold pfl
  dsimp only
  rw [fs_3_138_7]
  refine (if_pos ⟨Nat.le_of_ble_eq_true rfl, okv_i _, Or.inl rfl⟩).trans ?_
  simp [stf, wU_ap]
theorem fs_8_9_7 : fsl 8 9 7 = some 6 := by decide +kernel
theorem g_8_9_7 (h : i < 30) : gfl 8 9 (emC f x c y v tm (x + (8 + 4 * i))) = some (.ref (x + (9 + 4 * i))) := by
  rw [emC_st h]; simp only [gfl, fs_8_9_7]
  exact congrArg (fun q => some (Value.ref (x + q))) (by omega : 8 + 4 * i + 1 = 9 + 4 * i)
theorem fs_8_15_7 : fsl 8 15 7 = some 7 := by decide +kernel
theorem g_8_15_7 (h : i < 30) : gfl 8 15 (emC f x c y v tm (x + (8 + 4 * i))) = some (.ref (x + (10 + 4 * i))) := by
  rw [emC_st h]; simp only [gfl, fs_8_15_7]
  exact congrArg (fun q => some (Value.ref (x + q))) (by omega : 8 + 4 * i + 2 = 10 + 4 * i)
theorem fs_8_18_7 : fsl 8 18 7 = some 8 := by decide +kernel
theorem g_8_18_7 (h : i < 30) : gfl 8 18 (emC f x c y v tm (x + (8 + 4 * i))) = some (.ref (x + (11 + 4 * i))) := by
  rw [emC_st h]; simp only [gfl, fs_8_18_7]
  exact congrArg (fun q => some (Value.ref (x + q))) (by omega : 8 + 4 * i + 3 = 11 + 4 * i)
theorem fs_8_22_7 : fsl 8 22 7 = some 0 := by decide +kernel
theorem g_8_22_7 (h : i < 30) : gfl 8 22 (emC f x c y v tm (x + (8 + 4 * i))) = some (.int (c (8 + 4 * i) 0)) := by
  rw [emC_st h]; simp only [gfl, fs_8_22_7]
  rfl
theorem p_8_22_7 (h : i < 30) : pfl false 8 22 (emC f x c y v tm (x + (8 + 4 * i))) (.int z) = some (.inr (7, stf x (wU c (8 + 4 * i) 0 z) (8 + 4 * i))) := by
  rw [emC_st h]
  unfold pfl
  dsimp only
  rw [fs_8_22_7]
  refine (if_pos ⟨Nat.le_of_ble_eq_true rfl, okv_i _, Or.inl rfl⟩).trans ?_
  simp [stf, wU_ap]
theorem fs_8_26_7 : fsl 8 26 7 = some 1 := by decide +kernel
theorem g_8_26_7 (h : i < 30) : gfl 8 26 (emC f x c y v tm (x + (8 + 4 * i))) = some (.int (c (8 + 4 * i) 1)) := by
  rw [emC_st h]; simp only [gfl, fs_8_26_7]
  rfl
theorem p_8_26_7 (h : i < 30) : pfl false 8 26 (emC f x c y v tm (x + (8 + 4 * i))) (.int z) = some (.inr (7, stf x (wU c (8 + 4 * i) 1 z) (8 + 4 * i))) := by
  rw [emC_st h]
  unfold pfl
  dsimp only
  rw [fs_8_26_7]
  refine (if_pos ⟨Nat.le_of_ble_eq_true rfl, okv_i _, Or.inl rfl⟩).trans ?_
  simp [stf, wU_ap]
theorem fs_8_29_7 : fsl 8 29 7 = some 2 := by decide +kernel
theorem g_8_29_7 (h : i < 30) : gfl 8 29 (emC f x c y v tm (x + (8 + 4 * i))) = some (.int (c (8 + 4 * i) 2)) := by
  rw [emC_st h]; simp only [gfl, fs_8_29_7]
  rfl
theorem p_8_29_7 (h : i < 30) : pfl false 8 29 (emC f x c y v tm (x + (8 + 4 * i))) (.int z) = some (.inr (7, stf x (wU c (8 + 4 * i) 2 z) (8 + 4 * i))) := by
  rw [emC_st h]
  unfold pfl
  dsimp only
  rw [fs_8_29_7]
  refine (if_pos ⟨Nat.le_of_ble_eq_true rfl, okv_i _, Or.inl rfl⟩).trans ?_
  simp [stf, wU_ap]
theorem fs_8_32_7 : fsl 8 32 7 = some 3 := by decide +kernel
theorem g_8_32_7 (h : i < 30) : gfl 8 32 (emC f x c y v tm (x + (8 + 4 * i))) = some (.int (c (8 + 4 * i) 3)) := by
  rw [emC_st h]; simp only [gfl, fs_8_32_7]
  rfl
theorem p_8_32_7 (h : i < 30) : pfl false 8 32 (emC f x c y v tm (x + (8 + 4 * i))) (.int z) = some (.inr (7, stf x (wU c (8 + 4 * i) 3 z) (8 + 4 * i))) := by
  rw [emC_st h]
  unfold pfl
  dsimp only
  rw [fs_8_32_7]
  refine (if_pos ⟨Nat.le_of_ble_eq_true rfl, okv_i _, Or.inl rfl⟩).trans ?_
  simp [stf, wU_ap]
theorem fs_8_35_7 : fsl 8 35 7 = some 4 := by decide +kernel
theorem g_8_35_7 (h : i < 30) : gfl 8 35 (emC f x c y v tm (x + (8 + 4 * i))) = some (.int (c (8 + 4 * i) 4)) := by
  rw [emC_st h]; simp only [gfl, fs_8_35_7]
  rfl
theorem p_8_35_7 (hx : z = 0 ∨ z = 1) (h : i < 30) : pfl false 8 35 (emC f x c y v tm (x + (8 + 4 * i))) (.int z) = some (.inr (7, stf x (wU c (8 + 4 * i) 4 z) (8 + 4 * i))) := by
  rw [emC_st h]
  unfold pfl
  dsimp only
  rw [fs_8_35_7]
  refine (if_pos ⟨Nat.le_of_ble_eq_true rfl, by rcases hx with rfl | rfl <;> decide, Or.inl rfl⟩).trans ?_
  simp [stf, wU_ap]
theorem fs_8_39_7 : fsl 8 39 7 = some 5 := by decide +kernel
theorem g_8_39_7 (h : i < 30) : gfl 8 39 (emC f x c y v tm (x + (8 + 4 * i))) = some (.int (c (8 + 4 * i) 5)) := by
  rw [emC_st h]; simp only [gfl, fs_8_39_7]
  rfl
theorem p_8_39_7 (h : i < 30) : pfl false 8 39 (emC f x c y v tm (x + (8 + 4 * i))) (.int z) = some (.inr (7, stf x (wU c (8 + 4 * i) 5 z) (8 + 4 * i))) := by
  rw [emC_st h]
  unfold pfl
  dsimp only
  rw [fs_8_39_7]
  refine (if_pos ⟨Nat.le_of_ble_eq_true rfl, okv_i _, Or.inl rfl⟩).trans ?_
  simp [stf, wU_ap]
theorem fs_11_89_7 : fsl 11 89 7 = some 4 := by decide +kernel
theorem g_11_89_7 (h : i < 30) : gfl 11 89 (emC f x c y v tm (x + (8 + 4 * i))) = some (.int (c (8 + 4 * i) 4)) := by
  rw [emC_st h]; simp only [gfl, fs_11_89_7]
  rfl
theorem p_11_89_7 (hx : z = 0 ∨ z = 1) (h : i < 30) : pfl false 11 89 (emC f x c y v tm (x + (8 + 4 * i))) (.int z) = some (.inr (7, stf x (wU c (8 + 4 * i) 4 z) (8 + 4 * i))) := by
  rw [emC_st h]
  unfold pfl
  dsimp only
  rw [fs_11_89_7]
  refine (if_pos ⟨Nat.le_of_ble_eq_true rfl, by rcases hx with rfl | rfl <;> decide, Or.inl rfl⟩).trans ?_
  simp [stf, wU_ap]
theorem fs_11_107_7 : fsl 11 107 7 = some 0 := by decide +kernel
theorem g_11_107_7 (h : i < 30) : gfl 11 107 (emC f x c y v tm (x + (8 + 4 * i))) = some (.int (c (8 + 4 * i) 0)) := by
  rw [emC_st h]; simp only [gfl, fs_11_107_7]
  rfl
theorem p_11_107_7 (h : i < 30) : pfl false 11 107 (emC f x c y v tm (x + (8 + 4 * i))) (.int z) = some (.inr (7, stf x (wU c (8 + 4 * i) 0 z) (8 + 4 * i))) := by
  rw [emC_st h]
  unfold pfl
  dsimp only
  rw [fs_11_107_7]
  refine (if_pos ⟨Nat.le_of_ble_eq_true rfl, okv_i _, Or.inl rfl⟩).trans ?_
  simp [stf, wU_ap]
theorem fs_11_110_7 : fsl 11 110 7 = some 1 := by decide +kernel
theorem g_11_110_7 (h : i < 30) : gfl 11 110 (emC f x c y v tm (x + (8 + 4 * i))) = some (.int (c (8 + 4 * i) 1)) := by
  rw [emC_st h]; simp only [gfl, fs_11_110_7]
  rfl
theorem p_11_110_7 (h : i < 30) : pfl false 11 110 (emC f x c y v tm (x + (8 + 4 * i))) (.int z) = some (.inr (7, stf x (wU c (8 + 4 * i) 1 z) (8 + 4 * i))) := by
  rw [emC_st h]
  unfold pfl
  dsimp only
  rw [fs_11_110_7]
  refine (if_pos ⟨Nat.le_of_ble_eq_true rfl, okv_i _, Or.inl rfl⟩).trans ?_
  simp [stf, wU_ap]
theorem fs_11_113_7 : fsl 11 113 7 = some 3 := by decide +kernel
theorem g_11_113_7 (h : i < 30) : gfl 11 113 (emC f x c y v tm (x + (8 + 4 * i))) = some (.int (c (8 + 4 * i) 3)) := by
  rw [emC_st h]; simp only [gfl, fs_11_113_7]
  rfl
theorem p_11_113_7 (h : i < 30) : pfl false 11 113 (emC f x c y v tm (x + (8 + 4 * i))) (.int z) = some (.inr (7, stf x (wU c (8 + 4 * i) 3 z) (8 + 4 * i))) := by
  rw [emC_st h]
  unfold pfl
  dsimp only
  rw [fs_11_113_7]
  refine (if_pos ⟨Nat.le_of_ble_eq_true rfl, okv_i _, Or.inl rfl⟩).trans ?_
  simp [stf, wU_ap]
theorem fs_11_116_7 : fsl 11 116 7 = some 5 := by decide +kernel
theorem g_11_116_7 (h : i < 30) : gfl 11 116 (emC f x c y v tm (x + (8 + 4 * i))) = some (.int (c (8 + 4 * i) 5)) := by
  rw [emC_st h]; simp only [gfl, fs_11_116_7]
  rfl
theorem p_11_116_7 (h : i < 30) : pfl false 11 116 (emC f x c y v tm (x + (8 + 4 * i))) (.int z) = some (.inr (7, stf x (wU c (8 + 4 * i) 5 z) (8 + 4 * i))) := by
  rw [emC_st h]
  unfold pfl
  dsimp only
  rw [fs_11_116_7]
  refine (if_pos ⟨Nat.le_of_ble_eq_true rfl, okv_i _, Or.inl rfl⟩).trans ?_
  simp [stf, wU_ap]
theorem fs_11_128_7 : fsl 11 128 7 = some 6 := by decide +kernel
theorem g_11_128_7 (h : i < 30) : gfl 11 128 (emC f x c y v tm (x + (8 + 4 * i))) = some (.ref (x + (9 + 4 * i))) := by
  rw [emC_st h]; simp only [gfl, fs_11_128_7]
  exact congrArg (fun q => some (Value.ref (x + q))) (by omega : 8 + 4 * i + 1 = 9 + 4 * i)
theorem fs_11_132_7 : fsl 11 132 7 = some 7 := by decide +kernel
theorem g_11_132_7 (h : i < 30) : gfl 11 132 (emC f x c y v tm (x + (8 + 4 * i))) = some (.ref (x + (10 + 4 * i))) := by
  rw [emC_st h]; simp only [gfl, fs_11_132_7]
  exact congrArg (fun q => some (Value.ref (x + q))) (by omega : 8 + 4 * i + 2 = 10 + 4 * i)
theorem fs_11_135_7 : fsl 11 135 7 = some 8 := by decide +kernel
theorem g_11_135_7 (h : i < 30) : gfl 11 135 (emC f x c y v tm (x + (8 + 4 * i))) = some (.ref (x + (11 + 4 * i))) := by
  rw [emC_st h]; simp only [gfl, fs_11_135_7]
  exact congrArg (fun q => some (Value.ref (x + q))) (by omega : 8 + 4 * i + 3 = 11 + 4 * i)
theorem a_so (h : i < 30) (hj : j < 16) : rbl (emC f x c y v tm (x + (9 + 4 * i))) (nI j) = some (c (9 + 4 * i) j) := by
  rw [emC_so h]; unfold rbl; rw [ral_nI hj (by omega)]
theorem a_sh (h : i < 30) (hj : j < 16) : rbl (emC f x c y v tm (x + (10 + 4 * i))) (nI j) = some (c (10 + 4 * i) j) := by
  rw [emC_sh h]; unfold rbl; rw [ral_nI hj (by omega)]
theorem a_le (h : i < 30) (hj : j < 48) : ral 0 (emC f x c y v tm (x + (11 + 4 * i))) (nI j) = some (c (11 + 4 * i) j) := by
  rw [emC_le h]; exact ral_nI hj (by omega)
theorem n_le (h : i < 30) : aln (emC f x c y v tm (x + (11 + 4 * i))) = some 48 := by
  rw [emC_le h]; rfl
theorem b_so (h : i < 30) (hj : j < 16) : wbl (emC f x c y v tm (x + (9 + 4 * i))) (nI j) z = some (.inl (1, 16, .inl (upd (c (9 + 4 * i)) j (vp_nar .byte z)))) := by
  rw [emC_so h]; unfold wbl; rw [wal_nI hj (by omega)]
theorem b_sh (h : i < 30) (hj : j < 16) : wbl (emC f x c y v tm (x + (10 + 4 * i))) (nI j) z = some (.inl (1, 16, .inl (upd (c (10 + 4 * i)) j (vp_nar .byte z)))) := by
  rw [emC_sh h]; unfold wbl; rw [wal_nI hj (by omega)]
theorem b_le (h : i < 30) (hj : j < 48) : wal 0 (emC f x c y v tm (x + (11 + 4 * i))) (nI j) z = some (.inl (0, 48, .inl (upd (c (11 + 4 * i)) j z))) := by
  rw [emC_le h]; exact wal_nI hj (by omega)
theorem u_so {q : Nat} (h : i < 30) : hup (emC f x c y v tm) (x + (9 + 4 * i)) (.inl (1, 16, .inl (upd (c (9 + 4 * i)) q z))) = emC f x (wU c (9 + 4 * i) q z) y v tm := by
  have h1 : ctag (9 + 4 * i) = 1 := by unfold ctag; rw [if_pos (by omega)]
  have h2 : clen (9 + 4 * i) = 16 := by unfold clen; (repeat' split) <;> omega
  have := emC_wa (f := f) (x := x) (c := c) (y := y) (v := v) (tm := tm) (k := 9 + 4 * i) (i := q) (z := z) (by omega) (ckd_st h).2.1
  rwa [h1, h2] at this
theorem u_sh {q : Nat} (h : i < 30) : hup (emC f x c y v tm) (x + (10 + 4 * i)) (.inl (1, 16, .inl (upd (c (10 + 4 * i)) q z))) = emC f x (wU c (10 + 4 * i) q z) y v tm := by
  have h1 : ctag (10 + 4 * i) = 1 := by unfold ctag; rw [if_pos (by omega)]
  have h2 : clen (10 + 4 * i) = 16 := by unfold clen; (repeat' split) <;> omega
  have := emC_wa (f := f) (x := x) (c := c) (y := y) (v := v) (tm := tm) (k := 10 + 4 * i) (i := q) (z := z) (by omega) (ckd_st h).2.2.1
  rwa [h1, h2] at this
theorem u_le {q : Nat} (h : i < 30) : hup (emC f x c y v tm) (x + (11 + 4 * i)) (.inl (0, 48, .inl (upd (c (11 + 4 * i)) q z))) = emC f x (wU c (11 + 4 * i) q z) y v tm := by
  have h1 : ctag (11 + 4 * i) = 0 := by unfold ctag; rw [if_neg (by omega)]
  have h2 : clen (11 + 4 * i) = 48 := by unfold clen; (repeat' split) <;> omega
  have := emC_wa (f := f) (x := x) (c := c) (y := y) (v := v) (tm := tm) (k := 11 + 4 * i) (i := q) (z := z) (by omega) (ckd_st h).2.2.2
  rwa [h1, h2] at this
theorem aC_3 (hj : j < 16) : ral 0 (emC f x c y v tm (x + 3)) (nI j) = some (c 3 j) := by
  rw [emC_at f x c y v tm 3 (by omega)]; exact ral_nI (n := 16) hj (by omega)
theorem bC_3 (hj : j < 16) : wal 0 (emC f x c y v tm (x + 3)) (nI j) z = some (.inl (0, 16, .inl (upd (c 3) j z))) := by
  rw [emC_at f x c y v tm 3 (by omega)]; exact wal_nI (n := 16) hj (by omega)
theorem uC_3 : hup (emC f x c y v tm) (x + 3) (.inl (0, 16, .inl (upd (c 3) i z))) = emC f x (wU c 3 i z) y v tm := emC_wa (k := 3) (by decide) rfl
theorem aC_4 (hj : j < 768) : ral 0 (emC f x c y v tm (x + 4)) (nI j) = some (c 4 j) := by
  rw [emC_at f x c y v tm 4 (by omega)]; exact ral_nI (n := 768) hj (by omega)
theorem bC_4 (hj : j < 768) : wal 0 (emC f x c y v tm (x + 4)) (nI j) z = some (.inl (0, 768, .inl (upd (c 4) j z))) := by
  rw [emC_at f x c y v tm 4 (by omega)]; exact wal_nI (n := 768) hj (by omega)
theorem uC_4 : hup (emC f x c y v tm) (x + 4) (.inl (0, 768, .inl (upd (c 4) i z))) = emC f x (wU c 4 i z) y v tm := emC_wa (k := 4) (by decide) rfl
theorem aC_5 (hj : j < 768) : ral 0 (emC f x c y v tm (x + 5)) (nI j) = some (c 5 j) := by
  rw [emC_at f x c y v tm 5 (by omega)]; exact ral_nI (n := 768) hj (by omega)
theorem bC_5 (hj : j < 768) : wal 0 (emC f x c y v tm (x + 5)) (nI j) z = some (.inl (0, 768, .inl (upd (c 5) j z))) := by
  rw [emC_at f x c y v tm 5 (by omega)]; exact wal_nI (n := 768) hj (by omega)
theorem uC_5 : hup (emC f x c y v tm) (x + 5) (.inl (0, 768, .inl (upd (c 5) i z))) = emC f x (wU c 5 i z) y v tm := emC_wa (k := 5) (by decide) rfl
theorem aC_6 (hj : j < 16) : ral 0 (emC f x c y v tm (x + 6)) (nI j) = some (c 6 j) := by
  rw [emC_at f x c y v tm 6 (by omega)]; exact ral_nI (n := 16) hj (by omega)
theorem bC_6 (hj : j < 16) : wal 0 (emC f x c y v tm (x + 6)) (nI j) z = some (.inl (0, 16, .inl (upd (c 6) j z))) := by
  rw [emC_at f x c y v tm 6 (by omega)]; exact wal_nI (n := 16) hj (by omega)
theorem uC_6 : hup (emC f x c y v tm) (x + 6) (.inl (0, 16, .inl (upd (c 6) i z))) = emC f x (wU c 6 i z) y v tm := emC_wa (k := 6) (by decide) rfl
theorem aC_152 (hj : j < 256) : ral 0 (emC f x c y v tm (x + 152)) (nI j) = some (c 152 j) := by
  rw [emC_at f x c y v tm 152 (by omega)]; exact ral_nI (n := 256) hj (by omega)
theorem bC_152 (hj : j < 256) : wal 0 (emC f x c y v tm (x + 152)) (nI j) z = some (.inl (0, 256, .inl (upd (c 152) j z))) := by
  rw [emC_at f x c y v tm 152 (by omega)]; exact wal_nI (n := 256) hj (by omega)
theorem uC_152 : hup (emC f x c y v tm) (x + 152) (.inl (0, 256, .inl (upd (c 152) i z))) = emC f x (wU c 152 i z) y v tm := emC_wa (k := 152) (by decide) rfl
theorem aC_153 (hj : j < 256) : ral 0 (emC f x c y v tm (x + 153)) (nI j) = some (c 153 j) := by
  rw [emC_at f x c y v tm 153 (by omega)]; exact ral_nI (n := 256) hj (by omega)
theorem bC_153 (hj : j < 256) : wal 0 (emC f x c y v tm (x + 153)) (nI j) z = some (.inl (0, 256, .inl (upd (c 153) j z))) := by
  rw [emC_at f x c y v tm 153 (by omega)]; exact wal_nI (n := 256) hj (by omega)
theorem uC_153 : hup (emC f x c y v tm) (x + 153) (.inl (0, 256, .inl (upd (c 153) i z))) = emC f x (wU c 153 i z) y v tm := emC_wa (k := 153) (by decide) rfl
end CLS
