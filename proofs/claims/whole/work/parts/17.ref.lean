/-! the reference's object and its arrays as one world (wip/whole/gen17.py). Cells from m on: 0 the object, then its arrays: 1 first, 2 second, 3 before, 4 there, 5 isRead, 6 sort, 7 shape, 8 links, 9 ways, 10 kind, 11 a1, 12 a2, 13 a3, 14 free, 15 cost, 16 deep, 17 sure, 18 may, 19 isAsked, 20 from, 21 to, 22 reach, 23 spans, 24 keptTerm, 25 keptSpan, 26 held, 27 heldTerm, 28 size, 29 item, 30 aside; of cell 0: 0 thrown, 1 states, 10 isOld, 12 terms, 27 kept -/
abbrev WD : Type := Nat → Nat → Int32
def wU (w : WD) (k i : Nat) (x : Int32) : WD := fun k' i' => if k' = k ∧ i' = i then x else w k' i'
theorem wU_ap (w : WD) (k i k' i' : Nat) (x : Int32) : wU w k i x k' i' = if k' = k ∧ i' = i then x else w k' i' := rfl
/-- what a call's answer is, and the heap behind it -/
def oki (x : Int32) (h : Hp) : Option (Option Value × Hp) := some (some (.int x), h)
def okl (x : Int64) (h : Hp) : Option (Option Value × Hp) := some (some (.long x), h)
def okr (x : Nat) (h : Hp) : Option (Option Value × Hp) := some (some (.ref x), h)
def okv0 (h : Hp) : Option (Option Value × Hp) := some (none, h)
def bI (b : Bool) : Int32 := if b then 1 else 0
theorem okv_i (x : Int32) : okv .int (.int x) = true := by simp [okv, fits, narrow]
theorem okv_l (x : Int64) : okv .long (.long x) = true := by simp [okv, fits, narrow]
theorem okv_r (n : String) (x : Nat) : okv (.object n) (.ref x) = true := by simp [okv, fits, narrow]
theorem okv_n (n : String) : okv (.object n) .null = true := by simp [okv, fits, narrow]
theorem okv_ra (t : FieldType) (x : Nat) : okv (.array t) (.ref x) = true := by simp [okv, fits, narrow]
theorem okv_na (t : FieldType) : okv (.array t) .null = true := by simp [okv, fits, narrow]
theorem bI_01 (b : Bool) : bI b = 0 ∨ bI b = 1 := by cases b <;> simp [bI]
theorem nI01_0 : nI 0 = 0 ∨ nI 0 = 1 := Or.inl rfl
theorem nI01_1 : nI 1 = 0 ∨ nI 1 = 1 := Or.inr rfl
theorem bI_eq0 (b : Bool) : (bI b = 0) = (b = false) := by cases b <;> simp [bI]
theorem bI_t : bI true = nI 1 := rfl
theorem bI_f : bI false = nI 0 := rfl
theorem wid_0 : wid [] = 0 := rfl
theorem wid_i (x : Int32) (l : List Value) : wid (.int x :: l) = 1 + wid l := by simp [wid, Value.category]
theorem wid_l (x : Int64) (l : List Value) : wid (.long x :: l) = 2 + wid l := by simp [wid, Value.category]
theorem wid_r (x : Nat) (l : List Value) : wid (.ref x :: l) = 1 + wid l := by simp [wid, Value.category]
theorem wid_n (l : List Value) : wid (.null :: l) = 1 + wid l := by simp [wid, Value.category]
theorem clr_i (x : Int32) : clr (some (.int x)) = some (.int x) := rfl
theorem clr_r (x : Nat) : clr (some (.ref x)) = some (.ref x) := rfl
theorem clr_l (x : Int64) : clr (some (.long x)) = none := rfl
theorem clr_n : clr none = none := rfl
theorem vin_nI {j n : Nat} (h : j < n) (hn : n < 2 ^ 31) : 0 ≤ (nI j).toInt ∧ (nI j).toInt < n := by
  rw [nI_toInt (by omega)]; omega
theorem ral_nI {t n j : Nat} {f : Nat → Int32} (h : j < n) (hn : n < 2 ^ 31) : ral t (some (.inl (t, n, .inl f))) (nI j) = some (f j) := by
  show (if t = t ∧ (0 ≤ (nI j).toInt ∧ (nI j).toInt < n) then some (f (nI j).toNatClampNeg) else none) = _
  rw [if_pos ⟨rfl, vin_nI h hn⟩, nI_clamp (by omega)]
theorem rll_nI {n j : Nat} {f : Nat → Int64} (h : j < n) (hn : n < 2 ^ 31) : rll (some (.inl (3, n, .inr (.inl f)))) (nI j) = some (f j) := by
  show (if 3 = 3 ∧ (0 ≤ (nI j).toInt ∧ (nI j).toInt < n) then some (f (nI j).toNatClampNeg) else none) = _
  rw [if_pos ⟨rfl, vin_nI h hn⟩, nI_clamp (by omega)]
theorem rrl_nI {t n j : Nat} {f : Nat → Option Nat} (ht : 4 ≤ t ∧ t < 8) (h : j < n) (hn : n < 2 ^ 31) : rrl (some (.inl (t, n, .inr (.inr (.inr (.inr f)))))) (nI j) = some (f j) := by
  show (if (4 ≤ t ∧ t < 8) ∧ (0 ≤ (nI j).toInt ∧ (nI j).toInt < n) then some (f (nI j).toNatClampNeg) else none) = _
  rw [if_pos ⟨ht, vin_nI h hn⟩, nI_clamp (by omega)]
theorem wal_nI {t n j : Nat} {f : Nat → Int32} {x : Int32} (h : j < n) (hn : n < 2 ^ 31) : wal t (some (.inl (t, n, .inl f))) (nI j) x = some (.inl (t, n, .inl (upd f j x))) := by
  show (if t = t ∧ (0 ≤ (nI j).toInt ∧ (nI j).toInt < n) then some (Sum.inl (t, n, Sum.inl (upd f (nI j).toNatClampNeg x))) else none) = _
  rw [if_pos ⟨rfl, vin_nI h hn⟩, nI_clamp (by omega)]
theorem wll_nI {n j : Nat} {f : Nat → Int64} {x : Int64} (h : j < n) (hn : n < 2 ^ 31) : wll (some (.inl (3, n, .inr (.inl f)))) (nI j) x = some (.inl (3, n, .inr (.inl (vp_updL f j x)))) := by
  show (if 3 = 3 ∧ (0 ≤ (nI j).toInt ∧ (nI j).toInt < n) then some (Sum.inl (3, n, Sum.inr (Sum.inl (vp_updL f (nI j).toNatClampNeg x)))) else none) = _
  rw [if_pos ⟨rfl, vin_nI h hn⟩, nI_clamp (by omega)]
theorem ral_no {t t' n : Nat} {f : Nat → Int32} {i : Int32} (h : t' ≠ t) : ral t (some (.inl (t', n, .inl f))) i = none := by
  unfold ral; simp only; rw [if_neg (fun q => h q.1)]
theorem wal_no {t t' n : Nat} {f : Nat → Int32} {i x : Int32} (h : t' ≠ t) : wal t (some (.inl (t', n, .inl f))) i x = none := by
  unfold wal; simp only; rw [if_neg (fun q => h q.1)]
def rfls (m : Nat) (w : WD) : List Value := [.int (w 0 0), .int (w 0 1), .ref (m + 1), .ref (m + 2), .ref (m + 3), .ref (m + 4), .ref (m + 5), .ref (m + 6), .ref (m + 7), .ref (m + 8), .int (w 0 10), .ref (m + 9), .int (w 0 12), .ref (m + 10), .ref (m + 11), .ref (m + 12), .ref (m + 13), .ref (m + 14), .ref (m + 15), .ref (m + 16), .ref (m + 17), .ref (m + 18), .ref (m + 19), .ref (m + 20), .ref (m + 21), .ref (m + 22), .ref (m + 23), .int (w 0 27), .ref (m + 24), .ref (m + 25), .ref (m + 26), .ref (m + 27), .ref (m + 28), .ref (m + 29), .ref (m + 30)]
def rlen : Nat → Nat := fun k => match k with
  | 1 => 30
  | 2 => 30
  | 3 => 30
  | 4 => 30
  | 5 => 30
  | 6 => 480
  | 7 => 480
  | 8 => 1440
  | 9 => 30
  | 10 => 60
  | 11 => 60
  | 12 => 60
  | 13 => 60
  | 14 => 60
  | 15 => 60
  | 16 => 60
  | 17 => 245760
  | 18 => 245760
  | 19 => 60
  | 20 => 3
  | 21 => 3
  | 22 => 1440
  | 23 => 256
  | 24 => 6
  | 25 => 1536
  | 26 => 8
  | 27 => 8
  | 28 => 8
  | 29 => 480
  | 30 => 60
  | _ => 0
def rtag (k : Nat) : Nat := if k = 5 ∨ k = 19 then 2 else 0
def rce (m : Nat) (w : WD) (y : Nat → Int64) (k : Nat) : PE := if k = 0 then .inr (10, rfls m w) else if k = 9 then .inl (3, 30, .inr (.inl y)) else .inl (rtag k, rlen k, .inl (w k))
def emR (f : Hf) (m : Nat) (w : WD) (y : Nat → Int64) : Hf := fun a => if m ≤ a ∧ a < m + 31 then some (rce m w y (a - m)) else f a
theorem emR_at (f : Hf) (m : Nat) (w : WD) (y : Nat → Int64) (k : Nat) (h : k < 31) : emR f m w y (m + k) = some (rce m w y k) := by
  unfold emR
  rw [if_pos ⟨by omega, by omega⟩, Nat.add_sub_cancel_left]
theorem emR_0 (f : Hf) (m : Nat) (w : WD) (y : Nat → Int64) : emR f m w y m = some (.inr (10, rfls m w)) := emR_at f m w y 0 (by omega)
theorem rfls_U (m : Nat) (w : WD) (k i : Nat) (x : Int32) (hk : k ≠ 0) : rfls m (wU w k i x) = rfls m w := by
  unfold rfls
  simp only [wU_ap, hk.symm, false_and, if_false]
theorem emR_up {f : Hf} {m : Nat} {w w' : WD} {y y' : Nat → Int64} {k : Nat} {e : PE} (hk : k < 31) (he : e = rce m w' y' k) (ho : ∀ j, j < 31 → j ≠ k → rce m w' y' j = rce m w y j) : hup (emR f m w y) (m + k) e = emR f m w' y' := by
  subst he
  funext a
  unfold hup emR
  by_cases h1 : a = m + k
  · subst h1
    rw [if_pos rfl, if_pos ⟨by omega, by omega⟩, Nat.add_sub_cancel_left]
  · rw [if_neg h1]
    by_cases h2 : m ≤ a ∧ a < m + 31
    · rw [if_pos h2, if_pos h2, ho (a - m) (by omega) (by omega)]
    · rw [if_neg h2, if_neg h2]
theorem emR_wa {f : Hf} {m : Nat} {w : WD} {y : Nat → Int64} {k i : Nat} {x : Int32} (h0 : k ≠ 0) (h9 : k ≠ 9) (hk : k < 31) : hup (emR f m w y) (m + k) (.inl (rtag k, rlen k, .inl (upd (w k) i x))) = emR f m (wU w k i x) y := by
  refine emR_up hk ?_ (fun j hj hjk => ?_)
  · unfold rce
    rw [if_neg h0, if_neg h9]
    have e : upd (w k) i x = wU w k i x k := by
      funext q
      simp [upd, wU]
    rw [e]
  · unfold rce
    rw [rfls_U m w k i x h0]
    have e : wU w k i x j = w j := by
      funext q
      simp [wU, hjk]
    rw [e]
theorem emR_sc {f : Hf} {m : Nat} {w : WD} {y : Nat → Int64} {i : Nat} {x : Int32} {e : List Value} (he : e = rfls m (wU w 0 i x)) : hup (emR f m w y) m (.inr (10, e)) = emR f m (wU w 0 i x) y := by
  subst he
  have := emR_up (f := f) (m := m) (w := w) (w' := wU w 0 i x) (y := y) (y' := y) (k := 0) (e := .inr (10, rfls m (wU w 0 i x))) (by omega) rfl (fun j hj hjk => ?_)
  · exact this
  · unfold rce
    rw [if_neg hjk, if_neg hjk]
    have e : wU w 0 i x j = w j := by
      funext q
      simp [wU, hjk]
    rw [e]
theorem emR_wy {f : Hf} {m : Nat} {w : WD} {y y' : Nat → Int64} : hup (emR f m w y) (m + 9) (.inl (3, 30, .inr (.inl y'))) = emR f m w y' := by
  refine emR_up (by omega) rfl (fun j hj hjk => ?_)
  unfold rce
  rw [if_neg hjk, if_neg hjk]
section REF
variable {f : Hf} {m j i : Nat} {w : WD} {y : Nat → Int64} {x : Int32}
theorem cobR : cob (emR f m w y m) = some 10 := by rw [emR_0]; rfl
theorem fsR_7 : fsl 12 7 10 = some 0 := by decide +kernel
theorem gR_7 : gfl 12 7 (emR f m w y m) = some (.int (w 0 0)) := by rw [emR_0]; simp only [gfl, fsR_7]; rfl
theorem pR_7 : pfl false 12 7 (emR f m w y m) (.int x) = some (.inr (10, rfls m (wU w 0 0 x))) := by
  rw [emR_0]
  unfold pfl
  dsimp only
  rw [fsR_7]
  exact if_pos ⟨Nat.le_of_ble_eq_true rfl, okv_i _, Or.inl rfl⟩
theorem hR_0_7 : hup (emR f m w y) m (.inr (10, rfls m (wU w 0 0 x))) = emR f m (wU w 0 0 x) y := emR_sc rfl
theorem fsR_13 : fsl 12 13 10 = some 1 := by decide +kernel
theorem gR_13 : gfl 12 13 (emR f m w y m) = some (.int (w 0 1)) := by rw [emR_0]; simp only [gfl, fsR_13]; rfl
theorem pR_13 : pfl false 12 13 (emR f m w y m) (.int x) = some (.inr (10, rfls m (wU w 0 1 x))) := by
  rw [emR_0]
  unfold pfl
  dsimp only
  rw [fsR_13]
  exact if_pos ⟨Nat.le_of_ble_eq_true rfl, okv_i _, Or.inl rfl⟩
theorem hR_1_13 : hup (emR f m w y) m (.inr (10, rfls m (wU w 0 1 x))) = emR f m (wU w 0 1 x) y := emR_sc rfl
theorem fsR_16 : fsl 12 16 10 = some 2 := by decide +kernel
theorem gR_16 : gfl 12 16 (emR f m w y m) = some (.ref (m + 1)) := by rw [emR_0]; simp only [gfl, fsR_16]; rfl
theorem fsR_20 : fsl 12 20 10 = some 3 := by decide +kernel
theorem gR_20 : gfl 12 20 (emR f m w y m) = some (.ref (m + 2)) := by rw [emR_0]; simp only [gfl, fsR_20]; rfl
theorem fsR_23 : fsl 12 23 10 = some 4 := by decide +kernel
theorem gR_23 : gfl 12 23 (emR f m w y m) = some (.ref (m + 3)) := by rw [emR_0]; simp only [gfl, fsR_23]; rfl
theorem fsR_26 : fsl 12 26 10 = some 5 := by decide +kernel
theorem gR_26 : gfl 12 26 (emR f m w y m) = some (.ref (m + 4)) := by rw [emR_0]; simp only [gfl, fsR_26]; rfl
theorem fsR_29 : fsl 12 29 10 = some 6 := by decide +kernel
theorem gR_29 : gfl 12 29 (emR f m w y m) = some (.ref (m + 5)) := by rw [emR_0]; simp only [gfl, fsR_29]; rfl
theorem fsR_33 : fsl 12 33 10 = some 7 := by decide +kernel
theorem gR_33 : gfl 12 33 (emR f m w y m) = some (.ref (m + 6)) := by rw [emR_0]; simp only [gfl, fsR_33]; rfl
theorem fsR_36 : fsl 12 36 10 = some 8 := by decide +kernel
theorem gR_36 : gfl 12 36 (emR f m w y m) = some (.ref (m + 7)) := by rw [emR_0]; simp only [gfl, fsR_36]; rfl
theorem fsR_39 : fsl 12 39 10 = some 9 := by decide +kernel
theorem gR_39 : gfl 12 39 (emR f m w y m) = some (.ref (m + 8)) := by rw [emR_0]; simp only [gfl, fsR_39]; rfl
theorem fsR_42 : fsl 12 42 10 = some 10 := by decide +kernel
theorem gR_42 : gfl 12 42 (emR f m w y m) = some (.int (w 0 10)) := by rw [emR_0]; simp only [gfl, fsR_42]; rfl
theorem pR_42 (hx : x = 0 ∨ x = 1) : pfl false 12 42 (emR f m w y m) (.int x) = some (.inr (10, rfls m (wU w 0 10 x))) := by
  rw [emR_0]
  unfold pfl
  dsimp only
  rw [fsR_42]
  exact if_pos ⟨Nat.le_of_ble_eq_true rfl, by rcases hx with rfl | rfl <;> decide, Or.inl rfl⟩
theorem hR_10_42 : hup (emR f m w y) m (.inr (10, rfls m (wU w 0 10 x))) = emR f m (wU w 0 10 x) y := emR_sc rfl
theorem fsR_46 : fsl 12 46 10 = some 11 := by decide +kernel
theorem gR_46 : gfl 12 46 (emR f m w y m) = some (.ref (m + 9)) := by rw [emR_0]; simp only [gfl, fsR_46]; rfl
theorem fsR_50 : fsl 12 50 10 = some 12 := by decide +kernel
theorem gR_50 : gfl 12 50 (emR f m w y m) = some (.int (w 0 12)) := by rw [emR_0]; simp only [gfl, fsR_50]; rfl
theorem pR_50 : pfl false 12 50 (emR f m w y m) (.int x) = some (.inr (10, rfls m (wU w 0 12 x))) := by
  rw [emR_0]
  unfold pfl
  dsimp only
  rw [fsR_50]
  exact if_pos ⟨Nat.le_of_ble_eq_true rfl, okv_i _, Or.inl rfl⟩
theorem hR_12_50 : hup (emR f m w y) m (.inr (10, rfls m (wU w 0 12 x))) = emR f m (wU w 0 12 x) y := emR_sc rfl
theorem fsR_53 : fsl 12 53 10 = some 13 := by decide +kernel
theorem gR_53 : gfl 12 53 (emR f m w y m) = some (.ref (m + 10)) := by rw [emR_0]; simp only [gfl, fsR_53]; rfl
theorem fsR_56 : fsl 12 56 10 = some 14 := by decide +kernel
theorem gR_56 : gfl 12 56 (emR f m w y m) = some (.ref (m + 11)) := by rw [emR_0]; simp only [gfl, fsR_56]; rfl
theorem fsR_59 : fsl 12 59 10 = some 15 := by decide +kernel
theorem gR_59 : gfl 12 59 (emR f m w y m) = some (.ref (m + 12)) := by rw [emR_0]; simp only [gfl, fsR_59]; rfl
theorem fsR_62 : fsl 12 62 10 = some 16 := by decide +kernel
theorem gR_62 : gfl 12 62 (emR f m w y m) = some (.ref (m + 13)) := by rw [emR_0]; simp only [gfl, fsR_62]; rfl
theorem fsR_65 : fsl 12 65 10 = some 17 := by decide +kernel
theorem gR_65 : gfl 12 65 (emR f m w y m) = some (.ref (m + 14)) := by rw [emR_0]; simp only [gfl, fsR_65]; rfl
theorem fsR_68 : fsl 12 68 10 = some 18 := by decide +kernel
theorem gR_68 : gfl 12 68 (emR f m w y m) = some (.ref (m + 15)) := by rw [emR_0]; simp only [gfl, fsR_68]; rfl
theorem fsR_71 : fsl 12 71 10 = some 19 := by decide +kernel
theorem gR_71 : gfl 12 71 (emR f m w y m) = some (.ref (m + 16)) := by rw [emR_0]; simp only [gfl, fsR_71]; rfl
theorem fsR_75 : fsl 12 75 10 = some 20 := by decide +kernel
theorem gR_75 : gfl 12 75 (emR f m w y m) = some (.ref (m + 17)) := by rw [emR_0]; simp only [gfl, fsR_75]; rfl
theorem fsR_78 : fsl 12 78 10 = some 21 := by decide +kernel
theorem gR_78 : gfl 12 78 (emR f m w y m) = some (.ref (m + 18)) := by rw [emR_0]; simp only [gfl, fsR_78]; rfl
theorem fsR_81 : fsl 12 81 10 = some 22 := by decide +kernel
theorem gR_81 : gfl 12 81 (emR f m w y m) = some (.ref (m + 19)) := by rw [emR_0]; simp only [gfl, fsR_81]; rfl
theorem fsR_84 : fsl 12 84 10 = some 23 := by decide +kernel
theorem gR_84 : gfl 12 84 (emR f m w y m) = some (.ref (m + 20)) := by rw [emR_0]; simp only [gfl, fsR_84]; rfl
theorem fsR_87 : fsl 12 87 10 = some 24 := by decide +kernel
theorem gR_87 : gfl 12 87 (emR f m w y m) = some (.ref (m + 21)) := by rw [emR_0]; simp only [gfl, fsR_87]; rfl
theorem fsR_90 : fsl 12 90 10 = some 25 := by decide +kernel
theorem gR_90 : gfl 12 90 (emR f m w y m) = some (.ref (m + 22)) := by rw [emR_0]; simp only [gfl, fsR_90]; rfl
theorem fsR_93 : fsl 12 93 10 = some 26 := by decide +kernel
theorem gR_93 : gfl 12 93 (emR f m w y m) = some (.ref (m + 23)) := by rw [emR_0]; simp only [gfl, fsR_93]; rfl
theorem fsR_96 : fsl 12 96 10 = some 27 := by decide +kernel
theorem gR_96 : gfl 12 96 (emR f m w y m) = some (.int (w 0 27)) := by rw [emR_0]; simp only [gfl, fsR_96]; rfl
theorem pR_96 : pfl false 12 96 (emR f m w y m) (.int x) = some (.inr (10, rfls m (wU w 0 27 x))) := by
  rw [emR_0]
  unfold pfl
  dsimp only
  rw [fsR_96]
  exact if_pos ⟨Nat.le_of_ble_eq_true rfl, okv_i _, Or.inl rfl⟩
theorem hR_27_96 : hup (emR f m w y) m (.inr (10, rfls m (wU w 0 27 x))) = emR f m (wU w 0 27 x) y := emR_sc rfl
theorem fsR_99 : fsl 12 99 10 = some 28 := by decide +kernel
theorem gR_99 : gfl 12 99 (emR f m w y m) = some (.ref (m + 24)) := by rw [emR_0]; simp only [gfl, fsR_99]; rfl
theorem fsR_102 : fsl 12 102 10 = some 29 := by decide +kernel
theorem gR_102 : gfl 12 102 (emR f m w y m) = some (.ref (m + 25)) := by rw [emR_0]; simp only [gfl, fsR_102]; rfl
theorem fsR_105 : fsl 12 105 10 = some 30 := by decide +kernel
theorem gR_105 : gfl 12 105 (emR f m w y m) = some (.ref (m + 26)) := by rw [emR_0]; simp only [gfl, fsR_105]; rfl
theorem fsR_108 : fsl 12 108 10 = some 31 := by decide +kernel
theorem gR_108 : gfl 12 108 (emR f m w y m) = some (.ref (m + 27)) := by rw [emR_0]; simp only [gfl, fsR_108]; rfl
theorem fsR_111 : fsl 12 111 10 = some 32 := by decide +kernel
theorem gR_111 : gfl 12 111 (emR f m w y m) = some (.ref (m + 28)) := by rw [emR_0]; simp only [gfl, fsR_111]; rfl
theorem fsR_114 : fsl 12 114 10 = some 33 := by decide +kernel
theorem gR_114 : gfl 12 114 (emR f m w y m) = some (.ref (m + 29)) := by rw [emR_0]; simp only [gfl, fsR_114]; rfl
theorem fsR_117 : fsl 12 117 10 = some 34 := by decide +kernel
theorem gR_117 : gfl 12 117 (emR f m w y m) = some (.ref (m + 30)) := by rw [emR_0]; simp only [gfl, fsR_117]; rfl
theorem ra_1 (h : j < 30) : ral 0 (emR f m w y (m + 1)) (nI j) = some (w 1 j) := by
  rw [emR_at f m w y 1 (by omega)]; exact ral_nI (f := w 1) (n := 30) h (by omega)
theorem wa_1 (h : j < 30) : wal 0 (emR f m w y (m + 1)) (nI j) x = some (.inl (rtag 1, rlen 1, .inl (upd (w 1) j x))) := by
  rw [emR_at f m w y 1 (by omega)]; exact wal_nI (f := w 1) (n := 30) h (by omega)
theorem ha_1 : hup (emR f m w y) (m + 1) (.inl (rtag 1, rlen 1, .inl (upd (w 1) i x))) = emR f m (wU w 1 i x) y := emR_wa (by decide) (by decide) (by decide)
theorem ra_2 (h : j < 30) : ral 0 (emR f m w y (m + 2)) (nI j) = some (w 2 j) := by
  rw [emR_at f m w y 2 (by omega)]; exact ral_nI (f := w 2) (n := 30) h (by omega)
theorem wa_2 (h : j < 30) : wal 0 (emR f m w y (m + 2)) (nI j) x = some (.inl (rtag 2, rlen 2, .inl (upd (w 2) j x))) := by
  rw [emR_at f m w y 2 (by omega)]; exact wal_nI (f := w 2) (n := 30) h (by omega)
theorem ha_2 : hup (emR f m w y) (m + 2) (.inl (rtag 2, rlen 2, .inl (upd (w 2) i x))) = emR f m (wU w 2 i x) y := emR_wa (by decide) (by decide) (by decide)
theorem ra_3 (h : j < 30) : ral 0 (emR f m w y (m + 3)) (nI j) = some (w 3 j) := by
  rw [emR_at f m w y 3 (by omega)]; exact ral_nI (f := w 3) (n := 30) h (by omega)
theorem wa_3 (h : j < 30) : wal 0 (emR f m w y (m + 3)) (nI j) x = some (.inl (rtag 3, rlen 3, .inl (upd (w 3) j x))) := by
  rw [emR_at f m w y 3 (by omega)]; exact wal_nI (f := w 3) (n := 30) h (by omega)
theorem ha_3 : hup (emR f m w y) (m + 3) (.inl (rtag 3, rlen 3, .inl (upd (w 3) i x))) = emR f m (wU w 3 i x) y := emR_wa (by decide) (by decide) (by decide)
theorem ra_4 (h : j < 30) : ral 0 (emR f m w y (m + 4)) (nI j) = some (w 4 j) := by
  rw [emR_at f m w y 4 (by omega)]; exact ral_nI (f := w 4) (n := 30) h (by omega)
theorem wa_4 (h : j < 30) : wal 0 (emR f m w y (m + 4)) (nI j) x = some (.inl (rtag 4, rlen 4, .inl (upd (w 4) j x))) := by
  rw [emR_at f m w y 4 (by omega)]; exact wal_nI (f := w 4) (n := 30) h (by omega)
theorem ha_4 : hup (emR f m w y) (m + 4) (.inl (rtag 4, rlen 4, .inl (upd (w 4) i x))) = emR f m (wU w 4 i x) y := emR_wa (by decide) (by decide) (by decide)
theorem ra_5 (h : j < 30) : rbl (emR f m w y (m + 5)) (nI j) = some (w 5 j) := by
  rw [emR_at f m w y 5 (by omega)]
  show rbl (some (.inl (2, 30, .inl (w 5)))) (nI j) = _
  unfold rbl
  rw [ral_no (by decide)]
  exact ral_nI h (by omega)
theorem wa_5 (h : j < 30) : wbl (emR f m w y (m + 5)) (nI j) x = some (.inl (rtag 5, rlen 5, .inl (upd (w 5) j (vp_nar .boolean x)))) := by
  rw [emR_at f m w y 5 (by omega)]
  show wbl (some (.inl (2, 30, .inl (w 5)))) (nI j) x = _
  unfold wbl
  rw [wal_no (by decide)]
  exact wal_nI h (by omega)
theorem ha_5 : hup (emR f m w y) (m + 5) (.inl (rtag 5, rlen 5, .inl (upd (w 5) i x))) = emR f m (wU w 5 i x) y := emR_wa (by decide) (by decide) (by decide)
theorem ra_6 (h : j < 480) : ral 0 (emR f m w y (m + 6)) (nI j) = some (w 6 j) := by
  rw [emR_at f m w y 6 (by omega)]; exact ral_nI (f := w 6) (n := 480) h (by omega)
theorem wa_6 (h : j < 480) : wal 0 (emR f m w y (m + 6)) (nI j) x = some (.inl (rtag 6, rlen 6, .inl (upd (w 6) j x))) := by
  rw [emR_at f m w y 6 (by omega)]; exact wal_nI (f := w 6) (n := 480) h (by omega)
theorem ha_6 : hup (emR f m w y) (m + 6) (.inl (rtag 6, rlen 6, .inl (upd (w 6) i x))) = emR f m (wU w 6 i x) y := emR_wa (by decide) (by decide) (by decide)
theorem ra_7 (h : j < 480) : ral 0 (emR f m w y (m + 7)) (nI j) = some (w 7 j) := by
  rw [emR_at f m w y 7 (by omega)]; exact ral_nI (f := w 7) (n := 480) h (by omega)
theorem wa_7 (h : j < 480) : wal 0 (emR f m w y (m + 7)) (nI j) x = some (.inl (rtag 7, rlen 7, .inl (upd (w 7) j x))) := by
  rw [emR_at f m w y 7 (by omega)]; exact wal_nI (f := w 7) (n := 480) h (by omega)
theorem ha_7 : hup (emR f m w y) (m + 7) (.inl (rtag 7, rlen 7, .inl (upd (w 7) i x))) = emR f m (wU w 7 i x) y := emR_wa (by decide) (by decide) (by decide)
theorem ra_8 (h : j < 1440) : ral 0 (emR f m w y (m + 8)) (nI j) = some (w 8 j) := by
  rw [emR_at f m w y 8 (by omega)]; exact ral_nI (f := w 8) (n := 1440) h (by omega)
theorem wa_8 (h : j < 1440) : wal 0 (emR f m w y (m + 8)) (nI j) x = some (.inl (rtag 8, rlen 8, .inl (upd (w 8) j x))) := by
  rw [emR_at f m w y 8 (by omega)]; exact wal_nI (f := w 8) (n := 1440) h (by omega)
theorem ha_8 : hup (emR f m w y) (m + 8) (.inl (rtag 8, rlen 8, .inl (upd (w 8) i x))) = emR f m (wU w 8 i x) y := emR_wa (by decide) (by decide) (by decide)
theorem ra_9 (h : j < 30) : rll (emR f m w y (m + 9)) (nI j) = some (y j) := by
  rw [emR_at f m w y 9 (by omega)]; exact rll_nI h (by omega)
theorem wa_9 {z : Int64} (h : j < 30) : wll (emR f m w y (m + 9)) (nI j) z = some (.inl (3, 30, .inr (.inl (vp_updL y j z)))) := by
  rw [emR_at f m w y 9 (by omega)]; exact wll_nI h (by omega)
theorem ra_10 (h : j < 60) : ral 0 (emR f m w y (m + 10)) (nI j) = some (w 10 j) := by
  rw [emR_at f m w y 10 (by omega)]; exact ral_nI (f := w 10) (n := 60) h (by omega)
theorem wa_10 (h : j < 60) : wal 0 (emR f m w y (m + 10)) (nI j) x = some (.inl (rtag 10, rlen 10, .inl (upd (w 10) j x))) := by
  rw [emR_at f m w y 10 (by omega)]; exact wal_nI (f := w 10) (n := 60) h (by omega)
theorem ha_10 : hup (emR f m w y) (m + 10) (.inl (rtag 10, rlen 10, .inl (upd (w 10) i x))) = emR f m (wU w 10 i x) y := emR_wa (by decide) (by decide) (by decide)
theorem ra_11 (h : j < 60) : ral 0 (emR f m w y (m + 11)) (nI j) = some (w 11 j) := by
  rw [emR_at f m w y 11 (by omega)]; exact ral_nI (f := w 11) (n := 60) h (by omega)
theorem wa_11 (h : j < 60) : wal 0 (emR f m w y (m + 11)) (nI j) x = some (.inl (rtag 11, rlen 11, .inl (upd (w 11) j x))) := by
  rw [emR_at f m w y 11 (by omega)]; exact wal_nI (f := w 11) (n := 60) h (by omega)
theorem ha_11 : hup (emR f m w y) (m + 11) (.inl (rtag 11, rlen 11, .inl (upd (w 11) i x))) = emR f m (wU w 11 i x) y := emR_wa (by decide) (by decide) (by decide)
theorem ra_12 (h : j < 60) : ral 0 (emR f m w y (m + 12)) (nI j) = some (w 12 j) := by
  rw [emR_at f m w y 12 (by omega)]; exact ral_nI (f := w 12) (n := 60) h (by omega)
theorem wa_12 (h : j < 60) : wal 0 (emR f m w y (m + 12)) (nI j) x = some (.inl (rtag 12, rlen 12, .inl (upd (w 12) j x))) := by
  rw [emR_at f m w y 12 (by omega)]; exact wal_nI (f := w 12) (n := 60) h (by omega)
theorem ha_12 : hup (emR f m w y) (m + 12) (.inl (rtag 12, rlen 12, .inl (upd (w 12) i x))) = emR f m (wU w 12 i x) y := emR_wa (by decide) (by decide) (by decide)
theorem ra_13 (h : j < 60) : ral 0 (emR f m w y (m + 13)) (nI j) = some (w 13 j) := by
  rw [emR_at f m w y 13 (by omega)]; exact ral_nI (f := w 13) (n := 60) h (by omega)
theorem wa_13 (h : j < 60) : wal 0 (emR f m w y (m + 13)) (nI j) x = some (.inl (rtag 13, rlen 13, .inl (upd (w 13) j x))) := by
  rw [emR_at f m w y 13 (by omega)]; exact wal_nI (f := w 13) (n := 60) h (by omega)
theorem ha_13 : hup (emR f m w y) (m + 13) (.inl (rtag 13, rlen 13, .inl (upd (w 13) i x))) = emR f m (wU w 13 i x) y := emR_wa (by decide) (by decide) (by decide)
theorem ra_14 (h : j < 60) : ral 0 (emR f m w y (m + 14)) (nI j) = some (w 14 j) := by
  rw [emR_at f m w y 14 (by omega)]; exact ral_nI (f := w 14) (n := 60) h (by omega)
theorem wa_14 (h : j < 60) : wal 0 (emR f m w y (m + 14)) (nI j) x = some (.inl (rtag 14, rlen 14, .inl (upd (w 14) j x))) := by
  rw [emR_at f m w y 14 (by omega)]; exact wal_nI (f := w 14) (n := 60) h (by omega)
theorem ha_14 : hup (emR f m w y) (m + 14) (.inl (rtag 14, rlen 14, .inl (upd (w 14) i x))) = emR f m (wU w 14 i x) y := emR_wa (by decide) (by decide) (by decide)
theorem ra_15 (h : j < 60) : ral 0 (emR f m w y (m + 15)) (nI j) = some (w 15 j) := by
  rw [emR_at f m w y 15 (by omega)]; exact ral_nI (f := w 15) (n := 60) h (by omega)
theorem wa_15 (h : j < 60) : wal 0 (emR f m w y (m + 15)) (nI j) x = some (.inl (rtag 15, rlen 15, .inl (upd (w 15) j x))) := by
  rw [emR_at f m w y 15 (by omega)]; exact wal_nI (f := w 15) (n := 60) h (by omega)
theorem ha_15 : hup (emR f m w y) (m + 15) (.inl (rtag 15, rlen 15, .inl (upd (w 15) i x))) = emR f m (wU w 15 i x) y := emR_wa (by decide) (by decide) (by decide)
theorem ra_16 (h : j < 60) : ral 0 (emR f m w y (m + 16)) (nI j) = some (w 16 j) := by
  rw [emR_at f m w y 16 (by omega)]; exact ral_nI (f := w 16) (n := 60) h (by omega)
theorem wa_16 (h : j < 60) : wal 0 (emR f m w y (m + 16)) (nI j) x = some (.inl (rtag 16, rlen 16, .inl (upd (w 16) j x))) := by
  rw [emR_at f m w y 16 (by omega)]; exact wal_nI (f := w 16) (n := 60) h (by omega)
theorem ha_16 : hup (emR f m w y) (m + 16) (.inl (rtag 16, rlen 16, .inl (upd (w 16) i x))) = emR f m (wU w 16 i x) y := emR_wa (by decide) (by decide) (by decide)
theorem ra_17 (h : j < 245760) : ral 0 (emR f m w y (m + 17)) (nI j) = some (w 17 j) := by
  rw [emR_at f m w y 17 (by omega)]; exact ral_nI (f := w 17) (n := 245760) h (by omega)
theorem wa_17 (h : j < 245760) : wal 0 (emR f m w y (m + 17)) (nI j) x = some (.inl (rtag 17, rlen 17, .inl (upd (w 17) j x))) := by
  rw [emR_at f m w y 17 (by omega)]; exact wal_nI (f := w 17) (n := 245760) h (by omega)
theorem ha_17 : hup (emR f m w y) (m + 17) (.inl (rtag 17, rlen 17, .inl (upd (w 17) i x))) = emR f m (wU w 17 i x) y := emR_wa (by decide) (by decide) (by decide)
theorem ra_18 (h : j < 245760) : ral 0 (emR f m w y (m + 18)) (nI j) = some (w 18 j) := by
  rw [emR_at f m w y 18 (by omega)]; exact ral_nI (f := w 18) (n := 245760) h (by omega)
theorem wa_18 (h : j < 245760) : wal 0 (emR f m w y (m + 18)) (nI j) x = some (.inl (rtag 18, rlen 18, .inl (upd (w 18) j x))) := by
  rw [emR_at f m w y 18 (by omega)]; exact wal_nI (f := w 18) (n := 245760) h (by omega)
theorem ha_18 : hup (emR f m w y) (m + 18) (.inl (rtag 18, rlen 18, .inl (upd (w 18) i x))) = emR f m (wU w 18 i x) y := emR_wa (by decide) (by decide) (by decide)
theorem ra_19 (h : j < 60) : rbl (emR f m w y (m + 19)) (nI j) = some (w 19 j) := by
  rw [emR_at f m w y 19 (by omega)]
  show rbl (some (.inl (2, 60, .inl (w 19)))) (nI j) = _
  unfold rbl
  rw [ral_no (by decide)]
  exact ral_nI h (by omega)
theorem wa_19 (h : j < 60) : wbl (emR f m w y (m + 19)) (nI j) x = some (.inl (rtag 19, rlen 19, .inl (upd (w 19) j (vp_nar .boolean x)))) := by
  rw [emR_at f m w y 19 (by omega)]
  show wbl (some (.inl (2, 60, .inl (w 19)))) (nI j) x = _
  unfold wbl
  rw [wal_no (by decide)]
  exact wal_nI h (by omega)
theorem ha_19 : hup (emR f m w y) (m + 19) (.inl (rtag 19, rlen 19, .inl (upd (w 19) i x))) = emR f m (wU w 19 i x) y := emR_wa (by decide) (by decide) (by decide)
theorem ra_20 (h : j < 3) : ral 0 (emR f m w y (m + 20)) (nI j) = some (w 20 j) := by
  rw [emR_at f m w y 20 (by omega)]; exact ral_nI (f := w 20) (n := 3) h (by omega)
theorem wa_20 (h : j < 3) : wal 0 (emR f m w y (m + 20)) (nI j) x = some (.inl (rtag 20, rlen 20, .inl (upd (w 20) j x))) := by
  rw [emR_at f m w y 20 (by omega)]; exact wal_nI (f := w 20) (n := 3) h (by omega)
theorem ha_20 : hup (emR f m w y) (m + 20) (.inl (rtag 20, rlen 20, .inl (upd (w 20) i x))) = emR f m (wU w 20 i x) y := emR_wa (by decide) (by decide) (by decide)
theorem ra_21 (h : j < 3) : ral 0 (emR f m w y (m + 21)) (nI j) = some (w 21 j) := by
  rw [emR_at f m w y 21 (by omega)]; exact ral_nI (f := w 21) (n := 3) h (by omega)
theorem wa_21 (h : j < 3) : wal 0 (emR f m w y (m + 21)) (nI j) x = some (.inl (rtag 21, rlen 21, .inl (upd (w 21) j x))) := by
  rw [emR_at f m w y 21 (by omega)]; exact wal_nI (f := w 21) (n := 3) h (by omega)
theorem ha_21 : hup (emR f m w y) (m + 21) (.inl (rtag 21, rlen 21, .inl (upd (w 21) i x))) = emR f m (wU w 21 i x) y := emR_wa (by decide) (by decide) (by decide)
theorem ra_22 (h : j < 1440) : ral 0 (emR f m w y (m + 22)) (nI j) = some (w 22 j) := by
  rw [emR_at f m w y 22 (by omega)]; exact ral_nI (f := w 22) (n := 1440) h (by omega)
theorem wa_22 (h : j < 1440) : wal 0 (emR f m w y (m + 22)) (nI j) x = some (.inl (rtag 22, rlen 22, .inl (upd (w 22) j x))) := by
  rw [emR_at f m w y 22 (by omega)]; exact wal_nI (f := w 22) (n := 1440) h (by omega)
theorem ha_22 : hup (emR f m w y) (m + 22) (.inl (rtag 22, rlen 22, .inl (upd (w 22) i x))) = emR f m (wU w 22 i x) y := emR_wa (by decide) (by decide) (by decide)
theorem ra_23 (h : j < 256) : ral 0 (emR f m w y (m + 23)) (nI j) = some (w 23 j) := by
  rw [emR_at f m w y 23 (by omega)]; exact ral_nI (f := w 23) (n := 256) h (by omega)
theorem wa_23 (h : j < 256) : wal 0 (emR f m w y (m + 23)) (nI j) x = some (.inl (rtag 23, rlen 23, .inl (upd (w 23) j x))) := by
  rw [emR_at f m w y 23 (by omega)]; exact wal_nI (f := w 23) (n := 256) h (by omega)
theorem ha_23 : hup (emR f m w y) (m + 23) (.inl (rtag 23, rlen 23, .inl (upd (w 23) i x))) = emR f m (wU w 23 i x) y := emR_wa (by decide) (by decide) (by decide)
theorem ra_24 (h : j < 6) : ral 0 (emR f m w y (m + 24)) (nI j) = some (w 24 j) := by
  rw [emR_at f m w y 24 (by omega)]; exact ral_nI (f := w 24) (n := 6) h (by omega)
theorem wa_24 (h : j < 6) : wal 0 (emR f m w y (m + 24)) (nI j) x = some (.inl (rtag 24, rlen 24, .inl (upd (w 24) j x))) := by
  rw [emR_at f m w y 24 (by omega)]; exact wal_nI (f := w 24) (n := 6) h (by omega)
theorem ha_24 : hup (emR f m w y) (m + 24) (.inl (rtag 24, rlen 24, .inl (upd (w 24) i x))) = emR f m (wU w 24 i x) y := emR_wa (by decide) (by decide) (by decide)
theorem ra_25 (h : j < 1536) : ral 0 (emR f m w y (m + 25)) (nI j) = some (w 25 j) := by
  rw [emR_at f m w y 25 (by omega)]; exact ral_nI (f := w 25) (n := 1536) h (by omega)
theorem wa_25 (h : j < 1536) : wal 0 (emR f m w y (m + 25)) (nI j) x = some (.inl (rtag 25, rlen 25, .inl (upd (w 25) j x))) := by
  rw [emR_at f m w y 25 (by omega)]; exact wal_nI (f := w 25) (n := 1536) h (by omega)
theorem ha_25 : hup (emR f m w y) (m + 25) (.inl (rtag 25, rlen 25, .inl (upd (w 25) i x))) = emR f m (wU w 25 i x) y := emR_wa (by decide) (by decide) (by decide)
theorem ra_26 (h : j < 8) : ral 0 (emR f m w y (m + 26)) (nI j) = some (w 26 j) := by
  rw [emR_at f m w y 26 (by omega)]; exact ral_nI (f := w 26) (n := 8) h (by omega)
theorem wa_26 (h : j < 8) : wal 0 (emR f m w y (m + 26)) (nI j) x = some (.inl (rtag 26, rlen 26, .inl (upd (w 26) j x))) := by
  rw [emR_at f m w y 26 (by omega)]; exact wal_nI (f := w 26) (n := 8) h (by omega)
theorem ha_26 : hup (emR f m w y) (m + 26) (.inl (rtag 26, rlen 26, .inl (upd (w 26) i x))) = emR f m (wU w 26 i x) y := emR_wa (by decide) (by decide) (by decide)
theorem ra_27 (h : j < 8) : ral 0 (emR f m w y (m + 27)) (nI j) = some (w 27 j) := by
  rw [emR_at f m w y 27 (by omega)]; exact ral_nI (f := w 27) (n := 8) h (by omega)
theorem wa_27 (h : j < 8) : wal 0 (emR f m w y (m + 27)) (nI j) x = some (.inl (rtag 27, rlen 27, .inl (upd (w 27) j x))) := by
  rw [emR_at f m w y 27 (by omega)]; exact wal_nI (f := w 27) (n := 8) h (by omega)
theorem ha_27 : hup (emR f m w y) (m + 27) (.inl (rtag 27, rlen 27, .inl (upd (w 27) i x))) = emR f m (wU w 27 i x) y := emR_wa (by decide) (by decide) (by decide)
theorem ra_28 (h : j < 8) : ral 0 (emR f m w y (m + 28)) (nI j) = some (w 28 j) := by
  rw [emR_at f m w y 28 (by omega)]; exact ral_nI (f := w 28) (n := 8) h (by omega)
theorem wa_28 (h : j < 8) : wal 0 (emR f m w y (m + 28)) (nI j) x = some (.inl (rtag 28, rlen 28, .inl (upd (w 28) j x))) := by
  rw [emR_at f m w y 28 (by omega)]; exact wal_nI (f := w 28) (n := 8) h (by omega)
theorem ha_28 : hup (emR f m w y) (m + 28) (.inl (rtag 28, rlen 28, .inl (upd (w 28) i x))) = emR f m (wU w 28 i x) y := emR_wa (by decide) (by decide) (by decide)
theorem ra_29 (h : j < 480) : ral 0 (emR f m w y (m + 29)) (nI j) = some (w 29 j) := by
  rw [emR_at f m w y 29 (by omega)]; exact ral_nI (f := w 29) (n := 480) h (by omega)
theorem wa_29 (h : j < 480) : wal 0 (emR f m w y (m + 29)) (nI j) x = some (.inl (rtag 29, rlen 29, .inl (upd (w 29) j x))) := by
  rw [emR_at f m w y 29 (by omega)]; exact wal_nI (f := w 29) (n := 480) h (by omega)
theorem ha_29 : hup (emR f m w y) (m + 29) (.inl (rtag 29, rlen 29, .inl (upd (w 29) i x))) = emR f m (wU w 29 i x) y := emR_wa (by decide) (by decide) (by decide)
theorem ra_30 (h : j < 60) : ral 0 (emR f m w y (m + 30)) (nI j) = some (w 30 j) := by
  rw [emR_at f m w y 30 (by omega)]; exact ral_nI (f := w 30) (n := 60) h (by omega)
theorem wa_30 (h : j < 60) : wal 0 (emR f m w y (m + 30)) (nI j) x = some (.inl (rtag 30, rlen 30, .inl (upd (w 30) j x))) := by
  rw [emR_at f m w y 30 (by omega)]; exact wal_nI (f := w 30) (n := 60) h (by omega)
theorem ha_30 : hup (emR f m w y) (m + 30) (.inl (rtag 30, rlen 30, .inl (upd (w 30) i x))) = emR f m (wU w 30 i x) y := emR_wa (by decide) (by decide) (by decide)
end REF
