/-! class and reference: what changed, links counted, names that went over, roads -/
section FA
variable {c w : WD} {fs sn : Nat → Option Nat} {n : Nat}
theorem slk_eq (C : CS c w fs sn n) {i j p q : Nat} (hi : i < 30) (hj : j < 30) (hp : p < 16) (hq : q < 16) : slk c i p j q = (decide (w 6 (16 * i + p) = w 6 (16 * j + q)) && decide (w 7 (16 * i + p) = w 7 (16 * j + q))) := by
  unfold slk
  rw [CS.so C hi hp, CS.so C hj hq, CS.sh C hi hp, CS.sh C hj hq]
theorem asB_eq (C : CS c w fs sn n) {i j p : Nat} (hi : i < 30) (hj : j < 30) (hp : p < 16) : asB w i j p = (slk c i p j p && sln c i p j) := by
  rw [slk_eq C hi hj hp hp]
  unfold asB sln
  have l0 := CS.le C hi (k := 0) (by omega) hp
  have l1 := CS.le C hi (k := 1) (by omega) hp
  have l2 := CS.le C hi (k := 2) (by omega) hp
  have m0 := CS.le C hj (k := 0) (by omega) hp
  have m1 := CS.le C hj (k := 1) (by omega) hp
  have m2 := CS.le C hj (k := 2) (by omega) hp
  rw [show 0 * 16 + p = p by omega] at l0 m0
  rw [show 1 * 16 + p = p + 16 by omega] at l1 m1
  rw [show 2 * 16 + p = p + 32 by omega] at l2 m2
  rw [l0, l1, l2, m0, m1, m2]
  simp only [itr, Bool.and_assoc]
theorem kChF_eq (C : CS c w fs sn n) {i j : Nat} (hi : i < 30) (hj : j < 30) : kChF c i j 16 = chA w i j := by
  unfold kChF chA
  rw [CS.p C hi, CS.p C hj]
  refine itr_cg (fun p hp z => ?_)
  rw [asB_eq C hi hj hp, tb_and]
  cases tb (w 4 i) p <;> cases tb (w 4 j) p <;> cases (slk c i p j p && sln c i p j) <;> simp
theorem kChI_eq (C : CS c w fs sn n) {s : Nat} {r : Bool} (hs : s < n) (hr : w 5 s = bI r) : kChI c s (fs s) = chg w s r (fs s) := by
  have hn := C.2.1
  unfold kChI chg
  rw [CS.r C (by omega), hr]
  simp only [bI_eq0]
  cases r
  · simp
  · rw [if_neg (by simp), if_neg (by simp)]
    have h1 := C.2.2.2 s hs
    cases e : fs s with
    | none => exact CS.p C (by omega)
    | some j =>
      have := h1.2.2.2.1 j e
      exact kChF_eq C (by omega) (by omega)
theorem kCL_eq (C : CS c w fs sn n) {s : Nat} (hs : s < 30) : kCL c s 48 = lokS w s := by
  unfold kCL lokS
  refine itr_cg (fun k hk z => ?_)
  have h := CS.le C hs (k := k / 16) (by omega) (p := k % 16) (by omega)
  rw [show k / 16 * 16 + k % 16 = k by omega] at h
  rw [h]
  unfold lk
  rw [show (3 * s + k / 16) * 16 + k % 16 = 48 * s + k by omega]
/-- the least of the parts that fit -/
def lft (P : Nat → Bool) : Nat → Option Nat
  | 0 => none
  | k + 1 => match lft P k with
    | some i => some i
    | none => if P k = true then some k else none
theorem kHe_up {i j q : Nat} {tk : Int32} : ∀ k o, (∀ r, kHe c i j q tk k o = some r ↔ (o ≤ r ∧ r < o + k ∧ heB c i j q tk r = true ∧ ∀ z, o ≤ z → z < r → heB c i j q tk z = false)) := by
  intro k
  induction k with
  | zero => intro o r; unfold kHe; constructor
            · intro h; cases h
            · intro h; omega
  | succ k ih =>
    intro o r
    unfold kHe
    by_cases h : heB c i j q tk o = true
    · rw [if_pos h]
      constructor
      · intro e; injection e with e; subst e; exact ⟨by omega, by omega, h, fun z a b => by omega⟩
      · intro ⟨a, b, d, e⟩
        by_cases q2 : r = o
        · rw [q2]
        · have := e o (by omega) (by omega)
          rw [h] at this; cases this
    · have h' : heB c i j q tk o = false := by simpa using h
      rw [if_neg h, ih (o + 1) r]
      constructor
      · intro ⟨a, b, d, e⟩
        refine ⟨by omega, by omega, d, fun z z1 z2 => ?_⟩
        by_cases q2 : z = o
        · rw [q2]; exact h'
        · exact e z (by omega) z2
      · intro ⟨a, b, d, e⟩
        have : r ≠ o := fun q2 => by rw [q2, h'] at d; cases d
        exact ⟨by omega, by omega, d, fun z z1 z2 => e z (by omega) z2⟩
theorem toQ_up {s a q : Nat} {u : Int32} : ∀ j, j ≤ 16 → (∀ r, r < 16 → (toQ w s a u q j = nI r ↔ (16 - j ≤ r ∧ fit w s a u q r = true ∧ ∀ z, 16 - j ≤ z → z < r → fit w s a u q z = false))) ∧ (toQ w s a u q j = -2 ↔ ∀ z, 16 - j ≤ z → z < 16 → fit w s a u q z = false) ∧ (toQ w s a u q j = -2 ∨ ∃ r, r < 16 ∧ toQ w s a u q j = nI r) := by
  have hm : ∀ r, r < 16 → ¬ ((-2 : Int32) = nI r) := by decide
  intro j
  induction j with
  | zero =>
    intro _
    refine ⟨fun r hr => ⟨fun h => absurd h (hm r hr), fun h => by omega⟩, ⟨fun _ z h1 h2 => by omega, fun _ => rfl⟩, Or.inl rfl⟩
  | succ j ih =>
    intro hj
    obtain ⟨i1, i2, i3⟩ := ih (by omega)
    have e : toQ w s a u q (j + 1) = if fit w s a u q (15 - j) = true then nI (15 - j) else toQ w s a u q j := rfl
    rw [e]
    by_cases h : fit w s a u q (15 - j) = true
    · rw [if_pos h]
      refine ⟨fun r hr => ⟨fun h2 => ?_, fun ⟨h1, h2, h3⟩ => ?_⟩, ⟨fun h2 => absurd h2.symm (hm _ (by omega)), fun h2 => ?_⟩, Or.inr ⟨15 - j, by omega, rfl⟩⟩
      · have := nI_ij (by omega) (by omega) h2
        subst this
        exact ⟨by omega, h, fun z z1 z2 => by omega⟩
      · by_cases q2 : r = 15 - j
        · rw [q2]
        · have := h3 (15 - j) (by omega) (by omega)
          rw [h] at this; cases this
      · have := h2 (15 - j) (by omega) (by omega)
        rw [h] at this; cases this
    · have h' : fit w s a u q (15 - j) = false := by simpa using h
      rw [if_neg h]
      refine ⟨fun r hr => ?_, ?_, i3⟩
      · rw [i1 r hr]
        constructor
        · intro ⟨h1, h2, h3⟩
          refine ⟨by omega, h2, fun z z1 z2 => ?_⟩
          by_cases q2 : z = 15 - j
          · rw [q2]; exact h'
          · exact h3 z (by omega) z2
        · intro ⟨h1, h2, h3⟩
          have : r ≠ 15 - j := fun q2 => by rw [q2, h'] at h2; cases h2
          exact ⟨by omega, h2, fun z z1 z2 => h3 z (by omega) z2⟩
      · rw [i2]
        constructor
        · intro h2 z z1 z2
          by_cases q2 : z = 15 - j
          · rw [q2]; exact h'
          · exact h2 z (by omega) z2
        · intro h2 z z1 z2
          exact h2 z (by omega) z2
theorem fit_eq (C : CS c w fs sn n) {s a q o : Nat} {u : Int32} (hs : s < 30) (ha : a < 30) (hq : q < 16) (ho : o < 16) : fit w s a u q o = heB c s a q u o := by
  unfold fit heB
  rw [slk_eq C hs ha ho hq, CS.p C hs, CS.p C ha, tb_and, tb_and, tb_not _ (by omega), tb_not _ (by omega)]
  cases tb (w 4 s) o <;> cases tb (w 4 a) o <;> cases tb u o <;> simp
theorem toQ_kHe (C : CS c w fs sn n) {s a q : Nat} {u : Int32} (hs : s < 30) (ha : a < 30) (hq : q < 16) : toQ w s a u q 16 = negB (kHe c s a q u 16 0) := by
  obtain ⟨i1, i2, i3⟩ := toQ_up (w := w) (s := s) (a := a) (q := q) (u := u) 16 (Nat.le_refl 16)
  cases e : kHe c s a q u 16 0 with
  | none =>
    show _ = (-2 : Int32)
    rcases i3 with h | ⟨r, hr, h⟩
    · exact h
    · obtain ⟨h1, h2, h3⟩ := (i1 r hr).mp h
      have := (kHe_up (c := c) (i := s) (j := a) (q := q) (tk := u) 16 0 r).mpr ⟨by omega, by omega, by rw [← fit_eq C hs ha hq hr]; exact h2, fun z z1 z2 => by rw [← fit_eq C hs ha hq (by omega)]; exact h3 z (by omega) z2⟩
      rw [e] at this; cases this
  | some r =>
    show _ = nI r
    obtain ⟨h1, h2, h3, h4⟩ := (kHe_up (c := c) (i := s) (j := a) (q := q) (tk := u) 16 0 r).mp e
    exact (i1 r (by omega)).mpr ⟨by omega, by rw [fit_eq C hs ha hq (by omega)]; exact h3, fun z z1 z2 => by rw [fit_eq C hs ha hq (by omega)]; exact h4 z (by omega) z2⟩
theorem orO_negB {z : Int32} {o : Option Nat} (ho : ∀ r, o = some r → r < 16) : (z ||| (if negB o < 0 then nI 0 else nI 1 <<< (negB o &&& 31))) = orO z o := by
  cases o with
  | none =>
    have : (negB none < 0) = True := by unfold negB; decide
    simp only [this, if_true, or_0]
    rfl
  | some r =>
    have := ho r rfl
    have h1 : ¬ (negB (some r) < 0) := nI_pos (by omega)
    rw [if_neg h1]
    rfl
theorem tb_went {s a l : Nat} (hl : l < 32) : tb (w 4 a &&& (w 4 s ^^^ (-1))) l = (tb (w 4 a) l && !tb (w 4 s) l) := by rw [tb_and, tb_not _ hl]
theorem usQ_s {s a q : Nat} : usQ w s a (q + 1) = if tb (w 4 a &&& (w 4 s ^^^ (-1))) q = true then usQ w s a q ||| (if toQ w s a (usQ w s a q) q 16 < 0 then nI 0 else nI 1 <<< (toQ w s a (usQ w s a q) q 16 &&& 31)) else usQ w s a q := rfl
theorem kWe_wen (C : CS c w fs sn n) {s a p : Nat} (hs : s < 30) (ha : a < 30) (hp : p < 16) : negB (kWe c s a p (p + 1) 0 (nI 0)) = wen w s p (some a) := by
  have key : ∀ k l, l + k = p + 1 → negB (kWe c s a p k l (usQ w s a l)) = if k = 0 then -2 else wen w s p (some a) := by
    intro k
    induction k with
    | zero => intro l hl; rfl
    | succ k ih =>
      intro l hl
      have hl16 : l < 16 := by omega
      unfold kWe
      rw [CS.p C hs, CS.p C ha]
      by_cases hg : (tb (w 4 a) l && !tb (w 4 s) l) = true
      · rw [if_pos hg]
        have ht := toQ_kHe C (u := usQ w s a l) hs ha hl16
        by_cases hlp : l = p
        · subst hlp
          rw [if_pos rfl, if_neg (by omega)]
          show _ = (if tb (w 4 a &&& (w 4 s ^^^ (-1))) l = true then toQ w s a (usQ w s a l) l 16 else -2)
          rw [tb_went (by omega), if_pos hg, ht]
        · rw [if_neg hlp, ← orO_negB (fun r hr => by have := kHe_lt 16 0 r hr; omega), ← ht]
          have hu : usQ w s a (l + 1) = usQ w s a l ||| (if toQ w s a (usQ w s a l) l 16 < 0 then nI 0 else nI 1 <<< (toQ w s a (usQ w s a l) l 16 &&& 31)) := by rw [usQ_s, tb_went (by omega), if_pos hg]
          rw [← hu, ih (l + 1) (by omega), if_neg (by omega), if_neg (by omega)]
      · rw [if_neg hg]
        have hu : usQ w s a (l + 1) = usQ w s a l := by rw [usQ_s, tb_went (by omega), if_neg hg]
        rw [← hu, ih (l + 1) (by omega)]
        by_cases hk : k = 0
        · subst hk
          rw [if_pos rfl, if_neg (by omega)]
          have : l = p := by omega
          subst this
          show _ = (if tb (w 4 a &&& (w 4 s ^^^ (-1))) l = true then toQ w s a (usQ w s a l) l 16 else -2)
          rw [tb_went (by omega), if_neg hg]
        · rw [if_neg hk, if_neg (by omega)]
  have := key (p + 1) 0 (by omega)
  rw [if_neg (by omega)] at this
  exact this
theorem weO_wen (C : CS c w fs sn n) {s p : Nat} (hs : s < n) (hp : p < 16) : negB (weO c s p (fs s)) = wen w s p (fs s) := by
  have hn := C.2.1
  have h1 := C.2.2.2 s hs
  cases e : fs s with
  | none => rfl
  | some a =>
    have := h1.2.2.2.1 a e
    exact kWe_wen C (by omega) (by omega) hp
/-- how many ways there are -/
theorem roads_eq {fs sn : Nat → Option Nat} {n a b : Nat} {y y2 : Nat → Int64} (hb : b < n) (hf : ∀ s, s < n → ∀ i, fs s = some i → i < s) (hg : ∀ s, s < n → ∀ i, sn s = some i → i < s) : kRo fs sn a y (b + 1) b = itr (wyS fs sn a) y2 n b := by
  have up_at : ∀ (y : Nat → Int64) k z, vp_updL y k z k = z := fun y k z => by unfold vp_updL; rw [if_pos rfl]
  have up_of : ∀ (y : Nat → Int64) k z j, j ≠ k → vp_updL y k z j = y j := fun y k z j h => by unfold vp_updL; rw [if_neg h]
  have wo_of : ∀ o y k j, j ≠ k → wyO a k o y j = y j := by
    intro o y k j h
    cases o with
    | none => rfl
    | some i =>
      show (if a < k then vp_updL y k (y k + y i) else y) j = y j
      split
      · exact up_of _ _ _ _ h
      · rfl
  have ws_of : ∀ y k j, j ≠ k → wyS fs sn a k y j = y j := fun y k j h => by
    unfold wyS
    rw [wo_of _ _ _ _ h, wo_of _ _ _ _ h, up_of _ _ _ _ h]
  have k1 : ∀ m j, j < m → kRo fs sn a y m j = kRo fs sn a y (j + 1) j := by
    intro m
    induction m with
    | zero => intro j h; omega
    | succ m ih =>
      intro j h
      by_cases q : j = m
      · rw [q]
      · show vp_updL (kRo fs sn a y m) m _ j = _
        rw [up_of _ _ _ _ q, ih j (by omega)]
  have k2 : ∀ m j, j < m → itr (wyS fs sn a) y2 m j = itr (wyS fs sn a) y2 (j + 1) j := by
    intro m
    induction m with
    | zero => intro j h; omega
    | succ m ih =>
      intro j h
      by_cases q : j = m
      · rw [q]
      · rw [itr_s, ws_of _ _ _ q, ih j (by omega)]
  have main : ∀ s, s < n → kRo fs sn a y (s + 1) s = itr (wyS fs sn a) y2 (s + 1) s ∧ (s < a → kRo fs sn a y (s + 1) s = 0) := by
    intro s
    induction s using Nat.strongRecOn with
    | _ s ih =>
      intro hs
      have e1 : kRo fs sn a y (s + 1) s = if s = a then 1 else wyA (kRo fs sn a y s) (fs s) + wyA (kRo fs sn a y s) (sn s) := up_at _ _ _
      have e2 : itr (wyS fs sn a) y2 (s + 1) s = wyS fs sn a s (itr (wyS fs sn a) y2 s) s := rfl
      have a1 : ∀ i, i < s → kRo fs sn a y s i = itr (wyS fs sn a) y2 s i := fun i hi => by rw [k1 s i hi, k2 s i hi]; exact (ih i hi (by omega)).1
      have a2 : ∀ i, i < s → s ≤ a → kRo fs sn a y s i = 0 := fun i hi h => by rw [k1 s i hi]; exact (ih i hi (by omega)).2 (by omega)
      have f1 := hf s hs
      have f2 := hg s hs
      rw [e1, e2]
      generalize itr (wyS fs sn a) y2 s = z2 at *
      generalize kRo fs sn a y s = z1 at *
      unfold wyS
      have w1 : ∀ o (Y : Nat → Int64), (∀ i, o = some i → i < s) → wyO a s o Y s = if a < s then Y s + wyA Y o else Y s := by
        intro o Y h
        cases o with
        | none => show Y s = _; split <;> simp [wyA]
        | some i =>
          show (if a < s then vp_updL Y s (Y s + Y i) else Y) s = _
          split
          · rw [up_at]; rfl
          · rfl
      have w2 : ∀ o (Y Y' : Nat → Int64), (∀ i, o = some i → i < s) → (∀ i, i < s → Y i = Y' i) → wyA Y o = wyA Y' o := by
        intro o Y Y' h h2
        cases o with
        | none => rfl
        | some i => exact h2 i (h i rfl)
      rw [w1 (sn s) _ f2, w1 (fs s) _ f1, up_at]
      have v1 : wyA (wyO a s (fs s) (vp_updL z2 s (if s = a then 1 else 0))) (sn s) = wyA z1 (sn s) := w2 _ _ _ f2 (fun i hi => by rw [wo_of _ _ _ _ (by omega), up_of _ _ _ _ (by omega), a1 i hi])
      have v2 : wyA (vp_updL z2 s (if s = a then 1 else 0)) (fs s) = wyA z1 (fs s) := w2 _ _ _ f1 (fun i hi => by rw [up_of _ _ _ _ (by omega), a1 i hi])
      rw [v1, v2]
      by_cases q : a < s
      · rw [if_pos q, if_pos q, if_neg (by omega), if_neg (by omega)]
        refine ⟨by rw [Int64.zero_add], fun h => by omega⟩
      · rw [if_neg q, if_neg q]
        by_cases q2 : s = a
        · rw [if_pos q2, if_pos q2]; exact ⟨rfl, fun h => by omega⟩
        · rw [if_neg q2, if_neg q2]
          have z0 : ∀ o, (∀ i, o = some i → i < s) → wyA z1 o = 0 := by
            intro o h
            cases o with
            | none => rfl
            | some i => exact a2 i (h i rfl) (by omega)
          rw [z0 _ f1, z0 _ f2]
          exact ⟨rfl, fun _ => rfl⟩
  rw [(main b hb).1, ← k2 n b hb]
end FA
