/-! bits, numbers, loops: plain facts -/
theorem nle_F {a b : Nat} (h : b < a) (ha : a < 2 ^ 31) : (nI a ≤ nI b) = False := by
  rw [nI_leI ha (by omega)]; exact eq_false (by omega)
theorem nle_T {a b : Nat} (h : a ≤ b) (hb : b < 2 ^ 31) : (nI a ≤ nI b) = True := by
  rw [nI_leI (by omega) hb]; exact eq_true h
theorem nlt_F {a b : Nat} (h : b ≤ a) (ha : a < 2 ^ 31) : (nI a < nI b) = False := by
  rw [nI_ltI ha (by omega)]; exact eq_false (by omega)
theorem nlt_T {a b : Nat} (h : a < b) (hb : b < 2 ^ 31) : (nI a < nI b) = True := by
  rw [nI_ltI (by omega) hb]; exact eq_true h
theorem neq_F {a b : Nat} (h : a ≠ b) (ha : a < 2 ^ 31) (hb : b < 2 ^ 31) : (nI a = nI b) = False := by
  rw [nI_eq ha hb]; exact eq_false h
theorem nz_F {a : Nat} (h : 0 < a) (ha : a < 2 ^ 31) : (nI a = 0) = False := eq_false (nI_ne0 h ha)
theorem nz_T : (nI 0 = 0) = True := eq_true rfl
theorem nneg_F {a : Nat} (ha : a < 2 ^ 31) : (nI a < 0) = False := eq_false (nI_pos ha)
theorem npos_T {a : Nat} (ha : a < 2 ^ 31) : ((0 : Int32) ≤ nI a) = True := eq_true (nI_pos' ha)
theorem npos_lF : ((0 : Int32) < nI 0) = False := by decide
theorem npos_lT {a : Nat} (h : 0 < a) (ha : a < 2 ^ 31) : ((0 : Int32) < nI a) = True := by
  rw [show (0 : Int32) = nI 0 from rfl, nlt_T h ha]
theorem nle0_F {a : Nat} (h : 0 < a) (ha : a < 2 ^ 31) : (nI a ≤ 0) = False := eq_false (nI_nle h ha)
theorem m1_neg : ((-1 : Int32) < 0) = True := by decide
theorem m1_pos : ((0 : Int32) ≤ -1) = False := by decide
theorem m1_z : ((-1 : Int32) = 0) = False := by decide
theorem neq_m1 {a : Nat} (ha : a < 2 ^ 31) : (nI a = -1) = False := by
  refine eq_false fun q => ?_
  have h := nI_pos' ha
  rw [q] at h
  exact absurd h (by decide)
theorem m1_neq {a : Nat} (ha : a < 2 ^ 31) : ((-1 : Int32) = nI a) = False := by
  refine eq_false fun q => ?_
  have h := nI_pos' ha
  rw [← q] at h
  exact absurd h (by decide)
theorem nsub {a b : Nat} (h : b ≤ a) : nI a - nI b = nI (a - b) := pk_sub h
theorem nm1 {a : Nat} (h : 0 < a) : nI a + (-1) = nI (a - 1) := by
  obtain ⟨b, rfl⟩ : ∃ b, a = b + 1 := ⟨a - 1, by omega⟩
  exact pk_m1 b
/-- s is one of 0 .. n - 1 -/
def vI (s : Int32) (n : Nat) : Bool := decide (0 ≤ s.toInt ∧ s.toInt < (n : Int))
theorem vI_nI {k n : Nat} (hk : k < 2 ^ 31) : vI (nI k) n = decide (k < n) := by
  unfold vI
  rw [nI_toInt hk]
  by_cases h : k < n
  · rw [decide_eq_true h, decide_eq_true ⟨by omega, by omega⟩]
  · rw [decide_eq_false h, decide_eq_false (by omega)]
theorem vI_T {s : Int32} {n : Nat} (h : vI s n = true) (hn : n ≤ 2 ^ 31) : ∃ k, k < n ∧ s = nI k := by
  unfold vI at h
  have h := of_decide_eq_true h
  obtain ⟨j, hj, rfl⟩ := nI_of (x := s) (fun q => by
    have := Int32.lt_iff_toInt_lt.mp q
    have h2 : (0 : Int32).toInt = 0 := rfl
    omega)
  rw [nI_toInt hj] at h
  exact ⟨j, by omega, rfl⟩
theorem in_vI {v : Int32} {h : Nat} (hh : h < 2 ^ 31 - 1) : (decide (nI 0 ≤ v) && decide (v ≤ nI h)) = vI v (h + 1) := by
  unfold vI
  have e0 : (nI 0 ≤ v) ↔ (0 ≤ v.toInt) := by rw [Int32.le_iff_toInt_le, nI_toInt (by omega)]; rfl
  have e1 : (v ≤ nI h) ↔ (v.toInt ≤ (h : Int)) := by rw [Int32.le_iff_toInt_le, nI_toInt (by omega)]
  by_cases a : 0 ≤ v.toInt <;> by_cases b : v.toInt ≤ (h : Int)
  · rw [decide_eq_true (e0.mpr a), decide_eq_true (e1.mpr b), decide_eq_true ⟨a, by omega⟩]; rfl
  · rw [decide_eq_true (e0.mpr a), decide_eq_false (fun q => b (e1.mp q)), decide_eq_false (by omega)]; rfl
  · rw [decide_eq_false (fun q => a (e0.mp q)), Bool.false_and]; exact (decide_eq_false (by omega)).symm
  · rw [decide_eq_false (fun q => a (e0.mp q)), Bool.false_and]; exact (decide_eq_false (by omega)).symm
theorem in_vIs {v : Int32} {n : Nat} (hn : n < 2 ^ 31) : (decide (nI 0 ≤ v) && decide (v ≤ nI n - nI 1)) = vI v n := by
  cases n with
  | zero =>
    have h1 : vI v 0 = false := by unfold vI; exact decide_eq_false (by omega)
    rw [h1, show nI 0 - nI 1 = (-1 : Int32) from rfl]
    by_cases a : nI 0 ≤ v
    · have : ¬ v ≤ -1 := by
        intro q
        have h2 := Int32.le_iff_toInt_le.mp a
        have h3 := Int32.le_iff_toInt_le.mp q
        have h4 : (nI 0).toInt = 0 := rfl
        have h5 : (-1 : Int32).toInt = -1 := rfl
        omega
      simp [this]
    · simp [a]
  | succ n => rw [nsub (by omega), Nat.add_sub_cancel, in_vI (by omega)]
theorem lt_vI {v : Int32} {n : Nat} (hn : n < 2 ^ 31) : (decide (0 ≤ v) && decide (v < nI n)) = vI v n := by
  unfold vI
  have e0 : ((0 : Int32) ≤ v) ↔ (0 ≤ v.toInt) := by rw [Int32.le_iff_toInt_le]; rfl
  have e1 : (v < nI n) ↔ (v.toInt < (n : Int)) := by rw [Int32.lt_iff_toInt_lt, nI_toInt (by omega)]
  by_cases a : 0 ≤ v.toInt <;> by_cases b : v.toInt < (n : Int)
  · rw [decide_eq_true (e0.mpr a), decide_eq_true (e1.mpr b), decide_eq_true ⟨a, b⟩]; rfl
  · rw [decide_eq_true (e0.mpr a), decide_eq_false (fun q => b (e1.mp q)), decide_eq_false (by omega)]; rfl
  · rw [decide_eq_false (fun q => a (e0.mp q)), Bool.false_and]; exact (decide_eq_false (by omega)).symm
  · rw [decide_eq_false (fun q => a (e0.mp q)), Bool.false_and]; exact (decide_eq_false (by omega)).symm
-- bits of an int
def tb (s : Int32) (k : Nat) : Bool := s.toBitVec.getLsbD k
def sb (k : Nat) : Int32 := nI 1 <<< (nI k &&& 31)
theorem i32_ext {a b : Int32} (h : ∀ k, k < 32 → tb a k = tb b k) : a = b := by
  apply Int32.toBitVec_inj.mp
  apply BitVec.eq_of_getLsbD_eq
  intro i hi
  exact h i hi
theorem tb_big {s : Int32} {k : Nat} (h : 32 ≤ k) : tb s k = false := BitVec.getLsbD_of_ge _ _ h
theorem tb_or (a b : Int32) (k : Nat) : tb (a ||| b) k = (tb a k || tb b k) := by simp [tb]
theorem tb_and (a b : Int32) (k : Nat) : tb (a &&& b) k = (tb a k && tb b k) := by simp [tb]
theorem tb_xor (a b : Int32) (k : Nat) : tb (a ^^^ b) k = (tb a k ^^ tb b k) := by simp [tb]
theorem tb_m1 : ∀ k, k < 32 → tb (-1) k = true := by decide
theorem tb_not (a : Int32) {k : Nat} (hk : k < 32) : tb (a ^^^ (-1)) k = !tb a k := by rw [tb_xor, tb_m1 k hk]; simp
theorem tb_0 (k : Nat) : tb (nI 0) k = false := by
  show (nI 0).toBitVec.getLsbD k = false
  rw [show (nI 0).toBitVec = 0#32 from rfl]; simp
theorem tb_00 (k : Nat) : tb 0 k = false := tb_0 k
theorem sh_and : ∀ k, k < 32 → (nI k &&& 31).toBitVec.smod 32 = BitVec.ofNat 32 k := by decide
theorem sh_toNat : ∀ k, k < 32 → ((nI k &&& 31).toBitVec.smod 32).toNat = k := by decide
theorem sb_bv : ∀ k, k < 32 → (sb k).toBitVec = BitVec.twoPow 32 k := by decide
theorem tb_sb {k : Nat} (hk : k < 32) (j : Nat) : tb (sb k) j = decide (j = k) := by
  unfold tb
  rw [sb_bv k hk, BitVec.getLsbD_twoPow]
  by_cases h : j = k
  · subst h; simp [hk]
  · have : ¬ k = j := fun q => h q.symm
    simp [h, this]
theorem tb_shr (s : Int32) {k : Nat} (hk : k < 32) : tb (s >>> (nI k &&& 31)) 0 = tb s k := by
  unfold tb
  rw [Int32.toBitVec_shiftRight, sh_and k hk]
  rw [BitVec.sshiftRight_eq']
  rw [BitVec.getLsbD_sshiftRight]
  have : (BitVec.ofNat 32 k).toNat = k := by simp; omega
  rw [this]
  simp [hk]
theorem one_eq {x : Int32} : (x &&& nI 1 = nI 1) ↔ tb x 0 = true := by
  constructor
  · intro h
    have := congrArg (fun z => tb z 0) h
    simp only [tb_and] at this
    have e : tb (nI 1) 0 = true := by decide
    rw [e] at this
    simpa using this
  · intro h
    apply i32_ext
    intro k hk
    rw [tb_and]
    have e : ∀ k, k < 32 → tb (nI 1) k = decide (k = 0) := by decide
    rw [e k hk]
    by_cases q : k = 0
    · subst q; simp [h]
    · simp [q]
theorem one_ne {x : Int32} : (x &&& nI 1 = 0) ↔ tb x 0 = false := by
  constructor
  · intro h
    have := congrArg (fun z => tb z 0) h
    simp only [tb_and, tb_00] at this
    have e : tb (nI 1) 0 = true := by decide
    rw [e] at this
    simpa using this
  · intro h
    apply i32_ext
    intro k hk
    rw [tb_and, tb_00]
    have e : ∀ k, k < 32 → tb (nI 1) k = decide (k = 0) := by decide
    rw [e k hk]
    by_cases q : k = 0
    · subst q; simp [h]
    · simp [q]
theorem bit_eq (s : Int32) {k : Nat} (hk : k < 32) : decide ((s >>> (nI k &&& 31)) &&& nI 1 = nI 1) = tb s k := by
  rw [← tb_shr s hk]
  by_cases h : tb (s >>> (nI k &&& 31)) 0 = true
  · rw [h, decide_eq_true (one_eq.mpr h)]
  · rw [Bool.not_eq_true] at h
    rw [h, decide_eq_false (fun q => by rw [one_eq.mp q] at h; cases h)]
theorem bit_val (s : Int32) {k : Nat} (hk : k < 32) : (s >>> (nI k &&& 31)) &&& nI 1 = bI (tb s k) := by
  rw [← tb_shr s hk]
  cases h : tb (s >>> (nI k &&& 31)) 0 with
  | true => exact one_eq.mpr h
  | false => exact one_ne.mpr h
theorem loopE {α : Sort _} (F : Nat → α) (n : Nat) (h : ∀ k, k < n → F k = F (k + 1)) : F 0 = F n := by
  induction n with
  | zero => rfl
  | succ n ih => exact (ih fun k hk => h k (by omega)).trans (h n (by omega))
theorem loopF {α : Sort _} (F : Nat → α) (a n : Nat) (ha : a ≤ n) (h : ∀ k, a ≤ k → k < n → F k = F (k + 1)) : F a = F n := by
  obtain ⟨m, rfl⟩ : ∃ m, n = a + m := ⟨n - a, by omega⟩
  exact loopE (fun k => F (a + k)) m (fun k hk => h (a + k) (by omega) (by omega))
