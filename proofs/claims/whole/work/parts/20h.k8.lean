/-! two spans in one long -/
def tl (l : Int64) (k : Nat) : Bool := l.toBitVec.getLsbD k
theorem sh32 : ((nI 32).toInt64 &&& 63).toBitVec.smod 64 = 32#64 := by decide
theorem tl_lo (l : Int64) {k : Nat} (hk : k < 32) : tb l.toInt32 k = tl l k := by
  unfold tb tl
  rw [Int64.toBitVec_toInt32, BitVec.getLsbD_signExtend]
  simp [hk, show k < 64 by omega]
theorem tl_hi (l : Int64) {k : Nat} (hk : k < 32) : tb (l >>> ((nI 32).toInt64 &&& 63)).toInt32 k = tl l (k + 32) := by
  rw [tl_lo _ hk]
  unfold tl
  rw [Int64.toBitVec_shiftRight, sh32]
  show (l.toBitVec.sshiftRight 32).getLsbD k = _
  rw [BitVec.getLsbD_sshiftRight, if_pos (by omega)]
  simp [show ¬ 64 ≤ k by omega, Nat.add_comm]
theorem tl_or (a b : Int64) (k : Nat) : tl (a ||| b) k = (tl a k || tl b k) := by simp [tl]
theorem tl_and (a b : Int64) (k : Nat) : tl (a &&& b) k = (tl a k && tl b k) := by simp [tl]
theorem tl_xor (a b : Int64) (k : Nat) : tl (a ^^^ b) k = (tl a k ^^ tl b k) := by simp [tl]
theorem tl_i2l (s : Int32) {k : Nat} (hk : k < 64) : tl s.toInt64 k = if k < 32 then tb s k else tb s 31 := by
  unfold tl tb
  rw [Int32.toBitVec_toInt64, BitVec.getLsbD_signExtend]
  simp only [hk, decide_true, Bool.true_and]
  split
  · rfl
  · exact BitVec.msb_eq_getLsbD_last _
theorem tl_shl (l : Int64) {k : Nat} (hk : k < 64) : tl (l <<< ((nI 32).toInt64 &&& 63)) k = (!decide (k < 32) && tl l (k - 32)) := by
  unfold tl
  rw [Int64.toBitVec_shiftLeft, sh32, BitVec.shiftLeft_eq', BitVec.getLsbD_shiftLeft]
  have h1 : (32#64).toNat = 32 := rfl
  rw [h1]
  simp [hk]
theorem bsp_lo (s m : Int32) : spo (bsp s m) false = s := by
  apply i32_ext
  intro k hk
  show tb (bsp s m).toInt32 k = _
  rw [tl_lo _ hk]
  unfold bsp
  rw [tl_or, tl_shl _ (by omega), tl_i2l s (by omega), if_pos hk]
  simp [hk]
theorem bsp_hi (s m : Int32) (h : tb s 31 = false) : spo (bsp s m) true = m := by
  apply i32_ext
  intro k hk
  show tb ((bsp s m) >>> ((nI 32).toInt64 &&& 63)).toInt32 k = _
  rw [tl_hi _ hk]
  unfold bsp
  rw [tl_or, tl_shl _ (by omega), tl_i2l s (by omega), if_neg (by omega), h, tl_i2l m (by omega), if_pos (by omega), Nat.add_sub_cancel]
  simp [show ¬ k + 32 < 32 by omega]
theorem i64_ext {a b : Int64} (h : ∀ k, k < 64 → tl a k = tl b k) : a = b := by
  apply Int64.toBitVec_inj.mp
  apply BitVec.eq_of_getLsbD_eq
  intro k hk
  exact h k hk
theorem tl_bsp (s m : Int32) (h : tb s 31 = false) {k : Nat} (hk : k < 64) : tl (bsp s m) k = if k < 32 then tb s k else tb m (k - 32) := by
  unfold bsp
  rw [tl_or, tl_shl _ hk, tl_i2l s hk, h]
  by_cases q : k < 32
  · simp [q]
  · rw [tl_i2l m (by omega), if_pos (by omega)]
    simp [q]
theorem bsp_and {s m s' m' : Int32} (h : tb s 31 = false) (h' : tb s' 31 = false) : bsp s m &&& bsp s' m' = bsp (s &&& s') (m &&& m') := by
  apply i64_ext
  intro k hk
  rw [tl_and, tl_bsp s m h hk, tl_bsp s' m' h' hk, tl_bsp _ _ (by rw [tb_and, h]; rfl) hk]
  split <;> rw [tb_and]
theorem bsp_or {s m s' m' : Int32} (h : tb s 31 = false) (h' : tb s' 31 = false) : bsp s m ||| bsp s' m' = bsp (s ||| s') (m ||| m') := by
  apply i64_ext
  intro k hk
  rw [tl_or, tl_bsp s m h hk, tl_bsp s' m' h' hk, tl_bsp _ _ (by rw [tb_or, h, h']; rfl) hk]
  split <;> rw [tb_or]
theorem bsp_xor {s m s' m' : Int32} (h : tb s 31 = false) (h' : tb s' 31 = false) : bsp s m ^^^ bsp s' m' = bsp (s ^^^ s') (m ^^^ m') := by
  apply i64_ext
  intro k hk
  rw [tl_xor, tl_bsp s m h hk, tl_bsp s' m' h' hk, tl_bsp _ _ (by rw [tb_xor, h, h']; rfl) hk]
  split <;> rw [tb_xor]
