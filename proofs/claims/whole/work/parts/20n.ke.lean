/-! the class: bits counted -/
def uN (s : Int32) : Nat := s.toBitVec.toNat
theorem uN_lt (s : Int32) : uN s < 2 ^ 32 := s.toBitVec.isLt
theorem uN_and (a b : Int32) : uN (a &&& b) = uN a &&& uN b := by unfold uN; rw [Int32.toBitVec_and, BitVec.toNat_and]
theorem uN_add (a b : Int32) : uN (a + b) = (uN a + uN b) % 2 ^ 32 := by unfold uN; rw [Int32.toBitVec_add, BitVec.toNat_add]
theorem uN_sub (a b : Int32) (h : uN b ≤ uN a) : uN (a - b) = uN a - uN b := by
  have h1 := uN_lt a
  unfold uN at h h1 ⊢
  rw [Int32.toBitVec_sub, BitVec.toNat_sub]
  omega
theorem uN_nI {k : Nat} (h : k < 2 ^ 32) : uN (nI k) = k := by
  unfold uN
  show k % 2 ^ 32 = k
  omega
def usr (s : Int32) (k : Nat) : Int32 := (s.toUInt32 >>> ((nI k).toUInt32 &&& Int32.toUInt32 31)).toInt32
theorem uN_usr (s : Int32) {k : Nat} (hk : k < 32) : uN (usr s k) = uN s / 2 ^ k := by
  have h1 : ∀ k, k < 32 → (((nI k).toUInt32 &&& Int32.toUInt32 31).toBitVec % 32).toNat = k := by decide
  exact pk_ushr s (nI k) k (h1 k hk)
theorem uN_inj {a b : Int32} (h : uN a = uN b) : a = b := Int32.toBitVec_inj.mp (BitVec.eq_of_toNat_eq h)
theorem tb_uN (s : Int32) (j : Nat) : (if tb s j = true then 1 else 0) = uN s / 2 ^ j % 2 := by
  have h : tb s j = (uN s).testBit j := rfl
  rw [h, Nat.testBit_eq_decide_div_mod_eq]
  by_cases q : uN s / 2 ^ j % 2 = 1
  · simp [q]
  · rw [if_neg (by simpa using q)]; omega
theorem and_spl {k a b e g : Nat} (ha : a < 2 ^ k) (he : e < 2 ^ k) : (a + 2 ^ k * b) &&& (e + 2 ^ k * g) = (a &&& e) + 2 ^ k * (b &&& g) := by
  have h1 : (a &&& e) < 2 ^ k := Nat.lt_of_le_of_lt Nat.and_le_left ha
  apply Nat.eq_of_testBit_eq
  intro i
  rw [Nat.testBit_and, Nat.add_comm a, Nat.add_comm e, Nat.add_comm (a &&& e), Nat.testBit_two_pow_mul_add _ ha, Nat.testBit_two_pow_mul_add _ he, Nat.testBit_two_pow_mul_add _ h1]
  split <;> rw [Nat.testBit_and]
theorem and_by {a b e g : Nat} (ha : a < 256) (he : e < 256) : (a + 256 * b) &&& (e + 256 * g) = (a &&& e) + 256 * (b &&& g) := and_spl (k := 8) ha he
def pc1 (n m : Nat) : Nat := n - (n / 2 &&& m)
def pc2 (n m : Nat) : Nat := (n &&& m) + (n / 4 &&& m)
def pc3 (n m : Nat) : Nat := (n + n / 16) &&& m
theorem and_hi7 : ∀ a, a < 128 → ∀ e, e < 2 → (a + 128 * e) &&& 85 = a &&& 85 := by decide +kernel
theorem and_hi6 : ∀ a, a < 64 → ∀ e, e < 4 → (a + 64 * e) &&& 51 = a &&& 51 := by decide +kernel
theorem and_hi4 : ∀ a, a < 256 → a &&& 15 = a % 16 := by decide +kernel
theorem pc1_s {b r m : Nat} (hb : b < 256) : pc1 (b + 256 * r) (85 + 256 * m) = pc1 b 85 + 256 * pc1 r m := by
  unfold pc1
  have h1 : (b + 256 * r) / 2 = (b / 2 + 128 * (r % 2)) + 256 * (r / 2) := by omega
  rw [h1, and_by (by omega) (by omega), and_hi7 _ (by omega) _ (by omega)]
  have h2 : (r / 2 &&& m) ≤ r / 2 := Nat.and_le_left
  have h3 : (b / 2 &&& 85) ≤ b / 2 := Nat.and_le_left
  omega
theorem pc2_s {b r m : Nat} (hb : b < 256) : pc2 (b + 256 * r) (51 + 256 * m) = pc2 b 51 + 256 * pc2 r m := by
  unfold pc2
  have h1 : (b + 256 * r) / 4 = (b / 4 + 64 * (r % 4)) + 256 * (r / 4) := by omega
  rw [h1, and_by hb (by omega), and_by (by omega) (by omega), and_hi6 _ (by omega) _ (by omega)]
  omega
theorem pc3_s {b r m : Nat} (hb : b + b / 16 < 192) (hr : r % 16 < 5) : pc3 (b + 256 * r) (15 + 256 * m) = pc3 b 15 + 256 * pc3 r m := by
  unfold pc3
  have h1 : (b + 256 * r) + (b + 256 * r) / 16 = (b + b / 16 + 16 * (r % 16)) + 256 * (r + r / 16) := by omega
  rw [h1, and_by (by omega) (by omega), and_hi4 _ (by omega), and_hi4 _ (by omega)]
  omega
def pcb (b : Nat) : Nat := b % 2 + b / 2 % 2 + b / 4 % 2 + b / 8 % 2 + b / 16 % 2 + b / 32 % 2 + b / 64 % 2 + b / 128 % 2
theorem pcb_1 : ∀ b, b < 256 → pc1 b 85 < 256 ∧ pc2 (pc1 b 85) 51 + pc2 (pc1 b 85) 51 / 16 < 192 ∧ pc2 (pc1 b 85) 51 % 16 < 5 ∧ pc3 (pc2 (pc1 b 85) 51) 15 = pcb b ∧ pcb b < 9 := by decide +kernel
theorem pcb_32 {a b e g : Nat} (ha : a < 256) (hb : b < 256) (he : e < 256) (hg : g < 256) :
    pc3 (pc2 (pc1 (a + 256 * (b + 256 * (e + 256 * g))) 1431655765) 858993459) 252645135 = pcb a + 256 * (pcb b + 256 * (pcb e + 256 * pcb g)) := by
  obtain ⟨a1, a2, a3, a4, a5⟩ := pcb_1 a ha
  obtain ⟨b1, b2, b3, b4, b5⟩ := pcb_1 b hb
  obtain ⟨e1, e2, e3, e4, e5⟩ := pcb_1 e he
  obtain ⟨g1, g2, g3, g4, g5⟩ := pcb_1 g hg
  rw [show (1431655765 : Nat) = 85 + 256 * (85 + 256 * (85 + 256 * 85)) from rfl, show (858993459 : Nat) = 51 + 256 * (51 + 256 * (51 + 256 * 51)) from rfl, show (252645135 : Nat) = 15 + 256 * (15 + 256 * (15 + 256 * 15)) from rfl]
  rw [pc1_s ha, pc1_s hb, pc1_s he, pc2_s a1, pc2_s b1, pc2_s e1, pc3_s a2 (by omega), pc3_s b2 (by omega), pc3_s e2 (by omega), a4, b4, e4, g4]
theorem pcb_m (k : Nat) : pcb (k % 256) = k % 2 + k / 2 % 2 + k / 4 % 2 + k / 8 % 2 + k / 16 % 2 + k / 32 % 2 + k / 64 % 2 + k / 128 % 2 := by
  have h0 : k % 256 % 2 = k % 2 := by omega
  have h1 : k % 256 / 2 % 2 = k / 2 % 2 := by omega
  have h2 : k % 256 / 4 % 2 = k / 4 % 2 := by omega
  have h3 : k % 256 / 8 % 2 = k / 8 % 2 := by omega
  have h4 : k % 256 / 16 % 2 = k / 16 % 2 := by omega
  have h5 : k % 256 / 32 % 2 = k / 32 % 2 := by omega
  have h6 : k % 256 / 64 % 2 = k / 64 % 2 := by omega
  have h7 : k % 256 / 128 % 2 = k / 128 % 2 := by omega
  unfold pcb
  rw [h0, h1, h2, h3, h4, h5, h6, h7]
theorem pcb_sum (n : Nat) : pcb (n % 256) + pcb (n / 256 % 256) + pcb (n / 65536 % 256) + pcb (n / 16777216 % 256) = itr (fun j c => c + n / 2 ^ j % 2) 0 32 := by
  rw [pcb_m, pcb_m, pcb_m, pcb_m]
  show _ = ((((((((((((((((((((((((((((((((0 + n / 2 ^ 0 % 2) + n / 2 ^ 1 % 2) + n / 2 ^ 2 % 2) + n / 2 ^ 3 % 2) + n / 2 ^ 4 % 2) + n / 2 ^ 5 % 2) + n / 2 ^ 6 % 2) + n / 2 ^ 7 % 2) + n / 2 ^ 8 % 2) + n / 2 ^ 9 % 2) + n / 2 ^ 10 % 2) + n / 2 ^ 11 % 2) + n / 2 ^ 12 % 2) + n / 2 ^ 13 % 2) + n / 2 ^ 14 % 2) + n / 2 ^ 15 % 2) + n / 2 ^ 16 % 2) + n / 2 ^ 17 % 2) + n / 2 ^ 18 % 2) + n / 2 ^ 19 % 2) + n / 2 ^ 20 % 2) + n / 2 ^ 21 % 2) + n / 2 ^ 22 % 2) + n / 2 ^ 23 % 2) + n / 2 ^ 24 % 2) + n / 2 ^ 25 % 2) + n / 2 ^ 26 % 2) + n / 2 ^ 27 % 2) + n / 2 ^ 28 % 2) + n / 2 ^ 29 % 2) + n / 2 ^ 30 % 2) + n / 2 ^ 31 % 2)
  simp only [Nat.div_div_eq_div_mul, Nat.reduceMul, Nat.reducePow, Nat.zero_add, Nat.div_one, Nat.add_assoc]
theorem cnt_uN (s : Int32) : cnt s 32 = itr (fun j c => c + uN s / 2 ^ j % 2) 0 32 := by
  unfold cnt
  refine itr_cg (fun k _ b => ?_)
  rw [tb_uN]
def bc1 (s : Int32) : Int32 := s - (usr s 1 &&& nI 1431655765)
def bc2 (s : Int32) : Int32 := (s &&& nI 858993459) + (usr s 2 &&& nI 858993459)
def bc3 (s : Int32) : Int32 := (s + usr s 4) &&& nI 252645135
def bc4 (s : Int32) : Int32 := s + usr s 8
def bc5 (s : Int32) : Int32 := s + usr s 16
theorem bc_val (s : Int32) : bc5 (bc4 (bc3 (bc2 (bc1 s)))) &&& nI 63 = nI (cnt s 32) := by
  have hs := uN_lt s
  obtain ⟨a, b, e, g, ha, hb, he, hg, hn⟩ : ∃ a b e g, a < 256 ∧ b < 256 ∧ e < 256 ∧ g < 256 ∧ uN s = a + 256 * (b + 256 * (e + 256 * g)) := ⟨uN s % 256, uN s / 256 % 256, uN s / 65536 % 256, uN s / 16777216, by omega, by omega, by omega, by omega, by omega⟩
  have hc : cnt s 32 = pcb a + pcb b + pcb e + pcb g := by
    rw [cnt_uN, ← pcb_sum, show uN s % 256 = a by omega, show uN s / 256 % 256 = b by omega, show uN s / 65536 % 256 = e by omega, show uN s / 16777216 % 256 = g by omega]
  have k1 : uN (bc1 s) = pc1 (uN s) 1431655765 := by
    have h1 : uN (usr s 1 &&& nI 1431655765) = uN s / 2 &&& 1431655765 := by rw [uN_and, uN_usr s (by omega), uN_nI (by omega)]
    have h2 : (uN s / 2 &&& 1431655765) ≤ uN s / 2 := Nat.and_le_left
    unfold bc1 pc1
    rw [uN_sub _ _ (by rw [h1]; omega), h1]
  have k2 : uN (bc2 (bc1 s)) = pc2 (uN (bc1 s)) 858993459 := by
    have h2 : (uN (bc1 s) &&& 858993459) ≤ 858993459 := Nat.and_le_right
    have h3 : (uN (bc1 s) / 4 &&& 858993459) ≤ 858993459 := Nat.and_le_right
    unfold bc2 pc2
    have h4 : uN (usr (bc1 s) 2) = uN (bc1 s) / 4 := uN_usr _ (by omega)
    rw [uN_add, uN_and, uN_and, h4, uN_nI (by omega)]
    omega
  have hlt2 : uN (bc2 (bc1 s)) ≤ 2 * 858993459 := by
    rw [k2]
    unfold pc2
    have h2 : (uN (bc1 s) &&& 858993459) ≤ 858993459 := Nat.and_le_right
    have h3 : (uN (bc1 s) / 4 &&& 858993459) ≤ 858993459 := Nat.and_le_right
    omega
  have k3 : uN (bc3 (bc2 (bc1 s))) = pc3 (uN (bc2 (bc1 s))) 252645135 := by
    unfold bc3 pc3
    rw [uN_and, uN_add, uN_usr _ (by omega), uN_nI (by omega), show (2 : Nat) ^ 4 = 16 from rfl, Nat.mod_eq_of_lt (by omega)]
  rw [k2, k1, hn, pcb_32 ha hb he hg] at k3
  obtain ⟨-, -, -, -, a5⟩ := pcb_1 a ha
  obtain ⟨-, -, -, -, b5⟩ := pcb_1 b hb
  obtain ⟨-, -, -, -, e5⟩ := pcb_1 e he
  obtain ⟨-, -, -, -, g5⟩ := pcb_1 g hg
  generalize bc3 (bc2 (bc1 s)) = t at k3
  rw [hc]
  generalize pcb a = p at *
  generalize pcb b = q at *
  generalize pcb e = r at *
  generalize pcb g = o at *
  have k4 : uN (bc4 t) = uN t + uN t / 256 := by
    unfold bc4
    rw [uN_add, uN_usr _ (by omega)]
    omega
  have k5 : uN (bc5 (bc4 t)) = uN (bc4 t) + uN (bc4 t) / 65536 := by
    unfold bc5
    rw [uN_add, uN_usr _ (by omega)]
    omega
  have d1 : uN t / 256 = q + 256 * (r + 256 * o) := by omega
  have d2 : uN (bc4 t) / 65536 = r + o + 256 * o := by omega
  have d3 : uN (bc5 (bc4 t)) = (p + q + r + o) + 256 * (q + r + o + 256 * (r + o + 256 * o)) := by omega
  apply uN_inj
  rw [uN_and, uN_nI (k := 63) (by omega), uN_nI (by omega), show (63 : Nat) = 2 ^ 6 - 1 from rfl, Nat.and_two_pow_sub_one_eq_mod]
  omega
section KE
variable {hf : Hf} {d sz us : Nat}
theorem K_bitCount (s : Int32) : Ev d 15 0 [some (.int s)] [] (sz, us, hf) = some (some (.int (nI (cnt s 32))), (sz, us, hf)) := by
  rw [← bc_val]
  simp (disch := first | omega | with_reducible assumption | exact cobR | exact bI_01 _ | exact Or.inl rfl | exact Or.inr rfl | (simp (decide := true) only [wid_0, wid_i, wid_l, wid_r, wid_n]; done) | decide | fail) only [s15_0, s15_1, s15_2, s15_3, s15_4, s15_7, s15_8, s15_9, s15_10, s15_11, s15_14, s15_15, s15_16, s15_17, s15_18, s15_21, s15_22, s15_23, s15_24, s15_25, s15_26, s15_27, s15_28, s15_29, s15_32, s15_33, s15_34, s15_35, s15_36, s15_38, s15_39, s15_40, s15_41, s15_42, s15_43, s15_45, s15_46, s15_47, s15_48, s15_49, s15_51, s15_52 (st := []), Option.bind_some, Option.bind_none, Option.toList_some, Option.toList_none, List.cons_append, List.nil_append, clr_i, clr_r, clr_l, clr_n]
  rfl
end KE
