/-! class and reference: calls that only look at states -/
section GA
variable {c w : WD} {fs sn : Nat → Option Nat} {n : Nat}
theorem meet_eq (C : CS c w fs sn n) {a b : Nat} (ha : a < n) (hb : b < n) : (c (8 + 4 * a) 3 ||| sb a) &&& (c (8 + 4 * b) 3 ||| sb b) &&& (kPas c ((c (8 + 4 * a) 3 ||| sb a) &&& (c (8 + 4 * b) 3 ||| sb b)) n ^^^ (-1)) = mee w n a b := by
  have hn := C.2.1
  rw [CS.b C (show a < 30 by omega), CS.b C (show b < 30 by omega)]
  unfold mee
  generalize (w 3 a ||| sb a) &&& (w 3 b ||| sb b) = m
  have key : ∀ k, k ≤ n → m &&& (kPas c m k ^^^ (-1)) = itr (fun s z => if tb m s = true then z &&& (w 3 s ^^^ (-1)) else z) m k := by
    intro k
    induction k with
    | zero =>
      intro _
      apply i32_ext
      intro j hj
      show tb (m &&& (nI 0 ^^^ (-1))) j = tb m j
      rw [tb_and, tb_not _ hj, tb_0]; simp
    | succ k ih =>
      intro hk
      rw [itr_s, ← ih (by omega)]
      have e : kPas c m (k + 1) = kPas c m k ||| (if tb m k = true then c (8 + 4 * k) 3 else nI 0) := rfl
      rw [e, CS.b C (show k < 30 by omega)]
      by_cases h : tb m k = true
      · rw [if_pos h, if_pos h]
        apply i32_ext
        intro j hj
        simp only [tb_and, tb_not _ hj, tb_or, Bool.not_or, Bool.and_assoc]
      · rw [if_neg h, if_neg h, or_0]
  exact key n (Nat.le_refl n)
theorem btw_eq (C : CS c w fs sn n) {a b : Nat} (ha : a < n) (hb : b < n) : kOnW c a (c (8 + 4 * b) 3 ||| sb b) n = btw w n a b := by
  have hn := C.2.1
  unfold kOnW btw
  rw [CS.b C (show b < 30 by omega)]
  refine itr_cg (fun k hk z => ?_)
  rw [CS.b C (show k < 30 by omega)]
  cases tb (w 3 b ||| sb b) k <;> cases tb (w 3 k ||| sb k) a <;> simp
/-- a set of states that are there -/
theorem lines_ok {n : Nat} (hn : n ≤ 30) (s : Int32) : (s &&& (wal1 n ^^^ (-1)) = 0) ↔ ¬ (s < 0 ∨ nI 1 <<< (nI n &&& 31) ≤ s) := by
  have hp : nI 1 <<< (nI n &&& 31) = nI (2 ^ n) := by
    have : ∀ n, n < 31 → nI 1 <<< (nI n &&& 31) = nI (2 ^ n) := by decide +kernel
    exact this n (by omega)
  have hle : 2 ^ n ≤ 2 ^ 30 := Nat.pow_le_pow_right (by decide) hn
  have hlt := uN_lt s
  have h31 : (s.toInt = if uN s < 2 ^ 31 then (uN s : Int) else (uN s : Int) - 2 ^ 32) := by
    show s.toBitVec.toInt = _
    rw [BitVec.toInt_eq_toNat_cond]
    show (if 2 * uN s < 2 ^ 32 then (uN s : Int) else (uN s : Int) - ((2 ^ 32 : Nat) : Int)) = _
    by_cases q : uN s < 2 ^ 31
    · rw [if_pos q, if_pos (by omega)]
    · rw [if_neg q, if_neg (by omega)]; omega
  rw [hp, Int32.lt_iff_toInt_lt, Int32.le_iff_toInt_le, nI_toInt (by omega), h31]
  show (s &&& (wal1 n ^^^ (-1)) = 0) ↔ ¬ ((if uN s < 2 ^ 31 then (uN s : Int) else (uN s : Int) - 2 ^ 32) < 0 ∨ ((2 ^ n : Nat) : Int) ≤ (if uN s < 2 ^ 31 then (uN s : Int) else (uN s : Int) - 2 ^ 32))
  have main : (s &&& (wal1 n ^^^ (-1)) = 0) ↔ uN s < 2 ^ n := by
    rw [i32_0]
    constructor
    · intro h
      refine Nat.lt_pow_two_of_testBit _ (fun i hi => ?_)
      by_cases q : i < 32
      · have := h i q
        rw [tb_and, tb_not _ q, tb_wal1 n (by omega) i q, decide_eq_false (by omega)] at this
        have h2 : tb s i = false := by simpa using this
        exact h2
      · exact Nat.testBit_lt_two_pow (Nat.lt_of_lt_of_le hlt (Nat.pow_le_pow_right (by decide) (by omega)))
    · intro h k hk
      rw [tb_and, tb_not _ hk, tb_wal1 n (by omega) k hk]
      by_cases q : k < n
      · simp [q]
      · have h2 : tb s k = false := Nat.testBit_lt_two_pow (Nat.lt_of_lt_of_le h (Nat.pow_le_pow_right (by decide) (by omega)))
        rw [h2]; rfl
  rw [main]
  by_cases q : uN s < 2 ^ 31
  · rw [if_pos q]; omega
  · rw [if_neg q]; omega
end GA
section OPA
variable {x ch : Nat} {w : WD} {h : Hp}
theorem op_look (R : RelC x w ch h) (s q : Int32) : OpOK x w ch h 96 [some (.ref x), some (.int s), some (.int q), none] 150 (fun m => [some (.ref m), some (.int s), some (.int q), none, none]) := by
  have R0 := R
  obtain ⟨F, B, A, td, K, c, y, v, tA, fs, sn, tm, n, nt, tn, kn, e, Q, G, h3, h4, W, h6, h7, h8⟩ := R0
  obtain ⟨sz, us, hf⟩ := h
  dsimp only at e
  subst e
  have C := Q.1
  have hn30 := C.2.1
  by_cases hb : (vI s n && vI q 7) = true
  · simp only [Bool.and_eq_true] at hb
    obtain ⟨b1, b2⟩ := hb
    obtain ⟨s, hs, rfl⟩ := vI_T b1 (by omega)
    obtain ⟨q, hq, rfl⟩ := vI_T b2 (by omega)
    obtain ⟨r, hr⟩ := W.1 s (by omega)
    have h1 := C.2.2.2 s hs
    have hA := G.hA
    refine OpOK.pure R (lokA w s q r (fs s) (sn s)) ?_ (fun f m sz us y => R_look (d := 297) G.hn hn30 hs hq hr (hA.1 s hs) (hA.2.1 s hs) (hA.2.2.1 s hs) (hA.2.2.2 s hs))
    have hk := K_look (d := 295) (f := emT F B tm td A K) (x := x) (sz := sz) (us := us) (c := c) (y := y) (v := v) (tm := tA) (s := s) (q := q) (r := r) C.1 hn30 hs hq h1.1 h1.2.1 ((CS.r C (by omega)).trans hr) (hA.2.2.1 s hs) (hA.2.2.2 s hs)
    refine hk.trans ?_
    rw [kChI_eq C hs hr, kCL_eq C (by omega), CS.b C (show s < 30 by omega), CS.p C (show s < 30 by omega)]
    rfl
  · have hb' : (vI s n && vI q 7) = false := by simpa using hb
    exact OpOK.pure R (-1) (K_look_no (d := 295) C.1 hn30 hb') (fun f m sz us y => R_look_no (d := 297) G.hn hn30 s q hb')
theorem op_part (R : RelC x w ch h) (s p q : Int32) : OpOK x w ch h 97 [some (.ref x), some (.int s), some (.int p), some (.int q), none] 152 (fun m => [some (.ref m), some (.int s), some (.int p), some (.int q)]) := by
  have R0 := R
  obtain ⟨F, B, A, td, K, c, y, v, tA, fs, sn, tm, n, nt, tn, kn, e, Q, G, h3, h4, W, h6, h7, h8⟩ := R0
  obtain ⟨sz, us, hf⟩ := h
  dsimp only at e
  subst e
  have C := Q.1
  have hn30 := C.2.1
  by_cases hb : (vI s n && (vI p 16 && vI q 6)) = true
  · simp only [Bool.and_eq_true] at hb
    obtain ⟨b1, b2, b3⟩ := hb
    obtain ⟨s, hs, rfl⟩ := vI_T b1 (by omega)
    obtain ⟨p, hp, rfl⟩ := vI_T b2 (by omega)
    obtain ⟨q, hq, rfl⟩ := vI_T b3 (by omega)
    have h1 := C.2.2.2 s hs
    have hA := G.hA
    refine OpOK.pure R (parA w s p q (fs s)) ?_ (fun f m sz us y => R_part (d := 297) G.hn hn30 hs hp hq (hA.1 s hs) (hA.2.2.1 s hs))
    unfold parA
    by_cases q5 : q = 5
    · subst q5
      rw [if_pos rfl, ← weO_wen C hs hp]
      exact K_part5 (d := 295) C.1 hn30 hs hp h1.1 (hA.2.2.1 s hs)
    · rw [if_neg q5]
      cases ht : tb (w 4 s) p
      · rw [if_pos rfl]
        exact K_part_not (d := 296) C.1 hn30 hs hp (by omega) (by rw [CS.p C (by omega)]; exact ht)
      · rw [if_neg (by simp)]
        refine (K_part (d := 296) C.1 hn30 hs hp (by omega) (by rw [CS.p C (by omega)]; exact ht)).trans ?_
        rw [CS.so C (by omega) hp, CS.sh C (by omega) hp]
        by_cases q0 : q = 0
        · rw [if_pos q0, if_pos q0]
        · by_cases q1 : q = 1
          · rw [if_neg q0, if_neg q0, if_pos q1, if_pos q1]
          · rw [if_neg q0, if_neg q0, if_neg q1, if_neg q1, CS.le C (show s < 30 by omega) (show q - 2 < 3 by omega) hp]
  · have hb' : (vI s n && (vI p 16 && vI q 6)) = false := by simpa using hb
    exact OpOK.pure R (-1) (K_part_no (d := 296) C.1 hn30 hb') (fun f m sz us y => R_part_no (d := 297) G.hn hn30 s p q hb')
theorem op_meet (R : RelC x w ch h) (a b : Int32) : OpOK x w ch h 98 [some (.ref x), some (.int a), some (.int b)] 155 (fun m => [some (.ref m), some (.int a), some (.int b), none, none, none]) := by
  have R0 := R
  obtain ⟨F, B, A, td, K, c, y, v, tA, fs, sn, tm, n, nt, tn, kn, e, Q, G, h3, h4, W, h6, h7, h8⟩ := R0
  obtain ⟨sz, us, hf⟩ := h
  dsimp only at e
  subst e
  have C := Q.1
  have hn30 := C.2.1
  by_cases hb : (vI a n && vI b n) = true
  · simp only [Bool.and_eq_true] at hb
    obtain ⟨b1, b2⟩ := hb
    obtain ⟨a, ha, rfl⟩ := vI_T b1 (by omega)
    obtain ⟨b, hb, rfl⟩ := vI_T b2 (by omega)
    refine OpOK.pure R (mee w n a b) ?_ (fun f m sz us y => R_meet (d := 298) G.hn hn30 ha hb)
    rw [← meet_eq C ha hb]
    exact K_meet (d := 298) ha hb C.1 hn30
  · have hb' : (vI a n && vI b n) = false := by simpa using hb
    exact OpOK.pure R (-1) (K_meet_no (d := 298) a b C.1 hn30 hb') (fun f m sz us y => R_meet_no (d := 298) G.hn hn30 a b hb')
theorem op_between (R : RelC x w ch h) (a b : Int32) : OpOK x w ch h 99 [some (.ref x), some (.int a), some (.int b)] 156 (fun m => [some (.ref m), some (.int a), some (.int b), none, none]) := by
  have R0 := R
  obtain ⟨F, B, A, td, K, c, y, v, tA, fs, sn, tm, n, nt, tn, kn, e, Q, G, h3, h4, W, h6, h7, h8⟩ := R0
  obtain ⟨sz, us, hf⟩ := h
  dsimp only at e
  subst e
  have C := Q.1
  have hn30 := C.2.1
  by_cases hb : (vI a n && vI b n) = true
  · simp only [Bool.and_eq_true] at hb
    obtain ⟨b1, b2⟩ := hb
    obtain ⟨a, ha, rfl⟩ := vI_T b1 (by omega)
    obtain ⟨b, hb, rfl⟩ := vI_T b2 (by omega)
    refine OpOK.pure R (btw w n a b) ?_ (fun f m sz us y => R_between (d := 298) G.hn hn30 ha hb)
    rw [← btw_eq C ha hb]
    exact K_between (d := 298) ha hb C.1 hn30
  · have hb' : (vI a n && vI b n) = false := by simpa using hb
    exact OpOK.pure R (-1) (K_between_no (d := 298) a b C.1 hn30 hb') (fun f m sz us y => R_between_no (d := 298) G.hn hn30 a b hb')
theorem op_together (R : RelC x w ch h) (p o q : Int32) : OpOK x w ch h 100 [some (.ref x), some (.int p), some (.int o), some (.int q), none, none, none, none, none] 157 (fun m => [some (.ref m), some (.int p), some (.int o), some (.int q), none, none, none, none, none]) := by
  have R0 := R
  obtain ⟨F, B, A, td, K, c, y, v, tA, fs, sn, tm, n, nt, tn, kn, e, Q, G, h3, h4, W, h6, h7, h8⟩ := R0
  obtain ⟨sz, us, hf⟩ := h
  dsimp only at e
  subst e
  have C := Q.1
  have hn30 := C.2.1
  by_cases hb : (vI p 16 && (vI o 16 && vI q 3)) = true
  · simp only [Bool.and_eq_true] at hb
    obtain ⟨b1, b2, b3⟩ := hb
    obtain ⟨p, hp, rfl⟩ := vI_T b1 (by omega)
    obtain ⟨o, ho, rfl⟩ := vI_T b2 (by omega)
    obtain ⟨q, hq, rfl⟩ := vI_T b3 (by omega)
    have hA := G.hA
    have hrs : ∀ s, s < n → w 5 s = bI (tb (w 5 s) 0) := fun s hs => by
      obtain ⟨r, hr⟩ := W.1 s (by omega)
      rw [hr]
      cases r <;> rfl
    refine OpOK.pure R (tog (fun s => chg w s (tb (w 5 s) 0) (fs s)) p o q n) ?_ (fun f m sz us y => R_together (d := 297) (rs := fun s => tb (w 5 s) 0) G.hn hn30 hp ho hq hrs hA.1 hA.2.2.1)
    refine (K_together (d := 296) hp ho hq C.1 hn30 (fun s hs => (C.2.2.2 s hs).1) hA.2.2.1).trans ?_
    have : tog (fun s => kChI c s (fs s)) p o q n = tog (fun s => chg w s (tb (w 5 s) 0) (fs s)) p o q n := itr_cg (fun k hk z => by dsimp only; rw [kChI_eq C hk (hrs k hk)])
    rw [this]
  · have hb' : (vI p 16 && (vI o 16 && vI q 3)) = false := by simpa using hb
    exact OpOK.pure R (-1) (K_together_no (d := 296) hb') (fun f m sz us y => R_together_no (d := 297) p o q hb')
theorem op_told (R : RelC x w ch h) (s q : Int32) : OpOK x w ch h 110 [some (.ref x), some (.int s), some (.int q), none] 166 (fun m => [some (.ref m), some (.int s), some (.int q)]) := by
  have R0 := R
  obtain ⟨F, B, A, td, K, c, y, v, tA, fs, sn, tm, n, nt, tn, kn, e, Q, G, h3, h4, W, h6, h7, h8⟩ := R0
  obtain ⟨sz, us, hf⟩ := h
  dsimp only at e
  subst e
  have ht60 := G.ht60
  by_cases hb : (vI s tn && vI q 4) = true
  · simp only [Bool.and_eq_true] at hb
    obtain ⟨b1, b2⟩ := hb
    obtain ⟨t, ht, rfl⟩ := vI_T b1 (by omega)
    obtain ⟨q, hq, rfl⟩ := vI_T b2 (by omega)
    have hD := Q.2.2.2.2.2.2.2.1 t ht
    have hB := Q.2.2.2.2.2.2.1.1 t ht
    have T := G.hT t ht
    refine OpOK.pure R _ ?_ (fun f m sz us y => R_told (d := 298) G.ht ht60 ht hq)
    refine (K_told (d := 298) h6.1 ht60 ht hq (h6.2.1 t ht) hB.1 hB.2).trans ?_
    rw [← T.1, hD.1, hD.2.1, hD.2.2.1]
  · have hb' : (vI s tn && vI q 4) = false := by simpa using hb
    exact OpOK.pure R (-1) (K_told_no (d := 298) h6.1 ht60 h6.2.1 hb') (fun f m sz us y => R_told_no (d := 298) G.ht ht60 s q hb')
theorem op_lines (R : RelC x w ch h) (s : Int32) : OpOK x w ch h 112 [some (.ref x), some (.int s)] 180 (fun m => [some (.ref m), some (.int s), none, none]) := by
  have R0 := R
  obtain ⟨F, B, A, td, K, c, y, v, tA, fs, sn, tm, n, nt, tn, kn, e, Q, G, h3, h4, W, h6, h7, h8⟩ := R0
  obtain ⟨sz, us, hf⟩ := h
  dsimp only at e
  subst e
  have C := Q.1
  have hn30 := C.2.1
  by_cases hb : s &&& (wal1 n ^^^ (-1)) = 0
  · refine OpOK.pure R (wnb w s s n) ?_ (fun f m sz us y => R_lines (d := 299) G.hn hn30 s ((lines_ok hn30 s).mp hb))
    rw [← CS.wnb C]
    exact K_lines (d := 298) C.1 hn30 hb
  · refine OpOK.pure R (-1) (K_lines_no (d := 298) C.1 hb) (fun f m sz us y => R_lines_no (d := 299) G.hn hn30 s ?_)
    exact Classical.byContradiction fun q => hb ((lines_ok hn30 s).mpr q)
theorem op_count (R : RelC x w ch h) (q : Int32) : OpOK x w ch h 124 [some (.ref x), some (.int q)] 193 (fun m => [some (.ref m), some (.int q)]) := by
  have R0 := R
  obtain ⟨F, B, A, td, K, c, y, v, tA, fs, sn, tm, n, nt, tn, kn, e, Q, G, h3, h4, W, h6, h7, h8⟩ := R0
  obtain ⟨sz, us, hf⟩ := h
  dsimp only at e
  subst e
  by_cases hb : vI q 3 = true
  · obtain ⟨q, hq, rfl⟩ := vI_T hb (by omega)
    refine OpOK.pure R _ ?_ (fun f m sz us y => R_count (d := 300) (nI q))
    refine (K_count (d := 300) hq).trans ?_
    rw [Q.1.1, h6.1, h7.1]
    unfold couA
    rw [G.hn, G.ht, h7.2.1]
    have hqq : q = 0 ∨ q = 1 ∨ q = 2 := by omega
    rcases hqq with rfl | rfl | rfl <;> rfl
  · have hb' : vI q 3 = false := by simpa using hb
    refine OpOK.pure R (-1) (K_count_no (d := 300) hb') (fun f m sz us y => (R_count (d := 300) q).trans ?_)
    unfold couA
    rw [if_neg (fun e => hb (by rw [e]; decide)), if_neg (fun e => hb (by rw [e]; decide)), if_neg (fun e => hb (by rw [e]; decide))]
end OPA
