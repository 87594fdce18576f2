/-! class and reference: put, gone, link, read, undo -/
section OPF
variable {x ch : Nat} {w : WD} {h : Hp}
theorem i1_ne : ¬ (nI 1 : Int32) = nI 0 := by decide
theorem FRm.T2 {F : Hf} {B : Nat → Option Nat} {A : Nat → Nat} {tm : Nat → Nat → Nat} {td : Nat → Nat → Int32} {K : KT} {c c' : WD} {y : Nat → Int64} {v : VD} {tA : Nat → Option Nat} {w : WD} {fs sn : Nat → Option Nat} {sz us x n nt tn ch kn : Nat} (RL : RLm F B A td K c v tA w fs sn tm x sz n nt tn ch kn) : FRm x (sz, us, emC (emT F B tm td A K) x c y v tA) (sz, us, emC (emT F B tm td A K) x c' y v tA) := FRm.T (fun a h1 h2 => RL.lo h1 h2)
theorem op_put (hch : ch + 1 < 1000) (R : RelC x w ch h) (p a b : Int32) : OpOK x w ch h 90 [some (.ref x), some (.int p), some (.int a), some (.int b)] 143 (fun m => [some (.ref m), some (.int p), some (.int a), some (.int b), none, none]) := by
  have R0 := R
  obtain ⟨F, B, A, td, K, c, y, v, tA, fs, sn, tm, n, nt, tn, kn, e0, RL⟩ := R0
  obtain ⟨sz, us, hf⟩ := h
  dsimp only at e0 RL
  subst e0
  have RL0 := RL
  obtain ⟨Q, G, h3, h4, W, h6, h7, h8⟩ := RL0
  have Q0 := Q
  obtain ⟨C, hr, hnt, hntn, hN, hT, hTB, hD, hc2, hch2, htn⟩ := Q0
  have hn30 := C.2.1
  by_cases hb : (vI p 16 && (vI a 4 && vI b 100)) = true
  · by_cases h0 : n = 0
    · have e1 : c 1 1 = nI 0 := by rw [C.1, h0]
      have e2 : w 0 1 = nI 0 := by rw [G.hn, h0]
      exact OpOK.pure R (-3) (K_put_0 (d := 296) e1 hb) (fun f m sz us y => R_put_0 (d := 298) e2 p a b hb)
    · obtain ⟨s, hs⟩ : ∃ s, n = s + 1 := ⟨n - 1, by omega⟩
      have hb2 : (vI a 4 && vI b 100) = true := by simp only [Bool.and_eq_true] at hb ⊢; exact hb.2
      simp only [Bool.and_eq_true] at hb
      obtain ⟨b1, b2, b3⟩ := hb
      obtain ⟨p, hp, rfl⟩ := vI_T b1 (by omega)
      obtain ⟨a, ha, rfl⟩ := vI_T b2 (by omega)
      obtain ⟨b, hb, rfl⟩ := vI_T b3 (by omega)
      have hs1 : n - 1 = s := by omega
      have e' := K_put (d := 296) (f := emT F B tm td A K) (x := x) (sz := sz) (us := us) (y := y) (v := v) (tm := tA) C.1 (by omega) hn30 hc2 hnt (by omega) hp ha hb
      rw [hs1, CS.p C (show s < 30 by omega)] at e'
      refine ⟨_, _, e', FRm.T2 RL, fun f m sz1 us1 y1 => ⟨_, y1, R_put (d := 298) (by rw [G.hn, hs]) (by omega) hp _ _ hb2, ch + 1, by omega, F, B, A, td, K, _, y, v, tA, fs, sn, tm, n, min nt (n - 1), tn, kn, rfl, ?_⟩⟩
      have k1 := chW_1 c ch nt n
      have cA : ∀ k, k ≠ 8 + 4 * s → k ≠ 9 + 4 * s → k ≠ 10 + 4 * s → (wU (wU (wU (chW c ch nt n) (8 + 4 * s) 5 (w 4 s ||| sb p)) (9 + 4 * s) p (nI a)) (10 + 4 * s) p (nI b)) k = chW c ch nt n k := fun k q1 q2 q3 => by rw [wU_off q3, wU_off q2, wU_off q1]
      have wA : ∀ k i, k ≠ 4 → k ≠ 6 → k ≠ 7 → putW w s p (nI a) (nI b) k i = w k i := fun k i q1 q2 q3 => by unfold putW; rw [wU_off q3, wU_off q2, wU_off q1]
      have w4 : ∀ i, putW w s p (nI a) (nI b) 4 i = if i = s then w 4 s ||| sb p else w 4 i := fun i => by
        unfold putW; rw [wU_off (by omega), wU_off (by omega), wU_ap]
        by_cases q : i = s
        · rw [if_pos ⟨rfl, q⟩, if_pos q]
        · rw [if_neg (by omega), if_neg q]
      have w6 : ∀ i, putW w s p (nI a) (nI b) 6 i = if i = 16 * s + p then nI a else w 6 i := fun i => by
        unfold putW; rw [wU_off (by omega), wU_ap]
        by_cases q : i = 16 * s + p
        · rw [if_pos ⟨rfl, q⟩, if_pos q]
        · rw [if_neg (by omega), if_neg q, wU_off (by omega)]
      have w7 : ∀ i, putW w s p (nI a) (nI b) 7 i = if i = 16 * s + p then nI b else w 7 i := fun i => by
        unfold putW; rw [wU_ap]
        by_cases q : i = 16 * s + p
        · rw [if_pos ⟨rfl, q⟩, if_pos q]
        · rw [if_neg (by omega), if_neg q, wU_off (by omega), wU_off (by omega)]
      refine RL.chg hch (fun k hk => by rw [cA k (by omega) (by omega) (by omega), chW_o (by omega)]) ?_ (by rw [cA 1 (by omega) (by omega) (by omega)]; exact k1.2.2.1) (by omega) (fun s' hs' => ?_) (by rw [cA 1 (by omega) (by omega) (by omega)]; exact k1.2.1) (fun k i hk => wA k i (by omega) (by omega) (by omega)) (wA 0 27 (by omega) (by omega) (by omega)) ?_ ?_
      · refine ⟨by rw [cA 1 (by omega) (by omega) (by omega), k1.1]; exact C.1, hn30, fun s' hs' => ?_, fun s' hs' => ?_⟩
        · have c8 : ∀ i, (wU (wU (wU (chW c ch nt n) (8 + 4 * s) 5 (w 4 s ||| sb p)) (9 + 4 * s) p (nI a)) (10 + 4 * s) p (nI b)) (8 + 4 * s') i = if s' = s ∧ i = 5 then w 4 s ||| sb p else c (8 + 4 * s') i := fun i => by
            rw [wU_off (by omega), wU_off (by omega), wU_ap, chW_o (by omega)]
            by_cases q : s' = s ∧ i = 5
            · rw [if_pos (by omega), if_pos q]
            · rw [if_neg (by omega), if_neg q]
          obtain ⟨a1, a2, a3, a4, a5⟩ := C.2.2.1 s' hs'
          refine ⟨by rw [c8, if_neg (by omega), wA 3 s' (by omega) (by omega) (by omega)]; exact a1, by rw [c8, if_neg (by omega), wA 5 s' (by omega) (by omega) (by omega)]; exact a2, ?_, fun p' hp' => ?_, fun k hk p' hp' => ?_⟩
          · rw [c8, w4]
            by_cases q : s' = s
            · rw [if_pos ⟨q, rfl⟩, if_pos q]
            · rw [if_neg (by omega), if_neg q]; exact a3
          · refine ⟨?_, ?_⟩
            · rw [w6, wU_off (by omega), wU_ap, wU_off (by omega), chW_o (by omega)]
              by_cases q : s' = s ∧ p' = p
              · rw [if_pos (by omega), if_pos (by omega)]
              · rw [if_neg (by omega), if_neg (by omega)]; exact (a4 p' hp').1
            · rw [w7, wU_ap, wU_off (by omega), wU_off (by omega), chW_o (by omega)]
              by_cases q : s' = s ∧ p' = p
              · rw [if_pos (by omega), if_pos (by omega)]
              · rw [if_neg (by omega), if_neg (by omega)]; exact (a4 p' hp').2
          · rw [cA _ (by omega) (by omega) (by omega), chW_o (by omega), wA 8 _ (by omega) (by omega) (by omega)]; exact a5 k hk p' hp'
        · have c8 : ∀ i, i < 5 → (wU (wU (wU (chW c ch nt n) (8 + 4 * s) 5 (w 4 s ||| sb p)) (9 + 4 * s) p (nI a)) (10 + 4 * s) p (nI b)) (8 + 4 * s') i = c (8 + 4 * s') i := fun i hi => by
            rw [wU_off (by omega), wU_off (by omega), wU_ap, chW_o (by omega), if_neg (by omega)]
          rw [c8 0 (by omega), c8 1 (by omega), c8 2 (by omega)]
          exact C.2.2.2 s' hs'
      · have hs'' : s' ≠ s := by omega
        refine NTs_cg2 (hN s' (by omega)) ?_ ?_ (fun k q1 q2 => by rw [cA k (by omega) (by omega) (by omega), chW_o (by omega)]) (by rw [cA 1 (by omega) (by omega) (by omega)]; exact k1.2.2.2)
        · rw [cA _ (by omega) (by omega) (by omega), chW_o (by omega)]
        · rw [cA _ (by omega) (by omega) (by omega), chW_o (by omega)]
      · refine GW_st G (fun k i hk => wA k i (by omega) (by omega) (by omega)) (wA _ _ (by omega) (by omega) (by omega)) (wA _ _ (by omega) (by omega) (by omega)) (fun e => ⟨by rw [wA 0 10 (by omega) (by omega) (by omega)] at e; exact e, fun i => ⟨wA _ _ (by omega) (by omega) (by omega), wA _ _ (by omega) (by omega) (by omega)⟩⟩)
      · obtain ⟨x1, x2, x3⟩ := W
        refine ⟨fun s' hs' => by rw [wA 5 s' (by omega) (by omega) (by omega)]; exact x1 s' hs', fun i hi => ⟨?_, ?_⟩, fun s' hs' k hk => ?_⟩
        · rw [w6]
          split
          · exact ⟨a, by omega, rfl⟩
          · exact (x2 i hi).1
        · rw [w7]
          split
          · exact ⟨b, by omega, rfl⟩
          · exact (x2 i hi).2
        · rw [w4]
          split
          · rename_i q
            rw [tb_or, tb_sb (by omega), Bool.or_eq_true, decide_eq_true_eq]
            intro q2
            rcases q2 with q2 | q2
            · exact x3 s (by omega) k hk q2
            · omega
          · exact x3 s' hs' k hk
  · have hb' : (vI p 16 && (vI a 4 && vI b 100)) = false := by simpa using hb
    exact OpOK.pure R (-1) (K_put_no (d := 296) hb') (fun f m sz us y => R_put_no (d := 298) p a b hb')
theorem op_gone (hch : ch + 1 < 1000) (R : RelC x w ch h) (p : Int32) : OpOK x w ch h 91 [some (.ref x), some (.int p)] 144 (fun m => [some (.ref m), some (.int p), none, none, none, none]) := by
  have R0 := R
  obtain ⟨F, B, A, td, K, c, y, v, tA, fs, sn, tm, n, nt, tn, kn, e0, RL⟩ := R0
  obtain ⟨sz, us, hf⟩ := h
  dsimp only at e0 RL
  subst e0
  have RL0 := RL
  obtain ⟨Q, G, h3, h4, W, h6, h7, h8⟩ := RL0
  have Q0 := Q
  obtain ⟨C, hr, hnt, hntn, hN, hT, hTB, hD, hc2, hch2, htn⟩ := Q0
  have hn30 := C.2.1
  by_cases hb : vI p 16 = true
  · by_cases h0 : n = 0
    · have e1 : c 1 1 = nI 0 := by rw [C.1, h0]
      have e2 : w 0 1 = nI 0 := by rw [G.hn, h0]
      exact OpOK.pure R (-3) (K_gone_0 (d := 296) e1 hb) (fun f m sz us y => R_gone_0 (d := 298) e2 p hb)
    · obtain ⟨s, hs⟩ : ∃ s, n = s + 1 := ⟨n - 1, by omega⟩
      obtain ⟨p, hp, rfl⟩ := vI_T hb (by omega)
      have hs1 : n - 1 = s := by omega
      cases ht : tb (w 4 s) p
      · exact OpOK.pure R (-4) (K_gone_4 (d := 296) C.1 (by omega) hn30 hp (by rw [hs1, CS.p C (by omega)]; exact ht)) (fun f m sz us y => R_gone_4 (d := 298) (by rw [G.hn, hs]) (by omega) hp ht)
      · have e' := K_gone (d := 296) (f := emT F B tm td A K) (x := x) (sz := sz) (us := us) (y := y) (v := v) (tm := tA) C.1 (by omega) hn30 hc2 hnt (by omega) hp (by rw [hs1, CS.p C (by omega)]; exact ht)
        have hL : ∀ k, k < 48 → chW c ch nt n (11 + 4 * s) k = w 8 (48 * s + k) := fun k hk => by
          have hl := CS.le C (show s < 30 by omega) (k := k / 16) (by omega) (p := k % 16) (by omega)
          rw [show k / 16 * 16 + k % 16 = k by omega] at hl
          rw [chW_o (by omega), hl]
          unfold lk
          rw [show (3 * s + k / 16) * 16 + k % 16 = 48 * s + k by omega]
        rw [hs1, kCL_drop hp hL, ← goN_eq hp] at e'
        refine ⟨_, _, e', FRm.T2 RL, fun f m sz1 us1 y1 => ⟨_, y1, R_gone (d := 298) (by rw [G.hn, hs]) (by omega) hp ht, ch + 1, by omega, F, B, A, td, K, _, y, v, tA, fs, sn, tm, n, min nt (n - 1), tn, kn, rfl, ?_⟩⟩
        have k1 := chW_1 c ch nt n
        have cA : ∀ k, k ≠ 8 + 4 * s → k ≠ 11 + 4 * s → drW (chW c ch nt n) s p k = chW c ch nt n k := fun k q1 q2 => by
          unfold drW
          funext i
          rw [wT_off _ _ _ _ q2, wU_off q1]
        have wA : ∀ k i, ¬ (k = 0 ∧ i = 10) → k ≠ 4 → k ≠ 8 → goW w s p k i = w k i := fun k i q1 q2 q3 => by rw [goW_at hp, if_neg q1, if_neg (by omega), if_neg (by omega)]
        refine RL.chg hch (fun k hk => by rw [cA k (by omega) (by omega), chW_o (by omega)]) ?_ (by rw [cA 1 (by omega) (by omega)]; exact k1.2.2.1) (by omega) (fun s' hs' => ?_) (by rw [cA 1 (by omega) (by omega)]; exact k1.2.1) (fun k i hk => wA k i (by omega) (by omega) (by omega)) (wA 0 27 (by omega) (by omega) (by omega)) ?_ ?_
        · have c8 : ∀ s' i, drW (chW c ch nt n) s p (8 + 4 * s') i = if s' = s ∧ i = 5 then w 4 s &&& (sb p ^^^ (-1)) else c (8 + 4 * s') i := fun s' i => by
            unfold drW
            rw [wT_off _ _ _ _ (by omega), wU_ap, chW_o (by omega), chW_o (by omega)]
            by_cases q : s' = s ∧ i = 5
            · rw [if_pos (by omega), if_pos q, CS.p C (by omega)]
            · rw [if_neg (by omega), if_neg q]
          refine ⟨by rw [cA 1 (by omega) (by omega), k1.1]; exact C.1, hn30, fun s' hs' => ?_, fun s' hs' => ?_⟩
          · obtain ⟨a1, a2, a3, a4, a5⟩ := C.2.2.1 s' hs'
            refine ⟨by rw [c8, if_neg (by omega), wA 3 s' (by omega) (by omega) (by omega)]; exact a1, by rw [c8, if_neg (by omega), wA 5 s' (by omega) (by omega) (by omega)]; exact a2, ?_, fun p' hp' => ?_, fun k hk p' hp' => ?_⟩
            · rw [c8, goW_at hp]
              by_cases q : s' = s
              · rw [if_pos ⟨q, rfl⟩, if_neg (by omega), if_pos ⟨rfl, q⟩]
              · rw [if_neg (by omega), if_neg (by omega), if_neg (by omega), if_neg (by omega)]; exact a3
            · rw [cA _ (by omega) (by omega), cA _ (by omega) (by omega), chW_o (by omega), chW_o (by omega), wA 6 _ (by omega) (by omega) (by omega), wA 7 _ (by omega) (by omega) (by omega)]; exact a4 p' hp'
            · rw [goW_at hp, if_neg (by omega), if_neg (by omega)]
              by_cases q : s' = s
              · subst q
                unfold drW
                rw [wT_at, cop_in (by omega), if_pos (by unfold lk; omega)]
                unfold drL goL
                have e8 : 48 * s' + (lk s' k p' - 48 * s') = 48 * s' + (k * 16 + p') := by unfold lk; omega
                rw [hL _ (by omega), e8]
                by_cases q2 : (k * 16 + p') % 16 = p
                · rw [if_pos q2, if_pos (by unfold lk; omega)]
                · rw [if_neg q2, if_neg (by unfold lk; omega)]
              · rw [if_neg (by unfold lk; omega), cA _ (by omega) (by omega), chW_o (by omega)]; exact a5 k hk p' hp'
          · rw [c8, c8, c8, if_neg (by omega), if_neg (by omega), if_neg (by omega)]
            exact C.2.2.2 s' hs'
        · have hs'' : s' ≠ s := by omega
          refine NTs_cg2 (hN s' (by omega)) ?_ ?_ (fun k q1 q2 => by rw [cA k (by omega) (by omega), chW_o (by omega)]) (by rw [cA 1 (by omega) (by omega)]; exact k1.2.2.2)
          · rw [cA _ (by omega) (by omega), chW_o (by omega)]
          · rw [cA _ (by omega) (by omega), chW_o (by omega)]
        · refine GW_st G (fun k i hk => wA k i (by omega) (by omega) (by omega)) (wA _ _ (by omega) (by omega) (by omega)) (wA _ _ (by omega) (by omega) (by omega)) (fun e => ?_)
          rw [goW_at hp, if_pos ⟨rfl, rfl⟩] at e
          exact absurd e i1_ne
        · obtain ⟨x1, x2, x3⟩ := W
          refine ⟨fun s' hs' => by rw [wA 5 s' (by omega) (by omega) (by omega)]; exact x1 s' hs', fun i hi => by rw [wA 6 i (by omega) (by omega) (by omega), wA 7 i (by omega) (by omega) (by omega)]; exact x2 i hi, fun s' hs' k hk => ?_⟩
          rw [goW_at hp, if_neg (by omega)]
          by_cases q : s' = s
          · rw [if_pos ⟨rfl, q⟩, tb_and, Bool.and_eq_true]
            intro q2
            exact x3 s (by omega) k hk q2.1
          · rw [if_neg (by omega), if_neg (by omega)]
            exact x3 s' hs' k hk
  · have hb' : vI p 16 = false := by simpa using hb
    exact OpOK.pure R (-1) (K_gone_no (d := 296) hb') (fun f m sz us y => R_gone_no (d := 298) p hb')
/-- a link put or taken -/
theorem lnk_same {L : Int32} {b : Nat} (hb : b < 32) (is : Bool) (h : tb L b = is) : (if is = true then L ||| sb b else L &&& (sb b ^^^ (-1))) = L := by
  apply i32_ext
  intro k hk
  cases is
  · rw [if_neg (by simp), tb_and, tb_not _ hk, tb_sb hb]
    by_cases q : k = b
    · subst q; rw [h]; simp
    · simp [q]
  · rw [if_pos rfl, tb_or, tb_sb hb]
    by_cases q : k = b
    · subst q; rw [h]; simp
    · simp [q]
theorem lnk_new {L : Int32} {b : Nat} (hb : b < 32) (is : Bool) (h : ¬ tb L b = is) : (if is = true then L ||| sb b else L &&& (sb b ^^^ (-1))) = L ^^^ sb b ∧ ¬ L ^^^ sb b = L := by
  refine ⟨?_, fun e => ?_⟩
  · apply i32_ext
    intro k hk
    have h' : tb L b = !is := by cases q : tb L b <;> cases is <;> simp_all
    cases is
    · rw [if_neg (by simp), tb_and, tb_not _ hk, tb_xor, tb_sb hb]
      by_cases q : k = b
      · subst q; rw [h']; simp
      · simp [q]
    · rw [if_pos rfl, tb_or, tb_xor, tb_sb hb]
      by_cases q : k = b
      · subst q; rw [h']; simp
      · simp [q]
  · have this : tb (L ^^^ sb b) b = tb L b := by rw [e]
    rw [tb_xor, tb_sb hb] at this
    simp at this
theorem op_link (hch : ch + 1 < 1000) (R : RelC x w ch h) (k a b : Int32) (is : Bool) : OpOK x w ch h 93 [some (.ref x), some (.int k), some (.int a), some (.int b), some (.int (bI is))] 145 (fun m => [some (.ref m), some (.int k), some (.int a), some (.int b), some (.int (bI is)), none, none]) := by
  have R0 := R
  obtain ⟨F, B, A, td, K, c, y, v, tA, fs, sn, tm, n, nt, tn, kn, e0, RL⟩ := R0
  obtain ⟨sz, us, hf⟩ := h
  dsimp only at e0 RL
  subst e0
  have RL0 := RL
  obtain ⟨Q, G, h3, h4, W, h6, h7, h8⟩ := RL0
  have Q0 := Q
  obtain ⟨C, hr, hnt, hntn, hN, hT, hTB, hD, hc2, hch2, htn⟩ := Q0
  have hn30 := C.2.1
  by_cases hb : (vI k 3 && (vI a 16 && vI b 16)) = true
  · by_cases h0 : n = 0
    · have e1 : c 1 1 = nI 0 := by rw [C.1, h0]
      have e2 : w 0 1 = nI 0 := by rw [G.hn, h0]
      exact OpOK.pure R (-3) (K_link_0 (d := 296) is e1 hb) (fun f m sz us y => R_link_0 (d := 298) e2 k a b is hb)
    · obtain ⟨s, hs⟩ : ∃ s, n = s + 1 := ⟨n - 1, by omega⟩
      simp only [Bool.and_eq_true] at hb
      obtain ⟨b1, b2, b3⟩ := hb
      obtain ⟨k, hk, rfl⟩ := vI_T b1 (by omega)
      obtain ⟨a, ha, rfl⟩ := vI_T b2 (by omega)
      obtain ⟨b, hb, rfl⟩ := vI_T b3 (by omega)
      have hs1 : n - 1 = s := by omega
      have hns : w 0 1 = nI (s + 1) := by rw [G.hn, hs]
      by_cases ht : (tb (w 4 s) a && tb (w 4 s) b) = true
      · simp only [Bool.and_eq_true] at ht
        obtain ⟨t1, t2⟩ := ht
        have e' := K_link (d := 296) (f := emT F B tm td A K) (x := x) (sz := sz) (us := us) (y := y) (v := v) (tm := tA) is C.1 (by omega) hn30 hc2 hnt (by omega) hk ha hb (by rw [hs1, CS.p C (by omega)]; exact t1) (by rw [hs1, CS.p C (by omega)]; exact t2)
        have eR := fun f m sz us y => R_link (d := 298) (f := f) (m := m) (sz := sz) (us := us) (y := y) hns (by omega) hk ha hb is t1 t2
        rw [hs1, CS.le C (show s < 30 by omega) hk ha] at e'
        have hlk : (3 * s + k) * 16 + a = lk s k a := rfl
        rw [hlk] at eR
        have k1 := chW_1 c ch nt n
        -- the same for any value written
        have gen : ∀ (z : Int32) (w' : WD), (∀ kk i, ¬ (kk = 0 ∧ i = 10) → ¬ (kk = 8 ∧ i = lk s k a) → w' kk i = w kk i) → w' 8 (lk s k a) = z → (w' 0 10 = nI 0 → w' = w) → RLm F B A td K (wU (chW c ch nt n) (11 + 4 * s) (k * 16 + a) z) v tA w' fs sn tm x sz n (min nt (n - 1)) tn (ch + 1) kn := by
          intro z w' wA wz wo
          have cA : ∀ kk, kk ≠ 11 + 4 * s → (wU (chW c ch nt n) (11 + 4 * s) (k * 16 + a) z) kk = chW c ch nt n kk := fun kk q => wU_off q
          refine RL.chg hch (fun kk hkk => by rw [cA kk (by omega), chW_o (by omega)]) ?_ (by rw [cA 1 (by omega)]; exact k1.2.2.1) (by omega) (fun s' hs' => ?_) (by rw [cA 1 (by omega)]; exact k1.2.1) (fun kk i hkk => wA kk i (by omega) (by omega)) (wA 0 27 (by omega) (by omega)) ?_ ?_
          · refine ⟨by rw [cA 1 (by omega), k1.1]; exact C.1, hn30, fun s' hs' => ?_, fun s' hs' => ?_⟩
            · obtain ⟨a1, a2, a3, a4, a5⟩ := C.2.2.1 s' hs'
              rw [cA (8 + 4 * s') (by omega), cA (9 + 4 * s') (by omega), cA (10 + 4 * s') (by omega), chW_o (by omega), chW_o (by omega), chW_o (by omega)]
              refine ⟨by rw [wA 3 s' (by omega) (by omega)]; exact a1, by rw [wA 5 s' (by omega) (by omega)]; exact a2, by rw [wA 4 s' (by omega) (by omega)]; exact a3, fun p' hp' => by rw [wA 6 _ (by omega) (by omega), wA 7 _ (by omega) (by omega)]; exact a4 p' hp', fun k' hk' p' hp' => ?_⟩
              rw [wU_ap, chW_o (by omega)]
              by_cases q : s' = s ∧ k' = k ∧ p' = a
              · rw [if_pos (by omega), q.1, q.2.1, q.2.2]; exact wz.symm
              · rw [if_neg (by omega), wA 8 _ (by omega) (by unfold lk; omega)]; exact a5 k' hk' p' hp'
            · rw [cA (8 + 4 * s') (by omega), chW_o (by omega)]
              exact C.2.2.2 s' hs'
          · refine NTs_cg2 (hN s' (by omega)) ?_ ?_ (fun kk q1 q2 => by rw [cA kk (by omega), chW_o (by omega)]) (by rw [cA 1 (by omega)]; exact k1.2.2.2)
            · rw [cA _ (by omega), chW_o (by omega)]
            · rw [cA _ (by omega), chW_o (by omega)]
          · refine GW_st G (fun kk i hkk => wA kk i (by omega) (by omega)) (wA _ _ (by omega) (by omega)) (wA _ _ (by omega) (by omega)) (fun e => ?_)
            have := wo e
            rw [this] at e
            exact ⟨e, fun i => by rw [this]; exact ⟨rfl, rfl⟩⟩
          · obtain ⟨x1, x2, x3⟩ := W
            exact ⟨fun s' hs' => by rw [wA 5 s' (by omega) (by omega)]; exact x1 s' hs', fun i hi => by rw [wA 6 i (by omega) (by omega), wA 7 i (by omega) (by omega)]; exact x2 i hi, fun s' hs' => by rw [wA 4 s' (by omega) (by omega)]; exact x3 s' hs'⟩
        by_cases q : tb (w 8 (lk s k a)) b = is
        · rw [lnk_same (by omega) is q] at e'
          refine ⟨_, _, e', FRm.T2 RL, fun f m sz1 us1 y1 => ⟨w, y1, ?_, ch + 1, by omega, F, B, A, td, K, _, y, v, tA, fs, sn, tm, n, min nt (n - 1), tn, kn, rfl, gen _ w (fun _ _ _ _ => rfl) rfl (fun _ => rfl)⟩⟩
          rw [decide_eq_true rfl]
          refine (eR f m sz1 us1 y1).trans ?_
          rw [if_pos q]; rfl
        · obtain ⟨q1, q2⟩ := lnk_new (L := w 8 (lk s k a)) (b := b) (by omega) is q
          rw [q1] at e'
          refine ⟨_, _, e', FRm.T2 RL, fun f m sz1 us1 y1 => ⟨linkW w s k a b, y1, ?_, ch + 1, by omega, F, B, A, td, K, _, y, v, tA, fs, sn, tm, n, min nt (n - 1), tn, kn, rfl, gen _ _ (fun kk i q3 q4 => ?_) ?_ (fun e => ?_)⟩⟩
          · rw [decide_eq_false q2]
            refine (eR f m sz1 us1 y1).trans ?_
            rw [if_neg q]; rfl
          · unfold linkW
            rw [wU_ap, if_neg q3, wU_ap, if_neg (by rw [hlk]; exact q4)]
          · unfold linkW
            rw [wU_off (by omega), hlk, wU_at]
          · unfold linkW at e
            rw [wU_at] at e
            exact absurd e i1_ne
      · have ht' : (tb (w 4 s) a && tb (w 4 s) b) = false := by simpa using ht
        refine OpOK.pure R (-4) (K_link_4 (d := 296) is C.1 (by omega) hn30 hk ha hb (by rw [hs1, CS.p C (by omega)]; exact ht')) (fun f m sz us y => ?_)
        refine (R_link_pre (d := 298) hns (by omega) hk ha hb is).trans ?_
        cases q1 : tb (w 4 s) a
        · rw [if_pos rfl]
        · rw [q1, Bool.true_and] at ht'
          rw [if_neg (by simp), ht', if_pos rfl]
  · have hb' : (vI k 3 && (vI a 16 && vI b 16)) = false := by simpa using hb
    exact OpOK.pure R (-1) (K_link_no (d := 296) is hb') (fun f m sz us y => R_link_no (d := 298) k a b is hb')
end OPF
