/-! class and reference: read, undo, a new state -/
section OPK
variable {x ch : Nat} {w : WD} {h : Hp}
theorem op_read (hch : ch + 1 < 1000) (R : RelC x w ch h) (is : Bool) : OpOK x w ch h 94 [some (.ref x), some (.int (bI is))] 146 (fun m => [some (.ref m), some (.int (bI is)), none]) := by
  have R0 := R
  obtain ⟨F, B, A, td, K, c, y, v, tA, fs, sn, tm, n, nt, tn, kn, e0, RL⟩ := R0
  obtain ⟨sz, us, hf⟩ := h
  dsimp only at e0 RL
  subst e0
  have RL0 := RL
  obtain ⟨Q, G, h3, h4, W, h6, h7, h8⟩ := RL0
  have Q0 := Q
  obtain ⟨C, hr, hnt, hntn, hN, hT, hTB, hD, hc2, hch2, htn⟩ := Q0
  have hn30 := C.2.1
  by_cases h0 : n = 0
  · have e1 : c 1 1 = nI 0 := by rw [C.1, h0]
    have e2 : w 0 1 = nI 0 := by rw [G.hn, h0]
    exact OpOK.pure R (-3) (K_read_0 (d := 298) is e1) (fun f m sz us y => R_read0 (d := 300) e2 is)
  · obtain ⟨s, hs⟩ : ∃ s, n = s + 1 := ⟨n - 1, by omega⟩
    have hs1 : n - 1 = s := by omega
    have e5 : c (8 + 4 * s) 4 = w 5 s := CS.r C (by omega)
    have eR := fun f m sz us y => R_read (d := 300) (f := f) (m := m) (sz := sz) (us := us) (y := y) (w := w) (s := s) (by rw [G.hn, hs]) (by omega) is
    by_cases q : w 5 s = bI is
    · refine OpOK.pure R (nI 0) (K_read_same (d := 298) is C.1 (by omega) hn30 (by rw [hs1, e5]; exact q)) (fun f m sz us y => (eR f m sz us y).trans ?_)
      rw [if_pos q, ← q]
      have : wU w 5 s (w 5 s) = w := by
        funext k i
        rw [wU_ap]
        by_cases q : k = 5 ∧ i = s
        · rw [if_pos q, q.1, q.2]
        · rw [if_neg q]
      rw [this]
    · have e' := K_read (d := 298) (f := emT F B tm td A K) (x := x) (sz := sz) (us := us) (y := y) (v := v) (tm := tA) is C.1 (by omega) hn30 hc2 hnt (by omega) (by rw [hs1, e5]; exact q)
      rw [hs1] at e'
      have k1 := chW_1 c ch nt n
      refine ⟨_, _, e', FRm.T2 RL, fun f m sz1 us1 y1 => ⟨wU w 5 s (bI is), y1, ?_, ch + 1, by omega, F, B, A, td, K, _, y, v, tA, fs, sn, tm, n, min nt (n - 1), tn, kn, rfl, ?_⟩⟩
      · refine (eR f m sz1 us1 y1).trans ?_
        rw [if_neg q]
      have cA : ∀ k, k ≠ 8 + 4 * s → (wU (chW c ch nt n) (8 + 4 * s) 4 (bI is)) k = chW c ch nt n k := fun k q => wU_off q
      have wA : ∀ k i, k ≠ 5 → wU w 5 s (bI is) k i = w k i := fun k i q => by rw [wU_off q]
      have w5 : ∀ i, wU w 5 s (bI is) 5 i = if i = s then bI is else w 5 i := fun i => by
        rw [wU_ap]
        by_cases q : i = s
        · rw [if_pos ⟨rfl, q⟩, if_pos q]
        · rw [if_neg (by omega), if_neg q]
      refine RL.chg hch (fun k hk => by rw [cA k (by omega), chW_o (by omega)]) ?_ (by rw [cA 1 (by omega)]; exact k1.2.2.1) (by omega) (fun s' hs' => ?_) (by rw [cA 1 (by omega)]; exact k1.2.1) (fun k i hk => wA k i (by omega)) (wA 0 27 (by omega)) ?_ ?_
      · have c8 : ∀ s' i, (wU (chW c ch nt n) (8 + 4 * s) 4 (bI is)) (8 + 4 * s') i = if s' = s ∧ i = 4 then bI is else c (8 + 4 * s') i := fun s' i => by
          rw [wU_ap, chW_o (by omega)]
          by_cases q : s' = s ∧ i = 4
          · rw [if_pos (by omega), if_pos q]
          · rw [if_neg (by omega), if_neg q]
        refine ⟨by rw [cA 1 (by omega), k1.1]; exact C.1, hn30, fun s' hs' => ?_, fun s' hs' => ?_⟩
        · obtain ⟨a1, a2, a3, a4, a5⟩ := C.2.2.1 s' hs'
          refine ⟨by rw [c8, if_neg (by omega), wA 3 s' (by omega)]; exact a1, ?_, by rw [c8, if_neg (by omega), wA 4 s' (by omega)]; exact a3, fun p' hp' => ?_, fun k hk p' hp' => ?_⟩
          · rw [c8, w5]
            by_cases q : s' = s
            · rw [if_pos ⟨q, rfl⟩, if_pos q]
            · rw [if_neg (by omega), if_neg q]; exact a2
          · rw [cA _ (by omega), cA _ (by omega), chW_o (by omega), chW_o (by omega), wA 6 _ (by omega), wA 7 _ (by omega)]; exact a4 p' hp'
          · rw [cA _ (by omega), chW_o (by omega), wA 8 _ (by omega)]; exact a5 k hk p' hp'
        · rw [c8, c8, c8, if_neg (by omega), if_neg (by omega), if_neg (by omega)]
          exact C.2.2.2 s' hs'
      · refine NTs_cg2 (hN s' (by omega)) ?_ ?_ (fun k q1 q2 => by rw [cA k (by omega), chW_o (by omega)]) (by rw [cA 1 (by omega)]; exact k1.2.2.2)
        · rw [cA _ (by omega), chW_o (by omega)]
        · rw [cA _ (by omega), chW_o (by omega)]
      · exact GW_st G (fun k i hk => wA k i (by omega)) (wA _ _ (by omega)) (wA _ _ (by omega)) (fun e => ⟨by rw [wA 0 10 (by omega)] at e; exact e, fun i => ⟨wA _ _ (by omega), wA _ _ (by omega)⟩⟩)
      · obtain ⟨x1, x2, x3⟩ := W
        refine ⟨fun s' hs' => ?_, fun i hi => by rw [wA 6 i (by omega), wA 7 i (by omega)]; exact x2 i hi, fun s' hs' => by rw [wA 4 s' (by omega)]; exact x3 s' hs'⟩
        rw [w5]
        split
        · exact ⟨is, rfl⟩
        · exact x1 s' hs'
theorem op_undo (hch : ch + 1 < 1000) (R : RelC x w ch h) : OpOK x w ch h 95 [some (.ref x)] 147 (fun m => [some (.ref m)]) := by
  have R0 := R
  obtain ⟨F, B, A, td, K, c, y, v, tA, fs, sn, tm, n, nt, tn, kn, e0, RL⟩ := R0
  obtain ⟨sz, us, hf⟩ := h
  dsimp only at e0 RL
  subst e0
  have RL0 := RL
  obtain ⟨Q, G, h3, h4, W, h6, h7, h8⟩ := RL0
  have Q0 := Q
  obtain ⟨C, hr, hnt, hntn, hN, hT, hTB, hD, hc2, hch2, htn⟩ := Q0
  have hn30 := C.2.1
  by_cases h0 : n = 0
  · have e1 : c 1 1 = nI 0 := by rw [C.1, h0]
    have e2 : w 0 1 = nI 0 := by rw [G.hn, h0]
    exact OpOK.pure R (-3) (K_undo_0 (d := 297) e1) (fun f m sz us y => R_undo0 (d := 300) e2)
  · obtain ⟨s, hs⟩ : ∃ s, n = s + 1 := ⟨n - 1, by omega⟩
    have hs1 : n - 1 = s := by omega
    have hk4 : c 0 4 = nI kn := h7.1
    have hk27 : w 0 27 = nI kn := h7.2.1
    have hk6 : kn ≤ 6 := h7.2.2.1
    by_cases hk : kn = 0
    · have e' := K_undo (d := 297) (f := emT F B tm td A K) (x := x) (sz := sz) (us := us) (y := y) (v := v) (tm := tA) C.1 (by omega) hn30 (by rw [hk4, hk]) hc2 hnt (by omega)
      rw [hs1] at e'
      have k1 := chW_1 c ch nt n
      refine ⟨_, _, e', FRm.T2 RL, fun f m sz1 us1 y1 => ⟨_, y1, R_undo (d := 300) (by rw [G.hn, hs]) (by omega) (by rw [hk27, hk]), ch + 1, by omega, F, B, A, td, K, _, y, v, tA, fs, sn, tm, s, min nt (n - 1), tn, kn, rfl, ?_⟩⟩
      have cA : ∀ k, k ≠ 1 → (wU (chW c ch nt n) 1 1 (nI s)) k = c k := fun k q => by rw [wU_off q, chW_o q]
      have c1 : ∀ i, i ≠ 1 → (wU (chW c ch nt n) 1 1 (nI s)) 1 i = chW c ch nt n 1 i := fun i q => by rw [wU_ap, if_neg (by omega)]
      have wA : ∀ k i, k ≠ 0 ∨ i ≠ 1 → wU w 0 1 (nI s) k i = w k i := fun k i q => by rw [wU_ap, if_neg (by omega)]
      have wA' : ∀ k, k ≠ 0 → wU w 0 1 (nI s) k = w k := fun k q => funext fun i => wA k i (Or.inl q)
      refine RL.chg hch (fun k hk => ?_) ?_ (by rw [c1 3 (by omega)]; exact k1.2.2.1) (by omega) (fun s' hs' => ?_) (by rw [c1 2 (by omega)]; exact k1.2.1) (fun k i hk => wA k i (by omega)) (wA 0 27 (by omega)) ?_ ?_
      · exact cA k (by omega)
      · refine ⟨wU_at, by omega, fun s' hs' => ?_, fun s' hs' => ?_⟩
        · rw [cA _ (by omega), cA _ (by omega), cA _ (by omega), cA _ (by omega), wA' 3 (by omega), wA' 4 (by omega), wA' 5 (by omega), wA' 6 (by omega), wA' 7 (by omega), wA' 8 (by omega)]
          exact C.2.2.1 s' hs'
        · rw [cA _ (by omega)]
          exact C.2.2.2 s' (by omega)
      · refine NTs_cg2 (hN s' (by omega)) ?_ ?_ (fun k q1 q2 => cA k (by omega)) (by rw [c1 4 (by omega)]; exact k1.2.2.2)
        · exact cA _ (by omega)
        · exact cA _ (by omega)
      · obtain ⟨g1, g2, g3, g4, g5, g6, g7⟩ := G
        refine ⟨wU_at, by omega, by rw [wA 0 12 (by omega)]; exact g3, g4, ⟨fun s' hs' => by rw [wA' 1 (by omega)]; exact g5.1 s' (by omega), fun s' hs' => by rw [wA' 2 (by omega)]; exact g5.2.1 s' (by omega), fun s' hs' => g5.2.2.1 s' (by omega), fun s' hs' => g5.2.2.2 s' (by omega)⟩, fun i hi => TMt_cg (fun k a b => wA k i (by omega)) (g6 i hi), ?_⟩
        intro e i hi
        rw [wA 0 10 (by omega)] at e
        rw [wA' 22 (by omega), wA' 8 (by omega), g7 e i (by omega)]
        unfold rch
        rw [if_pos (by omega), if_pos (by omega)]
      · obtain ⟨x1, x2, x3⟩ := W
        exact ⟨fun s' hs' => by rw [wA' 5 (by omega)]; exact x1 s' hs', fun i hi => by rw [wA' 6 (by omega), wA' 7 (by omega)]; exact x2 i hi, fun s' hs' => by rw [wA' 4 (by omega)]; exact x3 s' (by omega)⟩
    · exact OpOK.pure R (-4) (K_undo_k (d := 297) C.1 (by omega) hn30 hk4 (by omega) hk6) (fun f m sz us y => R_undo4 (d := 300) G.hn (by omega) hn30 hk27 (by omega) hk6)
theorem okSt_T {n : Nat} {a b : Int32} (hn : n ≤ 30) (h : okSt n a b = true) : ∃ (a' b' : Option Nat), a = enc a' ∧ b = enc b' ∧ (∀ i, a' = some i → i < n) ∧ (∀ i, b' = some i → i < n) ∧ (b' ≠ none → a' ≠ none) := by
  unfold okSt at h
  by_cases h1 : a = -1
  · rw [if_pos h1] at h
    exact ⟨none, none, h1, of_decide_eq_true h, fun i e => (nomatch e), fun i e => (nomatch e), fun e => absurd rfl e⟩
  · rw [if_neg h1, Bool.and_eq_true] at h
    obtain ⟨ha, h⟩ := h
    obtain ⟨i, hi, rfl⟩ := vI_T ha (by omega)
    rw [Bool.or_eq_true, Bool.and_eq_true] at h
    rcases h with h | ⟨h, -⟩
    · exact ⟨some i, none, rfl, of_decide_eq_true h, fun k e => (by injection e with e; omega), fun i e => (nomatch e), fun e => absurd rfl e⟩
    · obtain ⟨j, hj, rfl⟩ := vI_T h (by omega)
      exact ⟨some i, some j, rfl, rfl, fun k e => (by injection e with e; omega), fun k e => (by injection e with e; omega), fun _ e => (nomatch e)⟩
theorem coA_8 {c : WD} {n : Nat} {o : Option Nat} (ho : ∀ i, o = some i → i < n) {q : Nat} (hq : q < 5) : coA c n o (8 + 4 * n) q = if q = 3 then coA c n o (8 + 4 * n) 3 else if q = 2 then orO (c (8 + 4 * n) 2) o else c (8 + 4 * n) q := by
  by_cases q3 : q = 3
  · rw [if_pos q3, q3]
  rw [if_neg q3]
  cases o with
  | none =>
    by_cases q2 : q = 2
    · rw [if_pos q2, q2]; rfl
    · rw [if_neg q2]; rfl
  | some g =>
    have := ho g rfl
    show foW c n g (8 + 4 * n) q = _
    rw [foW_8 (by omega) hq, foA_at, if_neg q3]
    rfl
theorem op_state (hch : ch + 1 < 1000) (R : RelC x w ch h) (a b : Int32) : OpOK x w ch h 88 [some (.ref x), some (.int a), some (.int b)] 142 (fun m => [some (.ref m), some (.int a), some (.int b), none, none, none]) := by
  have R0 := R
  obtain ⟨F, B, A, td, K, c, y, v, tA, fs, sn, tm, n, nt, tn, kn, e0, RL⟩ := R0
  obtain ⟨sz, us, hf⟩ := h
  dsimp only at e0 RL
  subst e0
  have RL0 := RL
  obtain ⟨Q, G, h3, h4, W, h6, h7, h8⟩ := RL0
  have Q0 := Q
  obtain ⟨C, hr, hnt, hntn, hN, hT, hTB, hD, hc2, hch2, htn⟩ := Q0
  have hn30 := C.2.1
  cases hok : okSt n a b
  · exact OpOK.pure R (-1) (K_state_no (d := 294) a b C.1 hn30 hok) (fun f m sz us y => R_state_no (d := 298) G.hn hn30 a b hok)
  · by_cases hn : n = 30
    · subst hn
      exact OpOK.pure R (-2) (K_state_full (d := 294) a b C.1 hok) (fun f m sz us y => R_state_full (d := 298) G.hn a b hok)
    · obtain ⟨a, b, rfl, rfl, ha, hb, hab⟩ := okSt_T hn30 hok
      have hn' : n < 30 := by omega
      obtain ⟨x1, x2, x3⟩ := W
      have h7' : by7 c n := fun s hs p hp => by
        rw [CS.so C (by omega) hp, CS.sh C (by omega) hp]
        exact x2 _ (by omega)
      have e' := K_state (d := 294) (f := emT F B tm td A K) (x := x) (sz := sz) (us := us) (y := y) (v := v) (tm := tA) C.1 hn' hc2 ha hb h7' hok
      have eR := fun f m sz us y => R_state_new (d := 298) (f := f) (m := m) (sz := sz) (us := us) (y := y) G.hn hn' a b ha hb hab (enc a) (enc b) (by cases a <;> rfl) (by cases b <;> rfl) hok
      refine ⟨_, _, e', FRm.T2 RL, fun f m sz1 us1 y1 => ⟨_, y1, eR f m sz1 us1 y1, ch + 1, by omega, F, B, A, td, K, _, y, v, tA, (fun s => if s = n then a else fs s), (fun s => if s = n then b else sn s), tm, n + 1, nt, tn, kn, rfl, ?_⟩⟩
      have eW : stW w n a b = wU (wU (stA (stA (stB w n (enc a) (enc b)) n a) n b) 0 1 (nI (n + 1))) 0 10 (nI 1) := rfl
      rw [eW]
      -- the states
      have hbt0 : ∀ s, s < n + 1 → ∀ k, k < 32 → tb (stB w n (enc a) (enc b) 4 s) k = true → k < 16 := fun s hs k hk h => by
        rw [stB_at] at h
        by_cases q : s = n
        · rw [if_neg (by omega), if_neg (by omega), if_neg (by omega), if_pos (by omega), tb_0] at h
          cases h
        · rw [if_neg (by omega), if_neg (by omega), if_neg (by omega), if_neg (by omega), if_neg (by omega)] at h
          exact x3 s (by omega) k hk h
      have hbt1 := stA_bt ha hbt0
      have hbt2 := stA_bt hb hbt1
      have E0 : ∀ s, s < 30 → SEs c w s := C.2.2.1
      have E1 := SE_be (n := n) (a := enc a) (b := enc b) E0
      have E2 := SE_coA ha (fun s hs => hbt0 s (by omega)) hn' E1
      have E3 := SE_coA hb (fun s hs => hbt1 s (by omega)) hn' E2
      have hB67 : ∀ kk, kk = 6 ∨ kk = 7 → ∀ i, stB w n (enc a) (enc b) kk i = w kk i := fun kk hkk i => by rw [stB_at, if_neg (by omega), if_neg (by omega), if_neg (by omega), if_neg (by omega), if_neg (by omega)]
      have g6 := stA_67 (kk := 6) hn' hb (Or.inl rfl) (stA_67 (w := stB w n (enc a) (enc b)) hn' ha (Or.inl rfl) (fun i hi => by rw [hB67 6 (by omega)]; exact (x2 i hi).1))
      have g7 := stA_67 (kk := 7) hn' hb (Or.inr rfl) (stA_67 (w := stB w n (enc a) (enc b)) hn' ha (Or.inr rfl) (fun i hi => by rw [hB67 7 (by omega)]; exact (x2 i hi).2))
      have hBo : ∀ kk i, kk ≠ 3 ∧ kk ≠ 4 ∧ kk ≠ 6 ∧ kk ≠ 7 ∧ kk ≠ 8 → stA (stA (stB w n (enc a) (enc b)) n a) n b kk i = stB w n (enc a) (enc b) kk i := fun kk i hkk => by rw [stA_o hb _ _ hkk, stA_o ha _ _ hkk]
      have hBs : ∀ kk i, kk = 0 ∨ 9 ≤ kk → stA (stA (stB w n (enc a) (enc b)) n a) n b kk i = w kk i := fun kk i hkk => by rw [hBo kk i (by omega), stB_at, if_neg (by omega), if_neg (by omega), if_neg (by omega), if_neg (by omega), if_neg (by omega)]
      have h1 : ∀ i, stA (stA (stB w n (enc a) (enc b)) n a) n b 1 i = if i = n then enc a else w 1 i := fun i => by
        rw [hBo 1 i (by omega), stB_at, if_neg (by omega)]
        by_cases q : i = n
        · rw [if_pos ⟨rfl, q⟩, if_pos q]
        · rw [if_neg (by omega), if_neg (by omega), if_neg (by omega), if_neg (by omega), if_neg q]
      have h2 : ∀ i, stA (stA (stB w n (enc a) (enc b)) n a) n b 2 i = if i = n then enc b else w 2 i := fun i => by
        rw [hBo 2 i (by omega), stB_at, if_neg (by omega), if_neg (by omega)]
        by_cases q : i = n
        · rw [if_pos ⟨rfl, q⟩, if_pos q]
        · rw [if_neg (by omega), if_neg (by omega), if_neg (by omega), if_neg q]
      have h5 : ∀ i, stA (stA (stB w n (enc a) (enc b)) n a) n b 5 i = if i = n then nI 1 else w 5 i := fun i => by
        rw [hBo 5 i (by omega), stB_at, if_neg (by omega), if_neg (by omega), if_neg (by omega), if_neg (by omega)]
        by_cases q : i = n
        · rw [if_pos ⟨rfl, q⟩, if_pos q]
        · rw [if_neg (by omega), if_neg q]
      have k8 : ∀ q, q < 3 → coB c n a b (8 + 4 * n) q = if q = 2 then ahB a b else if q = 1 then enc b else enc a := fun q hq => by
        unfold coB
        rw [coA_8 hb (by omega), if_neg (by omega)]
        have hbe : ∀ q, q < 3 → beW c n (enc a) (enc b) (8 + 4 * n) q = if q = 2 then nI 0 else if q = 1 then enc b else enc a := fun q hq => by
          unfold beW
          rw [wT_off _ _ _ _ (by omega), wU_ap, if_neg (by omega), wU_ap, if_neg (by omega), wU_ap, if_neg (by omega), wU_ap, wU_ap, wU_ap]
          simp only [true_and]
          by_cases q2 : q = 2
          · rw [if_pos q2, if_pos q2]
          · rw [if_neg q2, if_neg q2]
            by_cases q1 : q = 1
            · rw [if_pos q1, if_pos q1]
            · rw [if_neg q1, if_neg q1, if_pos (by omega)]
        by_cases q2 : q = 2
        · rw [if_pos q2, if_pos q2, coA_8 ha (by omega), if_neg (by omega), if_pos rfl, hbe 2 (by omega), if_pos rfl]
          rfl
        · rw [if_neg q2, if_neg q2, coA_8 ha (by omega), if_neg (by omega), if_neg q2, hbe q hq, if_neg q2]
      have ko : ∀ k q, k ≠ 8 + 4 * n ∧ k ≠ 9 + 4 * n ∧ k ≠ 10 + 4 * n ∧ k ≠ 11 + 4 * n → coB c n a b k q = c k q := fun k q hk => coB_o q (by omega)
      generalize stA (stA (stB w n (enc a) (enc b)) n a) n b = u at *
      have E4 : ∀ s, s < 30 → SEs (coB c n a b) u s := E3
      have cA : ∀ k, k ≠ 1 → coW c n ch a b k = coB c n a b k := fun k q => by
        unfold coW
        rw [wU_off q, wU_off q]
      have c1 : ∀ i, coW c n ch a b 1 i = if i = 1 then nI (n + 1) else if i = 2 then nI (ch + 1) else c 1 i := fun i => by
        unfold coW
        rw [wU_ap, wU_ap, ko 1 i (by omega)]
        simp only [true_and]
      have wA : ∀ k i, k ≠ 0 → (wU (wU u 0 1 (nI (n + 1))) 0 10 (nI 1)) k i = u k i := fun k i q => by rw [wU_off q, wU_off q]
      have w0 : ∀ i, (wU (wU u 0 1 (nI (n + 1))) 0 10 (nI 1)) 0 i = if i = 10 then nI 1 else if i = 1 then nI (n + 1) else w 0 i := fun i => by
        rw [wU_ap, wU_ap, hBs 0 i (by omega)]
        simp only [true_and]
      refine RL.chg hch (fun k hk => ?_) ?_ (by rw [c1, if_neg (by omega), if_neg (by omega)]; exact hnt) (by omega) (fun s' hs' => ?_) (by rw [c1, if_neg (by omega), if_pos rfl]) (fun k i hk => by rw [wA k i (by omega), hBs k i (by omega)]) (by rw [w0, if_neg (by omega), if_neg (by omega)]) ?_ ?_
      · rw [cA k (by omega)]
        funext q
        exact ko k q (by omega)
      · refine ⟨by rw [c1, if_pos rfl], by omega, fun s' hs' => SE_cg (E4 s' hs') (fun k q q1 q2 => by rw [cA k (by omega)]) (wA _ _ (by omega)) (wA _ _ (by omega)) (wA _ _ (by omega)) (fun k i q1 _ _ => wA _ _ (by omega)) (fun i _ _ => wA _ _ (by omega)), fun s' hs' => ?_⟩
        rw [cA _ (by omega)]
        by_cases q : s' = n
        · subst q
          rw [k8 0 (by omega), k8 1 (by omega), k8 2 (by omega)]
          simp only [if_pos rfl]
          exact ⟨rfl, rfl, rfl, ha, hb, hab⟩
        · rw [ko _ _ (by omega), ko _ _ (by omega), ko _ _ (by omega)]
          simp only [if_neg q]
          exact C.2.2.2 s' (by omega)
      · refine NTs_cg2 (hN s' hs') ?_ ?_ (fun k q1 q2 => ?_) (by rw [c1, if_neg (by omega), if_neg (by omega)])
        · rw [cA _ (by omega)]
          funext q
          exact ko _ q (by omega)
        · rw [cA _ (by omega)]
          funext q
          exact ko _ q (by omega)
        · rw [cA k (by omega)]
          funext q
          exact ko _ q (by omega)
      · obtain ⟨g1, g2, g3, g4, g5, g6', g7'⟩ := G
        refine ⟨by rw [w0, if_neg (by omega), if_pos rfl], by omega, by rw [w0, if_neg (by omega), if_neg (by omega)]; exact g3, g4, ⟨fun s' hs' => ?_, fun s' hs' => ?_, fun s' hs' i hi => ?_, fun s' hs' i hi => ?_⟩, fun i hi => TMt_cg (fun k q1 q2 => by rw [wA k i (by omega), hBs k i (by omega)]) (g6' i hi), ?_⟩
        · rw [wA _ _ (by omega), h1]
          dsimp only
          by_cases q : s' = n
          · rw [if_pos q, if_pos q]
          · rw [if_neg q, if_neg q]; exact g5.1 s' (by omega)
        · rw [wA _ _ (by omega), h2]
          dsimp only
          by_cases q : s' = n
          · rw [if_pos q, if_pos q]
          · rw [if_neg q, if_neg q]; exact g5.2.1 s' (by omega)
        · by_cases q : s' = n
          · dsimp only at hi; rw [if_pos q] at hi; have := ha i hi; omega
          · dsimp only at hi; rw [if_neg q] at hi; exact g5.2.2.1 s' (by omega) i hi
        · by_cases q : s' = n
          · dsimp only at hi; rw [if_pos q] at hi; have := hb i hi; omega
          · dsimp only at hi; rw [if_neg q] at hi; exact g5.2.2.2 s' (by omega) i hi
        · intro e
          rw [w0, if_pos rfl] at e
          exact absurd e i1_ne
      · refine ⟨fun s' hs' => ?_, fun i hi => ⟨?_, ?_⟩, fun s' hs' k hk => ?_⟩
        · rw [wA _ _ (by omega), h5]
          by_cases q : s' = n
          · rw [if_pos q]; exact ⟨true, rfl⟩
          · rw [if_neg q]; exact x1 s' hs'
        · rw [wA _ _ (by omega)]; exact g6 i hi
        · rw [wA _ _ (by omega)]; exact g7 i hi
        · rw [wA _ _ (by omega)]; exact hbt2 s' hs' k hk
end OPK
