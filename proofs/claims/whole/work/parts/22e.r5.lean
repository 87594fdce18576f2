/-! class and reference: terms kept, shelves -/
section IA
variable {F F' : Hf} {B : Nat → Option Nat} {A : Nat → Nat} {td : Nat → Nat → Int32} {K : KT} {c c' : WD} {v v' : VD} {tA : Nat → Option Nat} {w w' : WD} {fs sn : Nat → Option Nat} {tm : Nat → Nat → Nat} {x sz sz' n nt tn ch kn kn' : Nat}
theorem GW_cg2 (G : GW w n tn fs sn tm) (h : ∀ k i, 1 ≤ k → k ≤ 16 → w' k i = w k i) (h0 : w' 0 1 = w 0 1) (h2 : w' 0 12 = w 0 12) (hr : w' 0 10 = nI 0 → w 0 10 = nI 0 ∧ ∀ i, w' 22 i = w 22 i) : GW w' n tn fs sn tm := by
  obtain ⟨g1, g2, g3, g4, g5, g6, g7⟩ := G
  refine ⟨h0.trans g1, g2, h2.trans g3, g4, ⟨fun s hs => by rw [h 1 s (by omega) (by omega)]; exact g5.1 s hs, fun s hs => by rw [h 2 s (by omega) (by omega)]; exact g5.2.1 s hs, g5.2.2⟩, fun i hi => TMt_cg (fun k a b => h k i (by omega) (by omega)) (g6 i hi), ?_⟩
  intro e i hi
  obtain ⟨e1, e2⟩ := hr e
  have e8 : w' 8 = w 8 := funext fun i => h 8 i (by omega) (by omega)
  rw [e2, e8]
  exact g7 e1 i hi
theorem RLm.gen (R : RLm F B A td K c v tA w fs sn tm x sz n nt tn ch kn) (hz : sz ≤ sz') (hc : ∀ k, (1 ≤ k ∧ k < 128) ∨ 151 ≤ k → c' k = c k) (hc0 : c' 0 2 = c 0 2) (hv : v' 151 0 = v 151 0) (hw : ∀ k i, 1 ≤ k → k ≤ 16 → w' k i = w k i) (hG : GW w' n tn fs sn tm) (hk : KPt c' v' w' tn A kn') (hS : SHt F' B v' w' tn A x sz') : RLm F' B A td K c' v' tA w' fs sn tm x sz' n nt tn ch kn' := by
  obtain ⟨⟨C, q2, q3, q4, q5, q6, q7, q8, q9, q10⟩, G, h3, h4, W, h6, h7, h8⟩ := R
  have c1 : c' 1 = c 1 := hc 1 (by omega)
  have hn := C.2.1
  have es : ∀ t, t < tn → ∀ a b g, a < 16 → b < 16 → g < 16 → sem (rW w' n) fs sn n tm t a b g = sem (rW w n) fs sn n tm t a b g := fun t ht a b g ha hb hg => sem_c G (fun k i a b => hw k i a b) ht ha hb hg
  refine ⟨⟨(CS_w C (fun k i a b => hw k i (by omega) (by omega))).cg (fun k a b => hc k (by omega)) (by rw [c1]), fun s hs => by rw [hc _ (by omega)]; exact q2 s hs, by rw [c1]; exact q3, q4, fun s hs => (q5 s hs).cg (by omega) (fun k hk => hc k (by omega)) (by rw [c1]), hG.hT, q7, fun t ht => TDt_w (q8 t ht) (fun k i a b => hw k i (by omega) b), by rw [c1]; exact q9, q10⟩, hG, h3.cg es, ?_, ?_, ?_, hk, hS⟩
  · obtain ⟨r1, r2⟩ := h4
    refine ⟨by rw [hc 151 (by omega)]; exact r1, ?_⟩
    rw [hv, hc 151 (by omega)]
    rcases r2 with r2 | ⟨t, ht, r3, r4⟩
    · exact Or.inl r2
    · refine Or.inr ⟨t, ht, r3, fun e r hr => ?_⟩
      have eg : ∀ a b, a < 16 → b < 16 → g2 w fs sn n tm t a b = g2 w' fs sn n tm t a b := fun a b ha hb => (es t ht a b 0 ha hb (by omega)).symm
      rw [hw 14 t (by omega) (by omega), ← rwG_c (b := false) eg hr, ← rwG_c (b := true) eg hr, hc 152 (by omega), hc 153 (by omega)]
      exact r4 e r hr
  · obtain ⟨w1, w2, w3⟩ := W
    refine ⟨fun s hs => by rw [hw 5 s (by omega) (by omega)]; exact w1 s hs, fun i hi => by rw [hw 6 i (by omega) (by omega), hw 7 i (by omega) (by omega)]; exact w2 i hi, fun s hs => by rw [hw 4 s (by omega) (by omega)]; exact w3 s hs⟩
  · obtain ⟨a1, a2, a3, a4, a5⟩ := h6
    exact ⟨hc0.trans a1, a2, fun t ht => by have := a3 t ht; omega, a4, by omega⟩
theorem KPt.cg (h : KPt c v w tn A kn) (h0 : c' 0 4 = c 0 4) (hc : ∀ k, k < kn → c' (131 + 2 * k) = c (131 + 2 * k)) (hv : ∀ k, k < kn → v' (130 + 2 * k) 0 = v (130 + 2 * k) 0) (hw0 : w' 0 27 = w 0 27) (h24 : ∀ k, k < kn → w' 24 k = w 24 k) (h25 : ∀ i, i < 256 * kn → w' 25 i = w 25 i) (hl : ∀ t, w' 14 t = w 14 t ∧ w' 15 t = w 15 t) : KPt c' v' w' tn A kn := by
  obtain ⟨k1, k2, k3, k4⟩ := h
  refine ⟨h0.trans k1, hw0.trans k2, k3, fun k hk => ?_⟩
  obtain ⟨t, t1, t2, t3, t4, t5⟩ := k4 k hk
  refine ⟨t, t1, (hv k hk).trans t2, (h24 k hk).trans t3, ?_, fun r hr => by rw [hc k hk, h25 _ (by omega)]; exact t5 r hr⟩
  unfold lacA at t4 ⊢
  rw [(hl t).1, (hl t).2]
  exact t4
theorem ksT_in (T : Nat → Int32) (k : Nat) (v : Nat → Int32) {r : Nat} (hr : r < 256) : ksT T k v 256 (256 * k + r) = v r := by
  unfold ksT
  rw [if_pos (by omega), show 256 * k + r - 256 * k = r by omega]
theorem ksT_of (T : Nat → Int32) (k : Nat) (v : Nat → Int32) {i : Nat} (h : i < 256 * k ∨ 256 * k + 256 ≤ i) : ksT T k v 256 i = T i := by
  unfold ksT
  rw [if_neg (by omega)]
end IA
section OPC
variable {x ch : Nat} {w : WD} {h : Hp}
theorem op_news (R : RelC x w ch h) (k q : Int32) : OpOK x w ch h 121 [some (.ref x), some (.int k), some (.int q)] 190 (fun m => [some (.ref m), some (.int k), some (.int q), none, none, none, none, none]) := by
  have R0 := R
  obtain ⟨F, B, A, td, K, c, y, v, tA, fs, sn, tm, n, nt, tn, kn, e, RL⟩ := R0
  obtain ⟨sz, us, hf⟩ := h
  dsimp only at e RL
  subst e
  have RL0 := RL
  obtain ⟨Q, G, h3, h4, W, h6, h7, h8⟩ := RL0
  have h70 := h7
  obtain ⟨k1, k2, k3, k4⟩ := h70
  by_cases hb : (vI k kn && vI q 4) = true
  · simp only [Bool.and_eq_true] at hb
    obtain ⟨b1, b2⟩ := hb
    obtain ⟨k, hk, rfl⟩ := vI_T b1 (by omega)
    obtain ⟨q, hq, rfl⟩ := vI_T b2 (by omega)
    obtain ⟨t, t1, t2, t3, t4, t5⟩ := k4 k hk
    obtain ⟨c', K', nt', kf, Q', ok', ro, hc, e'⟩ := K_news (F := F) (sz := sz) (us := us) (y := y) (v := v) (tA := tA) Q h3 h4 t1 k1 k3 hk hq t2
    refine ⟨_, _, e' 169, FRm.T (fun a h1 h2 => RL.lo h1 h2), fun f m sz1 us1 y1 => ?_⟩
    obtain ⟨w', kp, e⟩ := R_news (d := 294) (f := f) (m := m) (sz := sz1) (us := us1) (y := y1) G k2 k3 hk hq t3 t1
    have en : nwC (fun r => w 25 (256 * k + r)) (rwG (w 14 t) (g2 w fs sn n tm t) false) q 256 = nwC (c (131 + 2 * k)) (rwG (w 14 t) (g2 w fs sn n tm t) false) q 256 := itr_cg (fun r hr b => by rw [t5 r hr])
    rw [en] at e
    exact ⟨w', y1, e, ch, by omega, F, B, A, td, K', c', y, vU v 151 0 (.ref (A t)), tA, fs, sn, tm, n, nt', tn, kn, rfl, (RL.asked kf Q' ok' (ROk_of t1 ro hc Q.2.2.2.2.2.2.2.2.2.1 vU_at) (fun k i hk => vU_of (Or.inl hk))).kj kp.j⟩
  · have hb' : (vI k kn && vI q 4) = false := by simpa using hb
    exact OpOK.pure R (-1) (K_news_no (d := 297) k1 k3 hb') (fun f m sz us y => R_news_no (d := 294) k2 k3 hb')
theorem op_forget (R : RelC x w ch h) : OpOK x w ch h 123 [some (.ref x), none] 192 (fun m => [some (.ref m), none]) := by
  obtain ⟨F, B, A, td, K, c, y, v, tA, fs, sn, tm, n, nt, tn, kn, e, RL⟩ := R
  obtain ⟨sz, us, hf⟩ := h
  dsimp only at e RL
  subst e
  have RL0 := RL
  obtain ⟨Q, G, h3, h4, W, h6, h7, h8⟩ := RL0
  refine ⟨_, _, K_forget (d := 300), FRm.T (fun a h1 h2 => RL.lo h1 h2), fun f m sz1 us1 y1 => ⟨wU w 0 27 (nI 0), y1, ?_, ch, by omega, F, B, A, td, K, wU c 0 4 (nI 0), y, v, tA, fs, sn, tm, n, nt, tn, 0, rfl, ?_⟩⟩
  · rw [h7.1, ← h7.2.1]
    exact R_forget (d := 300)
  · refine RL.gen (Nat.le_refl _) (fun k hk => wU_off (by omega)) (by rw [wU_ap, if_neg (by omega)]) rfl (fun k i a b => by rw [wU_off (by omega)]) ?_ ⟨wU_at, wU_at, by omega, fun k hk => by omega⟩ ?_
    · exact GW_cg2 G (fun k i a b => by rw [wU_off (by omega)]) (by rw [wU_ap, if_neg (by omega)]) (by rw [wU_ap, if_neg (by omega)]) (fun e => ⟨by rw [wU_ap, if_neg (by omega)] at e; exact e, fun i => by rw [wU_off (by omega)]⟩)
    · exact h8.cg (fun _ _ _ => rfl) (Nat.le_refl _) (fun _ _ _ => rfl) (fun k i a b => by rw [wU_off (by omega)])
theorem op_keepTerm (R : RelC x w ch h) (s : Int32) : OpOK x w ch h 120 [some (.ref x), some (.int s), none] 189 (fun m => [some (.ref m), some (.int s)]) := by
  have R0 := R
  obtain ⟨F, B, A, td, K, c, y, v, tA, fs, sn, tm, n, nt, tn, kn, e, RL⟩ := R0
  obtain ⟨sz, us, hf⟩ := h
  dsimp only at e RL
  subst e
  have RL0 := RL
  obtain ⟨Q, G, h3, h4, W, h6, h7, h8⟩ := RL0
  have ht60 := G.ht60
  have h70 := h7
  obtain ⟨k1, k2, k3, k4⟩ := h70
  by_cases hb : vI s tn = true
  · obtain ⟨t, ht, rfl⟩ := vI_T hb (by omega)
    have hD := Q.2.2.2.2.2.2.2.1 t ht
    have hB := Q.2.2.2.2.2.2.1.1 t ht
    by_cases hl : lacA w t = 0 ∧ kn < 6
    · obtain ⟨hl, hk6⟩ := hl
      obtain ⟨c', K', nt', kf, Q', ok', ro, hc, e'⟩ := K_keepTerm (F := F) (sz := sz) (us := us) (y := y) (v := v) (tA := tA) Q h3 h4 ⟨h6.1, ht, h6.2.1 t ht, hl⟩ k1 hk6
      refine ⟨_, _, e' 169, FRm.T (fun a h1 h2 => RL.lo h1 h2), fun f m sz1 us1 y1 => ?_⟩
      obtain ⟨w', kp, e⟩ := R_keepTerm (d := 293) (f := f) (m := m) (sz := sz1) (us := us1) (y := y1) G k2 hk6 ht hl
      refine ⟨_, y1, e, ch, by omega, F, B, A, td, K', _, y, _, tA, fs, sn, tm, n, nt', tn, kn + 1, rfl, ?_⟩
      have R1 := RL.asked kf Q' ok' (ROk_of ht ro hc Q.2.2.2.2.2.2.2.2.2.1 (vU_at (v := v))) (fun k i hk => vU_of (Or.inl hk))
      have G0 : GW (wU w 24 kn (nI t)) n tn fs sn tm := G.cg (fun k i hk => by rw [wU_off (by omega)]) (fun i => by rw [wU_off (by omega)])
      have G1 := G0.kp kp
      have w1 : ∀ k i, k ≤ 16 ∨ 23 ≤ k → ¬ (k = 0 ∧ i = 10) → ¬ (k = 24 ∧ i = kn) → w' k i = w k i := fun k i a b d => by rw [kp.1 k i a b, wU_ap, if_neg (by omega)]
      have w24 : w' 24 kn = nI t := by rw [kp.1 24 kn (by omega) (by omega), wU_at]
      refine R1.gen (Nat.le_refl _) (fun k hk => ?_) ?_ ?_ (fun k i a b => ?_) ?_ ?_ ?_
      · funext i; rw [wU_off (by omega), wT_off _ _ _ _ (by omega)]
      · rw [wU_ap, if_neg (by omega), wT_off _ _ _ _ (by omega)]
      · exact vU_of (Or.inl (by omega))
      · rw [wU_off (by omega), wT_off _ _ _ _ (by omega), w1 k i (by omega) (by omega) (by omega)]
      · refine GW_cg2 G1 (fun k i a b => by rw [wU_off (by omega), wT_off _ _ _ _ (by omega)]) (by rw [wU_ap, if_neg (by omega), wT_off _ _ _ _ (by omega)]) (by rw [wU_ap, if_neg (by omega), wT_off _ _ _ _ (by omega)]) (fun e => ⟨by rw [wU_ap, if_neg (by omega), wT_off _ _ _ _ (by omega)] at e; exact e, fun i => by rw [wU_off (by omega), wT_off _ _ _ _ (by omega)]⟩)
      · refine ⟨wU_at, wU_at, by omega, fun k hk => ?_⟩
        by_cases q : k = kn
        · subst q
          refine ⟨t, ht, vU_at, ?_, ?_, fun r hr => ?_⟩
          · rw [wU_off (by omega), wT_off _ _ _ _ (by omega)]; exact w24
          · unfold lacA at hl ⊢
            rw [wU_off (by omega), wT_off _ _ _ _ (by omega), wU_off (by omega), wT_off _ _ _ _ (by omega), w1 14 t (by omega) (by omega) (by omega), w1 15 t (by omega) (by omega) (by omega)]
            exact hl
          · rw [wU_off (by omega), wT_at, wU_off (by omega), wT_at, pk_cpy_in (by omega) (by omega), ksT_in _ _ _ hr, Nat.zero_add, Nat.sub_zero]
            exact (ro r hr).1
        · obtain ⟨t0, t1, t2, t3, t4, t5⟩ := k4 k (by omega)
          refine ⟨t0, t1, ?_, ?_, ?_, fun r hr => ?_⟩
          · rw [vU_of (Or.inl (by omega)), vU_of (Or.inl (by omega))]; exact t2
          · rw [wU_off (by omega), wT_off _ _ _ _ (by omega), w1 24 k (by omega) (by omega) (by omega)]; exact t3
          · unfold lacA at t4 ⊢
            rw [wU_off (by omega), wT_off _ _ _ _ (by omega), wU_off (by omega), wT_off _ _ _ _ (by omega), w1 14 t0 (by omega) (by omega) (by omega), w1 15 t0 (by omega) (by omega) (by omega)]
            exact t4
          · rw [wU_off (by omega), wT_off _ _ _ _ (by omega), wU_off (by omega), wT_at, ksT_of _ _ _ (by omega), kf.1 _ (by omega)]
            exact t5 r hr
      · exact h8.cg (fun _ _ _ => rfl) (Nat.le_refl _) (fun d hd i => by rw [vU_of (Or.inl (by omega)), vU_of (Or.inl (by omega))]) (fun k i a b => by rw [wU_off (by omega), wT_off _ _ _ _ (by omega), w1 k i (by omega) (by omega) (by omega)])
    · have hor : ¬ lacA w t = 0 ∨ kn = 6 := by
        by_cases q : lacA w t = 0
        · exact Or.inr (by have : ¬ kn < 6 := fun h => hl ⟨q, h⟩; omega)
        · exact Or.inl q
      exact OpOK.pure R _ (K_keepTerm_no (d := 297) h6.1 ht60 ht (h6.2.1 t ht) hB.1 hB.2 hD.1 hD.2.1 k1 k3 hor) (fun f m sz us y => R_keepTerm_no (d := 293) G k2 k3 ht hor)
  · have hb' : vI s tn = false := by simpa using hb
    exact OpOK.pure R (-1) (K_keepTerm_nt (d := 297) h6.1 ht60 hb') (fun f m sz us y => R_keepTerm_nt (d := 293) G hb')
theorem op_fresh (R : RelC x w ch h) (k q : Int32) : OpOK x w ch h 122 [some (.ref x), some (.int k), some (.int q), none] 191 (fun m => [some (.ref m), some (.int k), some (.int q), none]) := by
  have R0 := R
  obtain ⟨F, B, A, td, K, c, y, v, tA, fs, sn, tm, n, nt, tn, kn, e, RL⟩ := R0
  obtain ⟨sz, us, hf⟩ := h
  dsimp only at e RL
  subst e
  have RL0 := RL
  obtain ⟨Q, G, h3, h4, W, h6, h7, h8⟩ := RL0
  have h70 := h7
  obtain ⟨k1, k2, k3, k4⟩ := h70
  by_cases hb : (vI k kn && vI q 4) = true
  · simp only [Bool.and_eq_true] at hb
    obtain ⟨b1, b2⟩ := hb
    obtain ⟨k, hk, rfl⟩ := vI_T b1 (by omega)
    obtain ⟨q, hq, rfl⟩ := vI_T b2 (by omega)
    obtain ⟨t, t1, t2, t3, t4, t5⟩ := k4 k hk
    obtain ⟨c', K', nt', kf, Q', ok', ro, hc, e'⟩ := K_fresh (F := F) (sz := sz) (us := us) (y := y) (v := v) (tA := tA) Q h3 h4 t1 k1 k3 hk hq t2
    refine ⟨_, _, e' 168, FRm.T (fun a h1 h2 => RL.lo h1 h2), fun f m sz1 us1 y1 => ?_⟩
    obtain ⟨w', kp, e⟩ := R_fresh (d := 293) (f := f) (m := m) (sz := sz1) (us := us1) (y := y1) G k2 k3 hk hq t3 t1
    have en : nwC (fun r => w 25 (256 * k + r)) (rwG (w 14 t) (g2 w fs sn n tm t) false) q 256 = nwC (c (131 + 2 * k)) (rwG (w 14 t) (g2 w fs sn n tm t) false) q 256 := itr_cg (fun r hr b => by rw [t5 r hr])
    rw [en] at e
    refine ⟨_, y1, e, ch, by omega, F, B, A, td, K', _, y, _, tA, fs, sn, tm, n, nt', tn, kn, rfl, ?_⟩
    have R1 := RL.asked kf Q' ok' (ROk_of t1 ro hc Q.2.2.2.2.2.2.2.2.2.1 (vU_at (v := v))) (fun k i hk => vU_of (Or.inl hk))
    have G1 := G.kp kp
    refine R1.gen (Nat.le_refl _) (fun k hk => ?_) ?_ ?_ (fun k i a b => ?_) ?_ ?_ ?_
    · funext i; rw [wT_off _ _ _ _ (by omega)]
    · rw [wT_off _ _ _ _ (by omega)]
    · exact vU_of (Or.inl (by omega))
    · rw [wT_off _ _ _ _ (by omega), kp.1 k i (by omega) (by omega)]
    · exact G1.cg (fun k i hk => by rw [wT_off _ _ _ _ (by omega)]) (fun i => by rw [wT_off _ _ _ _ (by omega)])
    · refine ⟨by rw [wT_off _ _ _ _ (by omega), kf.1 0 (by omega)]; exact k1, by rw [wT_off _ _ _ _ (by omega), kp.1 0 27 (by omega) (by omega)]; exact k2, k3, fun j hj => ?_⟩
      by_cases q : j = k
      · subst q
        refine ⟨t, t1, vU_at, ?_, ?_, fun r hr => ?_⟩
        · rw [wT_off _ _ _ _ (by omega), kp.1 24 j (by omega) (by omega)]; exact t3
        · unfold lacA at t4 ⊢
          rw [wT_off _ _ _ _ (by omega), wT_off _ _ _ _ (by omega), kp.1 14 t (by omega) (by omega), kp.1 15 t (by omega) (by omega)]
          exact t4
        · rw [wT_at, wT_at, pk_cpy_in (by omega) (by omega), ksT_in _ _ _ hr, Nat.zero_add, Nat.sub_zero]
          exact (ro r hr).1
      · obtain ⟨t0, u1, u2, u3, u4, u5⟩ := k4 j hj
        refine ⟨t0, u1, ?_, ?_, ?_, fun r hr => ?_⟩
        · rw [vU_of (Or.inl (by omega)), vU_of (Or.inl (by omega))]; exact u2
        · rw [wT_off _ _ _ _ (by omega), kp.1 24 j (by omega) (by omega)]; exact u3
        · unfold lacA at u4 ⊢
          rw [wT_off _ _ _ _ (by omega), wT_off _ _ _ _ (by omega), kp.1 14 t0 (by omega) (by omega), kp.1 15 t0 (by omega) (by omega)]
          exact u4
        · rw [wT_off _ _ _ _ (by omega), wT_at, ksT_of _ _ _ (by omega), kf.1 _ (by omega)]
          exact u5 r hr
    · exact h8.cg (fun _ _ _ => rfl) (Nat.le_refl _) (fun d hd i => by rw [vU_of (Or.inl (by omega)), vU_of (Or.inl (by omega))]) (fun k i a b => by rw [wT_off _ _ _ _ (by omega), kp.1 k i (by omega) (by omega)])
  · have hb' : (vI k kn && vI q 4) = false := by simpa using hb
    exact OpOK.pure R (-1) (K_fresh_no (d := 296) k1 k3 hb') (fun f m sz us y => R_fresh_no (d := 293) k2 k3 hb')
end OPC
