/-! class and reference: shelves -/
section JA
variable {F F' : Hf} {B : Nat → Option Nat} {A : Nat → Nat} {v v' : VD} {w w' : WD} {x sz sz' tn : Nat}
theorem SHt.put {e : Nat} (h : SHt F B v w tn A x sz) (hz : sz ≤ sz') (hF : ∀ q, x + 186 ≤ q → q < sz → F' q = F q) (hv : ∀ d, d < 8 → d ≠ e → ∀ i, v' (143 + d) i = v (143 + d) i) (hw : ∀ d, d < 8 → d ≠ e → (∀ k, 26 ≤ k → k ≤ 28 → w' k d = w k d) ∧ ∀ i, i < 60 → w' 29 (60 * d + i) = w 29 (60 * d + i)) (h1 : SH1 F' B v' w' tn A x sz' e) (hq : ∀ q, hasA v' e q → sz ≤ q) : SHt F' B v' w' tn A x sz' := by
  have hlt : ∀ d, d < 8 → ∀ q, hasA v d q → q < sz := by
    intro d hd q hA
    rcases h.1 d hd with h | h | ⟨-, h2, h3, r, h4, h5⟩ | ⟨-, h2, h3, r, h4, h5⟩
    · rcases hA with hA | hA
      · rw [h.2.2.1] at hA; cases hA
      · rw [h.2.2.2] at hA; cases hA
    · rcases hA with hA | hA
      · rw [h.2.1] at hA; cases hA
      · rw [h.2.2.1] at hA; cases hA
    · rcases hA with hA | hA
      · rw [h4] at hA; injection hA with hA; subst hA; exact h5.choose_spec.choose_spec.2.2.2.1
      · rw [h3] at hA; cases hA
    · rcases hA with hA | hA
      · rw [h3] at hA; cases hA
      · rw [h4] at hA; injection hA with hA; subst hA; exact h5.choose_spec.choose_spec.2.2.2.1
  have hv2 : ∀ d, d < 8 → d ≠ e → ∀ q, hasA v' d q → hasA v d q := fun d hd hde q hA => by
    unfold hasA at hA ⊢
    rw [hv d hd hde, hv d hd hde] at hA
    exact hA
  refine ⟨fun d hd => ?_, fun d d2 hd hd2 hdd q hA hA2 => ?_⟩
  · by_cases q : d = e
    · rw [q]; exact h1
    · exact (h.1 d hd).cg (fun q2 hq2 hA => hF q2 hq2 (hlt d hd q2 hA)) hz (hv d hd q) (hw d hd q).1 (hw d hd q).2
  · by_cases q1 : d = e
    · subst q1
      have a1 := hq q hA
      have a2 := hlt d2 hd2 q (hv2 d2 hd2 (by omega) q hA2)
      omega
    · by_cases q2 : d2 = e
      · subst q2
        have a1 := hq q hA2
        have a2 := hlt d hd q (hv2 d hd q1 q hA)
        omega
      · exact h.2 d d2 hd hd2 hdd q (hv2 d hd q1 q hA) (hv2 d2 hd2 q2 q hA2)
theorem rwT_in (T : Nat → Int32) (b : Nat) (f : Nat → Int32) {j i : Nat} (hi : i < j) : rwT T b f j (b + i) = f i := by
  unfold rwT
  rw [if_pos (by omega), Nat.add_sub_cancel_left]
theorem rwT_of (T : Nat → Int32) (b : Nat) (f : Nat → Int32) {j i : Nat} (h : i < b ∨ b + j ≤ i) : rwT T b f j i = T i := by
  unfold rwT
  rw [if_neg (by omega)]
theorem clV_e (v : VD) (e : Nat) : clV v e (143 + e) 0 = .null ∧ clV v e (143 + e) 1 = .null ∧ clV v e (143 + e) 2 = .null := by
  unfold clV
  refine ⟨?_, ?_, ?_⟩
  · rw [vU_of (Or.inr (by omega)), vU_of (Or.inr (by omega)), vU_at]
  · rw [vU_of (Or.inr (by omega)), vU_at]
  · rw [vU_at]
theorem clV_of (v : VD) {e k : Nat} (i : Nat) (h : k ≠ 143 + e) : clV v e k i = v k i := by
  unfold clV
  rw [vU_of (Or.inl h), vU_of (Or.inl h), vU_of (Or.inl h)]
theorem kpW_lo (w : WD) (e : Nat) (q k s : Int32) {a : Nat} (i : Nat) (h : a < 26 ∨ 28 < a) : kpW w e q k s a i = w a i := by
  unfold kpW
  rw [wU_off (by omega), wU_off (by omega), wU_off (by omega)]
theorem kpW_of (w : WD) (e : Nat) (q k s : Int32) (a : Nat) {i : Nat} (h : i ≠ e) : kpW w e q k s a i = w a i := by
  unfold kpW
  rw [wU_ap, if_neg (by omega), wU_ap, if_neg (by omega), wU_ap, if_neg (by omega)]
theorem kpW_e (w : WD) (e : Nat) (q k s : Int32) : kpW w e q k s 26 e = q ∧ kpW w e q k s 27 e = k ∧ kpW w e q k s 28 e = s := by
  unfold kpW
  refine ⟨?_, ?_, ?_⟩
  · rw [wU_off (by omega), wU_off (by omega), wU_at]
  · rw [wU_off (by omega), wU_at]
  · rw [wU_at]
theorem bytefit {q : Nat} (h : q < 128) : fits .byte (.int (nI q)) = true := by
  have : ∀ q, q < 128 → fits .byte (.int (nI q)) = true := by decide +kernel
  exact this q h
theorem bytefitm : fits .byte (.int (-1)) = true := by decide
theorem bytefit0 : fits .byte (.int 0) = true := by decide
end JA
section OPD
variable {x ch : Nat} {w : WD} {h : Hp}
theorem GW.k26 {w w' : WD} {n tn : Nat} {fs sn : Nat → Option Nat} {tm : Nat → Nat → Nat} (G : GW w n tn fs sn tm) (h : ∀ k i, k < 26 → w' k i = w k i) : GW w' n tn fs sn tm := G.cg (fun k i hk => h k i (by omega)) (fun i => h 22 i (by omega))
theorem KPt.k26 {c : WD} {v v' : VD} {w w' : WD} {tn kn : Nat} {A : Nat → Nat} (h : KPt c v w tn A kn) (hw : ∀ k i, k < 26 → w' k i = w k i) (hv : ∀ k i, k < 143 → v' k i = v k i) : KPt c v' w' tn A kn :=
  h.cg rfl (fun _ _ => rfl) (fun k hk => hv _ _ (by have := h.2.2.1; omega)) (hw 0 27 (by omega)) (fun k _ => hw 24 k (by omega)) (fun i _ => hw 25 i (by omega)) (fun t => ⟨hw 14 t (by omega), hw 15 t (by omega)⟩)
theorem op_keep (R : RelC x w ch h) (e q k : Int32) : OpOK x w ch h 127 [some (.ref x), some (.int e), some (.int q), some (.int k)] 195 (fun m => [some (.ref m), some (.int e), some (.int q), some (.int k), none, none, none]) := by
  have R0 := R
  obtain ⟨F, B, A, td, K, c, y, v, tA, fs, sn, tm, n, nt, tn, kn, e0, RL⟩ := R0
  obtain ⟨sz, us, hf⟩ := h
  dsimp only at e0 RL
  subst e0
  have RL0 := RL
  obtain ⟨Q, G, h3, h4, W, h6, h7, h8⟩ := RL0
  have ht60 := G.ht60
  have C := Q.1
  have hn30 := C.2.1
  have hBs : B sz = none := RL.hi
  have hx186 : x + 186 ≤ sz := h6.2.2.2.2
  have hxs : x + 154 ≤ sz := by omega
  by_cases hb : okK e q k n tn = true
  · have hb0 := hb
    unfold okK at hb
    simp only [Bool.and_eq_true, Bool.or_eq_true, decide_eq_true_eq] at hb
    obtain ⟨b1, b2⟩ := hb
    obtain ⟨e, he, rfl⟩ := vI_T b1 (by omega)
    have g0 : ∀ (q k s : Int32) (T : Nat → Int32), ∀ a i, a < 26 → wT (kpW w e q k s) 29 T a i = w a i := fun q k s T a i ha => by rw [wT_off _ _ _ _ (by omega), kpW_lo _ _ _ _ _ _ (Or.inl ha)]
    rcases b2 with (b2 | ⟨b2 | b2, b3⟩) | ⟨b2, b3⟩
    · -- nothing
      refine ⟨_, _, (by rw [b2]; exact K_keep_0 (d := 296) he k), FRm.T (fun a h1 h2 => RL.lo h1 h2), fun f m sz1 us1 y1 => ⟨_, y1, R_keep_01 (d := 294) G he k (Or.inl b2), ch, by omega, F, B, A, td, K, c, y, _, tA, fs, sn, tm, n, nt, tn, kn, rfl, ?_⟩⟩
      refine RL.gen (Nat.le_refl _) (fun _ _ => rfl) rfl (clV_of _ _ (by omega)) (fun k i a b => g0 _ _ _ _ _ _ (by omega)) (G.k26 (fun k i hk => g0 _ _ _ _ _ _ hk)) (h7.k26 (fun k i hk => g0 _ _ _ _ _ _ hk) (fun k i hk => clV_of _ _ (by omega))) ?_
      refine h8.put (e := e) (Nat.le_refl _) (fun _ _ _ => rfl) (fun d hd hde i => clV_of _ _ (by omega)) (fun d hd hde => ⟨fun k k1 k2 => by rw [wT_off _ _ _ _ (by omega), kpW_of _ _ _ _ _ _ hde], fun i hi => by rw [wT_at]; exact rwT_of _ _ _ (by omega)⟩) ?_ ?_
      · obtain ⟨z0, z1, z2⟩ := clV_e v e
        refine Or.inl ⟨?_, z0, z1, z2⟩
        rw [wT_off _ _ _ _ (by omega), (kpW_e _ _ _ _ _).1, b2]; rfl
      · intro r hA
        obtain ⟨z0, z1, z2⟩ := clV_e v e
        rcases hA with hA | hA
        · rw [z1] at hA; cases hA
        · rw [z2] at hA; cases hA
    · -- a term
      obtain ⟨t, ht, rfl⟩ := vI_T b3 (by omega)
      have hvv : ∀ k i, k ≠ 143 + e → vU (clV v e) (143 + e) 0 (.ref (A t)) k i = v k i := fun k i hk => by rw [vU_of (Or.inl hk), clV_of _ _ hk]
      refine ⟨_, _, (by rw [b2]; exact K_keep_1 (d := 296) he h6.1 ht60 ht (h6.2.1 t ht)), FRm.T (fun a h1 h2 => RL.lo h1 h2), fun f m sz1 us1 y1 => ⟨_, y1, R_keep_01 (d := 294) G he _ (Or.inr ⟨b2, b3⟩), ch, by omega, F, B, A, td, K, c, y, _, tA, fs, sn, tm, n, nt, tn, kn, rfl, ?_⟩⟩
      refine RL.gen (Nat.le_refl _) (fun _ _ => rfl) rfl (hvv _ _ (by omega)) (fun k i a b => g0 _ _ _ _ _ _ (by omega)) (G.k26 (fun k i hk => g0 _ _ _ _ _ _ hk)) (h7.k26 (fun k i hk => g0 _ _ _ _ _ _ hk) (fun k i hk => hvv _ _ (by omega))) ?_
      obtain ⟨z0, z1, z2⟩ := clV_e v e
      refine h8.put (e := e) (Nat.le_refl _) (fun _ _ _ => rfl) (fun d hd hde i => hvv _ _ (by omega)) (fun d hd hde => ⟨fun k k1 k2 => by rw [wT_off _ _ _ _ (by omega), kpW_of _ _ _ _ _ _ hde], fun i hi => by rw [wT_at]; exact rwT_of _ _ _ (by omega)⟩) ?_ ?_
      · refine Or.inr (Or.inl ⟨?_, ?_, ?_, t, ht, vU_at, ?_⟩)
        · rw [wT_off _ _ _ _ (by omega), (kpW_e _ _ _ _ _).1, b2]
        · rw [vU_of (Or.inr (by omega))]; exact z1
        · rw [vU_of (Or.inr (by omega))]; exact z2
        · rw [wT_off _ _ _ _ (by omega), (kpW_e _ _ _ _ _).2.1]
      · intro r hA
        rcases hA with hA | hA
        · rw [vU_of (Or.inr (by omega)), z1] at hA; cases hA
        · rw [vU_of (Or.inr (by omega)), z2] at hA; cases hA
    · -- a row of ints
      obtain ⟨t, ht, rfl⟩ := vI_T b3 (by omega)
      have hD := Q.2.2.2.2.2.2.2.1 t ht
      have hB := Q.2.2.2.2.2.2.1.1 t ht
      subst b2
      by_cases hl : lacA w t = 0
      · obtain ⟨c', K', nt', kf, Q', ok', ro, hc, e'⟩ := K_keep_3 (F := F) (sz := sz) (us := us) (y := y) (v := v) (tA := tA) he hxs hBs Q h3 h4 ⟨h6.1, ht, h6.2.1 t ht, hl⟩
        refine ⟨_, _, e' 168, ⟨by dsimp only; omega, by dsimp only; omega, by dsimp only; omega, by dsimp only; omega, fun a h1 h2 => emCT_lo h1 (RL.lo h1 h2) (RL.lo h1 h2) (hup_of (by omega))⟩, fun f m sz1 us1 y1 => ?_⟩
        obtain ⟨w', kp, e1⟩ := R_keep_3 (d := 294) (f := f) (m := m) (sz := sz1) (us := us1) (y := y1) G he ht hl
        refine ⟨_, y1, e1, ch, by omega, _, B, A, td, K', c', y, _, tA, fs, sn, tm, n, nt', tn, kn, rfl, ?_⟩
        have R1 := RL.asked kf Q' ok' (ROk_of ht ro hc Q.2.2.2.2.2.2.2.2.2.1 (vU_at (v := v))) (fun k i hk => vU_of (Or.inl hk))
        have hvv : ∀ k i, k ≠ 143 + e → vU (clV (vU v 151 0 (.ref (A t))) e) (143 + e) 1 (.ref sz) k i = vU v 151 0 (.ref (A t)) k i := fun k i hk => by rw [vU_of (Or.inl hk), clV_of _ _ hk]
        have w1 : ∀ k i, k ≤ 16 ∨ (23 ≤ k ∧ k < 26) → ¬ (k = 0 ∧ i = 10) → wT w' 29 (rwT (zrT (w 29) e) (60 * e) (fun s => nI (cntS (rwG (w 14 t) (g2 w fs sn n tm t) false) s 256)) n) k i = w k i := fun k i a b => by rw [wT_off _ _ _ _ (by omega), kp.1 k i (by omega) b, kpW_lo _ _ _ _ _ _ (by omega)]
        have G0 : GW (kpW w e (nI 3) (nI t) (nI n)) n tn fs sn tm := G.k26 (fun k i hk => kpW_lo _ _ _ _ _ _ (Or.inl hk))
        have G1 := G0.kp kp
        refine R1.gen (by omega) (fun _ _ => rfl) rfl (hvv _ _ (by omega)) (fun k i a b => w1 k i (by omega) (by omega)) (G1.cg (fun k i hk => by rw [wT_off _ _ _ _ (by omega)]) (fun i => by rw [wT_off _ _ _ _ (by omega)])) (R1.2.2.2.2.2.2.1.cg rfl (fun _ _ => rfl) (fun k hk => hvv _ _ (by have := h7.2.2.1; omega)) (w1 0 27 (by omega) (by omega)) (fun k _ => w1 24 k (by omega) (by omega)) (fun i _ => w1 25 i (by omega) (by omega)) (fun t => ⟨w1 14 t (by omega) (by omega), w1 15 t (by omega) (by omega)⟩)) ?_
        obtain ⟨z0, z1, z2⟩ := clV_e (vU v 151 0 (.ref (A t))) e
        refine R1.2.2.2.2.2.2.2.put (e := e) (by omega) (fun q q1 q2 => hup_of (by omega)) (fun d hd hde i => hvv _ _ (by omega)) (fun d hd hde => ⟨fun k k1 k2 => by rw [wT_off _ _ _ _ (by omega), kp.1 k d (by omega) (by omega), kpW_of _ _ _ _ _ _ hde], fun i hi => by rw [wT_at, rwT_of _ _ _ (by omega)]; exact rwT_of _ _ _ (by omega)⟩) ?_ ?_
        · refine Or.inr (Or.inr (Or.inl ⟨?_, ?_, ?_, sz, vU_at, n, G64 (c' 152) n 256, by omega, ?_, by omega, by omega, hBs, hup_at, fun i hi => ?_, fun h => by omega⟩))
          · rw [wT_off _ _ _ _ (by omega), kp.1 26 e (by omega) (by omega), (kpW_e _ _ _ _ _).1]
          · rw [vU_of (Or.inr (by omega))]; exact z0
          · rw [vU_of (Or.inr (by omega))]; exact z2
          · rw [wT_off _ _ _ _ (by omega), kp.1 28 e (by omega) (by omega), (kpW_e _ _ _ _ _).2.2]
          · rw [wT_at, rwT_in _ _ _ hi]
            unfold G64
            rw [if_pos hi]
            have : cntS (c' 152) i 256 = cntS (rwG (w 14 t) (g2 w fs sn n tm t) false) i 256 := itr_cg (fun r hr b => by rw [(ro r hr).1])
            rw [this]
        · intro r hA
          rcases hA with hA | hA
          · rw [vU_at] at hA; injection hA with hA; subst hA; exact Nat.le_refl _
          · rw [vU_of (Or.inr (by omega)), z2] at hA; cases hA
      · exact OpOK.pure R _ (K_keep_3no (d := 296) he h6.1 ht60 ht (h6.2.1 t ht) hB.1 hB.2 hD.1 hD.2.1 hl) (fun f m sz us y => R_keep_3no (d := 294) G he ht hl)
    · -- a row of bytes
      obtain ⟨k, hk, rfl⟩ := vI_T b3 (by omega)
      subst b2
      have h70 : ∀ p, p < 16 → ∃ q, q < 128 ∧ c (10 + 4 * k) p = nI q := fun p hp => by
        rw [CS.sh C (by omega) hp]
        exact (W.2.1 (16 * k + p) (by omega)).2
      have hvv : ∀ k i, k ≠ 143 + e → vU (clV v e) (143 + e) 2 (.ref sz) k i = v k i := fun k i hk => by rw [vU_of (Or.inl hk), clV_of _ _ hk]
      refine ⟨_, _, K_keep_4 (d := 296) he C.1 hn30 hk hxs hBs h70, ⟨by dsimp only; omega, by dsimp only; omega, by dsimp only; omega, by dsimp only; omega, fun a h1 h2 => emCT_lo h1 (RL.lo h1 h2) (RL.lo h1 h2) (hup_of (by omega))⟩, fun f m sz1 us1 y1 => ⟨_, y1, R_keep_4 (d := 294) G he hk, ch, by omega, _, B, A, td, K, c, y, _, tA, fs, sn, tm, n, nt, tn, kn, rfl, ?_⟩⟩
      refine RL.gen (by omega) (fun _ _ => rfl) rfl (hvv _ _ (by omega)) (fun k i a b => g0 _ _ _ _ _ _ (by omega)) (G.k26 (fun k i hk => g0 _ _ _ _ _ _ hk)) (h7.k26 (fun k i hk => g0 _ _ _ _ _ _ hk) (fun k i hk => hvv _ _ (by omega))) ?_
      obtain ⟨z0, z1, z2⟩ := clV_e v e
      refine h8.put (e := e) (by omega) (fun q q1 q2 => hup_of (by omega)) (fun d hd hde i => hvv _ _ (by omega)) (fun d hd hde => ⟨fun k k1 k2 => by rw [wT_off _ _ _ _ (by omega), kpW_of _ _ _ _ _ _ hde], fun i hi => by rw [wT_at, rwT_of _ _ _ (by omega)]; exact rwT_of _ _ _ (by omega)⟩) ?_ ?_
      · have hts : ∀ i, i < 16 → tsF c k i = if tb (w 4 k) i = true then w 7 (16 * k + i) else -1 := fun i hi => by
          unfold tsF
          rw [CS.p C (by omega), CS.sh C (by omega) hi]
        refine Or.inr (Or.inr (Or.inr ⟨?_, ?_, ?_, sz, vU_at, 16, _, by omega, ?_, by omega, by omega, hBs, hup_at, fun i hi => ?_, fun _ i hi => ?_⟩))
        · rw [wT_off _ _ _ _ (by omega), (kpW_e _ _ _ _ _).1]
        · rw [vU_of (Or.inr (by omega))]; exact z0
        · rw [vU_of (Or.inr (by omega))]; exact z1
        · rw [wT_off _ _ _ _ (by omega), (kpW_e _ _ _ _ _).2.2]
        · rw [wT_at, rwT_in _ _ _ hi, cop_in hi, hts i hi]
        · rw [cop_in hi, hts i hi]
          split
          · obtain ⟨q, hq, eq⟩ := (W.2.1 (16 * k + i) (by omega)).2
            rw [eq]; exact bytefit hq
          · exact bytefitm
      · intro r hA
        rcases hA with hA | hA
        · rw [vU_of (Or.inr (by omega)), z1] at hA; cases hA
        · rw [vU_at] at hA; injection hA with hA; subst hA; exact Nat.le_refl _
  · have hb' : okK e q k n tn = false := by simpa using hb
    exact OpOK.pure R (-1) (K_keep_no (d := 296) C.1 hn30 h6.1 ht60 hb') (fun f m sz us y => R_keep_no (d := 294) G hb')
theorem op_make (R : RelC x w ch h) (e q s : Int32) : OpOK x w ch h 128 [some (.ref x), some (.int e), some (.int q), some (.int s)] 196 (fun m => [some (.ref m), some (.int e), some (.int q), some (.int s), none]) := by
  have R0 := R
  obtain ⟨F, B, A, td, K, c, y, v, tA, fs, sn, tm, n, nt, tn, kn, e0, RL⟩ := R0
  obtain ⟨sz, us, hf⟩ := h
  dsimp only at e0 RL
  subst e0
  have RL0 := RL
  obtain ⟨Q, G, h3, h4, W, h6, h7, h8⟩ := RL0
  have hBs : B sz = none := RL.hi
  have hx186 : x + 186 ≤ sz := h6.2.2.2.2
  have hxs : x + 154 ≤ sz := by omega
  by_cases hb : (vI e 8 && (rI q 3 4 && decide (s ≤ nI 60))) = true
  · by_cases hs0 : s < 0
    · exact OpOK.pure R (-14) (K_make_neg (d := 296) hb hs0) (fun f m sz us y => R_make_neg (d := 298) hb hs0)
    · have hb0 := hb
      simp only [Bool.and_eq_true, decide_eq_true_eq] at hb
      obtain ⟨b1, b2, b3⟩ := hb
      obtain ⟨e, he, rfl⟩ := vI_T b1 (by omega)
      obtain ⟨s, hs, rfl⟩ := i32_nat hs0
      have hs60 : s ≤ 60 := by
        rw [Int32.le_iff_toInt_le, nI_toInt hs, nI_toInt (by omega)] at b3
        omega
      have g0 : ∀ (T : Nat → Int32), ∀ a i, a < 26 → wT (wU (wU w 26 e q) 28 e (nI s)) 29 T a i = w a i := fun T a i ha => by rw [wT_off _ _ _ _ (by omega), wU_off (by omega), wU_off (by omega)]
      obtain ⟨z0, z1, z2⟩ := clV_e v e
      rcases rI34 b2 with hq | hq
      · subst hq
        have hvv : ∀ k i, k ≠ 143 + e → vU (clV v e) (143 + e) 1 (.ref sz) k i = v k i := fun k i hk => by rw [vU_of (Or.inl hk), clV_of _ _ hk]
        refine ⟨_, _, K_make_3 (d := 296) he hs60 hxs hBs, ⟨by dsimp only; omega, by dsimp only; omega, by dsimp only; omega, by dsimp only; omega, fun a h1 h2 => emCT_lo h1 (RL.lo h1 h2) (RL.lo h1 h2) (hup_of (by omega))⟩, fun f m sz1 us1 y1 => ⟨_, y1, R_make (d := 298) he hs60 b2, ch, by omega, _, B, A, td, K, c, y, _, tA, fs, sn, tm, n, nt, tn, kn, rfl, ?_⟩⟩
        refine RL.gen (by omega) (fun _ _ => rfl) rfl (hvv _ _ (by omega)) (fun k i a b => g0 _ _ _ (by omega)) (G.k26 (fun k i hk => g0 _ _ _ hk)) (h7.k26 (fun k i hk => g0 _ _ _ hk) (fun k i hk => hvv _ _ (by omega))) ?_
        refine h8.put (e := e) (by omega) (fun q q1 q2 => hup_of (by omega)) (fun d hd hde i => hvv _ _ (by omega)) (fun d hd hde => ⟨fun k k1 k2 => by rw [wT_off _ _ _ _ (by omega), wU_ap, if_neg (by omega), wU_ap, if_neg (by omega)], fun i hi => by rw [wT_at]; exact rwT_of _ _ _ (by omega)⟩) ?_ ?_
        · refine Or.inr (Or.inr (Or.inl ⟨?_, ?_, ?_, sz, vU_at, s, fun _ => 0, by omega, ?_, by omega, by omega, hBs, hup_at, fun i hi => ?_, fun h => by omega⟩))
          · rw [wT_off _ _ _ _ (by omega), wU_off (by omega), wU_at]
          · rw [vU_of (Or.inr (by omega))]; exact z0
          · rw [vU_of (Or.inr (by omega))]; exact z2
          · rw [wT_off _ _ _ _ (by omega), wU_at]
          · rw [wT_at]; show (0 : Int32) = rwT (w 29) (60 * e) (fun _ => nI 0) 60 (60 * e + i); rw [rwT_in _ _ _ (by omega)]; rfl
        · intro r hA
          rcases hA with hA | hA
          · rw [vU_at] at hA; injection hA with hA; subst hA; exact Nat.le_refl _
          · rw [vU_of (Or.inr (by omega)), z2] at hA; cases hA
      · subst hq
        have hvv : ∀ k i, k ≠ 143 + e → vU (clV v e) (143 + e) 2 (.ref sz) k i = v k i := fun k i hk => by rw [vU_of (Or.inl hk), clV_of _ _ hk]
        refine ⟨_, _, K_make_4 (d := 296) he hs60 hxs hBs, ⟨by dsimp only; omega, by dsimp only; omega, by dsimp only; omega, by dsimp only; omega, fun a h1 h2 => emCT_lo h1 (RL.lo h1 h2) (RL.lo h1 h2) (hup_of (by omega))⟩, fun f m sz1 us1 y1 => ⟨_, y1, R_make (d := 298) he hs60 b2, ch, by omega, _, B, A, td, K, c, y, _, tA, fs, sn, tm, n, nt, tn, kn, rfl, ?_⟩⟩
        refine RL.gen (by omega) (fun _ _ => rfl) rfl (hvv _ _ (by omega)) (fun k i a b => g0 _ _ _ (by omega)) (G.k26 (fun k i hk => g0 _ _ _ hk)) (h7.k26 (fun k i hk => g0 _ _ _ hk) (fun k i hk => hvv _ _ (by omega))) ?_
        refine h8.put (e := e) (by omega) (fun q q1 q2 => hup_of (by omega)) (fun d hd hde i => hvv _ _ (by omega)) (fun d hd hde => ⟨fun k k1 k2 => by rw [wT_off _ _ _ _ (by omega), wU_ap, if_neg (by omega), wU_ap, if_neg (by omega)], fun i hi => by rw [wT_at]; exact rwT_of _ _ _ (by omega)⟩) ?_ ?_
        · refine Or.inr (Or.inr (Or.inr ⟨?_, ?_, ?_, sz, vU_at, s, fun _ => 0, by omega, ?_, by omega, by omega, hBs, hup_at, fun i hi => ?_, fun _ i hi => bytefit0⟩))
          · rw [wT_off _ _ _ _ (by omega), wU_off (by omega), wU_at]
          · rw [vU_of (Or.inr (by omega))]; exact z0
          · rw [vU_of (Or.inr (by omega))]; exact z1
          · rw [wT_off _ _ _ _ (by omega), wU_at]
          · rw [wT_at]; show (0 : Int32) = rwT (w 29) (60 * e) (fun _ => nI 0) 60 (60 * e + i); rw [rwT_in _ _ _ (by omega)]; rfl
        · intro r hA
          rcases hA with hA | hA
          · rw [vU_of (Or.inr (by omega)), z1] at hA; cases hA
          · rw [vU_at] at hA; injection hA with hA; subst hA; exact Nat.le_refl _
  · have hb' : (vI e 8 && (rI q 3 4 && decide (s ≤ nI 60))) = false := by simpa using hb
    exact OpOK.pure R (-1) (K_make_no (d := 296) hb') (fun f m sz us y => R_make_no (d := 298) hb')
end OPD
