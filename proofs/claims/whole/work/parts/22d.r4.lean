/-! class and reference: calls that ask -/
section HA
variable {F : Hf} {B : Nat → Option Nat} {A : Nat → Nat} {td : Nat → Nat → Int32} {K K' : KT} {c c' : WD} {v v' : VD} {tA : Nat → Option Nat} {w w' : WD} {fs sn : Nat → Option Nat} {tm : Nat → Nat → Nat} {x sz n nt nt' tn ch kn : Nat}
theorem KO.cg {sm sm' : Nat → Nat → Nat → Nat → Int32 × Int32} (h : KO sm tn ch K) (e : ∀ t, t < tn → ∀ a b g, a < 16 → b < 16 → g < 16 → sm' t a b g = sm t a b g) : KO sm' tn ch K := by
  intro t ht
  obtain ⟨h1, h2⟩ := h t ht
  refine ⟨h1, fun q => ?_⟩
  obtain ⟨a, b, g, ha, hb, hg, e1, e2⟩ := h2 q
  exact ⟨a, b, g, ha, hb, hg, e1, by rw [e t ht a b g ha hb hg]; exact e2⟩
theorem CS_w (C : CS c w fs sn n) (h : ∀ k i, 3 ≤ k → k ≤ 8 → w' k i = w k i) : CS c w' fs sn n := by
  obtain ⟨a1, a2, a3, a4⟩ := C
  refine ⟨a1, a2, fun s hs => ?_, a4⟩
  obtain ⟨b1, b2, b3, b4, b5⟩ := a3 s hs
  refine ⟨by rw [h 3 s (by omega) (by omega)]; exact b1, by rw [h 5 s (by omega) (by omega)]; exact b2, by rw [h 4 s (by omega) (by omega)]; exact b3, fun p hp => ?_, fun k hk p hp => ?_⟩
  · rw [h 6 _ (by omega) (by omega), h 7 _ (by omega) (by omega)]; exact b4 p hp
  · rw [h 8 _ (by omega) (by omega)]; exact b5 k hk p hp
theorem TDt_w {t : Nat} (D : TDt w tm td t) (h : ∀ k i, 10 ≤ k → k ≤ 16 → w' k i = w k i) : TDt w' tm td t := by
  obtain ⟨d1, d2, d3, d4, d5, d6⟩ := D
  have e14 : w' 14 = w 14 := funext fun i => h 14 i (by omega) (by omega)
  refine ⟨by rw [e14]; exact d1, by rw [h 15 t (by omega) (by omega)]; exact d2, by rw [h 16 t (by omega) (by omega)]; exact d3, fun q => ?_, by rw [e14]; exact d5, by rw [e14]; exact d6⟩
  rw [h 12 t (by omega) (by omega), h 11 t (by omega) (by omega)]
  exact d4 q
theorem ROt_w {t : Nat} (G : GW w n tn fs sn tm) (hw : Kj n w w') (ht : t < tn) (h : ROt c w fs sn n tm t) : ROt c w' fs sn n tm t := by
  intro r hr
  have e14 : w' 14 t = w 14 t := hw.1 14 t (by omega) (by omega)
  have eg : ∀ a b, a < 16 → b < 16 → g2 w fs sn n tm t a b = g2 w' fs sn n tm t a b := fun a b ha hb => (sem_kj G hw ht ha hb (by omega)).symm
  rw [e14, ← rwG_c (b := false) eg hr, ← rwG_c (b := true) eg hr]
  exact h r hr
theorem RLm.kj (R : RLm F B A td K c v tA w fs sn tm x sz n nt tn ch kn) (hw : Kj n w w') : RLm F B A td K c v tA w' fs sn tm x sz n nt tn ch kn := by
  obtain ⟨⟨C, q2, q3, q4, q5, q6, q7, q8, q9⟩, G, h3, h4, W, h6, h7, h8⟩ := R
  have lo : ∀ k i, 1 ≤ k → k ≤ 16 → w' k i = w k i := fun k i a b => hw.1 k i (by omega) (by omega)
  have G' := G.kj hw
  refine ⟨⟨CS_w C (fun k i a b => lo k i (by omega) (by omega)), q2, q3, q4, q5, G'.hT, q7, fun t ht => TDt_w (q8 t ht) (fun k i a b => lo k i (by omega) b), q9⟩, G', ?_, ?_, ?_, h6, ?_, ?_⟩
  · exact h3.cg (fun t ht a b g ha hb hg => sem_kj G hw ht ha hb hg)
  · obtain ⟨r1, r2⟩ := h4
    refine ⟨r1, ?_⟩
    rcases r2 with r2 | ⟨t, ht, r3, r4⟩
    · exact Or.inl r2
    · exact Or.inr ⟨t, ht, r3, fun e => ROt_w G hw ht (r4 e)⟩
  · obtain ⟨w1, w2, w3⟩ := W
    refine ⟨fun s hs => by rw [lo 5 s (by omega) (by omega)]; exact w1 s hs, fun i hi => by rw [lo 6 i (by omega) (by omega), lo 7 i (by omega) (by omega)]; exact w2 i hi, fun s hs => by rw [lo 4 s (by omega) (by omega)]; exact w3 s hs⟩
  · obtain ⟨k1, k2, k3, k4⟩ := h7
    refine ⟨k1, by rw [hw.1 0 27 (by omega) (by omega)]; exact k2, k3, fun k hk => ?_⟩
    obtain ⟨t, t1, t2, t3, t4, t5⟩ := k4 k hk
    refine ⟨t, t1, t2, by rw [hw.1 24 k (by omega) (by omega)]; exact t3, ?_, fun r hr => by rw [hw.1 25 _ (by omega) (by omega)]; exact t5 r hr⟩
    unfold lacA at t4 ⊢
    rw [lo 14 t (by omega) (by omega), lo 15 t (by omega) (by omega)]
    exact t4
  · exact h8.cg (fun _ _ _ => rfl) (Nat.le_refl _) (fun _ _ _ => rfl) (fun k i a b => hw.1 k i (by omega) (by omega))
theorem RLm.asked (R : RLm F B A td K c v tA w fs sn tm x sz n nt tn ch kn) (hk : Kf c c') (hQ : ASP c' w fs sn n nt' tn tm td A B x ch) (hK : KO (sem (rW w n) fs sn n tm) tn ch K') (hR : ROk c' v' w fs sn n tn ch tm A) (hv : ∀ k i, k ≠ 151 → v' k i = v k i) : RLm F B A td K' c' v' tA w fs sn tm x sz n nt' tn ch kn := by
  obtain ⟨-, G, h3, h4, W, h6, h7, h8⟩ := R
  refine ⟨hQ, G, hK, hR, W, ⟨by rw [hk.1 0 (by omega)]; exact h6.1, h6.2⟩, ?_, h8.cg (fun _ _ _ => rfl) (Nat.le_refl _) (fun d hd i => hv _ i (by omega)) (fun _ _ _ _ => rfl)⟩
  obtain ⟨k1, k2, k3, k4⟩ := h7
  refine ⟨by rw [hk.1 0 (by omega)]; exact k1, k2, k3, fun k hkk => ?_⟩
  obtain ⟨t, t1, t2, t3, t4, t5⟩ := k4 k hkk
  exact ⟨t, t1, by rw [hv _ _ (by omega)]; exact t2, t3, t4, fun r hr => by rw [hk.1 _ (by omega)]; exact t5 r hr⟩
theorem ROk_of {t : Nat} (ht : t < tn) (h : ROt c w fs sn n tm t) (hc : c 151 1 = nI ch) (hch : ch < 1000) (hv : v 151 0 = .ref (A t)) : ROk c v w fs sn n tn ch tm A := by
  refine ⟨?_, Or.inr ⟨t, ht, hv, fun _ => h⟩⟩
  rw [hc, nI_toInt (by omega)]
  exact Int.le_refl _
end HA
section OPB
variable {x ch : Nat} {w : WD} {h : Hp}
theorem FRm.T {F : Hf} {B : Nat → Option Nat} {A : Nat → Nat} {tm : Nat → Nat → Nat} {td : Nat → Nat → Int32} {K K' : KT} {c c' : WD} {y y' : Nat → Int64} {v v' : VD} {tA tA' : Nat → Option Nat} {sz us x : Nat} (hB : ∀ a, x + 154 ≤ a → a < x + 186 → B a = none) : FRm x (sz, us, emC (emT F B tm td A K) x c y v tA) (sz, us, emC (emT F B tm td A K') x c' y' v' tA') :=
  ⟨Nat.le_refl _, by dsimp only; omega, Nat.le_refl _, by dsimp only; omega, fun a h1 h2 => emCT_lo h1 (hB a h1 h2) (hB a h1 h2) rfl⟩
theorem op_span (R : RelC x w ch h) (s a b g : Int32) (wd : Bool) : OpOK x w ch h 111 [some (.ref x), some (.int s), some (.int a), some (.int b), some (.int g), some (.int (bI wd))] 179 (fun m => [some (.ref m), some (.int s), some (.int a), some (.int b), some (.int g), some (.int (bI wd)), none]) := by
  have R0 := R
  obtain ⟨F, B, A, td, K, c, y, v, tA, fs, sn, tm, n, nt, tn, kn, e, RL⟩ := R0
  obtain ⟨sz, us, hf⟩ := h
  dsimp only at e RL
  subst e
  have RL0 := RL
  obtain ⟨Q, G, h3, h4, W, h6, h7, h8⟩ := RL0
  have ht60 := G.ht60
  by_cases hb : (vI s tn && (vI a 16 && (vI b 16 && vI g 16))) = true
  · simp only [Bool.and_eq_true] at hb
    obtain ⟨b1, b2, b3, b4⟩ := hb
    obtain ⟨t, ht, rfl⟩ := vI_T b1 (by omega)
    obtain ⟨a, ha, rfl⟩ := vI_T b2 (by omega)
    obtain ⟨b, hb, rfl⟩ := vI_T b3 (by omega)
    obtain ⟨g, hg, rfl⟩ := vI_T b4 (by omega)
    have hD := Q.2.2.2.2.2.2.2.1 t ht
    have hB := Q.2.2.2.2.2.2.1.1 t ht
    by_cases h6c : nI 600 < w 15 t
    · refine ⟨-5, _, K_span_5 (d := 298) wd h6.1 ht60 ht ha hb hg (h6.2.1 t ht) hB.1 hB.2 hD.2.1 h6c, FRm.refl _ _, fun f m sz1 us1 y1 => ?_⟩
      obtain ⟨w', kp, e⟩ := R_span (d := 295) (f := f) (m := m) (sz := sz1) (us := us1) (y := y1) wd G ht ha hb hg
      rw [if_pos h6c] at e
      exact ⟨w', y1, e, ch, by omega, F, B, A, td, K, c, y, v, tA, fs, sn, tm, n, nt, tn, kn, rfl, RL.kj kp.j⟩
    · obtain ⟨c', K', kn', Q', ok', e'⟩ := K_span (F := F) (sz := sz) (us := us) (y := y) (v := v) (tA := tA) wd Q h3 h6.1 ht (h6.2.1 t ht) ha hb hg h6c
      refine ⟨_, _, e' 170, FRm.T (fun a h1 h2 => RL.lo h1 h2), fun f m sz1 us1 y1 => ?_⟩
      obtain ⟨w', kp, e⟩ := R_span (d := 295) (f := f) (m := m) (sz := sz1) (us := us1) (y := y1) wd G ht ha hb hg
      rw [if_neg h6c] at e
      exact ⟨w', y1, e, ch, by omega, F, B, A, td, K', c', y, v, tA, fs, sn, tm, n, n, tn, kn, rfl, (RL.asked kn'.f Q' ok' (ROk_n h4 kn') (fun _ _ _ => rfl)).kj kp.j⟩
  · have hb' : (vI s tn && (vI a 16 && (vI b 16 && vI g 16))) = false := by simpa using hb
    exact OpOK.pure R (-1) (K_span_no (d := 298) wd h6.1 ht60 hb') (fun f m sz us y => R_span_no (d := 295) wd G hb')
theorem op_rows (R : RelC x w ch h) (s : Int32) (wd : Bool) : OpOK x w ch h 114 [some (.ref x), some (.int s), some (.int (bI wd)), none] 184 (fun m => [some (.ref m), some (.int s), some (.int (bI wd)), none, none]) := by
  have R0 := R
  obtain ⟨F, B, A, td, K, c, y, v, tA, fs, sn, tm, n, nt, tn, kn, e, RL⟩ := R0
  obtain ⟨sz, us, hf⟩ := h
  dsimp only at e RL
  subst e
  have RL0 := RL
  obtain ⟨Q, G, h3, h4, W, h6, h7, h8⟩ := RL0
  have ht60 := G.ht60
  by_cases hb : vI s tn = true
  · obtain ⟨t, ht, rfl⟩ := vI_T hb (by omega)
    have hD := Q.2.2.2.2.2.2.2.1 t ht
    have hB := Q.2.2.2.2.2.2.1.1 t ht
    by_cases hl : lacA w t = 0
    · obtain ⟨c', K', nt', kf, Q', ok', ro, hc, e'⟩ := K_rowsC (F := F) (sz := sz) (us := us) (y := y) (v := v) (tA := tA) (wd := wd) Q h3 h4 ⟨h6.1, ht, h6.2.1 t ht, hl⟩
      refine ⟨_, _, e' 169, FRm.T (fun a h1 h2 => RL.lo h1 h2), fun f m sz1 us1 y1 => ?_⟩
      obtain ⟨w', kp, e⟩ := R_rows (d := 294) (f := f) (m := m) (sz := sz1) (us := us1) (y := y1) wd G ht hl
      exact ⟨w', y1, e, ch, by omega, F, B, A, td, K', c', y, vU v 151 0 (.ref (A t)), tA, fs, sn, tm, n, nt', tn, kn, rfl, (RL.asked kf Q' ok' (ROk_of ht ro hc Q.2.2.2.2.2.2.2.2.2.1 vU_at) (fun k i hk => vU_of (Or.inl hk))).kj kp.j⟩
    · exact OpOK.pure R _ (K_rows_no (d := 297) h6.1 ht60 ht (h6.2.1 t ht) hB.1 hB.2 hD.1 hD.2.1 hl) (fun f m sz us y => R_rows_no (d := 294) wd G ht hl)
  · have hb' : vI s tn = false := by simpa using hb
    exact OpOK.pure R (-1) (K_rows_nt (d := 297) h6.1 ht60 hb') (fun f m sz us y => R_rows_nt (d := 294) wd G hb')
theorem i32_nat {i : Int32} (h : ¬ i < 0) : ∃ k, k < 2 ^ 31 ∧ i = nI k := by
  have h1 : 0 ≤ i.toInt := by
    refine Classical.byContradiction fun q => h ?_
    rw [Int32.lt_iff_toInt_lt]
    show i.toInt < 0
    omega
  have h2 := i.toInt_lt
  refine ⟨i.toInt.toNat, by omega, ?_⟩
  apply Int32.toInt_inj.mp
  rw [nI_toInt (by omega)]
  omega
theorem op_row (R : RelC x w ch h) (s i : Int32) (wd : Bool) : OpOK x w ch h 115 [some (.ref x), some (.int s), some (.int i), some (.int (bI wd)), none, none] 185 (fun m => [some (.ref m), some (.int s), some (.int i), some (.int (bI wd)), none, none]) := by
  have R0 := R
  obtain ⟨F, B, A, td, K, c, y, v, tA, fs, sn, tm, n, nt, tn, kn, e, RL⟩ := R0
  obtain ⟨sz, us, hf⟩ := h
  dsimp only at e RL
  subst e
  have RL0 := RL
  obtain ⟨Q, G, h3, h4, W, h6, h7, h8⟩ := RL0
  have ht60 := G.ht60
  by_cases hi0 : i < 0
  · exact OpOK.pure R (-1) (K_row_neg (d := 297) hi0) (fun f m sz us y => R_row_neg (d := 294) wd hi0)
  · obtain ⟨i, hi, rfl⟩ := i32_nat hi0
    by_cases hb : vI s tn = true
    · obtain ⟨t, ht, rfl⟩ := vI_T hb (by omega)
      have hD := Q.2.2.2.2.2.2.2.1 t ht
      have hB := Q.2.2.2.2.2.2.1.1 t ht
      by_cases hl : lacA w t = 0
      · obtain ⟨c', K', nt', kf, Q', ok', ro, hc, e'⟩ := K_row (F := F) (sz := sz) (us := us) (y := y) (v := v) (tA := tA) (wd := wd) hi Q h3 h4 ⟨h6.1, ht, h6.2.1 t ht, hl⟩
        refine ⟨_, _, e' 169, FRm.T (fun a h1 h2 => RL.lo h1 h2), fun f m sz1 us1 y1 => ?_⟩
        obtain ⟨w', kp, e⟩ := R_row (d := 294) (f := f) (m := m) (sz := sz1) (us := us1) (y := y1) wd hi G ht hl
        exact ⟨w', y1, e, ch, by omega, F, B, A, td, K', c', y, vU v 151 0 (.ref (A t)), tA, fs, sn, tm, n, nt', tn, kn, rfl, (RL.asked kf Q' ok' (ROk_of ht ro hc Q.2.2.2.2.2.2.2.2.2.1 vU_at) (fun k i hk => vU_of (Or.inl hk))).kj kp.j⟩
      · exact OpOK.pure R _ (K_row_no (d := 297) hi h6.1 ht60 ht (h6.2.1 t ht) hB.1 hB.2 hD.1 hD.2.1 hl) (fun f m sz us y => R_row_no (d := 294) wd hi G ht hl)
    · have hb' : vI s tn = false := by simpa using hb
      exact OpOK.pure R (-1) (K_row_nt (d := 297) hi h6.1 ht60 hb') (fun f m sz us y => R_row_nt (d := 294) wd hi G hb')
/-- refusals of two terms -/
theorem lacA_v (w : WD) (t : Nat) : lacA w t = -4 ∨ lacA w t = -5 ∨ lacA w t = nI 0 := by
  unfold lacA
  split
  · exact Or.inl rfl
  · split
    · exact Or.inr (Or.inl rfl)
    · exact Or.inr (Or.inr rfl)
theorem frR_apA (w : WD) (t o : Nat) : frR (lacA w t) (lacA w o) = apA w t o := by
  unfold lacA apA
  have e : ((w 14 t ||| w 14 o) &&& nI 4 = 0) = (tb (w 14 t) 2 = false ∧ tb (w 14 o) 2 = false) := by
    rw [fr4, tb_or]; cases tb (w 14 t) 2 <;> cases tb (w 14 o) 2 <;> simp
  simp only [e]
  simp only [fr4]
  have c1 : frR (-4) (-4) = -4 := by decide
  have c2 : frR (-4) (-5) = -4 := by decide
  have c3 : frR (-4) (nI 0) = -4 := by decide
  have c4 : frR (-5) (-4) = -4 := by decide
  have c5 : frR (-5) (-5) = -5 := by decide
  have c6 : frR (-5) (nI 0) = -5 := by decide
  have c7 : frR (nI 0) (-4) = -4 := by decide
  have c8 : frR (nI 0) (-5) = -5 := by decide
  have c9 : frR (nI 0) (nI 0) = nI 0 := by decide
  cases tb (w 14 t) 2 <;> cases tb (w 14 o) 2 <;> by_cases h1 : nI 600 < w 15 t <;> by_cases h2 : nI 600 < w 15 o <;> simp only [h1, h2, c1, c2, c3, c4, c5, c6, c7, c8, c9, if_true, if_false, and_self, and_true, true_and, Bool.true_eq_false, not_true_eq_false, not_false_eq_true, false_and, and_false, or_true, true_or, or_self]
theorem op_apart (R : RelC x w ch h) (s o : Int32) : OpOK x w ch h 119 [some (.ref x), some (.int s), some (.int o), none] 187 (fun m => [some (.ref m), some (.int s), some (.int o), none, none]) := by
  have R0 := R
  obtain ⟨F, B, A, td, K, c, y, v, tA, fs, sn, tm, n, nt, tn, kn, e, RL⟩ := R0
  obtain ⟨sz, us, hf⟩ := h
  dsimp only at e RL
  subst e
  have RL0 := RL
  obtain ⟨Q, G, h3, h4, W, h6, h7, h8⟩ := RL0
  have ht60 := G.ht60
  have hrn := fun (s : Int32) (hs : vI s tn = false) (d : Nat) => K_refusal_no (F := F) (x := x) (d := d) (sz := sz) (us := us) (c := c) (y := y) (v := v) (tA := tA) (tm := tm) (td := td) (K := K) (B := B) (A := A) h6.1 ht60 hs
  have hry := fun (t : Nat) (ht : t < tn) (d : Nat) => K_refusal (F := F) (x := x) (d := d) (sz := sz) (us := us) (c := c) (w := w) (y := y) (v := v) (tA := tA) (tm := tm) (td := td) (K := K) (B := B) (A := A) h6.1 ht60 ht (h6.2.1 t ht) (Q.2.2.2.2.2.2.1.1 t ht).1 (Q.2.2.2.2.2.2.1.1 t ht).2 (Q.2.2.2.2.2.2.2.1 t ht).1 (Q.2.2.2.2.2.2.2.1 t ht).2.1
  by_cases hs : vI s tn = true
  · obtain ⟨t, ht, rfl⟩ := vI_T hs (by omega)
    by_cases ho : vI o tn = true
    · obtain ⟨o, ho', rfl⟩ := vI_T ho (by omega)
      by_cases hl : apA w t o = nI 0
      · obtain ⟨c', K', kn', Q', ok', e'⟩ := K_firstApart (F := F) (sz := sz) (us := us) (y := y) (v := v) (tA := tA) Q h3 ht ho'
        have hf := frR_apA w t o
        rw [hl] at hf
        have hA1 := h6.2.1 t ht
        have hA2 := h6.2.1 o ho'
        have e2 : Ev (168 + 132) 119 0 [some (.ref x), some (.int (nI t)), some (.int (nI o)), none] [] (sz, us, emC (emT F B tm td A K) x c y v tA) = some (some (.int (fstB (xorR (sfG (w 14 t) (g2 w fs sn n tm t)) (sfG (w 14 o) (g2 w fs sn n tm o)) 256) n 0)), (sz, us, emC (emT F B tm td A K') x c' y v tA)) := by
          have r1 := hry t ht
          have r2 := hry o ho'
          simp (maxSteps := 2000000) (disch := first | omega | with_reducible assumption | exact cobP | exact cobX | exact cobS (by omega) | exact cobK (by omega) | exact cobF (by omega) | exact cobW | exact isTC_T (by assumption) (by assumption) | exact cobN (by assumption) (by assumption) | exact bI_01 _ | exact Or.inl rfl | exact Or.inr rfl | (simp (decide := true) only [wid_0, wid_i, wid_l, wid_r, wid_n]; done) | decide | fail) only [s119_0, s119_1, s119_2, s119_5, s119_6, s119_7, s119_10, s119_13, s119_14, s119_15, s119_18, s119_19, s119_22, s119_23, s119_24, s119_27, s119_28, s119_29, s119_30, s119_33, s119_34, s119_35, s119_38 (st := []), Option.bind_some, Option.bind_none, Option.toList_some, Option.toList_none, List.cons_append, List.nil_append, clr_i, clr_r, clr_l, clr_n, nI_add, nsub, pk_mul, nle_F, nle_T, nlt_F, nlt_T, neq_F, nz_F, nz_T, nneg_F, npos_T, npos_lF, npos_lT, nle0_F, m1_neg, m1_pos, m1_z, neq_m1, m1_neq, ↓reduceIte, if_true, if_false, not_true_eq_false, not_false_eq_true, bI_eq0, Bool.true_eq_false, Bool.false_eq_true, true_and, and_true, false_and, and_false, true_or, or_true, false_or, or_false, decide_true, decide_false, Bool.and_self, Bool.true_and, Bool.and_true, Bool.false_and, Bool.and_false, Bool.true_or, Bool.or_true, Bool.false_or, Bool.or_false, Bool.not_true, Bool.not_false, g_11_18_9, r1, r2, K_firstRefusal, hf, aC_terms, hA1, hA2, vrf_s, e']
        refine ⟨_, _, e2, FRm.T (fun a h1 h2 => RL.lo h1 h2), fun f m sz1 us1 y1 => ?_⟩
        obtain ⟨w', kj, e⟩ := R_apart (d := 294) (f := f) (m := m) (sz := sz1) (us := us1) (y := y1) G ht ho' hl
        exact ⟨w', y1, e, ch, by omega, F, B, A, td, K', c', y, v, tA, fs, sn, tm, n, n, tn, kn, rfl, (RL.asked kn'.f Q' ok' (ROk_n h4 kn') (fun _ _ _ => rfl)).kj kj⟩
      · refine OpOK.pure R (apA w t o) ?_ (fun f m sz us y => R_apart_no (d := 294) G ht ho' hl)
        have r1 := hry t ht
        have r2 := hry o ho'
        have hf := frR_apA w t o
        have hne : ¬ apA w t o = 0 := hl
        show Ev (168 + 132) _ _ _ _ _ = _
        simp (maxSteps := 2000000) (disch := first | omega | with_reducible assumption | exact cobP | exact cobX | exact cobS (by omega) | exact cobK (by omega) | exact cobF (by omega) | exact cobW | exact isTC_T (by assumption) (by assumption) | exact cobN (by assumption) (by assumption) | exact bI_01 _ | exact Or.inl rfl | exact Or.inr rfl | (simp (decide := true) only [wid_0, wid_i, wid_l, wid_r, wid_n]; done) | decide | fail) only [s119_0, s119_1, s119_2, s119_5, s119_6, s119_7, s119_10, s119_13, s119_14, s119_15, s119_18, s119_19, s119_22, s119_23, s119_24, s119_27, s119_28, s119_29, s119_30, s119_33, s119_34, s119_35, s119_38 (st := []), Option.bind_some, Option.bind_none, Option.toList_some, Option.toList_none, List.cons_append, List.nil_append, clr_i, clr_r, clr_l, clr_n, nI_add, nsub, pk_mul, nle_F, nle_T, nlt_F, nlt_T, neq_F, nz_F, nz_T, nneg_F, npos_T, npos_lF, npos_lT, nle0_F, m1_neg, m1_pos, m1_z, neq_m1, m1_neq, ↓reduceIte, if_true, if_false, not_true_eq_false, not_false_eq_true, bI_eq0, Bool.true_eq_false, Bool.false_eq_true, true_and, and_true, false_and, and_false, true_or, or_true, false_or, or_false, decide_true, decide_false, Bool.and_self, Bool.true_and, Bool.and_true, Bool.false_and, Bool.and_false, Bool.true_or, Bool.or_true, Bool.false_or, Bool.or_false, Bool.not_true, Bool.not_false, g_11_18_9, r1, r2, K_firstRefusal, hf, hne]
    · have ho' : vI o tn = false := by simpa using ho
      refine OpOK.pure R (-1) ?_ (fun f m sz us y => R_apart_nt (d := 294) G (by rw [ho', Bool.and_false]))
      have r1 := hry t ht
      have r2 := hrn o ho'
      have hf : frR (lacA w t) (-1) = -1 := by rcases lacA_v w t with h | h | h <;> rw [h] <;> decide
      show Ev (168 + 132) _ _ _ _ _ = _
      simp (maxSteps := 2000000) (disch := first | omega | with_reducible assumption | exact cobP | exact cobX | exact cobS (by omega) | exact cobK (by omega) | exact cobF (by omega) | exact cobW | exact isTC_T (by assumption) (by assumption) | exact cobN (by assumption) (by assumption) | exact bI_01 _ | exact Or.inl rfl | exact Or.inr rfl | (simp (decide := true) only [wid_0, wid_i, wid_l, wid_r, wid_n]; done) | decide | fail) only [s119_0, s119_1, s119_2, s119_5, s119_6, s119_7, s119_10, s119_13, s119_14, s119_15, s119_18, s119_19, s119_22, s119_23, s119_24, s119_27, s119_28, s119_29, s119_30, s119_33, s119_34, s119_35, s119_38 (st := []), Option.bind_some, Option.bind_none, Option.toList_some, Option.toList_none, List.cons_append, List.nil_append, clr_i, clr_r, clr_l, clr_n, nI_add, nsub, pk_mul, nle_F, nle_T, nlt_F, nlt_T, neq_F, nz_F, nz_T, nneg_F, npos_T, npos_lF, npos_lT, nle0_F, m1_neg, m1_pos, m1_z, neq_m1, m1_neq, ↓reduceIte, if_true, if_false, not_true_eq_false, not_false_eq_true, bI_eq0, Bool.true_eq_false, Bool.false_eq_true, true_and, and_true, false_and, and_false, true_or, or_true, false_or, or_false, decide_true, decide_false, Bool.and_self, Bool.true_and, Bool.and_true, Bool.false_and, Bool.and_false, Bool.true_or, Bool.or_true, Bool.false_or, Bool.or_false, Bool.not_true, Bool.not_false, g_11_18_9, r1, r2, K_firstRefusal, hf]
  · have hs' : vI s tn = false := by simpa using hs
    refine OpOK.pure R (-1) ?_ (fun f m sz us y => R_apart_nt (d := 294) G (by rw [hs', Bool.false_and]))
    have r1 := hrn s hs'
    show Ev (168 + 132) _ _ _ _ _ = _
    by_cases ho : vI o tn = true
    · obtain ⟨o, ho', rfl⟩ := vI_T ho (by omega)
      have r2 := hry o ho'
      have hf : frR (-1) (lacA w o) = -1 := by rcases lacA_v w o with h | h | h <;> rw [h] <;> decide
      simp (maxSteps := 2000000) (disch := first | omega | with_reducible assumption | exact cobP | exact cobX | exact cobS (by omega) | exact cobK (by omega) | exact cobF (by omega) | exact cobW | exact isTC_T (by assumption) (by assumption) | exact cobN (by assumption) (by assumption) | exact bI_01 _ | exact Or.inl rfl | exact Or.inr rfl | (simp (decide := true) only [wid_0, wid_i, wid_l, wid_r, wid_n]; done) | decide | fail) only [s119_0, s119_1, s119_2, s119_5, s119_6, s119_7, s119_10, s119_13, s119_14, s119_15, s119_18, s119_19, s119_22, s119_23, s119_24, s119_27, s119_28, s119_29, s119_30, s119_33, s119_34, s119_35, s119_38 (st := []), Option.bind_some, Option.bind_none, Option.toList_some, Option.toList_none, List.cons_append, List.nil_append, clr_i, clr_r, clr_l, clr_n, nI_add, nsub, pk_mul, nle_F, nle_T, nlt_F, nlt_T, neq_F, nz_F, nz_T, nneg_F, npos_T, npos_lF, npos_lT, nle0_F, m1_neg, m1_pos, m1_z, neq_m1, m1_neq, ↓reduceIte, if_true, if_false, not_true_eq_false, not_false_eq_true, bI_eq0, Bool.true_eq_false, Bool.false_eq_true, true_and, and_true, false_and, and_false, true_or, or_true, false_or, or_false, decide_true, decide_false, Bool.and_self, Bool.true_and, Bool.and_true, Bool.false_and, Bool.and_false, Bool.true_or, Bool.or_true, Bool.false_or, Bool.or_false, Bool.not_true, Bool.not_false, g_11_18_9, r1, r2, K_firstRefusal, hf]
    · have ho' : vI o tn = false := by simpa using ho
      have r2 := hrn o ho'
      have hf : frR (-1) (-1) = -1 := by decide
      simp (maxSteps := 2000000) (disch := first | omega | with_reducible assumption | exact cobP | exact cobX | exact cobS (by omega) | exact cobK (by omega) | exact cobF (by omega) | exact cobW | exact isTC_T (by assumption) (by assumption) | exact cobN (by assumption) (by assumption) | exact bI_01 _ | exact Or.inl rfl | exact Or.inr rfl | (simp (decide := true) only [wid_0, wid_i, wid_l, wid_r, wid_n]; done) | decide | fail) only [s119_0, s119_1, s119_2, s119_5, s119_6, s119_7, s119_10, s119_13, s119_14, s119_15, s119_18, s119_19, s119_22, s119_23, s119_24, s119_27, s119_28, s119_29, s119_30, s119_33, s119_34, s119_35, s119_38 (st := []), Option.bind_some, Option.bind_none, Option.toList_some, Option.toList_none, List.cons_append, List.nil_append, clr_i, clr_r, clr_l, clr_n, nI_add, nsub, pk_mul, nle_F, nle_T, nlt_F, nlt_T, neq_F, nz_F, nz_T, nneg_F, npos_T, npos_lF, npos_lT, nle0_F, m1_neg, m1_pos, m1_z, neq_m1, m1_neq, ↓reduceIte, if_true, if_false, not_true_eq_false, not_false_eq_true, bI_eq0, Bool.true_eq_false, Bool.false_eq_true, true_and, and_true, false_and, and_false, true_or, or_true, false_or, or_false, decide_true, decide_false, Bool.and_self, Bool.true_and, Bool.and_true, Bool.false_and, Bool.and_false, Bool.true_or, Bool.or_true, Bool.false_or, Bool.or_false, Bool.not_true, Bool.not_false, g_11_18_9, r1, r2, K_firstRefusal, hf]
end OPB
