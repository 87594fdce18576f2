/-! class and reference: toss; what the law's own calls find -/
def TsR (h : Hp) (x : Nat) (a : Int32) (r : Int32 × Hp) : Prop :=
  (∃ fs0, h.2.2 x = some (.inr (9, fs0))) ∧
  ((∃ z, Ev 300 131 0 [some (.ref x), some (.int a)] [] h = some (some (.int z), h) ∧ ¬ z = 0 ∧ r = (z, h)) ∨
   (∃ ra q t, Ev 300 131 0 [some (.ref x), some (.int a)] [] h = some (some (.int 0), h) ∧ gfl 11 31 (h.2.2 x) = some (.ref ra) ∧ rrl (h.2.2 ra) a = some (some q) ∧ gfl 11 314 (h.2.2 q) = some (.ref t) ∧
     ((cob (h.2.2 t) = some 0 ∧ r = (-15, h)) ∨ (∃ ci fs1 z, (ci = 3 ∨ ci = 6 ∨ ci = 8) ∧ h.2.2 t = some (.inr (ci, fs1)) ∧ gfl 11 188 (h.2.2 t) = some (.int z) ∧ r = (z, (h.1 + 1, h.2.1 + 6, h.2.2))))))
def RdR (h : Hp) (x o : Nat) (a b : Int32) (r : Int32 × Hp) : Prop :=
  (∃ fs0, h.2.2 x = some (.inr (9, fs0))) ∧ ∃ n, (∀ q : Int32, Ev 300 86 0 [some (.ref x), some (.int q)] [] h = some (some (.int (bI (vI q n))), h)) ∧
  (((vI a n && vI b n) = false ∧ r = (nI 1, (h.1 + 1, h.2.1 + 6, h.2.2))) ∨
   ((vI a n && vI b n) = true ∧ ∃ p z h2 e', gfl 11 12 (h.2.2 x) = some (.ref p) ∧ cob (h.2.2 p) = some 2 ∧ Ev 300 48 0 (ent (mtd 48).2.2.2.1 [.ref p, .int a, .int b]) [] h = some (some (.long z), h2) ∧ h2.1 = h.1 ∧ h2.2.1 = h.2.1 ∧ wll (h2.2.2 o) 0 z = some e' ∧ r = (nI 0, (h2.1, h2.2.1, hup h2.2.2 o e'))))
def ElR (h : Hp) (x o : Nat) (a b : Int32) (r : Int32 × Hp) : Prop :=
  (∃ fs0, h.2.2 x = some (.inr (9, fs0))) ∧
  ((vI a 8 = false ∧ r = (nI 1, (h.1 + 1, h.2.1 + 6, h.2.2))) ∨
   (vI a 8 = true ∧ ∃ ra q zs, gfl 11 31 (h.2.2 x) = some (.ref ra) ∧ rrl (h.2.2 ra) a = some (some q) ∧ cob (h.2.2 q) = some 5 ∧ Ev 300 71 0 [some (.ref q)] [] h = some (some (.int zs), h) ∧
     ((Ev 300 85 0 [some (.int b), some (.int zs)] [] h = some (some (.int (bI false)), h) ∧ r = (nI 2, (h.1 + 1, h.2.1 + 6, h.2.2))) ∨
      (Ev 300 85 0 [some (.int b), some (.int zs)] [] h = some (some (.int (bI true)), h) ∧ ∃ z e', Ev 300 72 0 [some (.ref q), some (.int b)] [] h = some (some (.long z), h) ∧ wll (h.2.2 o) 0 z = some e' ∧ r = (nI 0, (h.1, h.2.1, hup h.2.2 o e'))))))
def FRo (x : Nat) (h h1 : Hp) : Prop := h.1 ≤ h1.1 ∧ h1.1 ≤ h.1 + 1 ∧ h.2.1 ≤ h1.2.1 ∧ h1.2.1 ≤ h.2.1 + 64 ∧ ∀ a, x + 154 ≤ a → a < x + 185 → h1.2.2 a = h.2.2 a
section KT1
variable {x ch d : Nat} {w w' : WD} {h : Hp}
theorem RelC.lift {sz us sz' us' : Nat} {hf : Hf} (R : RelC x w ch (sz, us, hf)) (hz : sz ≤ sz') (hw : ∀ k i, ¬ (k = 0 ∧ i = 0) → w' k i = w k i) : RelC x w' ch (sz', us', hf) := by
  obtain ⟨F, B, A, td, K, c, y, v, tA, fs, sn, tm, n, nt, tn, kn, e0, RL⟩ := R
  dsimp only at e0 RL
  have G' : GW w' n tn fs sn tm := GW_cg2 RL.2.1 (fun k i a b => hw k i (by omega)) (hw 0 1 (by omega)) (hw 0 12 (by omega)) (fun q => ⟨by rw [hw 0 10 (by omega)] at q; exact q, fun i => hw 22 i (by omega)⟩)
  exact ⟨F, B, A, td, K, c, y, v, tA, fs, sn, tm, n, nt, tn, kn, e0, RL.gen (c' := c) (v' := v) (kn' := kn) hz (fun k _ => rfl) rfl rfl (fun k i a b => hw k i (by omega)) G' (RL.2.2.2.2.2.2.1.cg rfl (fun _ _ => rfl) (fun _ _ => rfl) (hw 0 27 (by omega)) (fun k _ => hw 24 k (by omega)) (fun i _ => hw 25 i (by omega)) (fun t => ⟨hw 14 t (by omega), hw 15 t (by omega)⟩)) (RL.2.2.2.2.2.2.2.cg (fun _ _ _ => rfl) hz (fun _ _ _ => rfl) (fun k i a b => hw k i (by omega)))⟩
theorem RelC.grow (R : RelC x w ch h) : RelC x w ch (h.1 + 1, h.2.1 + 6, h.2.2) := RelC.lift (sz := h.1) (us := h.2.1) (hf := h.2.2) R (Nat.le_succ _) (fun _ _ _ => rfl)
theorem FRm.grow : FRm x h (h.1 + 1, h.2.1 + 6, h.2.2) := ⟨Nat.le_succ _, Nat.le_refl _, Nat.le_add_right _ _, Nat.add_le_add_left (by omega) _, fun _ _ _ => rfl⟩
theorem FRo.grow : FRo x h (h.1 + 1, h.2.1 + 6, h.2.2) := ⟨Nat.le_succ _, Nat.le_refl _, Nat.le_add_right _ _, Nat.add_le_add_left (by omega) _, fun _ _ _ => rfl⟩
theorem op_toss (R : RelC x w ch h) (e : Int32) : ∃ ans h1, TsR h x e (ans, h1) ∧ FRm x h h1 ∧ ∀ f m sz us y, ∃ w' y', Ev 300 201 0 [some (.ref m), some (.int e)] [] (sz, us, emR f m w y) = some (some (.int ans), (sz, us, emR f m w' y')) ∧ ∃ ch1, ch1 ≤ ch + 1 ∧ RelC x w' ch1 h1 := by
  have R0 := R
  obtain ⟨F, B, A, td, K, c, y, v, tA, fs, sn, tm, n, nt, tn, kn, e0, RL⟩ := R0
  obtain ⟨sz, us, hf⟩ := h
  dsimp only at e0 RL
  subst e0
  have RL0 := RL
  obtain ⟨Q, G, h3, h4, W, h6, h7, h8⟩ := RL0
  have hx : ∃ fs0, emC (emT F B tm td A K) x c y v tA x = some (.inr (9, fs0)) := ⟨_, emC_0⟩
  by_cases hb : vI e 8 = true
  · obtain ⟨e, he, rfl⟩ := vI_T hb (by omega)
    obtain ⟨kd, o0, o1, o2, a1, a2, a3, a4, a5, a6, a7, a8⟩ := (h8.1 e he).dec
    have hr := K_rht (f := emT F B tm td A K) (x := x) (d := 298) (sz := sz) (us := us) (c := c) (y := y) (tm := tA) he a2 a3 a4
    rcases a5 with ⟨b1, b2, b3, b4⟩ | ⟨b1, ⟨r, b2⟩, b3, b4⟩ | ⟨b1, b2, ⟨r, b3⟩, b4⟩ | ⟨b1, b2, b3, ⟨r, b4⟩⟩
    · have hl : ltV w e = -11 := by unfold ltV; rw [a1, b1]; exact if_pos rfl
      rw [b2, b3, b4] at hr
      refine ⟨-11, _, ⟨hx, Or.inl ⟨-11, hr, by decide, rfl⟩⟩, FRm.refl x _, fun f m sz us y => ⟨w, y, ?_, ch, by omega, R⟩⟩
      rw [← hl]
      exact R_toss_no (d := 297) he (by rw [hl]; decide)
    · obtain ⟨t, t1, t2, t3⟩ := a6 b1
      have hB := Q.2.2.2.2.2.2.1.1 t t1
      have T := G.hT t t1
      have hl : ltV w e = nI 0 := by unfold ltV; rw [a1, b1, if_neg (by decide), if_pos rfl]
      rw [b2, b3, b4] at hr
      have ht60 := G.ht60
      have hR := fun f m sz us y => R_toss (f := f) (m := m) (sz := sz) (us := us) (w := w) (y := y) (d := 297) he hl (show t < 60 by omega) t3
      have hg : gfl 11 314 (emC (emT F B tm td A K) x c y v tA (x + (143 + e))) = some (.ref (A t)) := by rw [g_11_314_5 he, t2]
      have hcell := emT_at (F := F) (A := A) (tm := tm) (td := td) (K := K) (c := c) (y := y) (v := v) (tA := tA) hB.1 hB.2
      have h14 : tm t 0 ≤ 14 := T.2.1
      have hk : w 10 t = nI (tm t 0) := T.1
      by_cases q : tm t 0 < 6
      · have hq : cob (emC (emT F B tm td A K) x c y v tA (A t)) = some 0 := by rw [cob_T hB.1 hB.2]; unfold tkc; rw [if_pos q]
        have h5 : ¬ nI 5 < w 10 t := by rw [hk, Int32.lt_iff_toInt_lt, nI_toInt (by omega), nI_toInt (by omega)]; omega
        refine ⟨-15, _, ⟨hx, Or.inr ⟨_, _, _, hr, g_11_31_9, aC_shel he, hg, Or.inl ⟨hq, rfl⟩⟩⟩, FRm.refl x _, fun f m sz us y => ⟨w, y, ?_, ch, by omega, R⟩⟩
        have := hR f m sz us y
        rw [if_neg h5] at this
        exact this
      · have hc : tkc (tm t 0) = 3 ∨ tkc (tm t 0) = 6 ∨ tkc (tm t 0) = 8 := by
          unfold tkc
          rw [if_neg q]
          (repeat' split) <;> omega
        have h5 : nI 5 < w 10 t := by rw [hk, Int32.lt_iff_toInt_lt, nI_toInt (by omega), nI_toInt (by omega)]; omega
        refine ⟨nI (tm t 0), _, ⟨hx, Or.inr ⟨_, _, _, hr, g_11_31_9, aC_shel he, hg, Or.inr ⟨_, _, _, hc, hcell, g_11_188_T hB.1 hB.2, rfl⟩⟩⟩, FRm.grow, fun f m sz us y => ⟨w, y, ?_, ch, by omega, R.grow⟩⟩
        have := hR f m sz us y
        rw [if_pos h5, hk] at this
        exact this
    · have hl : ltV w e = -12 := by unfold ltV; rw [a1, b1, if_neg (by decide), if_neg (by decide)]
      rw [b2, b3, b4] at hr
      refine ⟨-12, _, ⟨hx, Or.inl ⟨-12, hr, by decide, rfl⟩⟩, FRm.refl x _, fun f m sz us y => ⟨w, y, ?_, ch, by omega, R⟩⟩
      rw [← hl]
      exact R_toss_no (d := 297) he (by rw [hl]; decide)
    · have hl : ltV w e = -12 := by unfold ltV; rw [a1, b1, if_neg (by decide), if_neg (by decide)]
      rw [b2, b3, b4] at hr
      refine ⟨-12, _, ⟨hx, Or.inl ⟨-12, hr, by decide, rfl⟩⟩, FRm.refl x _, fun f m sz us y => ⟨w, y, ?_, ch, by omega, R⟩⟩
      rw [← hl]
      exact R_toss_no (d := 297) he (by rw [hl]; decide)
  · have hb' : vI e 8 = false := by simpa using hb
    exact ⟨-1, _, ⟨hx, Or.inl ⟨-1, K_rht_ns (d := 298) hb', by decide, rfl⟩⟩, FRm.refl x _, fun f m sz us y => ⟨w, y, R_toss_ns (d := 297) hb', ch, by omega, R⟩⟩
end KT1
