/-! class and reference: copy, weight -/
section KA2
variable {F F' : Hf} {B : Nat → Option Nat} {A : Nat → Nat} {v v' : VD} {w w' : WD} {x sz tn : Nat}
/-- the kind of what a shelf holds, and its three references -/
def shD (kd : Nat) (o0 o1 o2 : Option Nat) : Prop := (kd = 0 ∧ o0 = none ∧ o1 = none ∧ o2 = none) ∨ (kd = 1 ∧ (∃ r, o0 = some r) ∧ o1 = none ∧ o2 = none) ∨ (kd = 3 ∧ o0 = none ∧ (∃ r, o1 = some r) ∧ o2 = none) ∨ (kd = 4 ∧ o0 = none ∧ o1 = none ∧ ∃ r, o2 = some r)
theorem SH1.dec {d : Nat} (h : SH1 F B v w tn A x sz d) : ∃ kd o0 o1 o2, w 26 d = nI kd ∧ v (143 + d) 0 = va_rf o0 ∧ v (143 + d) 1 = va_rf o1 ∧ v (143 + d) 2 = va_rf o2 ∧ shD kd o0 o1 o2 ∧ (kd = 1 → ∃ t, t < tn ∧ v (143 + d) 0 = .ref (A t) ∧ w 27 d = nI t) ∧ (kd = 3 → ∃ q, v (143 + d) 1 = .ref q ∧ SHa F B w x sz d 0 q) ∧ (kd = 4 → ∃ q, v (143 + d) 2 = .ref q ∧ SHa F B w x sz d 1 q) := by
  rcases h with ⟨h1, h2, h3, h4⟩ | ⟨h1, h2, h3, t, h4, h5, h6⟩ | ⟨h1, h2, h3, q, h4, h5⟩ | ⟨h1, h2, h3, q, h4, h5⟩
  · exact ⟨0, none, none, none, h1, h2, h3, h4, Or.inl ⟨rfl, rfl, rfl, rfl⟩, fun e => by omega, fun e => by omega, fun e => by omega⟩
  · exact ⟨1, some (A t), none, none, h1, h5, h2, h3, Or.inr (Or.inl ⟨rfl, ⟨_, rfl⟩, rfl, rfl⟩), fun _ => ⟨t, h4, h5, h6⟩, fun e => by omega, fun e => by omega⟩
  · exact ⟨3, none, some q, none, h1, h2, h4, h3, Or.inr (Or.inr (Or.inl ⟨rfl, rfl, ⟨_, rfl⟩, rfl⟩)), fun e => by omega, fun _ => ⟨q, h4, h5⟩, fun e => by omega⟩
  · exact ⟨4, none, none, some q, h1, h2, h3, h4, Or.inr (Or.inr (Or.inr ⟨rfl, rfl, rfl, ⟨_, rfl⟩⟩)), fun e => by omega, fun e => by omega, fun _ => ⟨q, h4, h5⟩⟩
theorem SHt.cp {o e tg q : Nat} {g' : Nat → Int32} (h : SHt F B v w tn A x sz) (ho : o < 8) (hh : hasA v o q) (hk : (tg = 0 ∧ w 26 o = nI 3) ∨ (tg = 1 ∧ w 26 o = nI 4)) (he : w 28 o = nI e) (he60 : e ≤ 60) (hw : ∀ k i, 26 ≤ k → k ≤ 28 → w' k i = w k i) (h9 : ∀ i, i < 60 * o ∨ 60 * o + 60 ≤ i → w' 29 i = w 29 i) (hg : ∀ i, i < e → g' i = w' 29 (60 * o + i)) (hf : tg = 1 → ∀ i, i < e → fits .byte (.int (g' i)) = true) : SHt (hup F q (.inl (tg, e, .inl g'))) B v w' tn A x sz := by
  have h34 : ¬ (nI 3 : Int32) = nI 4 := by decide
  have h30 : ¬ (nI 0 : Int32) = nI 3 := by decide
  have h40 : ¬ (nI 0 : Int32) = nI 4 := by decide
  have h31 : ¬ (nI 1 : Int32) = nI 3 := by decide
  have h41 : ¬ (nI 1 : Int32) = nI 4 := by decide
  refine ⟨fun d hd => ?_, h.2⟩
  by_cases hdo : d = o
  · subst hdo
    unfold SH1
    rw [hw 26 d (by omega) (by omega), hw 27 d (by omega) (by omega)]
    have h1 := h.1 d hd
    rcases h1 with ⟨a1, -⟩ | ⟨a1, -⟩ | ⟨a1, a2, a3, r, a4, a5⟩ | ⟨a1, a2, a3, r, a4, a5⟩
    · rcases hk with ⟨-, hk⟩ | ⟨-, hk⟩ <;> rw [a1] at hk <;> first | exact absurd hk h30 | exact absurd hk h40
    · rcases hk with ⟨-, hk⟩ | ⟨-, hk⟩ <;> rw [a1] at hk <;> first | exact absurd hk h31 | exact absurd hk h41
    · rcases hk with ⟨htg, hk⟩ | ⟨-, hk⟩
      · have hqr : q = r := by
          rcases hh with hh | hh
          · rw [a4] at hh; injection hh with hh; exact hh.symm
          · rw [a3] at hh; cases hh
        subst hqr htg
        obtain ⟨e', g, b1, b2, b3, b4, b5, b6, b7, b8⟩ := a5
        exact Or.inr (Or.inr (Or.inl ⟨a1, a2, a3, q, a4, e, g', he60, by rw [hw 28 d (by omega) (by omega)]; exact he, b3, b4, b5, hup_at, hg, hf⟩))
      · rw [a1] at hk; exact absurd hk h34
    · rcases hk with ⟨-, hk⟩ | ⟨htg, hk⟩
      · rw [a1] at hk; exact absurd hk.symm h34
      · have hqr : q = r := by
          rcases hh with hh | hh
          · rw [a3] at hh; cases hh
          · rw [a4] at hh; injection hh with hh; exact hh.symm
        subst hqr htg
        obtain ⟨e', g, b1, b2, b3, b4, b5, b6, b7, b8⟩ := a5
        exact Or.inr (Or.inr (Or.inr ⟨a1, a2, a3, q, a4, e, g', he60, by rw [hw 28 d (by omega) (by omega)]; exact he, b3, b4, b5, hup_at, hg, hf⟩))
  · exact (h.1 d hd).cg (fun r hr hA => hup_of (fun e => by rw [e] at hA; exact h.2 d o hd ho hdo q hA hh)) (Nat.le_refl _) (fun _ => rfl) (fun k a b => hw k d a b) (fun i hi => h9 _ (by omega))
theorem str_ok {e : Nat} (he : e ≤ 60) {i z : Nat} (hi : i < 2 ^ 31) (hz : z < 2 ^ 31) : (strB (nI i) (nI z) (nI e) = true) ↔ i + z ≤ e := by
  unfold strB
  have h0 : ¬ nI i < 0 := nI_pos hi
  rw [decide_eq_false h0, Bool.not_false, Bool.true_and, Bool.and_eq_true, decide_eq_true_eq, decide_eq_true_eq]
  rw [Int32.le_iff_toInt_le, nI_toInt hi, nI_toInt (by omega)]
  constructor
  · intro ⟨h1, h2⟩
    rw [nsub (by omega), Int32.le_iff_toInt_le, nI_toInt hz, nI_toInt (by omega)] at h2
    omega
  · intro h
    refine ⟨by omega, ?_⟩
    rw [nsub (by omega), Int32.le_iff_toInt_le, nI_toInt hz, nI_toInt (by omega)]
    omega
theorem sub_lt_ok {e : Nat} (he : e ≤ 60) {i z : Nat} (hi : i < 2 ^ 31) (hz : z < 2 ^ 31) : (nI e - nI z < nI i) ↔ e < i + z := by
  have h1 : (nI e - nI z).toInt = (e : Int) - (z : Int) := by
    rw [Int32.toInt_sub, nI_toInt (by omega), nI_toInt hz]
    exact Int.bmod_eq_of_le (by omega) (by omega)
  rw [Int32.lt_iff_toInt_lt, h1, nI_toInt hi]
  omega
theorem cp13 {e1 e2 : Nat} (h1 : e1 ≤ 60) (h2 : e2 ≤ 60) (i j z : Int32) : ((!decide (z < 0) && (strB i z (nI e1) && strB j z (nI e2))) = true) ↔ ¬ (z < 0 ∨ i < 0 ∨ j < 0 ∨ nI e1 - z < i ∨ nI e2 - z < j) := by
  by_cases hz : z < 0
  · simp [hz]
  · obtain ⟨z, hz', rfl⟩ := i32_nat hz
    by_cases hi : i < 0
    · simp [hi, strB]
    · obtain ⟨i, hi', rfl⟩ := i32_nat hi
      by_cases hj : j < 0
      · simp [hj, strB]
      · obtain ⟨j, hj', rfl⟩ := i32_nat hj
        rw [decide_eq_false hz, Bool.not_false, Bool.true_and, Bool.and_eq_true, str_ok h1 hi' hz', str_ok h2 hj' hz', sub_lt_ok h1 hi' hz', sub_lt_ok h2 hj' hz']
        constructor
        · intro ⟨a, b⟩ q
          rcases q with q | q | q | q | q
          · exact hz q
          · exact hi q
          · exact hj q
          · omega
          · omega
        · intro q
          refine ⟨?_, ?_⟩
          · refine Classical.byContradiction fun a => q (Or.inr (Or.inr (Or.inr (Or.inl (by omega)))))
          · refine Classical.byContradiction fun a => q (Or.inr (Or.inr (Or.inr (Or.inr (by omega)))))
end KA2
section OPE
variable {x ch : Nat} {w : WD} {h : Hp}
theorem hef_weV {w : WD} {t k : Nat} (hk : k ≤ 14) (h : w 10 t = nI k) : hef k (w 15 t) (w 16 t) = weV w t := by
  unfold hef weV
  rw [h]
  have e14 : ∀ k, k < 14 → ¬ nI k = nI 14 := by decide
  have e5 : ∀ k, k < 6 → ¬ nI 5 < nI k := by decide
  have e6 : ∀ k, k < 15 → 6 ≤ k → nI 5 < nI k := by decide
  have r1 : ∀ k, k < 9 → rI (nI k) 9 13 = false := by decide
  have r2 : ∀ k, k < 14 → 9 ≤ k → rI (nI k) 9 13 = true := by decide
  by_cases k6 : k < 6
  · rw [if_pos k6, if_neg (e14 k (by omega)), r1 k (by omega), if_neg (by simp), if_neg (e5 k k6), add_n0]
  · rw [if_neg k6]
    by_cases k9 : k < 9
    · rw [if_pos k9, if_neg (e14 k (by omega)), r1 k k9, if_neg (by simp), if_pos (e6 k (by omega) (by omega))]
    · rw [if_neg k9]
      by_cases k14 : k < 14
      · rw [if_pos k14, if_neg (e14 k k14), r2 k k14 (by omega), if_pos rfl, if_pos (e6 k (by omega) (by omega))]
      · have : k = 14 := by omega
        subst this
        rw [if_neg k14, if_pos rfl, if_pos (e6 14 (by omega) (by omega))]
theorem op_weight (R : RelC x w ch h) (e : Int32) : OpOK x w ch h 132 [some (.ref x), some (.int e), none] 200 (fun m => [some (.ref m), some (.int e), none, none]) := by
  have R0 := R
  obtain ⟨F, B, A, td, K, c, y, v, tA, fs, sn, tm, n, nt, tn, kn, e0, RL⟩ := R0
  obtain ⟨sz, us, hf⟩ := h
  dsimp only at e0 RL
  subst e0
  have RL0 := RL
  obtain ⟨Q, G, h3, h4, W, h6, h7, h8⟩ := RL0
  by_cases hb : vI e 8 = true
  · obtain ⟨e, he, rfl⟩ := vI_T hb (by omega)
    obtain ⟨kd, o0, o1, o2, a1, a2, a3, a4, a5, a6, a7, a8⟩ := (h8.1 e he).dec
    have hr := fun d => K_rht (f := emT F B tm td A K) (x := x) (d := d) (sz := sz) (us := us) (c := c) (y := y) (tm := tA) he a2 a3 a4
    rcases a5 with ⟨b1, b2, b3, b4⟩ | ⟨b1, ⟨r, b2⟩, b3, b4⟩ | ⟨b1, b2, ⟨r, b3⟩, b4⟩ | ⟨b1, b2, b3, ⟨r, b4⟩⟩
    · have hl : ltV w e = -11 := by unfold ltV; rw [a1, b1]; exact if_pos rfl
      rw [b2, b3, b4] at hr
      refine OpOK.pure R (-11) (K_weight_no (d := 295) (by decide) hr) (fun f m sz us y => ?_)
      rw [← hl]
      exact R_weight_no (d := 297) he (by rw [hl]; decide)
    · obtain ⟨t, t1, t2, t3⟩ := a6 b1
      have hB := Q.2.2.2.2.2.2.1.1 t t1
      have hD := Q.2.2.2.2.2.2.2.1 t t1
      have T := G.hT t t1
      have hl : ltV w e = nI 0 := by unfold ltV; rw [a1, b1, if_neg (by decide), if_pos rfl]
      rw [b2, b3, b4] at hr
      have hh := hef_weV (w := w) (t := t) T.2.1 T.1
      have ht60 := G.ht60
      refine OpOK.pure R (weV w t) ?_ (fun f m sz us y => R_weight (d := 297) he hl (by omega) t3)
      rw [← hh, ← hD.2.1, ← hD.2.2.1]
      exact K_weight (d := 295) he t2 hB.1 hB.2 hr
    · have hl : ltV w e = -12 := by unfold ltV; rw [a1, b1, if_neg (by decide), if_neg (by decide)]
      rw [b2, b3, b4] at hr
      refine OpOK.pure R (-12) (K_weight_no (d := 295) (by decide) hr) (fun f m sz us y => ?_)
      rw [← hl]
      exact R_weight_no (d := 297) he (by rw [hl]; decide)
    · have hl : ltV w e = -12 := by unfold ltV; rw [a1, b1, if_neg (by decide), if_neg (by decide)]
      rw [b2, b3, b4] at hr
      refine OpOK.pure R (-12) (K_weight_no (d := 295) (by decide) hr) (fun f m sz us y => ?_)
      rw [← hl]
      exact R_weight_no (d := 297) he (by rw [hl]; decide)
  · have hb' : vI e 8 = false := by simpa using hb
    exact OpOK.pure R (-1) (K_weight_no (d := 295) (by decide) (fun d => K_rht_ns hb')) (fun f m sz us y => R_weight_ns (d := 297) hb')
/-- two rows of one kind -/
theorem op_copy2 {F : Hf} {B : Nat → Option Nat} {A : Nat → Nat} {td : Nat → Nat → Int32} {K : KT} {c : WD} {y : Nat → Int64} {v : VD} {tA fs sn : Nat → Option Nat} {tm : Nat → Nat → Nat} {n nt tn kn sz us e o tg q1 q2 : Nat} {o0 o1 o2 p0 p1 p2 : Option Nat} (RL : RLm F B A td K c v tA w fs sn tm x sz n nt tn ch kn) (he : e < 8) (ho : o < 8) (h0 : v (143 + e) 0 = va_rf o0) (h1 : v (143 + e) 1 = va_rf o1) (h2 : v (143 + e) 2 = va_rf o2) (g0 : v (143 + o) 0 = va_rf p0) (g1 : v (143 + o) 1 = va_rf p1) (g2 : v (143 + o) 2 = va_rf p2) (hl : (o2B o1 p1 || o2B o2 p2) = true) (hk : (tg = 0 ∧ w 26 e = nI 3 ∧ w 26 o = nI 3 ∧ v (143 + e) 1 = .ref q1 ∧ v (143 + o) 1 = .ref q2 ∧ v (143 + e) 2 = .null ∧ v (143 + o) 2 = .null) ∨ (tg = 1 ∧ w 26 e = nI 4 ∧ w 26 o = nI 4 ∧ v (143 + e) 2 = .ref q1 ∧ v (143 + o) 2 = .ref q2 ∧ v (143 + e) 1 = .null ∧ v (143 + o) 1 = .null)) (ha : SHa F B w x sz e tg q1) (hb : SHa F B w x sz o tg q2) (i j z : Int32) : OpOK x w ch (sz, us, emC (emT F B tm td A K) x c y v tA) 130 [some (.ref x), some (.int (nI e)), some (.int i), some (.int (nI o)), some (.int j), some (.int z), none, none] 198 (fun m => [some (.ref m), some (.int (nI e)), some (.int i), some (.int (nI o)), some (.int j), some (.int z), none]) := by
  obtain ⟨e1, G1, a1, a2, a3, a4, a5, a6, a7, a8⟩ := ha
  obtain ⟨e2, G2, b1, b2, b3, b4, b5, b6, b7, b8⟩ := hb
  have hpre := K_copy_pre (d := 296) (f := emT F B tm td A K) (x := x) (sz := sz) (us := us) (c := c) (y := y) (tm := tA) (i := i) (j := j) (z := z) he ho h0 h1 h2 g0 g1 g2 hl
  have at1 : emC (emT F B tm td A K) x c y v tA q1 = some (.inl (tg, e1, .inl G1)) := by
    rw [emC_off _ _ _ _ _ _ _ (by omega)]; unfold emT; rw [a5]; exact a6
  have at2 : emC (emT F B tm td A K) x c y v tA q2 = some (.inl (tg, e2, .inl G2)) := by
    rw [emC_off _ _ _ _ _ _ _ (by omega)]; unfold emT; rw [b5]; exact b6
  have tg8 : tg < 8 := by omega
  have ln : ∀ (e : Nat) (G : Nat → Int32), aln (some (.inl (tg, e, .inl G))) = some e := fun e G => by unfold aln; exact if_pos tg8
  have s1 : ∀ d, Ev d 71 0 [some (.ref (x + (143 + e)))] [] (sz, us, emC (emT F B tm td A K) x c y v tA) = some (some (.int (nI e1)), (sz, us, emC (emT F B tm td A K) x c y v tA)) := by
    intro d
    rcases hk with ⟨k0, k1, k2, k3, k4, k5, k6⟩ | ⟨k0, k1, k2, k3, k4, k5, k6⟩
    · exact K_sizeI he k3 (by rw [at1]; exact ln _ _)
    · exact K_sizeB he k5 k3 (by rw [at1]; exact ln _ _)
  have s2 : ∀ d, Ev d 71 0 [some (.ref (x + (143 + o)))] [] (sz, us, emC (emT F B tm td A K) x c y v tA) = some (some (.int (nI e2)), (sz, us, emC (emT F B tm td A K) x c y v tA)) := by
    intro d
    rcases hk with ⟨k0, k1, k2, k3, k4, k5, k6⟩ | ⟨k0, k1, k2, k3, k4, k5, k6⟩
    · exact K_sizeI ho k4 (by rw [at2]; exact ln _ _)
    · exact K_sizeB ho k6 k4 (by rw [at2]; exact ln _ _)
  have hw26 : ¬ (w 26 e = 0 ∨ w 26 o = 0) ∧ ¬ (w 26 e < nI 3 ∨ ¬ w 26 e = w 26 o) := by
    rcases hk with ⟨-, k1, k2, -⟩ | ⟨-, k1, k2, -⟩ <;> rw [k1, k2] <;> decide
  have hcp : cpR w e o i j z = if z < 0 ∨ i < 0 ∨ j < 0 ∨ nI e1 - z < i ∨ nI e2 - z < j then -13 else nI 0 := by
    unfold cpR
    rw [if_neg hw26.1, if_neg hw26.2, a2, b2]
  by_cases hok : (!decide (z < 0) && (strB i z (nI e1) && strB j z (nI e2))) = true
  · have hno := (cp13 a1 b1 i j z).mp hok
    have hc0 : cpR w e o i j z = nI 0 := by rw [hcp, if_neg hno]
    have hz : ¬ z < 0 := fun q => hno (Or.inl q)
    have hi : ¬ i < 0 := fun q => hno (Or.inr (Or.inl q))
    have hj : ¬ j < 0 := fun q => hno (Or.inr (Or.inr (Or.inl q)))
    obtain ⟨z, hz', rfl⟩ := i32_nat hz
    obtain ⟨i, hi', rfl⟩ := i32_nat hi
    obtain ⟨j, hj', rfl⟩ := i32_nat hj
    simp only [Bool.and_eq_true] at hok
    obtain ⟨-, t1, t2⟩ := hok
    have u1 := (str_ok a1 hi' hz').mp t1
    have u2 := (str_ok b1 hj' hz').mp t2
    have hcpy : cpy (emC (emT F B tm td A K) x c y v tA q1) (emC (emT F B tm td A K) x c y v tA q2) (nI i) (nI j) (nI z) = some (.inl (tg, e2, .inl (va_cpy G1 G2 i j z))) := by
      rw [at1, at2]
      unfold cpy
      dsimp only
      rw [nI_clamp (by omega), nI_clamp (by omega), nI_clamp (by omega), nI_toInt (by omega), nI_toInt (by omega), nI_toInt (by omega)]
      exact if_pos ⟨by omega, rfl, by omega, by omega, by omega, by omega, by omega, fun q k hk => a8 q _ (by omega)⟩
    have hg : ∀ d, Ev (d + 1) 74 0 [some (.ref (x + (143 + e))), some (.ref (x + (143 + o))), some (.int (nI i)), some (.int (nI j)), some (.int (nI z))] [] (sz, us, emC (emT F B tm td A K) x c y v tA) = some (none, (sz, us, emC (emT (hup F q2 (.inl (tg, e2, .inl (va_cpy G1 G2 i j z)))) B tm td A K) x c y v tA)) := by
      intro d
      rw [← emT_hupF b5]
      rcases hk with ⟨k0, k1, k2, k3, k4, k5, k6⟩ | ⟨k0, k1, k2, k3, k4, k5, k6⟩
      · exact K_giveI he ho (by omega) k3 k5 k4 hcpy
      · exact K_giveB he ho (by omega) k5 k3 k4 hcpy
    refine ⟨nI z, _, hpre.trans (K_copy_do (d := 296) he ho s1 s2 hz t1 t2 hg), ⟨by dsimp only; omega, by dsimp only; omega, by dsimp only; omega, by dsimp only; omega, fun a h1 h2 => emCT_lo h1 (RL.lo h1 h2) (RL.lo h1 h2) (hup_of (by omega))⟩, fun f m sz1 us1 y1 => ⟨_, y1, R_copy (d := 298) he ho (by omega) (by omega) hc0, ch, by omega, _, B, A, td, K, c, y, v, tA, fs, sn, tm, n, nt, tn, kn, rfl, ?_⟩⟩
    have w0 : ∀ k i', k < 29 → wT (wT w 30 (cop (w 30) (fun r => w 29 (60 * e + i + r)) z)) 29 (rwT (w 29) (60 * o + j) (fun r => w 29 (60 * e + i + r)) z) k i' = w k i' := fun k i' hk => by rw [wT_off _ _ _ _ (by omega), wT_off _ _ _ _ (by omega)]
    refine RL.gen (Nat.le_refl _) (fun _ _ => rfl) rfl rfl (fun k i' a b => w0 k i' (by omega)) (RL.2.1.k26 (fun k i' hk => w0 k i' (by omega))) (RL.2.2.2.2.2.2.1.k26 (fun k i' hk => w0 k i' (by omega)) (fun _ _ _ => rfl)) ?_
    refine RL.2.2.2.2.2.2.2.cp (o := o) ho ?_ ?_ b2 b1 (fun k i' k1 k2 => w0 k i' (by omega)) (fun i' hi' => by rw [wT_at]; exact rwT_of _ _ _ (by omega)) (fun i' hi' => ?_) (fun htg i' hi' => ?_)
    · rcases hk with ⟨k0, k1, k2, k3, k4, k5, k6⟩ | ⟨k0, k1, k2, k3, k4, k5, k6⟩
      · exact Or.inl k4
      · exact Or.inr k4
    · rcases hk with ⟨k0, k1, k2, k3, k4, k5, k6⟩ | ⟨k0, k1, k2, k3, k4, k5, k6⟩
      · exact Or.inl ⟨k0, k2⟩
      · exact Or.inr ⟨k0, k2⟩
    · rw [wT_at]
      by_cases hr : j ≤ i' ∧ i' < j + z
      · rw [pk_cpy_in hr.1 hr.2, a7 _ (by omega)]
        have := rwT_in (w 29) (60 * o + j) (fun r => w 29 (60 * e + i + r)) (j := z) (i := i' - j) (by omega)
        rw [show 60 * o + j + (i' - j) = 60 * o + i' by omega] at this
        rw [this, show 60 * e + (i + (i' - j)) = 60 * e + i + (i' - j) by omega]
      · rw [pk_cpy_out (by omega), rwT_of _ _ _ (by omega)]
        exact b7 i' hi'
    · by_cases hr : j ≤ i' ∧ i' < j + z
      · rw [pk_cpy_in hr.1 hr.2]; exact a8 htg _ (by omega)
      · rw [pk_cpy_out (by omega)]; exact b8 htg i' hi'
  · have hok' : (!decide (z < 0) && (strB i z (nI e1) && strB j z (nI e2))) = false := by simpa using hok
    have hc : cpR w e o i j z = -13 := by
      rw [hcp, if_pos]
      exact Classical.byContradiction fun q => hok ((cp13 a1 b1 i j z).mpr q)
    refine OpOK.pure ⟨F, B, A, td, K, c, y, v, tA, fs, sn, tm, n, nt, tn, kn, rfl, RL⟩ (-13) (hpre.trans (K_copy_13 (d := 296) he ho s1 s2 hok')) (fun f m sz us y => ?_)
    rw [← hc]
    exact R_copy_no (d := 298) he ho (by rw [hc]; decide)
theorem op_copy (R : RelC x w ch h) (e i o j z : Int32) : OpOK x w ch h 130 [some (.ref x), some (.int e), some (.int i), some (.int o), some (.int j), some (.int z), none, none] 198 (fun m => [some (.ref m), some (.int e), some (.int i), some (.int o), some (.int j), some (.int z), none]) := by
  have R0 := R
  obtain ⟨F, B, A, td, K, c, y, v, tA, fs, sn, tm, n, nt, tn, kn, e0, RL⟩ := R0
  obtain ⟨sz, us, hf⟩ := h
  dsimp only at e0 RL
  subst e0
  have h8 := RL.2.2.2.2.2.2.2
  by_cases hb : (vI e 8 && vI o 8) = true
  · simp only [Bool.and_eq_true] at hb
    obtain ⟨b1, b2⟩ := hb
    obtain ⟨e, he, rfl⟩ := vI_T b1 (by omega)
    obtain ⟨o, ho, rfl⟩ := vI_T b2 (by omega)
    obtain ⟨kd, o0, o1, o2, a1, a2, a3, a4, a5, a6, a7, a8⟩ := (h8.1 e he).dec
    obtain ⟨kd', p0, p1, p2, c1, c2, c3, c4, c5, c6, c7, c8⟩ := (h8.1 o ho).dec
    have hkd : kd = 0 ∨ kd = 1 ∨ kd = 3 ∨ kd = 4 := by rcases a5 with h | h | h | h <;> simp [h.1]
    have hkd' : kd' = 0 ∨ kd' = 1 ∨ kd' = 3 ∨ kd' = 4 := by rcases c5 with h | h | h | h <;> simp [h.1]
    have n1 : (o0.isNone && (o1.isNone && o2.isNone)) = decide (kd = 0) := by
      rcases a5 with ⟨d1, d2, d3, d4⟩ | ⟨d1, ⟨r, d2⟩, d3, d4⟩ | ⟨d1, d2, ⟨r, d3⟩, d4⟩ | ⟨d1, d2, d3, ⟨r, d4⟩⟩ <;> subst d1 d2 d3 d4 <;> rfl
    have n2 : (p0.isNone && (p1.isNone && p2.isNone)) = decide (kd' = 0) := by
      rcases c5 with ⟨d1, d2, d3, d4⟩ | ⟨d1, ⟨r, d2⟩, d3, d4⟩ | ⟨d1, d2, ⟨r, d3⟩, d4⟩ | ⟨d1, d2, d3, ⟨r, d4⟩⟩ <;> subst d1 d2 d3 d4 <;> rfl
    have n3 : (o2B o1 p1 || o2B o2 p2) = (decide (kd = kd') && decide (3 ≤ kd)) := by
      rcases a5 with ⟨d1, d2, d3, d4⟩ | ⟨d1, ⟨r, d2⟩, d3, d4⟩ | ⟨d1, d2, ⟨r, d3⟩, d4⟩ | ⟨d1, d2, d3, ⟨r, d4⟩⟩ <;> subst d1 d2 d3 d4 <;> rcases c5 with ⟨f1, f2, f3, f4⟩ | ⟨f1, ⟨s, f2⟩, f3, f4⟩ | ⟨f1, f2, ⟨s, f3⟩, f4⟩ | ⟨f1, f2, f3, ⟨s, f4⟩⟩ <;> subst f1 f2 f3 f4 <;> rfl
    by_cases z1 : kd = 0 ∨ kd' = 0
    · have hc : cpR w e o i j z = -11 := by
        unfold cpR
        rw [if_pos]
        rw [a1, c1]
        rcases z1 with z1 | z1
        · exact Or.inl (by rw [z1]; rfl)
        · exact Or.inr (by rw [z1]; rfl)
      refine OpOK.pure R (-11) (K_copy_11 (d := 296) he ho a2 a3 a4 c2 c3 c4 ?_) (fun f m sz us y => ?_)
      · rw [n1, n2]
        rcases z1 with z1 | z1 <;> simp [z1]
      · rw [← hc]
        exact R_copy_no (d := 298) he ho (by rw [hc]; decide)
    · have z2 : ¬ (w 26 e = 0 ∨ w 26 o = 0) := by
        rw [a1, c1]
        intro q
        have q0 : ∀ k, k = 0 ∨ k = 1 ∨ k = 3 ∨ k = 4 → nI k = 0 → k = 0 := by
          intro k hk h
          rcases hk with rfl | rfl | rfl | rfl
          · rfl
          · exact absurd h (by decide)
          · exact absurd h (by decide)
          · exact absurd h (by decide)
        rcases q with q | q
        · exact z1 (Or.inl (q0 _ hkd q))
        · exact z1 (Or.inr (q0 _ hkd' q))
      by_cases z3 : kd = kd' ∧ 3 ≤ kd
      · obtain ⟨z3, z4⟩ := z3
        subst z3
        have hl : (o2B o1 p1 || o2B o2 p2) = true := by rw [n3]; simp [z4]
        by_cases k3 : kd = 3
        · obtain ⟨q1, s1, s2⟩ := a7 k3
          obtain ⟨q2, s3, s4⟩ := c7 k3
          have v1 : v (143 + e) 2 = .null := by
            rcases a5 with ⟨d1, -⟩ | ⟨d1, -⟩ | ⟨d1, d2, d3, d4⟩ | ⟨d1, -⟩
            · omega
            · omega
            · rw [a4, d4]; rfl
            · omega
          have v2 : v (143 + o) 2 = .null := by
            rcases c5 with ⟨d1, -⟩ | ⟨d1, -⟩ | ⟨d1, d2, d3, d4⟩ | ⟨d1, -⟩
            · omega
            · omega
            · rw [c4, d4]; rfl
            · omega
          exact op_copy2 (tg := 0) RL he ho a2 a3 a4 c2 c3 c4 hl (Or.inl ⟨rfl, by rw [a1, k3], by rw [c1, k3], s1, s3, v1, v2⟩) s2 s4 i j z
        · have k4 : kd = 4 := by omega
          obtain ⟨q1, s1, s2⟩ := a8 k4
          obtain ⟨q2, s3, s4⟩ := c8 k4
          have v1 : v (143 + e) 1 = .null := by
            rcases a5 with ⟨d1, -⟩ | ⟨d1, -⟩ | ⟨d1, -⟩ | ⟨d1, d2, d3, d4⟩
            · omega
            · omega
            · omega
            · rw [a3, d3]; rfl
          have v2 : v (143 + o) 1 = .null := by
            rcases c5 with ⟨d1, -⟩ | ⟨d1, -⟩ | ⟨d1, -⟩ | ⟨d1, d2, d3, d4⟩
            · omega
            · omega
            · omega
            · rw [c3, d3]; rfl
          exact op_copy2 (tg := 1) RL he ho a2 a3 a4 c2 c3 c4 hl (Or.inr ⟨rfl, by rw [a1, k4], by rw [c1, k4], s1, s3, v1, v2⟩) s2 s4 i j z
      · have hc : cpR w e o i j z = -12 := by
          unfold cpR
          rw [if_neg z2, if_pos]
          rw [a1, c1]
          rcases hkd with r | r | r | r <;> rcases hkd' with r' | r' | r' | r' <;> subst r r' <;> first | decide | omega | (exfalso; exact z1 (Or.inl rfl)) | (exfalso; exact z1 (Or.inr rfl)) | (exfalso; exact z3 ⟨rfl, by omega⟩)
        refine OpOK.pure R (-12) (K_copy_12 (d := 296) he ho a2 a3 a4 c2 c3 c4 ?_ ?_ ?_) (fun f m sz us y => ?_)
        · rw [n1]; exact decide_eq_false (fun q => z1 (Or.inl q))
        · rw [n2]; exact decide_eq_false (fun q => z1 (Or.inr q))
        · rw [n3]
          by_cases q : kd = kd'
          · rw [decide_eq_true q, decide_eq_false (fun q2 => z3 ⟨q, q2⟩)]; rfl
          · rw [decide_eq_false q]; rfl
        · rw [← hc]
          exact R_copy_no (d := 298) he ho (by rw [hc]; decide)
  · have hb' : (vI e 8 && vI o 8) = false := by simpa using hb
    exact OpOK.pure R (-1) (K_copy_ns (d := 296) hb') (fun f m sz us y => R_copy_ns (d := 298) hb')
end OPE
