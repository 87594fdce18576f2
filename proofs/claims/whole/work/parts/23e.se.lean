/-! the class made: a world (2) -/
def LX1 (m : Nat) : List PE := LPb m ++ [zar 5 60]
def LX2 (m : Nat) : List PE := LX1 m ++ (arO 6 6 (gKA m) 6 :: bkL (gKc m) 6)
def LX3 (m : Nat) : List PE := LX2 m ++ (arO 7 8 (gHA m) 8 :: bkL gHc 8)
def LX4 (m : Nat) : List PE := LX3 m ++ [roO (m + 151), zar 0 256, zar 0 256]
theorem LX1_len (m : Nat) : (LX1 m).length = 128 := by unfold LX1; rw [List.length_append, LPb_len]; rfl
theorem LX2_len (m : Nat) : (LX2 m).length = 141 := by unfold LX2; rw [List.length_append, LX1_len, List.length_cons, bkL_len (g := gKc m) (c := 2) (fun _ => rfl)]
theorem LX3_len (m : Nat) : (LX3 m).length = 150 := by unfold LX3; rw [List.length_append, LX2_len, List.length_cons, bkL_len (g := gHc) (c := 1) (fun _ => rfl)]
theorem LX4_len (m : Nat) : (LX4 m).length = 153 := by unfold LX4; rw [List.length_append, LX3_len]; rfl
theorem ckd_128 : ckd 128 = 6 := rfl
theorem ckd_129 : ckd 129 = 7 := rfl
theorem ckd_142 : ckd 142 = 9 := rfl
theorem ckd_151 : ckd 151 = 11 := rfl
theorem LX4_at (m i : Nat) (hi : i < 153) : (LX4 m)[i]? = some (cce m cZ yZ vZ tZ (i + 1)) := by
  unfold LX4
  by_cases h150 : i < 150
  · rw [getL (LX3_len m) h150]
    unfold LX3
    by_cases h141 : i < 141
    · rw [getL (LX2_len m) h141]
      unfold LX2
      by_cases h128 : i < 128
      · rw [getL (LX1_len m) h128]
        unfold LX1
        by_cases h127 : i < 127
        · rw [getL (LPb_len m) h127]
          exact LPb_at m i h127
        · have e : i = 127 := by omega
          subst e
          rw [getR (LPb_len m) (Nat.le_refl _)]
          unfold cce
          rw [show ckd (127 + 1) = 6 from ckd_128]
          rfl
      · rw [getR (LX1_len m) (by omega)]
        by_cases h0 : i = 128
        · subst h0
          unfold cce
          rw [show ckd (128 + 1) = 7 from ckd_129]
          rfl
        · obtain ⟨s, j, hj, e⟩ : ∃ s j, j < 2 ∧ i = 129 + (2 * s + j) := ⟨(i - 129) / 2, (i - 129) % 2, by omega, by omega⟩
          subst e
          rw [show 129 + (2 * s + j) - 128 = (2 * s + j) + 1 by omega, List.getElem?_cons_succ, bkL_get (g := gKc m) (c := 2) (fun _ => rfl) hj 6 (by omega)]
          have hn := ckd_k8 (k := 129 + (2 * s + j) + 1) (by omega) (by omega)
          have hc : j = 0 ∨ j = 1 := by omega
          rcases hc with rfl | rfl
          · rw [if_pos (by omega)] at hn
            rw [cce_8 hn, show 129 + (2 * s + 0) + 1 = 130 + 2 * s by omega]
            rfl
          · rw [if_neg (by omega)] at hn
            rw [cce_3 hn]
            have e1 : ctag (129 + (2 * s + 1) + 1) = 0 := by unfold ctag; rw [if_neg (by omega)]
            have e2 : clen (129 + (2 * s + 1) + 1) = 256 := by unfold clen; rw [if_neg (by omega), if_neg (by omega), if_neg (by omega), if_neg (by omega), if_neg (by omega)]
            rw [e1, e2]
            rfl
    · rw [getR (LX2_len m) (by omega)]
      by_cases h0 : i = 141
      · subst h0
        unfold cce
        rw [show ckd (141 + 1) = 9 from ckd_142]
        rfl
      · obtain ⟨s, e⟩ : ∃ s, i = 142 + s := ⟨i - 142, by omega⟩
        subst e
        have hg := bkL_get (g := gHc) (c := 1) (fun _ => rfl) (s := s) (j := 0) (by omega) 8 (by omega)
        rw [show 1 * s + 0 = s by omega] at hg
        rw [show 142 + s - 141 = s + 1 by omega, List.getElem?_cons_succ, hg, cce_10 (ckd_sh (by omega) (by omega))]
        rfl
  · rw [getR (LX3_len m) (by omega)]
    have hc : i = 150 ∨ i = 151 ∨ i = 152 := by omega
    rcases hc with rfl | rfl | rfl
    · unfold cce
      rw [show ckd (150 + 1) = 11 from ckd_151]
      rfl
    · rw [cce_3 (ckd_ro (by omega))]
      rfl
    · rw [cce_3 (ckd_ro (by omega))]
      rfl
def LZ (m : Nat) : List PE := pwO (.ref (m + 1)) (.ref (m + 128)) (.ref (m + 129)) (.ref (m + 142)) (.ref (m + 151)) :: LX4 m
theorem LZ_len (m : Nat) : (LZ m).length = 154 := by unfold LZ; rw [List.length_cons, LX4_len]
theorem LZ_at (m k : Nat) (hk : k < 154) : (LZ m)[k]? = some (cce m cZ yZ vZ tZ k) := by
  unfold LZ
  cases k with
  | zero =>
    rw [List.getElem?_cons_zero]
    unfold cce
    rw [ckd_lo (by omega)]
    rfl
  | succ i =>
    rw [List.getElem?_cons_succ]
    exact LX4_at m i (by omega)
theorem K_init {f : Hf} {m d us : Nat} : Ev (d + 4) 84 0 [some (.ref m), none] [] (m + 1, us, hup f m (.inr (9, cdf 9))) = some (none, (m + 154, us + 6470, emC f m cZ yZ vZ tZ)) := by
  have h1 := LX1_len m
  have h2 := LX2_len m
  have h3 := LX3_len m
  have g1 : ∀ a b c : Nat, gfl 11 24 (some (pwO (.ref a) (.ref b) (.ref c) .null .null)) = some (.ref c) := fun a b c => by unfold pwO; simp only [gfl, fs_11_24_9]; rfl
  have g2 : ∀ a b c e : Nat, gfl 11 31 (some (pwO (.ref a) (.ref b) (.ref c) (.ref e) .null)) = some (.ref e) := fun a b c e => by unfold pwO; simp only [gfl, fs_11_31_9]; rfl
  rw [K_init_1, K_init_2, LPa_b, show LPb m ++ [zar 5 60] = LX1 m from rfl, K_init_3 (g1 _ _ _) h1, show LX1 m ++ (arO 6 6 (gKA m) 6 :: bkL (gKc m) 6) = LX2 m from rfl, K_init_4 h2, K_init_5 (g2 _ _ _ _) h2, show LX2 m ++ (arO 7 8 (gHA m) 8 :: bkL gHc 8) = LX3 m from rfl, K_init_6 h3]
  rw [← emB_emC (LZ_len m) (LZ_at m)]
  rfl
/-- the first worlds stand together -/
theorem RelC_init {f : Hf} {m us : Nat} : RelC m wZ 0 (m + 186, us, emC f m cZ yZ vZ tZ) := by
  refine ⟨f, fun _ => none, fun _ => 0, fun _ _ => 0, fun _ => (0, 0, 0), cZ, yZ, vZ, tZ, fun _ => none, fun _ => none, fun _ _ => 0, 0, 0, 0, 0, ?_, ?_⟩
  · dsimp only
    have : emT f (fun _ => none) (fun _ _ => 0) (fun _ _ => 0) (fun _ => 0) (fun _ => (0, 0, 0)) = f := rfl
    rw [this]
  · dsimp only
    have w0 : ∀ k i, ¬ (k = 0 ∧ i = 10) → wZ k i = 0 := fun k i h => by
      unfold wZ
      by_cases q : k = 0
      · rw [if_pos q, if_neg (by omega)]
      · rw [if_neg q]
    have b0 : (0 : Int32) = bI false := rfl
    refine ⟨⟨⟨rfl, by omega, fun s hs => ⟨?_, ?_, ?_, fun p hp => ⟨?_, ?_⟩, fun k hk p hp => ?_⟩, fun s hs => absurd hs (by omega)⟩, fun s hs => absurd hs (by omega), rfl, by omega, fun s hs => absurd hs (by omega), fun t ht => absurd ht (by omega), ⟨fun t ht => absurd ht (by omega), fun a t h => (nomatch h)⟩, fun t ht => absurd ht (by omega), rfl, by omega, by omega⟩, ?_, fun t ht => absurd ht (by omega), ⟨by decide, Or.inl rfl⟩, ⟨fun s hs => ⟨false, ?_⟩, fun i hi => ⟨⟨0, by omega, ?_⟩, ⟨0, by omega, ?_⟩⟩, fun s hs => absurd hs (by omega)⟩, ⟨rfl, fun t ht => absurd ht (by omega), fun t ht => absurd ht (by omega), fun a t h => (nomatch h), by omega⟩, ⟨rfl, rfl, by omega, fun k hk => absurd hk (by omega)⟩, ⟨fun d hd => Or.inl ⟨?_, rfl, rfl, rfl⟩, fun d e hd he hde q h => ?_⟩⟩
    · exact (w0 3 s (by omega)).symm
    · exact (w0 5 s (by omega)).symm
    · exact (w0 4 s (by omega)).symm
    · exact (w0 6 _ (by omega)).symm
    · exact (w0 7 _ (by omega)).symm
    · exact (w0 8 _ (by omega)).symm
    · refine ⟨rfl, by omega, rfl, by omega, ⟨fun s hs => absurd hs (by omega), fun s hs => absurd hs (by omega), fun s hs => absurd hs (by omega), fun s hs => absurd hs (by omega)⟩, fun i hi => absurd hi (by omega), ?_⟩
      intro e
      exact absurd e (by decide)
    · rw [w0 5 s (by omega)]; exact b0
    · exact w0 6 i (by omega)
    · exact w0 7 i (by omega)
    · exact w0 26 d (by omega)
    · rcases h with h | h
      · exact (nomatch h)
      · exact (nomatch h)
