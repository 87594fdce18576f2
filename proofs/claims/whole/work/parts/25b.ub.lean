/-! class and reference: roads -/
section KT2
variable {x ch d : Nat} {w w' : WD} {h : Hp} {g : Nat → Int64}
theorem wll_1 {g : Nat → Int64} {z : Int64} : wll (some (.inl (3, 1, .inr (.inl g)))) 0 z = some (.inl (3, 1, .inr (.inl (vp_updL g 0 z)))) := rfl
theorem vpL_0 {g : Nat → Int64} {z : Int64} : vp_updL g 0 z 0 = z := by unfold vp_updL; exact if_pos rfl
theorem op_roads (R : RelC x w ch h) (ho : h.2.2 (x + 185) = some (.inl (3, 1, .inr (.inl g)))) (a b : Int32) : ∃ ans h1 g1, RdR h x (x + 185) a b (ans, h1) ∧ FRo x h h1 ∧ h1.2.2 (x + 185) = some (.inl (3, 1, .inr (.inl g1))) ∧ ∀ f m sz us y, ∃ w' y' z, Ev 300 153 0 [some (.ref m), some (.int a), some (.int b), none] [] (sz, us, emR f m w y) = some (some (.long z), (sz, us, emR f m w' y')) ∧ w' 0 0 = ans ∧ (ans = 0 → g1 0 = z) ∧ ∃ ch1, ch1 ≤ ch + 1 ∧ RelC x w' ch1 h1 := by
  have R0 := R
  obtain ⟨F, B, A, td, K, c, y, v, tA, fs, sn, tm, n, nt, tn, kn, e0, RL⟩ := R0
  obtain ⟨sz, us, hf⟩ := h
  dsimp only at e0 RL ho
  subst e0
  have RL0 := RL
  obtain ⟨Q, G, h3, h4, W, h6, h7, h8⟩ := RL0
  have C := Q.1
  have hn30 := C.2.1
  have hx : ∃ fs0, emC (emT F B tm td A K) x c y v tA x = some (.inr (9, fs0)) := ⟨_, emC_0⟩
  have hS := fun q : Int32 => K_isState (f := emT F B tm td A K) (x := x) (d := 299) (sz := sz) (us := us) (y := y) (v := v) (tm := tA) C.1 hn30 q
  by_cases hb : (vI a n && vI b n) = true
  · have hb0 := hb
    simp only [Bool.and_eq_true] at hb
    obtain ⟨b1, b2⟩ := hb
    obtain ⟨a, ha, rfl⟩ := vI_T b1 (by omega)
    obtain ⟨b, hb, rfl⟩ := vI_T b2 (by omega)
    have hA := G.hA
    have hc0 : ∀ s, s < n → c (8 + 4 * s) 0 = enc (fs s) := fun s hs => (C.2.2.2 s hs).1
    have hc1 : ∀ s, s < n → c (8 + 4 * s) 1 = enc (sn s) := fun s hs => (C.2.2.2 s hs).2.1
    have hl0 : ∀ s, s < n → ∀ i, fs s = some i → i < s := fun s hs => (C.2.2.2 s hs).2.2.2.1
    have hl1 : ∀ s, s < n → ∀ i, sn s = some i → i < s := fun s hs => (C.2.2.2 s hs).2.2.2.2.1
    have hK := K_countRoads (f := emT F B tm td A K) (x := x) (d := 299) (sz := sz) (us := us) (y := y) (v := v) (tm := tA) (a := a) (b := b) (n := n) (show a < 30 by omega) hb hn30 hc0 hc1 hA.2.2.1 hA.2.2.2
    rw [emC_off _ _ _ _ _ _ _ (Or.inr (by omega))] at ho
    have ho' : emC (emT F B tm td A K) x c (kRo fs sn a y (b + 1)) v tA (x + 185) = some (.inl (3, 1, .inr (.inl g))) := by
      rw [emC_off _ _ _ _ _ _ _ (Or.inr (by omega))]; exact ho
    have hk1 : Ev 300 48 0 (ent (mtd 48).2.2.2.1 [.ref (x + 1), .int (nI a), .int (nI b)]) [] (sz, us, emC (emT F B tm td A K) x c y v tA) = some (some (.long (kRo fs sn a y (b + 1) b)), (sz, us, emC (emT F B tm td A K) x c (kRo fs sn a y (b + 1)) v tA)) := by
      rw [l48]
      exact hK
    have hk2 : wll (emC (emT F B tm td A K) x c (kRo fs sn a y (b + 1)) v tA (x + 185)) 0 (kRo fs sn a y (b + 1) b) = some (.inl (3, 1, .inr (.inl (vp_updL g 0 (kRo fs sn a y (b + 1) b))))) := by
      rw [ho']
      exact wll_1
    have hRd : RdR (sz, us, emC (emT F B tm td A K) x c y v tA) x (x + 185) (nI a) (nI b) (nI 0, (sz, us, hup (emC (emT F B tm td A K) x c (kRo fs sn a y (b + 1)) v tA) (x + 185) (.inl (3, 1, .inr (.inl (vp_updL g 0 (kRo fs sn a y (b + 1) b))))))) := ⟨hx, n, hS, Or.inr ⟨hb0, x + 1, kRo fs sn a y (b + 1) b, (sz, us, emC (emT F B tm td A K) x c (kRo fs sn a y (b + 1)) v tA), _, g_11_12_9, cobP, hk1, rfl, rfl, hk2, rfl⟩⟩
    refine ⟨nI 0, _, vp_updL g 0 (kRo fs sn a y (b + 1) b), hRd, ⟨Nat.le_refl _, Nat.le_succ _, Nat.le_refl _, Nat.le_add_right _ _, fun q q1 q2 => ?_⟩, ?_, fun f m sz' us' y' => ?_⟩
    · show hup (emC (emT F B tm td A K) x c (kRo fs sn a y (b + 1)) v tA) (x + 185) _ q = emC (emT F B tm td A K) x c y v tA q
      rw [hup_of (by omega), emC_off _ _ _ _ _ _ _ (Or.inr (by omega)), emC_off _ _ _ _ _ _ _ (Or.inr (by omega))]
    · exact hup_at
    · refine ⟨_, _, _, R_roads (d := 298) G.hn hn30 ha hb hA.1 hA.2.1 hA.2.2.1 hA.2.2.2, wU_at, fun _ => ?_, ch, by omega, ?_⟩
      · rw [vpL_0]
        exact roads_eq hb hl0 hl1
      · have R1 : RelC x w ch (sz, us, emC (emT F B tm td A K) x c (kRo fs sn a y (b + 1)) v tA) := ⟨F, B, A, td, K, c, _, v, tA, fs, sn, tm, n, nt, tn, kn, rfl, RL⟩
        exact RelC.lift (R1.frame (hf := hup (emC (emT F B tm td A K) x c (kRo fs sn a y (b + 1)) v tA) (x + 185) _) (fun q hq => hup_of (by omega))) (Nat.le_refl _) (fun k i hk => by rw [wU_ap, if_neg (by omega)])
  · have hb' : (vI a n && vI b n) = false := by simpa using hb
    exact ⟨nI 1, _, g, ⟨hx, n, hS, Or.inl ⟨hb', rfl⟩⟩, FRo.grow, ho, fun f m sz' us' y' => ⟨_, _, _, R_roads_no (d := 298) G.hn hn30 a b hb', wU_at, fun q => absurd q (by decide), ch, by omega, RelC.lift (sz := sz) (us := us) R (Nat.le_succ _) (fun k i hk => by rw [wU_ap, if_neg (by omega)])⟩⟩
end KT2
