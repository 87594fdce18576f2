/-! the class's constructor of Past -/
theorem emB_lo {f : Hf} {x a : Nat} {L : List PE} (h : a < x) : emB f x L a = f a := by
  unfold emB
  rw [if_neg (by omega)]
/-- an array of objects, the first k of them there -/
def arO (t n : Nat) (g : Nat → Nat) (k : Nat) : PE := .inl (t, n, .inr (.inr (.inr (.inr (fun i => if i < k then some (g i) else none)))))
theorem arO_0 {t n : Nat} {g : Nat → Nat} (h : 4 ≤ t) : zar t n = arO t n g 0 := by
  unfold zar arO
  rw [if_neg (by omega), if_neg (by omega)]
  rfl
theorem arO_w {t n k ci : Nat} {g : Nat → Nat} {ev : Option PE} (hk : k < n) (hn : n < 2 ^ 31) (h : cob ev = some ci) (ha : asg t ci = true) : wrl (some (arO t n g k)) (nI k) (g k) ev = some (arO t n g (k + 1)) := by
  have h1 : (nI k).toInt = (k : Int) := nI_toInt (by omega)
  have h2 : (nI k).toNatClampNeg = k := nI_clamp (by omega)
  unfold wrl arO
  dsimp only
  rw [h]
  dsimp only
  rw [if_pos ⟨ha, by rw [h1]; omega⟩, h2]
  have e : va_up (fun i => if i < k then some (g i) else none) k (some (g k)) = (fun i => if i < k + 1 then some (g i) else none) := by
    funext i
    unfold va_up
    by_cases q : i = k
    · rw [if_pos q, if_pos (by omega), q]
    · rw [if_neg q]
      dsimp only
      by_cases q2 : i < k
      · rw [if_pos q2, if_pos (by omega)]
      · rw [if_neg q2, if_neg (by omega)]
  rw [e]
/-- lists that grow by a stretch a step -/
def bkL (g : Nat → List PE) : Nat → List PE
  | 0 => []
  | k + 1 => bkL g k ++ g k
theorem bkL_len {g : Nat → List PE} {c : Nat} (h : ∀ k, (g k).length = c) : ∀ k, (bkL g k).length = c * k
  | 0 => rfl
  | k + 1 => by
    show (bkL g k ++ g k).length = _
    rw [List.length_append, bkL_len h k, h k, Nat.mul_succ]
def gST' (m k : Nat) : List PE := [stO (m + (7 + 4 * k)), zar 1 16, zar 1 16, zar 0 48]
def gSA (m : Nat) : Nat → Nat := fun i => m + (7 + 4 * i)
def pHd (m k : Nat) (T : List PE) : List PE := paO m :: arO 4 30 (gSA m) k :: zar 0 16 :: zar 0 768 :: zar 0 768 :: zar 0 16 :: zar 3 30 :: T
theorem pHd_len {m k n : Nat} {T : List PE} (h : T.length = n) : (pHd m k T).length = 7 + n := by
  unfold pHd
  simp only [List.length_cons, h]
  omega
section PI
variable {f : Hf} {m d us : Nat}
theorem K_initPs {k : Nat} (hk : k < 30) : Ev (d + 2) 22 57 [some (.ref m), some (.int (nI k))] [] (m + (7 + 4 * k), us, emB f m (pHd m k (bkL (gST' m) k))) = Ev (d + 2) 22 57 [some (.ref m), some (.int (nI (k + 1)))] [] (m + (7 + 4 * (k + 1)), us + 89, emB f m (pHd m (k + 1) (bkL (gST' m) (k + 1)))) := by
  have hl : (pHd m k (bkL (gST' m) k)).length = 7 + 4 * k := pHd_len (bkL_len (g := gST' m) (c := 4) (fun _ => rfl) k)
  have eq : gSA m k = m + (7 + 4 * k) := rfl
  have e6 : hup (emB (emB f m (pHd m k (bkL (gST' m) k))) (m + (7 + 4 * k)) [stO (m + (7 + 4 * k)), zar 1 16, zar 1 16, zar 0 48]) (m + 1) (arO 4 30 (gSA m) (k + 1)) = emB f m (pHd m (k + 1) (bkL (gST' m) (k + 1))) := by
    rw [emB_emB hl, emB_set (k := 1) (by rw [List.length_append, hl]; omega)]
    rfl
  have e1 : gfl 3 11 (emB f m (pHd m k (bkL (gST' m) k)) m) = some (.ref (m + 1)) := by
    unfold pHd
    rw [emB_get0]
    simp only [gfl, fs_3_11_2]
    rfl
  have e3 : emB f m (pHd m k (bkL (gST' m) k)) (m + 1) = some (arO 4 30 (gSA m) k) := emB_get rfl
  generalize emB f m (pHd m k (bkL (gST' m) k)) = f1 at e1 e3 e6
  generalize hq : m + (7 + 4 * k) = q at e6 eq
  have e2 : cob (hup f1 q (.inr (7, cdf 7)) q) = some 7 := by rw [hup_at]; rfl
  have e4 : cob (emB f1 q [stO q, zar 1 16, zar 1 16, zar 0 48] q) = some 7 := by rw [emB_get0]; rfl
  have e5 : wrl (emB f1 q [stO q, zar 1 16, zar 1 16, zar 0 48] (m + 1)) (nI k) q (emB f1 q [stO q, zar 1 16, zar 1 16, zar 0 48] q) = some (arO 4 30 (gSA m) (k + 1)) := by
    rw [emB_lo (by omega), e3, ← eq]
    rw [eq]
    have := arO_w (g := gSA m) hk (by omega) e4 (show asg 4 7 = true by decide)
    rw [eq] at this
    exact this
  have eI := fun us => K_initS (f := f1) (m := q) (d := d) (us := us)
  rw [s22_57]
  simp (maxSteps := 2000000) (disch := first | omega | with_reducible assumption | exact cobP | exact cobX | exact cobS (by omega) | exact cobK (by omega) | exact cobF (by omega) | exact cobW | exact isTC_T (by assumption) (by assumption) | exact cobN (by assumption) (by assumption) | exact bI_01 _ | exact Or.inl rfl | exact Or.inr rfl | (simp (decide := true) only [wid_0, wid_i, wid_l, wid_r, wid_n]; done) | decide | fail) only [s22_58, s22_60, s22_63, s22_64, s22_67, s22_68, s22_71, s22_72, s22_75, s22_76, s22_79, Option.bind_some, Option.bind_none, Option.toList_some, Option.toList_none, List.cons_append, List.nil_append, clr_i, clr_r, clr_l, clr_n, nI_add, nsub, pk_mul, nle_F, nle_T, nlt_F, nlt_T, neq_F, nz_F, nz_T, nneg_F, npos_T, npos_lF, npos_lT, nle0_F, m1_neg, m1_pos, m1_z, neq_m1, m1_neq, ↓reduceIte, if_true, if_false, not_true_eq_false, not_false_eq_true, bI_eq0, Bool.true_eq_false, Bool.false_eq_true, true_and, and_true, false_and, and_false, true_or, or_true, false_or, or_false, decide_true, decide_false, Bool.and_self, Bool.true_and, Bool.and_true, Bool.false_and, Bool.and_false, Bool.true_or, Bool.or_true, Bool.false_or, Bool.or_false, Bool.not_true, Bool.not_false, e1, e2, eI, e5, e6, Nat.add_assoc, Nat.reduceAdd]
  rw [show q + 4 = m + (7 + 4 * (k + 1)) by omega]
theorem K_initP : Ev (d + 2) 22 0 [some (.ref m), none] [] (m + 1, us, hup f m (.inr (2, cdf 2))) = some (none, (m + 127, us + 4298, emB f m (pHd m 30 (bkL (gST' m) 30)))) := by
  rw [K_initP0]
  have key := loopE (fun k => Ev (d + 2) 22 57 [some (.ref m), some (.int (nI k))] [] (m + (7 + 4 * k), us + 1628 + 89 * k, emB f m (pHd m k (bkL (gST' m) k)))) 30 (fun k hk => by
    show Ev _ _ _ _ _ _ = Ev _ _ _ _ _ _
    rw [K_initPs hk, show us + 1628 + 89 * k + 89 = us + 1628 + 89 * (k + 1) by omega])
  have e0 : [paO m, zar 4 30, zar 0 16, zar 0 768, zar 0 768, zar 0 16, zar 3 30] = pHd m 0 (bkL (gST' m) 0) := by
    rw [arO_0 (g := gSA m) (Nat.le_refl 4)]
    rfl
  rw [e0]
  refine (show _ = _ from key).trans ?_
  show Ev _ _ _ _ _ _ = _
  rw [s22_57]
  simp (maxSteps := 2000000) (disch := first | omega | with_reducible assumption | exact cobP | exact cobX | exact cobS (by omega) | exact cobK (by omega) | exact cobF (by omega) | exact cobW | exact isTC_T (by assumption) (by assumption) | exact cobN (by assumption) (by assumption) | exact bI_01 _ | exact Or.inl rfl | exact Or.inr rfl | (simp (decide := true) only [wid_0, wid_i, wid_l, wid_r, wid_n]; done) | decide | fail) only [s22_58, s22_60, s22_63, s22_64, s22_67, s22_68, s22_71, s22_72, s22_75, s22_76, s22_79, s22_82 (st := []), Option.bind_some, Option.bind_none, Option.toList_some, Option.toList_none, List.cons_append, List.nil_append, clr_i, clr_r, clr_l, clr_n, nI_add, nsub, pk_mul, nle_F, nle_T, nlt_F, nlt_T, neq_F, nz_F, nz_T, nneg_F, npos_T, npos_lF, npos_lT, nle0_F, m1_neg, m1_pos, m1_z, neq_m1, m1_neq, ↓reduceIte, if_true, if_false, not_true_eq_false, not_false_eq_true, bI_eq0, Bool.true_eq_false, Bool.false_eq_true, true_and, and_true, false_and, and_false, true_or, or_true, false_or, or_false, decide_true, decide_false, Bool.and_self, Bool.true_and, Bool.and_true, Bool.false_and, Bool.and_false, Bool.true_or, Bool.or_true, Bool.false_or, Bool.or_false, Bool.not_true, Bool.not_false, Nat.reduceMul, Nat.reduceAdd, Nat.add_assoc]
end PI
