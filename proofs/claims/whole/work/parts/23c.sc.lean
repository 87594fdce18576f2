/-! the class's constructor (wip/whole/gen23c.py) -/
theorem mid_get {f : Hf} {m j : Nat} {p a : PE} {L T : List PE} (h : L.length = j) : emB f m (p :: (L ++ (a :: T))) (m + (j + 1)) = some a := by
  refine emB_get ?_
  subst h
  rw [List.getElem?_cons_succ, List.getElem?_append_right (Nat.le_refl _), Nat.sub_self]
  rfl
theorem mid_set {j : Nat} {p a e : PE} {L T : List PE} (h : L.length = j) : (p :: (L ++ (a :: T))).set (j + 1) e = p :: (L ++ (e :: T)) := by
  subst h
  rw [List.set_cons_succ, List.set_append_right _ _ (Nat.le_refl _), Nat.sub_self]
  rfl
theorem mid_step {f : Hf} {m j n q : Nat} {p a e : PE} {L T C : List PE} (hL : L.length = j) (hT : T.length = n) (hq : q = m + (j + 2 + n)) : hup (emB (emB f m (p :: (L ++ (a :: T)))) q C) (m + (j + 1)) e = emB f m (p :: (L ++ (e :: (T ++ C)))) := by
  subst hq
  rw [emB_emB (by simp only [List.length_cons, List.length_append, hL, hT]; omega), emB_set (k := j + 1) (by simp only [List.length_cons, List.length_append, hL, hT]; omega)]
  rw [show p :: (L ++ (a :: T)) ++ C = p :: (L ++ (a :: (T ++ C))) by simp only [List.cons_append, List.append_assoc], mid_set hL]
theorem emB_emC {f : Hf} {m : Nat} {c : WD} {y : Nat → Int64} {v : VD} {tm : Nat → Option Nat} {L : List PE} (hl : L.length = 154) (h : ∀ k, k < 154 → L[k]? = some (cce m c y v tm k)) : emB f m L = emC f m c y v tm := by
  funext a
  unfold emB emC
  by_cases q : m ≤ a
  · rw [if_pos q]
    by_cases q2 : a < m + 154
    · rw [if_pos ⟨q, q2⟩, h _ (by omega)]
    · rw [if_neg (by omega), List.getElem?_eq_none (by omega)]
  · rw [if_neg q, if_neg (by omega)]
theorem pC_11_12 {fs : List Value} {a : Nat} (h : fs.length = 7) : pfl true 11 12 (some (.inr (9, fs))) (.ref a) = some (.inr (9, fs.set 0 (.ref a))) := by
  unfold pfl
  dsimp only
  rw [fs_11_12_9]
  exact if_pos ⟨by omega, okv_r _ _, by first | exact Or.inl rfl | exact Or.inr ⟨rfl, by decide⟩⟩
theorem t84_12 {f : Hf} {d sz us x0 : Nat} {st : List Value} {a0 a1 : Option Value} {fs : List Value} {L : List PE} {a : Nat} (h : fs.length = 7) : Ev d 84 12 [a0, a1] (.ref a :: .ref x0 :: st) (sz, us, emB f x0 (.inr (9, fs) :: L)) = Ev d 84 15 [a0, a1] st (sz, us, emB f x0 (.inr (9, fs.set 0 (.ref a)) :: L)) := by
  rw [s84_12, emB_get0, pC_11_12 h, Option.bind_some, emB_set0]
theorem pC_11_18 {fs : List Value} {a : Nat} (h : fs.length = 7) : pfl true 11 18 (some (.inr (9, fs))) (.ref a) = some (.inr (9, fs.set 1 (.ref a))) := by
  unfold pfl
  dsimp only
  rw [fs_11_18_9]
  exact if_pos ⟨by omega, okv_ra _ _, by first | exact Or.inl rfl | exact Or.inr ⟨rfl, by decide⟩⟩
theorem t84_21 {f : Hf} {d sz us x0 : Nat} {st : List Value} {a0 a1 : Option Value} {fs : List Value} {L : List PE} {a : Nat} (h : fs.length = 7) : Ev d 84 21 [a0, a1] (.ref a :: .ref x0 :: st) (sz, us, emB f x0 (.inr (9, fs) :: L)) = Ev d 84 24 [a0, a1] st (sz, us, emB f x0 (.inr (9, fs.set 1 (.ref a)) :: L)) := by
  rw [s84_21, emB_get0, pC_11_18 h, Option.bind_some, emB_set0]
theorem pC_11_24 {fs : List Value} {a : Nat} (h : fs.length = 7) : pfl true 11 24 (some (.inr (9, fs))) (.ref a) = some (.inr (9, fs.set 3 (.ref a))) := by
  unfold pfl
  dsimp only
  rw [fs_11_24_9]
  exact if_pos ⟨by omega, okv_ra _ _, by first | exact Or.inl rfl | exact Or.inr ⟨rfl, by decide⟩⟩
theorem t84_30 {f : Hf} {d sz us x0 : Nat} {st : List Value} {a0 a1 : Option Value} {fs : List Value} {L : List PE} {a : Nat} (h : fs.length = 7) : Ev d 84 30 [a0, a1] (.ref a :: .ref x0 :: st) (sz, us, emB f x0 (.inr (9, fs) :: L)) = Ev d 84 33 [a0, a1] st (sz, us, emB f x0 (.inr (9, fs.set 3 (.ref a)) :: L)) := by
  rw [s84_30, emB_get0, pC_11_24 h, Option.bind_some, emB_set0]
theorem pC_11_31 {fs : List Value} {a : Nat} (h : fs.length = 7) : pfl true 11 31 (some (.inr (9, fs))) (.ref a) = some (.inr (9, fs.set 5 (.ref a))) := by
  unfold pfl
  dsimp only
  rw [fs_11_31_9]
  exact if_pos ⟨by omega, okv_ra _ _, by first | exact Or.inl rfl | exact Or.inr ⟨rfl, by decide⟩⟩
theorem t84_66 {f : Hf} {d sz us x0 : Nat} {st : List Value} {a0 a1 : Option Value} {fs : List Value} {L : List PE} {a : Nat} (h : fs.length = 7) : Ev d 84 66 [a0, a1] (.ref a :: .ref x0 :: st) (sz, us, emB f x0 (.inr (9, fs) :: L)) = Ev d 84 69 [a0, a1] st (sz, us, emB f x0 (.inr (9, fs.set 5 (.ref a)) :: L)) := by
  rw [s84_66, emB_get0, pC_11_31 h, Option.bind_some, emB_set0]
theorem pC_11_39 {fs : List Value} {a : Nat} (h : fs.length = 7) : pfl true 11 39 (some (.inr (9, fs))) (.ref a) = some (.inr (9, fs.set 6 (.ref a))) := by
  unfold pfl
  dsimp only
  rw [fs_11_39_9]
  exact if_pos ⟨by omega, okv_r _ _, by first | exact Or.inl rfl | exact Or.inr ⟨rfl, by decide⟩⟩
theorem t84_104 {f : Hf} {d sz us x0 : Nat} {st : List Value} {a0 a1 : Option Value} {fs : List Value} {L : List PE} {a : Nat} (h : fs.length = 7) : Ev d 84 104 [a0, a1] (.ref a :: .ref x0 :: st) (sz, us, emB f x0 (.inr (9, fs) :: L)) = Ev d 84 107 [a0, a1] st (sz, us, emB f x0 (.inr (9, fs.set 6 (.ref a)) :: L)) := by
  rw [s84_104, emB_get0, pC_11_39 h, Option.bind_some, emB_set0]
theorem t84_18 {f : Hf} {d us x0 : Nat} {st : List Value} {a0 a1 : Option Value} {n : Nat} {p : PE} {L : List PE} (hn : n ≤ 60000000) (h : L.length = 127) : Ev d 84 18 [a0, a1] (.int (nI n) :: st) (x0 + 128, us, emB f x0 (p :: L)) = Ev d 84 21 [a0, a1] (.ref (x0 + 128) :: st) (x0 + 129, us + n, emB f x0 (p :: (L ++ [zar 5 n]))) := by
  rw [s84_18 hn, emB_new (by rw [List.length_cons, h])]
  rfl
theorem t84_27 {f : Hf} {d us x0 : Nat} {st : List Value} {a0 a1 : Option Value} {n : Nat} {p : PE} {L : List PE} (hn : n ≤ 60000000) (h : L.length = 128) : Ev d 84 27 [a0, a1] (.int (nI n) :: st) (x0 + 129, us, emB f x0 (p :: L)) = Ev d 84 30 [a0, a1] (.ref (x0 + 129) :: st) (x0 + 130, us + n, emB f x0 (p :: (L ++ [zar 6 n]))) := by
  rw [s84_27 hn, emB_new (by rw [List.length_cons, h])]
  rfl
theorem t84_63 {f : Hf} {d us x0 : Nat} {st : List Value} {a0 a1 : Option Value} {n : Nat} {p : PE} {L : List PE} (hn : n ≤ 60000000) (h : L.length = 141) : Ev d 84 63 [a0, a1] (.int (nI n) :: st) (x0 + 142, us, emB f x0 (p :: L)) = Ev d 84 66 [a0, a1] (.ref (x0 + 142) :: st) (x0 + 143, us + n, emB f x0 (p :: (L ++ [zar 7 n]))) := by
  rw [s84_63 hn, emB_new (by rw [List.length_cons, h])]
  rfl
def pwO (a b c d e : Value) : PE := .inr (9, [a, b, .int 0, c, .int 0, d, e])
def LPa (m : Nat) : List PE := pHd (m + 1) 30 (bkL (gST' (m + 1)) 30)
theorem LPa_len (m : Nat) : (LPa m).length = 127 := pHd_len (bkL_len (g := gST' (m + 1)) (c := 4) (fun _ => rfl) 30)
def gKA (m : Nat) : Nat → Nat := fun i => m + (130 + 2 * i)
def gKc (m k : Nat) : List PE := [keO (m + (130 + 2 * k)), zar 0 256]
def gHA (m : Nat) : Nat → Nat := fun i => m + (143 + i)
def gHc (_k : Nat) : List PE := [shO]
section CI
variable {f : Hf} {m d us : Nat}
theorem K_init_1 : Ev (d + 4) 84 0 [some (.ref m), none] [] (m + 1, us, hup f m (.inr (9, cdf 9))) = Ev (d + 4) 84 12 [some (.ref m), none] [.ref (m + 1), .ref m] (m + 128, us + 4308, emB f m (pwO .null .null .null .null .null :: LPa m)) := by
  rw [emB_one, cdf_C9]
  have e6 : emB (emB f m [pwO .null .null .null .null .null]) (m + 1) (LPa m) = emB f m (pwO .null .null .null .null .null :: LPa m) := by
    rw [emB_emB (k := 1) rfl]
    rfl
  unfold LPa at e6 ⊢
  show Ev (d + 4) 84 0 [some (.ref m), none] [] (m + 1, us, emB f m [pwO .null .null .null .null .null]) = _
  generalize emB f m [pwO .null .null .null .null .null] = f1 at e6
  have h127 : m + 1 + 127 = m + 128 := by omega
  generalize m + 1 = q at e6 h127 ⊢
  have e2 : cob (hup f1 q (.inr (2, cdf 2)) q) = some 2 := by rw [hup_at]; rfl
  have eI := fun us => K_initP (f := f1) (m := q) (d := d + 1) (us := us)
  simp (maxSteps := 2000000) (disch := first | omega | with_reducible assumption | exact cobP | exact cobX | exact cobS (by omega) | exact cobK (by omega) | exact cobF (by omega) | exact cobW | exact isTC_T (by assumption) (by assumption) | exact cobN (by assumption) (by assumption) | exact bI_01 _ | exact Or.inl rfl | exact Or.inr rfl | (simp (decide := true) only [wid_0, wid_i, wid_l, wid_r, wid_n]; done) | decide | fail) only [s84_0, s84_1, s84_4, s84_5, s84_8, s84_9, Option.bind_some, Option.bind_none, Option.toList_some, Option.toList_none, List.cons_append, List.nil_append, clr_i, clr_r, clr_l, clr_n, nI_add, nsub, pk_mul, nle_F, nle_T, nlt_F, nlt_T, neq_F, nz_F, nz_T, nneg_F, npos_T, npos_lF, npos_lT, nle0_F, m1_neg, m1_pos, m1_z, neq_m1, m1_neq, ↓reduceIte, if_true, if_false, not_true_eq_false, not_false_eq_true, bI_eq0, Bool.true_eq_false, Bool.false_eq_true, true_and, and_true, false_and, and_false, true_or, or_true, false_or, or_false, decide_true, decide_false, Bool.and_self, Bool.true_and, Bool.and_true, Bool.false_and, Bool.and_false, Bool.true_or, Bool.or_true, Bool.false_or, Bool.or_false, Bool.not_true, Bool.not_false, e2, eI, e6, h127, Nat.add_assoc, Nat.reduceAdd]
theorem K_init_2 : Ev (d + 4) 84 12 [some (.ref m), none] [.ref (m + 1), .ref m] (m + 128, us, emB f m (pwO .null .null .null .null .null :: LPa m)) = Ev (d + 4) 84 35 [some (.ref m), some (.int (nI 0))] [] (m + 130, us + 66, emB f m (pwO (.ref (m + 1)) (.ref (m + 128)) (.ref (m + 129)) .null .null :: ((LPa m ++ [zar 5 60]) ++ [zar 6 6]))) := by
  have h1 := LPa_len m
  generalize LPa m = L at h1 ⊢
  have h2 : (L ++ [zar 5 60]).length = 128 := by rw [List.length_append, h1]; rfl
  unfold pwO
  rw [t84_12 rfl]
  simp (maxSteps := 2000000) (disch := first | omega | with_reducible assumption | exact cobP | exact cobX | exact cobS (by omega) | exact cobK (by omega) | exact cobF (by omega) | exact cobW | exact isTC_T (by assumption) (by assumption) | exact cobN (by assumption) (by assumption) | exact bI_01 _ | exact Or.inl rfl | exact Or.inr rfl | (simp (decide := true) only [wid_0, wid_i, wid_l, wid_r, wid_n]; done) | decide | fail) only [s84_15, s84_16, nI_add, nsub, pk_mul, nle_F, nle_T, nlt_F, nlt_T, neq_F, nz_F, nz_T, nneg_F, npos_T, npos_lF, npos_lT, nle0_F, m1_neg, m1_pos, m1_z, neq_m1, m1_neq, ↓reduceIte, if_true, if_false, not_true_eq_false, not_false_eq_true, bI_eq0, Bool.true_eq_false, Bool.false_eq_true, true_and, and_true, false_and, and_false, true_or, or_true, false_or, or_false, decide_true, decide_false, Bool.and_self, Bool.true_and, Bool.and_true, Bool.false_and, Bool.and_false, Bool.true_or, Bool.or_true, Bool.false_or, Bool.or_false, Bool.not_true, Bool.not_false]
  rw [t84_18 (by omega) h1, t84_21 rfl]
  simp (maxSteps := 2000000) (disch := first | omega | with_reducible assumption | exact cobP | exact cobX | exact cobS (by omega) | exact cobK (by omega) | exact cobF (by omega) | exact cobW | exact isTC_T (by assumption) (by assumption) | exact cobN (by assumption) (by assumption) | exact bI_01 _ | exact Or.inl rfl | exact Or.inr rfl | (simp (decide := true) only [wid_0, wid_i, wid_l, wid_r, wid_n]; done) | decide | fail) only [s84_24, s84_25, nI_add, nsub, pk_mul, nle_F, nle_T, nlt_F, nlt_T, neq_F, nz_F, nz_T, nneg_F, npos_T, npos_lF, npos_lT, nle0_F, m1_neg, m1_pos, m1_z, neq_m1, m1_neq, ↓reduceIte, if_true, if_false, not_true_eq_false, not_false_eq_true, bI_eq0, Bool.true_eq_false, Bool.false_eq_true, true_and, and_true, false_and, and_false, true_or, or_true, false_or, or_false, decide_true, decide_false, Bool.and_self, Bool.true_and, Bool.and_true, Bool.false_and, Bool.and_false, Bool.true_or, Bool.or_true, Bool.false_or, Bool.or_false, Bool.not_true, Bool.not_false]
  rw [t84_27 (by omega) h2, t84_30 rfl]
  simp (maxSteps := 2000000) (disch := first | omega | with_reducible assumption | exact cobP | exact cobX | exact cobS (by omega) | exact cobK (by omega) | exact cobF (by omega) | exact cobW | exact isTC_T (by assumption) (by assumption) | exact cobN (by assumption) (by assumption) | exact bI_01 _ | exact Or.inl rfl | exact Or.inr rfl | (simp (decide := true) only [wid_0, wid_i, wid_l, wid_r, wid_n]; done) | decide | fail) only [s84_33, s84_34, nI_add, nsub, pk_mul, nle_F, nle_T, nlt_F, nlt_T, neq_F, nz_F, nz_T, nneg_F, npos_T, npos_lF, npos_lT, nle0_F, m1_neg, m1_pos, m1_z, neq_m1, m1_neq, ↓reduceIte, if_true, if_false, not_true_eq_false, not_false_eq_true, bI_eq0, Bool.true_eq_false, Bool.false_eq_true, true_and, and_true, false_and, and_false, true_or, or_true, false_or, or_false, decide_true, decide_false, Bool.and_self, Bool.true_and, Bool.and_true, Bool.false_and, Bool.and_false, Bool.true_or, Bool.or_true, Bool.false_or, Bool.or_false, Bool.not_true, Bool.not_false, Option.bind_some, Option.bind_none, Option.toList_some, Option.toList_none, List.cons_append, List.nil_append, clr_i, clr_r, clr_l, clr_n, Nat.add_assoc, Nat.reduceAdd]
  rfl
theorem K_init_3s {p : PE} {L : List PE} {k : Nat} (hp : gfl 11 24 (some p) = some (.ref (m + 129))) (hL : L.length = 128) (hk : k < 6) : Ev (d + 4) 84 35 [some (.ref m), some (.int (nI k))] [] (m + (130 + 2 * k), us, emB f m (p :: (L ++ (arO 6 6 (gKA m) k :: bkL (gKc m) k)))) = Ev (d + 4) 84 35 [some (.ref m), some (.int (nI (k + 1)))] [] (m + (130 + 2 * (k + 1)), us + 258, emB f m (p :: (L ++ (arO 6 6 (gKA m) (k + 1) :: bkL (gKc m) (k + 1))))) := by
  have hT : (bkL (gKc m) k).length = 2 * k := bkL_len (g := gKc m) (c := 2) (fun _ => rfl) k
  have e6 : hup (emB (emB f m (p :: (L ++ (arO 6 6 (gKA m) k :: bkL (gKc m) k)))) (m + (130 + 2 * k)) [keO (m + (130 + 2 * k)), zar 0 256]) (m + 129) (arO 6 6 (gKA m) (k + 1)) = emB f m (p :: (L ++ (arO 6 6 (gKA m) (k + 1) :: bkL (gKc m) (k + 1)))) := mid_step hL hT (by omega)
  have e1 : gfl 11 24 (emB f m (p :: (L ++ (arO 6 6 (gKA m) k :: bkL (gKc m) k))) m) = some (.ref (m + 129)) := by rw [emB_get0]; exact hp
  have e3 : emB f m (p :: (L ++ (arO 6 6 (gKA m) k :: bkL (gKc m) k))) (m + 129) = some (arO 6 6 (gKA m) k) := mid_get (j := 128) hL
  generalize emB f m (p :: (L ++ (arO 6 6 (gKA m) k :: bkL (gKc m) k))) = f1 at e1 e3 e6
  have eq : gKA m k = m + (130 + 2 * k) := rfl
  generalize hq : m + (130 + 2 * k) = q at e6 eq
  have e2 : cob (hup f1 q (.inr (1, cdf 1)) q) = some 1 := by rw [hup_at]; rfl
  have e4 : cob (emB f1 q [keO q, zar 0 256] q) = some 1 := by rw [emB_get0]; rfl
  have e5 : wrl (emB f1 q [keO q, zar 0 256] (m + 129)) (nI k) q (emB f1 q [keO q, zar 0 256] q) = some (arO 6 6 (gKA m) (k + 1)) := by
    rw [emB_lo (by omega), e3]
    have := arO_w (g := gKA m) hk (by omega) e4 (show asg 6 1 = true by decide)
    rw [eq] at this
    exact this
  have eI := fun us => K_initK (f := f1) (m := q) (d := d + 2) (us := us)
  rw [s84_35]
  simp (maxSteps := 2000000) (disch := first | omega | with_reducible assumption | exact cobP | exact cobX | exact cobS (by omega) | exact cobK (by omega) | exact cobF (by omega) | exact cobW | exact isTC_T (by assumption) (by assumption) | exact cobN (by assumption) (by assumption) | exact bI_01 _ | exact Or.inl rfl | exact Or.inr rfl | (simp (decide := true) only [wid_0, wid_i, wid_l, wid_r, wid_n]; done) | decide | fail) only [s84_36, s84_38, s84_41, s84_42, s84_45, s84_46, s84_49, s84_50, s84_53, s84_54, s84_57, Option.bind_some, Option.bind_none, Option.toList_some, Option.toList_none, List.cons_append, List.nil_append, clr_i, clr_r, clr_l, clr_n, nI_add, nsub, pk_mul, nle_F, nle_T, nlt_F, nlt_T, neq_F, nz_F, nz_T, nneg_F, npos_T, npos_lF, npos_lT, nle0_F, m1_neg, m1_pos, m1_z, neq_m1, m1_neq, ↓reduceIte, if_true, if_false, not_true_eq_false, not_false_eq_true, bI_eq0, Bool.true_eq_false, Bool.false_eq_true, true_and, and_true, false_and, and_false, true_or, or_true, false_or, or_false, decide_true, decide_false, Bool.and_self, Bool.true_and, Bool.and_true, Bool.false_and, Bool.and_false, Bool.true_or, Bool.or_true, Bool.false_or, Bool.or_false, Bool.not_true, Bool.not_false, e1, e2, eI, e5, e6, Nat.add_assoc, Nat.reduceAdd]
  rw [show q + 2 = m + (130 + 2 * (k + 1)) by omega]
theorem K_init_3 {p : PE} {L : List PE} (hp : gfl 11 24 (some p) = some (.ref (m + 129))) (hL : L.length = 128) : Ev (d + 4) 84 35 [some (.ref m), some (.int (nI 0))] [] (m + 130, us, emB f m (p :: (L ++ [zar 6 6]))) = Ev (d + 4) 84 60 [some (.ref m), some (.int (nI 6))] [] (m + 142, us + 1548, emB f m (p :: (L ++ (arO 6 6 (gKA m) 6 :: bkL (gKc m) 6)))) := by
  have key := loopE (fun k => Ev (d + 4) 84 35 [some (.ref m), some (.int (nI k))] [] (m + (130 + 2 * k), us + 258 * k, emB f m (p :: (L ++ (arO 6 6 (gKA m) k :: bkL (gKc m) k))))) 6 (fun k hk => by
    show Ev _ _ _ _ _ _ = Ev _ _ _ _ _ _
    rw [K_init_3s hp hL hk, show us + 258 * k + 258 = us + 258 * (k + 1) by omega])
  have e0 : [zar 6 6] = arO 6 6 (gKA m) 0 :: bkL (gKc m) 0 := by
    rw [arO_0 (g := gKA m) (by omega)]
    rfl
  rw [e0]
  refine (show _ = _ from key).trans ?_
  show Ev _ _ _ _ _ _ = _
  rw [s84_35]
  simp (maxSteps := 2000000) (disch := first | omega | with_reducible assumption | exact cobP | exact cobX | exact cobS (by omega) | exact cobK (by omega) | exact cobF (by omega) | exact cobW | exact isTC_T (by assumption) (by assumption) | exact cobN (by assumption) (by assumption) | exact bI_01 _ | exact Or.inl rfl | exact Or.inr rfl | (simp (decide := true) only [wid_0, wid_i, wid_l, wid_r, wid_n]; done) | decide | fail) only [s84_36, s84_38, Option.bind_some, Option.bind_none, Option.toList_some, Option.toList_none, List.cons_append, List.nil_append, clr_i, clr_r, clr_l, clr_n, nI_add, nsub, pk_mul, nle_F, nle_T, nlt_F, nlt_T, neq_F, nz_F, nz_T, nneg_F, npos_T, npos_lF, npos_lT, nle0_F, m1_neg, m1_pos, m1_z, neq_m1, m1_neq, ↓reduceIte, if_true, if_false, not_true_eq_false, not_false_eq_true, bI_eq0, Bool.true_eq_false, Bool.false_eq_true, true_and, and_true, false_and, and_false, true_or, or_true, false_or, or_false, decide_true, decide_false, Bool.and_self, Bool.true_and, Bool.and_true, Bool.false_and, Bool.and_false, Bool.true_or, Bool.or_true, Bool.false_or, Bool.or_false, Bool.not_true, Bool.not_false, Nat.reduceMul, Nat.reduceAdd]
theorem K_init_4 {L : List PE} {a b c : Value} (hL : L.length = 141) : Ev (d + 4) 84 60 [some (.ref m), some (.int (nI 6))] [] (m + 142, us, emB f m (pwO a b c .null .null :: L)) = Ev (d + 4) 84 71 [some (.ref m), some (.int (nI 0))] [] (m + 143, us + 8, emB f m (pwO a b c (.ref (m + 142)) .null :: (L ++ [zar 7 8]))) := by
  unfold pwO
  simp (maxSteps := 2000000) (disch := first | omega | with_reducible assumption | exact cobP | exact cobX | exact cobS (by omega) | exact cobK (by omega) | exact cobF (by omega) | exact cobW | exact isTC_T (by assumption) (by assumption) | exact cobN (by assumption) (by assumption) | exact bI_01 _ | exact Or.inl rfl | exact Or.inr rfl | (simp (decide := true) only [wid_0, wid_i, wid_l, wid_r, wid_n]; done) | decide | fail) only [s84_60, s84_61, nI_add, nsub, pk_mul, nle_F, nle_T, nlt_F, nlt_T, neq_F, nz_F, nz_T, nneg_F, npos_T, npos_lF, npos_lT, nle0_F, m1_neg, m1_pos, m1_z, neq_m1, m1_neq, ↓reduceIte, if_true, if_false, not_true_eq_false, not_false_eq_true, bI_eq0, Bool.true_eq_false, Bool.false_eq_true, true_and, and_true, false_and, and_false, true_or, or_true, false_or, or_false, decide_true, decide_false, Bool.and_self, Bool.true_and, Bool.and_true, Bool.false_and, Bool.and_false, Bool.true_or, Bool.or_true, Bool.false_or, Bool.or_false, Bool.not_true, Bool.not_false]
  rw [t84_63 (by omega) hL, t84_66 rfl]
  simp (maxSteps := 2000000) (disch := first | omega | with_reducible assumption | exact cobP | exact cobX | exact cobS (by omega) | exact cobK (by omega) | exact cobF (by omega) | exact cobW | exact isTC_T (by assumption) (by assumption) | exact cobN (by assumption) (by assumption) | exact bI_01 _ | exact Or.inl rfl | exact Or.inr rfl | (simp (decide := true) only [wid_0, wid_i, wid_l, wid_r, wid_n]; done) | decide | fail) only [s84_69, s84_70, nI_add, nsub, pk_mul, nle_F, nle_T, nlt_F, nlt_T, neq_F, nz_F, nz_T, nneg_F, npos_T, npos_lF, npos_lT, nle0_F, m1_neg, m1_pos, m1_z, neq_m1, m1_neq, ↓reduceIte, if_true, if_false, not_true_eq_false, not_false_eq_true, bI_eq0, Bool.true_eq_false, Bool.false_eq_true, true_and, and_true, false_and, and_false, true_or, or_true, false_or, or_false, decide_true, decide_false, Bool.and_self, Bool.true_and, Bool.and_true, Bool.false_and, Bool.and_false, Bool.true_or, Bool.or_true, Bool.false_or, Bool.or_false, Bool.not_true, Bool.not_false, Option.bind_some, Option.bind_none, Option.toList_some, Option.toList_none, List.cons_append, List.nil_append, clr_i, clr_r, clr_l, clr_n]
  rfl
theorem K_init_5s {p : PE} {L : List PE} {k : Nat} (hp : gfl 11 31 (some p) = some (.ref (m + 142))) (hL : L.length = 141) (hk : k < 8) : Ev (d + 4) 84 71 [some (.ref m), some (.int (nI k))] [] (m + (143 + k), us, emB f m (p :: (L ++ (arO 7 8 (gHA m) k :: bkL gHc k)))) = Ev (d + 4) 84 71 [some (.ref m), some (.int (nI (k + 1)))] [] (m + (143 + (k + 1)), us + 3, emB f m (p :: (L ++ (arO 7 8 (gHA m) (k + 1) :: bkL gHc (k + 1))))) := by
  have hT : (bkL gHc k).length = 1 * k := bkL_len (g := gHc) (c := 1) (fun _ => rfl) k
  have e6 : hup (emB (emB f m (p :: (L ++ (arO 7 8 (gHA m) k :: bkL gHc k)))) (m + (143 + k)) [shO]) (m + 142) (arO 7 8 (gHA m) (k + 1)) = emB f m (p :: (L ++ (arO 7 8 (gHA m) (k + 1) :: bkL gHc (k + 1)))) := mid_step hL hT (by omega)
  have e1 : gfl 11 31 (emB f m (p :: (L ++ (arO 7 8 (gHA m) k :: bkL gHc k))) m) = some (.ref (m + 142)) := by rw [emB_get0]; exact hp
  have e3 : emB f m (p :: (L ++ (arO 7 8 (gHA m) k :: bkL gHc k))) (m + 142) = some (arO 7 8 (gHA m) k) := mid_get (j := 141) hL
  generalize emB f m (p :: (L ++ (arO 7 8 (gHA m) k :: bkL gHc k))) = f1 at e1 e3 e6
  have eq : gHA m k = m + (143 + k) := rfl
  generalize hq : m + (143 + k) = q at e6 eq
  have e2 : cob (hup f1 q (.inr (5, cdf 5)) q) = some 5 := by rw [hup_at]; rfl
  have e4 : cob (emB f1 q [shO] q) = some 5 := by rw [emB_get0]; rfl
  have e5 : wrl (emB f1 q [shO] (m + 142)) (nI k) q (emB f1 q [shO] q) = some (arO 7 8 (gHA m) (k + 1)) := by
    rw [emB_lo (by omega), e3]
    have := arO_w (g := gHA m) hk (by omega) e4 (show asg 7 5 = true by decide)
    rw [eq] at this
    exact this
  have eI := fun us => K_initH (f := f1) (m := q) (d := d + 2) (us := us)
  rw [s84_71]
  simp (maxSteps := 2000000) (disch := first | omega | with_reducible assumption | exact cobP | exact cobX | exact cobS (by omega) | exact cobK (by omega) | exact cobF (by omega) | exact cobW | exact isTC_T (by assumption) (by assumption) | exact cobN (by assumption) (by assumption) | exact bI_01 _ | exact Or.inl rfl | exact Or.inr rfl | (simp (decide := true) only [wid_0, wid_i, wid_l, wid_r, wid_n]; done) | decide | fail) only [s84_72, s84_74, s84_77, s84_78, s84_81, s84_82, s84_85, s84_86, s84_89, s84_90, s84_93, Option.bind_some, Option.bind_none, Option.toList_some, Option.toList_none, List.cons_append, List.nil_append, clr_i, clr_r, clr_l, clr_n, nI_add, nsub, pk_mul, nle_F, nle_T, nlt_F, nlt_T, neq_F, nz_F, nz_T, nneg_F, npos_T, npos_lF, npos_lT, nle0_F, m1_neg, m1_pos, m1_z, neq_m1, m1_neq, ↓reduceIte, if_true, if_false, not_true_eq_false, not_false_eq_true, bI_eq0, Bool.true_eq_false, Bool.false_eq_true, true_and, and_true, false_and, and_false, true_or, or_true, false_or, or_false, decide_true, decide_false, Bool.and_self, Bool.true_and, Bool.and_true, Bool.false_and, Bool.and_false, Bool.true_or, Bool.or_true, Bool.false_or, Bool.or_false, Bool.not_true, Bool.not_false, e1, e2, eI, e5, e6]
  rw [show q + 1 = m + (143 + (k + 1)) by omega]
theorem K_init_5 {p : PE} {L : List PE} (hp : gfl 11 31 (some p) = some (.ref (m + 142))) (hL : L.length = 141) : Ev (d + 4) 84 71 [some (.ref m), some (.int (nI 0))] [] (m + 143, us, emB f m (p :: (L ++ [zar 7 8]))) = Ev (d + 4) 84 96 [some (.ref m), some (.int (nI 8))] [] (m + 151, us + 24, emB f m (p :: (L ++ (arO 7 8 (gHA m) 8 :: bkL gHc 8)))) := by
  have key := loopE (fun k => Ev (d + 4) 84 71 [some (.ref m), some (.int (nI k))] [] (m + (143 + k), us + 3 * k, emB f m (p :: (L ++ (arO 7 8 (gHA m) k :: bkL gHc k))))) 8 (fun k hk => by
    show Ev _ _ _ _ _ _ = Ev _ _ _ _ _ _
    rw [K_init_5s hp hL hk, show us + 3 * k + 3 = us + 3 * (k + 1) by omega])
  have e0 : [zar 7 8] = arO 7 8 (gHA m) 0 :: bkL gHc 0 := by
    rw [arO_0 (g := gHA m) (by omega)]
    rfl
  rw [e0]
  refine (show _ = _ from key).trans ?_
  show Ev _ _ _ _ _ _ = _
  rw [s84_71]
  simp (maxSteps := 2000000) (disch := first | omega | with_reducible assumption | exact cobP | exact cobX | exact cobS (by omega) | exact cobK (by omega) | exact cobF (by omega) | exact cobW | exact isTC_T (by assumption) (by assumption) | exact cobN (by assumption) (by assumption) | exact bI_01 _ | exact Or.inl rfl | exact Or.inr rfl | (simp (decide := true) only [wid_0, wid_i, wid_l, wid_r, wid_n]; done) | decide | fail) only [s84_72, s84_74, Option.bind_some, Option.bind_none, Option.toList_some, Option.toList_none, List.cons_append, List.nil_append, clr_i, clr_r, clr_l, clr_n, nI_add, nsub, pk_mul, nle_F, nle_T, nlt_F, nlt_T, neq_F, nz_F, nz_T, nneg_F, npos_T, npos_lF, npos_lT, nle0_F, m1_neg, m1_pos, m1_z, neq_m1, m1_neq, ↓reduceIte, if_true, if_false, not_true_eq_false, not_false_eq_true, bI_eq0, Bool.true_eq_false, Bool.false_eq_true, true_and, and_true, false_and, and_false, true_or, or_true, false_or, or_false, decide_true, decide_false, Bool.and_self, Bool.true_and, Bool.and_true, Bool.false_and, Bool.and_false, Bool.true_or, Bool.or_true, Bool.false_or, Bool.or_false, Bool.not_true, Bool.not_false, Nat.reduceMul, Nat.reduceAdd]
theorem K_init_6 {L : List PE} {a b c e : Value} {z : Option Value} (hL : L.length = 150) : Ev (d + 4) 84 96 [some (.ref m), z] [] (m + 151, us, emB f m (pwO a b c e .null :: L)) = some (none, (m + 154, us + 516, emB f m (pwO a b c e (.ref (m + 151)) :: (L ++ [roO (m + 151), zar 0 256, zar 0 256])))) := by
  have e6 : emB (emB f m (pwO a b c e .null :: L)) (m + 151) [roO (m + 151), zar 0 256, zar 0 256] = emB f m (pwO a b c e .null :: (L ++ [roO (m + 151), zar 0 256, zar 0 256])) := by
    rw [emB_emB (by rw [List.length_cons, hL])]
    rfl
  have e7 : Ev (d + 4) 84 104 [some (.ref m), z] [.ref (m + 151), .ref m] (m + 154, us + 516, emB f m (pwO a b c e .null :: (L ++ [roO (m + 151), zar 0 256, zar 0 256]))) = some (none, (m + 154, us + 516, emB f m (pwO a b c e (.ref (m + 151)) :: (L ++ [roO (m + 151), zar 0 256, zar 0 256])))) := by
    unfold pwO
    rw [t84_104 (fs := [a, b, .int 0, c, .int 0, e, .null]) rfl, s84_107 (st := [])]
    rfl
  generalize emB f m (pwO a b c e .null :: L) = f1 at e6 ⊢
  have h154 : m + 151 + 3 = m + 154 := by omega
  generalize hq : m + 151 = q at *
  have e2 : cob (hup f1 q (.inr (4, cdf 4)) q) = some 4 := by rw [hup_at]; rfl
  have eI := fun us => K_initR (f := f1) (m := q) (d := d + 2) (us := us)
  rw [← e7]
  simp (maxSteps := 2000000) (disch := first | omega | with_reducible assumption | exact cobP | exact cobX | exact cobS (by omega) | exact cobK (by omega) | exact cobF (by omega) | exact cobW | exact isTC_T (by assumption) (by assumption) | exact cobN (by assumption) (by assumption) | exact bI_01 _ | exact Or.inl rfl | exact Or.inr rfl | (simp (decide := true) only [wid_0, wid_i, wid_l, wid_r, wid_n]; done) | decide | fail) only [s84_96, s84_97, s84_100, s84_101, Option.bind_some, Option.bind_none, Option.toList_some, Option.toList_none, List.cons_append, List.nil_append, clr_i, clr_r, clr_l, clr_n, nI_add, nsub, pk_mul, nle_F, nle_T, nlt_F, nlt_T, neq_F, nz_F, nz_T, nneg_F, npos_T, npos_lF, npos_lT, nle0_F, m1_neg, m1_pos, m1_z, neq_m1, m1_neq, ↓reduceIte, if_true, if_false, not_true_eq_false, not_false_eq_true, bI_eq0, Bool.true_eq_false, Bool.false_eq_true, true_and, and_true, false_and, and_false, true_or, or_true, false_or, or_false, decide_true, decide_false, Bool.and_self, Bool.true_and, Bool.and_true, Bool.false_and, Bool.and_false, Bool.true_or, Bool.or_true, Bool.false_or, Bool.or_false, Bool.not_true, Bool.not_false, e2, eI, e6, h154, Nat.add_assoc, Nat.reduceAdd]
end CI
