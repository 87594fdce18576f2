/-! the class: terms apart; terms kept -/
def frR (a b : Int32) : Int32 := if a = 0 ∨ b = 0 then (if b < a then b else a) else (if a < b then b else a)
/-- the bits of the rows taken together -/
theorem orX_ex {X : Nat → Int32} {P : Nat → Bool} {k : Nat} : ∀ n, (tb (itr (fun r a => a ||| (if P r = true then X r else nI 0)) (nI 0) n) k = true ↔ ∃ r, r < n ∧ P r = true ∧ tb (X r) k = true) := by
  intro n
  induction n with
  | zero => simp [itr, tb_0]
  | succ n ih =>
    rw [itr_s, tb_or, Bool.or_eq_true, ih]
    constructor
    · intro h
      rcases h with ⟨r, h1, h2, h3⟩ | h
      · exact ⟨r, by omega, h2, h3⟩
      · by_cases q : P n = true
        · rw [if_pos q] at h; exact ⟨n, by omega, q, h⟩
        · rw [if_neg q, tb_0] at h; cases h
    · intro h
      obtain ⟨r, h1, h2, h3⟩ := h
      by_cases q : r = n
      · subst q; right; rw [if_pos h2]; exact h3
      · left; exact ⟨r, by omega, h2, h3⟩
theorem xorR_ex {u v : Nat → Int32} {k : Nat} : ∀ n, (tb (xorR u v n) k = true ↔ ∃ r, r < n ∧ tb (u r ^^^ v r) k = true) := by
  intro n
  have h := orX_ex (X := fun r => u r ^^^ v r) (P := fun _ => true) (k := k) n
  have e : itr (fun r a => a ||| (if true = true then (u r ^^^ v r) else nI 0)) (nI 0) n = xorR u v n := itr_cg (fun r _ b => by rw [if_pos rfl])
  rw [e] at h
  rw [h]
  constructor
  · intro ⟨r, a, _, b⟩; exact ⟨r, a, b⟩
  · intro ⟨r, a, b⟩; exact ⟨r, a, rfl, b⟩
section KX
variable {F : Hf} {x d sz us n nt tn t o ch : Nat} {c w : WD} {y : Nat → Int64} {v : VD} {tA : Nat → Option Nat} {fs sn : Nat → Option Nat} {B : Nat → Option Nat} {A : Nat → Nat} {tm : Nat → Nat → Nat} {td : Nat → Nat → Int32} {K : KT}
theorem K_firstRefusal {hf : Hf} (a b : Int32) : Ev (d + 1) 116 0 [some (.int a), some (.int b)] [] (sz, us, hf) = some (some (.int (frR a b)), (sz, us, hf)) := by
  unfold frR
  by_cases h1 : a = 0
  · by_cases h3 : b < 0 <;> simp (maxSteps := 2000000) (disch := first | omega | with_reducible assumption | exact cobP | exact cobX | exact cobS (by omega) | exact cobK (by omega) | exact cobF (by omega) | exact cobW | exact isTC_T (by assumption) (by assumption) | exact bI_01 _ | exact Or.inl rfl | exact Or.inr rfl | (simp (decide := true) only [wid_0, wid_i, wid_l, wid_r, wid_n]; done) | decide | fail) only [s116_0, s116_1, s116_4, s116_5, s116_8, s116_9, s116_10, s116_13, s116_16, s116_17, s116_18, s116_21 (st := []), Option.bind_some, Option.bind_none, Option.toList_some, Option.toList_none, List.cons_append, List.nil_append, clr_i, clr_r, clr_l, clr_n, nI_add, nsub, pk_mul, nle_F, nle_T, nlt_F, nlt_T, neq_F, nz_F, nz_T, nneg_F, npos_T, npos_lF, npos_lT, nle0_F, m1_neg, m1_pos, m1_z, neq_m1, m1_neq, ↓reduceIte, if_true, if_false, not_true_eq_false, not_false_eq_true, bI_eq0, Bool.true_eq_false, Bool.false_eq_true, true_and, and_true, false_and, and_false, true_or, or_true, false_or, or_false, decide_true, decide_false, Bool.and_self, Bool.true_and, Bool.and_true, Bool.false_and, Bool.and_false, Bool.true_or, Bool.or_true, Bool.false_or, Bool.or_false, Bool.not_true, Bool.not_false, h1, h3]
  · by_cases h2 : b = 0
    · by_cases h3 : 0 < a <;> simp (maxSteps := 2000000) (disch := first | omega | with_reducible assumption | exact cobP | exact cobX | exact cobS (by omega) | exact cobK (by omega) | exact cobF (by omega) | exact cobW | exact isTC_T (by assumption) (by assumption) | exact bI_01 _ | exact Or.inl rfl | exact Or.inr rfl | (simp (decide := true) only [wid_0, wid_i, wid_l, wid_r, wid_n]; done) | decide | fail) only [s116_0, s116_1, s116_4, s116_5, s116_8, s116_9, s116_10, s116_13, s116_16, s116_17, s116_18, s116_21 (st := []), Option.bind_some, Option.bind_none, Option.toList_some, Option.toList_none, List.cons_append, List.nil_append, clr_i, clr_r, clr_l, clr_n, nI_add, nsub, pk_mul, nle_F, nle_T, nlt_F, nlt_T, neq_F, nz_F, nz_T, nneg_F, npos_T, npos_lF, npos_lT, nle0_F, m1_neg, m1_pos, m1_z, neq_m1, m1_neq, ↓reduceIte, if_true, if_false, not_true_eq_false, not_false_eq_true, bI_eq0, Bool.true_eq_false, Bool.false_eq_true, true_and, and_true, false_and, and_false, true_or, or_true, false_or, or_false, decide_true, decide_false, Bool.and_self, Bool.true_and, Bool.and_true, Bool.false_and, Bool.and_false, Bool.true_or, Bool.or_true, Bool.false_or, Bool.or_false, Bool.not_true, Bool.not_false, h1, h2, h3]
    · by_cases h3 : a < b <;> simp (maxSteps := 2000000) (disch := first | omega | with_reducible assumption | exact cobP | exact cobX | exact cobS (by omega) | exact cobK (by omega) | exact cobF (by omega) | exact cobW | exact isTC_T (by assumption) (by assumption) | exact bI_01 _ | exact Or.inl rfl | exact Or.inr rfl | (simp (decide := true) only [wid_0, wid_i, wid_l, wid_r, wid_n]; done) | decide | fail) only [s116_0, s116_1, s116_4, s116_5, s116_8, s116_9, s116_10, s116_13, s116_16, s116_17, s116_18, s116_21 (st := []), Option.bind_some, Option.bind_none, Option.toList_some, Option.toList_none, List.cons_append, List.nil_append, clr_i, clr_r, clr_l, clr_n, nI_add, nsub, pk_mul, nle_F, nle_T, nlt_F, nlt_T, neq_F, nz_F, nz_T, nneg_F, npos_T, npos_lF, npos_lT, nle0_F, m1_neg, m1_pos, m1_z, neq_m1, m1_neq, ↓reduceIte, if_true, if_false, not_true_eq_false, not_false_eq_true, bI_eq0, Bool.true_eq_false, Bool.false_eq_true, true_and, and_true, false_and, and_false, true_or, or_true, false_or, or_false, decide_true, decide_false, Bool.and_self, Bool.true_and, Bool.and_true, Bool.false_and, Bool.and_false, Bool.true_or, Bool.or_true, Bool.false_or, Bool.or_false, Bool.not_true, Bool.not_false, h1, h2, h3]
/-- the states in which one of two terms is alone, for a row -/
def aX (w : WD) (fs sn : Nat → Option Nat) (n : Nat) (tm : Nat → Nat → Nat) (t o : Nat) (r : Nat) : Int32 := (g2 w fs sn n tm t (r / 16) (r % 16)).1 ^^^ (g2 w fs sn n tm o (r / 16) (r % 16)).1
theorem sfG_S {fr : Nat → Int32} (hT : ∀ i, i < tn → TMt w tm i) (hF : ∀ i, i < tn → FRt fr tm i) (ht : t < tn) (r : Nat) : sfG (fr t) (g2 w fs sn n tm t) r = (g2 w fs sn n tm t (r / 16) (r % 16)).1 := by
  unfold sfG g2
  rw [sem_fr (w := rW w n) (fs := fs) (sn := sn) (n := n) hT hF t ht (if tb (fr t) 0 = true then r / 16 else 0) (if tb (fr t) 1 = true then r % 16 else 0) 0 (r / 16) (r % 16) 0 ⟨fun h => by rw [if_pos h], fun h => by rw [if_pos h], fun _ => rfl⟩]
theorem aX_bits {fr : Nat → Int32} (hT : ∀ i, i < tn → TMt w tm i) (hF : ∀ i, i < tn → FRt fr tm i) (ht : t < tn) (ho : o < tn) : itr (fun r a => a ||| (if oneB (fr t ||| fr o) r = true then aX w fs sn n tm t o r else nI 0)) (nI 0) 256 = xorR (sfG (fr t) (g2 w fs sn n tm t)) (sfG (fr o) (g2 w fs sn n tm o)) 256 := by
  apply i32_ext
  intro k hk
  have h1 := orX_ex (X := aX w fs sn n tm t o) (P := oneB (fr t ||| fr o)) (k := k) 256
  have h2 := xorR_ex (u := sfG (fr t) (g2 w fs sn n tm t)) (v := sfG (fr o) (g2 w fs sn n tm o)) (k := k) 256
  have h3 : (tb (itr (fun r a => a ||| (if oneB (fr t ||| fr o) r = true then aX w fs sn n tm t o r else nI 0)) (nI 0) 256) k = true) = (tb (xorR (sfG (fr t) (g2 w fs sn n tm t)) (sfG (fr o) (g2 w fs sn n tm o)) 256) k = true) := by
    apply propext
    rw [h1, h2]
    constructor
    · intro ⟨r, a, _, b⟩
      refine ⟨r, a, ?_⟩
      rw [sfG_S hT hF ht, sfG_S hT hF ho]
      exact b
    · intro ⟨r, a, b⟩
      rw [sfG_S hT hF ht, sfG_S hT hF ho] at b
      let x1 := mk (tb (fr t ||| fr o) 0) (r / 16)
      let y1 := mk (tb (fr t ||| fr o) 1) (r % 16)
      have hx1 : x1 < 16 := mk_lt (by omega)
      have hy1 : y1 < 16 := mk_lt (by omega)
      refine ⟨16 * x1 + y1, by omega, ?_, ?_⟩
      · unfold oneB
        rw [show (16 * x1 + y1) / 16 = x1 by omega, show (16 * x1 + y1) % 16 = y1 by omega]
        have a1 : (tb (fr t ||| fr o) 0 || decide (x1 = 0)) = true := by
          cases e : tb (fr t ||| fr o) 0
          · have : x1 = 0 := by show mk (tb (fr t ||| fr o) 0) (r / 16) = 0; rw [e]; rfl
            simp [this]
          · rfl
        have a2 : (tb (fr t ||| fr o) 1 || decide (y1 = 0)) = true := by
          cases e : tb (fr t ||| fr o) 1
          · have : y1 = 0 := by show mk (tb (fr t ||| fr o) 1) (r % 16) = 0; rw [e]; rfl
            simp [this]
          · rfl
        rw [a1, a2]; rfl
      · unfold aX g2
        rw [show (16 * x1 + y1) / 16 = x1 by omega, show (16 * x1 + y1) % 16 = y1 by omega]
        have m0 : tb (fr t ||| fr o) 0 = true → x1 = r / 16 := fun e => by show mk (tb (fr t ||| fr o) 0) (r / 16) = _; rw [e]; rfl
        have m1 : tb (fr t ||| fr o) 1 = true → y1 = r % 16 := fun e => by show mk (tb (fr t ||| fr o) 1) (r % 16) = _; rw [e]; rfl
        rw [sem_fr (w := rW w n) (fs := fs) (sn := sn) (n := n) hT hF t ht x1 y1 0 (r / 16) (r % 16) 0 ⟨fun e => m0 (by rw [tb_or, e]; rfl), fun e => m1 (by rw [tb_or, e]; rfl), fun _ => rfl⟩]
        rw [sem_fr (w := rW w n) (fs := fs) (sn := sn) (n := n) hT hF o ho x1 y1 0 (r / 16) (r % 16) 0 ⟨fun e => m0 (by rw [tb_or, e, Bool.or_true]), fun e => m1 (by rw [tb_or, e, Bool.or_true]), fun _ => rfl⟩]
        exact b
  cases e1 : tb (itr (fun r a => a ||| (if oneB (fr t ||| fr o) r = true then aX w fs sn n tm t o r else nI 0)) (nI 0) 256) k <;> cases e2 : tb (xorR (sfG (fr t) (g2 w fs sn n tm t)) (sfG (fr o) (g2 w fs sn n tm o)) 256) k <;> first | rfl | (rw [e1, e2] at h3; simp at h3)
/-- the answer of apart, of the states in which one is alone -/
def apZ (z : Int32) : Int32 := if z = 0 then -2 else ntF ((z ^^^ (-1)) &&& (z - nI 1))
theorem apZ_fst {z : Int32} (hn : n ≤ 30) (h : hi0 n z) : apZ z = fstB z n 0 := by
  unfold apZ
  by_cases q : z = 0
  · rw [if_pos q, q, fstB_0]
  · rw [if_neg q]
    obtain ⟨t, ht, hl⟩ := lowB_ex q
    have htn : t < n := by
      refine Classical.byContradiction fun e => ?_
      have := h t ht (by omega)
      rw [hl.1] at this; cases this
    rw [lowB_pred ht hl, ntF_ok t (by omega), fstB_low hl n 0 (by omega) (by omega)]
theorem hi0_xor {n : Nat} {a b : Int32} (h : hi0 n a) (h' : hi0 n b) : hi0 n (a ^^^ b) := fun k hk hn => by rw [tb_xor, h k hk hn, h' k hk hn]; rfl
def apO (w : WD) (fs sn : Nat → Option Nat) (n : Nat) (tm : Nat → Nat → Nat) (fr : Int32) (t o : Nat) : Nat → Int32 := itr (fun r a => a ||| (if oneB fr r = true then aX w fs sn n tm t o r else nI 0)) (nI 0)
theorem K_firstApart (Q : ASP c w fs sn n nt tn tm td A B x ch) (hK : KO (sem (rW w n) fs sn n tm) tn ch K) (ht : t < tn) (ho : o < tn) : ∃ c' K', Kn c c' ∧ ASP c' w fs sn n n tn tm td A B x ch ∧ KO (sem (rW w n) fs sn n tm) tn ch K' ∧ ∀ d, Ev (d + 130) 118 0 [some (.ref x), some (.ref (A t)), some (.ref (A o)), none, none, none, none] [] (sz, us, emC (emT F B tm td A K) x c y v tA) = some (some (.int (fstB (xorR (sfG (w 14 t) (g2 w fs sn n tm t)) (sfG (w 14 o) (g2 w fs sn n tm o)) 256) n 0)), (sz, us, emC (emT F B tm td A K') x c' y v tA)) := by
  have Q0 := Q
  obtain ⟨C, hr, hnt, hntn, hN, hT, hTB, hD, hch, hch2, ht60⟩ := Q0
  have hn30 := C.2.1
  obtain ⟨hB, hx⟩ := hTB.1 t ht
  obtain ⟨hB2, hx2⟩ := hTB.1 o ho
  obtain ⟨c1, kn1, hnt1, hN1, e1⟩ := K_note (f := emT F B tm td A K) (x := x) (d := 0) (sz := sz) (us := us) (c := c) (y := y) (v := v) (tm := tA) C.1 C.2.1 hnt hntn hr hN
  have e1 : ∀ d, Ev (d + 4) 34 0 [some (.ref (x + 1)), none] [] (sz, us, emC (emT F B tm td A K) x c y v tA) = some (none, (sz, us, emC (emT F B tm td A K) x c1 y v tA)) := fun d => Ev_mono (by omega) e1
  have Q1 := Q.note kn1.f hN1
  have hsp := K_spans (F := F) (sz := sz) (us := us) (y := y) (v := v) (tA := tA) Q1
  have hhi := hi0_sem (w := rW w n) (fs := fs) (sn := sn) C.2.1 hT
  have f1 := (hD t ht).1
  have f2 := (hD o ho).1
  have hF : ∀ i, i < tn → FRt (w 14) tm i := fun i hi => (hD i hi).2.2.2.2.2
  rw [← aX_bits hT hF ht ho]
  have hX : ∀ r, hi0 n (aX w fs sn n tm t o r) := fun r => hi0_xor (hhi t ht _ _ _).1 (hhi o ho _ _ _).1
  have hO : ∀ m, hi0 n (apO w fs sn n tm (w 14 t ||| w 14 o) t o m) := by
    intro m
    induction m with
    | zero => exact hi0_0 n
    | succ m ih =>
      refine hi0_or ih ?_
      split
      · exact hX m
      · exact hi0_0 n
  have key : ∀ m, m ≤ 256 → ∃ K' j6, KO (sem (rW w n) fs sn n tm) tn ch K' ∧ ∀ d, Ev (d + 130) 118 23 [some (.ref x), some (.ref (A t)), some (.ref (A o)), some (.int (w 14 t ||| w 14 o)), some (.int (nI 0)), some (.int (nI 0)), none] [] (sz, us, emC (emT F B tm td A K) x c1 y v tA) = Ev (d + 130) 118 23 [some (.ref x), some (.ref (A t)), some (.ref (A o)), some (.int (w 14 t ||| w 14 o)), some (.int (apO w fs sn n tm (w 14 t ||| w 14 o) t o m)), some (.int (nI m)), j6] [] (sz, us, emC (emT F B tm td A K') x c1 y v tA) := by
    intro m
    induction m with
    | zero => intro _; exact ⟨K, none, hK, fun d => rfl⟩
    | succ m ih =>
      intro hm
      obtain ⟨K1, j6, ok1, e2⟩ := ih (by omega)
      have hm' : m < 256 := by omega
      obtain ⟨K2, ok2, e3⟩ := hsp t ht K1 ok1 (m / 16) (m % 16) 0 (by omega) (by omega) (by omega)
      obtain ⟨K3, ok3, e4⟩ := hsp o ho K2 ok2 (m / 16) (m % 16) 0 (by omega) (by omega) (by omega)
      have es : apO w fs sn n tm (w 14 t ||| w 14 o) t o (m + 1) = apO w fs sn n tm (w 14 t ||| w 14 o) t o m ||| (if oneB (w 14 t ||| w 14 o) m = true then aX w fs sn n tm t o m else nI 0) := rfl
      rw [es]
      generalize apO w fs sn n tm (w 14 t ||| w 14 o) t o m = z at *
      cases hone : oneB (w 14 t ||| w 14 o) m
      · refine ⟨K1, j6, ok1, fun d => (e2 d).trans ?_⟩
        rw [if_neg (by simp), or_0, s118_23]
        simp (maxSteps := 2000000) (disch := first | omega | with_reducible assumption | exact cobP | exact cobX | exact cobS (by omega) | exact cobK (by omega) | exact cobF (by omega) | exact cobW | exact isTC_T (by assumption) (by assumption) | exact bI_01 _ | exact Or.inl rfl | exact Or.inr rfl | (simp (decide := true) only [wid_0, wid_i, wid_l, wid_r, wid_n]; done) | decide | fail) only [s118_25, s118_28, s118_31, s118_33, s118_34, s118_37, s118_40, s118_42, s118_45, s118_47, s118_49, s118_50, s118_51, s118_54, s118_56c0, s118_56c3, s118_56c6, s118_56c8, s118_59, s118_60, s118_61, s118_64, s118_66c0, s118_66c3, s118_66c6, s118_66c8, s118_69, s118_70, s118_71, s118_74, s118_75, s118_77, s118_80, s118_56T, s118_66T, Option.bind_some, Option.bind_none, Option.toList_some, Option.toList_none, List.cons_append, List.nil_append, clr_i, clr_r, clr_l, clr_n, nI_add, nsub, pk_mul, nle_F, nle_T, nlt_F, nlt_T, neq_F, nz_F, nz_T, nneg_F, npos_T, npos_lF, npos_lT, nle0_F, m1_neg, m1_pos, m1_z, neq_m1, m1_neq, ↓reduceIte, if_true, if_false, not_true_eq_false, not_false_eq_true, bI_eq0, Bool.true_eq_false, Bool.false_eq_true, true_and, and_true, false_and, and_false, true_or, or_true, false_or, or_false, decide_true, decide_false, Bool.and_self, Bool.true_and, Bool.and_true, Bool.false_and, Bool.and_false, Bool.true_or, Bool.or_true, Bool.false_or, Bool.or_false, Bool.not_true, Bool.not_false, g_11_12_9, g_11_191_T, K_isOne, hone]
      · refine ⟨K3, some (.int (nI (pn (m / 16) (m % 16) 0))), ok3, fun d => (e2 d).trans ?_⟩
        rw [if_pos rfl]
        have p1 := (hhi t ht (m / 16) (m % 16) 0).1 31 (by omega) (by omega)
        have p2 := (hhi o ho (m / 16) (m % 16) 0).1 31 (by omega) (by omega)
        unfold aX g2
        generalize sem (rW w n) fs sn n tm t (m / 16) (m % 16) 0 = r1 at *
        generalize sem (rW w n) fs sn n tm o (m / 16) (m % 16) 0 = r2 at *
        have b1 := bsp_xor (m := r1.2) (m' := r2.2) p1 p2
        have b2 := bsp_lo (r1.1 ^^^ r2.1) (r1.2 ^^^ r2.2)
        rw [s118_23]
        simp (maxSteps := 2000000) (disch := first | omega | with_reducible assumption | exact cobP | exact cobX | exact cobS (by omega) | exact cobK (by omega) | exact cobF (by omega) | exact cobW | exact isTC_T (by assumption) (by assumption) | exact bI_01 _ | exact Or.inl rfl | exact Or.inr rfl | (simp (decide := true) only [wid_0, wid_i, wid_l, wid_r, wid_n]; done) | decide | fail) only [s118_25, s118_28, s118_31, s118_33, s118_34, s118_37, s118_40, s118_42, s118_45, s118_47, s118_49, s118_50, s118_51, s118_54, s118_56c0, s118_56c3, s118_56c6, s118_56c8, s118_59, s118_60, s118_61, s118_64, s118_66c0, s118_66c3, s118_66c6, s118_66c8, s118_69, s118_70, s118_71, s118_74, s118_75, s118_77, s118_80, s118_56T, s118_66T, Option.bind_some, Option.bind_none, Option.toList_some, Option.toList_none, List.cons_append, List.nil_append, clr_i, clr_r, clr_l, clr_n, nI_add, nsub, pk_mul, nle_F, nle_T, nlt_F, nlt_T, neq_F, nz_F, nz_T, nneg_F, npos_T, npos_lF, npos_lT, nle0_F, m1_neg, m1_pos, m1_z, neq_m1, m1_neq, ↓reduceIte, if_true, if_false, not_true_eq_false, not_false_eq_true, bI_eq0, Bool.true_eq_false, Bool.false_eq_true, true_and, and_true, false_and, and_false, true_or, or_true, false_or, or_false, decide_true, decide_false, Bool.and_self, Bool.true_and, Bool.and_true, Bool.false_and, Bool.and_false, Bool.true_or, Bool.or_true, Bool.false_or, Bool.or_false, Bool.not_true, Bool.not_false, g_11_12_9, g_11_191_T, K_isOne, K_partsOf, hone, e3, e4, b1, K_spanOf_f, b2]
  obtain ⟨K', j6, ok', e2⟩ := key 256 (Nat.le_refl 256)
  refine ⟨c1, K', kn1, Q1.p hnt1, ok', fun d => ?_⟩
  have ez := apZ_fst hn30 (hO 256)
  show _ = some (some (Value.int (fstB (apO w fs sn n tm (w 14 t ||| w 14 o) t o 256) n 0)), _)
  rw [← ez]
  simp (maxSteps := 2000000) (disch := first | omega | with_reducible assumption | exact cobP | exact cobX | exact cobS (by omega) | exact cobK (by omega) | exact cobF (by omega) | exact cobW | exact isTC_T (by assumption) (by assumption) | exact bI_01 _ | exact Or.inl rfl | exact Or.inr rfl | (simp (decide := true) only [wid_0, wid_i, wid_l, wid_r, wid_n]; done) | decide | fail) only [s118_0, s118_1, s118_4, s118_7, s118_8, s118_11, s118_12, s118_15, s118_16, s118_17, s118_18, s118_20, s118_21, Option.bind_some, Option.bind_none, Option.toList_some, Option.toList_none, List.cons_append, List.nil_append, clr_i, clr_r, clr_l, clr_n, nI_add, nsub, pk_mul, nle_F, nle_T, nlt_F, nlt_T, neq_F, nz_F, nz_T, nneg_F, npos_T, npos_lF, npos_lT, nle0_F, m1_neg, m1_pos, m1_z, neq_m1, m1_neq, ↓reduceIte, if_true, if_false, not_true_eq_false, not_false_eq_true, bI_eq0, Bool.true_eq_false, Bool.false_eq_true, true_and, and_true, false_and, and_false, true_or, or_true, false_or, or_false, decide_true, decide_false, Bool.and_self, Bool.true_and, Bool.and_true, Bool.false_and, Bool.and_false, Bool.true_or, Bool.or_true, Bool.false_or, Bool.or_false, Bool.not_true, Bool.not_false, g_11_12_9, g_11_191_T, e1, f1, f2]
  rw [e2 d, s118_23]
  generalize apO w fs sn n tm (w 14 t ||| w 14 o) t o 256 = z
  unfold apZ
  by_cases hz : z = 0
  · simp (maxSteps := 2000000) (disch := first | omega | with_reducible assumption | exact cobP | exact cobX | exact cobS (by omega) | exact cobK (by omega) | exact cobF (by omega) | exact cobW | exact isTC_T (by assumption) (by assumption) | exact bI_01 _ | exact Or.inl rfl | exact Or.inr rfl | (simp (decide := true) only [wid_0, wid_i, wid_l, wid_r, wid_n]; done) | decide | fail) only [s118_25, s118_28, s118_83, s118_85, s118_88, s118_90, s118_93, s118_95, s118_98 (st := []), Option.bind_some, Option.bind_none, Option.toList_some, Option.toList_none, List.cons_append, List.nil_append, clr_i, clr_r, clr_l, clr_n, nI_add, nsub, pk_mul, nle_F, nle_T, nlt_F, nlt_T, neq_F, nz_F, nz_T, nneg_F, npos_T, npos_lF, npos_lT, nle0_F, m1_neg, m1_pos, m1_z, neq_m1, m1_neq, ↓reduceIte, if_true, if_false, not_true_eq_false, not_false_eq_true, bI_eq0, Bool.true_eq_false, Bool.false_eq_true, true_and, and_true, false_and, and_false, true_or, or_true, false_or, or_false, decide_true, decide_false, Bool.and_self, Bool.true_and, Bool.and_true, Bool.false_and, Bool.and_false, Bool.true_or, Bool.or_true, Bool.false_or, Bool.or_false, Bool.not_true, Bool.not_false, hz]
  · rw [if_neg hz]
    simp (maxSteps := 2000000) (disch := first | omega | with_reducible assumption | exact cobP | exact cobX | exact cobS (by omega) | exact cobK (by omega) | exact cobF (by omega) | exact cobW | exact isTC_T (by assumption) (by assumption) | exact bI_01 _ | exact Or.inl rfl | exact Or.inr rfl | (simp (decide := true) only [wid_0, wid_i, wid_l, wid_r, wid_n]; done) | decide | fail) only [s118_25, s118_28, s118_83, s118_85, s118_88, s118_90, s118_93, s118_95, s118_98 (st := []), Option.bind_some, Option.bind_none, Option.toList_some, Option.toList_none, List.cons_append, List.nil_append, clr_i, clr_r, clr_l, clr_n, nI_add, nsub, pk_mul, nle_F, nle_T, nlt_F, nlt_T, neq_F, nz_F, nz_T, nneg_F, npos_T, npos_lF, npos_lT, nle0_F, m1_neg, m1_pos, m1_z, neq_m1, m1_neq, ↓reduceIte, if_true, if_false, not_true_eq_false, not_false_eq_true, bI_eq0, Bool.true_eq_false, Bool.false_eq_true, true_and, and_true, false_and, and_false, true_or, or_true, false_or, or_false, decide_true, decide_false, Bool.and_self, Bool.true_and, Bool.and_true, Bool.false_and, Bool.and_false, Bool.true_or, Bool.or_true, Bool.false_or, Bool.or_false, Bool.not_true, Bool.not_false, hz, K_ntz]
end KX
