/-! the class: the terms as a world; kept terms, rows, shelves (wip/whole/gen20s.py)
B: which term lies at an address; A: where a term lies; tm: a term's numbers as the reference has them; td: 0 free 1 cost 2 deep 3 number; K: what a term remembers: known, knownFor, knownAt -/
abbrev KT : Type := Nat → Int64 × Int32 × Int32
def tkc (k : Nat) : Nat := if k < 6 then 0 else if k < 9 then 3 else if k < 14 then 8 else 6
def tuu (tm : Nat → Nat → Nat) (t : Nat) : Nat := if tm t 0 < 3 then tm t 1 else tm t 2
def tww (tm : Nat → Nat → Nat) (t : Nat) : Nat := if tm t 0 < 3 then tm t 1 else tm t 3
def tca (tm : Nat → Nat → Nat) (t : Nat) : Nat := if tm t 0 = 14 then tm t 2 else tm t 1
def tFl (tm : Nat → Nat → Nat) (td : Nat → Nat → Int32) (A : Nat → Nat) (t : Nat) (K : Int64 × Int32 × Int32) : List Value := match tkc (tm t 0) with
  | 0 => [.int (nI (tm t 0)), .int (td t 0), .int (td t 1), .int (td t 2), .int (pip (td t 0)), .long K.1, .int K.2.1, .int K.2.2, .int (td t 3), .int (nI (tuu tm t)), .int (nI (tww tm t))]
  | 6 => [.ref (A (tca tm t)), .ref (A (tm t 2)), .int (nI (tm t 0)), .int (td t 0), .int (td t 1), .int (td t 2), .int (pip (td t 0)), .long K.1, .int K.2.1, .int K.2.2, .int (nI (tm t 1))]
  | _ => [.ref (A (tca tm t)), .ref (A (tm t 2)), .int (nI (tm t 0)), .int (td t 0), .int (td t 1), .int (td t 2), .int (pip (td t 0)), .long K.1, .int K.2.1, .int K.2.2]
def emT (F : Hf) (B : Nat → Option Nat) (tm : Nat → Nat → Nat) (td : Nat → Nat → Int32) (A : Nat → Nat) (K : KT) : Hf := fun a => match B a with
  | some t => some (.inr (tkc (tm t 0), tFl tm td A t (K t)))
  | none => F a
def upK (K : KT) (t : Nat) (z : Int64 × Int32 × Int32) : KT := fun t' => if t' = t then z else K t'
theorem upK_at {K : KT} {t : Nat} {z : Int64 × Int32 × Int32} : upK K t z t = z := if_pos rfl
theorem upK_of {K : KT} {t s : Nat} {z : Int64 × Int32 × Int32} (h : s ≠ t) : upK K t z s = K s := if_neg h
theorem upK_up {K : KT} {t : Nat} {z z' : Int64 × Int32 × Int32} : upK (upK K t z) t z' = upK K t z' := by
  funext s
  unfold upK
  split <;> rfl
theorem tkc_c (k : Nat) : tkc k = 0 ∨ tkc k = 3 ∨ tkc k = 6 ∨ tkc k = 8 := by
  unfold tkc
  (repeat' split) <;> omega
def TBk (B : Nat → Option Nat) (A : Nat → Nat) (x tn : Nat) : Prop := (∀ t, t < tn → B (A t) = some t ∧ x + 154 ≤ A t) ∧ (∀ a t, B a = some t → a = A t)
section TW
variable {F : Hf} {x t k e r : Nat} {B : Nat → Option Nat} {A : Nat → Nat} {tm : Nat → Nat → Nat} {td : Nat → Nat → Int32} {K : KT} {c : WD} {y : Nat → Int64} {v : VD} {tA : Nat → Option Nat} {z : Int32} {l : Int64}
theorem emT_at (hB : B (A t) = some t) (hx : x + 154 ≤ A t) : emC (emT F B tm td A K) x c y v tA (A t) = some (.inr (tkc (tm t 0), tFl tm td A t (K t))) := by
  rw [emC_off _ _ _ _ _ _ _ (Or.inr hx)]
  unfold emT
  rw [hB]
theorem emT_hup {K' : Int64 × Int32 × Int32} (hB : B (A t) = some t) (hi : ∀ a, B a = some t → a = A t) (hx : x + 154 ≤ A t) : hup (emC (emT F B tm td A K) x c y v tA) (A t) (.inr (tkc (tm t 0), tFl tm td A t K')) = emC (emT F B tm td A (upK K t K')) x c y v tA := by
  rw [emC_hup hx]
  refine congrArg (fun g => emC g x c y v tA) ?_
  funext a
  show (if a = A t then some (Sum.inr (tkc (tm t 0), tFl tm td A t K')) else emT F B tm td A K a) = _
  unfold emT
  by_cases q : a = A t
  · subst q
    rw [if_pos rfl, hB]
    dsimp only
    rw [upK_at]
  · rw [if_neg q]
    cases h : B a with
    | none => rfl
    | some s =>
      have hs : s ≠ t := fun e => q (hi a (by rw [h, e]))
      dsimp only
      rw [upK_of hs]
theorem cob_T (hB : B (A t) = some t) (hx : x + 154 ≤ A t) : cob (emC (emT F B tm td A K) x c y v tA (A t)) = some (tkc (tm t 0)) := by
  rw [emT_at hB hx]
  rfl
theorem tFl_0 (h : tkc (tm t 0) = 0) (K' : Int64 × Int32 × Int32) : tFl tm td A t K' = [.int (nI (tm t 0)), .int (td t 0), .int (td t 1), .int (td t 2), .int (pip (td t 0)), .long K'.1, .int K'.2.1, .int K'.2.2, .int (td t 3), .int (nI (tuu tm t)), .int (nI (tww tm t))] := by
  unfold tFl
  rw [h]
  rfl
theorem tFl_6 (h : tkc (tm t 0) = 6) (K' : Int64 × Int32 × Int32) : tFl tm td A t K' = [.ref (A (tca tm t)), .ref (A (tm t 2)), .int (nI (tm t 0)), .int (td t 0), .int (td t 1), .int (td t 2), .int (pip (td t 0)), .long K'.1, .int K'.2.1, .int K'.2.2, .int (nI (tm t 1))] := by
  unfold tFl
  rw [h]
  rfl
theorem tFl_3 (h : tkc (tm t 0) = 3) (K' : Int64 × Int32 × Int32) : tFl tm td A t K' = [.ref (A (tca tm t)), .ref (A (tm t 2)), .int (nI (tm t 0)), .int (td t 0), .int (td t 1), .int (td t 2), .int (pip (td t 0)), .long K'.1, .int K'.2.1, .int K'.2.2] := by
  unfold tFl
  rw [h]
  rfl
theorem tFl_8 (h : tkc (tm t 0) = 8) (K' : Int64 × Int32 × Int32) : tFl tm td A t K' = [.ref (A (tca tm t)), .ref (A (tm t 2)), .int (nI (tm t 0)), .int (td t 0), .int (td t 1), .int (td t 2), .int (pip (td t 0)), .long K'.1, .int K'.2.1, .int K'.2.2] := by
  unfold tFl
  rw [h]
  rfl
theorem fs_0_15_0 : fsl 0 15 0 = some 8 := by decide +kernel
theorem g_0_15_T (h : tkc (tm t 0) = 0) (hB : B (A t) = some t) (hx : x + 154 ≤ A t) : gfl 0 15 (emC (emT F B tm td A K) x c y v tA (A t)) = some (.int (td t 3)) := by
  rw [emT_at hB hx]
  skip
  · rw [tFl_0 h, h]; simp only [gfl, fs_0_15_0]; rfl
theorem fs_0_19_0 : fsl 0 19 0 = some 9 := by decide +kernel
theorem g_0_19_T (h : tkc (tm t 0) = 0) (hB : B (A t) = some t) (hx : x + 154 ≤ A t) : gfl 0 19 (emC (emT F B tm td A K) x c y v tA (A t)) = some (.int (nI (tuu tm t))) := by
  rw [emT_at hB hx]
  skip
  · rw [tFl_0 h, h]; simp only [gfl, fs_0_19_0]; rfl
theorem fs_0_22_0 : fsl 0 22 0 = some 10 := by decide +kernel
theorem g_0_22_T (h : tkc (tm t 0) = 0) (hB : B (A t) = some t) (hx : x + 154 ≤ A t) : gfl 0 22 (emC (emT F B tm td A K) x c y v tA (A t)) = some (.int (nI (tww tm t))) := by
  rw [emT_at hB hx]
  skip
  · rw [tFl_0 h, h]; simp only [gfl, fs_0_22_0]; rfl
theorem fs_0_29_0 : fsl 0 29 0 = some 0 := by decide +kernel
theorem g_0_29_T (h : tkc (tm t 0) = 0) (hB : B (A t) = some t) (hx : x + 154 ≤ A t) : gfl 0 29 (emC (emT F B tm td A K) x c y v tA (A t)) = some (.int (nI (tm t 0))) := by
  rw [emT_at hB hx]
  skip
  · rw [tFl_0 h, h]; simp only [gfl, fs_0_29_0]; rfl
theorem fs_2_1_0 : fsl 2 1 0 = some 3 := by decide +kernel
theorem fs_2_1_3 : fsl 2 1 3 = some 5 := by decide +kernel
theorem fs_2_1_6 : fsl 2 1 6 = some 5 := by decide +kernel
theorem fs_2_1_8 : fsl 2 1 8 = some 5 := by decide +kernel
theorem g_2_1_T (hB : B (A t) = some t) (hx : x + 154 ≤ A t) : gfl 2 1 (emC (emT F B tm td A K) x c y v tA (A t)) = some (.int (td t 2)) := by
  rw [emT_at hB hx]
  rcases tkc_c (tm t 0) with h | h | h | h
  · rw [tFl_0 h, h]; simp only [gfl, fs_2_1_0]; rfl
  · rw [tFl_3 h, h]; simp only [gfl, fs_2_1_3]; rfl
  · rw [tFl_6 h, h]; simp only [gfl, fs_2_1_6]; rfl
  · rw [tFl_8 h, h]; simp only [gfl, fs_2_1_8]; rfl
theorem fs_2_17_3 : fsl 2 17 3 = some 0 := by decide +kernel
theorem fs_2_17_6 : fsl 2 17 6 = some 0 := by decide +kernel
theorem fs_2_17_8 : fsl 2 17 8 = some 0 := by decide +kernel
theorem g_2_17_T (h : tkc (tm t 0) = 3 ∨ tkc (tm t 0) = 6 ∨ tkc (tm t 0) = 8) (hB : B (A t) = some t) (hx : x + 154 ≤ A t) : gfl 2 17 (emC (emT F B tm td A K) x c y v tA (A t)) = some (.ref (A (tca tm t))) := by
  rw [emT_at hB hx]
  rcases h with h | h | h
  · rw [tFl_3 h, h]; simp only [gfl, fs_2_17_3]; rfl
  · rw [tFl_6 h, h]; simp only [gfl, fs_2_17_6]; rfl
  · rw [tFl_8 h, h]; simp only [gfl, fs_2_17_8]; rfl
theorem fs_2_23_3 : fsl 2 23 3 = some 1 := by decide +kernel
theorem fs_2_23_6 : fsl 2 23 6 = some 1 := by decide +kernel
theorem fs_2_23_8 : fsl 2 23 8 = some 1 := by decide +kernel
theorem g_2_23_T (h : tkc (tm t 0) = 3 ∨ tkc (tm t 0) = 6 ∨ tkc (tm t 0) = 8) (hB : B (A t) = some t) (hx : x + 154 ≤ A t) : gfl 2 23 (emC (emT F B tm td A K) x c y v tA (A t)) = some (.ref (A (tm t 2))) := by
  rw [emT_at hB hx]
  rcases h with h | h | h
  · rw [tFl_3 h, h]; simp only [gfl, fs_2_23_3]; rfl
  · rw [tFl_6 h, h]; simp only [gfl, fs_2_23_6]; rfl
  · rw [tFl_8 h, h]; simp only [gfl, fs_2_23_8]; rfl
theorem fs_4_3_0 : fsl 4 3 0 = some 1 := by decide +kernel
theorem fs_4_3_3 : fsl 4 3 3 = some 3 := by decide +kernel
theorem fs_4_3_6 : fsl 4 3 6 = some 3 := by decide +kernel
theorem fs_4_3_8 : fsl 4 3 8 = some 3 := by decide +kernel
theorem g_4_3_T (hB : B (A t) = some t) (hx : x + 154 ≤ A t) : gfl 4 3 (emC (emT F B tm td A K) x c y v tA (A t)) = some (.int (td t 0)) := by
  rw [emT_at hB hx]
  rcases tkc_c (tm t 0) with h | h | h | h
  · rw [tFl_0 h, h]; simp only [gfl, fs_4_3_0]; rfl
  · rw [tFl_3 h, h]; simp only [gfl, fs_4_3_3]; rfl
  · rw [tFl_6 h, h]; simp only [gfl, fs_4_3_6]; rfl
  · rw [tFl_8 h, h]; simp only [gfl, fs_4_3_8]; rfl
theorem fs_4_15_3 : fsl 4 15 3 = some 0 := by decide +kernel
theorem g_4_15_T (h : tkc (tm t 0) = 3) (hB : B (A t) = some t) (hx : x + 154 ≤ A t) : gfl 4 15 (emC (emT F B tm td A K) x c y v tA (A t)) = some (.ref (A (tca tm t))) := by
  rw [emT_at hB hx]
  skip
  · rw [tFl_3 h, h]; simp only [gfl, fs_4_15_3]; rfl
theorem fs_4_25_3 : fsl 4 25 3 = some 2 := by decide +kernel
theorem g_4_25_T (h : tkc (tm t 0) = 3) (hB : B (A t) = some t) (hx : x + 154 ≤ A t) : gfl 4 25 (emC (emT F B tm td A K) x c y v tA (A t)) = some (.int (nI (tm t 0))) := by
  rw [emT_at hB hx]
  skip
  · rw [tFl_3 h, h]; simp only [gfl, fs_4_25_3]; rfl
theorem fs_4_42_3 : fsl 4 42 3 = some 1 := by decide +kernel
theorem g_4_42_T (h : tkc (tm t 0) = 3) (hB : B (A t) = some t) (hx : x + 154 ≤ A t) : gfl 4 42 (emC (emT F B tm td A K) x c y v tA (A t)) = some (.ref (A (tm t 2))) := by
  rw [emT_at hB hx]
  skip
  · rw [tFl_3 h, h]; simp only [gfl, fs_4_42_3]; rfl
theorem fs_5_42_0 : fsl 5 42 0 = some 1 := by decide +kernel
theorem fs_5_42_3 : fsl 5 42 3 = some 3 := by decide +kernel
theorem fs_5_42_6 : fsl 5 42 6 = some 3 := by decide +kernel
theorem fs_5_42_8 : fsl 5 42 8 = some 3 := by decide +kernel
theorem g_5_42_T (hB : B (A t) = some t) (hx : x + 154 ≤ A t) : gfl 5 42 (emC (emT F B tm td A K) x c y v tA (A t)) = some (.int (td t 0)) := by
  rw [emT_at hB hx]
  rcases tkc_c (tm t 0) with h | h | h | h
  · rw [tFl_0 h, h]; simp only [gfl, fs_5_42_0]; rfl
  · rw [tFl_3 h, h]; simp only [gfl, fs_5_42_3]; rfl
  · rw [tFl_6 h, h]; simp only [gfl, fs_5_42_6]; rfl
  · rw [tFl_8 h, h]; simp only [gfl, fs_5_42_8]; rfl
theorem fs_7_3_0 : fsl 7 3 0 = some 1 := by decide +kernel
theorem fs_7_3_3 : fsl 7 3 3 = some 3 := by decide +kernel
theorem fs_7_3_6 : fsl 7 3 6 = some 3 := by decide +kernel
theorem fs_7_3_8 : fsl 7 3 8 = some 3 := by decide +kernel
theorem g_7_3_T (hB : B (A t) = some t) (hx : x + 154 ≤ A t) : gfl 7 3 (emC (emT F B tm td A K) x c y v tA (A t)) = some (.int (td t 0)) := by
  rw [emT_at hB hx]
  rcases tkc_c (tm t 0) with h | h | h | h
  · rw [tFl_0 h, h]; simp only [gfl, fs_7_3_0]; rfl
  · rw [tFl_3 h, h]; simp only [gfl, fs_7_3_3]; rfl
  · rw [tFl_6 h, h]; simp only [gfl, fs_7_3_6]; rfl
  · rw [tFl_8 h, h]; simp only [gfl, fs_7_3_8]; rfl
theorem fs_7_15_6 : fsl 7 15 6 = some 10 := by decide +kernel
theorem g_7_15_T (h : tkc (tm t 0) = 6) (hB : B (A t) = some t) (hx : x + 154 ≤ A t) : gfl 7 15 (emC (emT F B tm td A K) x c y v tA (A t)) = some (.int (nI (tm t 1))) := by
  rw [emT_at hB hx]
  skip
  · rw [tFl_6 h, h]; simp only [gfl, fs_7_15_6]; rfl
theorem fs_7_24_6 : fsl 7 24 6 = some 0 := by decide +kernel
theorem g_7_24_T (h : tkc (tm t 0) = 6) (hB : B (A t) = some t) (hx : x + 154 ≤ A t) : gfl 7 24 (emC (emT F B tm td A K) x c y v tA (A t)) = some (.ref (A (tca tm t))) := by
  rw [emT_at hB hx]
  skip
  · rw [tFl_6 h, h]; simp only [gfl, fs_7_24_6]; rfl
theorem fs_9_7_0 : fsl 9 7 0 = some 0 := by decide +kernel
theorem fs_9_7_3 : fsl 9 7 3 = some 2 := by decide +kernel
theorem fs_9_7_6 : fsl 9 7 6 = some 2 := by decide +kernel
theorem fs_9_7_8 : fsl 9 7 8 = some 2 := by decide +kernel
theorem g_9_7_T (hB : B (A t) = some t) (hx : x + 154 ≤ A t) : gfl 9 7 (emC (emT F B tm td A K) x c y v tA (A t)) = some (.int (nI (tm t 0))) := by
  rw [emT_at hB hx]
  rcases tkc_c (tm t 0) with h | h | h | h
  · rw [tFl_0 h, h]; simp only [gfl, fs_9_7_0]; rfl
  · rw [tFl_3 h, h]; simp only [gfl, fs_9_7_3]; rfl
  · rw [tFl_6 h, h]; simp only [gfl, fs_9_7_6]; rfl
  · rw [tFl_8 h, h]; simp only [gfl, fs_9_7_8]; rfl
theorem fs_9_13_0 : fsl 9 13 0 = some 1 := by decide +kernel
theorem fs_9_13_3 : fsl 9 13 3 = some 3 := by decide +kernel
theorem fs_9_13_6 : fsl 9 13 6 = some 3 := by decide +kernel
theorem fs_9_13_8 : fsl 9 13 8 = some 3 := by decide +kernel
theorem g_9_13_T (hB : B (A t) = some t) (hx : x + 154 ≤ A t) : gfl 9 13 (emC (emT F B tm td A K) x c y v tA (A t)) = some (.int (td t 0)) := by
  rw [emT_at hB hx]
  rcases tkc_c (tm t 0) with h | h | h | h
  · rw [tFl_0 h, h]; simp only [gfl, fs_9_13_0]; rfl
  · rw [tFl_3 h, h]; simp only [gfl, fs_9_13_3]; rfl
  · rw [tFl_6 h, h]; simp only [gfl, fs_9_13_6]; rfl
  · rw [tFl_8 h, h]; simp only [gfl, fs_9_13_8]; rfl
theorem fs_9_16_0 : fsl 9 16 0 = some 2 := by decide +kernel
theorem fs_9_16_3 : fsl 9 16 3 = some 4 := by decide +kernel
theorem fs_9_16_6 : fsl 9 16 6 = some 4 := by decide +kernel
theorem fs_9_16_8 : fsl 9 16 8 = some 4 := by decide +kernel
theorem g_9_16_T (hB : B (A t) = some t) (hx : x + 154 ≤ A t) : gfl 9 16 (emC (emT F B tm td A K) x c y v tA (A t)) = some (.int (td t 1)) := by
  rw [emT_at hB hx]
  rcases tkc_c (tm t 0) with h | h | h | h
  · rw [tFl_0 h, h]; simp only [gfl, fs_9_16_0]; rfl
  · rw [tFl_3 h, h]; simp only [gfl, fs_9_16_3]; rfl
  · rw [tFl_6 h, h]; simp only [gfl, fs_9_16_6]; rfl
  · rw [tFl_8 h, h]; simp only [gfl, fs_9_16_8]; rfl
theorem fs_9_19_0 : fsl 9 19 0 = some 3 := by decide +kernel
theorem fs_9_19_3 : fsl 9 19 3 = some 5 := by decide +kernel
theorem fs_9_19_6 : fsl 9 19 6 = some 5 := by decide +kernel
theorem fs_9_19_8 : fsl 9 19 8 = some 5 := by decide +kernel
theorem g_9_19_T (hB : B (A t) = some t) (hx : x + 154 ≤ A t) : gfl 9 19 (emC (emT F B tm td A K) x c y v tA (A t)) = some (.int (td t 2)) := by
  rw [emT_at hB hx]
  rcases tkc_c (tm t 0) with h | h | h | h
  · rw [tFl_0 h, h]; simp only [gfl, fs_9_19_0]; rfl
  · rw [tFl_3 h, h]; simp only [gfl, fs_9_19_3]; rfl
  · rw [tFl_6 h, h]; simp only [gfl, fs_9_19_6]; rfl
  · rw [tFl_8 h, h]; simp only [gfl, fs_9_19_8]; rfl
theorem fs_9_28_0 : fsl 9 28 0 = some 4 := by decide +kernel
theorem fs_9_28_3 : fsl 9 28 3 = some 6 := by decide +kernel
theorem fs_9_28_6 : fsl 9 28 6 = some 6 := by decide +kernel
theorem fs_9_28_8 : fsl 9 28 8 = some 6 := by decide +kernel
theorem g_9_28_T (hB : B (A t) = some t) (hx : x + 154 ≤ A t) : gfl 9 28 (emC (emT F B tm td A K) x c y v tA (A t)) = some (.int (pip (td t 0))) := by
  rw [emT_at hB hx]
  rcases tkc_c (tm t 0) with h | h | h | h
  · rw [tFl_0 h, h]; simp only [gfl, fs_9_28_0]; rfl
  · rw [tFl_3 h, h]; simp only [gfl, fs_9_28_3]; rfl
  · rw [tFl_6 h, h]; simp only [gfl, fs_9_28_6]; rfl
  · rw [tFl_8 h, h]; simp only [gfl, fs_9_28_8]; rfl
theorem fs_9_31_0 : fsl 9 31 0 = some 7 := by decide +kernel
theorem fs_9_31_3 : fsl 9 31 3 = some 9 := by decide +kernel
theorem fs_9_31_6 : fsl 9 31 6 = some 9 := by decide +kernel
theorem fs_9_31_8 : fsl 9 31 8 = some 9 := by decide +kernel
theorem g_9_31_T (hB : B (A t) = some t) (hx : x + 154 ≤ A t) : gfl 9 31 (emC (emT F B tm td A K) x c y v tA (A t)) = some (.int (K t).2.2) := by
  rw [emT_at hB hx]
  rcases tkc_c (tm t 0) with h | h | h | h
  · rw [tFl_0 h, h]; simp only [gfl, fs_9_31_0]; rfl
  · rw [tFl_3 h, h]; simp only [gfl, fs_9_31_3]; rfl
  · rw [tFl_6 h, h]; simp only [gfl, fs_9_31_6]; rfl
  · rw [tFl_8 h, h]; simp only [gfl, fs_9_31_8]; rfl
theorem p_9_31_T (hB : B (A t) = some t) (hx : x + 154 ≤ A t) : pfl false 9 31 (emC (emT F B tm td A K) x c y v tA (A t)) (.int z) = some (.inr (tkc (tm t 0), tFl tm td A t ((K t).1, (K t).2.1, z))) := by
  rw [emT_at hB hx]
  rcases tkc_c (tm t 0) with h | h | h | h
  · rw [tFl_0 h, tFl_0 h, h]; unfold pfl; dsimp only; rw [fs_9_31_0]; exact if_pos ⟨Nat.le_of_ble_eq_true rfl, okv_i _, Or.inl rfl⟩
  · rw [tFl_3 h, tFl_3 h, h]; unfold pfl; dsimp only; rw [fs_9_31_3]; exact if_pos ⟨Nat.le_of_ble_eq_true rfl, okv_i _, Or.inl rfl⟩
  · rw [tFl_6 h, tFl_6 h, h]; unfold pfl; dsimp only; rw [fs_9_31_6]; exact if_pos ⟨Nat.le_of_ble_eq_true rfl, okv_i _, Or.inl rfl⟩
  · rw [tFl_8 h, tFl_8 h, h]; unfold pfl; dsimp only; rw [fs_9_31_8]; exact if_pos ⟨Nat.le_of_ble_eq_true rfl, okv_i _, Or.inl rfl⟩
theorem fs_9_39_0 : fsl 9 39 0 = some 6 := by decide +kernel
theorem fs_9_39_3 : fsl 9 39 3 = some 8 := by decide +kernel
theorem fs_9_39_6 : fsl 9 39 6 = some 8 := by decide +kernel
theorem fs_9_39_8 : fsl 9 39 8 = some 8 := by decide +kernel
theorem g_9_39_T (hB : B (A t) = some t) (hx : x + 154 ≤ A t) : gfl 9 39 (emC (emT F B tm td A K) x c y v tA (A t)) = some (.int (K t).2.1) := by
  rw [emT_at hB hx]
  rcases tkc_c (tm t 0) with h | h | h | h
  · rw [tFl_0 h, h]; simp only [gfl, fs_9_39_0]; rfl
  · rw [tFl_3 h, h]; simp only [gfl, fs_9_39_3]; rfl
  · rw [tFl_6 h, h]; simp only [gfl, fs_9_39_6]; rfl
  · rw [tFl_8 h, h]; simp only [gfl, fs_9_39_8]; rfl
theorem p_9_39_T (hB : B (A t) = some t) (hx : x + 154 ≤ A t) : pfl false 9 39 (emC (emT F B tm td A K) x c y v tA (A t)) (.int z) = some (.inr (tkc (tm t 0), tFl tm td A t ((K t).1, z, (K t).2.2))) := by
  rw [emT_at hB hx]
  rcases tkc_c (tm t 0) with h | h | h | h
  · rw [tFl_0 h, tFl_0 h, h]; unfold pfl; dsimp only; rw [fs_9_39_0]; exact if_pos ⟨Nat.le_of_ble_eq_true rfl, okv_i _, Or.inl rfl⟩
  · rw [tFl_3 h, tFl_3 h, h]; unfold pfl; dsimp only; rw [fs_9_39_3]; exact if_pos ⟨Nat.le_of_ble_eq_true rfl, okv_i _, Or.inl rfl⟩
  · rw [tFl_6 h, tFl_6 h, h]; unfold pfl; dsimp only; rw [fs_9_39_6]; exact if_pos ⟨Nat.le_of_ble_eq_true rfl, okv_i _, Or.inl rfl⟩
  · rw [tFl_8 h, tFl_8 h, h]; unfold pfl; dsimp only; rw [fs_9_39_8]; exact if_pos ⟨Nat.le_of_ble_eq_true rfl, okv_i _, Or.inl rfl⟩
theorem fs_9_46_0 : fsl 9 46 0 = some 5 := by decide +kernel
theorem fs_9_46_3 : fsl 9 46 3 = some 7 := by decide +kernel
theorem fs_9_46_6 : fsl 9 46 6 = some 7 := by decide +kernel
theorem fs_9_46_8 : fsl 9 46 8 = some 7 := by decide +kernel
theorem g_9_46_T (hB : B (A t) = some t) (hx : x + 154 ≤ A t) : gfl 9 46 (emC (emT F B tm td A K) x c y v tA (A t)) = some (.long (K t).1) := by
  rw [emT_at hB hx]
  rcases tkc_c (tm t 0) with h | h | h | h
  · rw [tFl_0 h, h]; simp only [gfl, fs_9_46_0]; rfl
  · rw [tFl_3 h, h]; simp only [gfl, fs_9_46_3]; rfl
  · rw [tFl_6 h, h]; simp only [gfl, fs_9_46_6]; rfl
  · rw [tFl_8 h, h]; simp only [gfl, fs_9_46_8]; rfl
theorem p_9_46_T (hB : B (A t) = some t) (hx : x + 154 ≤ A t) : pfl false 9 46 (emC (emT F B tm td A K) x c y v tA (A t)) (.long l) = some (.inr (tkc (tm t 0), tFl tm td A t (l, (K t).2))) := by
  rw [emT_at hB hx]
  rcases tkc_c (tm t 0) with h | h | h | h
  · rw [tFl_0 h, tFl_0 h, h]; unfold pfl; dsimp only; rw [fs_9_46_0]; exact if_pos ⟨Nat.le_of_ble_eq_true rfl, okv_l _, Or.inl rfl⟩
  · rw [tFl_3 h, tFl_3 h, h]; unfold pfl; dsimp only; rw [fs_9_46_3]; exact if_pos ⟨Nat.le_of_ble_eq_true rfl, okv_l _, Or.inl rfl⟩
  · rw [tFl_6 h, tFl_6 h, h]; unfold pfl; dsimp only; rw [fs_9_46_6]; exact if_pos ⟨Nat.le_of_ble_eq_true rfl, okv_l _, Or.inl rfl⟩
  · rw [tFl_8 h, tFl_8 h, h]; unfold pfl; dsimp only; rw [fs_9_46_8]; exact if_pos ⟨Nat.le_of_ble_eq_true rfl, okv_l _, Or.inl rfl⟩
theorem fs_10_3_0 : fsl 10 3 0 = some 1 := by decide +kernel
theorem fs_10_3_3 : fsl 10 3 3 = some 3 := by decide +kernel
theorem fs_10_3_6 : fsl 10 3 6 = some 3 := by decide +kernel
theorem fs_10_3_8 : fsl 10 3 8 = some 3 := by decide +kernel
theorem g_10_3_T (hB : B (A t) = some t) (hx : x + 154 ≤ A t) : gfl 10 3 (emC (emT F B tm td A K) x c y v tA (A t)) = some (.int (td t 0)) := by
  rw [emT_at hB hx]
  rcases tkc_c (tm t 0) with h | h | h | h
  · rw [tFl_0 h, h]; simp only [gfl, fs_10_3_0]; rfl
  · rw [tFl_3 h, h]; simp only [gfl, fs_10_3_3]; rfl
  · rw [tFl_6 h, h]; simp only [gfl, fs_10_3_6]; rfl
  · rw [tFl_8 h, h]; simp only [gfl, fs_10_3_8]; rfl
theorem fs_10_19_8 : fsl 10 19 8 = some 0 := by decide +kernel
theorem g_10_19_T (h : tkc (tm t 0) = 8) (hB : B (A t) = some t) (hx : x + 154 ≤ A t) : gfl 10 19 (emC (emT F B tm td A K) x c y v tA (A t)) = some (.ref (A (tca tm t))) := by
  rw [emT_at hB hx]
  skip
  · rw [tFl_8 h, h]; simp only [gfl, fs_10_19_8]; rfl
theorem fs_10_33_8 : fsl 10 33 8 = some 2 := by decide +kernel
theorem g_10_33_T (h : tkc (tm t 0) = 8) (hB : B (A t) = some t) (hx : x + 154 ≤ A t) : gfl 10 33 (emC (emT F B tm td A K) x c y v tA (A t)) = some (.int (nI (tm t 0))) := by
  rw [emT_at hB hx]
  skip
  · rw [tFl_8 h, h]; simp only [gfl, fs_10_33_8]; rfl
theorem fs_10_56_8 : fsl 10 56 8 = some 1 := by decide +kernel
theorem g_10_56_T (h : tkc (tm t 0) = 8) (hB : B (A t) = some t) (hx : x + 154 ≤ A t) : gfl 10 56 (emC (emT F B tm td A K) x c y v tA (A t)) = some (.ref (A (tm t 2))) := by
  rw [emT_at hB hx]
  skip
  · rw [tFl_8 h, h]; simp only [gfl, fs_10_56_8]; rfl
theorem fs_11_181_0 : fsl 11 181 0 = some 2 := by decide +kernel
theorem fs_11_181_3 : fsl 11 181 3 = some 4 := by decide +kernel
theorem fs_11_181_6 : fsl 11 181 6 = some 4 := by decide +kernel
theorem fs_11_181_8 : fsl 11 181 8 = some 4 := by decide +kernel
theorem g_11_181_T (hB : B (A t) = some t) (hx : x + 154 ≤ A t) : gfl 11 181 (emC (emT F B tm td A K) x c y v tA (A t)) = some (.int (td t 1)) := by
  rw [emT_at hB hx]
  rcases tkc_c (tm t 0) with h | h | h | h
  · rw [tFl_0 h, h]; simp only [gfl, fs_11_181_0]; rfl
  · rw [tFl_3 h, h]; simp only [gfl, fs_11_181_3]; rfl
  · rw [tFl_6 h, h]; simp only [gfl, fs_11_181_6]; rfl
  · rw [tFl_8 h, h]; simp only [gfl, fs_11_181_8]; rfl
theorem fs_11_188_0 : fsl 11 188 0 = some 0 := by decide +kernel
theorem fs_11_188_3 : fsl 11 188 3 = some 2 := by decide +kernel
theorem fs_11_188_6 : fsl 11 188 6 = some 2 := by decide +kernel
theorem fs_11_188_8 : fsl 11 188 8 = some 2 := by decide +kernel
theorem g_11_188_T (hB : B (A t) = some t) (hx : x + 154 ≤ A t) : gfl 11 188 (emC (emT F B tm td A K) x c y v tA (A t)) = some (.int (nI (tm t 0))) := by
  rw [emT_at hB hx]
  rcases tkc_c (tm t 0) with h | h | h | h
  · rw [tFl_0 h, h]; simp only [gfl, fs_11_188_0]; rfl
  · rw [tFl_3 h, h]; simp only [gfl, fs_11_188_3]; rfl
  · rw [tFl_6 h, h]; simp only [gfl, fs_11_188_6]; rfl
  · rw [tFl_8 h, h]; simp only [gfl, fs_11_188_8]; rfl
theorem fs_11_191_0 : fsl 11 191 0 = some 1 := by decide +kernel
theorem fs_11_191_3 : fsl 11 191 3 = some 3 := by decide +kernel
theorem fs_11_191_6 : fsl 11 191 6 = some 3 := by decide +kernel
theorem fs_11_191_8 : fsl 11 191 8 = some 3 := by decide +kernel
theorem g_11_191_T (hB : B (A t) = some t) (hx : x + 154 ≤ A t) : gfl 11 191 (emC (emT F B tm td A K) x c y v tA (A t)) = some (.int (td t 0)) := by
  rw [emT_at hB hx]
  rcases tkc_c (tm t 0) with h | h | h | h
  · rw [tFl_0 h, h]; simp only [gfl, fs_11_191_0]; rfl
  · rw [tFl_3 h, h]; simp only [gfl, fs_11_191_3]; rfl
  · rw [tFl_6 h, h]; simp only [gfl, fs_11_191_6]; rfl
  · rw [tFl_8 h, h]; simp only [gfl, fs_11_191_8]; rfl
theorem fs_11_194_0 : fsl 11 194 0 = some 3 := by decide +kernel
theorem fs_11_194_3 : fsl 11 194 3 = some 5 := by decide +kernel
theorem fs_11_194_6 : fsl 11 194 6 = some 5 := by decide +kernel
theorem fs_11_194_8 : fsl 11 194 8 = some 5 := by decide +kernel
theorem g_11_194_T (hB : B (A t) = some t) (hx : x + 154 ≤ A t) : gfl 11 194 (emC (emT F B tm td A K) x c y v tA (A t)) = some (.int (td t 2)) := by
  rw [emT_at hB hx]
  rcases tkc_c (tm t 0) with h | h | h | h
  · rw [tFl_0 h, h]; simp only [gfl, fs_11_194_0]; rfl
  · rw [tFl_3 h, h]; simp only [gfl, fs_11_194_3]; rfl
  · rw [tFl_6 h, h]; simp only [gfl, fs_11_194_6]; rfl
  · rw [tFl_8 h, h]; simp only [gfl, fs_11_194_8]; rfl
end TW
section KRS
variable {f : Hf} {x j k i r : Nat} {c : WD} {y : Nat → Int64} {v : VD} {tm : Nat → Option Nat} {z : Int32}
theorem ckd_ke (h : k < 6) : ckd (130 + 2 * k) = 8 ∧ ckd (131 + 2 * k) = 3 := by
  unfold ckd
  refine ⟨?_, ?_⟩ <;> (repeat' split) <;> omega
theorem ckd_sf (h : k < 8) : ckd (143 + k) = 10 := by
  unfold ckd
  (repeat' split) <;> omega
theorem emC_ke (h : k < 6) : emC f x c y v tm (x + (130 + 2 * k)) = some (.inr (1, [v (130 + 2 * k) 0, .ref (x + (131 + 2 * k))])) := by
  rw [emC_at _ _ _ _ _ _ _ (by omega)]; unfold cce; rw [(ckd_ke h).1]
  show some (Sum.inr (1, [v (130 + 2 * k) 0, Value.ref (x + (130 + 2 * k + 1))])) = _
  rw [show 130 + 2 * k + 1 = 131 + 2 * k by omega]
theorem emC_ks (h : k < 6) : emC f x c y v tm (x + (131 + 2 * k)) = some (.inl (0, 256, .inl (c (131 + 2 * k)))) := by
  rw [emC_at _ _ _ _ _ _ _ (by omega)]; unfold cce; rw [(ckd_ke h).2]
  have h1 : ctag (131 + 2 * k) = 0 := by unfold ctag; rw [if_neg (by omega)]
  have h2 : clen (131 + 2 * k) = 256 := by unfold clen; (repeat' split) <;> omega
  rw [h1, h2]
  rfl
theorem emC_sf (h : k < 8) : emC f x c y v tm (x + (143 + k)) = some (.inr (5, [v (143 + k) 0, v (143 + k) 1, v (143 + k) 2])) := by
  rw [emC_at _ _ _ _ _ _ _ (by omega)]; unfold cce; rw [ckd_sf h]; rfl
theorem emC_ro : emC f x c y v tm (x + 151) = some (.inr (4, [v 151 0, .int (c 151 1), .ref (x + 152), .ref (x + 153)])) := emC_at f x c y v tm 151 (by omega)
theorem cobK (h : k < 6) : cob (emC f x c y v tm (x + (130 + 2 * k))) = some 1 := by rw [emC_ke h]; rfl
theorem cobF (h : k < 8) : cob (emC f x c y v tm (x + (143 + k))) = some 5 := by rw [emC_sf h]; rfl
theorem cobW : cob (emC f x c y v tm (x + 151)) = some 4 := by rw [emC_ro]; rfl
theorem vU_at {z : Value} : vU v k i z k i = z := by rw [vU_ap, if_pos ⟨rfl, rfl⟩]
theorem vU_of {z : Value} {k' i' : Nat} (h : k' ≠ k ∨ i' ≠ i) : vU v k i z k' i' = v k' i' := by rw [vU_ap, if_neg (by omega)]
theorem emC_wv {e : PE} {i : Nat} {z : Value} (hk : k < 154) (hd : ckd k = 8 ∨ ckd k = 10 ∨ k = 151) (he : e = cce x c y (vU v k i z) tm k) : hup (emC f x c y v tm) (x + k) e = emC f x c y (vU v k i z) tm := by
  refine emC_up hk he (fun j hj hjk => ?_)
  have e0 : ∀ i', vU v k i z j i' = v j i' := fun i' => vU_of (Or.inl hjk)
  unfold cce
  split <;> first | rfl | (rw [e0]) | skip
  rw [e0, e0]
theorem h_ke {z : Value} (h : k < 6) : hup (emC f x c y v tm) (x + (130 + 2 * k)) (.inr (1, [z, .ref (x + (131 + 2 * k))])) = emC f x c y (vU v (130 + 2 * k) 0 z) tm :=
  emC_wv (by omega) (Or.inl (ckd_ke h).1) (by unfold cce; rw [(ckd_ke h).1]; show _ = Sum.inr (1, [vU v (130 + 2 * k) 0 z (130 + 2 * k) 0, Value.ref (x + (130 + 2 * k + 1))]); rw [vU_at, show 130 + 2 * k + 1 = 131 + 2 * k by omega])
theorem h_sf0 {z : Value} (h : k < 8) : hup (emC f x c y v tm) (x + (143 + k)) (.inr (5, [z, v (143 + k) 1, v (143 + k) 2])) = emC f x c y (vU v (143 + k) 0 z) tm :=
  emC_wv (by omega) (Or.inr (Or.inl (ckd_sf h))) (by unfold cce; rw [ckd_sf h]; show _ = Sum.inr (5, [vU v (143 + k) 0 z (143 + k) 0, vU v (143 + k) 0 z (143 + k) 1, vU v (143 + k) 0 z (143 + k) 2]); rw [vU_at, vU_of (Or.inr (by omega)), vU_of (Or.inr (by omega))])
theorem h_sf1 {z : Value} (h : k < 8) : hup (emC f x c y v tm) (x + (143 + k)) (.inr (5, [v (143 + k) 0, z, v (143 + k) 2])) = emC f x c y (vU v (143 + k) 1 z) tm :=
  emC_wv (by omega) (Or.inr (Or.inl (ckd_sf h))) (by unfold cce; rw [ckd_sf h]; show _ = Sum.inr (5, [vU v (143 + k) 1 z (143 + k) 0, vU v (143 + k) 1 z (143 + k) 1, vU v (143 + k) 1 z (143 + k) 2]); rw [vU_at, vU_of (Or.inr (by omega)), vU_of (Or.inr (by omega))])
theorem h_sf2 {z : Value} (h : k < 8) : hup (emC f x c y v tm) (x + (143 + k)) (.inr (5, [v (143 + k) 0, v (143 + k) 1, z])) = emC f x c y (vU v (143 + k) 2 z) tm :=
  emC_wv (by omega) (Or.inr (Or.inl (ckd_sf h))) (by unfold cce; rw [ckd_sf h]; show _ = Sum.inr (5, [vU v (143 + k) 2 z (143 + k) 0, vU v (143 + k) 2 z (143 + k) 1, vU v (143 + k) 2 z (143 + k) 2]); rw [vU_at, vU_of (Or.inr (by omega)), vU_of (Or.inr (by omega))])
theorem h_ro0 {z : Value} : hup (emC f x c y v tm) (x + 151) (.inr (4, [z, .int (c 151 1), .ref (x + 152), .ref (x + 153)])) = emC f x c y (vU v 151 0 z) tm :=
  emC_wv (by omega) (Or.inr (Or.inr rfl)) rfl
theorem h_ro1 : hup (emC f x c y v tm) (x + 151) (.inr (4, [v 151 0, .int z, .ref (x + 152), .ref (x + 153)])) = emC f x (wU c 151 1 z) y v tm :=
  emC_wf (by omega) rfl (fun _ hj => wU_off hj)
theorem aC_kept (h : k < 6) : rrl (emC f x c y v tm (x + 129)) (nI k) = some (some (x + (130 + 2 * k))) := by
  rw [emC_at f x c y v tm 129 (by omega)]
  show rrl (some (.inl (6, 6, _))) _ = _
  rw [rrl_nI (by decide) h (by omega), if_pos h]
theorem aC_shel (h : k < 8) : rrl (emC f x c y v tm (x + 142)) (nI k) = some (some (x + (143 + k))) := by
  rw [emC_at f x c y v tm 142 (by omega)]
  show rrl (some (.inl (7, 8, _))) _ = _
  rw [rrl_nI (by decide) h (by omega), if_pos h]
theorem aC_terms (h : k < 60) : rrl (emC f x c y v tm (x + 128)) (nI k) = some (tm k) := by
  rw [emC_at f x c y v tm 128 (by omega)]
  show rrl (some (.inl (5, 60, _))) _ = _
  rw [rrl_nI (by decide) h (by omega)]
theorem a_ks (h : k < 6) (hj : j < 256) : ral 0 (emC f x c y v tm (x + (131 + 2 * k))) (nI j) = some (c (131 + 2 * k) j) := by
  rw [emC_ks h]; exact ral_nI hj (by omega)
theorem fs_1_9_1 : fsl 1 9 1 = some 1 := by decide +kernel
theorem g_1_9_1 (h : k < 6) : gfl 1 9 (emC f x c y v tm (x + (130 + 2 * k))) = some (.ref (x + (131 + 2 * k))) := by rw [emC_ke h]; simp only [gfl, fs_1_9_1]; rfl
theorem fs_1_21_1 : fsl 1 21 1 = some 0 := by decide +kernel
theorem g_1_21_1 (h : k < 6) : gfl 1 21 (emC f x c y v tm (x + (130 + 2 * k))) = some (v (130 + 2 * k) 0) := by rw [emC_ke h]; simp only [gfl, fs_1_21_1]; rfl
theorem p_1_21_1 (h : k < 6) : pfl false 1 21 (emC f x c y v tm (x + (130 + 2 * k))) (.ref r) = some (.inr (1, [(.ref r), .ref (x + (131 + 2 * k))])) := by
  rw [emC_ke h]
  unfold pfl
  dsimp only
  rw [fs_1_21_1]
  exact if_pos ⟨Nat.le_of_ble_eq_true rfl, okv_r _ _, Or.inl rfl⟩
theorem p_1_21_1n (h : k < 6) : pfl false 1 21 (emC f x c y v tm (x + (130 + 2 * k))) .null = some (.inr (1, [.null, .ref (x + (131 + 2 * k))])) := by
  rw [emC_ke h]
  unfold pfl
  dsimp only
  rw [fs_1_21_1]
  exact if_pos ⟨Nat.le_of_ble_eq_true rfl, okv_n _, Or.inl rfl⟩
theorem fs_11_247_1 : fsl 11 247 1 = some 0 := by decide +kernel
theorem g_11_247_1 (h : k < 6) : gfl 11 247 (emC f x c y v tm (x + (130 + 2 * k))) = some (v (130 + 2 * k) 0) := by rw [emC_ke h]; simp only [gfl, fs_11_247_1]; rfl
theorem p_11_247_1 (h : k < 6) : pfl false 11 247 (emC f x c y v tm (x + (130 + 2 * k))) (.ref r) = some (.inr (1, [(.ref r), .ref (x + (131 + 2 * k))])) := by
  rw [emC_ke h]
  unfold pfl
  dsimp only
  rw [fs_11_247_1]
  exact if_pos ⟨Nat.le_of_ble_eq_true rfl, okv_r _ _, Or.inl rfl⟩
theorem p_11_247_1n (h : k < 6) : pfl false 11 247 (emC f x c y v tm (x + (130 + 2 * k))) .null = some (.inr (1, [.null, .ref (x + (131 + 2 * k))])) := by
  rw [emC_ke h]
  unfold pfl
  dsimp only
  rw [fs_11_247_1]
  exact if_pos ⟨Nat.le_of_ble_eq_true rfl, okv_n _, Or.inl rfl⟩
theorem fs_1_15_4 : fsl 1 15 4 = some 0 := by decide +kernel
theorem g_1_15_4 : gfl 1 15 (emC f x c y v tm (x + 151)) = some (v 151 0) := by rw [emC_ro]; simp only [gfl, fs_1_15_4]; rfl
theorem p_1_15_4 : pfl false 1 15 (emC f x c y v tm (x + 151)) (.ref r) = some (.inr (4, [(.ref r), .int (c 151 1), .ref (x + 152), .ref (x + 153)])) := by
  rw [emC_ro]
  unfold pfl
  dsimp only
  rw [fs_1_15_4]
  exact if_pos ⟨Nat.le_of_ble_eq_true rfl, okv_r _ _, Or.inl rfl⟩
theorem p_1_15_4n : pfl false 1 15 (emC f x c y v tm (x + 151)) .null = some (.inr (4, [.null, .int (c 151 1), .ref (x + 152), .ref (x + 153)])) := by
  rw [emC_ro]
  unfold pfl
  dsimp only
  rw [fs_1_15_4]
  exact if_pos ⟨Nat.le_of_ble_eq_true rfl, okv_n _, Or.inl rfl⟩
theorem fs_1_22_4 : fsl 1 22 4 = some 2 := by decide +kernel
theorem g_1_22_4 : gfl 1 22 (emC f x c y v tm (x + 151)) = some (.ref (x + 152)) := by rw [emC_ro]; simp only [gfl, fs_1_22_4]; rfl
theorem fs_5_9_4 : fsl 5 9 4 = some 2 := by decide +kernel
theorem g_5_9_4 : gfl 5 9 (emC f x c y v tm (x + 151)) = some (.ref (x + 152)) := by rw [emC_ro]; simp only [gfl, fs_5_9_4]; rfl
theorem fs_5_15_4 : fsl 5 15 4 = some 3 := by decide +kernel
theorem g_5_15_4 : gfl 5 15 (emC f x c y v tm (x + 151)) = some (.ref (x + 153)) := by rw [emC_ro]; simp only [gfl, fs_5_15_4]; rfl
theorem fs_5_26_4 : fsl 5 26 4 = some 0 := by decide +kernel
theorem g_5_26_4 : gfl 5 26 (emC f x c y v tm (x + 151)) = some (v 151 0) := by rw [emC_ro]; simp only [gfl, fs_5_26_4]; rfl
theorem p_5_26_4 : pfl false 5 26 (emC f x c y v tm (x + 151)) (.ref r) = some (.inr (4, [(.ref r), .int (c 151 1), .ref (x + 152), .ref (x + 153)])) := by
  rw [emC_ro]
  unfold pfl
  dsimp only
  rw [fs_5_26_4]
  exact if_pos ⟨Nat.le_of_ble_eq_true rfl, okv_r _ _, Or.inl rfl⟩
theorem p_5_26_4n : pfl false 5 26 (emC f x c y v tm (x + 151)) .null = some (.inr (4, [.null, .int (c 151 1), .ref (x + 152), .ref (x + 153)])) := by
  rw [emC_ro]
  unfold pfl
  dsimp only
  rw [fs_5_26_4]
  exact if_pos ⟨Nat.le_of_ble_eq_true rfl, okv_n _, Or.inl rfl⟩
theorem fs_5_30_4 : fsl 5 30 4 = some 1 := by decide +kernel
theorem g_5_30_4 : gfl 5 30 (emC f x c y v tm (x + 151)) = some (.int (c 151 1)) := by rw [emC_ro]; simp only [gfl, fs_5_30_4]; rfl
theorem p_5_30_4 : pfl false 5 30 (emC f x c y v tm (x + 151)) (.int z) = some (.inr (4, [v 151 0, (.int z), .ref (x + 152), .ref (x + 153)])) := by
  rw [emC_ro]
  unfold pfl
  dsimp only
  rw [fs_5_30_4]
  exact if_pos ⟨Nat.le_of_ble_eq_true rfl, okv_i _, Or.inl rfl⟩
theorem fs_6_7_5 : fsl 6 7 5 = some 0 := by decide +kernel
theorem g_6_7_5 (h : k < 8) : gfl 6 7 (emC f x c y v tm (x + (143 + k))) = some (v (143 + k) 0) := by rw [emC_sf h]; simp only [gfl, fs_6_7_5]; rfl
theorem p_6_7_5 (h : k < 8) : pfl false 6 7 (emC f x c y v tm (x + (143 + k))) (.ref r) = some (.inr (5, [(.ref r), v (143 + k) 1, v (143 + k) 2])) := by
  rw [emC_sf h]
  unfold pfl
  dsimp only
  rw [fs_6_7_5]
  exact if_pos ⟨Nat.le_of_ble_eq_true rfl, okv_r _ _, Or.inl rfl⟩
theorem p_6_7_5n (h : k < 8) : pfl false 6 7 (emC f x c y v tm (x + (143 + k))) .null = some (.inr (5, [.null, v (143 + k) 1, v (143 + k) 2])) := by
  rw [emC_sf h]
  unfold pfl
  dsimp only
  rw [fs_6_7_5]
  exact if_pos ⟨Nat.le_of_ble_eq_true rfl, okv_n _, Or.inl rfl⟩
theorem fs_6_13_5 : fsl 6 13 5 = some 1 := by decide +kernel
theorem g_6_13_5 (h : k < 8) : gfl 6 13 (emC f x c y v tm (x + (143 + k))) = some (v (143 + k) 1) := by rw [emC_sf h]; simp only [gfl, fs_6_13_5]; rfl
theorem p_6_13_5 (h : k < 8) : pfl false 6 13 (emC f x c y v tm (x + (143 + k))) (.ref r) = some (.inr (5, [v (143 + k) 0, (.ref r), v (143 + k) 2])) := by
  rw [emC_sf h]
  unfold pfl
  dsimp only
  rw [fs_6_13_5]
  exact if_pos ⟨Nat.le_of_ble_eq_true rfl, okv_ra _ _, Or.inl rfl⟩
theorem p_6_13_5n (h : k < 8) : pfl false 6 13 (emC f x c y v tm (x + (143 + k))) .null = some (.inr (5, [v (143 + k) 0, .null, v (143 + k) 2])) := by
  rw [emC_sf h]
  unfold pfl
  dsimp only
  rw [fs_6_13_5]
  exact if_pos ⟨Nat.le_of_ble_eq_true rfl, okv_na _, Or.inl rfl⟩
theorem fs_6_17_5 : fsl 6 17 5 = some 2 := by decide +kernel
theorem g_6_17_5 (h : k < 8) : gfl 6 17 (emC f x c y v tm (x + (143 + k))) = some (v (143 + k) 2) := by rw [emC_sf h]; simp only [gfl, fs_6_17_5]; rfl
theorem p_6_17_5 (h : k < 8) : pfl false 6 17 (emC f x c y v tm (x + (143 + k))) (.ref r) = some (.inr (5, [v (143 + k) 0, v (143 + k) 1, (.ref r)])) := by
  rw [emC_sf h]
  unfold pfl
  dsimp only
  rw [fs_6_17_5]
  exact if_pos ⟨Nat.le_of_ble_eq_true rfl, okv_ra _ _, Or.inl rfl⟩
theorem p_6_17_5n (h : k < 8) : pfl false 6 17 (emC f x c y v tm (x + (143 + k))) .null = some (.inr (5, [v (143 + k) 0, v (143 + k) 1, .null])) := by
  rw [emC_sf h]
  unfold pfl
  dsimp only
  rw [fs_6_17_5]
  exact if_pos ⟨Nat.le_of_ble_eq_true rfl, okv_na _, Or.inl rfl⟩
theorem fs_11_314_5 : fsl 11 314 5 = some 0 := by decide +kernel
theorem g_11_314_5 (h : k < 8) : gfl 11 314 (emC f x c y v tm (x + (143 + k))) = some (v (143 + k) 0) := by rw [emC_sf h]; simp only [gfl, fs_11_314_5]; rfl
theorem p_11_314_5 (h : k < 8) : pfl false 11 314 (emC f x c y v tm (x + (143 + k))) (.ref r) = some (.inr (5, [(.ref r), v (143 + k) 1, v (143 + k) 2])) := by
  rw [emC_sf h]
  unfold pfl
  dsimp only
  rw [fs_11_314_5]
  exact if_pos ⟨Nat.le_of_ble_eq_true rfl, okv_r _ _, Or.inl rfl⟩
theorem p_11_314_5n (h : k < 8) : pfl false 11 314 (emC f x c y v tm (x + (143 + k))) .null = some (.inr (5, [.null, v (143 + k) 1, v (143 + k) 2])) := by
  rw [emC_sf h]
  unfold pfl
  dsimp only
  rw [fs_11_314_5]
  exact if_pos ⟨Nat.le_of_ble_eq_true rfl, okv_n _, Or.inl rfl⟩
end KRS
