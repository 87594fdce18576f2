/-! the class: what terms of variables and parts answer -/
def TDt (w : WD) (tm : Nat → Nat → Nat) (td : Nat → Nat → Int32) (t : Nat) : Prop :=
  td t 0 = w 14 t ∧ td t 1 = w 15 t ∧ td t 2 = w 16 t ∧ (tm t 0 < 6 → td t 3 = if tm t 0 < 3 then w 12 t else w 11 t) ∧ (tm t 0 = 14 → tb (w 14 t) (tm t 1) = false) ∧ FRt (w 14) tm t
/-- all that a question needs -/
def ASK (c w : WD) (fs sn : Nat → Option Nat) (n tn : Nat) (tm : Nat → Nat → Nat) (td : Nat → Nat → Int32) (A : Nat → Nat) (B : Nat → Option Nat) (x ch : Nat) : Prop :=
  CS c w fs sn n ∧ (∀ s, s < n → NTs c s) ∧ (∀ t, t < tn → TMt w tm t) ∧ TBk B A x tn ∧ (∀ t, t < tn → TDt w tm td t) ∧ c 1 2 = nI ch ∧ ch < 1000 ∧ tn ≤ 60
/-- the reach table as the class has it -/
theorem rch_lk {c w : WD} {fs sn : Nat → Option Nat} {n s g p : Nat} (C : CS c w fs sn n) (hs : s < n) (hg : g < 3) (hp : p < 16) : rch (w 8) (3 * n) (lk s g p) = clo (fun q => c (11 + 4 * s) (g * 16 + q)) p := by
  have hn := C.2.1
  unfold rch lk
  rw [if_pos (by omega), show ((3 * s + g) * 16 + p) / 16 = 3 * s + g by omega, show ((3 * s + g) * 16 + p) % 16 = p by omega]
  refine clo_cg (fun q hq => ?_) p hp
  rw [CS.le C (by omega) hg hq]
  unfold blk lk
  rw [Nat.mul_comm]
section KL
variable {F : Hf} {x d sz us n tn t ch : Nat} {c w : WD} {y : Nat → Int64} {v : VD} {tA : Nat → Option Nat} {fs sn : Nat → Option Nat} {B : Nat → Option Nat} {A : Nat → Nat} {tm : Nat → Nat → Nat} {td : Nat → Nat → Int32} {K : KT}
theorem K_partFor {hf : Hf} {u a b g : Nat} (hu : Tg u) (ha : a < 16) (hb : b < 16) (hg : g < 16) : Ev d 5 0 [some (.int (nI u)), some (.int (nI (pn a b g)))] [] (sz, us, hf) = some (some (.int (nI (pfU u a b g))), (sz, us, hf)) := by
  unfold pfU
  rcases hu with hu | hu
  · have hc : u = 0 ∨ u = 1 ∨ u = 2 := by omega
    rcases hc with h | h | h
    · have e := pn_0 a ha b hb g hg
      subst h
      simp (maxSteps := 2000000) (disch := first | omega | with_reducible assumption | exact cobP | exact cobX | exact cobS (by omega) | exact cobK (by omega) | exact cobF (by omega) | exact cobW | exact isTC_T (by assumption) (by assumption) | exact bI_01 _ | exact Or.inl rfl | exact Or.inr rfl | (simp (decide := true) only [wid_0, wid_i, wid_l, wid_r, wid_n]; done) | decide | fail) only [s5_0, s5_1, s5_3, s5_6, s5_7, s5_8, s5_9, s5_10, s5_11, s5_13, s5_14, s5_17, s5_18, s5_20, s5_21 (st := []), Option.bind_some, Option.bind_none, Option.toList_some, Option.toList_none, List.cons_append, List.nil_append, clr_i, clr_r, clr_l, clr_n, nI_add, nsub, pk_mul, nle_F, nle_T, nlt_F, nlt_T, neq_F, nz_F, nz_T, nneg_F, npos_T, npos_lF, npos_lT, nle0_F, m1_neg, m1_pos, m1_z, neq_m1, m1_neq, ↓reduceIte, if_true, if_false, not_true_eq_false, not_false_eq_true, bI_eq0, Bool.true_eq_false, Bool.false_eq_true, true_and, and_true, false_and, and_false, true_or, or_true, false_or, or_false, decide_true, decide_false, Bool.and_self, Bool.true_and, Bool.and_true, Bool.false_and, Bool.and_false, Bool.true_or, Bool.or_true, Bool.false_or, Bool.or_false, Bool.not_true, Bool.not_false, e]
      simp
    · have e := pn_1 a ha b hb g hg
      subst h
      simp (maxSteps := 2000000) (disch := first | omega | with_reducible assumption | exact cobP | exact cobX | exact cobS (by omega) | exact cobK (by omega) | exact cobF (by omega) | exact cobW | exact isTC_T (by assumption) (by assumption) | exact bI_01 _ | exact Or.inl rfl | exact Or.inr rfl | (simp (decide := true) only [wid_0, wid_i, wid_l, wid_r, wid_n]; done) | decide | fail) only [s5_0, s5_1, s5_3, s5_6, s5_7, s5_8, s5_9, s5_10, s5_11, s5_13, s5_14, s5_17, s5_18, s5_20, s5_21 (st := []), Option.bind_some, Option.bind_none, Option.toList_some, Option.toList_none, List.cons_append, List.nil_append, clr_i, clr_r, clr_l, clr_n, nI_add, nsub, pk_mul, nle_F, nle_T, nlt_F, nlt_T, neq_F, nz_F, nz_T, nneg_F, npos_T, npos_lF, npos_lT, nle0_F, m1_neg, m1_pos, m1_z, neq_m1, m1_neq, ↓reduceIte, if_true, if_false, not_true_eq_false, not_false_eq_true, bI_eq0, Bool.true_eq_false, Bool.false_eq_true, true_and, and_true, false_and, and_false, true_or, or_true, false_or, or_false, decide_true, decide_false, Bool.and_self, Bool.true_and, Bool.and_true, Bool.false_and, Bool.and_false, Bool.true_or, Bool.or_true, Bool.false_or, Bool.or_false, Bool.not_true, Bool.not_false, e]
      simp
    · have e := pn_2 a ha b hb g hg
      subst h
      simp (maxSteps := 2000000) (disch := first | omega | with_reducible assumption | exact cobP | exact cobX | exact cobS (by omega) | exact cobK (by omega) | exact cobF (by omega) | exact cobW | exact isTC_T (by assumption) (by assumption) | exact bI_01 _ | exact Or.inl rfl | exact Or.inr rfl | (simp (decide := true) only [wid_0, wid_i, wid_l, wid_r, wid_n]; done) | decide | fail) only [s5_0, s5_1, s5_3, s5_6, s5_7, s5_8, s5_9, s5_10, s5_11, s5_13, s5_14, s5_17, s5_18, s5_20, s5_21 (st := []), Option.bind_some, Option.bind_none, Option.toList_some, Option.toList_none, List.cons_append, List.nil_append, clr_i, clr_r, clr_l, clr_n, nI_add, nsub, pk_mul, nle_F, nle_T, nlt_F, nlt_T, neq_F, nz_F, nz_T, nneg_F, npos_T, npos_lF, npos_lT, nle0_F, m1_neg, m1_pos, m1_z, neq_m1, m1_neq, ↓reduceIte, if_true, if_false, not_true_eq_false, not_false_eq_true, bI_eq0, Bool.true_eq_false, Bool.false_eq_true, true_and, and_true, false_and, and_false, true_or, or_true, false_or, or_false, decide_true, decide_false, Bool.and_self, Bool.true_and, Bool.and_true, Bool.false_and, Bool.and_false, Bool.true_or, Bool.or_true, Bool.false_or, Bool.or_false, Bool.not_true, Bool.not_false, e]
      simp
  · rw [if_pos (by omega)]
    simp (maxSteps := 2000000) (disch := first | omega | with_reducible assumption | exact cobP | exact cobX | exact cobS (by omega) | exact cobK (by omega) | exact cobF (by omega) | exact cobW | exact isTC_T (by assumption) (by assumption) | exact bI_01 _ | exact Or.inl rfl | exact Or.inr rfl | (simp (decide := true) only [wid_0, wid_i, wid_l, wid_r, wid_n]; done) | decide | fail) only [s5_0, s5_1, s5_3, s5_6, s5_7, s5_8, s5_9, s5_10, s5_11, s5_13, s5_14, s5_17, s5_18, s5_20, s5_21 (st := []), Option.bind_some, Option.bind_none, Option.toList_some, Option.toList_none, List.cons_append, List.nil_append, clr_i, clr_r, clr_l, clr_n, nI_add, nsub, pk_mul, nle_F, nle_T, nlt_F, nlt_T, neq_F, nz_F, nz_T, nneg_F, npos_T, npos_lF, npos_lT, nle0_F, m1_neg, m1_pos, m1_z, neq_m1, m1_neq, ↓reduceIte, if_true, if_false, not_true_eq_false, not_false_eq_true, bI_eq0, Bool.true_eq_false, Bool.false_eq_true, true_and, and_true, false_and, and_false, true_or, or_true, false_or, or_false, decide_true, decide_false, Bool.and_self, Bool.true_and, Bool.and_true, Bool.false_and, Bool.and_false, Bool.true_or, Bool.or_true, Bool.false_or, Bool.or_false, Bool.not_true, Bool.not_false]
theorem l0_eq : (.long (Int64.ofNat 0) : Value) = .long 0 := rfl
theorem K_fs0 {a b g : Nat} (Q : ASK c w fs sn n tn tm td A B x ch) (ht : t < tn) (hk : tm t 0 < 6) (ha : a < 16) (hb : b < 16) (hg : g < 16) : Ev (d + 3) 12 0 [some (.ref (A t)), some (.ref (x + 1)), some (.int (nI (pn a b g))), none, none] [] (sz, us, emC (emT F B tm td A K) x c y v tA) = some (some (.long (bsp (sem (rW w n) fs sn n tm t a b g).1 (sem (rW w n) fs sn n tm t a b g).2)), (sz, us, emC (emT F B tm td A K) x c y v tA)) := by
  obtain ⟨C, hN, hT, ⟨hTB, hTi⟩, hD, hch, hch2, htn⟩ := Q
  obtain ⟨hB, hx⟩ := hTB t ht
  have T := hT t ht
  obtain ⟨-, -, -, hnu, -⟩ := hD t ht
  have hnu := hnu hk
  have hn := C.1
  have hn30 := C.2.1
  have hc0 : tkc (tm t 0) = 0 := by unfold tkc; rw [if_pos hk]
  rw [sem_eq T, semO_lo hk]
  by_cases k3 : tm t 0 < 3
  · obtain ⟨-, hu⟩ := T.2.2.1 k3
    have eu : tuu tm t = tm t 1 := if_pos k3
    have ew : tww tm t = tm t 1 := if_pos k3
    have hp := pfU_lt hu ha hb hg
    have hP := fun (hf : Hf) (d : Nat) => K_partFor (hf := hf) (d := d) (sz := sz) (us := us) hu ha hb hg
    rw [if_pos k3] at hnu
    have hl : ∀ s, hlT (rW w n) tm t s a b g = hl1 (rW w n) (tm t 0) s (pfU (tm t 1) a b g) (rW w n 12 t) := fun s => if_pos k3
    generalize pfU (tm t 1) a b g = p at *
    have hkk : tm t 0 = 0 ∨ tm t 0 = 1 ∨ tm t 0 = 2 := by omega
    rcases hkk with h | h | h
    · rw [← spf_sm (b := c 3 p) C hN (fun s => rW_k s (by omega)) (by omega) (fun s hs => by
        rw [hl s, (hN s hs).2.1 p hp, CS.p C (by omega)]
        unfold hl1
        rw [rW_k _ (by omega), h]
        simp)]
      have hS := fun (d : Nat) (b : Int32) => K_spansOfFact (f := emT F B tm td A K) (x := x) (d := d) (sz := sz) (us := us) (y := y) (v := v) (tm := tA) hn b
      simp (maxSteps := 2000000) (disch := first | omega | with_reducible assumption | exact cobP | exact cobX | exact cobS (by omega) | exact cobK (by omega) | exact cobF (by omega) | exact cobW | exact isTC_T (by assumption) (by assumption) | exact bI_01 _ | exact Or.inl rfl | exact Or.inr rfl | (simp (decide := true) only [wid_0, wid_i, wid_l, wid_r, wid_n]; done) | decide | fail) only [s12_0, s12_1, s12_4, s12_5, s12_8, s12_9, s12_10, s12_13, s12_14, s12_17, s12_19, s12_20, s12_23d, s12_23k0, s12_23k1, s12_23k2, s12_23k3, s12_23k4, s12_56, s12_57, s12_58, s12_61, s12_62, s12_63, s12_66 (st := []), s12_67, s12_68, s12_69, s12_70, s12_71, s12_74, s12_77, s12_80 (st := []), s12_81, s12_82, s12_83, s12_84, s12_85, s12_88, s12_91, s12_94 (st := []), s12_95, s12_96, s12_97, s12_100, s12_101, s12_104, s12_107, s12_108, s12_109, s12_111, s12_112, s12_113, s12_115, s12_116, s12_117, s12_120 (st := []), s12_121, s12_122, s12_123, s12_126, s12_127, s12_130, s12_133, s12_134, s12_135, s12_137, s12_138, s12_139, s12_141, s12_142, s12_143, s12_146 (st := []), s12_147, s12_148, s12_150, s12_153, s12_154, s12_157, s12_158, s12_161, s12_164, s12_167, s12_168 (st := []), Option.bind_some, Option.bind_none, Option.toList_some, Option.toList_none, List.cons_append, List.nil_append, clr_i, clr_r, clr_l, clr_n, nI_add, nsub, pk_mul, nle_F, nle_T, nlt_F, nlt_T, neq_F, nz_F, nz_T, nneg_F, npos_T, npos_lF, npos_lT, nle0_F, m1_neg, m1_pos, m1_z, neq_m1, m1_neq, ↓reduceIte, if_true, if_false, not_true_eq_false, not_false_eq_true, bI_eq0, Bool.true_eq_false, Bool.false_eq_true, true_and, and_true, false_and, and_false, true_or, or_true, false_or, or_false, decide_true, decide_false, Bool.and_self, Bool.true_and, Bool.and_true, Bool.false_and, Bool.and_false, Bool.true_or, Bool.or_true, Bool.false_or, Bool.or_false, Bool.not_true, Bool.not_false, g_0_19_T, g_0_22_T, g_0_29_T, g_0_32_2, g_0_15_T, g_0_48_2, g_0_51_2, eu, ew, hP, h, aC_3, hS]
    · rw [← spf_sm (b := kSor c p (td t 3) n) C hN (fun s => rW_k s (by omega)) (by omega) (fun s hs => by
        rw [hl s, tb_kSor hn30 hs, CS.p C (by omega), CS.so C (by omega) hp, hnu]
        unfold hl1
        rw [rW_k _ (by omega), rW_k _ (by omega), rW_k _ (by omega), h]
        simp)]
      have hS := fun (d : Nat) (b : Int32) => K_spansOfFact (f := emT F B tm td A K) (x := x) (d := d) (sz := sz) (us := us) (y := y) (v := v) (tm := tA) hn b
      have hW := fun (d : Nat) (q : Int32) => K_withSort (f := emT F B tm td A K) (x := x) (d := d) (sz := sz) (us := us) (y := y) (v := v) (tm := tA) (q := q) hp hn hn30
      simp (maxSteps := 2000000) (disch := first | omega | with_reducible assumption | exact cobP | exact cobX | exact cobS (by omega) | exact cobK (by omega) | exact cobF (by omega) | exact cobW | exact isTC_T (by assumption) (by assumption) | exact bI_01 _ | exact Or.inl rfl | exact Or.inr rfl | (simp (decide := true) only [wid_0, wid_i, wid_l, wid_r, wid_n]; done) | decide | fail) only [s12_0, s12_1, s12_4, s12_5, s12_8, s12_9, s12_10, s12_13, s12_14, s12_17, s12_19, s12_20, s12_23d, s12_23k0, s12_23k1, s12_23k2, s12_23k3, s12_23k4, s12_56, s12_57, s12_58, s12_61, s12_62, s12_63, s12_66 (st := []), s12_67, s12_68, s12_69, s12_70, s12_71, s12_74, s12_77, s12_80 (st := []), s12_81, s12_82, s12_83, s12_84, s12_85, s12_88, s12_91, s12_94 (st := []), s12_95, s12_96, s12_97, s12_100, s12_101, s12_104, s12_107, s12_108, s12_109, s12_111, s12_112, s12_113, s12_115, s12_116, s12_117, s12_120 (st := []), s12_121, s12_122, s12_123, s12_126, s12_127, s12_130, s12_133, s12_134, s12_135, s12_137, s12_138, s12_139, s12_141, s12_142, s12_143, s12_146 (st := []), s12_147, s12_148, s12_150, s12_153, s12_154, s12_157, s12_158, s12_161, s12_164, s12_167, s12_168 (st := []), Option.bind_some, Option.bind_none, Option.toList_some, Option.toList_none, List.cons_append, List.nil_append, clr_i, clr_r, clr_l, clr_n, nI_add, nsub, pk_mul, nle_F, nle_T, nlt_F, nlt_T, neq_F, nz_F, nz_T, nneg_F, npos_T, npos_lF, npos_lT, nle0_F, m1_neg, m1_pos, m1_z, neq_m1, m1_neq, ↓reduceIte, if_true, if_false, not_true_eq_false, not_false_eq_true, bI_eq0, Bool.true_eq_false, Bool.false_eq_true, true_and, and_true, false_and, and_false, true_or, or_true, false_or, or_false, decide_true, decide_false, Bool.and_self, Bool.true_and, Bool.and_true, Bool.false_and, Bool.and_false, Bool.true_or, Bool.or_true, Bool.false_or, Bool.or_false, Bool.not_true, Bool.not_false, g_0_19_T, g_0_22_T, g_0_29_T, g_0_32_2, g_0_15_T, g_0_48_2, g_0_51_2, eu, ew, hP, h, hS, hW]
    · rw [← spf_sm (b := kSha c p (td t 3) n) C hN (fun s => rW_k s (by omega)) (by omega) (fun s hs => by
        rw [hl s, tb_kSha hn30 hs, CS.p C (by omega), CS.sh C (by omega) hp, hnu]
        unfold hl1
        rw [rW_k _ (by omega), rW_k _ (by omega), rW_k _ (by omega), rW_k _ (by omega), h]
        simp)]
      have hS := fun (d : Nat) (b : Int32) => K_spansOfFact (f := emT F B tm td A K) (x := x) (d := d) (sz := sz) (us := us) (y := y) (v := v) (tm := tA) hn b
      have hW := fun (d : Nat) (q : Int32) => K_withShape (f := emT F B tm td A K) (x := x) (d := d) (sz := sz) (us := us) (y := y) (v := v) (tm := tA) (q := q) hp hn hn30
      simp (maxSteps := 2000000) (disch := first | omega | with_reducible assumption | exact cobP | exact cobX | exact cobS (by omega) | exact cobK (by omega) | exact cobF (by omega) | exact cobW | exact isTC_T (by assumption) (by assumption) | exact bI_01 _ | exact Or.inl rfl | exact Or.inr rfl | (simp (decide := true) only [wid_0, wid_i, wid_l, wid_r, wid_n]; done) | decide | fail) only [s12_0, s12_1, s12_4, s12_5, s12_8, s12_9, s12_10, s12_13, s12_14, s12_17, s12_19, s12_20, s12_23d, s12_23k0, s12_23k1, s12_23k2, s12_23k3, s12_23k4, s12_56, s12_57, s12_58, s12_61, s12_62, s12_63, s12_66 (st := []), s12_67, s12_68, s12_69, s12_70, s12_71, s12_74, s12_77, s12_80 (st := []), s12_81, s12_82, s12_83, s12_84, s12_85, s12_88, s12_91, s12_94 (st := []), s12_95, s12_96, s12_97, s12_100, s12_101, s12_104, s12_107, s12_108, s12_109, s12_111, s12_112, s12_113, s12_115, s12_116, s12_117, s12_120 (st := []), s12_121, s12_122, s12_123, s12_126, s12_127, s12_130, s12_133, s12_134, s12_135, s12_137, s12_138, s12_139, s12_141, s12_142, s12_143, s12_146 (st := []), s12_147, s12_148, s12_150, s12_153, s12_154, s12_157, s12_158, s12_161, s12_164, s12_167, s12_168 (st := []), Option.bind_some, Option.bind_none, Option.toList_some, Option.toList_none, List.cons_append, List.nil_append, clr_i, clr_r, clr_l, clr_n, nI_add, nsub, pk_mul, nle_F, nle_T, nlt_F, nlt_T, neq_F, nz_F, nz_T, nneg_F, npos_T, npos_lF, npos_lT, nle0_F, m1_neg, m1_pos, m1_z, neq_m1, m1_neq, ↓reduceIte, if_true, if_false, not_true_eq_false, not_false_eq_true, bI_eq0, Bool.true_eq_false, Bool.false_eq_true, true_and, and_true, false_and, and_false, true_or, or_true, false_or, or_false, decide_true, decide_false, Bool.and_self, Bool.true_and, Bool.and_true, Bool.false_and, Bool.and_false, Bool.true_or, Bool.or_true, Bool.false_or, Bool.or_false, Bool.not_true, Bool.not_false, g_0_19_T, g_0_22_T, g_0_29_T, g_0_32_2, g_0_15_T, g_0_48_2, g_0_51_2, eu, ew, hP, h, hS, hW]
  · obtain ⟨-, hu, -, hv, h5⟩ := T.2.2.2.1 (by omega) hk
    have eu : tuu tm t = tm t 2 := if_neg k3
    have ew : tww tm t = tm t 3 := if_neg k3
    have hp := pfU_lt hu ha hb hg
    have hq := pfU_lt hv ha hb hg
    have hP := fun (hf : Hf) (d : Nat) => K_partFor (hf := hf) (d := d) (sz := sz) (us := us) hu ha hb hg
    have hP2 := fun (hf : Hf) (d : Nat) => K_partFor (hf := hf) (d := d) (sz := sz) (us := us) hv ha hb hg
    rw [if_neg k3] at hnu
    have hl : ∀ s, hlT (rW w n) tm t s a b g = hl2 (rW w n) (tm t 0) (tm t 1) s (pfU (tm t 2) a b g) (pfU (tm t 3) a b g) := fun s => if_neg k3
    generalize pfU (tm t 2) a b g = p at *
    generalize pfU (tm t 3) a b g = q at *
    have hkk : tm t 0 = 3 ∨ tm t 0 = 4 ∨ tm t 0 = 5 := by omega
    have hS := fun (d : Nat) (b : Int32) => K_spansOfFact (f := emT F B tm td A K) (x := x) (d := d) (sz := sz) (us := us) (y := y) (v := v) (tm := tA) hn b
    rcases hkk with h | h | h
    · obtain ⟨h6, h7⟩ := h5 (by omega)
      rw [h6] at hnu
      generalize tm t 1 = k at *
      have hj : k * 256 + p * 16 + q < 768 := by omega
      rw [← spf_sm (b := c 4 (k * 256 + p * 16 + q)) C hN (fun s => rW_k s (by omega)) (by omega) (fun s hs => by
        rw [hl s, (hN s hs).2.2.1 _ hj, show (k * 256 + p * 16 + q) / 256 * 16 + (k * 256 + p * 16 + q) % 256 / 16 = k * 16 + p by omega, show (k * 256 + p * 16 + q) % 16 = q by omega, CS.le C (by omega) h7 hp, h]
        unfold hl2
        rw [if_neg (by omega), if_neg (by omega), rW_k _ (by omega)])]
      simp (maxSteps := 2000000) (disch := first | omega | with_reducible assumption | exact cobP | exact cobX | exact cobS (by omega) | exact cobK (by omega) | exact cobF (by omega) | exact cobW | exact isTC_T (by assumption) (by assumption) | exact bI_01 _ | exact Or.inl rfl | exact Or.inr rfl | (simp (decide := true) only [wid_0, wid_i, wid_l, wid_r, wid_n]; done) | decide | fail) only [s12_0, s12_1, s12_4, s12_5, s12_8, s12_9, s12_10, s12_13, s12_14, s12_17, s12_19, s12_20, s12_23d, s12_23k0, s12_23k1, s12_23k2, s12_23k3, s12_23k4, s12_56, s12_57, s12_58, s12_61, s12_62, s12_63, s12_66 (st := []), s12_67, s12_68, s12_69, s12_70, s12_71, s12_74, s12_77, s12_80 (st := []), s12_81, s12_82, s12_83, s12_84, s12_85, s12_88, s12_91, s12_94 (st := []), s12_95, s12_96, s12_97, s12_100, s12_101, s12_104, s12_107, s12_108, s12_109, s12_111, s12_112, s12_113, s12_115, s12_116, s12_117, s12_120 (st := []), s12_121, s12_122, s12_123, s12_126, s12_127, s12_130, s12_133, s12_134, s12_135, s12_137, s12_138, s12_139, s12_141, s12_142, s12_143, s12_146 (st := []), s12_147, s12_148, s12_150, s12_153, s12_154, s12_157, s12_158, s12_161, s12_164, s12_167, s12_168 (st := []), Option.bind_some, Option.bind_none, Option.toList_some, Option.toList_none, List.cons_append, List.nil_append, clr_i, clr_r, clr_l, clr_n, nI_add, nsub, pk_mul, nle_F, nle_T, nlt_F, nlt_T, neq_F, nz_F, nz_T, nneg_F, npos_T, npos_lF, npos_lT, nle0_F, m1_neg, m1_pos, m1_z, neq_m1, m1_neq, ↓reduceIte, if_true, if_false, not_true_eq_false, not_false_eq_true, bI_eq0, Bool.true_eq_false, Bool.false_eq_true, true_and, and_true, false_and, and_false, true_or, or_true, false_or, or_false, decide_true, decide_false, Bool.and_self, Bool.true_and, Bool.and_true, Bool.false_and, Bool.and_false, Bool.true_or, Bool.or_true, Bool.false_or, Bool.or_false, Bool.not_true, Bool.not_false, g_0_19_T, g_0_22_T, g_0_29_T, g_0_32_2, g_0_15_T, g_0_48_2, g_0_51_2, eu, ew, hP, hP2, h, hnu, aC_4, hS]
    · obtain ⟨h6, h7⟩ := h5 (by omega)
      rw [h6] at hnu
      generalize tm t 1 = k at *
      have hj : k * 256 + p * 16 + q < 768 := by omega
      rw [← spf_sm (b := c 5 (k * 256 + p * 16 + q)) C hN (fun s => rW_k s (by omega)) (by omega) (fun s hs => by
        rw [hl s, (hN s hs).2.2.2 _ hj, show (k * 256 + p * 16 + q) / 256 = k by omega, show (k * 256 + p * 16 + q) % 256 / 16 = p by omega, show (k * 256 + p * 16 + q) % 16 = q by omega, h]
        unfold hl2
        rw [if_neg (by omega), if_pos rfl]
        unfold rW
        rw [wT_at, rch_lk C hs h7 hp])]
      simp (maxSteps := 2000000) (disch := first | omega | with_reducible assumption | exact cobP | exact cobX | exact cobS (by omega) | exact cobK (by omega) | exact cobF (by omega) | exact cobW | exact isTC_T (by assumption) (by assumption) | exact bI_01 _ | exact Or.inl rfl | exact Or.inr rfl | (simp (decide := true) only [wid_0, wid_i, wid_l, wid_r, wid_n]; done) | decide | fail) only [s12_0, s12_1, s12_4, s12_5, s12_8, s12_9, s12_10, s12_13, s12_14, s12_17, s12_19, s12_20, s12_23d, s12_23k0, s12_23k1, s12_23k2, s12_23k3, s12_23k4, s12_56, s12_57, s12_58, s12_61, s12_62, s12_63, s12_66 (st := []), s12_67, s12_68, s12_69, s12_70, s12_71, s12_74, s12_77, s12_80 (st := []), s12_81, s12_82, s12_83, s12_84, s12_85, s12_88, s12_91, s12_94 (st := []), s12_95, s12_96, s12_97, s12_100, s12_101, s12_104, s12_107, s12_108, s12_109, s12_111, s12_112, s12_113, s12_115, s12_116, s12_117, s12_120 (st := []), s12_121, s12_122, s12_123, s12_126, s12_127, s12_130, s12_133, s12_134, s12_135, s12_137, s12_138, s12_139, s12_141, s12_142, s12_143, s12_146 (st := []), s12_147, s12_148, s12_150, s12_153, s12_154, s12_157, s12_158, s12_161, s12_164, s12_167, s12_168 (st := []), Option.bind_some, Option.bind_none, Option.toList_some, Option.toList_none, List.cons_append, List.nil_append, clr_i, clr_r, clr_l, clr_n, nI_add, nsub, pk_mul, nle_F, nle_T, nlt_F, nlt_T, neq_F, nz_F, nz_T, nneg_F, npos_T, npos_lF, npos_lT, nle0_F, m1_neg, m1_pos, m1_z, neq_m1, m1_neq, ↓reduceIte, if_true, if_false, not_true_eq_false, not_false_eq_true, bI_eq0, Bool.true_eq_false, Bool.false_eq_true, true_and, and_true, false_and, and_false, true_or, or_true, false_or, or_false, decide_true, decide_false, Bool.and_self, Bool.true_and, Bool.and_true, Bool.false_and, Bool.and_false, Bool.true_or, Bool.or_true, Bool.false_or, Bool.or_false, Bool.not_true, Bool.not_false, g_0_19_T, g_0_22_T, g_0_29_T, g_0_32_2, g_0_15_T, g_0_48_2, g_0_51_2, eu, ew, hP, hP2, h, hnu, aC_5, hS]
    · have hm : ∀ s, smU (rW w n) tm t s = false := fun s => by unfold smU; rw [h]; rfl
      have hH : ∀ s, smH (rW w n) tm t a b g s = decide (p = q) := fun s => by unfold smH; rw [hm s, hl s, h]; unfold hl2; rw [if_pos rfl]; rfl
      have hA := fun d => K_all (f := emT F B tm td A K) (x := x) (d := d) (sz := sz) (us := us) (y := y) (v := v) (tm := tA) hn
      by_cases hpq : p = q
      · have e1 : smS (rW w n) tm t a b g n = wal1 n := by
          apply i32_ext
          intro k hk32
          unfold smS
          rw [orS_tb (P := fun s => smH (rW w n) tm t a b g s) (by omega) hk32, hH, tb_wal1 n (by omega) k hk32]
          simp [hpq]
        have e2 : smM (rW w n) tm t a b g n = wal1 n := by
          apply i32_ext
          intro k hk32
          unfold smM
          rw [orS_tb (P := fun s => smH (rW w n) tm t a b g s || smU (rW w n) tm t s) (by omega) hk32, hH, hm, tb_wal1 n (by omega) k hk32]
          simp [hpq]
        rw [e1, e2]
        have hpq' : (nI p = nI q) = True := by rw [hpq]; simp
        simp (maxSteps := 2000000) (disch := first | omega | with_reducible assumption | exact cobP | exact cobX | exact cobS (by omega) | exact cobK (by omega) | exact cobF (by omega) | exact cobW | exact isTC_T (by assumption) (by assumption) | exact bI_01 _ | exact Or.inl rfl | exact Or.inr rfl | (simp (decide := true) only [wid_0, wid_i, wid_l, wid_r, wid_n]; done) | decide | fail) only [s12_0, s12_1, s12_4, s12_5, s12_8, s12_9, s12_10, s12_13, s12_14, s12_17, s12_19, s12_20, s12_23d, s12_23k0, s12_23k1, s12_23k2, s12_23k3, s12_23k4, s12_56, s12_57, s12_58, s12_61, s12_62, s12_63, s12_66 (st := []), s12_67, s12_68, s12_69, s12_70, s12_71, s12_74, s12_77, s12_80 (st := []), s12_81, s12_82, s12_83, s12_84, s12_85, s12_88, s12_91, s12_94 (st := []), s12_95, s12_96, s12_97, s12_100, s12_101, s12_104, s12_107, s12_108, s12_109, s12_111, s12_112, s12_113, s12_115, s12_116, s12_117, s12_120 (st := []), s12_121, s12_122, s12_123, s12_126, s12_127, s12_130, s12_133, s12_134, s12_135, s12_137, s12_138, s12_139, s12_141, s12_142, s12_143, s12_146 (st := []), s12_147, s12_148, s12_150, s12_153, s12_154, s12_157, s12_158, s12_161, s12_164, s12_167, s12_168 (st := []), Option.bind_some, Option.bind_none, Option.toList_some, Option.toList_none, List.cons_append, List.nil_append, clr_i, clr_r, clr_l, clr_n, nI_add, nsub, pk_mul, nle_F, nle_T, nlt_F, nlt_T, neq_F, nz_F, nz_T, nneg_F, npos_T, npos_lF, npos_lT, nle0_F, m1_neg, m1_pos, m1_z, neq_m1, m1_neq, ↓reduceIte, if_true, if_false, not_true_eq_false, not_false_eq_true, bI_eq0, Bool.true_eq_false, Bool.false_eq_true, true_and, and_true, false_and, and_false, true_or, or_true, false_or, or_false, decide_true, decide_false, Bool.and_self, Bool.true_and, Bool.and_true, Bool.false_and, Bool.and_false, Bool.true_or, Bool.or_true, Bool.false_or, Bool.or_false, Bool.not_true, Bool.not_false, g_0_19_T, g_0_22_T, g_0_29_T, g_0_32_2, g_0_15_T, g_0_48_2, g_0_51_2, eu, ew, hP, hP2, h, hA, hpq', K_bothSpans]
      · have e1 : smS (rW w n) tm t a b g n = 0 := by
          apply i32_ext
          intro k hk32
          unfold smS
          rw [orS_tb (P := fun s => smH (rW w n) tm t a b g s) (by omega) hk32, hH, tb_00]
          simp [hpq]
        have e2 : smM (rW w n) tm t a b g n = 0 := by
          apply i32_ext
          intro k hk32
          unfold smM
          rw [orS_tb (P := fun s => smH (rW w n) tm t a b g s || smU (rW w n) tm t s) (by omega) hk32, hH, hm, tb_00]
          simp [hpq]
        rw [e1, e2]
        simp (maxSteps := 2000000) (disch := first | omega | with_reducible assumption | exact cobP | exact cobX | exact cobS (by omega) | exact cobK (by omega) | exact cobF (by omega) | exact cobW | exact isTC_T (by assumption) (by assumption) | exact bI_01 _ | exact Or.inl rfl | exact Or.inr rfl | (simp (decide := true) only [wid_0, wid_i, wid_l, wid_r, wid_n]; done) | decide | fail) only [s12_0, s12_1, s12_4, s12_5, s12_8, s12_9, s12_10, s12_13, s12_14, s12_17, s12_19, s12_20, s12_23d, s12_23k0, s12_23k1, s12_23k2, s12_23k3, s12_23k4, s12_56, s12_57, s12_58, s12_61, s12_62, s12_63, s12_66 (st := []), s12_67, s12_68, s12_69, s12_70, s12_71, s12_74, s12_77, s12_80 (st := []), s12_81, s12_82, s12_83, s12_84, s12_85, s12_88, s12_91, s12_94 (st := []), s12_95, s12_96, s12_97, s12_100, s12_101, s12_104, s12_107, s12_108, s12_109, s12_111, s12_112, s12_113, s12_115, s12_116, s12_117, s12_120 (st := []), s12_121, s12_122, s12_123, s12_126, s12_127, s12_130, s12_133, s12_134, s12_135, s12_137, s12_138, s12_139, s12_141, s12_142, s12_143, s12_146 (st := []), s12_147, s12_148, s12_150, s12_153, s12_154, s12_157, s12_158, s12_161, s12_164, s12_167, s12_168 (st := []), Option.bind_some, Option.bind_none, Option.toList_some, Option.toList_none, List.cons_append, List.nil_append, clr_i, clr_r, clr_l, clr_n, nI_add, nsub, pk_mul, nle_F, nle_T, nlt_F, nlt_T, neq_F, nz_F, nz_T, nneg_F, npos_T, npos_lF, npos_lT, nle0_F, m1_neg, m1_pos, m1_z, neq_m1, m1_neq, ↓reduceIte, if_true, if_false, not_true_eq_false, not_false_eq_true, bI_eq0, Bool.true_eq_false, Bool.false_eq_true, true_and, and_true, false_and, and_false, true_or, or_true, false_or, or_false, decide_true, decide_false, Bool.and_self, Bool.true_and, Bool.and_true, Bool.false_and, Bool.and_false, Bool.true_or, Bool.or_true, Bool.false_or, Bool.or_false, Bool.not_true, Bool.not_false, g_0_19_T, g_0_22_T, g_0_29_T, g_0_32_2, g_0_15_T, g_0_48_2, g_0_51_2, eu, ew, hP, hP2, h, hpq]
        rfl
end KL
