/-! the class: terms of terms asked (2) -/
theorem K_spanOf_t {hf : Hf} {d sz us : Nat} (l : Int64) : Ev d 52 0 [some (.long l), none, some (.int (nI 1))] [] (sz, us, hf) = some (some (.int (spo l true)), (sz, us, hf)) := K_spanOf l true
theorem K_spanOf_f {hf : Hf} {d sz us : Nat} (l : Int64) : Ev d 52 0 [some (.long l), none, some (.int (nI 0))] [] (sz, us, hf) = some (some (.int (spo l false)), (sz, us, hf)) := K_spanOf l false
section SPN
variable (F : Hf) (x sz us : Nat) (c : WD) (y : Nat → Int64) (v : VD) (tA : Nat → Option Nat) (B : Nat → Option Nat) (A : Nat → Nat) (tm : Nat → Nat → Nat) (td : Nat → Nat → Int32) (sm : Nat → Nat → Nat → Nat → Int32 × Int32) (ok : KT → Prop)
/-- a term answers spans as it should -/
def SPN (s : Nat) : Prop := ∀ K, ok K → ∀ a b g, a < 16 → b < 16 → g < 16 → ∃ K', ok K' ∧ ∀ D, 2 * s + 6 ≤ D →
  Ev D 56 0 [some (.ref (A s)), some (.ref (x + 1)), some (.int (nI (pn a b g))), none] [] (sz, us, emC (emT F B tm td A K) x c y v tA) = some (some (.long (bsp (sm s a b g).1 (sm s a b g).2)), (sz, us, emC (emT F B tm td A K') x c y v tA))
end SPN
section KN
variable {F : Hf} {x d sz us n tn t ch : Nat} {c w : WD} {y : Nat → Int64} {v : VD} {tA : Nat → Option Nat} {fs sn : Nat → Option Nat} {B : Nat → Option Nat} {A : Nat → Nat} {tm : Nat → Nat → Nat} {td : Nat → Nat → Int32} {K : KT} {ok : KT → Prop}
theorem K_fs3 {a b g : Nat} (Q : ASK c w fs sn n tn tm td A B x ch) (ht : t < tn) (hk : 6 ≤ tm t 0) (hk2 : tm t 0 < 9) (ih : ∀ s, s < t → SPN F x sz us c y v tA B A tm td (sem (rW w n) fs sn n tm) ok s) (hK : ok K) (ha : a < 16) (hb : b < 16) (hg : g < 16) : ∃ K', ok K' ∧ ∀ D, 2 * t + 5 ≤ D → Ev D 54 0 [some (.ref (A t)), some (.ref (x + 1)), some (.int (nI (pn a b g))), none, none] [] (sz, us, emC (emT F B tm td A K) x c y v tA) = some (some (.long (bsp (sem (rW w n) fs sn n tm t a b g).1 (sem (rW w n) fs sn n tm t a b g).2)), (sz, us, emC (emT F B tm td A K') x c y v tA)) := by
  obtain ⟨C, hN, hT, ⟨hTB, hTi⟩, hD, hch, hch2, htn⟩ := Q
  obtain ⟨hB, hx⟩ := hTB t ht
  have T := hT t ht
  have hn := C.1
  have hn30 := C.2.1
  have h3 : tkc (tm t 0) = 3 := by unfold tkc; rw [if_neg (by omega), if_pos hk2]
  have et : tca tm t = tm t 1 := by unfold tca; rw [if_neg (by omega)]
  obtain ⟨-, hs1, -, hs2⟩ := T.2.2.2.2.1 hk (by omega)
  obtain ⟨hB1, hx1⟩ := hTB (tm t 1) (by omega)
  obtain ⟨hB2, hx2⟩ := hTB (tm t 2) (by omega)
  have hhi := hi0_sem (w := rW w n) (fs := fs) (sn := sn) hn30 hT
  obtain ⟨g1, g2⟩ := hhi (tm t 1) (by omega) a b g
  obtain ⟨g3, g4⟩ := hhi (tm t 2) (by omega) a b g
  have p1 := g1 31 (by omega) (by omega)
  have p3 := g3 31 (by omega) (by omega)
  obtain ⟨K1, ok1, e1⟩ := ih (tm t 1) hs1 K hK a b g ha hb hg
  obtain ⟨K2, ok2, e2⟩ := ih (tm t 2) hs2 K1 ok1 a b g ha hb hg
  rw [sem_eq T, semO_mid hk (by omega)]
  unfold semK
  generalize sem (rW w n) fs sn n tm (tm t 1) a b g = r1 at *
  generalize sem (rW w n) fs sn n tm (tm t 2) a b g = r2 at *
  have hA := fun (d : Nat) (K : KT) => K_all (f := emT F B tm td A K) (x := x) (d := d) (sz := sz) (us := us) (y := y) (v := v) (tm := tA) hn
  have b1 := bsp_lo r1.1 r1.2
  have b2 := bsp_hi r1.1 r1.2 p1
  have b3 := bsp_and (m := r1.2) (m' := r2.2) p1 p3
  have b4 := bsp_or (m := r1.2) (m' := r2.2) p1 p3
  have hkk : tm t 0 = 6 ∨ tm t 0 = 7 ∨ tm t 0 = 8 := by omega
  rcases hkk with h | h | h
  · refine ⟨K1, ok1, fun D hD' => ?_⟩
    obtain ⟨d, rfl⟩ : ∃ d, D = d + 2 * t + 5 := ⟨D - (2 * t + 5), by omega⟩
    rw [if_pos h]
    simp (maxSteps := 2000000) (disch := first | omega | with_reducible assumption | exact cobP | exact cobX | exact cobS (by omega) | exact cobK (by omega) | exact cobF (by omega) | exact cobW | exact isTC_T (by assumption) (by assumption) | exact bI_01 _ | exact Or.inl rfl | exact Or.inr rfl | (simp (decide := true) only [wid_0, wid_i, wid_l, wid_r, wid_n]; done) | decide | fail) only [s54_0, s54_1, s54_4, s54_5, s54_6c0, s54_6c3, s54_6c6, s54_6c8, s54_9, s54_10, s54_11, s54_14k6, s54_14k7, s54_14k8, s54_40, s54_41, s54_44, s54_45, s54_46, s54_49, s54_50, s54_51, s54_52, s54_53, s54_56, s54_57, s54_58, s54_61, s54_62, s54_63, s54_64, s54_67 (st := []), s54_68, s54_69, s54_70, s54_73, s54_74, s54_75c0, s54_75c3, s54_75c6, s54_75c8, s54_78, s54_79 (st := []), s54_80, s54_81, s54_82, s54_85, s54_86, s54_87c0, s54_87c3, s54_87c6, s54_87c8, s54_90, s54_91 (st := []), s54_6T, s54_75T, s54_87T, Option.bind_some, Option.bind_none, Option.toList_some, Option.toList_none, List.cons_append, List.nil_append, clr_i, clr_r, clr_l, clr_n, nI_add, nsub, pk_mul, nle_F, nle_T, nlt_F, nlt_T, neq_F, nz_F, nz_T, nneg_F, npos_T, npos_lF, npos_lT, nle0_F, m1_neg, m1_pos, m1_z, neq_m1, m1_neq, ↓reduceIte, if_true, if_false, not_true_eq_false, not_false_eq_true, bI_eq0, Bool.true_eq_false, Bool.false_eq_true, true_and, and_true, false_and, and_false, true_or, or_true, false_or, or_false, decide_true, decide_false, Bool.and_self, Bool.true_and, Bool.and_true, Bool.false_and, Bool.and_false, Bool.true_or, Bool.or_true, Bool.false_or, Bool.or_false, Bool.not_true, Bool.not_false, g_4_15_T, g_4_25_T, g_4_42_T, et, e1, h, hA, K_spanOf_t, K_spanOf_f, b1, b2, K_bothSpans]
  · refine ⟨K2, ok2, fun D hD' => ?_⟩
    obtain ⟨d, rfl⟩ : ∃ d, D = d + 2 * t + 5 := ⟨D - (2 * t + 5), by omega⟩
    rw [if_neg (by omega), if_pos h]
    simp (maxSteps := 2000000) (disch := first | omega | with_reducible assumption | exact cobP | exact cobX | exact cobS (by omega) | exact cobK (by omega) | exact cobF (by omega) | exact cobW | exact isTC_T (by assumption) (by assumption) | exact bI_01 _ | exact Or.inl rfl | exact Or.inr rfl | (simp (decide := true) only [wid_0, wid_i, wid_l, wid_r, wid_n]; done) | decide | fail) only [s54_0, s54_1, s54_4, s54_5, s54_6c0, s54_6c3, s54_6c6, s54_6c8, s54_9, s54_10, s54_11, s54_14k6, s54_14k7, s54_14k8, s54_40, s54_41, s54_44, s54_45, s54_46, s54_49, s54_50, s54_51, s54_52, s54_53, s54_56, s54_57, s54_58, s54_61, s54_62, s54_63, s54_64, s54_67 (st := []), s54_68, s54_69, s54_70, s54_73, s54_74, s54_75c0, s54_75c3, s54_75c6, s54_75c8, s54_78, s54_79 (st := []), s54_80, s54_81, s54_82, s54_85, s54_86, s54_87c0, s54_87c3, s54_87c6, s54_87c8, s54_90, s54_91 (st := []), s54_6T, s54_75T, s54_87T, Option.bind_some, Option.bind_none, Option.toList_some, Option.toList_none, List.cons_append, List.nil_append, clr_i, clr_r, clr_l, clr_n, nI_add, nsub, pk_mul, nle_F, nle_T, nlt_F, nlt_T, neq_F, nz_F, nz_T, nneg_F, npos_T, npos_lF, npos_lT, nle0_F, m1_neg, m1_pos, m1_z, neq_m1, m1_neq, ↓reduceIte, if_true, if_false, not_true_eq_false, not_false_eq_true, bI_eq0, Bool.true_eq_false, Bool.false_eq_true, true_and, and_true, false_and, and_false, true_or, or_true, false_or, or_false, decide_true, decide_false, Bool.and_self, Bool.true_and, Bool.and_true, Bool.false_and, Bool.and_false, Bool.true_or, Bool.or_true, Bool.false_or, Bool.or_false, Bool.not_true, Bool.not_false, g_4_15_T, g_4_25_T, g_4_42_T, et, e1, e2, h, b3]
  · refine ⟨K2, ok2, fun D hD' => ?_⟩
    obtain ⟨d, rfl⟩ : ∃ d, D = d + 2 * t + 5 := ⟨D - (2 * t + 5), by omega⟩
    rw [if_neg (by omega), if_neg (by omega), if_pos h]
    simp (maxSteps := 2000000) (disch := first | omega | with_reducible assumption | exact cobP | exact cobX | exact cobS (by omega) | exact cobK (by omega) | exact cobF (by omega) | exact cobW | exact isTC_T (by assumption) (by assumption) | exact bI_01 _ | exact Or.inl rfl | exact Or.inr rfl | (simp (decide := true) only [wid_0, wid_i, wid_l, wid_r, wid_n]; done) | decide | fail) only [s54_0, s54_1, s54_4, s54_5, s54_6c0, s54_6c3, s54_6c6, s54_6c8, s54_9, s54_10, s54_11, s54_14k6, s54_14k7, s54_14k8, s54_40, s54_41, s54_44, s54_45, s54_46, s54_49, s54_50, s54_51, s54_52, s54_53, s54_56, s54_57, s54_58, s54_61, s54_62, s54_63, s54_64, s54_67 (st := []), s54_68, s54_69, s54_70, s54_73, s54_74, s54_75c0, s54_75c3, s54_75c6, s54_75c8, s54_78, s54_79 (st := []), s54_80, s54_81, s54_82, s54_85, s54_86, s54_87c0, s54_87c3, s54_87c6, s54_87c8, s54_90, s54_91 (st := []), s54_6T, s54_75T, s54_87T, Option.bind_some, Option.bind_none, Option.toList_some, Option.toList_none, List.cons_append, List.nil_append, clr_i, clr_r, clr_l, clr_n, nI_add, nsub, pk_mul, nle_F, nle_T, nlt_F, nlt_T, neq_F, nz_F, nz_T, nneg_F, npos_T, npos_lF, npos_lT, nle0_F, m1_neg, m1_pos, m1_z, neq_m1, m1_neq, ↓reduceIte, if_true, if_false, not_true_eq_false, not_false_eq_true, bI_eq0, Bool.true_eq_false, Bool.false_eq_true, true_and, and_true, false_and, and_false, true_or, or_true, false_or, or_false, decide_true, decide_false, Bool.and_self, Bool.true_and, Bool.and_true, Bool.false_and, Bool.and_false, Bool.true_or, Bool.or_true, Bool.false_or, Bool.or_false, Bool.not_true, Bool.not_false, g_4_15_T, g_4_25_T, g_4_42_T, et, e1, e2, h, b4]
theorem K_fs8 {a b g : Nat} (Q : ASK c w fs sn n tn tm td A B x ch) (ht : t < tn) (hk : 9 ≤ tm t 0) (hk2 : tm t 0 < 14) (ih : ∀ s, s < t → SPN F x sz us c y v tA B A tm td (sem (rW w n) fs sn n tm) ok s) (hK : ok K) (ha : a < 16) (hb : b < 16) (hg : g < 16) : ∃ K', ok K' ∧ ∀ D, 2 * t + 5 ≤ D → Ev D 53 0 [some (.ref (A t)), some (.ref (x + 1)), some (.int (nI (pn a b g))), none, none, none, none, none, none] [] (sz, us, emC (emT F B tm td A K) x c y v tA) = some (some (.long (bsp (sem (rW w n) fs sn n tm t a b g).1 (sem (rW w n) fs sn n tm t a b g).2)), (sz, us, emC (emT F B tm td A K') x c y v tA)) := by
  obtain ⟨C, hN, hT, ⟨hTB, hTi⟩, hD, hch, hch2, htn⟩ := Q
  obtain ⟨hB, hx⟩ := hTB t ht
  have T := hT t ht
  have hn := C.1
  have hn30 := C.2.1
  have h8 : tkc (tm t 0) = 8 := by unfold tkc; rw [if_neg (by omega), if_neg (by omega), if_pos hk2]
  have et : tca tm t = tm t 1 := by unfold tca; rw [if_neg (by omega)]
  obtain ⟨-, hs1, -, hs2⟩ := T.2.2.2.2.1 (by omega) (by omega)
  obtain ⟨hB1, hx1⟩ := hTB (tm t 1) (by omega)
  obtain ⟨hB2, hx2⟩ := hTB (tm t 2) (by omega)
  have hhi := hi0_sem (w := rW w n) (fs := fs) (sn := sn) hn30 hT
  obtain ⟨g1, g2⟩ := hhi (tm t 1) (by omega) a b g
  obtain ⟨g3, g4⟩ := hhi (tm t 2) (by omega) a b g
  have p1 := g1 31 (by omega) (by omega)
  have p3 := g3 31 (by omega) (by omega)
  obtain ⟨K1, ok1, e1⟩ := ih (tm t 1) hs1 K hK a b g ha hb hg
  obtain ⟨K2, ok2, e2⟩ := ih (tm t 2) hs2 K1 ok1 a b g ha hb hg
  rw [sem_eq T, semO_mid (by omega) (by omega)]
  unfold semK
  generalize sem (rW w n) fs sn n tm (tm t 1) a b g = r1 at *
  generalize sem (rW w n) fs sn n tm (tm t 2) a b g = r2 at *
  have b1 := bsp_lo r1.1 r1.2
  have b2 := bsp_hi r1.1 r1.2 p1
  have b3 := bsp_lo r2.1 r2.2
  have b4 := bsp_hi r2.1 r2.2 p3
  have eE := fun a => evO w a n
  have w3 : rW w n 3 = w 3 := funext fun s => rW_k s (by omega)
  have i1 : ∀ a, evO (rW w n) a n = kever c a n := fun a => by rw [CS.ever C]; unfold evO; rw [w3]
  have i2 : ∀ a, alO (rW w n) a n = kalways c a n := fun a => by rw [CS.always C]; unfold alO; rw [w3]
  have i3 : ∀ a b, wnb (rW w n) a b n = kwithNoneBefore c a b n := fun a b => by rw [CS.wnb C]; unfold wnb; rw [w3]
  have i4 : ∀ a, ahO fs sn a n = krightBehind c a n := fun a => (CS.ahead C a).symm
  have i5 : ∀ a b, siO fs sn a b n = kSin c a b n := fun a b => (CS.since C a b).symm
  simp only [i1, i2, i3, i4, i5]
  have j1 := fun (d : Nat) (K : KT) (a : Int32) => K_ever (f := emT F B tm td A K) (x := x) (d := d) (sz := sz) (us := us) (y := y) (v := v) (tm := tA) a hn hn30
  have j2 := fun (d : Nat) (K : KT) (a : Int32) => K_always (f := emT F B tm td A K) (x := x) (d := d) (sz := sz) (us := us) (y := y) (v := v) (tm := tA) a hn hn30
  have j3 := fun (d : Nat) (K : KT) (a b : Int32) => K_withNoneBefore (f := emT F B tm td A K) (x := x) (d := d) (sz := sz) (us := us) (y := y) (v := v) (tm := tA) a b hn hn30
  have j4 := fun (d : Nat) (K : KT) (a : Int32) => K_rightBehind (f := emT F B tm td A K) (x := x) (d := d) (sz := sz) (us := us) (y := y) (v := v) (tm := tA) a hn hn30
  have j5 := fun (d : Nat) (K : KT) (a b : Int32) => K_since (f := emT F B tm td A K) (x := x) (d := d) (sz := sz) (us := us) (y := y) (v := v) (tm := tA) a b hn hn30
  have hkk : tm t 0 = 9 ∨ tm t 0 = 10 ∨ tm t 0 = 11 ∨ tm t 0 = 12 ∨ tm t 0 = 13 := by omega
  rcases hkk with h | h | h | h | h
  · refine ⟨K1, ok1, fun D hD' => ?_⟩
    obtain ⟨d, rfl⟩ : ∃ d, D = d + 2 * t + 5 := ⟨D - (2 * t + 5), by omega⟩
    rw [if_neg (by omega), if_neg (by omega), if_neg (by omega), if_pos h]
    simp (maxSteps := 2000000) (disch := first | omega | with_reducible assumption | exact cobP | exact cobX | exact cobS (by omega) | exact cobK (by omega) | exact cobF (by omega) | exact cobW | exact isTC_T (by assumption) (by assumption) | exact bI_01 _ | exact Or.inl rfl | exact Or.inr rfl | (simp (decide := true) only [wid_0, wid_i, wid_l, wid_r, wid_n]; done) | decide | fail) only [s53_0, s53_1, s53_4, s53_5, s53_6c0, s53_6c3, s53_6c6, s53_6c8, s53_9, s53_10, s53_11, s53_12, s53_15, s53_17, s53_18, s53_19, s53_22, s53_24, s53_25, s53_28d, s53_28k9, s53_28k10, s53_28k11, s53_28k12, s53_60, s53_61, s53_63, s53_66, s53_67, s53_69, s53_72, s53_75 (st := []), s53_76, s53_77, s53_79, s53_82, s53_83, s53_85, s53_88, s53_91 (st := []), s53_92, s53_93, s53_95, s53_97, s53_100, s53_101, s53_103, s53_105, s53_108, s53_111 (st := []), s53_112, s53_113, s53_115, s53_118, s53_119, s53_121, s53_124, s53_127 (st := []), s53_128, s53_129, s53_132, s53_133, s53_134c0, s53_134c3, s53_134c6, s53_134c8, s53_137, s53_139, s53_140, s53_142, s53_144, s53_145, s53_148, s53_151, s53_152, s53_154, s53_156, s53_157, s53_160, s53_163, s53_166 (st := []), s53_6T, s53_134T, Option.bind_some, Option.bind_none, Option.toList_some, Option.toList_none, List.cons_append, List.nil_append, clr_i, clr_r, clr_l, clr_n, nI_add, nsub, pk_mul, nle_F, nle_T, nlt_F, nlt_T, neq_F, nz_F, nz_T, nneg_F, npos_T, npos_lF, npos_lT, nle0_F, m1_neg, m1_pos, m1_z, neq_m1, m1_neq, ↓reduceIte, if_true, if_false, not_true_eq_false, not_false_eq_true, bI_eq0, Bool.true_eq_false, Bool.false_eq_true, true_and, and_true, false_and, and_false, true_or, or_true, false_or, or_false, decide_true, decide_false, Bool.and_self, Bool.true_and, Bool.and_true, Bool.false_and, Bool.and_false, Bool.true_or, Bool.or_true, Bool.false_or, Bool.or_false, Bool.not_true, Bool.not_false, g_10_19_T, g_10_33_T, g_10_56_T, et, e1, h, j1, K_spanOf_t, K_spanOf_f, b1, b2, K_bothSpans]
  · refine ⟨K1, ok1, fun D hD' => ?_⟩
    obtain ⟨d, rfl⟩ : ∃ d, D = d + 2 * t + 5 := ⟨D - (2 * t + 5), by omega⟩
    rw [if_neg (by omega), if_neg (by omega), if_neg (by omega), if_neg (by omega), if_pos h]
    simp (maxSteps := 2000000) (disch := first | omega | with_reducible assumption | exact cobP | exact cobX | exact cobS (by omega) | exact cobK (by omega) | exact cobF (by omega) | exact cobW | exact isTC_T (by assumption) (by assumption) | exact bI_01 _ | exact Or.inl rfl | exact Or.inr rfl | (simp (decide := true) only [wid_0, wid_i, wid_l, wid_r, wid_n]; done) | decide | fail) only [s53_0, s53_1, s53_4, s53_5, s53_6c0, s53_6c3, s53_6c6, s53_6c8, s53_9, s53_10, s53_11, s53_12, s53_15, s53_17, s53_18, s53_19, s53_22, s53_24, s53_25, s53_28d, s53_28k9, s53_28k10, s53_28k11, s53_28k12, s53_60, s53_61, s53_63, s53_66, s53_67, s53_69, s53_72, s53_75 (st := []), s53_76, s53_77, s53_79, s53_82, s53_83, s53_85, s53_88, s53_91 (st := []), s53_92, s53_93, s53_95, s53_97, s53_100, s53_101, s53_103, s53_105, s53_108, s53_111 (st := []), s53_112, s53_113, s53_115, s53_118, s53_119, s53_121, s53_124, s53_127 (st := []), s53_128, s53_129, s53_132, s53_133, s53_134c0, s53_134c3, s53_134c6, s53_134c8, s53_137, s53_139, s53_140, s53_142, s53_144, s53_145, s53_148, s53_151, s53_152, s53_154, s53_156, s53_157, s53_160, s53_163, s53_166 (st := []), s53_6T, s53_134T, Option.bind_some, Option.bind_none, Option.toList_some, Option.toList_none, List.cons_append, List.nil_append, clr_i, clr_r, clr_l, clr_n, nI_add, nsub, pk_mul, nle_F, nle_T, nlt_F, nlt_T, neq_F, nz_F, nz_T, nneg_F, npos_T, npos_lF, npos_lT, nle0_F, m1_neg, m1_pos, m1_z, neq_m1, m1_neq, ↓reduceIte, if_true, if_false, not_true_eq_false, not_false_eq_true, bI_eq0, Bool.true_eq_false, Bool.false_eq_true, true_and, and_true, false_and, and_false, true_or, or_true, false_or, or_false, decide_true, decide_false, Bool.and_self, Bool.true_and, Bool.and_true, Bool.false_and, Bool.and_false, Bool.true_or, Bool.or_true, Bool.false_or, Bool.or_false, Bool.not_true, Bool.not_false, g_10_19_T, g_10_33_T, g_10_56_T, et, e1, h, j2, K_spanOf_t, K_spanOf_f, b1, b2, K_bothSpans]
  · refine ⟨K1, ok1, fun D hD' => ?_⟩
    obtain ⟨d, rfl⟩ : ∃ d, D = d + 2 * t + 5 := ⟨D - (2 * t + 5), by omega⟩
    rw [if_neg (by omega), if_neg (by omega), if_neg (by omega), if_neg (by omega), if_neg (by omega), if_pos h]
    simp (maxSteps := 2000000) (disch := first | omega | with_reducible assumption | exact cobP | exact cobX | exact cobS (by omega) | exact cobK (by omega) | exact cobF (by omega) | exact cobW | exact isTC_T (by assumption) (by assumption) | exact bI_01 _ | exact Or.inl rfl | exact Or.inr rfl | (simp (decide := true) only [wid_0, wid_i, wid_l, wid_r, wid_n]; done) | decide | fail) only [s53_0, s53_1, s53_4, s53_5, s53_6c0, s53_6c3, s53_6c6, s53_6c8, s53_9, s53_10, s53_11, s53_12, s53_15, s53_17, s53_18, s53_19, s53_22, s53_24, s53_25, s53_28d, s53_28k9, s53_28k10, s53_28k11, s53_28k12, s53_60, s53_61, s53_63, s53_66, s53_67, s53_69, s53_72, s53_75 (st := []), s53_76, s53_77, s53_79, s53_82, s53_83, s53_85, s53_88, s53_91 (st := []), s53_92, s53_93, s53_95, s53_97, s53_100, s53_101, s53_103, s53_105, s53_108, s53_111 (st := []), s53_112, s53_113, s53_115, s53_118, s53_119, s53_121, s53_124, s53_127 (st := []), s53_128, s53_129, s53_132, s53_133, s53_134c0, s53_134c3, s53_134c6, s53_134c8, s53_137, s53_139, s53_140, s53_142, s53_144, s53_145, s53_148, s53_151, s53_152, s53_154, s53_156, s53_157, s53_160, s53_163, s53_166 (st := []), s53_6T, s53_134T, Option.bind_some, Option.bind_none, Option.toList_some, Option.toList_none, List.cons_append, List.nil_append, clr_i, clr_r, clr_l, clr_n, nI_add, nsub, pk_mul, nle_F, nle_T, nlt_F, nlt_T, neq_F, nz_F, nz_T, nneg_F, npos_T, npos_lF, npos_lT, nle0_F, m1_neg, m1_pos, m1_z, neq_m1, m1_neq, ↓reduceIte, if_true, if_false, not_true_eq_false, not_false_eq_true, bI_eq0, Bool.true_eq_false, Bool.false_eq_true, true_and, and_true, false_and, and_false, true_or, or_true, false_or, or_false, decide_true, decide_false, Bool.and_self, Bool.true_and, Bool.and_true, Bool.false_and, Bool.and_false, Bool.true_or, Bool.or_true, Bool.false_or, Bool.or_false, Bool.not_true, Bool.not_false, g_10_19_T, g_10_33_T, g_10_56_T, et, e1, h, j3, K_spanOf_t, K_spanOf_f, b1, b2, K_bothSpans]
  · refine ⟨K1, ok1, fun D hD' => ?_⟩
    obtain ⟨d, rfl⟩ : ∃ d, D = d + 2 * t + 5 := ⟨D - (2 * t + 5), by omega⟩
    rw [if_neg (by omega), if_neg (by omega), if_neg (by omega), if_neg (by omega), if_neg (by omega), if_neg (by omega), if_pos h]
    simp (maxSteps := 2000000) (disch := first | omega | with_reducible assumption | exact cobP | exact cobX | exact cobS (by omega) | exact cobK (by omega) | exact cobF (by omega) | exact cobW | exact isTC_T (by assumption) (by assumption) | exact bI_01 _ | exact Or.inl rfl | exact Or.inr rfl | (simp (decide := true) only [wid_0, wid_i, wid_l, wid_r, wid_n]; done) | decide | fail) only [s53_0, s53_1, s53_4, s53_5, s53_6c0, s53_6c3, s53_6c6, s53_6c8, s53_9, s53_10, s53_11, s53_12, s53_15, s53_17, s53_18, s53_19, s53_22, s53_24, s53_25, s53_28d, s53_28k9, s53_28k10, s53_28k11, s53_28k12, s53_60, s53_61, s53_63, s53_66, s53_67, s53_69, s53_72, s53_75 (st := []), s53_76, s53_77, s53_79, s53_82, s53_83, s53_85, s53_88, s53_91 (st := []), s53_92, s53_93, s53_95, s53_97, s53_100, s53_101, s53_103, s53_105, s53_108, s53_111 (st := []), s53_112, s53_113, s53_115, s53_118, s53_119, s53_121, s53_124, s53_127 (st := []), s53_128, s53_129, s53_132, s53_133, s53_134c0, s53_134c3, s53_134c6, s53_134c8, s53_137, s53_139, s53_140, s53_142, s53_144, s53_145, s53_148, s53_151, s53_152, s53_154, s53_156, s53_157, s53_160, s53_163, s53_166 (st := []), s53_6T, s53_134T, Option.bind_some, Option.bind_none, Option.toList_some, Option.toList_none, List.cons_append, List.nil_append, clr_i, clr_r, clr_l, clr_n, nI_add, nsub, pk_mul, nle_F, nle_T, nlt_F, nlt_T, neq_F, nz_F, nz_T, nneg_F, npos_T, npos_lF, npos_lT, nle0_F, m1_neg, m1_pos, m1_z, neq_m1, m1_neq, ↓reduceIte, if_true, if_false, not_true_eq_false, not_false_eq_true, bI_eq0, Bool.true_eq_false, Bool.false_eq_true, true_and, and_true, false_and, and_false, true_or, or_true, false_or, or_false, decide_true, decide_false, Bool.and_self, Bool.true_and, Bool.and_true, Bool.false_and, Bool.and_false, Bool.true_or, Bool.or_true, Bool.false_or, Bool.or_false, Bool.not_true, Bool.not_false, g_10_19_T, g_10_33_T, g_10_56_T, et, e1, h, j4, K_spanOf_t, K_spanOf_f, b1, b2, K_bothSpans]
  · refine ⟨K2, ok2, fun D hD' => ?_⟩
    obtain ⟨d, rfl⟩ : ∃ d, D = d + 2 * t + 5 := ⟨D - (2 * t + 5), by omega⟩
    rw [if_neg (by omega), if_neg (by omega), if_neg (by omega), if_neg (by omega), if_neg (by omega), if_neg (by omega), if_neg (by omega)]
    have hx13 : (nI 13).toInt < 9 ∨ 12 < (nI 13).toInt := by decide
    simp (maxSteps := 2000000) (disch := first | omega | with_reducible assumption | exact cobP | exact cobX | exact cobS (by omega) | exact cobK (by omega) | exact cobF (by omega) | exact cobW | exact isTC_T (by assumption) (by assumption) | exact bI_01 _ | exact Or.inl rfl | exact Or.inr rfl | (simp (decide := true) only [wid_0, wid_i, wid_l, wid_r, wid_n]; done) | decide | fail) only [s53_0, s53_1, s53_4, s53_5, s53_6c0, s53_6c3, s53_6c6, s53_6c8, s53_9, s53_10, s53_11, s53_12, s53_15, s53_17, s53_18, s53_19, s53_22, s53_24, s53_25, s53_28d, s53_28k9, s53_28k10, s53_28k11, s53_28k12, s53_60, s53_61, s53_63, s53_66, s53_67, s53_69, s53_72, s53_75 (st := []), s53_76, s53_77, s53_79, s53_82, s53_83, s53_85, s53_88, s53_91 (st := []), s53_92, s53_93, s53_95, s53_97, s53_100, s53_101, s53_103, s53_105, s53_108, s53_111 (st := []), s53_112, s53_113, s53_115, s53_118, s53_119, s53_121, s53_124, s53_127 (st := []), s53_128, s53_129, s53_132, s53_133, s53_134c0, s53_134c3, s53_134c6, s53_134c8, s53_137, s53_139, s53_140, s53_142, s53_144, s53_145, s53_148, s53_151, s53_152, s53_154, s53_156, s53_157, s53_160, s53_163, s53_166 (st := []), s53_6T, s53_134T, Option.bind_some, Option.bind_none, Option.toList_some, Option.toList_none, List.cons_append, List.nil_append, clr_i, clr_r, clr_l, clr_n, nI_add, nsub, pk_mul, nle_F, nle_T, nlt_F, nlt_T, neq_F, nz_F, nz_T, nneg_F, npos_T, npos_lF, npos_lT, nle0_F, m1_neg, m1_pos, m1_z, neq_m1, m1_neq, ↓reduceIte, if_true, if_false, not_true_eq_false, not_false_eq_true, bI_eq0, Bool.true_eq_false, Bool.false_eq_true, true_and, and_true, false_and, and_false, true_or, or_true, false_or, or_false, decide_true, decide_false, Bool.and_self, Bool.true_and, Bool.and_true, Bool.false_and, Bool.and_false, Bool.true_or, Bool.or_true, Bool.false_or, Bool.or_false, Bool.not_true, Bool.not_false, g_10_19_T, g_10_33_T, g_10_56_T, et, e1, e2, h, hx13, j5, K_spanOf_t, K_spanOf_f, b1, b2, b3, b4, K_bothSpans]
theorem orU_s (G : Nat → Int32) (p : Nat) : orU G (p + 1) = orU G p ||| G p := rfl
theorem K_fs6 {a b g : Nat} (Q : ASK c w fs sn n tn tm td A B x ch) (ht : t < tn) (hk : tm t 0 = 14) (ih : ∀ s, s < t → SPN F x sz us c y v tA B A tm td (sem (rW w n) fs sn n tm) ok s) (hK : ok K) (ha : a < 16) (hb : b < 16) (hg : g < 16) (hz : pl0 (tm t 1) 0 a = a ∧ pl1 (tm t 1) 0 b = b ∧ pl2 (tm t 1) 0 g = g) : ∃ K', ok K' ∧ ∀ D, 2 * t + 5 ≤ D → Ev D 55 0 [some (.ref (A t)), some (.ref (x + 1)), some (.int (nI (pn a b g))), none, none, none] [] (sz, us, emC (emT F B tm td A K) x c y v tA) = some (some (.long (bsp (sem (rW w n) fs sn n tm t a b g).1 (sem (rW w n) fs sn n tm t a b g).2)), (sz, us, emC (emT F B tm td A K') x c y v tA)) := by
  obtain ⟨C, hN, hT, ⟨hTB, hTi⟩, hD, hch, hch2, htn⟩ := Q
  obtain ⟨hB, hx⟩ := hTB t ht
  have T := hT t ht
  have hn30 := C.2.1
  have h6 : tkc (tm t 0) = 6 := by rw [hk]; rfl
  have et : tca tm t = tm t 2 := by unfold tca; rw [if_pos hk]
  obtain ⟨-, hv, -, hs2⟩ := T.2.2.2.2.2 hk
  obtain ⟨hB2, hx2⟩ := hTB (tm t 2) (by omega)
  have hhi := hi0_sem (w := rW w n) (fs := fs) (sn := sn) hn30 hT
  rw [sem_eq T, semO_14 hk]
  have hpn : ∀ p, p < 16 → nI (pn a b g) ||| nI p <<< (nI (4 * tm t 1) &&& 31) = nI (pn (pl0 (tm t 1) p a) (pl1 (tm t 1) p b) (pl2 (tm t 1) p g)) := by
    intro p hp
    have hvv : tm t 1 = 0 ∨ tm t 1 = 1 ∨ tm t 1 = 2 := by omega
    rcases hvv with h | h | h
    · rw [h] at hz ⊢
      obtain ⟨z1, -, -⟩ := hz
      have z1 : 0 = a := z1
      subst z1
      exact pn_p0 b hb g hg p hp
    · rw [h] at hz ⊢
      obtain ⟨-, z1, -⟩ := hz
      have z1 : 0 = b := z1
      subst z1
      exact pn_p1 a ha g hg p hp
    · rw [h] at hz ⊢
      obtain ⟨-, -, z1⟩ := hz
      have z1 : 0 = g := z1
      subst z1
      exact pn_p2 a ha b hb p hp
  generalize hS : (fun p => (sem (rW w n) fs sn n tm (tm t 2) (pl0 (tm t 1) p a) (pl1 (tm t 1) p b) (pl2 (tm t 1) p g)).1) = G1
  generalize hM : (fun p => (sem (rW w n) fs sn n tm (tm t 2) (pl0 (tm t 1) p a) (pl1 (tm t 1) p b) (pl2 (tm t 1) p g)).2) = G2
  have hG1 : ∀ p, (sem (rW w n) fs sn n tm (tm t 2) (pl0 (tm t 1) p a) (pl1 (tm t 1) p b) (pl2 (tm t 1) p g)).1 = G1 p := fun p => by rw [← hS]
  have hG2 : ∀ p, (sem (rW w n) fs sn n tm (tm t 2) (pl0 (tm t 1) p a) (pl1 (tm t 1) p b) (pl2 (tm t 1) p g)).2 = G2 p := fun p => by rw [← hM]
  have hh : ∀ p, hi0 n (G1 p) := fun p => by rw [← hG1]; exact (hhi (tm t 2) (by omega) _ _ _).1
  have key : ∀ m, m ≤ 16 → ∃ K', ok K' ∧ ∀ D, 2 * t + 5 ≤ D → Ev D 55 5 [some (.ref (A t)), some (.ref (x + 1)), some (.int (nI (pn a b g))), some (.long (bsp (orU G1 0) (orU G2 0))), none, some (.int (nI 0))] [] (sz, us, emC (emT F B tm td A K) x c y v tA) = Ev D 55 5 [some (.ref (A t)), some (.ref (x + 1)), some (.int (nI (pn a b g))), some (.long (bsp (orU G1 m) (orU G2 m))), none, some (.int (nI m))] [] (sz, us, emC (emT F B tm td A K') x c y v tA) := by
    intro m
    induction m with
    | zero => intro _; exact ⟨K, hK, fun D _ => rfl⟩
    | succ m ihm =>
      intro hm
      obtain ⟨K1, ok1, e1⟩ := ihm (by omega)
      obtain ⟨K2, ok2, e2⟩ := ih (tm t 2) hs2 K1 ok1 (pl0 (tm t 1) m a) (pl1 (tm t 1) m b) (pl2 (tm t 1) m g) (pl0_lt (by omega) ha) (pl1_lt (by omega) hb) (pl2_lt (by omega) hg)
      rw [hG1, hG2] at e2
      refine ⟨K2, ok2, fun D hD' => (e1 D hD').trans ?_⟩
      obtain ⟨d, rfl⟩ : ∃ d, D = d + 2 * t + 5 := ⟨D - (2 * t + 5), by omega⟩
      have hpm := hpn m (by omega)
      have p1 : tb (orU G1 m) 31 = false := hi0_orU (fun p _ => hh p) m (by omega) 31 (by omega) (by omega)
      have p2 : tb (G1 m) 31 = false := hh m 31 (by omega) (by omega)
      have b1 := bsp_or (m := orU G2 m) (m' := G2 m) p1 p2
      rw [orU_s, orU_s]
      generalize orU G1 m = o1 at *
      generalize orU G2 m = o2 at *
      rw [s55_5]
      simp (maxSteps := 2000000) (disch := first | omega | with_reducible assumption | exact cobP | exact cobX | exact cobS (by omega) | exact cobK (by omega) | exact cobF (by omega) | exact cobW | exact isTC_T (by assumption) (by assumption) | exact bI_01 _ | exact Or.inl rfl | exact Or.inr rfl | (simp (decide := true) only [wid_0, wid_i, wid_l, wid_r, wid_n]; done) | decide | fail) only [s55_7, s55_9, s55_12, s55_13, s55_14, s55_17, s55_18, s55_19, s55_21, s55_22, s55_23, s55_26, s55_27, s55_28, s55_29c0, s55_29c3, s55_29c6, s55_29c8, s55_32, s55_33, s55_34, s55_37, s55_29T, Option.bind_some, Option.bind_none, Option.toList_some, Option.toList_none, List.cons_append, List.nil_append, clr_i, clr_r, clr_l, clr_n, nI_add, nsub, pk_mul, nle_F, nle_T, nlt_F, nlt_T, neq_F, nz_F, nz_T, nneg_F, npos_T, npos_lF, npos_lT, nle0_F, m1_neg, m1_pos, m1_z, neq_m1, m1_neq, ↓reduceIte, if_true, if_false, not_true_eq_false, not_false_eq_true, bI_eq0, Bool.true_eq_false, Bool.false_eq_true, true_and, and_true, false_and, and_false, true_or, or_true, false_or, or_false, decide_true, decide_false, Bool.and_self, Bool.true_and, Bool.and_true, Bool.false_and, Bool.and_false, Bool.true_or, Bool.or_true, Bool.false_or, Bool.or_false, Bool.not_true, Bool.not_false, g_7_24_T, g_7_15_T, et, hpm, e2, b1]
  obtain ⟨K', ok', e'⟩ := key 16 (Nat.le_refl 16)
  refine ⟨K', ok', fun D hD' => ?_⟩
  have p0 : Ev D 55 0 [some (.ref (A t)), some (.ref (x + 1)), some (.int (nI (pn a b g))), none, none, none] [] (sz, us, emC (emT F B tm td A K) x c y v tA) = Ev D 55 5 [some (.ref (A t)), some (.ref (x + 1)), some (.int (nI (pn a b g))), some (.long (bsp (orU G1 0) (orU G2 0))), none, some (.int (nI 0))] [] (sz, us, emC (emT F B tm td A K) x c y v tA) := by
    have hl0 : bsp (orU G1 0) (orU G2 0) = 0 := by show bsp (nI 0) (nI 0) = 0; decide
    rw [hl0]
    simp (maxSteps := 2000000) (disch := first | omega | with_reducible assumption | exact cobP | exact cobX | exact cobS (by omega) | exact cobK (by omega) | exact cobF (by omega) | exact cobW | exact isTC_T (by assumption) (by assumption) | exact bI_01 _ | exact Or.inl rfl | exact Or.inr rfl | (simp (decide := true) only [wid_0, wid_i, wid_l, wid_r, wid_n]; done) | decide | fail) only [s55_0, s55_1, s55_2, s55_3, Option.bind_some, Option.bind_none, Option.toList_some, Option.toList_none, List.cons_append, List.nil_append, clr_i, clr_r, clr_l, clr_n, nI_add, nsub, pk_mul, nle_F, nle_T, nlt_F, nlt_T, neq_F, nz_F, nz_T, nneg_F, npos_T, npos_lF, npos_lT, nle0_F, m1_neg, m1_pos, m1_z, neq_m1, m1_neq, ↓reduceIte, if_true, if_false, not_true_eq_false, not_false_eq_true, bI_eq0, Bool.true_eq_false, Bool.false_eq_true, true_and, and_true, false_and, and_false, true_or, or_true, false_or, or_false, decide_true, decide_false, Bool.and_self, Bool.true_and, Bool.and_true, Bool.false_and, Bool.and_false, Bool.true_or, Bool.or_true, Bool.false_or, Bool.or_false, Bool.not_true, Bool.not_false]
  refine p0.trans ((e' D hD').trans ?_)
  rw [s55_5]
  simp (maxSteps := 2000000) (disch := first | omega | with_reducible assumption | exact cobP | exact cobX | exact cobS (by omega) | exact cobK (by omega) | exact cobF (by omega) | exact cobW | exact isTC_T (by assumption) (by assumption) | exact bI_01 _ | exact Or.inl rfl | exact Or.inr rfl | (simp (decide := true) only [wid_0, wid_i, wid_l, wid_r, wid_n]; done) | decide | fail) only [s55_7, s55_9, s55_40, s55_41 (st := []), Option.bind_some, Option.bind_none, Option.toList_some, Option.toList_none, List.cons_append, List.nil_append, clr_i, clr_r, clr_l, clr_n, nI_add, nsub, pk_mul, nle_F, nle_T, nlt_F, nlt_T, neq_F, nz_F, nz_T, nneg_F, npos_T, npos_lF, npos_lT, nle0_F, m1_neg, m1_pos, m1_z, neq_m1, m1_neq, ↓reduceIte, if_true, if_false, not_true_eq_false, not_false_eq_true, bI_eq0, Bool.true_eq_false, Bool.false_eq_true, true_and, and_true, false_and, and_false, true_or, or_true, false_or, or_false, decide_true, decide_false, Bool.and_self, Bool.true_and, Bool.and_true, Bool.false_and, Bool.and_false, Bool.true_or, Bool.or_true, Bool.false_or, Bool.or_false, Bool.not_true, Bool.not_false]
end KN
