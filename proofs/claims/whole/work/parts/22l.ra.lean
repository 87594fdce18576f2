/-! class and reference: a new term -/
def atT {α : Type} (f : Nat → α) (t : Nat) (z : α) : Nat → α := fun i => if i = t then z else f i
theorem atT_at {α : Type} (f : Nat → α) (t : Nat) (z : α) : atT f t z t = z := if_pos rfl
theorem atT_of {α : Type} (f : Nat → α) {t i : Nat} (z : α) (h : i ≠ t) : atT f t z i = f i := if_neg h
theorem TMt_tm {w : WD} {tm tm' : Nat → Nat → Nat} {t : Nat} (e : tm' t = tm t) (T : TMt w tm t) : TMt w tm' t := by
  unfold TMt at T ⊢
  rw [e]
  exact T
theorem semO_cg2 {w v w0 : WD} {fs sn : Nat → Option Nat} {tm tm' : Nat → Nat → Nat} {g : Nat → Nat → Nat → Nat → Int32 × Int32} {n t x y z : Nat} (e : tm' t = tm t) (h : ∀ k i, 3 ≤ k → k ≤ 8 → w k i = v k i) (h12 : w 12 t = v 12 t) (h22 : ∀ i, i < 48 * n → w 22 i = v 22 i) (T : TMt w0 tm t) (hx : x < 16) (hy : y < 16) (hz : z < 16) : semO w fs sn n tm' g t x y z = semO v fs sn n tm g t x y z := by
  have e3 : ∀ i, w 3 i = v 3 i := fun i => h 3 i (by omega) (by omega)
  have e5 : ∀ i, w 5 i = v 5 i := fun i => h 5 i (by omega) (by omega)
  have c1 : ∀ a, evO w a n = evO v a n := fun a => itr_cg (fun k hk b => by rw [e3])
  have c2 : ∀ a, alO w a n = alO v a n := fun a => itr_cg (fun k hk b => by rw [e3])
  have c3 : ∀ a b, wnb w a b n = wnb v a b n := fun a b => itr_cg (fun k hk b => by rw [e3])
  unfold semO
  rw [e]
  by_cases q : tm t 0 < 6
  · have hl : ∀ s, s < n → hlT w tm' t s x y z = hlT v tm t s x y z := by
      intro s hs
      unfold hlT hl1 hl2
      rw [h12, e]
      by_cases q3 : tm t 0 < 3
      · rw [if_pos q3, if_pos q3, h 4 s (by omega) (by omega), h 6 _ (by omega) (by omega), h 7 _ (by omega) (by omega)]
      · rw [if_neg q3, if_neg q3]
        obtain ⟨-, u2, -, -, u5⟩ := T.2.2.2.1 (by omega) q
        by_cases q5 : tm t 0 = 5
        · rw [if_pos q5, if_pos q5]
        · rw [if_neg q5, if_neg q5, h22 _ (lk_lt hs (u5 q5).2 (pfU_lt u2 hx hy hz)), h 8 _ (by omega) (by omega)]
    have hu : ∀ s, smU w tm' t s = smU v tm t s := fun s => by unfold smU; rw [e5, e]
    have c4 : smS w tm' t x y z n = smS v tm t x y z n := itr_cg (fun s hs b => by unfold smH; rw [hu s, hl s hs])
    have c5 : smM w tm' t x y z n = smM v tm t x y z n := itr_cg (fun s hs b => by unfold smH; rw [hu s, hl s hs])
    simp only [if_pos q, c4, c5]
  · simp only [if_neg q, c1, c2, c3]
theorem sem_cg2 {w v w0 : WD} {fs sn : Nat → Option Nat} {tm tm' : Nat → Nat → Nat} {n tn : Nat} (e : ∀ t, t < tn → tm' t = tm t) (h : ∀ k i, 3 ≤ k → k ≤ 8 → w k i = v k i) (h12 : ∀ t, t < tn → w 12 t = v 12 t) (h22 : ∀ i, i < 48 * n → w 22 i = v 22 i) (T : ∀ i, i < tn → TMt w0 tm i) (t : Nat) : t < tn → ∀ {x y z : Nat}, x < 16 → y < 16 → z < 16 → sem w fs sn n tm' t x y z = sem v fs sn n tm t x y z := by
  induction t using Nat.strongRecOn with
  | _ t ih =>
    intro ht x y z hx hy hz
    have Tt := T t ht
    have Tt' := TMt_tm (e t ht) Tt
    rw [sem_eq Tt', sem_eq (w := v) Tt, semO_cg2 (v := v) (e t ht) h (h12 t ht) h22 Tt hx hy hz]
    refine semO_g Tt (fun a b => ?_) (fun a p hp => ?_)
    · obtain ⟨-, h1, -, h2⟩ := Tt.2.2.2.2.1 a b
      exact ⟨ih _ h1 (by omega) hx hy hz, ih _ h2 (by omega) hx hy hz⟩
    · obtain ⟨-, -, -, h2⟩ := Tt.2.2.2.2.2 a
      exact ih _ h2 (by omega) (pl0_lt hp hx) (pl1_lt hp hy) (pl2_lt hp hz)
theorem tFl_cg {tm tm' : Nat → Nat → Nat} {td td' : Nat → Nat → Int32} {A A' : Nat → Nat} {t tn : Nat} {k : Int64 × Int32 × Int32} {w0 : WD} (e : tm' t = tm t) (ed : td' t = td t) (hA : ∀ s, s < tn → A' s = A s) (T : TMt w0 tm t) (ht : t < tn) : tFl tm' td' A' t k = tFl tm td A t k := by
  have eA : 6 ≤ tm t 0 → A' (tca tm t) = A (tca tm t) ∧ A' (tm t 2) = A (tm t 2) := by
    intro h6
    obtain ⟨-, h14, -, -, t5, t6⟩ := T
    by_cases q : tm t 0 < 14
    · obtain ⟨-, a1, -, a2⟩ := t5 h6 q
      refine ⟨hA _ ?_, hA _ (by omega)⟩
      unfold tca
      rw [if_neg (by omega)]; omega
    · obtain ⟨-, -, -, a2⟩ := t6 (by omega)
      refine ⟨hA _ ?_, hA _ (by omega)⟩
      unfold tca
      rw [if_pos (by omega)]; omega
  have ec : tca tm' t = tca tm t := by unfold tca; rw [e]
  by_cases q : tm t 0 < 6
  · have hk : tkc (tm t 0) = 0 := if_pos q
    rw [tFl_0 (by rw [e]; exact hk), tFl_0 hk]
    unfold tuu tww
    rw [e, ed]
  · obtain ⟨a1, a2⟩ := eA (by omega)
    unfold tFl
    rw [ec, e, ed, a1, a2]
    have hk : tkc (tm t 0) = 3 ∨ tkc (tm t 0) = 6 ∨ tkc (tm t 0) = 8 := by
      unfold tkc
      (repeat' split) <;> omega
    rcases hk with hk | hk | hk <;> rw [hk] <;> rfl
section TN
variable {F : Hf} {B : Nat → Option Nat} {A : Nat → Nat} {td : Nat → Nat → Int32} {K : KT} {c : WD} {v : VD} {tA : Nat → Option Nat} {w w' : WD} {fs sn : Nat → Option Nat} {tm : Nat → Nat → Nat} {x sz n nt tn ch kn : Nat}
theorem emT_new {o : PE} {e : Nat → Nat} {q : Nat → Int32} (hsz : B sz = none) (hBt : ∀ a t, B a = some t → t < tn) (hT : ∀ t, t < tn → TMt w tm t) (ho : o = .inr (tkc (e 0), tFl (atT tm tn e) (atT td tn q) (atT A tn sz) tn ((0 : Int64), (0 : Int32), (-1 : Int32)))) : emT (hup F sz o) B tm td A K = emT (hup F sz o) (atT B sz (some tn)) (atT tm tn e) (atT td tn q) (atT A tn sz) (atT K tn ((0 : Int64), (0 : Int32), (-1 : Int32))) := by
  funext a
  unfold emT
  by_cases qa : a = sz
  · subst qa
    rw [hsz, atT_at]
    dsimp only
    rw [hup_at, atT_at, atT_at]
    exact congrArg some ho
  · rw [atT_of _ _ qa]
    cases hB : B a with
    | none => rfl
    | some t =>
      have ht := hBt a t hB
      dsimp only
      rw [atT_of tm e (show t ≠ tn by omega), atT_of K _ (show t ≠ tn by omega), tFl_cg (tm' := atT tm tn e) (td' := atT td tn q) (A' := atT A tn sz) (atT_of tm e (by omega)) (atT_of td q (by omega)) (fun s hs => atT_of A sz (by omega)) (hT t ht) ht]
theorem FRt_cg {fr fr' : Nat → Int32} {tm tm' : Nat → Nat → Nat} {t : Nat} {w0 : WD} (e : tm' t = tm t) (h : ∀ s, s ≤ t → fr' s = fr s) (T : TMt w0 tm t) (f : FRt fr tm t) : FRt fr' tm' t := by
  obtain ⟨f1, f2, f3, f4⟩ := f
  obtain ⟨-, -, -, -, t5, t6⟩ := T
  unfold FRt
  rw [e, h t (Nat.le_refl t)]
  refine ⟨f1, f2, fun a b => ?_, fun a => ?_⟩
  · obtain ⟨-, a1, -, a2⟩ := t5 a b
    rw [h _ (by omega), h _ (by omega)]
    exact f3 a b
  · obtain ⟨-, -, -, a2⟩ := t6 a
    rw [h _ (by omega)]
    exact f4 a
theorem RLm.term (R : RLm F B A td K c v tA w fs sn tm x sz n nt tn ch kn) (o : PE) {e : Nat → Nat} {q : Nat → Int32} (htn : tn < 60) (hw : ∀ k i, ¬ (10 ≤ k ∧ k ≤ 16 ∧ i = tn) → ¬ (k = 0 ∧ i = 12) → w' k i = w k i) (h12 : w' 0 12 = nI (tn + 1)) (TM : TMt w' (atT tm tn e) tn) (TD : TDt w' (atT tm tn e) (atT td tn q) tn) : RLm (hup F sz o) (atT B sz (some tn)) (atT A tn sz) (atT td tn q) (atT K tn ((0 : Int64), (0 : Int32), (-1 : Int32))) (wU c 0 2 (nI (tn + 1))) v (va_up tA tn (some sz)) w' fs sn (atT tm tn e) x (sz + 1) n nt (tn + 1) ch kn := by
  have hsz := R.hi
  obtain ⟨⟨C, q2, q3, q4, q5, q6, q7, q8, q9, q10, q11⟩, G, h3, h4, W, h6, h7, h8⟩ := R
  obtain ⟨a1, a2, a3, a4, a5⟩ := h6
  have hn30 := C.2.1
  have tmo : ∀ t, t < tn → atT tm tn e t = tm t := fun t ht => atT_of tm e (by omega)
  have tdo : ∀ t, t < tn → atT td tn q t = td t := fun t ht => atT_of td q (by omega)
  have Ao : ∀ t, t < tn → atT A tn sz t = A t := fun t ht => atT_of A sz (by omega)
  have Bo : ∀ a, a ≠ sz → atT B sz (some tn) a = B a := fun a h => atT_of B _ h
  have wo : ∀ k i, 10 ≤ k → i < tn → w' k i = w k i := fun k i h1 h2 => hw k i (by omega) (by omega)
  have wl : ∀ k i, 1 ≤ k → k ≤ 9 → w' k i = w k i := fun k i h1 h2 => hw k i (by omega) (by omega)
  have wh : ∀ k i, 17 ≤ k → w' k i = w k i := fun k i h1 => hw k i (by omega) (by omega)
  have w0 : ∀ i, i ≠ 12 → w' 0 i = w 0 i := fun i h => hw 0 i (by omega) (by omega)
  have w8 : w' 8 = w 8 := funext fun i => wl 8 i (by omega) (by omega)
  have w22 : w' 22 = w 22 := funext fun i => wh 22 i (by omega)
  have TM' : ∀ t, t < tn → TMt w' (atT tm tn e) t := fun t ht => TMt_tm (tmo t ht) (TMt_cg (fun k h1 h2 => wo k t (by omega) ht) (q6 t ht))
  have TMall : ∀ t, t < tn + 1 → TMt w' (atT tm tn e) t := fun t ht => by
    by_cases qt : t = tn
    · rw [qt]; exact TM
    · exact TM' t (by omega)
  have cU : ∀ k, k ≠ 0 → wU c 0 2 (nI (tn + 1)) k = c k := fun k h => wU_off h
  have hsem : ∀ t, t < tn → ∀ a b g, a < 16 → b < 16 → g < 16 → sem (rW w' n) fs sn n (atT tm tn e) t a b g = sem (rW w n) fs sn n tm t a b g := by
    intro t ht a b g ha hb hg
    refine sem_cg2 (tn := tn) tmo (fun k i h1 h2 => ?_) (fun t ht => ?_) (fun i _ => ?_) q6 t ht ha hb hg
    · rw [rW_k _ (by omega), rW_k _ (by omega)]; exact wl k i (by omega) (by omega)
    · rw [rW_k _ (by omega), rW_k _ (by omega)]; exact wo 12 t (by omega) ht
    · unfold rW
      rw [wT_at, wT_at, w8]
  refine ⟨⟨(CS_w C (fun k i h1 h2 => wl k i (by omega) (by omega))).cg (fun k h1 h2 => cU k (by omega)) (by rw [cU 1 (by omega)]), fun s hs => ?_, by rw [cU 1 (by omega)]; exact q3, q4, fun s hs => (q5 s hs).cg (by omega) (fun k hk => cU k (by omega)) (by rw [cU 1 (by omega)]), TMall, ⟨fun t ht => ?_, fun a t h => ?_⟩, fun t ht => ?_, by rw [cU 1 (by omega)]; exact q9, q10, by omega⟩, ?_, ?_, ?_, ?_, ?_, ?_, ?_⟩
  · rw [cU _ (by omega)]; exact q2 s hs
  · by_cases qt : t = tn
    · subst qt
      rw [atT_at, atT_at]
      exact ⟨rfl, by omega⟩
    · have := a3 t (by omega)
      rw [Ao t (by omega), Bo _ (by omega)]
      exact q7.1 t (by omega)
  · by_cases qa : a = sz
    · subst qa
      rw [atT_at] at h
      injection h with h
      rw [← h, atT_at]
    · rw [Bo a qa] at h
      have := a4 a t h
      rw [Ao t (by omega)]
      exact q7.2 a t h
  · by_cases qt : t = tn
    · rw [qt]; exact TD
    · have ht' : t < tn := by omega
      obtain ⟨d1, d2, d3, d4, d5, d6⟩ := q8 t ht'
      unfold TDt
      rw [tmo t ht', tdo t ht', wo 14 t (by omega) ht', wo 15 t (by omega) ht', wo 16 t (by omega) ht', wo 12 t (by omega) ht', wo 11 t (by omega) ht']
      exact ⟨d1, d2, d3, d4, d5, FRt_cg (tmo t ht') (fun s hs => wo 14 s (by omega) (by omega)) (q6 t ht') d6⟩
  · obtain ⟨g1, g2, g3, g4, g5, g6, g7⟩ := G
    refine ⟨(w0 1 (by omega)).trans g1, g2, h12, by omega, ⟨fun s hs => by rw [wl 1 s (by omega) (by omega)]; exact g5.1 s hs, fun s hs => by rw [wl 2 s (by omega) (by omega)]; exact g5.2.1 s hs, g5.2.2⟩, TMall, ?_⟩
    intro e0 i hi
    rw [w0 10 (by omega)] at e0
    rw [w22, w8]
    exact g7 e0 i hi
  · intro t ht
    by_cases qt : t = tn
    · subst qt
      rw [atT_at]
      refine ⟨by simp only []; exact Int.le_trans (by decide) (Int.natCast_nonneg ch), fun e0 => ?_⟩
      have h1 : (-1 : Int32).toInt = (nI ch).toInt := congrArg Int32.toInt e0
      rw [nI_toInt (by omega)] at h1
      have h2 : (-1 : Int32).toInt = -1 := by decide
      omega
    · have ht' : t < tn := by omega
      rw [atT_of K _ qt]
      exact (h3.cg hsem) t ht'
  · obtain ⟨r1, r2⟩ := h4
    rw [← cU 151 (by omega)] at r1
    refine ⟨r1, ?_⟩
    rcases r2 with r2 | ⟨t, ht, r3, r4⟩
    · exact Or.inl r2
    · refine Or.inr ⟨t, by omega, by rw [Ao t ht]; exact r3, fun e0 r hr => ?_⟩
      rw [cU 151 (by omega)] at e0
      rw [cU 152 (by omega), cU 153 (by omega), wo 14 t (by omega) ht]
      have eg : ∀ a b, a < 16 → b < 16 → g2 w' fs sn n (atT tm tn e) t a b = g2 w fs sn n tm t a b := fun a b ha hb => hsem t ht a b 0 ha hb (by omega)
      rw [rwG_c (b := false) eg hr, rwG_c (b := true) eg hr]
      exact r4 e0 r hr
  · obtain ⟨x1, x2, x3⟩ := W
    exact ⟨fun s hs => by rw [wl 5 s (by omega) (by omega)]; exact x1 s hs, fun i hi => by rw [wl 6 i (by omega) (by omega), wl 7 i (by omega) (by omega)]; exact x2 i hi, fun s hs => by rw [wl 4 s (by omega) (by omega)]; exact x3 s hs⟩
  · refine ⟨wU_at, fun t ht => ?_, fun t ht => ?_, fun a t h => ?_, by omega⟩
    · unfold va_up
      by_cases qt : t = tn
      · rw [if_pos qt, qt, atT_at]
      · rw [if_neg qt, Ao t (by omega)]; exact a2 t (by omega)
    · by_cases qt : t = tn
      · rw [qt, atT_at]; omega
      · rw [Ao t (by omega)]; have := a3 t (by omega); omega
    · by_cases qa : a = sz
      · rw [qa, atT_at] at h; injection h with h; omega
      · rw [Bo a qa] at h; have := a4 a t h; omega
  · obtain ⟨k1, k2, k3, k4⟩ := h7
    refine ⟨by rw [wU_ap, if_neg (by omega)]; exact k1, by rw [w0 27 (by omega)]; exact k2, k3, fun k hk => ?_⟩
    obtain ⟨t, t1, t2, t3, t4, t5⟩ := k4 k hk
    refine ⟨t, by omega, by rw [Ao t t1]; exact t2, by rw [wh 24 k (by omega)]; exact t3, ?_, fun r hr => by rw [cU _ (by omega), wh 25 _ (by omega)]; exact t5 r hr⟩
    unfold lacA at t4 ⊢
    rw [wo 14 t (by omega) t1, wo 15 t (by omega) t1]
    exact t4
  · have aux : ∀ d, d < 8 → ∀ tg qq, SHa F B w x sz d tg qq → SHa (hup F sz o) (atT B sz (some tn)) w' x (sz + 1) d tg qq := by
      intro d hd tg qq hq
      obtain ⟨e1, g, s1, s2, s3, s4, s5, s6, s7, s8⟩ := hq
      exact ⟨e1, g, s1, by rw [wh 28 d (by omega)]; exact s2, s3, by omega, by rw [Bo qq (by omega)]; exact s5, by rw [hup_of (by omega)]; exact s6, fun i hi => by rw [wh 29 _ (by omega)]; exact s7 i hi, s8⟩
    refine ⟨fun d hd => ?_, h8.2⟩
    have hd1 := h8.1 d hd
    unfold SH1 at hd1 ⊢
    rw [wh 26 d (by omega), wh 27 d (by omega)]
    rcases hd1 with h | ⟨b1, b2, b3, t, b4, b5, b6⟩ | ⟨b1, b2, b3, qq, b4, b5⟩ | ⟨b1, b2, b3, qq, b4, b5⟩
    · exact Or.inl h
    · exact Or.inr (Or.inl ⟨b1, b2, b3, t, by omega, by rw [Ao t b4]; exact b5, b6⟩)
    · exact Or.inr (Or.inr (Or.inl ⟨b1, b2, b3, qq, b4, aux d hd 0 qq b5⟩))
    · exact Or.inr (Or.inr (Or.inr ⟨b1, b2, b3, qq, b4, aux d hd 1 qq b5⟩))
end TN
