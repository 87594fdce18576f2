/-! class and reference side by side: the relation -/
def WBd (w : WD) (n : Nat) : Prop := (∀ s, s < 30 → ∃ r, w 5 s = bI r) ∧ (∀ i, i < 480 → (∃ q, q < 128 ∧ w 6 i = nI q) ∧ (∃ q, q < 128 ∧ w 7 i = nI q)) ∧ (∀ s, s < n → ∀ k, k < 32 → tb (w 4 s) k = true → k < 16)
/-- the kept terms -/
def KPt (c : WD) (v : VD) (w : WD) (tn : Nat) (A : Nat → Nat) (kn : Nat) : Prop := c 0 4 = nI kn ∧ w 0 27 = nI kn ∧ kn ≤ 6 ∧ ∀ k, k < kn → ∃ t, t < tn ∧ v (130 + 2 * k) 0 = .ref (A t) ∧ w 24 k = nI t ∧ lacA w t = 0 ∧ ∀ r, r < 256 → c (131 + 2 * k) r = w 25 (256 * k + r)
/-- a row on a shelf -/
def SHa (F : Hf) (B : Nat → Option Nat) (w : WD) (x sz d tg q : Nat) : Prop := ∃ e g, e ≤ 60 ∧ w 28 d = nI e ∧ x + 186 ≤ q ∧ q < sz ∧ B q = none ∧ F q = some (.inl (tg, e, .inl g)) ∧ (∀ i, i < e → g i = w 29 (60 * d + i)) ∧ (tg = 1 → ∀ i, i < e → fits .byte (.int (g i)) = true)
def SH1 (F : Hf) (B : Nat → Option Nat) (v : VD) (w : WD) (tn : Nat) (A : Nat → Nat) (x sz d : Nat) : Prop :=
  (w 26 d = nI 0 ∧ v (143 + d) 0 = .null ∧ v (143 + d) 1 = .null ∧ v (143 + d) 2 = .null) ∨
  (w 26 d = nI 1 ∧ v (143 + d) 1 = .null ∧ v (143 + d) 2 = .null ∧ ∃ t, t < tn ∧ v (143 + d) 0 = .ref (A t) ∧ w 27 d = nI t) ∨
  (w 26 d = nI 3 ∧ v (143 + d) 0 = .null ∧ v (143 + d) 2 = .null ∧ ∃ q, v (143 + d) 1 = .ref q ∧ SHa F B w x sz d 0 q) ∨
  (w 26 d = nI 4 ∧ v (143 + d) 0 = .null ∧ v (143 + d) 1 = .null ∧ ∃ q, v (143 + d) 2 = .ref q ∧ SHa F B w x sz d 1 q)
def hasA (v : VD) (d q : Nat) : Prop := v (143 + d) 1 = .ref q ∨ v (143 + d) 2 = .ref q
def SHt (F : Hf) (B : Nat → Option Nat) (v : VD) (w : WD) (tn : Nat) (A : Nat → Nat) (x sz : Nat) : Prop := (∀ d, d < 8 → SH1 F B v w tn A x sz d) ∧ (∀ d e, d < 8 → e < 8 → d ≠ e → ∀ q, hasA v d q → ¬ hasA v e q)
/-- where the terms lie -/
def ADt (c : WD) (tA : Nat → Option Nat) (B : Nat → Option Nat) (A : Nat → Nat) (x sz tn : Nat) : Prop := c 0 2 = nI tn ∧ (∀ t, t < tn → tA t = some (A t)) ∧ (∀ t, t < tn → x + 186 ≤ A t ∧ A t < sz) ∧ (∀ a t, B a = some t → t < tn) ∧ x + 186 ≤ sz
def RLm (F : Hf) (B : Nat → Option Nat) (A : Nat → Nat) (td : Nat → Nat → Int32) (K : KT) (c : WD) (v : VD) (tA : Nat → Option Nat) (w : WD) (fs sn : Nat → Option Nat) (tm : Nat → Nat → Nat) (x sz n nt tn ch kn : Nat) : Prop :=
  ASP c w fs sn n nt tn tm td A B x ch ∧ GW w n tn fs sn tm ∧ KO (sem (rW w n) fs sn n tm) tn ch K ∧ ROk c v w fs sn n tn ch tm A ∧ WBd w n ∧ ADt c tA B A x sz tn ∧ KPt c v w tn A kn ∧ SHt F B v w tn A x sz
def RelC (x : Nat) (w : WD) (ch : Nat) (h : Hp) : Prop := ∃ (F : Hf) (B : Nat → Option Nat) (A : Nat → Nat) (td : Nat → Nat → Int32) (K : KT) (c : WD) (y : Nat → Int64) (v : VD) (tA fs sn : Nat → Option Nat) (tm : Nat → Nat → Nat) (n nt tn kn : Nat), h.2.2 = emC (emT F B tm td A K) x c y v tA ∧ RLm F B A td K c v tA w fs sn tm x h.1 n nt tn ch kn
/-- what a call of the class leaves as it is, and what it takes of the room -/
def FRm (x : Nat) (h h1 : Hp) : Prop := h.1 ≤ h1.1 ∧ h1.1 ≤ h.1 + 1 ∧ h.2.1 ≤ h1.2.1 ∧ h1.2.1 ≤ h.2.1 + 64 ∧ ∀ a, x + 154 ≤ a → a < x + 186 → h1.2.2 a = h.2.2 a
theorem FRm.refl (x : Nat) (h : Hp) : FRm x h h := ⟨Nat.le_refl _, by omega, Nat.le_refl _, by omega, fun _ _ _ => rfl⟩
/-- a call of the class and the same call of the reference -/
def OpOK (x : Nat) (w : WD) (ch : Nat) (h : Hp) (miC : Nat) (aC : List (Option Value)) (miR : Nat) (aR : Nat → List (Option Value)) : Prop :=
  ∃ ans h1, Ev 300 miC 0 aC [] h = some (some (.int ans), h1) ∧ FRm x h h1 ∧
    ∀ f m sz us y, ∃ w' y', Ev 300 miR 0 (aR m) [] (sz, us, emR f m w y) = some (some (.int ans), (sz, us, emR f m w' y')) ∧ ∃ ch1, ch1 ≤ ch + 1 ∧ RelC x w' ch1 h1
theorem SHa.cg {F F' : Hf} {B : Nat → Option Nat} {w w' : WD} {x sz sz' d tg q : Nat} (h : SHa F B w x sz d tg q) (hF : F' q = F q) (hz : sz ≤ sz') (h8 : w' 28 d = w 28 d) (h9 : ∀ i, i < 60 → w' 29 (60 * d + i) = w 29 (60 * d + i)) : SHa F' B w' x sz' d tg q := by
  obtain ⟨e, g, h1, h2, h3, h4, h5, h6, h7, h8'⟩ := h
  exact ⟨e, g, h1, by rw [h8]; exact h2, h3, by omega, h5, by rw [hF]; exact h6, fun i hi => by rw [h9 i (by omega)]; exact h7 i hi, h8'⟩
theorem SH1.cg {F F' : Hf} {B : Nat → Option Nat} {v v' : VD} {w w' : WD} {tn x sz sz' d : Nat} {A : Nat → Nat} (h : SH1 F B v w tn A x sz d) (hF : ∀ q, x + 186 ≤ q → hasA v d q → F' q = F q) (hz : sz ≤ sz') (hv : ∀ i, v' (143 + d) i = v (143 + d) i) (hw : ∀ k, 26 ≤ k → k ≤ 28 → w' k d = w k d) (h9 : ∀ i, i < 60 → w' 29 (60 * d + i) = w 29 (60 * d + i)) : SH1 F' B v' w' tn A x sz' d := by
  unfold SH1 at h ⊢
  rw [hv, hv, hv, hw 26 (by omega) (by omega), hw 27 (by omega) (by omega)]
  rcases h with h | h | ⟨h1, h2, h3, q, h4, h5⟩ | ⟨h1, h2, h3, q, h4, h5⟩
  · exact Or.inl h
  · exact Or.inr (Or.inl h)
  · exact Or.inr (Or.inr (Or.inl ⟨h1, h2, h3, q, h4, h5.cg (hF q h5.choose_spec.choose_spec.2.2.1 (Or.inl h4)) hz (hw 28 (by omega) (by omega)) h9⟩))
  · exact Or.inr (Or.inr (Or.inr ⟨h1, h2, h3, q, h4, h5.cg (hF q h5.choose_spec.choose_spec.2.2.1 (Or.inr h4)) hz (hw 28 (by omega) (by omega)) h9⟩))
theorem SHt.cg {F F' : Hf} {B : Nat → Option Nat} {v v' : VD} {w w' : WD} {tn x sz sz' : Nat} {A : Nat → Nat} (h : SHt F B v w tn A x sz) (hF : ∀ q, x + 186 ≤ q → q < sz → F' q = F q) (hz : sz ≤ sz') (hv : ∀ d, d < 8 → ∀ i, v' (143 + d) i = v (143 + d) i) (hw : ∀ k i, 26 ≤ k → k ≤ 29 → w' k i = w k i) : SHt F' B v' w' tn A x sz' := by
  refine ⟨fun d hd => ?_, fun d e hd he hde q => ?_⟩
  · have h1 := h.1 d hd
    refine h1.cg (fun q hq hA => hF q hq ?_) hz (hv d hd) (fun k a b => hw k d a (by omega)) (fun i _ => hw 29 _ (by omega) (by omega))
    rcases h1 with h | h | ⟨-, h2, h3, r, h4, h5⟩ | ⟨-, h2, h3, r, h4, h5⟩
    · rcases hA with hA | hA
      · rw [h.2.2.1] at hA; cases hA
      · rw [h.2.2.2] at hA; cases hA
    · rcases hA with hA | hA
      · rw [h.2.1] at hA; cases hA
      · rw [h.2.2.1] at hA; cases hA
    · rcases hA with hA | hA
      · rw [h4] at hA; injection hA with hA; subst hA; exact h5.choose_spec.choose_spec.2.2.2.1
      · rw [h3] at hA; cases hA
    · rcases hA with hA | hA
      · rw [h3] at hA; cases hA
      · rw [h4] at hA; injection hA with hA; subst hA; exact h5.choose_spec.choose_spec.2.2.2.1
  · unfold hasA
    rw [hv d hd, hv d hd, hv e he, hv e he]
    exact h.2 d e hd he hde q
/-- the cells of the reference and the like may change -/
theorem RelC.frame {x ch : Nat} {w : WD} {h : Hp} {hf : Hf} (R : RelC x w ch h) (hz : ∀ a, ¬ (x + 154 ≤ a ∧ a < x + 186) → hf a = h.2.2 a) : RelC x w ch (h.1, h.2.1, hf) := by
  obtain ⟨F, B, A, td, K, c, y, v, tA, fs, sn, tm, n, nt, tn, kn, e, h1, h2, h3, h4, h5, h6, h7, h8⟩ := R
  have hBn : ∀ a, x + 154 ≤ a → a < x + 186 → B a = none := by
    intro a ha hb
    cases hB : B a with
    | none => rfl
    | some t =>
      have e1 := h1.2.2.2.2.2.2.1.2 a t hB
      have e2 := h6.2.2.1 t (h6.2.2.2.1 a t hB)
      omega
  refine ⟨fun a => if x + 154 ≤ a ∧ a < x + 186 then hf a else F a, B, A, td, K, c, y, v, tA, fs, sn, tm, n, nt, tn, kn, ?_, h1, h2, h3, h4, h5, h6, h7, h8.cg (fun q hq _ => if_neg (by omega)) (Nat.le_refl _) (fun _ _ _ => rfl) (fun _ _ _ _ => rfl)⟩
  show hf = _
  funext a
  by_cases q : x + 154 ≤ a ∧ a < x + 186
  · rw [emC_off _ _ _ _ _ _ _ (by omega)]
    unfold emT
    rw [hBn a q.1 q.2]
    exact (if_pos q).symm
  · rw [hz a q, e]
    unfold emC emT
    by_cases q2 : x ≤ a ∧ a < x + 154
    · rw [if_pos q2, if_pos q2]
    · rw [if_neg q2, if_neg q2]
      cases B a with
      | some t => rfl
      | none => exact (if_neg q).symm
theorem RLm.lo {F : Hf} {B : Nat → Option Nat} {A : Nat → Nat} {td : Nat → Nat → Int32} {K : KT} {c : WD} {v : VD} {tA : Nat → Option Nat} {w : WD} {fs sn : Nat → Option Nat} {tm : Nat → Nat → Nat} {x sz n nt tn ch kn : Nat} (R : RLm F B A td K c v tA w fs sn tm x sz n nt tn ch kn) {a : Nat} (ha : x + 154 ≤ a) (hb : a < x + 186) : B a = none := by
  cases hB : B a with
  | none => rfl
  | some t =>
    have e1 := R.1.2.2.2.2.2.2.1.2 a t hB
    have e2 := R.2.2.2.2.2.1.2.2.1 t (R.2.2.2.2.2.1.2.2.2.1 a t hB)
    omega
theorem RLm.hi {F : Hf} {B : Nat → Option Nat} {A : Nat → Nat} {td : Nat → Nat → Int32} {K : KT} {c : WD} {v : VD} {tA : Nat → Option Nat} {w : WD} {fs sn : Nat → Option Nat} {tm : Nat → Nat → Nat} {x sz n nt tn ch kn : Nat} (R : RLm F B A td K c v tA w fs sn tm x sz n nt tn ch kn) : B sz = none := by
  cases hB : B sz with
  | none => rfl
  | some t =>
    have e1 := R.1.2.2.2.2.2.2.1.2 sz t hB
    have e2 := R.2.2.2.2.2.1.2.2.1 t (R.2.2.2.2.2.1.2.2.2.1 sz t hB)
    omega
/-- heaps of the class agree at the reference's cells where their other parts do -/
theorem emCT_lo {F F' : Hf} {B B' : Nat → Option Nat} {A A' : Nat → Nat} {td td' : Nat → Nat → Int32} {K K' : KT} {c c' : WD} {y y' : Nat → Int64} {v v' : VD} {tA tA' : Nat → Option Nat} {tm tm' : Nat → Nat → Nat} {x a : Nat} (ha : x + 154 ≤ a) (h1 : B a = none) (h2 : B' a = none) (hF : F' a = F a) : emC (emT F' B' tm' td' A' K') x c' y' v' tA' a = emC (emT F B tm td A K) x c y v tA a := by
  rw [emC_off _ _ _ _ _ _ _ (Or.inr ha), emC_off _ _ _ _ _ _ _ (Or.inr ha)]
  unfold emT
  rw [h1, h2]
  exact hF
/-- calls that change nothing at all -/
theorem OpOK.pure {x ch : Nat} {w : WD} {h : Hp} {miC miR : Nat} {aC : List (Option Value)} {aR : Nat → List (Option Value)} (R : RelC x w ch h) (ans : Int32) (h1 : Ev 300 miC 0 aC [] h = some (some (.int ans), h)) (h2 : ∀ f m sz us y, Ev 300 miR 0 (aR m) [] (sz, us, emR f m w y) = some (some (.int ans), (sz, us, emR f m w y))) : OpOK x w ch h miC aC miR aR :=
  ⟨ans, h, h1, FRm.refl x h, fun f m sz us y => ⟨w, y, h2 f m sz us y, ch, by omega, R⟩⟩
