/-! what the pure machine does, the real one does -/
def HRl (D : va_G) (cA : Nat → ClassId) (f : Hf) (H : Heap) : Prop := ∀ a e, f a = some e → va_at D vwCl (a, tow cA e) H
def AN (n0 : Nat) : Nat → Prop := fun q => n0 ≤ q
def DY (D : va_G) (cA : Nat → ClassId) (n0 : Nat) (H0 : Heap) (h : Hp) (H : Heap) (locs : List Loc) : Prop := H.size = h.1 ∧ HRl D cA h.2.2 H ∧ va_S (AN n0) H0 H locs ∧ ∀ a e, h.2.2 a = some e → n0 ≤ a
def NW (U : State) : Prop := ∀ w, NB w → w.before #[] U = true
def SCk (n0 : Nat) (s : State) (H0 : Heap) (scr : SC) : Prop := ∀ q, scr = some q → va_X q.1 q.2.1 q.2.2 s H0 ∧ q.1 < H0.size ∧ q.1 < n0 ∧ q.2.1 < 2 ^ 31
def CX (p : Program) (s : State) (m : MethodId) (args : Array Value) (meth : Method) (c : Code) (cc : ByteArray) (oc : Nat) (ini : Bool) (D : va_G) (cA : Nat → ClassId) (n0 : Nat) (H0 : Heap) : Prop :=
  p.tables.exec = Jvm.exec ∧ c.code = cc ∧ s.vm.findClass (ocn oc) = some m.cls ∧ (∀ w ∈ BG, w.before args s = true) ∧ va_K D vwCl (tyL cA) s ∧ NW s ∧ n0 ≤ H0.size ∧ (ini = true → meth.name = "<init>")
def LR (la : Array Slot) (ls : LL) : Prop := ∃ l, lv_has la ls.length l ∧ ∀ i v, ls[i]? = some (some v) → (i, v) ∈ l
theorem lkp_at {ls : LL} {i : Nat} {v : Value} (h : lkp ls i = some v) : ls[i]? = some (some v) := by
  unfold lkp at h
  cases hh : ls[i]? with
  | none => rw [hh] at h; cases h
  | some o => rw [hh] at h; cases o with
    | none => cases h
    | some w => cases h; rfl
theorem LR.at {la : Array Slot} {ls : LL} {i : Nat} {v : Value} (h : LR la ls) (hk : lkp ls i = some v) : la[i]? = some (.val v) := by
  obtain ⟨l, hl, hm⟩ := h
  exact hl.2.2 (i, v) (hm i v (lkp_at hk))
theorem LR.size {la : Array Slot} {ls : LL} (h : LR la ls) : la.size = ls.length := h.choose_spec.1.1
theorem sto_len : ∀ (ls : LL) (i : Nat) (v : Value), (sto ls i v).length = ls.length
  | [], _, _ => by simp [sto]
  | _ :: r, 0, v => by simp [sto]
  | o :: r, 1, v => by simp [sto, sto_len r 0 v]
  | o :: r, n + 2, v => by simp [sto, sto_len r (n + 1) v]
theorem clr_some {o : Option Value} {w : Value} (h : clr o = some w) : o = some w ∧ w.category ≠ 2 := by
  cases o with
  | none => simp [clr] at h
  | some x => cases x <;> simp [clr] at h <;> subst h <;> simp [Value.category]
theorem sto_at : ∀ (ls : LL) (i : Nat) (v : Value) (j : Nat) (w : Value), (sto ls i v)[j]? = some (some w) → (j = i ∧ w = v) ∨ (j ≠ i ∧ ls[j]? = some (some w) ∧ ¬ (j + 1 = i ∧ w.category = 2))
  | [], _, _, j, w, h => by simp [sto] at h
  | o :: r, 0, v, j, w, h => by
    cases j with
    | zero => simp [sto] at h; exact Or.inl ⟨rfl, h.symm⟩
    | succ j => simp [sto] at h; exact Or.inr ⟨by omega, by simpa using h, by omega⟩
  | o :: r, 1, v, j, w, h => by
    cases j with
    | zero => simp [sto] at h; obtain ⟨h1, h2⟩ := clr_some h; exact Or.inr ⟨by omega, by simp [h1], fun q => h2 q.2⟩
    | succ j =>
      simp only [sto, List.getElem?_cons_succ] at h
      rcases sto_at r 0 v j w h with ⟨h1, h2⟩ | ⟨h1, h2, h3⟩
      · exact Or.inl ⟨by omega, h2⟩
      · exact Or.inr ⟨by omega, by simpa using h2, by omega⟩
  | o :: r, n + 2, v, j, w, h => by
    cases j with
    | zero => simp [sto] at h; exact Or.inr ⟨by omega, by simp [h], by omega⟩
    | succ j =>
      simp only [sto, List.getElem?_cons_succ] at h
      rcases sto_at r (n + 1) v j w h with ⟨h1, h2⟩ | ⟨h1, h2, h3⟩
      · exact Or.inl ⟨by omega, h2⟩
      · exact Or.inr ⟨by omega, by simpa using h2, fun q => h3 ⟨by omega, q.2⟩⟩
theorem sto_mem {ls : LL} {l : List (Nat × Value)} {i : Nat} {v : Value} (hm : ∀ i v, ls[i]? = some (some v) → (i, v) ∈ l) : ∀ j w, (sto ls i v)[j]? = some (some w) → (j, w) ∈ (i, v) :: l.filter (fun q => !(q.1 == i) && !(q.1 + 1 == i && q.2.category == 2)) := by
  intro j w h
  rcases sto_at ls i v j w h with ⟨rfl, rfl⟩ | ⟨h1, h2, h3⟩
  · exact List.mem_cons_self
  · refine List.mem_cons_of_mem _ (List.mem_filter.mpr ⟨hm j w h2, ?_⟩)
    simp only [Bool.and_eq_true, Bool.not_eq_true', beq_eq_false_iff_ne, ne_eq, Bool.and_eq_false_iff]
    refine ⟨h1, ?_⟩
    by_cases q : j + 1 = i
    · right; exact fun c => h3 ⟨q, c⟩
    · left; exact q
theorem sto_mem2 {ls : LL} {l : List (Nat × Value)} {i : Nat} {v : Value} (hm : ∀ i v, ls[i]? = some (some v) → (i, v) ∈ l) : ∀ j w, ((sto ls i v).set (i + 1) none)[j]? = some (some w) → (j, w) ∈ (i, v) :: l.filter (fun q => !(q.1 == i) && (!(q.1 == i + 1) && !(q.1 + 1 == i && q.2.category == 2))) := by
  intro j w h
  have hj : j ≠ i + 1 := by
    intro e
    subst e
    rw [List.getElem?_set_self'] at h
    cases hh : (sto ls i v)[i + 1]? with
    | none => rw [hh] at h; simp at h
    | some o => rw [hh] at h; simp at h
  rw [List.getElem?_set_ne (fun e => hj e.symm)] at h
  rcases sto_at ls i v j w h with ⟨rfl, rfl⟩ | ⟨h1, h2, h3⟩
  · exact List.mem_cons_self
  · refine List.mem_cons_of_mem _ (List.mem_filter.mpr ⟨hm j w h2, ?_⟩)
    simp only [Bool.and_eq_true, Bool.not_eq_true', beq_eq_false_iff_ne, ne_eq, Bool.and_eq_false_iff]
    refine ⟨h1, hj, ?_⟩
    by_cases q : j + 1 = i
    · right; exact fun c => h3 ⟨q, c⟩
    · left; exact q
theorem vin_of {i : Int32} {n : Nat} (h : 0 ≤ i.toInt ∧ i.toInt < n) : vp_in i n := vp_in_iff.mpr h
theorem HRl.put {D : va_G} {cA : Nat → ClassId} {f : Hf} {H H1 : Heap} {a : Nat} {e : PE} (h : HRl D cA f H) (hn : va_at D vwCl (a, tow cA e) H1) (oq : ∀ q, q ≠ a → H1[q]? = H[q]?) : HRl D cA (hup f a e) H1 := by
  intro b e' hb
  unfold hup at hb
  split at hb
  · cases hb; subst_vars; exact hn
  · exact (h b e' hb).kept (oq b (by assumption))
theorem DY.put {D : va_G} {cA : Nat → ClassId} {n0 : Nat} {H0 : Heap} {h : Hp} {H H1 : Heap} {locs : List Loc} {a k : Nat} {e e0 : PE} (Y : DY D cA n0 H0 h H locs) (h0 : h.2.2 a = some e0) (hn : va_at D vwCl (a, tow cA e) H1) (z : H1.size = H.size) (oq : ∀ q, q ≠ a → H1[q]? = H[q]?) : DY D cA n0 H0 (h.1, h.2.1, hup h.2.2 a e) H1 (locs ++ [⟨a, k⟩]) := by
  obtain ⟨y1, y2, y3, y4⟩ := Y
  refine ⟨z.trans y1, y2.put hn oq, y3.put z oq (y4 a e0 h0), fun b e' hb => ?_⟩
  simp only [hup] at hb
  split at hb
  · subst_vars; exact y4 _ e0 h0
  · exact y4 b e' hb
theorem DY.new {D : va_G} {cA : Nat → ClassId} {n0 : Nat} {H0 : Heap} {h : Hp} {H H1 : Heap} {locs : List Loc} {u : Nat} {e : PE} (Y : DY D cA n0 H0 h H locs) (hn0 : n0 ≤ H0.size) (hn : va_at D vwCl (h.1, tow cA e) H1) (z : H1.size = h.1 + 1) (oq : ∀ q, q < h.1 → H1[q]? = H[q]?) : DY D cA n0 H0 (h.1 + 1, u, hup h.2.2 h.1 e) H1 locs := by
  obtain ⟨y1, y2, y3, y4⟩ := Y
  refine ⟨z, fun b e' hb => ?_, ⟨by rw [z]; exact Nat.le_trans y3.1 (by omega), fun q h1 h2 => (oq q (by have := y3.1; omega)).trans (y3.2.1 q h1 h2), y3.2.2⟩, fun b e' hb => ?_⟩
  · simp only [hup] at hb
    split at hb
    · cases hb; subst_vars; exact hn
    · have h1 := y2 b e' hb
      exact h1.kept (oq b (by have := h1.lt; rw [y1] at this; exact this))
  · simp only [hup] at hb
    split at hb
    · subst_vars; have := y3.1; omega
    · exact y4 b e' hb
theorem tg_ok {pc t : Nat} {off : Int} (h : tg pc off = some t) : (pc : Int) + off = (t : Int) := by
  unfold tg at h
  split at h
  · cases h; omega
  · cases h
theorem fsl_ok {oc i ci k : Nat} (h : fsl oc i ci = some k) : ∃ e, fok e ∧ e.1 = oc ∧ e.2.1 = i ∧ e.2.2.1 = ci ∧ e.2.2.2.1 = k := by
  unfold fsl at h
  cases hf : ftL.find? (fun e => e.1 == oc && e.2.1 == i && e.2.2.1 == ci) with
  | none => rw [hf] at h; cases h
  | some e =>
    rw [hf] at h
    have hm := List.mem_of_find?_eq_some hf
    have hp := List.find?_some hf
    simp only [Bool.and_eq_true, beq_iff_eq] at hp
    exact ⟨e, ftL_ok e hm, hp.1.1, hp.1.2, hp.2, Option.some.inj h⟩
theorem vwCl_at : ∀ ci, ci < 11 → vwCl[ci]? = some (cin ci, cit ci, ciN ci) := by
  intro ci h
  match ci, h with
  | 0, _ | 1, _ | 2, _ | 3, _ | 4, _ | 5, _ | 6, _ | 7, _ | 8, _ | 9, _ | 10, _ => rfl
  | n + 11, h => omega
theorem cit_in : ∀ ci, ci < 11 → ∀ w ∈ u_ws (cin ci) (cit ci) (ciN ci), w ∈ BG := by
  intro ci h
  match ci, h with
  | 0, _ => exact iu_0
  | 1, _ => exact iu_1
  | 2, _ => exact iu_2
  | 3, _ => exact iu_3
  | 4, _ => exact iu_4
  | 5, _ => exact iu_5
  | 6, _ => exact iu_6
  | 7, _ => exact iu_7
  | 8, _ => exact iu_8
  | 9, _ => exact iu_9
  | 10, _ => exact iu_10
  | n + 11, h => omega
theorem cit_nm : ∀ ci, ci < 11 → ∀ a, a < ciN ci → ∀ b, b < ciN ci → a ≠ b → (cit ci a).2.1 ≠ (cit ci b).2.1 := by
  intro ci h
  match ci, h with
  | 0, _ => exact nmX0
  | 1, _ => exact nmX1
  | 2, _ => exact nmX3
  | 3, _ => exact nmX4
  | 4, _ => exact nmX5
  | 5, _ => exact nmX6
  | 6, _ => exact nmX7
  | 7, _ => exact nmX8
  | 8, _ => exact nmX10
  | 9, _ => exact nmX11
  | 10, _ => exact nmX12
  | n + 11, h => omega
theorem cit_ty : ∀ ci, ci < 11 → ∀ k, k < ciN ci → parseFieldDescriptor (cit ci k).2.2.1 = some (cty ci k) := by
  intro ci h
  match ci, h with
  | 0, _ => exact tyX0_ok
  | 1, _ => exact tyX1_ok
  | 2, _ => exact tyX3_ok
  | 3, _ => exact tyX4_ok
  | 4, _ => exact tyX5_ok
  | 5, _ => exact tyX6_ok
  | 6, _ => exact tyX7_ok
  | 7, _ => exact tyX8_ok
  | 8, _ => exact tyX10_ok
  | 9, _ => exact tyX11_ok
  | 10, _ => exact tyX12_ok
  | n + 11, h => omega
theorem cdf_ok : ∀ ci, ci < 11 → ∀ j, j < ciN ci → defaultValue (cty ci j) = vp_V (cdf ci) j := by
  have key : ∀ ci, ci < 11 → (List.range (ciN ci)).all (fun j => decide (defaultValue (cty ci j) = vp_V (cdf ci) j)) = true := by decide +kernel
  intro ci h j hj
  have := List.all_eq_true.mp (key ci h) j (List.mem_range.mpr hj)
  simpa using this
section SND
variable {p : Program} {l : Launch} {e : Env} {R : Room} {s : State} {m : MethodId} {args : Array Value} {below : List Frame} {meth : Method} {c : Code} {H : Heap} {locs : List Loc} {cells slots : Nat} {Q : State → Prop}
variable {cc : ByteArray} {pc : Nat} {la : Array Slot} {D : va_G} {cA : Nat → ClassId} {n0 : Nat} {H0 : Heap} {h h' : Hp} {oc : Nat} {ini : Bool} {ls ls' : LL} {st st' : List Value} {pc' : Nat}
theorem at_ref {a : Nat} {pe : PE} (Y : DY D cA n0 H0 h H locs) (ha : h.2.2 a = some pe) : va_P D vwCl [(a, tow cA pe)] H := by
  intro k q hk
  cases k with
  | zero => simp at hk; subst hk; exact Y.2.1 a pe ha
  | succ k => simp at hk
theorem snd_get {i a : Nat} {v : Value} {r : List Value} (C : CX p s m args meth c cc oc ini D cA n0 H0) (Y : DY D cA n0 H0 h H locs) (hg : gfl oc i (h.2.2 a) = some v) (hd : decode cc pc = .ok (.getfield i, 3))
    (k : W p l e R s m args below meth c H locs cells slots Q (F0 m (pc + 3) la (v :: r))) : W p l e R s m args below meth c H locs cells slots Q (F0 m pc la (.ref a :: r)) := by
  obtain ⟨hx, hb, hown, hts, hK, hN, hn0, hini⟩ := C
  unfold gfl at hg
  split at hg
  · rename_i ci fs hc
    split at hg
    · rename_i kk hk
      obtain ⟨⟨a1, a2, a3, a4, ref, host⟩, ⟨g1, g2, g3, g4⟩, q1, q2, q3, q4⟩ := fsl_ok hk
      dsimp only at q1 q2 q3 q4 g1 g2 g3 g4
      subst q1; subst q2; subst q3; subst q4
      have hP := at_ref Y hc
      have hsame : ∀ x, s.fieldFound? (cit a3 a4).1 (cit a3 a4).2.1 (cit a3 a4).2.2.1 = some x → s.fieldFound? ref (cit a3 a4).2.1 (cit a3 a4).2.2.1 = some x := by
        intro x hxx
        rcases g4 with rfl | g4
        · exact hxx
        · exact u_same (hts _ g4) x hxx
      rcases g3 with ⟨-, g3⟩ | ⟨-, -, g3⟩
      · exact va_get (D := D) (ci := a3) (v := v) (C := cin a3) (T := cit a3) (N := ciN a3) hx hb hts (cit_in a3 g1) hown hK hP 0 rfl (vwCl_at a3 g1) a4 g2 (hts _ g3) hsame hg hd k
      · exact va_getN (D := D) (ci := a3) (v := v) (C := cin a3) (T := cit a3) (N := ciN a3) hx hb hts (cit_in a3 g1) hown hK hP 0 rfl (vwCl_at a3 g1) a4 g2 (va_Nw.use (A := args) rfl (hN _ g3)) hsame hg hd k
    · cases hg
  · cases hg
end SND
