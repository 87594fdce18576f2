/-! a run of the pure machine is a run of the real one -/
theorem ent_len {n : Nat} {as : List Value} (h : (entL as).length ≤ n) : (ent n as).length = n := by
  unfold ent
  rw [List.length_append, List.length_replicate]
  omega
theorem entL_len (as : List Value) : (entL as).length = (lg_sl as).length := by
  induction as with
  | nil => rfl
  | cons v t ih =>
    unfold entL lg_sl at *
    rw [List.flatMap_cons, List.flatMap_cons, List.length_append, List.length_append, ih]
    congr 1
    split <;> rfl
theorem entL_mem (as : List Value) : ∀ (o i : Nat) (v : Value), (entL as)[i]? = some (some v) → (o + i, v) ∈ lv_args o as := by
  induction as with
  | nil => intro o i v h; simp [entL] at h
  | cons w t ih =>
    intro o i v h
    unfold entL at h
    rw [List.flatMap_cons] at h
    by_cases hc : w.category = 2
    · rw [if_pos hc] at h
      match i, h with
      | 0, h => simp at h; subst h; simp [lv_args]
      | 1, h => simp at h
      | i + 2, h =>
        have := ih (o + 2) i v (by simpa [entL] using h)
        simp only [lv_args, if_pos hc]
        refine List.mem_cons_of_mem _ ?_
        rw [show o + (i + 2) = o + 2 + i by omega]
        exact this
    · rw [if_neg hc] at h
      match i, h with
      | 0, h => simp at h; subst h; simp [lv_args]
      | i + 1, h =>
        have := ih (o + 1) i v (by simpa [entL] using h)
        simp only [lv_args, if_neg hc]
        refine List.mem_cons_of_mem _ ?_
        rw [show o + (i + 1) = o + 1 + i by omega]
        exact this
theorem ent_mem {n : Nat} {as : List Value} {i : Nat} {v : Value} (h : (ent n as)[i]? = some (some v)) : (i, v) ∈ lv_args 0 as := by
  unfold ent at h
  by_cases hl : i < (entL as).length
  · rw [List.getElem?_append_left hl] at h
    have := entL_mem as 0 i v h
    simpa using this
  · rw [List.getElem?_append_right (by omega), List.getElem?_replicate] at h
    split at h <;> simp at h
theorem ent_LR {n : Nat} {as : List Value} (h : (entL as).length ≤ n) : LR ((lg_sl as ++ List.replicate (n - (lg_sl as).length) Slot.unset).toArray) (ent n as) := by
  refine ⟨lv_args 0 as, ?_, fun i v hi => ent_mem hi⟩
  rw [ent_len h]
  exact lv_entry as (by rw [← entL_len]; exact h)
section RUN
variable {p : Program} {l : Launch} {e : Env} {R : Room} {s : State} {m : MethodId} {args : Array Value} {below : List Frame} {meth : Method} {c : Code} {H : Heap} {locs : List Loc} {cells slots : Nat} {Q : State → Prop}
variable {cc : ByteArray} {pc : Nat} {la : Array Slot} {D : va_G} {cA : Nat → ClassId} {n0 : Nat} {H0 : Heap} {h h' : Hp} {oc : Nat} {ini : Bool} {ls ls' : LL} {st st' : List Value} {pc' : Nat}
theorem nn_of {z : Int32} (h : 0 ≤ z.toInt) : ¬ z < 0 := by
  intro q
  have := Int32.lt_iff_toInt_lt.mp q
  have h2 : (0 : Int32).toInt = 0 := rfl
  omega
theorem nn_cl {z : Int32} (h : 0 ≤ z.toInt) : z.toInt = (z.toNatClampNeg : Int) := by
  show z.toInt = ((z.toInt.toNat : Nat) : Int)
  omega
theorem snd_ntv {ins : Instr} (hn : ntv oc ins st h = some (st', h')) (hd : decode cc pc = .ok (ins, ilen ins)) (C : CX p s m args meth c cc oc ini D cA n0 H0) (hml : c.maxLocals = la.size) (Y : DY D cA n0 H0 h H locs) (hR : 1 ≤ R.frames ∧ 40 ≤ R.locals) (hf : cells ≤ R.cells ∧ slots ≤ R.slots)
    (k : ∀ H1 locs1, DY D cA n0 H0 h' H1 locs1 → W p l e R s m args below meth c H1 locs1 cells slots Q (F0 m (pc + 3) la st')) : W p l e R s m args below meth c H locs cells slots Q (F0 m pc la st) := by
  obtain ⟨hx, hb, hown, hts, hK, hN, hn0, hini⟩ := C
  cases ins with
  | invokespecial i =>
    simp only [ntv] at hn
    split at hn
    · rename_i a r
      split at hn
      · rename_i hcd
        simp only [Option.some.injEq, Prod.mk.injEq] at hn
        obtain ⟨rfl, rfl⟩ := hn
        have hl : iok (oc, i) := itL_ok _ (by simpa using hcd.1)
        refine W.objInit hx hb hown (hts _ hl) (hts _ b_oin) (hts _ (mB1 30 rfl rfl)) rfl hml.symm rfl hd hR.1 ?_ (k H locs Y)
        have := lv_room (m := m) (pc := pc) (ls := la) (rest := .ref a :: r) (st := r) hcd.2
        omega
      · cases hn
    · cases hn
  | invokestatic i =>
    simp only [ntv] at hn
    split at hn
    · rename_i y x r
      split at hn
      · rename_i kk hk
        split at hn
        · rename_i hw
          simp only [Option.some.injEq, Prod.mk.injEq] at hn
          obtain ⟨rfl, rfl⟩ := hn
          have hl : xok (oc, i, kk) := find3 mxL_ok hk
          have hw' : (r.map fun v => v.category).sum + 13 ≤ R.locals := by have : (r.map fun v => v.category).sum ≤ 8 := hw; omega
          by_cases hk0 : kk = 0
          · subst hk0
            rw [if_pos rfl] at k
            exact va_mmax hx hb hml hown (hts _ hl) (hts _ (mB2 233 rfl rfl)) (hts _ (mB1 9 rfl rfl)) (hts _ (mB2 234 rfl rfl)) hR.1 hw' hf.1 hf.2 hd (k H locs Y)
          · rw [if_neg hk0] at k
            have hl' : Cond.methodLink (ocn oc) i (mxN kk) ∈ BG := hl
            unfold mxN at hl'
            rw [if_neg hk0] at hl'
            exact va_mmin hx hb hml hown (hts _ hl') (hts _ (mB2 21 rfl rfl)) (hts _ (mB1 9 rfl rfl)) (hts _ (mB2 22 rfl rfl)) hR.1 hw' hf.1 hf.2 hd (k H locs Y)
        · cases hn
      · cases hn
    · cases hn
  | _ => simp only [ntv] at hn; cases hn
theorem snd_ntc {ins : Instr} (hn : ntc oc ins st h = some (st', h')) (hd : decode cc pc = .ok (ins, ilen ins)) (C : CX p s m args meth c cc oc ini D cA n0 H0) (hml : c.maxLocals = la.size) (Y : DY D cA n0 H0 h H locs) (hR : 1 ≤ R.frames ∧ 40 ≤ R.locals)
    (k : ∀ H1 locs1, DY D cA n0 H0 h' H1 locs1 → W p l e R s m args below meth c H1 locs1 cells slots Q (F0 m (pc + 3) la st')) : W p l e R s m args below meth c H locs cells slots Q (F0 m pc la st) := by
  obtain ⟨hx, hb, hown, hts, hK, hN, hn0, hini⟩ := C
  cases ins with
  | invokestatic i =>
    simp only [ntc] at hn
    split at hn
    · rename_i n dp b sp a rest
      split at hn
      · rename_i t m0 f t' m1 g ha hb2
        split at hn
        · rename_i hcd
          obtain ⟨c1, c2, c3, rfl, c5, c6, c7, c8, c9, c10⟩ := hcd
          simp only [Option.some.injEq, Prod.mk.injEq] at hn
          obtain ⟨rfl, rfl⟩ := hn
          have hl : cok (oc, i) := ctL_ok _ (by simpa using c1)
          obtain ⟨ty, hty, hprim, hfit⟩ : ∃ ty, (tyL cA)[t']? = some (cA t', ty) ∧ refKind ty = false ∧ ∀ k, k < n.toNatClampNeg → fits ty (.int (f (sp.toNatClampNeg + k))) = true := by
            have : t' = 0 ∨ t' = 1 := by omega
            rcases this with rfl | rfl
            · exact ⟨_, rfl, rfl, fun k _ => rfl⟩
            · exact ⟨_, rfl, rfl, fun k hk => c10 rfl k hk⟩
          have hc0 : H[a]? = some (vp_cell (cA t') (m0, .inl f)) := Y.2.1 a _ ha
          have hc1 : H[b]? = some (vp_cell (cA t') (m1, .inl g)) := Y.2.1 b _ hb2
          intro T hT X
          obtain ⟨-, k0, hk0, cm0, hkk0⟩ := (hK.2 t' _ hty).1 m0 (fun j => .int (f j))
          obtain ⟨-, k1, hk1, cm1, hkk1⟩ := (hK.2 t' _ hty).1 m1 (fun j => .int (g j))
          obtain ⟨vm', X', step⟩ := X.arraycopy hx hown (hts _ hl) (hts _ b_acn) (hts _ b_acs) (hts _ b_sys) (src := a) (dst := b) (cs := vp_cell (cA t') (m0, .inl f)) (cd := vp_cell (cA t') (m1, .inl g)) (srcPos := sp) (destPos := dp) (n := n) (by rw [hT]; exact hc0) (by rw [hT]; exact hc1)
            (fun _ h => by cases h) (fun _ h => by cases h) (fun h => by cases h) (fun h => by cases h) hk0 hk1 hkk0 hkk1 (by simp [hprim]) (nn_of c7) (nn_of c6) (nn_of c5)
            (by rw [nn_cl c7, nn_cl c5]; show ¬ _ > ((arrV (cA t') m0 (fun j => .int (f j))).slots.size : Int); rw [arrV_size]; omega)
            (by rw [nn_cl c6, nn_cl c5]; show ¬ _ > ((arrV (cA t') m1 (fun j => .int (g j))).slots.size : Int); rw [arrV_size]; omega)
            (fun vm₁ _ i hi => by
              have e : (vp_cell (cA t') (m0, .inl f)).slots.getD (sp.toNatClampNeg + i) .null = .int (f (sp.toNatClampNeg + i)) := by
                show (arrV (cA t') m0 (fun j => .int (f j))).slots.getD _ _ = _
                rw [Array.getD_eq_getD_getElem?, arrV_read _ _ (by omega)]
                rfl
              refine ⟨?_, ?_⟩
              · rw [e]
                exact hfit i hi
              · rw [e]
                exact trivial)
            (g := F0 m pc la (.int n :: .int dp :: .ref b :: .int sp :: .ref a :: rest)) rfl (by rw [hml]) (rest := rest) rfl (by rw [hb]; exact hd) hR.1 (by
              have hw : (rest.map fun v => v.category).sum ≤ 8 := c2
              have hnat : nativeFrameWords "java/lang/System" "arraycopy" 5 ≤ 10 := by decide +kernel
              show 2 * 0 + _ + _ ≤ _
              omega)
          have e1 : copied (vp_cell (cA t') (m0, .inl f)) (vp_cell (cA t') (m1, .inl g)) sp dp n = vp_cell (cA t') (m1, .inl (va_cpy f g sp.toNatClampNeg dp.toNatClampNeg n.toNatClampNeg)) := va_copied (fun z => .int z) (cA t') (cA t') f g c8
          rw [e1] at X' step
          have hl : b < H.size := (Array.getElem?_eq_some_iff.mp hc1).1
          have hheap : ((T.setVm vm').setCell b (vp_cell (cA t') (m1, .inl (va_cpy f g sp.toNatClampNeg dp.toNatClampNeg n.toNatClampNeg)))).heap = H.setIfInBounds b (vp_cell (cA t') (m1, .inl (va_cpy f g sp.toNatClampNeg dp.toNatClampNeg n.toNatClampNeg))) := by rw [← hT]; rfl
          have oq : ∀ q : Nat, q ≠ b → (H.setIfInBounds b (vp_cell (cA t') (m1, .inl (va_cpy f g sp.toNatClampNeg dp.toNatClampNeg n.toNatClampNeg))))[q]? = H[q]? := fun q hq => by simp [Array.getElem?_setIfInBounds, Ne.symm hq]
          obtain ⟨y1, y2, y3, y4⟩ := Y
          obtain ⟨t, a1, b1⟩ := k _ _ ⟨by simp [y1], y2.put (e := .inl (t', m1, .inl (va_cpy f g sp.toNatClampNeg dp.toNatClampNeg n.toNatClampNeg))) (show (H.setIfInBounds b _)[b]? = some _ by simp [Array.getElem?_setIfInBounds, hl]) oq, ⟨by simp; exact y3.1, fun q g1 g2 => by
              rw [oq q (fun e => g2 (by rw [e]; exact y4 b _ hb2))]
              exact y3.2.1 q g1 g2, fun q hq => by
              rcases List.mem_append.mp hq with h | h
              · exact y3.2.2 q h
              · obtain ⟨z, -, hz⟩ := List.mem_map.mp h
                rw [← hz]
                exact y4 b _ hb2⟩, fun a2 e2 hq => by
              simp only [hup] at hq
              split at hq
              · subst_vars; exact y4 _ _ hb2
              · exact y4 a2 e2 hq⟩ _ hheap X'
          exact ⟨t, step t a1, b1⟩
        · cases hn
      · cases hn
    · cases hn
  | _ => simp only [ntc] at hn; cases hn
end RUN
