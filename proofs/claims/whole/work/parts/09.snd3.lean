section SN3
variable {p : Program} {l : Launch} {e : Env} {R : Room} {s : State} {m : MethodId} {args : Array Value} {below : List Frame} {meth : Method} {c : Code} {H : Heap} {locs : List Loc} {cells slots : Nat} {Q : State → Prop}
variable {cc : ByteArray} {pc : Nat} {la : Array Slot} {D : va_G} {cA : Nat → ClassId} {n0 : Nat} {H0 : Heap} {h h' : Hp} {oc : Nat} {ini : Bool} {ls ls' : LL} {st st' : List Value} {pc' : Nat}
theorem find3 {X : Type} {L : List (Nat × Nat × X)} {P : Nat × Nat × X → Prop} (hL : ∀ e ∈ L, P e) {oc i : Nat} {x : X} (h : (L.find? (fun e => e.1 == oc && e.2.1 == i)).map (fun e => e.2.2) = some x) : P (oc, i, x) := by
  cases hf : L.find? (fun e => e.1 == oc && e.2.1 == i) with
  | none => rw [hf] at h; cases h
  | some e =>
    rw [hf] at h
    have hm := List.mem_of_find?_eq_some hf
    have hp := List.find?_some hf
    simp only [Bool.and_eq_true, beq_iff_eq] at hp
    obtain ⟨a, b, c⟩ := e
    obtain ⟨rfl, rfl⟩ := hp
    cases h
    exact hL _ hm
theorem snd_new {i ci : Nat} {r : List Value} (C : CX p s m args meth c cc oc ini D cA n0 H0) (Y : DY D cA n0 H0 h H locs) (hn : ntf oc i = some ci) (hd : decode cc pc = .ok (.new i, 3)) (hc : cells + 1 ≤ R.cells) (hs : slots + ciN ci ≤ R.slots)
    (k : ∀ H1, DY D cA n0 H0 (h.1 + 1, h.2.1 + ciN ci, hup h.2.2 h.1 (.inr (ci, cdf ci))) H1 locs → W p l e R s m args below meth c H1 locs (cells + 1) (slots + ciN ci) Q (F0 m (pc + 3) la (.ref h.1 :: r))) : W p l e R s m args below meth c H locs cells slots Q (F0 m pc la r) := by
  obtain ⟨hx, hb, hown, hts, hK, hN, hn0, hini⟩ := C
  obtain ⟨g1, g2, g3, g4⟩ := find3 ntL_ok hn
  dsimp only at g1 g2 g3 g4
  have hcl := vwCl_at ci g1
  have hKn := hK.1 ci _ hcl
  refine W.newcK hx hb hown (hts _ g2) (hts _ g3) (hts _ g4) rfl hd hc hs hKn.2.1 Y.1 fun H1 kC hkC e1 z1 o1 => ?_
  refine k H1 (Y.new hn0 ?_ z1 (fun q hq => o1 q hq))
  exact ⟨_, hcl, (u_born (cty ci) hts (cit_in ci g1) hKn hkC e1 (cit_ty ci g1)).to (cdf_ok ci g1)⟩
theorem snd_newa {at' : ArrayType} {t N : Nat} {n : Int32} {ty : FieldType} {r : List Value} (C : CX p s m args meth c cc oc ini D cA n0 H0) (Y : DY D cA n0 H0 h H locs) (hty : newarray.typeOf at' = ty) (ht : (tyL cA)[t]? = some (cA t, ty)) (harr : Cond.arrayClass ty ∈ BG)
    (hz : ∀ cX, vp_cell cX (N, (if t = 3 then .inr (.inl (fun _ => 0)) else if t < 3 then .inl (fun _ => 0) else .inr (.inr (.inr (.inr (fun _ => none)))))) = arrV cX N (fun _ => defaultValue ty)) (hcb : componentBytes ty ≤ 8) (hra : va_RA s (cA t) ty → s.vm.findClass ("[" ++ ty.toString) = some (cA t))
    (hn : 0 ≤ n.toInt ∧ n.toInt ≤ 60000000) (hN : n.toNatClampNeg = N) (hd : decode cc pc = .ok (.newarray at', 2)) (hc : cells + 1 ≤ R.cells) (hs : slots + N ≤ R.slots)
    (k : ∀ H1, DY D cA n0 H0 (h.1 + 1, h.2.1 + N, hup h.2.2 h.1 (zar t N)) H1 locs → W p l e R s m args below meth c H1 locs (cells + 1) (slots + N) Q (F0 m (pc + 2) la (.ref h.1 :: r))) : W p l e R s m args below meth c H locs cells slots Q (F0 m pc la (.int n :: r)) := by
  obtain ⟨hx, hb, hown, hts, hK, hN', hn0, hini⟩ := C
  subst hty
  have hn1 : ¬ n < 0 := by
    intro q
    have := Int32.lt_iff_toInt_lt.mp q
    have h2 : (0 : Int32).toInt = 0 := rfl
    omega
  have hNb : N ≤ 60000000 := by
    have : n.toNatClampNeg = n.toInt.toNat := rfl
    omega
  refine va_newaK hx hb (hts _ harr) rfl hd rfl hn1 hN (Nat.le_trans (Nat.mul_le_mul hNb hcb) (by decide)) hc hs Y.1 fun H1 cX e1 z1 o1 _ hcX => ?_
  refine k H1 (Y.new hn0 ?_ z1 (fun q hq => o1 q hq))
  have hcc := hra (hK.2 t _ ht).2
  have : cX = cA t := Option.some.inj (hcX.symm.trans hcc)
  subst this
  show H1[h.1]? = some (vp_cell (cA t) _)
  rw [e1]
  exact congrArg some (hz _).symm
theorem snd_newq {i t N : Nat} {n : Int32} {r : List Value} (C : CX p s m args meth c cc oc ini D cA n0 H0) (Y : DY D cA n0 H0 h H locs) (hn' : atf oc i = some t)
    (hn : 0 ≤ n.toInt ∧ n.toInt ≤ 60000000) (hN : n.toNatClampNeg = N) (hd : decode cc pc = .ok (.anewarray i, 3)) (hc : cells + 1 ≤ R.cells) (hs : slots + N ≤ R.slots)
    (k : ∀ H1, DY D cA n0 H0 (h.1 + 1, h.2.1 + N, hup h.2.2 h.1 (zar t N)) H1 locs → W p l e R s m args below meth c H1 locs (cells + 1) (slots + N) Q (F0 m (pc + 3) la (.ref h.1 :: r))) : W p l e R s m args below meth c H locs cells slots Q (F0 m pc la (.int n :: r)) := by
  obtain ⟨hx, hb, hown, hts, hK, hN', hn0, hini⟩ := C
  obtain ⟨g1, g2, g3, g4⟩ := find3 atL_ok hn'
  dsimp only at g1 g2 g3 g4
  obtain ⟨CN, hC, rfl⟩ := ty_at (cA := cA) t g1 g2
  have hn1 : ¬ n < 0 := by
    intro q
    have := Int32.lt_iff_toInt_lt.mp q
    have h2 : (0 : Int32).toInt = 0 := rfl
    omega
  subst hN
  have hNb : n.toNatClampNeg ≤ 60000000 := by
    have : n.toNatClampNeg = n.toInt.toNat := rfl
    omega
  have hAO : va_AO (tgn t) s := hN' _ g4
  refine W.anew hx hb hown (hts _ g3) (va_AO.use hAO) rfl hd rfl hn1 (Nat.le_trans (Nat.mul_le_mul hNb (Nat.le_refl 4)) (by decide)) hc hs fun cX kA comp f1 f2 f3 f4 => ?_
  obtain ⟨kA', comp', k1, k2, k3, k4⟩ := (hK.2 t _ hC).2
  have : cX = cA t := Option.some.inj (f1.symm.trans k4)
  subst this
  rw [Y.1]
  refine k _ (Y.new hn0 ?_ (by rw [Array.size_push, Y.1]) (fun q hq => by rw [Array.getElem?_push, if_neg (by rw [Y.1]; exact Nat.ne_of_lt hq)]))
  show (H.push _)[h.1]? = some (vp_cell (cA t) (n.toNatClampNeg, _))
  have ht3 : ¬ t = 3 := by omega
  have ht4 : ¬ t < 3 := by omega
  rw [if_neg ht3, if_neg ht4, vp_cell_q, ← Y.1, Array.getElem?_push_size]
  exact congrArg some (arrV_new _ _ _)
theorem LR.set1 {i : Nat} {v : Value} {l0 : List (Nat × Value)} (hl : lv_has la ls.length l0) (hm : ∀ i v, ls[i]? = some (some v) → (i, v) ∈ l0) : ∀ la' : Array Slot, lv_has la' ls.length ((i, v) :: l0.filter (fun q => !(q.1 == i) && !(q.1 + 1 == i && q.2.category == 2))) → LR la' (sto ls i v) :=
  fun la' h => ⟨_, by rw [sto_len]; exact h, sto_mem hm⟩
theorem LR.set2 {i : Nat} {v : Value} {l0 : List (Nat × Value)} (hl : lv_has la ls.length l0) (hm : ∀ i v, ls[i]? = some (some v) → (i, v) ∈ l0) : ∀ la' : Array Slot, lv_has la' ls.length ((i, v) :: l0.filter (fun q => !(q.1 == i) && (!(q.1 == i + 1) && !(q.1 + 1 == i && q.2.category == 2)))) → LR la' ((sto ls i v).set (i + 1) none) :=
  fun la' h => ⟨_, by rw [List.length_set, sto_len]; exact h, sto_mem2 hm⟩
set_option maxHeartbeats 4000000 in
set_option maxRecDepth 20000 in
theorem nx_snd {scr : SC} {ins : Instr} {len : Nat} (hn : nx scr ini oc ins pc ls st h = some (pc', ls', st', h')) (hd0 : decode cc pc = .ok (ins, len)) (hlen : len = ilen ins ∨ isTs ins = true) (C : CX p s m args meth c cc oc ini D cA n0 H0) (hscr : SCk n0 s H0 scr) (hl : LR la ls) (Y : DY D cA n0 H0 h H locs)
    (hc : cells + (h'.1 - h.1) ≤ R.cells) (hs : slots + (h'.2.1 - h.2.1) ≤ R.slots)
    (k : ∀ H1 locs1 la1, LR la1 ls' → DY D cA n0 H0 h' H1 locs1 → W p l e R s m args below meth c H1 locs1 (cells + (h'.1 - h.1)) (slots + (h'.2.1 - h.2.1)) Q (F0 m pc' la1 st')) : W p l e R s m args below meth c H locs cells slots Q (F0 m pc la st) := by
  have hd1 : isTs ins = false → decode cc pc = .ok (ins, ilen ins) := by
    intro q
    rcases hlen with rfl | h2
    · exact hd0
    · rw [q] at h2; cases h2
  have C' := C
  obtain ⟨hx, hb, hown, hts, hK, hN, hn0, hini⟩ := C'
  have kz : ∀ {la1 : Array Slot}, h' = h → LR la1 ls' → W p l e R s m args below meth c H locs cells slots Q (F0 m pc' la1 st') := by
    intro la1 e1 e2
    subst e1
    have := k H locs la1 e2 Y
    simpa only [Nat.sub_self, Nat.add_zero] using this
  have kp : ∀ {a : Nat} {pe : PE}, h' = (h.1, h.2.1, hup h.2.2 a pe) → ls' = ls → ∀ H1 locs1, DY D cA n0 H0 (h.1, h.2.1, hup h.2.2 a pe) H1 locs1 → W p l e R s m args below meth c H1 locs1 cells slots Q (F0 m pc' la st') := by
    intro a pe e1 e2 H1 locs1 Y1
    subst e1
    subst e2
    have := k H1 locs1 la hl Y1
    simpa only [Nat.sub_self, Nat.add_zero] using this
  obtain ⟨l0, hl0, hm0⟩ := id hl
  cases ins with
  | iconst n =>
    have hd := hd1 rfl
    simp only [nx, Option.some.injEq, Prod.mk.injEq] at hn
    obtain ⟨rfl, rfl, rfl, rfl⟩ := hn
    exact lv_iconst hx hb hd rfl (kz rfl hl)
  | bipush n =>
    have hd := hd1 rfl
    simp only [nx, Option.some.injEq, Prod.mk.injEq] at hn
    obtain ⟨rfl, rfl, rfl, rfl⟩ := hn
    exact lv_bipush hx hb hd rfl (kz rfl hl)
  | sipush n =>
    have hd := hd1 rfl
    simp only [nx, Option.some.injEq, Prod.mk.injEq] at hn
    obtain ⟨rfl, rfl, rfl, rfl⟩ := hn
    exact lv_sipush hx hb hd rfl (kz rfl hl)
  | lconst n =>
    have hd := hd1 rfl
    simp only [nx, Option.some.injEq, Prod.mk.injEq] at hn
    obtain ⟨rfl, rfl, rfl, rfl⟩ := hn
    exact lv_lconst hx hb hd rfl (kz rfl hl)
  | aconst_null =>
    have hd := hd1 rfl
    simp only [nx, Option.some.injEq, Prod.mk.injEq] at hn
    obtain ⟨rfl, rfl, rfl, rfl⟩ := hn
    exact lv_null hx hb hd (kz rfl hl)
  | ldc i =>
    have hd := hd1 rfl
    simp only [nx] at hn
    split at hn
    · rename_i v hv
      simp only [Option.some.injEq, Prod.mk.injEq] at hn
      obtain ⟨rfl, rfl, rfl, rfl⟩ := hn
      exact lv_ldc hx hb hown (hts _ (find3 ldL_ok hv)) hd (kz rfl hl)
    · cases hn
  | ldc_w i =>
    have hd := hd1 rfl
    simp only [nx] at hn
    split at hn
    · rename_i v hv
      simp only [Option.some.injEq, Prod.mk.injEq] at hn
      obtain ⟨rfl, rfl, rfl, rfl⟩ := hn
      exact lv_ldcw hx hb hown (hts _ (find3 ldL_ok hv)) hd (kz rfl hl)
    · cases hn
  | iload_n k =>
    have hd := hd1 rfl
    simp only [nx, ld1] at hn
    split at hn
    · rename_i x hv
      simp only [if_true, Option.some.injEq, Prod.mk.injEq] at hn
      obtain ⟨rfl, rfl, rfl, rfl⟩ := hn
      exact lv_iload_n hx hb hd rfl (hl.at hv) (kz rfl hl)
    · rename_i x hv
      simp at hn
    · rename_i x hv
      simp at hn
    · rename_i hv
      simp at hn
    · cases hn
  | iload i =>
    have hd := hd1 rfl
    simp only [nx, ld1] at hn
    split at hn
    · rename_i x hv
      simp only [if_true, Option.some.injEq, Prod.mk.injEq] at hn
      obtain ⟨rfl, rfl, rfl, rfl⟩ := hn
      exact lv_iload hx hb hd  (hl.at hv) (kz rfl hl)
    · rename_i x hv
      simp at hn
    · rename_i x hv
      simp at hn
    · rename_i hv
      simp at hn
    · cases hn
  | lload_n k =>
    have hd := hd1 rfl
    simp only [nx, ld1] at hn
    split at hn
    · rename_i x hv
      simp at hn
    · rename_i x hv
      simp only [if_true, Option.some.injEq, Prod.mk.injEq] at hn
      obtain ⟨rfl, rfl, rfl, rfl⟩ := hn
      exact lv_lload_n hx hb hd rfl (hl.at hv) (kz rfl hl)
    · rename_i x hv
      simp at hn
    · rename_i hv
      simp at hn
    · cases hn
  | lload i =>
    have hd := hd1 rfl
    simp only [nx, ld1] at hn
    split at hn
    · rename_i x hv
      simp at hn
    · rename_i x hv
      simp only [if_true, Option.some.injEq, Prod.mk.injEq] at hn
      obtain ⟨rfl, rfl, rfl, rfl⟩ := hn
      exact lv_lload hx hb hd  (hl.at hv) (kz rfl hl)
    · rename_i x hv
      simp at hn
    · rename_i hv
      simp at hn
    · cases hn
  | aload_n k =>
    have hd := hd1 rfl
    simp only [nx, ld1] at hn
    split at hn
    · rename_i x hv
      simp at hn
    · rename_i x hv
      simp at hn
    · rename_i x hv
      simp only [if_true, Option.some.injEq, Prod.mk.injEq] at hn
      obtain ⟨rfl, rfl, rfl, rfl⟩ := hn
      exact lv_aload_n hx hb hd rfl (hl.at hv) (kz rfl hl)
    · rename_i hv
      simp only [if_true, Option.some.injEq, Prod.mk.injEq] at hn
      obtain ⟨rfl, rfl, rfl, rfl⟩ := hn
      exact lv_aload_nN hx hb hd rfl (hl.at hv) (kz rfl hl)
    · cases hn
  | aload i =>
    have hd := hd1 rfl
    simp only [nx, ld1] at hn
    split at hn
    · rename_i x hv
      simp at hn
    · rename_i x hv
      simp at hn
    · rename_i x hv
      simp only [if_true, Option.some.injEq, Prod.mk.injEq] at hn
      obtain ⟨rfl, rfl, rfl, rfl⟩ := hn
      exact lv_aload hx hb hd  (hl.at hv) (kz rfl hl)
    · rename_i hv
      simp only [if_true, Option.some.injEq, Prod.mk.injEq] at hn
      obtain ⟨rfl, rfl, rfl, rfl⟩ := hn
      exact lv_aloadN hx hb hd  (hl.at hv) (kz rfl hl)
    · cases hn
  | istore_n k =>
    have hd := hd1 rfl
    simp only [nx, st1] at hn
    split at hn
    · rename_i x r
      split at hn
      · rename_i hcd
        simp only [Option.some.injEq, Prod.mk.injEq] at hn
        obtain ⟨rfl, rfl, rfl, rfl⟩ := hn
        exact lv_istore_n hx hb hd rfl hl0 hcd.2 rfl (fun la1 h1 => kz rfl (LR.set1 hl0 hm0 la1 h1))
      · cases hn
    · rename_i x r
      simp at hn
    · rename_i x r
      simp at hn
    · rename_i r
      simp at hn
    · cases hn
  | istore i =>
    have hd := hd1 rfl
    simp only [nx, st1] at hn
    split at hn
    · rename_i x r
      split at hn
      · rename_i hcd
        simp only [Option.some.injEq, Prod.mk.injEq] at hn
        obtain ⟨rfl, rfl, rfl, rfl⟩ := hn
        exact lv_istore hx hb hd  hl0 hcd.2 rfl (fun la1 h1 => kz rfl (LR.set1 hl0 hm0 la1 h1))
      · cases hn
    · rename_i x r
      simp at hn
    · rename_i x r
      simp at hn
    · rename_i r
      simp at hn
    · cases hn
  | lstore_n k =>
    have hd := hd1 rfl
    simp only [nx, st1] at hn
    split at hn
    · rename_i x r
      simp at hn
    · rename_i x r
      split at hn
      · rename_i hcd
        simp only [Option.some.injEq, Prod.mk.injEq] at hn
        obtain ⟨rfl, rfl, rfl, rfl⟩ := hn
        exact lv_lstore_n hx hb hd rfl hl0 hcd.2 rfl (fun la1 h1 => kz rfl (LR.set2 hl0 hm0 la1 h1))
      · cases hn
    · rename_i x r
      simp at hn
    · rename_i r
      simp at hn
    · cases hn
  | lstore i =>
    have hd := hd1 rfl
    simp only [nx, st1] at hn
    split at hn
    · rename_i x r
      simp at hn
    · rename_i x r
      split at hn
      · rename_i hcd
        simp only [Option.some.injEq, Prod.mk.injEq] at hn
        obtain ⟨rfl, rfl, rfl, rfl⟩ := hn
        exact lv_lstore hx hb hd  hl0 hcd.2 rfl (fun la1 h1 => kz rfl (LR.set2 hl0 hm0 la1 h1))
      · cases hn
    · rename_i x r
      simp at hn
    · rename_i r
      simp at hn
    · cases hn
  | astore_n k =>
    have hd := hd1 rfl
    simp only [nx, st1] at hn
    split at hn
    · rename_i x r
      simp at hn
    · rename_i x r
      simp at hn
    · rename_i x r
      split at hn
      · rename_i hcd
        simp only [Option.some.injEq, Prod.mk.injEq] at hn
        obtain ⟨rfl, rfl, rfl, rfl⟩ := hn
        exact lv_astore_n hx hb hd rfl hl0 hcd.2 rfl (fun la1 h1 => kz rfl (LR.set1 hl0 hm0 la1 h1))
      · cases hn
    · rename_i r
      split at hn
      · rename_i hcd
        simp only [Option.some.injEq, Prod.mk.injEq] at hn
        obtain ⟨rfl, rfl, rfl, rfl⟩ := hn
        exact lv_astore_nN hx hb hd rfl hl0 hcd.2 rfl (fun la1 h1 => kz rfl (LR.set1 hl0 hm0 la1 h1))
      · cases hn
    · cases hn
  | astore i =>
    have hd := hd1 rfl
    simp only [nx, st1] at hn
    split at hn
    · rename_i x r
      simp at hn
    · rename_i x r
      simp at hn
    · rename_i x r
      split at hn
      · rename_i hcd
        simp only [Option.some.injEq, Prod.mk.injEq] at hn
        obtain ⟨rfl, rfl, rfl, rfl⟩ := hn
        exact lv_astore hx hb hd  hl0 hcd.2 rfl (fun la1 h1 => kz rfl (LR.set1 hl0 hm0 la1 h1))
      · cases hn
    · rename_i r
      split at hn
      · rename_i hcd
        simp only [Option.some.injEq, Prod.mk.injEq] at hn
        obtain ⟨rfl, rfl, rfl, rfl⟩ := hn
        exact lv_astoreN hx hb hd  hl0 hcd.2 rfl (fun la1 h1 => kz rfl (LR.set1 hl0 hm0 la1 h1))
      · cases hn
    · cases hn
  | iinc i n =>
    have hd := hd1 rfl
    simp only [nx] at hn
    split at hn
    · rename_i x hv
      split at hn
      · rename_i hcd
        simp only [Option.some.injEq, Prod.mk.injEq] at hn
        obtain ⟨rfl, rfl, rfl, rfl⟩ := hn
        obtain ⟨kk, hkk⟩ := List.getElem?_of_mem (hm0 i _ (lkp_at hv))
        exact lv_iinc hx hb hd hl0 hkk rfl hcd rfl (fun la1 h1 => kz rfl (LR.set1 hl0 hm0 la1 h1))
      · cases hn
    · cases hn
  | iadd =>
    have hd := hd1 rfl
    simp only [nx] at hn
    split at hn
    · simp only [Option.some.injEq, Prod.mk.injEq] at hn
      obtain ⟨rfl, rfl, rfl, rfl⟩ := hn
      exact lv_iadd hx hb hd (kz rfl hl)
    · cases hn
  | isub =>
    have hd := hd1 rfl
    simp only [nx] at hn
    split at hn
    · simp only [Option.some.injEq, Prod.mk.injEq] at hn
      obtain ⟨rfl, rfl, rfl, rfl⟩ := hn
      exact lv_isub hx hb hd (kz rfl hl)
    · cases hn
  | imul =>
    have hd := hd1 rfl
    simp only [nx] at hn
    split at hn
    · simp only [Option.some.injEq, Prod.mk.injEq] at hn
      obtain ⟨rfl, rfl, rfl, rfl⟩ := hn
      exact lv_imul hx hb hd (kz rfl hl)
    · cases hn
  | iand =>
    have hd := hd1 rfl
    simp only [nx] at hn
    split at hn
    · simp only [Option.some.injEq, Prod.mk.injEq] at hn
      obtain ⟨rfl, rfl, rfl, rfl⟩ := hn
      exact lv_iand hx hb hd (kz rfl hl)
    · cases hn
  | ior =>
    have hd := hd1 rfl
    simp only [nx] at hn
    split at hn
    · simp only [Option.some.injEq, Prod.mk.injEq] at hn
      obtain ⟨rfl, rfl, rfl, rfl⟩ := hn
      exact lv_ior hx hb hd (kz rfl hl)
    · cases hn
  | ixor =>
    have hd := hd1 rfl
    simp only [nx] at hn
    split at hn
    · simp only [Option.some.injEq, Prod.mk.injEq] at hn
      obtain ⟨rfl, rfl, rfl, rfl⟩ := hn
      exact lv_ixor hx hb hd (kz rfl hl)
    · cases hn
  | ishl =>
    have hd := hd1 rfl
    simp only [nx] at hn
    split at hn
    · simp only [Option.some.injEq, Prod.mk.injEq] at hn
      obtain ⟨rfl, rfl, rfl, rfl⟩ := hn
      exact lv_ishl hx hb hd (kz rfl hl)
    · cases hn
  | ishr =>
    have hd := hd1 rfl
    simp only [nx] at hn
    split at hn
    · simp only [Option.some.injEq, Prod.mk.injEq] at hn
      obtain ⟨rfl, rfl, rfl, rfl⟩ := hn
      exact lv_ishr hx hb hd (kz rfl hl)
    · cases hn
  | ladd =>
    have hd := hd1 rfl
    simp only [nx] at hn
    split at hn
    · simp only [Option.some.injEq, Prod.mk.injEq] at hn
      obtain ⟨rfl, rfl, rfl, rfl⟩ := hn
      exact lv_ladd hx hb hd (kz rfl hl)
    · cases hn
  | land =>
    have hd := hd1 rfl
    simp only [nx] at hn
    split at hn
    · simp only [Option.some.injEq, Prod.mk.injEq] at hn
      obtain ⟨rfl, rfl, rfl, rfl⟩ := hn
      exact lv_land hx hb hd (kz rfl hl)
    · cases hn
  | lor =>
    have hd := hd1 rfl
    simp only [nx] at hn
    split at hn
    · simp only [Option.some.injEq, Prod.mk.injEq] at hn
      obtain ⟨rfl, rfl, rfl, rfl⟩ := hn
      exact lv_lor hx hb hd (kz rfl hl)
    · cases hn
  | lxor =>
    have hd := hd1 rfl
    simp only [nx] at hn
    split at hn
    · simp only [Option.some.injEq, Prod.mk.injEq] at hn
      obtain ⟨rfl, rfl, rfl, rfl⟩ := hn
      exact lv_lxor hx hb hd (kz rfl hl)
    · cases hn
  | iushr =>
    have hd := hd1 rfl
    simp only [nx] at hn
    split at hn
    · simp only [Option.some.injEq, Prod.mk.injEq] at hn
      obtain ⟨rfl, rfl, rfl, rfl⟩ := hn
      exact lv_iushr hx hb hd rfl (kz rfl hl)
    · cases hn
  | lshl =>
    have hd := hd1 rfl
    simp only [nx] at hn
    split at hn
    · simp only [Option.some.injEq, Prod.mk.injEq] at hn
      obtain ⟨rfl, rfl, rfl, rfl⟩ := hn
      exact lv_lshl hx hb hd rfl (kz rfl hl)
    · cases hn
  | lshr =>
    have hd := hd1 rfl
    simp only [nx] at hn
    split at hn
    · simp only [Option.some.injEq, Prod.mk.injEq] at hn
      obtain ⟨rfl, rfl, rfl, rfl⟩ := hn
      exact lv_lshr hx hb hd rfl (kz rfl hl)
    · cases hn
  | i2l =>
    have hd := hd1 rfl
    simp only [nx] at hn
    split at hn
    · simp only [Option.some.injEq, Prod.mk.injEq] at hn
      obtain ⟨rfl, rfl, rfl, rfl⟩ := hn
      exact lv_i2l hx hb hd rfl (kz rfl hl)
    · cases hn
  | l2i =>
    have hd := hd1 rfl
    simp only [nx] at hn
    split at hn
    · simp only [Option.some.injEq, Prod.mk.injEq] at hn
      obtain ⟨rfl, rfl, rfl, rfl⟩ := hn
      exact lv_l2i hx hb hd rfl (kz rfl hl)
    · cases hn
  | i2b =>
    have hd := hd1 rfl
    simp only [nx] at hn
    split at hn
    · simp only [Option.some.injEq, Prod.mk.injEq] at hn
      obtain ⟨rfl, rfl, rfl, rfl⟩ := hn
      exact lv_i2b hx hb hd rfl (kz rfl hl)
    · cases hn
  | lcmp =>
    have hd := hd1 rfl
    simp only [nx] at hn
    split at hn
    · simp only [Option.some.injEq, Prod.mk.injEq] at hn
      obtain ⟨rfl, rfl, rfl, rfl⟩ := hn
      exact W.lcmp hx hb hd (kz rfl hl)
    · cases hn
  | idiv =>
    have hd := hd1 rfl
    simp only [nx] at hn
    split at hn
    · split at hn
      · cases hn
      · rename_i hne
        simp only [Option.some.injEq, Prod.mk.injEq] at hn
        obtain ⟨rfl, rfl, rfl, rfl⟩ := hn
        exact lv_idiv hx hb hd hne (kz rfl hl)
    · cases hn
  | irem =>
    have hd := hd1 rfl
    simp only [nx] at hn
    split at hn
    · split at hn
      · cases hn
      · rename_i hne
        simp only [Option.some.injEq, Prod.mk.injEq] at hn
        obtain ⟨rfl, rfl, rfl, rfl⟩ := hn
        exact lv_irem hx hb hd hne (kz rfl hl)
    · cases hn
  | dup =>
    have hd := hd1 rfl
    simp only [nx] at hn
    split at hn
    · split at hn
      · rename_i hcd
        simp only [Option.some.injEq, Prod.mk.injEq] at hn
        obtain ⟨rfl, rfl, rfl, rfl⟩ := hn
        exact lv_dup hx hb hd hcd (kz rfl hl)
      · cases hn
    · cases hn
  | pop =>
    have hd := hd1 rfl
    simp only [nx] at hn
    split at hn
    · split at hn
      · rename_i hcd
        simp only [Option.some.injEq, Prod.mk.injEq] at hn
        obtain ⟨rfl, rfl, rfl, rfl⟩ := hn
        exact lv_pop hx hb hd hcd (kz rfl hl)
      · cases hn
    · cases hn
  | dup_x1 =>
    have hd := hd1 rfl
    simp only [nx] at hn
    split at hn
    · split at hn
      · rename_i hcd
        simp only [Option.some.injEq, Prod.mk.injEq] at hn
        obtain ⟨rfl, rfl, rfl, rfl⟩ := hn
        exact lv_dup_x1 hx hb hd hcd.1 hcd.2 (kz rfl hl)
      · cases hn
    · cases hn
  | dup2 =>
    have hd := hd1 rfl
    simp only [nx] at hn
    split at hn
    · split at hn
      · rename_i hcd
        simp only [Option.some.injEq, Prod.mk.injEq] at hn
        obtain ⟨rfl, rfl, rfl, rfl⟩ := hn
        exact lv_dup2_11 hx hb hd hcd.1 hcd.2 (kz rfl hl)
      · cases hn
    · cases hn
  | ifCond cnd off =>
    have hd := hd1 rfl
    simp only [nx] at hn
    split at hn
    · split at hn
      · rename_i t ht
        simp only [Option.some.injEq, Prod.mk.injEq] at hn
        obtain ⟨hpc, rfl, rfl, rfl⟩ := hn
        cases cnd with
        | eq => exact lv_if_eq hx hb hd (tg_ok ht) (fun q => by simp only [brc, decide_eq_true_eq] at hpc; rw [if_pos q] at hpc; subst hpc; exact kz rfl hl) (fun q => by simp only [brc, decide_eq_true_eq] at hpc; rw [if_neg q] at hpc; subst hpc; exact kz rfl hl)
        | ne => exact lv_if_ne hx hb hd (tg_ok ht) (fun q => by simp only [brc, decide_eq_true_eq] at hpc; rw [if_pos q] at hpc; subst hpc; exact kz rfl hl) (fun q => by simp only [brc, decide_eq_true_eq] at hpc; rw [if_neg (fun q2 => q2 q)] at hpc; subst hpc; exact kz rfl hl)
        | lt => exact lv_if_lt hx hb hd (tg_ok ht) (fun q => by simp only [brc, decide_eq_true_eq] at hpc; rw [if_pos q] at hpc; subst hpc; exact kz rfl hl) (fun q => by simp only [brc, decide_eq_true_eq] at hpc; rw [if_neg q] at hpc; subst hpc; exact kz rfl hl)
        | ge => exact lv_if_ge hx hb hd (tg_ok ht) (fun q => by simp only [brc, decide_eq_true_eq] at hpc; rw [if_pos q] at hpc; subst hpc; exact kz rfl hl) (fun q => by simp only [brc, decide_eq_true_eq] at hpc; rw [if_neg q] at hpc; subst hpc; exact kz rfl hl)
        | gt => exact lv_if_gt hx hb hd (tg_ok ht) (fun q => by simp only [brc, decide_eq_true_eq] at hpc; rw [if_pos q] at hpc; subst hpc; exact kz rfl hl) (fun q => by simp only [brc, decide_eq_true_eq] at hpc; rw [if_neg q] at hpc; subst hpc; exact kz rfl hl)
        | le => exact lv_if_le hx hb hd (tg_ok ht) (fun q => by simp only [brc, decide_eq_true_eq] at hpc; rw [if_pos q] at hpc; subst hpc; exact kz rfl hl) (fun q => by simp only [brc, decide_eq_true_eq] at hpc; rw [if_neg q] at hpc; subst hpc; exact kz rfl hl)
      · cases hn
    · cases hn
  | if_icmp cnd off =>
    have hd := hd1 rfl
    simp only [nx] at hn
    split at hn
    · split at hn
      · rename_i t ht
        simp only [Option.some.injEq, Prod.mk.injEq] at hn
        obtain ⟨hpc, rfl, rfl, rfl⟩ := hn
        cases cnd with
        | eq => exact lv_icmp_eq hx hb hd (tg_ok ht) (fun q => by simp only [brd, decide_eq_true_eq] at hpc; rw [if_pos q] at hpc; subst hpc; exact kz rfl hl) (fun q => by simp only [brd, decide_eq_true_eq] at hpc; rw [if_neg q] at hpc; subst hpc; exact kz rfl hl)
        | ne => exact lv_icmp_ne hx hb hd (tg_ok ht) (fun q => by simp only [brd, decide_eq_true_eq] at hpc; rw [if_pos q] at hpc; subst hpc; exact kz rfl hl) (fun q => by simp only [brd, decide_eq_true_eq] at hpc; rw [if_neg (fun q2 => q2 q)] at hpc; subst hpc; exact kz rfl hl)
        | lt => exact lv_icmp_lt hx hb hd (tg_ok ht) (fun q => by simp only [brd, decide_eq_true_eq] at hpc; rw [if_pos q] at hpc; subst hpc; exact kz rfl hl) (fun q => by simp only [brd, decide_eq_true_eq] at hpc; rw [if_neg q] at hpc; subst hpc; exact kz rfl hl)
        | ge => exact lv_icmp_ge hx hb hd (tg_ok ht) (fun q => by simp only [brd, decide_eq_true_eq] at hpc; rw [if_pos q] at hpc; subst hpc; exact kz rfl hl) (fun q => by simp only [brd, decide_eq_true_eq] at hpc; rw [if_neg q] at hpc; subst hpc; exact kz rfl hl)
        | gt => exact lv_icmp_gt hx hb hd (tg_ok ht) (fun q => by simp only [brd, decide_eq_true_eq] at hpc; rw [if_pos q] at hpc; subst hpc; exact kz rfl hl) (fun q => by simp only [brd, decide_eq_true_eq] at hpc; rw [if_neg q] at hpc; subst hpc; exact kz rfl hl)
        | le => exact lv_icmp_le hx hb hd (tg_ok ht) (fun q => by simp only [brd, decide_eq_true_eq] at hpc; rw [if_pos q] at hpc; subst hpc; exact kz rfl hl) (fun q => by simp only [brd, decide_eq_true_eq] at hpc; rw [if_neg q] at hpc; subst hpc; exact kz rfl hl)
      · cases hn
    · cases hn
  | if_acmp cnd off =>
    have hd := hd1 rfl
    simp only [nx] at hn
    split at hn
    · rename_i y x r
      split at hn
      · rename_i t ht
        simp only [Option.some.injEq, Prod.mk.injEq] at hn
        obtain ⟨hpc, rfl, rfl, rfl⟩ := hn
        exact lv_acmp_ne (rx := some x) (ry := some y) hx hb hd (tg_ok ht) (fun q => by rw [if_neg (fun q2 => q (congrArg some q2))] at hpc; subst hpc; exact kz rfl hl) (fun q => by rw [if_pos (Option.some.inj q)] at hpc; subst hpc; exact kz rfl hl)
      · cases hn
    · rename_i y r
      split at hn
      · rename_i t ht
        simp only [Option.some.injEq, Prod.mk.injEq] at hn
        obtain ⟨rfl, rfl, rfl, rfl⟩ := hn
        exact lv_acmp_ne (rx := none) (ry := some y) hx hb hd (tg_ok ht) (fun q => kz rfl hl) (fun q => by cases q)
      · cases hn
    · cases hn
  | ifnull off =>
    have hd := hd1 rfl
    simp only [nx] at hn
    split at hn
    · simp only [Option.some.injEq, Prod.mk.injEq] at hn
      obtain ⟨rfl, rfl, rfl, rfl⟩ := hn
      exact lv_ifnull hx hb hd (kz rfl hl)
    · split at hn
      · rename_i t ht
        simp only [Option.some.injEq, Prod.mk.injEq] at hn
        obtain ⟨rfl, rfl, rfl, rfl⟩ := hn
        exact lv_ifnullN hx hb hd (tg_ok ht) (kz rfl hl)
      · cases hn
    · cases hn
  | ifnonnull off =>
    have hd := hd1 rfl
    simp only [nx] at hn
    split at hn
    · simp only [Option.some.injEq, Prod.mk.injEq] at hn
      obtain ⟨rfl, rfl, rfl, rfl⟩ := hn
      exact lv_ifnonnullN hx hb hd (kz rfl hl)
    · split at hn
      · rename_i t ht
        simp only [Option.some.injEq, Prod.mk.injEq] at hn
        obtain ⟨rfl, rfl, rfl, rfl⟩ := hn
        exact lv_ifnonnull hx hb hd (tg_ok ht) (kz rfl hl)
      · cases hn
    · cases hn
  | goto off =>
    have hd := hd1 rfl
    simp only [nx] at hn
    split at hn
    · rename_i t ht
      simp only [Option.some.injEq, Prod.mk.injEq] at hn
      obtain ⟨rfl, rfl, rfl, rfl⟩ := hn
      exact lv_goto hx hb hd (tg_ok ht) (kz rfl hl)
    · cases hn
  | tableswitch df lo hi offs =>
    simp only [nx] at hn
    split at hn
    · split at hn
      · rename_i hcd
        split at hn
        · rename_i t ht
          simp only [Option.some.injEq, Prod.mk.injEq] at hn
          obtain ⟨rfl, rfl, rfl, rfl⟩ := hn
          exact lv_tableOut hx hb hd0 hcd (tg_ok ht) (kz rfl hl)
        · cases hn
      · rename_i hcd
        split at hn
        · rename_i off ho
          split at hn
          · rename_i t ht
            simp only [Option.some.injEq, Prod.mk.injEq] at hn
            obtain ⟨rfl, rfl, rfl, rfl⟩ := hn
            exact lv_tableIn hx hb hd0 (fun q => hcd (Or.inl q)) (fun q => hcd (Or.inr q)) ho (tg_ok ht) (kz rfl hl)
          · cases hn
        · cases hn
    · cases hn
  | lookupswitch df ps =>
    simp only [nx] at hn
    split at hn
    · split at hn
      · rename_i hcd
        split at hn
        · rename_i t ht
          simp only [Option.some.injEq, Prod.mk.injEq] at hn
          obtain ⟨rfl, rfl, rfl, rfl⟩ := hn
          exact lv_lookup hx hb hd0 hcd rfl (tg_ok ht) (kz rfl hl)
        · cases hn
      · cases hn
    · cases hn
  | getfield i =>
    have hd := hd1 rfl
    simp only [nx] at hn
    split at hn
    · split at hn
      · rename_i v hv
        simp only [Option.some.injEq, Prod.mk.injEq] at hn
        obtain ⟨rfl, rfl, rfl, rfl⟩ := hn
        exact snd_get C Y hv hd (kz rfl hl)
      · cases hn
    · cases hn
  | putfield i =>
    have hd := hd1 rfl
    simp only [nx] at hn
    split at hn
    · split at hn
      · rename_i v hv
        simp only [Option.some.injEq, Prod.mk.injEq] at hn
        obtain ⟨rfl, rfl, rfl, rfl⟩ := hn
        exact snd_put C Y hv hd (kp rfl rfl)
      · cases hn
    · cases hn
  | laload =>
    have hd := hd1 rfl
    simp only [nx] at hn
    split at hn
    · split at hn
      · rename_i v hv
        simp only [Option.some.injEq, Prod.mk.injEq] at hn
        obtain ⟨rfl, rfl, rfl, rfl⟩ := hn
        exact snd_lald C Y hv hd (kz rfl hl)
      · cases hn
    · cases hn
  | aaload =>
    have hd := hd1 rfl
    simp only [nx] at hn
    split at hn
    · split at hn
      · rename_i v hv
        simp only [Option.some.injEq, Prod.mk.injEq] at hn
        obtain ⟨rfl, rfl, rfl, rfl⟩ := hn
        exact snd_aald C Y hv hd (kz rfl hl)
      · cases hn
    · cases hn
  | iastore =>
    have hd := hd1 rfl
    simp only [nx] at hn
    split at hn
    · split at hn
      · rename_i v hv
        simp only [Option.some.injEq, Prod.mk.injEq] at hn
        obtain ⟨rfl, rfl, rfl, rfl⟩ := hn
        exact snd_iast C Y hv hd (kp rfl rfl)
      · cases hn
    · cases hn
  | lastore =>
    have hd := hd1 rfl
    simp only [nx] at hn
    split at hn
    · split at hn
      · rename_i v hv
        simp only [Option.some.injEq, Prod.mk.injEq] at hn
        obtain ⟨rfl, rfl, rfl, rfl⟩ := hn
        exact snd_last C Y hv hd (kp rfl rfl)
      · cases hn
    · cases hn
  | aastore =>
    have hd := hd1 rfl
    simp only [nx] at hn
    split at hn
    · split at hn
      · rename_i v hv
        simp only [Option.some.injEq, Prod.mk.injEq] at hn
        obtain ⟨rfl, rfl, rfl, rfl⟩ := hn
        exact snd_aast C Y hv hd (kp rfl rfl)
      · cases hn
    · cases hn
  | iaload =>
    have hd := hd1 rfl
    simp only [nx] at hn
    split at hn
    · split at hn
      · rename_i b n xs
        split at hn
        · rename_i hab
          subst hab
          split at hn
          · rename_i hcd
            simp only [Option.some.injEq, Prod.mk.injEq] at hn
            obtain ⟨rfl, rfl, rfl, rfl⟩ := hn
            obtain ⟨s1, s2, s3, s4⟩ := hscr _ rfl
            exact va_sld hx hb s1 s2 (fun q => Nat.not_le.mpr s3 q) Y.2.2.1 (vin_of hcd) hd (kz rfl hl)
          · cases hn
        · split at hn
          · rename_i v hv
            simp only [Option.some.injEq, Prod.mk.injEq] at hn
            obtain ⟨rfl, rfl, rfl, rfl⟩ := hn
            exact snd_iald C Y hv hd (kz rfl hl)
          · cases hn
      · split at hn
        · rename_i v hv
          simp only [Option.some.injEq, Prod.mk.injEq] at hn
          obtain ⟨rfl, rfl, rfl, rfl⟩ := hn
          exact snd_iald C Y hv hd (kz rfl hl)
        · cases hn
    · cases hn
  | arraylength =>
    have hd := hd1 rfl
    simp only [nx] at hn
    split at hn
    · split at hn
      · rename_i b n xs
        split at hn
        · rename_i hab
          subst hab
          simp only [Option.some.injEq, Prod.mk.injEq] at hn
          obtain ⟨rfl, rfl, rfl, rfl⟩ := hn
          obtain ⟨s1, s2, s3, s4⟩ := hscr _ rfl
          exact va_slen hx hb s1 s2 (fun q => Nat.not_le.mpr s3 q) Y.2.2.1 hd (kz rfl hl)
        · split at hn
          · rename_i v hv
            simp only [Option.some.injEq, Prod.mk.injEq] at hn
            obtain ⟨rfl, rfl, rfl, rfl⟩ := hn
            exact snd_alen C Y hv hd (kz rfl hl)
          · cases hn
      · split at hn
        · rename_i v hv
          simp only [Option.some.injEq, Prod.mk.injEq] at hn
          obtain ⟨rfl, rfl, rfl, rfl⟩ := hn
          exact snd_alen C Y hv hd (kz rfl hl)
        · cases hn
    · cases hn
  | baload =>
    have hd := hd1 rfl
    simp only [nx] at hn
    split at hn
    · split at hn
      · rename_i v hv
        simp only [Option.some.injEq, Prod.mk.injEq] at hn
        obtain ⟨rfl, rfl, rfl, rfl⟩ := hn
        exact snd_bald C Y hv hd (kz rfl hl)
      · split at hn
        · rename_i v hv
          simp only [Option.some.injEq, Prod.mk.injEq] at hn
          obtain ⟨rfl, rfl, rfl, rfl⟩ := hn
          exact snd_zald C Y hv hd (kz rfl hl)
        · cases hn
    · cases hn
  | bastore =>
    have hd := hd1 rfl
    simp only [nx] at hn
    split at hn
    · split at hn
      · rename_i v hv
        simp only [Option.some.injEq, Prod.mk.injEq] at hn
        obtain ⟨rfl, rfl, rfl, rfl⟩ := hn
        exact snd_bast C Y hv hd (kp rfl rfl)
      · split at hn
        · rename_i v hv
          simp only [Option.some.injEq, Prod.mk.injEq] at hn
          obtain ⟨rfl, rfl, rfl, rfl⟩ := hn
          exact snd_zast C Y hv hd (kp rfl rfl)
        · cases hn
    · cases hn
  | new i =>
    have hd := hd1 rfl
    simp only [nx] at hn
    split at hn
    · rename_i ci hci
      simp only [Option.some.injEq, Prod.mk.injEq] at hn
      obtain ⟨rfl, rfl, rfl, rfl⟩ := hn
      dsimp only at hc hs k
      rw [Nat.add_sub_cancel_left] at hc hs k
      rw [Nat.add_sub_cancel_left] at k
      exact snd_new C Y hci hd hc hs (fun H1 Y1 => k H1 locs la hl Y1)
    · cases hn
  | newarray ty =>
    have hd := hd1 rfl
    simp only [nx] at hn
    split at hn
    · rename_i n r t htg
      split at hn
      · rename_i hcd
        simp only [Option.some.injEq, Prod.mk.injEq] at hn
        obtain ⟨rfl, rfl, rfl, rfl⟩ := hn
        dsimp only at hc hs k
        rw [Nat.add_sub_cancel_left] at hc hs k
        rw [Nat.add_sub_cancel_left] at k
        cases ty <;> simp [tgA] at htg <;> subst htg
        · exact snd_newa (t := 2) (ty := .boolean) C Y rfl rfl (mB5 117 rfl rfl) (fun cX => rfl) (by decide) (fun q => q) hcd rfl hd hc hs (fun H1 Y1 => k H1 locs la hl Y1)
        · exact snd_newa (t := 1) (ty := .byte) C Y rfl rfl (mB1 91 rfl rfl) (fun cX => rfl) (by decide) (fun q => q) hcd rfl hd hc hs (fun H1 Y1 => k H1 locs la hl Y1)
        · exact snd_newa (t := 0) (ty := .int) C Y rfl rfl (mB1 89 rfl rfl) (fun cX => rfl) (by decide) (fun q => q) hcd rfl hd hc hs (fun H1 Y1 => k H1 locs la hl Y1)
        · exact snd_newa (t := 3) (ty := .long) C Y rfl rfl (mB1 90 rfl rfl) (fun cX => rfl) (by decide) (fun q => q) hcd rfl hd hc hs (fun H1 Y1 => k H1 locs la hl Y1)
      · cases hn
    · cases hn
  | anewarray i =>
    have hd := hd1 rfl
    simp only [nx] at hn
    split at hn
    · rename_i n r t htg
      split at hn
      · rename_i hcd
        simp only [Option.some.injEq, Prod.mk.injEq] at hn
        obtain ⟨rfl, rfl, rfl, rfl⟩ := hn
        dsimp only at hc hs k
        rw [Nat.add_sub_cancel_left] at hc hs k
        rw [Nat.add_sub_cancel_left] at k
        exact snd_newq C Y htg hcd rfl hd hc hs (fun H1 Y1 => k H1 locs la hl Y1)
      · cases hn
    · cases hn
  | _ => simp only [nx] at hn; cases hn
end SN3
