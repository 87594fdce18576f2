/-! the equations, an opcode each -/
noncomputable def Ev (d mi pc : Nat) (ls : LL) (st : List Value) (h : Hp) : Option (Option Value × Hp) := EV sp0 none d mi pc ls st h
def rbl (e : Option PE) (i : Int32) : Option Int32 := match ral 1 e i with
  | some v => some v
  | none => ral 2 e i
def wbl (e : Option PE) (i x : Int32) : Option PE := match wal 1 e i (vp_nar .byte x) with
  | some v => some v
  | none => wal 2 e i (vp_nar .boolean x)
section OPS
variable {sp : SP} {scr : SC} {d mi pc sz us : Nat} {ls : LL} {st : List Value} {hf : Hf} {h : Hp} {oc : Nat}
theorem ei_nx {ins : Instr} {pc' : Nat} {ls' : LL} {st' : List Value} {h' : Hp} (hp : prog mi pc = some (ins, ilen ins)) (hi : isNx ins = true) (hsp : sp mi pc st h = none) (hoc : (mtd mi).1 = oc) (hn : nx scr (isIn0 mi) oc ins pc ls st h = some (pc', ls', st', h')) : EV sp scr d mi pc ls st h = EV sp scr d mi pc' ls' st' h' := by
  subst hoc
  rw [EV_nx hp (by simp) hi hsp, hn]
theorem ei_iconst {n : Int} {v : Int32} (hp : prog mi pc = some (.iconst n, 1)) (hsp : sp mi pc st h = none) (hv : Int32.ofInt n = v) : EV sp scr d mi pc ls st h = EV sp scr d mi (pc + 1) ls (.int v :: st) h := by
  subst hv
  exact ei_nx hp rfl hsp rfl rfl
theorem ei_bipush {n : Int} {v : Int32} (hp : prog mi pc = some (.bipush n, 2)) (hsp : sp mi pc st h = none) (hv : (Int8.ofInt n).toInt32 = v) : EV sp scr d mi pc ls st h = EV sp scr d mi (pc + 2) ls (.int v :: st) h := by
  subst hv
  exact ei_nx hp rfl hsp rfl rfl
theorem ei_sipush {n : Int} {v : Int32} (hp : prog mi pc = some (.sipush n, 3)) (hsp : sp mi pc st h = none) (hv : (Int16.ofInt n).toInt32 = v) : EV sp scr d mi pc ls st h = EV sp scr d mi (pc + 3) ls (.int v :: st) h := by
  subst hv
  exact ei_nx hp rfl hsp rfl rfl
theorem ei_ldc {i : Nat} {v : Int32} (hp : prog mi pc = some (.ldc i, 2)) (hsp : sp mi pc st h = none) (hv : ldf (mtd mi).1 i = some v) : EV sp scr d mi pc ls st h = EV sp scr d mi (pc + 2) ls (.int v :: st) h :=
  ei_nx hp rfl hsp rfl (by simp only [nx, hv])
theorem ei_ldcw {i : Nat} {v : Int32} (hp : prog mi pc = some (.ldc_w i, 3)) (hsp : sp mi pc st h = none) (hv : ldf (mtd mi).1 i = some v) : EV sp scr d mi pc ls st h = EV sp scr d mi (pc + 3) ls (.int v :: st) h :=
  ei_nx hp rfl hsp rfl (by simp only [nx, hv])
theorem ei_goto {off : Int} {t : Nat} (hp : prog mi pc = some (.goto off, 3)) (hsp : sp mi pc st h = none) (ht : tg pc off = some t) : EV sp scr d mi pc ls st h = EV sp scr d mi t ls st h :=
  ei_nx hp rfl hsp rfl (by simp only [nx, ht])
theorem ei_get {i a : Nat} (hp : prog mi pc = some (.getfield i, 3)) (hsp : sp mi pc (.ref a :: st) (sz, us, hf) = none) (hoc : (mtd mi).1 = oc) : EV sp scr d mi pc ls (.ref a :: st) (sz, us, hf) = (gfl oc i (hf a)).bind (fun v => EV sp scr d mi (pc + 3) ls (v :: st) (sz, us, hf)) := by
  subst hoc
  rw [EV_nx hp rfl rfl hsp]
  simp only [nx]
  cases gfl (mtd mi).1 i (hf a) <;> rfl
theorem ei_put {i a : Nat} {v : Value} {ini : Bool} (hp : prog mi pc = some (.putfield i, 3)) (hsp : sp mi pc (v :: .ref a :: st) (sz, us, hf) = none) (hoc : (mtd mi).1 = oc) (hini : isIn0 mi = ini) : EV sp scr d mi pc ls (v :: .ref a :: st) (sz, us, hf) = (pfl ini oc i (hf a) v).bind (fun e => EV sp scr d mi (pc + 3) ls st (sz, us, hup hf a e)) := by
  subst hoc; subst hini
  rw [EV_nx hp rfl rfl hsp]
  simp only [nx]
  cases pfl (isIn0 mi) (mtd mi).1 i (hf a) v <;> rfl
theorem ei_iald {a : Nat} {i : Int32} (hp : prog mi pc = some (.iaload, 1)) : EV sp0 none d mi pc ls (.int i :: .ref a :: st) (sz, us, hf) = (ral 0 (hf a) i).bind (fun v => EV sp0 none d mi (pc + 1) ls (.int v :: st) (sz, us, hf)) := by
  rw [EV_nx hp rfl rfl rfl]
  simp only [nx]
  cases ral 0 (hf a) i <;> rfl
theorem ei_bald {a : Nat} {i : Int32} (hp : prog mi pc = some (.baload, 1)) : EV sp0 scr d mi pc ls (.int i :: .ref a :: st) (sz, us, hf) = (rbl (hf a) i).bind (fun v => EV sp0 scr d mi (pc + 1) ls (.int v :: st) (sz, us, hf)) := by
  rw [EV_nx hp rfl rfl rfl]
  simp only [nx, rbl]
  cases ral 1 (hf a) i <;> cases ral 2 (hf a) i <;> rfl
theorem ei_lald {a : Nat} {i : Int32} (hp : prog mi pc = some (.laload, 1)) (hsp : sp mi pc (.int i :: .ref a :: st) (sz, us, hf) = none) : EV sp scr d mi pc ls (.int i :: .ref a :: st) (sz, us, hf) = (rll (hf a) i).bind (fun v => EV sp scr d mi (pc + 1) ls (.long v :: st) (sz, us, hf)) := by
  rw [EV_nx hp rfl rfl hsp]
  simp only [nx]
  cases rll (hf a) i <;> rfl
theorem ei_aald {a : Nat} {i : Int32} (hp : prog mi pc = some (.aaload, 1)) : EV sp0 scr d mi pc ls (.int i :: .ref a :: st) (sz, us, hf) = (rrl (hf a) i).bind (fun v => EV sp0 scr d mi (pc + 1) ls (va_rf v :: st) (sz, us, hf)) := by
  rw [EV_nx hp rfl rfl rfl]
  simp only [nx]
  cases rrl (hf a) i <;> rfl
theorem ei_iast {a : Nat} {i x : Int32} (hp : prog mi pc = some (.iastore, 1)) : EV sp0 scr d mi pc ls (.int x :: .int i :: .ref a :: st) (sz, us, hf) = (wal 0 (hf a) i x).bind (fun e => EV sp0 scr d mi (pc + 1) ls st (sz, us, hup hf a e)) := by
  rw [EV_nx hp rfl rfl rfl]
  simp only [nx]
  cases wal 0 (hf a) i x <;> rfl
theorem ei_bast {a : Nat} {i x : Int32} (hp : prog mi pc = some (.bastore, 1)) : EV sp0 scr d mi pc ls (.int x :: .int i :: .ref a :: st) (sz, us, hf) = (wbl (hf a) i x).bind (fun e => EV sp0 scr d mi (pc + 1) ls st (sz, us, hup hf a e)) := by
  rw [EV_nx hp rfl rfl rfl]
  simp only [nx, wbl]
  cases wal 1 (hf a) i (vp_nar .byte x) <;> cases wal 2 (hf a) i (vp_nar .boolean x) <;> rfl
theorem ei_last {a : Nat} {i : Int32} {x : Int64} (hp : prog mi pc = some (.lastore, 1)) : EV sp0 scr d mi pc ls (.long x :: .int i :: .ref a :: st) (sz, us, hf) = (wll (hf a) i x).bind (fun e => EV sp0 scr d mi (pc + 1) ls st (sz, us, hup hf a e)) := by
  rw [EV_nx hp rfl rfl rfl]
  simp only [nx]
  cases wll (hf a) i x <;> rfl
theorem ei_aast {a v : Nat} {i : Int32} (hp : prog mi pc = some (.aastore, 1)) : EV sp0 scr d mi pc ls (.ref v :: .int i :: .ref a :: st) (sz, us, hf) = (wrl (hf a) i v (hf v)).bind (fun e => EV sp0 scr d mi (pc + 1) ls st (sz, us, hup hf a e)) := by
  rw [EV_nx hp rfl rfl rfl]
  simp only [nx]
  cases wrl (hf a) i v (hf v) <;> rfl
theorem ei_alen {a : Nat} (hp : prog mi pc = some (.arraylength, 1)) : EV sp0 none d mi pc ls (.ref a :: st) (sz, us, hf) = (aln (hf a)).bind (fun n => EV sp0 none d mi (pc + 1) ls (.int (nI n) :: st) (sz, us, hf)) := by
  rw [EV_nx hp rfl rfl rfl]
  simp only [nx]
  cases aln (hf a) <;> rfl
theorem ei_idiv {x y : Int32} (hp : prog mi pc = some (.idiv, 1)) (hy : ¬ y = 0) : EV sp0 scr d mi pc ls (.int y :: .int x :: st) h = EV sp0 scr d mi (pc + 1) ls (.int (x / y) :: st) h :=
  ei_nx hp rfl rfl rfl (by simp only [nx, if_neg hy])
theorem ei_irem {x y : Int32} (hp : prog mi pc = some (.irem, 1)) (hy : ¬ y = 0) : EV sp0 scr d mi pc ls (.int y :: .int x :: st) h = EV sp0 scr d mi (pc + 1) ls (.int (x - x / y * y) :: st) h :=
  ei_nx hp rfl rfl rfl (by simp only [nx, if_neg hy])
theorem ei_new {i ci : Nat} (hp : prog mi pc = some (.new i, 3)) (hsp : sp mi pc st (sz, us, hf) = none) (hn : ntf (mtd mi).1 i = some ci) : EV sp scr d mi pc ls st (sz, us, hf) = EV sp scr d mi (pc + 3) ls (.ref sz :: st) (sz + 1, us + ciN ci, hup hf sz (.inr (ci, cdf ci))) :=
  ei_nx hp rfl hsp rfl (by simp only [nx, hn])
theorem ei_newa {ty : ArrayType} {t n : Nat} (hp : prog mi pc = some (.newarray ty, 2)) (hsp : sp mi pc (.int (nI n) :: st) (sz, us, hf) = none) (ht : tgA ty = some t) (hn : n ≤ 60000000) : EV sp scr d mi pc ls (.int (nI n) :: st) (sz, us, hf) = EV sp scr d mi (pc + 2) ls (.ref sz :: st) (sz + 1, us + n, hup hf sz (zar t n)) := by
  have h1 : (nI n).toInt = (n : Int) := nI_toInt (by omega)
  have h2 : (nI n).toNatClampNeg = n := nI_clamp (by omega)
  refine ei_nx hp rfl hsp rfl ?_
  simp only [nx, ht, h1, h2]
  rw [if_pos ⟨by omega, by omega⟩]
theorem ei_newq {i t n : Nat} (hp : prog mi pc = some (.anewarray i, 3)) (ht : atf (mtd mi).1 i = some t) (hn : n ≤ 60000000) : EV sp0 scr d mi pc ls (.int (nI n) :: st) (sz, us, hf) = EV sp0 scr d mi (pc + 3) ls (.ref sz :: st) (sz + 1, us + n, hup hf sz (zar t n)) := by
  have h1 : (nI n).toInt = (n : Int) := nI_toInt (by omega)
  have h2 : (nI n).toNatClampNeg = n := nI_clamp (by omega)
  refine ei_nx hp rfl rfl rfl ?_
  simp only [nx, ht, h1, h2]
  rw [if_pos ⟨by omega, by omega⟩]
theorem ei_acmp {x y : Nat} {off : Int} {t : Nat} (hp : prog mi pc = some (.if_acmp .ne off, 3)) (ht : tg pc off = some t) : EV sp0 scr d mi pc ls (.ref y :: .ref x :: st) h = if x = y then EV sp0 scr d mi (pc + 3) ls st h else EV sp0 scr d mi t ls st h := by
  by_cases q : x = y
  · rw [if_pos q]; exact ei_nx hp rfl rfl rfl (by simp only [nx, ht, if_pos q])
  · rw [if_neg q]; exact ei_nx hp rfl rfl rfl (by simp only [nx, ht, if_neg q])
theorem ei_acmpN {y : Nat} {off : Int} {t : Nat} (hp : prog mi pc = some (.if_acmp .ne off, 3)) (ht : tg pc off = some t) : EV sp0 scr d mi pc ls (.ref y :: .null :: st) h = EV sp0 scr d mi t ls st h :=
  ei_nx hp rfl rfl rfl (by simp only [nx, ht])
theorem ei_ifnull {x : Nat} {off : Int} (hp : prog mi pc = some (.ifnull off, 3)) : EV sp0 scr d mi pc ls (.ref x :: st) h = EV sp0 scr d mi (pc + 3) ls st h :=
  ei_nx hp rfl rfl rfl (by simp only [nx])
theorem ei_ifnullN {off : Int} {t : Nat} (hp : prog mi pc = some (.ifnull off, 3)) (ht : tg pc off = some t) : EV sp0 scr d mi pc ls (.null :: st) h = EV sp0 scr d mi t ls st h :=
  ei_nx hp rfl rfl rfl (by simp only [nx, ht])
theorem ei_ifnonnull {x : Nat} {off : Int} {t : Nat} (hp : prog mi pc = some (.ifnonnull off, 3)) (ht : tg pc off = some t) : EV sp0 scr d mi pc ls (.ref x :: st) h = EV sp0 scr d mi t ls st h :=
  ei_nx hp rfl rfl rfl (by simp only [nx, ht])
theorem ei_ifnonnullN {off : Int} (hp : prog mi pc = some (.ifnonnull off, 3)) : EV sp0 scr d mi pc ls (.null :: st) h = EV sp0 scr d mi (pc + 3) ls st h :=
  ei_nx hp rfl rfl rfl (by simp only [nx])
theorem ei_tsD {df lo hi : Int} {offs : Array Int} {len t : Nat} {x : Int32} (hp : prog mi pc = some (.tableswitch df lo hi offs, len)) (hsp : sp mi pc (.int x :: st) h = none) (hx : x.toInt < lo ∨ hi < x.toInt) (ht : tg pc df = some t) : EV sp scr d mi pc ls (.int x :: st) h = EV sp scr d mi t ls st h := by
  rw [EV_nx hp (by simp [isTs]) rfl hsp]
  simp only [nx, if_pos hx, ht]
theorem ei_tsI {df lo hi off : Int} {offs : Array Int} {len t : Nat} {x : Int32} (hp : prog mi pc = some (.tableswitch df lo hi offs, len)) (hsp : sp mi pc (.int x :: st) h = none) (hx : ¬ (x.toInt < lo ∨ hi < x.toInt)) (ho : offs[(x.toInt - lo).toNat]? = some off) (ht : tg pc off = some t) : EV sp scr d mi pc ls (.int x :: st) h = EV sp scr d mi t ls st h := by
  rw [EV_nx hp (by simp [isTs]) rfl hsp]
  simp only [nx, if_neg hx, ho, ht]
theorem ei_ls {df : Int} {ps : Array (Int × Int)} {len t : Nat} {x : Int32} (hp : prog mi pc = some (.lookupswitch df ps, len)) (hx : (ps.toList.zip (ps.toList.drop 1)).all (fun (a, next) => a.1 < next.1) = true) (ht : tg pc (Op.lookupswitch.offset ps.toList df x.toInt) = some t) : EV sp0 scr d mi pc ls (.int x :: st) h = EV sp0 scr d mi t ls st h := by
  rw [EV_nx hp (by simp [isTs]) rfl rfl]
  simp only [nx, if_pos hx, ht]
theorem ei_stat {i y n nl : Nat} {as es rest st0 : List Value} {es : LL} (hp : prog mi pc = some (.invokestatic i, 3)) (hoc : (mtd mi).1 = oc) (hcs : cst oc i = some (y, n)) (hst : st0 = as.reverse ++ rest) (hn : as.length = n) (hy : (mtd y).2.2.2.1 = nl) (hlen : (entL as).length ≤ nl) (he : ent nl as = es) (hl : ls.length = (mtd mi).2.2.2.1) (hw : wid rest ≤ 8) :
    EV sp scr (d + 1) mi pc ls st0 h = (EV sp0 none d y 0 es [] h).bind (fun r => EV sp scr (d + 1) mi (pc + 3) ls (r.1.toList ++ rest) r.2) := by
  subst hoc; subst hst; subst hy; subst he; subst hn
  have hc : cli (mtd mi).1 (.invokestatic i) (as.reverse ++ rest) h = some (y, as, rest) := by
    simp only [cli, hcs]
    have h1 : (as.reverse ++ rest).drop as.length = rest := by rw [← List.length_reverse (as := as), List.drop_left]
    have h2 : (as.reverse ++ rest).take as.length = as.reverse := by rw [← List.length_reverse (as := as), List.take_left]
    rw [h1, h2, if_pos ⟨by simp, hw⟩, List.reverse_reverse]
  rw [EV_call hp rfl rfl hc hl hlen]
  unfold exR
  cases EV sp0 none d y 0 (ent (mtd y).2.2.2.1 as) [] h <;> rfl
theorem ei_virt {i y n nl q ci : Nat} {k : Bool} {ins : Instr} {as rest st0 : List Value} {es : LL} (hp : prog mi pc = some (ins, 3)) (hins : (k = false ∧ ins = .invokevirtual i) ∨ (k = true ∧ ins = .invokespecial i)) (hoc : (mtd mi).1 = oc) (hcn : cvn oc i = some n) (hcv : cvt oc i ci k = some (y, n)) (hq : cob (h.2.2 q) = some ci) (hst : st0 = as.reverse ++ .ref q :: rest) (hn : as.length = n) (hy : (mtd y).2.2.2.1 = nl) (hlen : (entL (.ref q :: as)).length ≤ nl) (he : ent nl (.ref q :: as) = es) (hl : ls.length = (mtd mi).2.2.2.1) (hw : wid rest ≤ 8) :
    EV sp scr (d + 1) mi pc ls st0 h = (EV sp0 none d y 0 es [] h).bind (fun r => EV sp scr (d + 1) mi (pc + 3) ls (r.1.toList ++ rest) r.2) := by
  subst hoc; subst hst; subst hy; subst he; subst hn
  have hc0 : clv (mtd mi).1 i k (as.reverse ++ .ref q :: rest) h = some (y, .ref q :: as, rest) := by
    have h0 : (as.reverse ++ Value.ref q :: rest)[as.length]? = some (.ref q) := by
      rw [List.getElem?_append_right (by simp)]
      simp
    have h1 : (as.reverse ++ Value.ref q :: rest).drop (as.length + 1) = rest := by
      have := List.drop_left (l₁ := as.reverse ++ [Value.ref q]) (l₂ := rest)
      simpa using this
    have h2 : (as.reverse ++ Value.ref q :: rest).take as.length = as.reverse := by
      rw [← List.length_reverse (as := as), List.take_left]
    simp only [clv, hcn, h0, hq, hcv, h1, h2]
    rw [if_pos ⟨trivial, hw⟩, List.reverse_reverse]
  have hc : cli (mtd mi).1 ins (as.reverse ++ .ref q :: rest) h = some (y, .ref q :: as, rest) := by
    rcases hins with ⟨rfl, rfl⟩ | ⟨rfl, rfl⟩ <;> exact hc0
  have hi3 : ilen ins = 3 := by rcases hins with ⟨rfl, rfl⟩ | ⟨rfl, rfl⟩ <;> rfl
  have hrt : rti (mtd mi).2.2.2.2 ins (as.reverse ++ .ref q :: rest) = none := by rcases hins with ⟨rfl, rfl⟩ | ⟨rfl, rfl⟩ <;> rfl
  rw [EV_call hp hi3 hrt hc hl hlen]
  unfold exR
  cases EV sp0 none d y 0 (ent (mtd y).2.2.2.1 (.ref q :: as)) [] h <;> rfl
theorem ei_obj {i q : Nat} (hp : prog mi pc = some (.invokespecial i, 3)) (hoc : (mtd mi).1 = oc) (hcn : cvn oc i = none) (hit : itL.contains (oc, i) = true) (hl : ls.length = (mtd mi).2.2.2.1) (hw : wid st ≤ 8) : EV sp scr (d + 1) mi pc ls (.ref q :: st) h = EV sp scr (d + 1) mi (pc + 3) ls st h := by
  subst hoc
  refine EV_nat hp rfl rfl ?_ ?_ hl
  · simp only [cli, clv, hcn]
  · simp only [ntv, if_pos (And.intro hit hw)]
    rfl
theorem ei_max {i k : Nat} {x y : Int32} (hp : prog mi pc = some (.invokestatic i, 3)) (hoc : (mtd mi).1 = oc) (hcn : cst oc i = none) (hit : mxf oc i = some k) (hl : ls.length = (mtd mi).2.2.2.1) (hw : wid st ≤ 8) : EV sp scr (d + 1) mi pc ls (.int y :: .int x :: st) h = EV sp scr (d + 1) mi (pc + 3) ls (.int (if k = 0 then (if x < y then y else x) else (if y < x then y else x)) :: st) h := by
  subst hoc
  refine EV_nat hp rfl rfl ?_ ?_ hl
  · simp only [cli, hcn]
  · simp only [ntv, hit, if_pos hw]
    rfl
def cpy (e1 e2 : Option PE) (sp dp n : Int32) : Option PE := match e1, e2 with
  | some (.inl (t, n0, .inl f)), some (.inl (t', n1, .inl g)) =>
    if t < 2 ∧ t' = t ∧ 0 ≤ n.toInt ∧ 0 ≤ dp.toInt ∧ 0 ≤ sp.toInt ∧ sp.toNatClampNeg + n.toNatClampNeg ≤ n0 ∧ dp.toNatClampNeg + n.toNatClampNeg ≤ n1 ∧ (t = 1 → ∀ k, k < n.toNatClampNeg → fits .byte (.int (f (sp.toNatClampNeg + k))) = true) then
      some (.inl (t', n1, .inl (va_cpy f g sp.toNatClampNeg dp.toNatClampNeg n.toNatClampNeg))) else none
  | _, _ => none
theorem ei_cpy {i a b : Nat} {n dp s0 : Int32} {e : PE} (hp : prog mi pc = some (.invokestatic i, 3)) (hoc : (mtd mi).1 = oc) (hcn : cst oc i = none) (hmx : mxf oc i = none) (hit : ctL.contains (oc, i) = true) (hl : ls.length = (mtd mi).2.2.2.1) (hw : wid st ≤ 8) (he : cpy (hf a) (hf b) s0 dp n = some e) :
    EV sp scr (d + 1) mi pc ls (.int n :: .int dp :: .ref b :: .int s0 :: .ref a :: st) (sz, us, hf) = EV sp scr (d + 1) mi (pc + 3) ls st (sz, us, hup hf b e) := by
  subst hoc
  refine EV_nat hp rfl rfl ?_ ?_ hl
  · simp only [cli, hcn]
  · simp only [ntv, hmx, Option.none_or, ntc]
    unfold cpy at he
    split at he
    · rename_i t m0 f t' m1 g h1 h2
      split at he
      · rename_i hcd
        cases he
        simp only [h1, h2]
        rw [if_pos ⟨hit, hw, hcd⟩]
      · cases he
    · cases he
theorem ei_if_eq {x : Int32} {off : Int} {t : Nat} (hp : prog mi pc = some (.ifCond .eq off, 3)) (hsp : sp mi pc (.int x :: st) h = none) (ht : tg pc off = some t) : EV sp scr d mi pc ls (.int x :: st) h = if x = 0 then EV sp scr d mi t ls st h else EV sp scr d mi (pc + 3) ls st h := by
  by_cases q : x = 0
  · rw [if_pos q]; exact ei_nx hp rfl hsp rfl (by simp only [nx, ht, brc, decide_eq_true_eq, if_pos q])
  · rw [if_neg q]; exact ei_nx hp rfl hsp rfl (by simp only [nx, ht, brc, decide_eq_true_eq, if_neg q])
theorem ei_icmp_eq {x y : Int32} {off : Int} {t : Nat} (hp : prog mi pc = some (.if_icmp .eq off, 3)) (hsp : sp mi pc (.int y :: .int x :: st) h = none) (ht : tg pc off = some t) : EV sp scr d mi pc ls (.int y :: .int x :: st) h = if x = y then EV sp scr d mi t ls st h else EV sp scr d mi (pc + 3) ls st h := by
  by_cases q : x = y
  · rw [if_pos q]; exact ei_nx hp rfl hsp rfl (by simp only [nx, ht, brd, decide_eq_true_eq, if_pos q])
  · rw [if_neg q]; exact ei_nx hp rfl hsp rfl (by simp only [nx, ht, brd, decide_eq_true_eq, if_neg q])
theorem ei_if_ne {x : Int32} {off : Int} {t : Nat} (hp : prog mi pc = some (.ifCond .ne off, 3)) (hsp : sp mi pc (.int x :: st) h = none) (ht : tg pc off = some t) : EV sp scr d mi pc ls (.int x :: st) h = if ¬ x = 0 then EV sp scr d mi t ls st h else EV sp scr d mi (pc + 3) ls st h := by
  by_cases q : ¬ x = 0
  · rw [if_pos q]; exact ei_nx hp rfl hsp rfl (by simp only [nx, ht, brc, decide_eq_true_eq, if_pos q])
  · rw [if_neg q]; exact ei_nx hp rfl hsp rfl (by simp only [nx, ht, brc, decide_eq_true_eq, if_neg q])
theorem ei_icmp_ne {x y : Int32} {off : Int} {t : Nat} (hp : prog mi pc = some (.if_icmp .ne off, 3)) (hsp : sp mi pc (.int y :: .int x :: st) h = none) (ht : tg pc off = some t) : EV sp scr d mi pc ls (.int y :: .int x :: st) h = if ¬ x = y then EV sp scr d mi t ls st h else EV sp scr d mi (pc + 3) ls st h := by
  by_cases q : ¬ x = y
  · rw [if_pos q]; exact ei_nx hp rfl hsp rfl (by simp only [nx, ht, brd, decide_eq_true_eq, if_pos q])
  · rw [if_neg q]; exact ei_nx hp rfl hsp rfl (by simp only [nx, ht, brd, decide_eq_true_eq, if_neg q])
theorem ei_if_lt {x : Int32} {off : Int} {t : Nat} (hp : prog mi pc = some (.ifCond .lt off, 3)) (hsp : sp mi pc (.int x :: st) h = none) (ht : tg pc off = some t) : EV sp scr d mi pc ls (.int x :: st) h = if x < 0 then EV sp scr d mi t ls st h else EV sp scr d mi (pc + 3) ls st h := by
  by_cases q : x < 0
  · rw [if_pos q]; exact ei_nx hp rfl hsp rfl (by simp only [nx, ht, brc, decide_eq_true_eq, if_pos q])
  · rw [if_neg q]; exact ei_nx hp rfl hsp rfl (by simp only [nx, ht, brc, decide_eq_true_eq, if_neg q])
theorem ei_icmp_lt {x y : Int32} {off : Int} {t : Nat} (hp : prog mi pc = some (.if_icmp .lt off, 3)) (hsp : sp mi pc (.int y :: .int x :: st) h = none) (ht : tg pc off = some t) : EV sp scr d mi pc ls (.int y :: .int x :: st) h = if x < y then EV sp scr d mi t ls st h else EV sp scr d mi (pc + 3) ls st h := by
  by_cases q : x < y
  · rw [if_pos q]; exact ei_nx hp rfl hsp rfl (by simp only [nx, ht, brd, decide_eq_true_eq, if_pos q])
  · rw [if_neg q]; exact ei_nx hp rfl hsp rfl (by simp only [nx, ht, brd, decide_eq_true_eq, if_neg q])
theorem ei_if_ge {x : Int32} {off : Int} {t : Nat} (hp : prog mi pc = some (.ifCond .ge off, 3)) (hsp : sp mi pc (.int x :: st) h = none) (ht : tg pc off = some t) : EV sp scr d mi pc ls (.int x :: st) h = if 0 ≤ x then EV sp scr d mi t ls st h else EV sp scr d mi (pc + 3) ls st h := by
  by_cases q : 0 ≤ x
  · rw [if_pos q]; exact ei_nx hp rfl hsp rfl (by simp only [nx, ht, brc, decide_eq_true_eq, if_pos q])
  · rw [if_neg q]; exact ei_nx hp rfl hsp rfl (by simp only [nx, ht, brc, decide_eq_true_eq, if_neg q])
theorem ei_icmp_ge {x y : Int32} {off : Int} {t : Nat} (hp : prog mi pc = some (.if_icmp .ge off, 3)) (hsp : sp mi pc (.int y :: .int x :: st) h = none) (ht : tg pc off = some t) : EV sp scr d mi pc ls (.int y :: .int x :: st) h = if y ≤ x then EV sp scr d mi t ls st h else EV sp scr d mi (pc + 3) ls st h := by
  by_cases q : y ≤ x
  · rw [if_pos q]; exact ei_nx hp rfl hsp rfl (by simp only [nx, ht, brd, decide_eq_true_eq, if_pos q])
  · rw [if_neg q]; exact ei_nx hp rfl hsp rfl (by simp only [nx, ht, brd, decide_eq_true_eq, if_neg q])
theorem ei_if_gt {x : Int32} {off : Int} {t : Nat} (hp : prog mi pc = some (.ifCond .gt off, 3)) (hsp : sp mi pc (.int x :: st) h = none) (ht : tg pc off = some t) : EV sp scr d mi pc ls (.int x :: st) h = if 0 < x then EV sp scr d mi t ls st h else EV sp scr d mi (pc + 3) ls st h := by
  by_cases q : 0 < x
  · rw [if_pos q]; exact ei_nx hp rfl hsp rfl (by simp only [nx, ht, brc, decide_eq_true_eq, if_pos q])
  · rw [if_neg q]; exact ei_nx hp rfl hsp rfl (by simp only [nx, ht, brc, decide_eq_true_eq, if_neg q])
theorem ei_icmp_gt {x y : Int32} {off : Int} {t : Nat} (hp : prog mi pc = some (.if_icmp .gt off, 3)) (hsp : sp mi pc (.int y :: .int x :: st) h = none) (ht : tg pc off = some t) : EV sp scr d mi pc ls (.int y :: .int x :: st) h = if y < x then EV sp scr d mi t ls st h else EV sp scr d mi (pc + 3) ls st h := by
  by_cases q : y < x
  · rw [if_pos q]; exact ei_nx hp rfl hsp rfl (by simp only [nx, ht, brd, decide_eq_true_eq, if_pos q])
  · rw [if_neg q]; exact ei_nx hp rfl hsp rfl (by simp only [nx, ht, brd, decide_eq_true_eq, if_neg q])
theorem ei_if_le {x : Int32} {off : Int} {t : Nat} (hp : prog mi pc = some (.ifCond .le off, 3)) (hsp : sp mi pc (.int x :: st) h = none) (ht : tg pc off = some t) : EV sp scr d mi pc ls (.int x :: st) h = if x ≤ 0 then EV sp scr d mi t ls st h else EV sp scr d mi (pc + 3) ls st h := by
  by_cases q : x ≤ 0
  · rw [if_pos q]; exact ei_nx hp rfl hsp rfl (by simp only [nx, ht, brc, decide_eq_true_eq, if_pos q])
  · rw [if_neg q]; exact ei_nx hp rfl hsp rfl (by simp only [nx, ht, brc, decide_eq_true_eq, if_neg q])
theorem ei_icmp_le {x y : Int32} {off : Int} {t : Nat} (hp : prog mi pc = some (.if_icmp .le off, 3)) (hsp : sp mi pc (.int y :: .int x :: st) h = none) (ht : tg pc off = some t) : EV sp scr d mi pc ls (.int y :: .int x :: st) h = if x ≤ y then EV sp scr d mi t ls st h else EV sp scr d mi (pc + 3) ls st h := by
  by_cases q : x ≤ y
  · rw [if_pos q]; exact ei_nx hp rfl hsp rfl (by simp only [nx, ht, brd, decide_eq_true_eq, if_pos q])
  · rw [if_neg q]; exact ei_nx hp rfl hsp rfl (by simp only [nx, ht, brd, decide_eq_true_eq, if_neg q])
end OPS
