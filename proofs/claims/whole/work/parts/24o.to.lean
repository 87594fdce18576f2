/-! an overriding method that may throw (after va_callVU, va_runU of the kit, vx_callV, vx_runV of 02) -/
section VXU
variable {p : Program} {l : Launch} {e : Env} {R : Room} {s : State} {m : MethodId} {args : Array Value} {below : List Frame} {meth : Method} {c : Code}
theorem vx_callVU {T : State} {locs : List Loc} {cells slots : Nat} (X : Stand p l e R s m args below meth c T locs cells slots) (hexec : p.tables.exec = Jvm.exec) {own C owner : String} {index : Nat} {x y : MethodName} {bytes : ByteArray} {maxL : Nat} {ret : Option FieldType}
    (hown : s.vm.findClass own = some m.cls) (hlink : (Cond.methodLink own index x).before args s = true) (hsame : (Cond.sameMethod x.cls owner x.name x.desc).before args s = true)
    (hd0 : va_Decl s ⟨owner, x.name, x.desc⟩) (howner : owner ≠ "java/lang/invoke/MethodHandle" ∧ owner ≠ "java/lang/invoke/VarHandle")
    (hsel : (Cond.selects C x y).before args s = true) (hinst : (Cond.instanceMethod y).before args s = true) (_hcode : (Cond.code y bytes maxL ret).before args s = true)
    {W9 : Nat} {Pre : Pt → Array Value → Prop} {Post : Pt → Array Value → Option Value → Pt → Prop} {PostX : Pt → Array Value → Addr → Pt → Prop} (hK : vx_Back l R p e below s args y 3 W9 Pre Post PostX)
    {b : Addr} {cellB : Cell} (hcell : T.heap[b]? = some cellB) (hobj : cellB.vm.isStatics = false) (hcls : s.vm.findClass C = some cellB.cls)
    {g : JFrame} (hg : g.method = m) (hsize : g.locals.size = c.maxLocals) {argsL rest : List Value} (hlen : ∀ sig, parseMethodDescriptor x.desc = some sig → argsL.length = sig.parameters.length)
    (hstack : g.stack = argsL.reverse ++ .ref b :: rest) (hW : 2 * g.monitorRoom + (rest.map fun v => v.category).sum ≤ W9) (hdg : decode c.code g.pc = .ok (.invokevirtual index, 3))
    (hpre : ∀ vm₁, s.WarmedH vm₁ → Pre ⟨T.setVm vm₁, locs, cells, slots⟩ (Value.ref b :: argsL).toArray) :
    (∃ (v : Option Value) (vm₁ : Vm) (B : Pt), s.WarmedH vm₁ ∧ Stand p l e R s m args below meth c B.U B.locs B.cells B.slots ∧ Post ⟨T.setVm vm₁, locs, cells, slots⟩ (Value.ref b :: argsL).toArray v B ∧
      ∀ target, Steps p.tables e below (B.U.setTop { g with pc := g.pc + 3, stack := v.toList ++ rest }) target → Steps p.tables e below (T.setTop g) target) ∨
    (∃ (q : Addr) (vm₁ : Vm) (B : Pt), s.WarmedH vm₁ ∧ Stand p l e R s m args below meth c B.U B.locs B.cells B.slots ∧ PostX ⟨T.setVm vm₁, locs, cells, slots⟩ (Value.ref b :: argsL).toArray q B ∧
      Steps p.tables e below (T.setTop g) ((B.U.setTop { g with stack := rest }).pushFrame (.throwing q))) := by
  obtain ⟨r0, r, hn, hrm, hstR, hsigR⟩ := hd0
  obtain ⟨cn, ck, r1, hcn, hck, hni, hf, hn1⟩ := Cond.sameMethod_found hsame
  cases hn.symm.trans hn1
  obtain ⟨mk, methM, hnamed, hmethM, -, habM⟩ := Cond.instanceMethod_spec hinst
  obtain ⟨c2, r2, m2, q1, q2, q3, q4, kP, hkP, hkPi⟩ := Cond.selects_spec hsel
  cases hcls.symm.trans q1
  cases hf.symm.trans q2
  cases hnamed.symm.trans q3
  have hselP : selectMethod e.platform s.vm cellB.cls r0 = .method mk := by rw [Launch.admits_selectMethod X.admits]; exact q4
  obtain ⟨vm₁, X₁, hstep₁⟩ := X.invokevirtualUp hexec hown hlink hsame howner hn hrm hstR (a := b) (cell := cellB) hcell
    (fun z h => by rw [h] at hobj; cases hobj) hselP hmethM habM hkP hkPi (g := g) hg (argsL := argsL) (rest := rest) (hlen _ hsigR) hstack hdg
  rcases hK m meth c ⟨T.setVm vm₁, locs, cells, slots⟩ { g with stack := rest } (.invokevirtual index) mk (Value.ref b :: argsL).toArray X₁ hg hsize hdg hW (X₁.named hnamed) (hpre vm₁ X₁.warmed) with ⟨v, B, X', hpost, hsteps⟩ | ⟨q, B, X', hpost, hsteps⟩
  · exact Or.inl ⟨v, vm₁, B, X₁.warmed, X', hpost, fun target h => hstep₁ _ fun acts => by rw [doInvoke_state]; exact hsteps.trans h⟩
  · exact Or.inr ⟨q, vm₁, B, X₁.warmed, X', hpost, hstep₁ _ fun acts => by rw [doInvoke_state]; exact hsteps⟩
variable {H : Heap} {locs : List Loc} {cells slots : Nat}
theorem vx_runU {x y : MethodName} {bytes cc : ByteArray} {maxL nL mc ms n index : Nat} {ret : Option FieldType} {ws : List Cond} {rm : Room} {Pc : Array Value → State → Prop} {Qc : Array Value → State → Outcome → State → Prop} {XC : String → State → State → Prop} {free : Addr → Prop} {Ts : List Cond} {own C owner : String} {b : Addr} {As rest : List Value} {g : JFrame}
    (S : CallFix p m c cc nL s args Ts own) (hM : vx_Met l y ws rm Pc Qc XC mc ms free) (cw : va_CU R s args own C owner index x y bytes maxL ret ws rm mc ms n) (hp : PreV s H C b Pc As)
    (hg : g.method = m) (hn : As.length = n) (hsize : g.locals.size = nL) (hstack : g.stack = As.reverse ++ .ref b :: rest) (hW : 2 * g.monitorRoom + (rest.map fun v => v.category).sum ≤ 8) (hdg : decode cc g.pc = .ok (.invokevirtual index, 3)) (hf : cells + mc ≤ R.cells ∧ slots + ms ≤ R.slots) :
    vx_Run p l e R s m args below meth c H locs cells slots mc ms g rest (Qc (Value.ref b :: As).toArray) XC free := by
  obtain ⟨hrc, hrs, hfr, hlo, hws, hcw⟩ := cw.back
  have hini := cw.init
  have hK : vx_Back l R p e below s args y 3 8 (PreOf R mc ms Pc) (PostOf Qc mc ms free) (vx_Post XC mc ms free) := vx_back (bytes := bytes) (maxL := maxL) (ret := ret) hM hp.1 hrc hrs hfr hlo hws hcw (fun a' U hW => word_at hW (Or.inl (by first | rfl | simp [Cond.onTables, Cond.keeps, Cond.steady])) hini)
  obtain ⟨hx, hb, hml, ho, -⟩ := S
  obtain ⟨-, ⟨cellB, hcB, hoB, hclB⟩, hPc⟩ := hp
  intro T hT X
  rcases vx_callVU X hx (C := C) (owner := owner) (bytes := bytes) (maxL := maxL) (ret := ret) ho cw.link cw.same cw.decl cw.notMH cw.sel cw.inst cw.code hK (by rw [hT]; exact hcB) hoB hclB hg (hsize.trans hml.symm) (argsL := As) (rest := rest) (fun sig h => hn.trans (cw.len sig h)) hstack hW (by rw [hb]; exact hdg)
    (fun vm₁ hW₁ => ⟨hf.1, hf.2, hPc (T.setVm vm₁) hT hW₁⟩) with ⟨v, vm₁, ⟨U', l2, c2, s2⟩, hW₁, X', ⟨g', mk, t, L, e1, e2, hq, h1, hL, h2, h3⟩, st⟩ | ⟨q, vm₁, ⟨U', l2, c2, s2⟩, hW₁, X', ⟨g', mk, t, L, E, ce, e1, e2, hq, hce, hcv, hcl, h1, hL, h2, h3⟩, st⟩
  · dsimp only [Pt.U, Pt.locs, Pt.cells, Pt.slots] at X' e1 e2 h1 h2 h3 st
    subst h1; subst h2; subst h3
    exact Or.inl ⟨v, (T.setVm vm₁).calling g' mk (Value.ref b :: As).toArray, t, U', L, hT, X', hL, e1, e2, hq, st⟩
  · dsimp only [Pt.U, Pt.locs, Pt.cells, Pt.slots] at X' e1 e2 h1 h2 h3 st hcl
    subst h1; subst h2; subst h3
    exact Or.inr ⟨q, (T.setVm vm₁).calling g' mk (Value.ref b :: As).toArray, t, U', L, E, ce, hT, X', hL, e1, e2, hq, hce, hcv, vx_cls hW₁ hcl, st⟩
end VXU
section TOS
theorem gU_fail (ci : Nat) (hci : ci = 3 ∨ ci = 6 ∨ ci = 8) : GoodIn BG (va_wsO RX11 318 (cin ci) RX9 yX9_fail yX2_fail (wE yX2_fail cX2_fail 1 none)) := by
  have key : ∀ w ∈ BG, w ∈ BG ∧ ((w.onTables && w.keeps) = true ∨ ∃ ty, w = .arrayClass ty) := fun w hw => ⟨hw, good_of_word (List.mem_filter.mp hw).2⟩
  intro w hw
  simp only [va_wsO, wE, List.cons_append, List.nil_append, List.mem_cons] at hw
  rcases hw with rfl | rfl | rfl | rfl | rfl | rfl | rfl | hw
  · exact key _ (in_w (by decide +kernel))
  · exact key _ (in_w (by decide +kernel))
  · exact key _ (in_w (by decide +kernel))
  · rcases hci with rfl | rfl | rfl <;> exact key _ (in_w (by decide +kernel))
  · exact key _ (in_w (by decide +kernel))
  · exact key _ (in_w (by decide +kernel))
  · exact key _ (in_w (by decide +kernel))
  · exact key w hw
variable {l : Launch} {D : va_G} {cA : Nat → ClassId} {n0 x ra q r : Nat} {h : Hp} {z : Int32}
theorem M_toss_no (a : Int32) (hx : cob (h.2.2 x) = some 9) (he : Ev 300 131 0 [some (.ref x), some (.int a)] [] h = some (some (.int z), h)) (hz0 : ¬ z = 0) : vx_Met l yX11_toss (wH yX11_toss cX11_toss 4 (some .int) [(12, 26, 27, 287)]) (rM 301 0 0) (PcX [.ref x, .int a] h D cA n0) (QcM (some (.int z)) h D cA n0) (fun _ _ _ => False) 0 0 (AN n0) := by
  refine vx_ofWH (cc := cX11_toss) (maxL := 4) (ret := some .int) (hh := [(12, 26, 27, 287)]) (by decide +kernel) rfl ?_
  intro p e s m args below meth c s₁ B hml hv
  obtain ⟨rfl, ⟨hz, hH, hlo, hn0⟩, hK1, hN, hX⟩ := hv
  have hts := atoms_spec (ws := wH yX11_toss cX11_toss 4 (some .int) [(12, 26, 27, 287)]) B.pre
  have hB : ∀ w ∈ BG, w.before [Value.ref x, .int a].toArray s = true := fun w hw => hts w (List.mem_cons_of_mem _ hw)
  have hown : s.vm.findClass RX11 = some m.cls := findClass_of_methodNamed B.named
  have C : CX p s m [Value.ref x, .int a].toArray meth c cX11_toss 11 false D cA n0 s.heap := ⟨B.exec, B.bytes, hown, hB, hK1, hN, hn0, fun q => by cases q⟩
  have Y : DY D cA n0 s.heap h s.heap [] := ⟨hz, hH, va_S.rf, hlo⟩
  have hr : (0 : Nat) ≤ (rM 301 0 0).cells ∧ (0 : Nat) ≤ (rM 301 0 0).slots := ⟨Nat.zero_le _, Nat.zero_le _⟩
  rw [lg_entry_eq]
  refine nx_s (pc' := 1) (st' := [.ref x]) (ls' := [some (.ref x), some (.int a), none, none]) (ls := [some (.ref x), some (.int a), none, none]) (ins := .aload_n 0) (len := 1) rfl (by decide +kernel) (Or.inl rfl) C (ent_LR (n := 4) (as := [.ref x, .int a]) (show 2 ≤ 4 by omega)) Y hr (fun H1 locs1 la1 hl1 Y1 => ?_)
  refine nx_s (pc' := 2) (st' := [.int a, .ref x]) (ls' := [some (.ref x), some (.int a), none, none]) (ins := .iload_n 1) (len := 1) rfl (by decide +kernel) (Or.inl rfl) C hl1 Y1 hr (fun H2 locs2 la2 hl2 Y2 => ?_)
  refine cl_s (oc := 11) (d := 300) (y := 131) (as := [.ref x, .int a]) (rest := []) (v := some (.int z)) (h' := h) (cli_v (k := false) (n := 1) (ci := 9) (as := [.int a]) (rest := []) (Or.inl ⟨rfl, rfl⟩) (by decide +kernel) (by decide +kernel) hx rfl rfl (by decide)) (show decode cX11_toss 2 = .ok (.invokevirtual 311, 3) by decide +kernel) C (by rw [hml]; exact hl2.size.symm) Y2 (Nat.le_refl 2) he ⟨Nat.le_refl _, Nat.le_refl _⟩ ⟨by omega, by omega⟩ (fun H3 locs3 Y3 => ?_)
  rw [Nat.sub_self, Nat.sub_self]
  refine nx_s (pc' := 6) (st' := []) (ls' := [some (.ref x), some (.int a), some (.int z), none]) (ins := .istore_n 2) (len := 1) rfl (by decide +kernel) (Or.inl rfl) C hl2 Y3 hr (fun H4 locs4 la4 hl4 Y4 => ?_)
  refine nx_s (pc' := 7) (st' := [.int z]) (ls' := [some (.ref x), some (.int a), some (.int z), none]) (ins := .iload_n 2) (len := 1) rfl (by decide +kernel) (Or.inl rfl) C hl4 Y4 hr (fun H5 locs5 la5 hl5 Y5 => ?_)
  refine nx_s (pc' := 10) (st' := []) (ls' := [some (.ref x), some (.int a), some (.int z), none]) (ins := .ifCond .eq 5) (len := 3) (by simp only [nx, brc, decide_eq_false hz0]; rfl) (by decide +kernel) (Or.inl rfl) C hl5 Y5 hr (fun H6 locs6 la6 hl6 Y6 => ?_)
  refine nx_s (pc' := 11) (st' := [.int z]) (ls' := [some (.ref x), some (.int a), some (.int z), none]) (ins := .iload_n 2) (len := 1) rfl (by decide +kernel) (Or.inl rfl) C hl6 Y6 hr (fun Hd locsd lad hld Yd => ?_)
  exact vx_ret (W.iret B.exec B.bytes B.returns (fun t ht hW => ⟨rfl, ⟨by rw [ht]; exact Yd.1, by rw [ht]; exact Yd.2.1, Yd.2.2.2⟩, Yd.2.2.1.F ht⟩) Yd.2.2.1.2.2 (show decode cX11_toss 11 = .ok (.ireturn, 1) by decide +kernel))
end TOS
