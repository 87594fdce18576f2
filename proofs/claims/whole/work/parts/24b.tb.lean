/-! methods that throw: what they stand on; fail -/
def ISEn : String := "java/lang/IllegalStateException"
def IAEn : String := "java/lang/IllegalArgumentException"
def xnm : List String := ["java/lang/RuntimeException", "java/lang/Exception"]
def XS (n0 : Nat) (U : State) : Prop := (∃ sa, vk_R RX2 32 "the failure of a term of terms" sa U) ∧ (∃ sa, vk_R RX11 141 "no such states" sa U) ∧ (∃ sa, vk_R RX11 283 "no such shelf" sa U) ∧ (∃ sa, vk_R RX11 289 "no such place of a row" sa U) ∧ vx_Zq Bundle.tN "UNASSIGNED_STACK" Bundle.steD (AN n0) U U.heap ∧ vx_Zq Bundle.tN "SUPPRESSED_SENTINEL" Bundle.listD (AN n0) U U.heap
def inBN (w : Cond) : Bool := decide (w ∈ lw_tbl) && (goodWord w || isNw w)
theorem at_ISE2 : ∀ w ∈ vx_atS RX2 34 ISEn xnm, inBN w = true := by decide +kernel
theorem at_IAE11 : ∀ w ∈ vx_atS RX11 143 IAEn xnm, inBN w = true := by decide +kernel
theorem at_ISE11 : ∀ w ∈ vx_atS RX11 291 ISEn xnm, inBN w = true := by decide +kernel
theorem go_ISE2 : ∀ w ∈ Cond.classLink RX2 30 ISEn :: Cond.initialized ISEn :: vx_atS RX2 34 ISEn xnm, vx_ot w = true := by decide +kernel
theorem go_IAE11 : ∀ w ∈ Cond.classLink RX11 139 IAEn :: Cond.initialized IAEn :: vx_atS RX11 143 IAEn xnm, vx_ot w = true := by decide +kernel
theorem go_ISE11 : ∀ w ∈ Cond.classLink RX11 287 ISEn :: Cond.initialized ISEn :: vx_atS RX11 291 ISEn xnm, vx_ot w = true := by decide +kernel
theorem inBN_b {args : Array Value} {s : State} {w : Cond} (h : inBN w = true) (hg : vx_ot w = true) (hB : ∀ w ∈ BG, w.before args s = true) (hN : NW s) : w.before args s = true := by
  unfold inBN at h
  rw [Bool.and_eq_true, Bool.or_eq_true] at h
  obtain ⟨h1, h2⟩ := h
  have h1 := of_decide_eq_true h1
  rcases h2 with h2 | h2
  · exact hB w (List.mem_filter.mpr ⟨h1, h2⟩)
  · exact vx_ot_at (State.WarmedH.refl s) rfl hg (hN w ⟨h1, h2⟩)
def wE (y : MethodName) (cc : ByteArray) (n : Nat) (r : Option FieldType) : List Cond := Cond.code y cc n r :: BG
def PcX (as : List Value) (h : Hp) (D : va_G) (cA : Nat → ClassId) (n0 : Nat) : Array Value → State → Prop := va_Pc as (fun U => HM D cA n0 h U ∧ va_K D vwCl (tyL cA) U ∧ NW U ∧ XS n0 U)
def XcM (E0 : String) (h' : Hp) (D : va_G) (cA : Nat → ClassId) (n0 : Nat) : String → State → State → Prop := fun E st t => E = E0 ∧ (t.heap.size = h'.1 ∧ HRl D cA h'.2.2 t.heap ∧ (∀ a e, h'.2.2 a = some e → n0 ≤ a)) ∧ va_F (AN n0) st t
theorem HRl.ext {D : va_G} {cA : Nat → ClassId} {f : Hf} {H H1 : Heap} (h : HRl D cA f H) (oq : ∀ q : Nat, q < H.size → H1[q]? = H[q]?) : HRl D cA f H1 := fun a e he => (h a e he).kept (oq a (h a e he).lt)
theorem in_w {w : Cond} (h : inB w = true) : w ∈ BG := by
  unfold inB at h
  rw [Bool.and_eq_true] at h
  exact List.mem_filter.mpr ⟨of_decide_eq_true h.1, h.2⟩
theorem M_fail (l : Launch) (hl : l.stackTraces = false) (D : va_G) (cA : Nat → ClassId) (n0 a : Nat) (h : Hp) : vx_Met l yX2_fail (wE yX2_fail cX2_fail 1 none) (rM 6 1 6) (PcX [.ref a] h D cA n0) (fun _ _ _ _ => False) (XcM ISEn (h.1 + 1, h.2.1 + 6, h.2.2) D cA n0) 1 6 (AN n0) := by
  refine vx_ofW (cc := cX2_fail) (maxL := 1) (ret := none) (by decide +kernel) rfl ?_
  intro p e s m args below meth c s₁ B hml ht hv
  obtain ⟨rfl, ⟨hz, hH, hlo, hn0⟩, hK, hN, hX⟩ := hv
  have hts := atoms_spec (ws := wE yX2_fail cX2_fail 1 none) B.pre
  have hB : ∀ w ∈ BG, w.before _ s = true := fun w hw => hts w (List.mem_cons_of_mem _ hw)
  have hown : s.vm.findClass RX2 = some m.cls := findClass_of_methodNamed B.named
  obtain ⟨⟨sa, hs⟩, -, -, -, hU, hNs⟩ := hX
  rw [lg_entry_eq]
  refine wx_throwS (own := RX2) (cls := ISEn) (names := xnm) (ik := 30) (is := 32) (ic := 34) (sa := sa) (A := AN n0) B.exec B.bytes hl hown (by decide +kernel) (by decide +kernel) (hB _ (in_w (by decide +kernel))) (hB _ (in_w (by decide +kernel))) hs (fun w hw => inBN_b (at_ISE2 w hw) (go_ISE2 w (List.mem_cons_of_mem _ (List.mem_cons_of_mem _ hw))) hB hN) go_ISE2 hU hNs va_S.rf ?_ (by decide +kernel) (by decide +kernel) (by decide +kernel) (by decide +kernel) (by decide +kernel) (fun x hx => (ht x hx).elim) (by decide) (by decide) (by decide) (by decide) B.notSynchronized (fun t hal hsz hk => ⟨rfl, ⟨by rw [hsz, hz], hH.ext hk, hlo⟩, ⟨by omega, fun q h1 _ => hk q h1⟩⟩) (fun z hz => nomatch hz) (by omega) (by omega)
  rw [hml]
  exact (ent_LR (n := 1) (as := [.ref a]) (show (entL [Value.ref a]).length ≤ 1 from Nat.le_refl 1)).size.trans rfl
