/-! toss, by hand: no failure; a failure -/
section TOS2
variable {l : Launch} {D : va_G} {cA : Nat → ClassId} {n0 x ra q r ci : Nat} {h : Hp} {z : Int32} {fs0 : List Value}
theorem M_toss_leaf (a : Int32) (hx : cob (h.2.2 x) = some 9) (he : Ev 300 131 0 [some (.ref x), some (.int a)] [] h = some (some (.int 0), h)) (hp : gfl 11 31 (h.2.2 x) = some (.ref ra)) (hra : rrl (h.2.2 ra) a = some (some q)) (hq : gfl 11 314 (h.2.2 q) = some (.ref r)) (hr0 : cob (h.2.2 r) = some 0) : vx_Met l yX11_toss (wH yX11_toss cX11_toss 4 (some .int) [(12, 26, 27, 287)]) (rM 301 0 0) (PcX [.ref x, .int a] h D cA n0) (QcM (some (.int (-15))) h D cA n0) (fun _ _ _ => False) 0 0 (AN n0) := by
  refine vx_ofWH (cc := cX11_toss) (maxL := 4) (ret := some .int) (hh := [(12, 26, 27, 287)]) (by decide +kernel) rfl ?_
  intro p e s m args below meth c s₁ B hml hv
  obtain ⟨rfl, ⟨hz, hH, hlo, hn0⟩, hK1, hN, hX⟩ := hv
  have hts := atoms_spec (ws := wH yX11_toss cX11_toss 4 (some .int) [(12, 26, 27, 287)]) B.pre
  have hB : ∀ w ∈ BG, w.before [Value.ref x, .int a].toArray s = true := fun w hw => hts w (List.mem_cons_of_mem _ hw)
  have hown : s.vm.findClass RX11 = some m.cls := findClass_of_methodNamed B.named
  have C : CX p s m [Value.ref x, .int a].toArray meth c cX11_toss 11 false D cA n0 s.heap := ⟨B.exec, B.bytes, hown, hB, hK1, hN, hn0, fun q => by cases q⟩
  have Y : DY D cA n0 s.heap h s.heap [] := ⟨hz, hH, va_S.rf, hlo⟩
  have hr : (0 : Nat) ≤ (rM 301 0 0).cells ∧ (0 : Nat) ≤ (rM 301 0 0).slots := ⟨Nat.zero_le _, Nat.zero_le _⟩
  rw [lg_entry_eq]
  refine nx_s (pc' := 1) (st' := [.ref x]) (ls' := [some (.ref x), some (.int a), none, none]) (ls := [some (.ref x), some (.int a), none, none]) (ins := .aload_n 0) (len := 1) rfl (by decide +kernel) (Or.inl rfl) C (ent_LR (n := 4) (as := [.ref x, .int a]) (show 2 ≤ 4 by omega)) Y hr (fun H1 locs1 la1 hl1 Y1 => ?_)
  refine nx_s (pc' := 2) (st' := [.int a, .ref x]) (ls' := [some (.ref x), some (.int a), none, none]) (ins := .iload_n 1) (len := 1) rfl (by decide +kernel) (Or.inl rfl) C hl1 Y1 hr (fun H2 locs2 la2 hl2 Y2 => ?_)
  refine cl_s (oc := 11) (d := 300) (y := 131) (as := [.ref x, .int a]) (rest := []) (v := some (.int 0)) (h' := h) (cli_v (k := false) (n := 1) (ci := 9) (as := [.int a]) (rest := []) (Or.inl ⟨rfl, rfl⟩) (by decide +kernel) (by decide +kernel) hx rfl rfl (by decide)) (show decode cX11_toss 2 = .ok (.invokevirtual 311, 3) by decide +kernel) C (by rw [hml]; exact hl2.size.symm) Y2 (Nat.le_refl 2) he ⟨Nat.le_refl _, Nat.le_refl _⟩ ⟨by omega, by omega⟩ (fun H3 locs3 Y3 => ?_)
  rw [Nat.sub_self, Nat.sub_self]
  refine nx_s (pc' := 6) (st' := []) (ls' := [some (.ref x), some (.int a), some (.int 0), none]) (ins := .istore_n 2) (len := 1) rfl (by decide +kernel) (Or.inl rfl) C hl2 Y3 hr (fun H4 locs4 la4 hl4 Y4 => ?_)
  refine nx_s (pc' := 7) (st' := [.int 0]) (ls' := [some (.ref x), some (.int a), some (.int 0), none]) (ins := .iload_n 2) (len := 1) rfl (by decide +kernel) (Or.inl rfl) C hl4 Y4 hr (fun H5 locs5 la5 hl5 Y5 => ?_)
  refine nx_s (pc' := 12) (st' := []) (ls' := [some (.ref x), some (.int a), some (.int 0), none]) (ins := .ifCond .eq 5) (len := 3) rfl (by decide +kernel) (Or.inl rfl) C hl5 Y5 hr (fun H6 locs6 la6 hl6 Y6 => ?_)
  refine nx_s (pc' := 13) (st' := [.ref x]) (ls' := [some (.ref x), some (.int a), some (.int 0), none]) (ins := .aload_n 0) (len := 1) rfl (by decide +kernel) (Or.inl rfl) C hl6 Y6 hr (fun H7 locs7 la7 hl7 Y7 => ?_)
  refine nx_s (pc' := 16) (st' := [.ref ra]) (ls' := [some (.ref x), some (.int a), some (.int 0), none]) (ins := .getfield 31) (len := 3) (by simp only [nx, hp]) (by decide +kernel) (Or.inl rfl) C hl7 Y7 hr (fun H8 locs8 la8 hl8 Y8 => ?_)
  refine nx_s (pc' := 17) (st' := [.int a, .ref ra]) (ls' := [some (.ref x), some (.int a), some (.int 0), none]) (ins := .iload_n 1) (len := 1) rfl (by decide +kernel) (Or.inl rfl) C hl8 Y8 hr (fun H9 locs9 la9 hl9 Y9 => ?_)
  refine nx_s (pc' := 18) (st' := [.ref q]) (ls' := [some (.ref x), some (.int a), some (.int 0), none]) (ins := .aaload) (len := 1) (by simp only [nx, hra, va_rf]) (by decide +kernel) (Or.inl rfl) C hl9 Y9 hr (fun Ha locsa laa hla Ya => ?_)
  refine nx_s (pc' := 21) (st' := [.ref r]) (ls' := [some (.ref x), some (.int a), some (.int 0), none]) (ins := .getfield 314) (len := 3) (by simp only [nx, hq]) (by decide +kernel) (Or.inl rfl) C hla Ya hr (fun Hb locsb lab hlb Yb => ?_)
  refine cl_s (oc := 11) (d := 300) (y := 81) (as := [.ref r]) (rest := []) (v := none) (h' := h) (cli_v (k := false) (n := 0) (ci := 0) (as := []) (rest := []) (Or.inl ⟨rfl, rfl⟩) (by decide +kernel) (by decide +kernel) hr0 rfl rfl (by decide)) (show decode cX11_toss 21 = .ok (.invokevirtual 318, 3) by decide +kernel) C (by rw [hml]; exact hlb.size.symm) Yb (Nat.le_refl 1) (s81_0 (d := 300) (st := [])) ⟨Nat.le_refl _, Nat.le_refl _⟩ ⟨by omega, by omega⟩ (fun Hc locsc Yc => ?_)
  rw [Nat.sub_self, Nat.sub_self]
  refine nx_s (pc' := 26) (st' := [.int (-15)]) (ls' := [some (.ref x), some (.int a), some (.int 0), none]) (ins := .bipush (-15)) (len := 2) rfl (by decide +kernel) (Or.inl rfl) C hlb Yc hr (fun Hd locsd lad hld Yd => ?_)
  exact vx_ret (W.iret B.exec B.bytes B.returns (fun t ht hW => ⟨rfl, ⟨by rw [ht]; exact Yd.1, by rw [ht]; exact Yd.2.1, Yd.2.2.2⟩, Yd.2.2.1.F ht⟩) Yd.2.2.1.2.2 (show decode cX11_toss 26 = .ok (.ireturn, 1) by decide +kernel))
theorem M_toss_of (hl : l.stackTraces = false) (a : Int32) (hx : cob (h.2.2 x) = some 9) (he : Ev 300 131 0 [some (.ref x), some (.int a)] [] h = some (some (.int 0), h)) (hp : gfl 11 31 (h.2.2 x) = some (.ref ra)) (hra : rrl (h.2.2 ra) a = some (some q)) (hq : gfl 11 314 (h.2.2 q) = some (.ref r)) (hci : ci = 3 ∨ ci = 6 ∨ ci = 8) (hr0 : h.2.2 r = some (.inr (ci, fs0))) (hk : gfl 11 188 (h.2.2 r) = some (.int z)) : vx_Met l yX11_toss (wH yX11_toss cX11_toss 4 (some .int) [(12, 26, 27, 287)]) (rM 301 1 6) (PcX [.ref x, .int a] h D cA n0) (QcM (some (.int z)) (h.1 + 1, h.2.1 + 6, h.2.2) D cA n0) (fun _ _ _ => False) 1 6 (AN n0) := by
  refine vx_ofWH (cc := cX11_toss) (maxL := 4) (ret := some .int) (hh := [(12, 26, 27, 287)]) (by decide +kernel) rfl ?_
  intro p e s m args below meth c s₁ B hml hv
  obtain ⟨rfl, ⟨hz, hH, hlo, hn0⟩, hK1, hN, hX⟩ := hv
  have hts := atoms_spec (ws := wH yX11_toss cX11_toss 4 (some .int) [(12, 26, 27, 287)]) B.pre
  have hB : ∀ w ∈ BG, w.before [Value.ref x, .int a].toArray s = true := fun w hw => hts w (List.mem_cons_of_mem _ hw)
  have hown : s.vm.findClass RX11 = some m.cls := findClass_of_methodNamed B.named
  have C : CX p s m [Value.ref x, .int a].toArray meth c cX11_toss 11 false D cA n0 s.heap := ⟨B.exec, B.bytes, hown, hB, hK1, hN, hn0, fun q => by cases q⟩
  have Y : DY D cA n0 s.heap h s.heap [] := ⟨hz, hH, va_S.rf, hlo⟩
  have htab : c.exceptionTable.toList = [] ++ (⟨12, 26, 27, 287⟩ : ExceptionTableEntry) :: [] := (vx_table (x := yX11_toss) B (hts _ List.mem_cons_self)).trans rfl
  have hr : (0 : Nat) ≤ (rM 301 1 6).cells ∧ (0 : Nat) ≤ (rM 301 1 6).slots := ⟨Nat.zero_le _, Nat.zero_le _⟩
  have hr1 : (1 : Nat) ≤ (rM 301 1 6).cells ∧ (6 : Nat) ≤ (rM 301 1 6).slots := ⟨Nat.le_refl _, Nat.le_refl _⟩
  rw [lg_entry_eq]
  refine nx_s (pc' := 1) (st' := [.ref x]) (ls' := [some (.ref x), some (.int a), none, none]) (ls := [some (.ref x), some (.int a), none, none]) (ins := .aload_n 0) (len := 1) rfl (by decide +kernel) (Or.inl rfl) C (ent_LR (n := 4) (as := [.ref x, .int a]) (show 2 ≤ 4 by omega)) Y hr (fun H1 locs1 la1 hl1 Y1 => ?_)
  refine nx_s (pc' := 2) (st' := [.int a, .ref x]) (ls' := [some (.ref x), some (.int a), none, none]) (ins := .iload_n 1) (len := 1) rfl (by decide +kernel) (Or.inl rfl) C hl1 Y1 hr (fun H2 locs2 la2 hl2 Y2 => ?_)
  refine cl_s (oc := 11) (d := 300) (y := 131) (as := [.ref x, .int a]) (rest := []) (v := some (.int 0)) (h' := h) (cli_v (k := false) (n := 1) (ci := 9) (as := [.int a]) (rest := []) (Or.inl ⟨rfl, rfl⟩) (by decide +kernel) (by decide +kernel) hx rfl rfl (by decide)) (show decode cX11_toss 2 = .ok (.invokevirtual 311, 3) by decide +kernel) C (by rw [hml]; exact hl2.size.symm) Y2 (Nat.le_refl 2) he ⟨Nat.le_refl _, Nat.le_refl _⟩ ⟨by omega, by omega⟩ (fun H3 locs3 Y3 => ?_)
  rw [Nat.sub_self, Nat.sub_self]
  refine nx_s (pc' := 6) (st' := []) (ls' := [some (.ref x), some (.int a), some (.int 0), none]) (ins := .istore_n 2) (len := 1) rfl (by decide +kernel) (Or.inl rfl) C hl2 Y3 hr (fun H4 locs4 la4 hl4 Y4 => ?_)
  refine nx_s (pc' := 7) (st' := [.int 0]) (ls' := [some (.ref x), some (.int a), some (.int 0), none]) (ins := .iload_n 2) (len := 1) rfl (by decide +kernel) (Or.inl rfl) C hl4 Y4 hr (fun H5 locs5 la5 hl5 Y5 => ?_)
  refine nx_s (pc' := 12) (st' := []) (ls' := [some (.ref x), some (.int a), some (.int 0), none]) (ins := .ifCond .eq 5) (len := 3) rfl (by decide +kernel) (Or.inl rfl) C hl5 Y5 hr (fun H6 locs6 la6 hl6 Y6 => ?_)
  refine nx_s (pc' := 13) (st' := [.ref x]) (ls' := [some (.ref x), some (.int a), some (.int 0), none]) (ins := .aload_n 0) (len := 1) rfl (by decide +kernel) (Or.inl rfl) C hl6 Y6 hr (fun H7 locs7 la7 hl7 Y7 => ?_)
  refine nx_s (pc' := 16) (st' := [.ref ra]) (ls' := [some (.ref x), some (.int a), some (.int 0), none]) (ins := .getfield 31) (len := 3) (by simp only [nx, hp]) (by decide +kernel) (Or.inl rfl) C hl7 Y7 hr (fun H8 locs8 la8 hl8 Y8 => ?_)
  refine nx_s (pc' := 17) (st' := [.int a, .ref ra]) (ls' := [some (.ref x), some (.int a), some (.int 0), none]) (ins := .iload_n 1) (len := 1) rfl (by decide +kernel) (Or.inl rfl) C hl8 Y8 hr (fun H9 locs9 la9 hl9 Y9 => ?_)
  refine nx_s (pc' := 18) (st' := [.ref q]) (ls' := [some (.ref x), some (.int a), some (.int 0), none]) (ins := .aaload) (len := 1) (by simp only [nx, hra, va_rf]) (by decide +kernel) (Or.inl rfl) C hl9 Y9 hr (fun Ha locsa laa hla Ya => ?_)
  refine nx_s (pc' := 21) (st' := [.ref r]) (ls' := [some (.ref x), some (.int a), some (.int 0), none]) (ins := .getfield 314) (len := 3) (by simp only [nx, hq]) (by decide +kernel) (Or.inl rfl) C hla Ya hr (fun Hb locsb lab hlb Yb => ?_)
  have hmlb : c.maxLocals = lab.size := by rw [hml]; exact hlb.size.symm
  have hfix : CallFix p m c cX11_toss lab.size s [Value.ref x, .int a].toArray BG RX11 := ⟨B.exec, B.bytes, hmlb, hown, hB⟩
  have hci2 : ci < 11 := by omega
  have hpv : PreV s Hb (cin ci) r (PcX [.ref r] h D cA n0) [] := ⟨PcX.blind, va_recv hK1 (at_ref Yb hr0) (vwCl_at ci hci2) (q0 := 0) rfl, fun U hU hW => ⟨rfl, HM.of Yb hn0 hU, va_K.moved hW.alike hK1, NW.warm hW hN, XS.warm (locs := locsb) hn0 hW (by rw [hU]; exact Yb.2.2.1) hX⟩⟩
  have hrun := vx_runU (e := e) (l := l) (meth := meth) (R := rM 301 1 6) (below := below) (locs := locsb) (cells := 0) (slots := 0) (owner := RX9) (x := yX9_fail) (g := F0 m 21 lab [.ref r]) (rest := []) hfix (M_fail l hl D cA n0 r h) (va_cwO (Ts := BG) (owner := RX9) (x := yX9_fail) (b0 := cX9_fail) (m0 := 1) (r0 := none) 0 hB (gU_fail ci hci) rfl rfl rfl (in_w (by decide +kernel)) ⟨by decide +kernel, by decide +kernel, by decide +kernel⟩ ⟨by decide, by decide⟩) hpv rfl rfl rfl rfl (lv_room (Nat.le_of_ble_eq_true rfl)) (show decode cX11_toss 21 = .ok (.invokevirtual 318, 3) by decide +kernel) ⟨Nat.le_refl _, Nat.le_refl _⟩
  intro T hT X
  rcases hrun T hT X with ⟨v, st₀, t, T', L, h0, X', hL, e1, e2, hq, st⟩ | ⟨qa, st₀, t, T', L, E, ce, h0, X', hL, e1, e2, ⟨rfl, ⟨hz1, hz2, hz3⟩, hF⟩, hce, hcv, hcl, st⟩
  · exact hq.elim
  · have hS6 := (vx_keep h0 e1 Yb.2.2.1 (fun q _ hq => hq) (fun q hq => hq) hL hF).2.2
    have Yc : DY D cA n0 s.heap (h.1 + 1, h.2.1 + 6, h.2.2) T'.heap (locsb ++ L) := ⟨by rw [e1]; exact hz1, by rw [e1]; exact hz2, hS6, hz3⟩
    obtain ⟨t2, a1, b1⟩ := vx_catch (own := RX11) (name := ISEn) (E := ISEn) (ce := ce) (q := qa) (Q := vx_MQ below (QcM (some (.int z)) (h.1 + 1, h.2.1 + 6, h.2.2) D cA n0) (fun _ _ _ => False) [Value.ref x, .int a].toArray s 1 6 (AN n0)) (pc := 21) (ls := lab) (rest := []) hown [] ⟨12, 26, 27, 287⟩ [] htab (fun z hz => nomatch hz) (by decide) (by decide) (hB _ (in_w (by decide +kernel))) (inBN_b bn_cast2 ot_cast2 hB hN) (by rw [e1]; exact hce) hcv hcl (by
      refine nx_s (pc' := 28) (st' := []) (ls' := [some (.ref x), some (.int a), some (.int 0), some (.ref qa)]) (ins := .astore_n 3) (len := 1) rfl (by decide +kernel) (Or.inl rfl) C hlb Yc hr1 (fun Hg locsg lag hlg Yg => ?_)
      refine nx_s (pc' := 29) (st' := [.ref x]) (ls' := [some (.ref x), some (.int a), some (.int 0), some (.ref qa)]) (ins := .aload_n 0) (len := 1) rfl (by decide +kernel) (Or.inl rfl) C hlg Yg hr1 (fun Hh locsh lah hlh Yh => ?_)
      refine nx_s (pc' := 32) (st' := [.ref ra]) (ls' := [some (.ref x), some (.int a), some (.int 0), some (.ref qa)]) (ins := .getfield 31) (len := 3) (by simp only [nx, hp]) (by decide +kernel) (Or.inl rfl) C hlh Yh hr1 (fun Hi locsi lai hli Yi => ?_)
      refine nx_s (pc' := 33) (st' := [.int a, .ref ra]) (ls' := [some (.ref x), some (.int a), some (.int 0), some (.ref qa)]) (ins := .iload_n 1) (len := 1) rfl (by decide +kernel) (Or.inl rfl) C hli Yi hr1 (fun Hj locsj laj hlj Yj => ?_)
      refine nx_s (pc' := 34) (st' := [.ref q]) (ls' := [some (.ref x), some (.int a), some (.int 0), some (.ref qa)]) (ins := .aaload) (len := 1) (by simp only [nx, hra, va_rf]) (by decide +kernel) (Or.inl rfl) C hlj Yj hr1 (fun Hk locsk lak hlk Yk => ?_)
      refine nx_s (pc' := 37) (st' := [.ref r]) (ls' := [some (.ref x), some (.int a), some (.int 0), some (.ref qa)]) (ins := .getfield 314) (len := 3) (by simp only [nx, hq]) (by decide +kernel) (Or.inl rfl) C hlk Yk hr1 (fun Hm locsm lam hlm Ym => ?_)
      refine nx_s (pc' := 40) (st' := [.int z]) (ls' := [some (.ref x), some (.int a), some (.int 0), some (.ref qa)]) (ins := .getfield 188) (len := 3) (by simp only [nx, hk]) (by decide +kernel) (Or.inl rfl) C hlm Ym hr1 (fun Hn locsn lan hln Yn => ?_)
      exact vx_ret (W.iret B.exec B.bytes B.returns (fun t ht hW => ⟨rfl, ⟨by rw [ht]; exact Yn.1, by rw [ht]; exact Yn.2.1, hlo⟩, Yn.2.2.1.F ht⟩) Yn.2.2.1.2.2 (show decode cX11_toss 40 = .ok (.ireturn, 1) by decide +kernel))) T' rfl X'
    exact ⟨t2, st.trans a1, b1⟩
end TOS2
