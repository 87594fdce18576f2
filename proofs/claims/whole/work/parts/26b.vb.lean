/-! the oracle is right -/
section SPO
theorem gL_roads : GoodIn BG (va_wsS RL 62 yL_roads (wH yL_roads cL_roads 5 (some .int) [(0, 9, 12, 13)])) := by
  have key : ∀ w ∈ BG, w ∈ BG ∧ ((w.onTables && w.keeps) = true ∨ ∃ ty, w = .arrayClass ty) := fun w hw => ⟨hw, good_of_word (List.mem_filter.mp hw).2⟩
  intro w hw
  simp only [va_wsS, wH, List.cons_append, List.nil_append, List.mem_cons] at hw
  rcases hw with rfl | rfl | rfl | rfl | hw
  · exact key _ (in_w (by decide +kernel))
  · exact key _ (in_w (by decide +kernel))
  · exact key _ (in_w (by decide +kernel))
  · exact key _ (in_w (by decide +kernel))
  · exact key w hw
theorem gL_element : GoodIn BG (va_wsS RL 151 yL_element (wH yL_element cL_element 5 (some .int) [(0, 9, 12, 13), (0, 9, 16, 18)])) := by
  have key : ∀ w ∈ BG, w ∈ BG ∧ ((w.onTables && w.keeps) = true ∨ ∃ ty, w = .arrayClass ty) := fun w hw => ⟨hw, good_of_word (List.mem_filter.mp hw).2⟩
  intro w hw
  simp only [va_wsS, wH, List.cons_append, List.nil_append, List.mem_cons] at hw
  rcases hw with rfl | rfl | rfl | rfl | hw
  · exact key _ (in_w (by decide +kernel))
  · exact key _ (in_w (by decide +kernel))
  · exact key _ (in_w (by decide +kernel))
  · exact key _ (in_w (by decide +kernel))
  · exact key w hw
theorem gL_toss : GoodIn BG (wsV RL 163 RX11 yX11_toss (wH yX11_toss cX11_toss 4 (some .int) [(12, 26, 27, 287)])) := by
  have key : ∀ w ∈ BG, w ∈ BG ∧ ((w.onTables && w.keeps) = true ∨ ∃ ty, w = .arrayClass ty) := fun w hw => ⟨hw, good_of_word (List.mem_filter.mp hw).2⟩
  intro w hw
  simp only [wsV, wH, List.cons_append, List.nil_append, List.mem_cons] at hw
  rcases hw with rfl | rfl | rfl | rfl | rfl | hw
  · exact key _ (in_w (by decide +kernel))
  · exact key _ (in_w (by decide +kernel))
  · exact key _ (in_w (by decide +kernel))
  · exact key _ (in_w (by decide +kernel))
  · exact key _ (in_w (by decide +kernel))
  · exact key w hw
variable {p : Program} {l : Launch} {e : Env} {R : Room} {s : State} {m : MethodId} {args : Array Value} {below : List Frame} {meth : Method} {c : Code} {Q : State → Prop}
variable {D : va_G} {cA : Nat → ClassId} {n0 : Nat} {H : Heap} {cc : ByteArray} {oc pc cells slots : Nat} {ini : Bool} {h h' : Hp} {locs : List Loc} {la : Array Slot}
theorem sp_V {cy : ByteArray} {y : MethodName} {maxL i d mc ms n q : Nat} {hh : List (Nat × Nat × Nat × Nat)} {as rest st0 fs0 : List Value} {v : Option Value} (hM : vx_Met l y (wH y cy maxL (some .int) hh) (rM d mc ms) (PcX (.ref q :: as) h D cA n0) (QcM v h' D cA n0) (fun _ _ _ => False) mc ms (AN n0))
    (hG : GoodIn BG (wsV RL i RX11 y (wH y cy maxL (some .int) hh))) (hy : y.cls = RX11 ∧ y.cls ≠ "java/lang/invoke/MethodHandle" ∧ y.cls ≠ "java/lang/invoke/VarHandle" ∧ (parseMethodDescriptor y.desc).map (fun d => d.parameters.length) = some n) (hn : as.length = n) (hq : h.2.2 q = some (.inr (9, fs0)))
    (C : CX p s m args meth c cc 16 ini D cA n0 s.heap) (hX : XS n0 s) (hml : c.maxLocals = la.size) (Y : DY D cA n0 s.heap h H locs) (hd : decode cc pc = .ok (.invokevirtual i, 3)) (hst : st0 = as.reverse ++ .ref q :: rest) (hw : wid rest ≤ 8) (hR : d + 1 ≤ R.frames ∧ 8 + (maxL + 11) + 40 * d ≤ R.locals) (hf : cells + mc ≤ R.cells ∧ slots + ms ≤ R.slots)
    (k : ∀ H1 locs1, DY D cA n0 s.heap h' H1 locs1 → W p l e R s m args below meth c H1 locs1 (cells + mc) (slots + ms) Q (F0 m (pc + 3) la (v.toList ++ rest))) : W p l e R s m args below meth c H locs cells slots Q (F0 m pc la st0) := by
  obtain ⟨hx, hb, hown, hts, hK, hN, hn0, hini⟩ := C
  have hfix : CallFix p m c cc la.size s args BG RL := ⟨hx, hb, hml, hown, hts⟩
  have hpv : PreV s H RX11 q (PcX (.ref q :: as) h D cA n0) as := ⟨PcX.blind, va_recv hK (at_ref Y hq) (vwCl_at 9 (by omega)) (q0 := 0) rfl, fun U hU hW => ⟨rfl, HM.of Y hn0 hU, va_K.moved hW.alike hK, NW.warm hW hN, XS.warm (locs := locs) hn0 hW (by rw [hU]; exact Y.2.2.1) hX⟩⟩
  exact sp_end (d := d) hn0 Y (vx_runVX (e := e) (below := below) (meth := meth) (g := F0 m pc la st0) (hh := hh) hfix hM (vx_cwVW n hts hG rfl rfl rfl hy hR) hpv rfl hn rfl hst (lv_room hw) hd hf) k
theorem spL_ok (hl : l.stackTraces = false) (C : CX p s m args meth c cL_law 16 false D cA n0 s.heap) (hX : XS n0 s) (hNc : va_Nc ISEn IAEn s) (hR : 303 ≤ R.frames ∧ 12200 ≤ R.locals) : SpOk p l e R s m args below meth c Q D cA n0 s.heap spL := by
  intro mi pc st h st' h' hs cells slots H locs la hml Y hc hsl k
  obtain ⟨-, hr⟩ := spL_rel hs
  have one : ∀ {h1 : Hp}, (h1.1 + 1 - h1.1 = 1 ∧ h1.2.1 + 6 - h1.2.1 = 6) := fun {h1} => ⟨by omega, by omega⟩
  rcases hr with ⟨rfl, x, a, b, o, q, rfl, r1, s1⟩ | ⟨rfl, x, a, b, o, q, rfl, r1, s1⟩ | ⟨rfl, x, a, q, rfl, r1, s1⟩
  · cases s1
    obtain ⟨⟨fs0, hx⟩, n, hS, ⟨c1, rfl⟩ | ⟨c1, p0, z, h2, e', p1, p2, p3, p4, p5, p6, rfl⟩⟩ := r1
    · dsimp only at hc hsl k
      rw [one.1] at hc k
      rw [one.2] at hsl k
      exact sp_S (n := 4) (as := [.ref x, .int a, .int b, .ref o]) (rest := []) (v := some (.int (nI 1))) (M_Lroads_no hl a b hx hS c1) gL_roads ⟨by decide +kernel, by decide +kernel, by decide +kernel⟩ rfl C hX hml Y (by decide +kernel) rfl (by decide) ⟨by omega, by omega⟩ ⟨hc, hsl⟩ k
    · dsimp only at hc hsl k
      rw [p4, Nat.sub_self] at hc k
      rw [p5, Nat.sub_self] at hsl k
      rw [← p4, ← p5] at k
      exact sp_S (n := 4) (as := [.ref x, .int a, .int b, .ref o]) (rest := []) (v := some (.int (nI 0))) (M_Lroads_ok a b hx p1 p2 hS c1 p3 p4 p5 p6) gL_roads ⟨by decide +kernel, by decide +kernel, by decide +kernel⟩ rfl C hX hml Y (by decide +kernel) rfl (by decide) ⟨by omega, by omega⟩ ⟨hc, hsl⟩ k
  · cases s1
    obtain ⟨⟨fs0, hx⟩, ⟨c1, rfl⟩ | ⟨c1, ra, q0, zs, p1, p2, p3, p4, ⟨d1, rfl⟩ | ⟨d1, z, e', d2, d3, rfl⟩⟩⟩ := r1
    · dsimp only at hc hsl k
      rw [one.1] at hc k
      rw [one.2] at hsl k
      exact sp_S (n := 4) (as := [.ref x, .int a, .int b, .ref o]) (rest := []) (v := some (.int (nI 1))) (M_Lelement_ns hl a b hx c1) gL_element ⟨by decide +kernel, by decide +kernel, by decide +kernel⟩ rfl C hX hml Y (by decide +kernel) rfl (by decide) ⟨by omega, by omega⟩ ⟨hc, hsl⟩ k
    · dsimp only at hc hsl k
      rw [one.1] at hc k
      rw [one.2] at hsl k
      exact sp_S2 (n := 4) (as := [.ref x, .int a, .int b, .ref o]) (rest := []) (v := some (.int (nI 2))) (M_Lelement_np hl a b hx c1 p1 p2 p3 p4 d1) gL_element ⟨by decide +kernel, by decide +kernel, by decide +kernel⟩ rfl C hX hNc hml Y (by decide +kernel) rfl (by decide) ⟨by omega, by omega⟩ ⟨hc, hsl⟩ k
    · dsimp only at hc hsl k
      rw [Nat.sub_self] at hc hsl k
      rw [Nat.sub_self] at k
      exact sp_S (n := 4) (as := [.ref x, .int a, .int b, .ref o]) (rest := []) (v := some (.int (nI 0))) (M_Lelement_ok a b hx c1 p1 p2 p3 p4 d1 d2 d3) gL_element ⟨by decide +kernel, by decide +kernel, by decide +kernel⟩ rfl C hX hml Y (by decide +kernel) rfl (by decide) ⟨by omega, by omega⟩ ⟨hc, hsl⟩ k
  · cases s1
    obtain ⟨⟨fs0, hx⟩, ⟨z, c1, c2, rfl⟩ | ⟨ra, q0, t, p1, p2, p3, p4, ⟨d1, rfl⟩ | ⟨ci, fs, z, d1, d2, d3, rfl⟩⟩⟩ := r1
    · dsimp only at hc hsl k
      rw [Nat.sub_self] at hc hsl k
      rw [Nat.sub_self] at k
      exact sp_V (n := 1) (as := [.int a]) (rest := []) (v := some (.int z)) (M_toss_no a (by rw [hx]; rfl) c1 c2) gL_toss ⟨rfl, by decide +kernel, by decide +kernel, by decide +kernel⟩ rfl hx C hX hml Y (by decide +kernel) rfl (by decide) ⟨by omega, by omega⟩ ⟨hc, hsl⟩ k
    · dsimp only at hc hsl k
      rw [Nat.sub_self] at hc hsl k
      rw [Nat.sub_self] at k
      exact sp_V (n := 1) (as := [.int a]) (rest := []) (v := some (.int (-15))) (M_toss_leaf a (by rw [hx]; rfl) p1 p2 p3 p4 d1) gL_toss ⟨rfl, by decide +kernel, by decide +kernel, by decide +kernel⟩ rfl hx C hX hml Y (by decide +kernel) rfl (by decide) ⟨by omega, by omega⟩ ⟨hc, hsl⟩ k
    · dsimp only at hc hsl k
      rw [one.1] at hc k
      rw [one.2] at hsl k
      exact sp_V (n := 1) (as := [.int a]) (rest := []) (v := some (.int z)) (M_toss_of hl a (by rw [hx]; rfl) p1 p2 p3 p4 d1 d2 d3) gL_toss ⟨rfl, by decide +kernel, by decide +kernel, by decide +kernel⟩ rfl hx C hX hml Y (by decide +kernel) rfl (by decide) ⟨by omega, by omega⟩ ⟨hc, hsl⟩ k
end SPO
