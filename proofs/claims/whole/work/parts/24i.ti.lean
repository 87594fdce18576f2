/-! the law's calls of its own methods that catch, and of methods that catch -/
section SPS
variable {p : Program} {l : Launch} {e : Env} {R : Room} {s : State} {m : MethodId} {args : Array Value} {below : List Frame} {meth : Method} {c : Code} {Q : State → Prop}
variable {D : va_G} {cA : Nat → ClassId} {n0 : Nat} {H : Heap} {cc : ByteArray} {oc pc cells slots : Nat} {ini : Bool} {h h' : Hp} {locs : List Loc} {la : Array Slot}
theorem sp_end {d mc ms : Nat} {rest st : List Value} {v : Option Value} {a : Array Value} (hn0 : n0 ≤ s.heap.size) (Y : DY D cA n0 s.heap h H locs) (hrun : vx_Run p l e R s m args below meth c H locs cells slots mc ms (F0 m pc la st) rest (QcM v h' D cA n0 a) (fun _ _ _ => False) (AN n0))
    (k : ∀ H1 locs1, DY D cA n0 s.heap h' H1 locs1 → W p l e R s m args below meth c H1 locs1 (cells + mc) (slots + ms) Q (F0 m (pc + 3) la (v.toList ++ rest))) : W p l e R s m args below meth c H locs cells slots Q (F0 m pc la st) := by
  intro T hT X
  rcases hrun T hT X with ⟨v1, st₀, t, T', L, h0, X', hL, e1, e2, ⟨hv, ⟨hy1, hy2, hy3⟩, hF⟩, stp⟩ | ⟨q, st₀, t, T', L, E, ce, h0, X', hL, e1, e2, hq, hce, hcv, hcl, stp⟩
  · cases hv
    have hS6 := (vx_keep h0 e1 Y.2.2.1 (fun q _ hq => hq) (fun q hq => hq) hL hF).2.2
    obtain ⟨t2, a1, b1⟩ := k T'.heap (locs ++ L) ⟨by rw [e1]; exact hy1, by rw [e1]; exact hy2, hS6, hy3⟩ T' rfl X'
    exact ⟨t2, stp t2 a1, b1⟩
  · exact hq.elim
theorem sp_S {y : MethodName} {cy : ByteArray} {maxL i d mc ms n : Nat} {hh : List (Nat × Nat × Nat × Nat)} {as rest st0 : List Value} {v : Option Value} (hM : vx_Met l y (wH y cy maxL (some .int) hh) (rM d mc ms) (PcX as h D cA n0) (QcM v h' D cA n0) (fun _ _ _ => False) mc ms (AN n0))
    (hG : GoodIn BG (va_wsS RL i y (wH y cy maxL (some .int) hh))) (hy : y.cls ≠ "java/lang/invoke/MethodHandle" ∧ y.cls ≠ "java/lang/invoke/VarHandle" ∧ (parseMethodDescriptor y.desc).map (fun d => d.parameters.length) = some n) (hn : as.length = n)
    (C : CX p s m args meth c cc 16 ini D cA n0 s.heap) (hX : XS n0 s) (hml : c.maxLocals = la.size) (Y : DY D cA n0 s.heap h H locs) (hd : decode cc pc = .ok (.invokestatic i, 3)) (hst : st0 = as.reverse ++ rest) (hw : wid rest ≤ 8) (hR : d + 1 ≤ R.frames ∧ 8 + (maxL + 11) + 40 * d ≤ R.locals) (hf : cells + mc ≤ R.cells ∧ slots + ms ≤ R.slots)
    (k : ∀ H1 locs1, DY D cA n0 s.heap h' H1 locs1 → W p l e R s m args below meth c H1 locs1 (cells + mc) (slots + ms) Q (F0 m (pc + 3) la (v.toList ++ rest))) : W p l e R s m args below meth c H locs cells slots Q (F0 m pc la st0) := by
  obtain ⟨hx, hb, hown, hts, hK, hN, hn0, hini⟩ := C
  have hfix : CallFix p m c cc la.size s args BG RL := ⟨hx, hb, hml, hown, hts⟩
  refine sp_end (d := d) hn0 Y (vx_runSX (e := e) (below := below) (meth := meth) (g := F0 m pc la st0) (hh := hh) hfix hM (vx_cwSW n hts hG rfl rfl rfl hy hR) ⟨PcX.blind, fun U hU hW => ⟨rfl, HM.of Y hn0 hU, va_K.moved hW.alike hK, NW.warm hW hN, XS.warm (locs := locs) hn0 hW (by rw [hU]; exact Y.2.2.1) hX⟩⟩ rfl hn rfl hst (lv_room hw) hd hf) k
end SPS
