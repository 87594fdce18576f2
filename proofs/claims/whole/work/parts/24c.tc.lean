/-! steps of a method that is walked by hand -/
section HAND
variable {p : Program} {l : Launch} {e : Env} {R : Room} {s : State} {m : MethodId} {args : Array Value} {below : List Frame} {meth : Method} {c : Code} {Q : State → Prop}
variable {D : va_G} {cA : Nat → ClassId} {n0 : Nat} {H0 H : Heap} {cc : ByteArray} {oc pc pc' cells slots : Nat} {ini : Bool} {ls ls' : LL} {st st' : List Value} {h h' : Hp} {locs : List Loc} {la : Array Slot} {ins : Instr} {len : Nat}
theorem nx_s (hn : nx none ini oc ins pc ls st h = some (pc', ls', st', h)) (hd0 : decode cc pc = .ok (ins, len)) (hlen : len = ilen ins ∨ isTs ins = true) (C : CX p s m args meth c cc oc ini D cA n0 H0) (hl : LR la ls) (Y : DY D cA n0 H0 h H locs) (hc : cells ≤ R.cells ∧ slots ≤ R.slots)
    (k : ∀ H1 locs1 la1, LR la1 ls' → DY D cA n0 H0 h H1 locs1 → W p l e R s m args below meth c H1 locs1 cells slots Q (F0 m pc' la1 st')) : W p l e R s m args below meth c H locs cells slots Q (F0 m pc la st) := by
  refine nx_snd hn hd0 hlen C (fun q hq => by cases hq) hl Y (by rw [Nat.sub_self, Nat.add_zero]; exact hc.1) (by rw [Nat.sub_self, Nat.add_zero]; exact hc.2) (fun H1 locs1 la1 hl1 Y1 => ?_)
  rw [Nat.sub_self, Nat.add_zero, Nat.sub_self, Nat.add_zero]
  exact k H1 locs1 la1 hl1 Y1
theorem cl_s {d y : Nat} {as rest : List Value} {v : Option Value} (hcl : cli oc ins st h = some (y, as, rest)) (hd : decode cc pc = .ok (ins, ilen ins)) (C : CX p s m args meth c cc oc ini D cA n0 H0) (hml : c.maxLocals = la.size) (Y : DY D cA n0 H0 h H locs) (hlen : (entL as).length ≤ (mtd y).2.2.2.1) (he : Ev d y 0 (ent (mtd y).2.2.2.1 as) [] h = some (v, h'))
    (hR : d + 1 ≤ R.frames ∧ 40 * (d + 1) ≤ R.locals) (hf : cells + (h'.1 - h.1) ≤ R.cells ∧ slots + (h'.2.1 - h.2.1) ≤ R.slots)
    (k : ∀ H1 locs1, DY D cA n0 H0 h' H1 locs1 → W p l e R s m args below meth c H1 locs1 (cells + (h'.1 - h.1)) (slots + (h'.2.1 - h.2.1)) Q (F0 m (pc + 3) la (v.toList ++ rest))) : W p l e R s m args below meth c H locs cells slots Q (F0 m pc la st) := by
  obtain ⟨n, hr⟩ := EV_iff.mp he
  exact run_call (cli_run (e := e) (R := R) (below := below) (pc := pc) (la := la) (cells := cells) (slots := slots) (d := d) (mc := h'.1 - h.1) (ms := h'.2.1 - h.2.1) (v := v) (h' := h') hcl hd C hml Y (fun hy => runMet l D cA n0 n d y as h v h' hy hlen hr) hR hf) C.2.2.2.2.2.2.1 Y k
end HAND
