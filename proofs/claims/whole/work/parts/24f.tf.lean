/-! the law's own roads, by hand -/
section LRO
def wH (y : MethodName) (cc : ByteArray) (n : Nat) (r : Option FieldType) (hh : List (Nat × Nat × Nat × Nat)) : List Cond := Cond.codeWith y cc n r hh :: BG
theorem ot_cast : vx_ot (Cond.castable IAEn IAEn) = true := by decide +kernel
theorem bn_cast : inBN (Cond.castable IAEn IAEn) = true := by decide +kernel
theorem gE_roads : GoodIn BG (wE yX11_roads cX11_roads 3 (some .long)) := by
  intro w hw
  have key : ∀ w ∈ BG, w ∈ BG ∧ ((w.onTables && w.keeps) = true ∨ ∃ ty, w = .arrayClass ty) := fun w hw => ⟨hw, good_of_word (List.mem_filter.mp hw).2⟩
  rcases List.mem_cons.mp hw with rfl | hw
  · exact key _ (in_w (by decide +kernel))
  · exact key w hw
theorem XS.calling {n0 : Nat} {U : State} (g : JFrame) (mk : MethodId) (a : Array Value) (h : XS n0 U) : XS n0 (U.calling g mk a) := by
  obtain ⟨⟨a1, h1⟩, ⟨a2, h2⟩, ⟨a3, h3⟩, ⟨a4, h4⟩, h5, h6⟩ := h
  exact ⟨⟨a1, vk_R.same rfl h1⟩, ⟨a2, vk_R.same rfl h2⟩, ⟨a3, vk_R.same rfl h3⟩, ⟨a4, vk_R.same rfl h4⟩, vx_Zq.moved (u := U) (U := U.calling g mk a) (Vm.Alike.refl U.vm) h5, vx_Zq.moved (u := U) (U := U.calling g mk a) (Vm.Alike.refl U.vm) h6⟩
theorem PcX.blind {as : List Value} {h : Hp} {D : va_G} {cA : Nat → ClassId} {n0 : Nat} : FrameBlind (PcX as h D cA n0) := fun a U g mk q =>
  ⟨q.1, q.2.1, va_K.moved (u := U) (U := U.calling g mk a) (Vm.Alike.refl U.vm) q.2.2.1, NW.calling g mk a q.2.2.2.1, XS.calling g mk a q.2.2.2.2⟩
theorem XS.warm {n0 : Nat} {s U : State} {locs : List Loc} (hn0 : n0 ≤ s.heap.size) (hW : s.WarmedH U.vm) (hS : va_S (AN n0) s.heap U.heap locs) (h : XS n0 s) : XS n0 U := by
  obtain ⟨⟨a1, h1⟩, ⟨a2, h2⟩, ⟨a3, h3⟩, ⟨a4, h4⟩, h5, h6⟩ := h
  exact ⟨⟨a1, vk_R.warm hW h1⟩, ⟨a2, vk_R.warm hW h2⟩, ⟨a3, vk_R.warm hW h3⟩, ⟨a4, vk_R.warm hW h4⟩, vx_Zq.moved hW.alike (h5.kept hS.2.1), vx_Zq.moved hW.alike (h6.kept hS.2.1)⟩
end LRO
