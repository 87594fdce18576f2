/-! what the law's start gives -/
section STA
variable {s : State} {args : Array Value}
theorem BG_of (hts : ∀ w ∈ lw_tbl, w.before args s = true) : ∀ w ∈ BG, w.before args s = true := fun w hw => hts w (List.mem_filter.mp hw).1
theorem inst_in : ∀ ci, ci < 11 → Cond.instantiable (cin ci) (ciN ci) ∈ BG := by
  intro ci h
  have hc : ci = 0 ∨ ci = 1 ∨ ci = 2 ∨ ci = 3 ∨ ci = 4 ∨ ci = 5 ∨ ci = 6 ∨ ci = 7 ∨ ci = 8 ∨ ci = 9 ∨ ci = 10 := by omega
  rcases hc with rfl | rfl | rfl | rfl | rfl | rfl | rfl | rfl | rfl | rfl | rfl <;> exact in_w (by decide +kernel)
theorem arr_p {ty : FieldType} (hn : ∀ C, ty ≠ .object C) (h : (Cond.arrayClass ty).before args s = true) : ∃ c, ArrOfT s c ty ∧ va_RA s c ty := by
  obtain ⟨c, k, comp, h1, h2, h3⟩ := Cond.arrayClass_spec h
  refine ⟨c, fun n z => ⟨fun k h => (by cases h), k, h2, comp, h3⟩, ?_⟩
  cases ty <;> first | exact h1 | exact absurd rfl (hn _)
theorem arr_o {C : String} (h : (Cond.arrayOver (.object C)).before args s = true) : ∃ c, ArrOfT s c (.object C) ∧ va_RA s c (.object C) := by
  obtain ⟨comp, c, k, h1, h2, h3, h4, h5⟩ := Cond.arrayOver_spec h
  exact ⟨c, fun n z => ⟨fun k h => (by cases h), k, h3, comp, h4⟩, k, comp, h3, h4, h1, h5⟩
theorem KV_of (hts : ∀ w ∈ lw_tbl, w.before args s = true) : ∃ (D : va_G) (cA : Nat → ClassId), va_K D vwCl (tyL cA) s := by
  have hB := BG_of hts
  have hcl : ∀ ci, ∃ q : ClassId × (Nat → Nat), ci < 11 → u_Kn s (cin ci) (cit ci) (ciN ci) q.1 q.2 := by
    intro ci
    by_cases h : ci < 11
    · obtain ⟨c, iS, hK⟩ := u_known hB (cit_in ci h) (hB _ (inst_in ci h))
      exact ⟨(c, iS), fun _ => hK⟩
    · exact ⟨(0, fun _ => 0), fun q => absurd q h⟩
  have hm : ∀ w, (decide (w ∈ lw_tbl)) = true → w.before args s = true := fun w h => hts w (of_decide_eq_true h)
  obtain ⟨c0, a0⟩ := arr_p (s := s) (args := args) (ty := .int) (fun C q => by cases q) (hm _ (by decide +kernel))
  obtain ⟨c1, a1⟩ := arr_p (s := s) (args := args) (ty := .byte) (fun C q => by cases q) (hm _ (by decide +kernel))
  obtain ⟨c2, a2⟩ := arr_p (s := s) (args := args) (ty := .boolean) (fun C q => by cases q) (hm _ (by decide +kernel))
  obtain ⟨c3, a3⟩ := arr_p (s := s) (args := args) (ty := .long) (fun C q => by cases q) (hm _ (by decide +kernel))
  obtain ⟨c4, a4⟩ := arr_o (s := s) (args := args) (C := RX8) (hm _ (by decide +kernel))
  obtain ⟨c5, a5⟩ := arr_o (s := s) (args := args) (C := RX9) (hm _ (by decide +kernel))
  obtain ⟨c6, a6⟩ := arr_o (s := s) (args := args) (C := RX1) (hm _ (by decide +kernel))
  obtain ⟨c7, a7⟩ := arr_o (s := s) (args := args) (C := RX6) (hm _ (by decide +kernel))
  refine ⟨(fun ci => (Classical.choose (hcl ci)).1, fun ci => (Classical.choose (hcl ci)).2), fun k => if k = 0 then c0 else if k = 1 then c1 else if k = 2 then c2 else if k = 3 then c3 else if k = 4 then c4 else if k = 5 then c5 else if k = 6 then c6 else c7, fun ci q hq => ?_, fun k q hq => ?_⟩
  · have hlt : ci < 11 := (List.getElem?_eq_some_iff.mp hq).1
    have h1 := vwCl_at ci hlt
    cases Option.some.inj (hq.symm.trans h1)
    exact Classical.choose_spec (hcl ci) hlt
  · have hlt : k < 8 := (List.getElem?_eq_some_iff.mp hq).1
    have hc : k = 0 ∨ k = 1 ∨ k = 2 ∨ k = 3 ∨ k = 4 ∨ k = 5 ∨ k = 6 ∨ k = 7 := by omega
    rcases hc with rfl | rfl | rfl | rfl | rfl | rfl | rfl | rfl <;> cases hq
    · exact a0
    · exact a1
    · exact a2
    · exact a3
    · exact a4
    · exact a5
    · exact a6
    · exact a7
theorem NW_of (hts : ∀ w ∈ lw_tbl, w.before args s = true) : NW s := by
  rintro w ⟨hm, hn⟩
  have h := hts w hm
  cases w <;> first | exact h | (simp [isNw] at hn; done)
theorem str_of {own tx : String} {k : Nat} {cur : ClassId} (hc : s.vm.findClass own = some cur) (h : (Cond.stringRef own k tx).before args s = true) : ∃ sa, vk_R own k tx sa s := by
  obtain ⟨-, -, -, a, -, -, -, -, -, he⟩ := Cond.stringRef_spec hc h
  exact ⟨a, vk_R.of h he⟩
theorem cls_of {D : va_G} {cA : Nat → ClassId} (hK : va_K D vwCl (tyL cA) s) : s.vm.findClass RX11 = some (D.1 9) := (hK.1 9 _ (vwCl_at 9 (by omega))).2.1
theorem XS_of {D : va_G} {cA : Nat → ClassId} (hts : ∀ w ∈ lw_tbl, w.before args s = true) (hK : va_K D vwCl (tyL cA) s) (hgv : (Jvm.Cond.and given_1 narrow_1).before args s = true) : XS s.heap.size s := by
  have hm : ∀ w, (decide (w ∈ lw_tbl)) = true → w.before args s = true := fun w h => hts w (of_decide_eq_true h)
  have hf := flat_of_before _ hgv
  have hg : ∀ w, (decide (w ∈ flatC (Jvm.Cond.and given_1 narrow_1))) = true → w.before args s = true := fun w h => hf w (of_decide_eq_true h)
  have hA : ∀ a : Nat, a < s.heap.size → ¬ AN s.heap.size a := fun a h q => absurd (show s.heap.size ≤ a from q) (by omega)
  obtain ⟨c2, h2⟩ : ∃ c, s.vm.findClass RX2 = some c := by
    have h := hm (Cond.stringRef RX2 32 "the failure of a term of terms") (by decide +kernel)
    cases hh : s.vm.findClass RX2 with
    | some c => exact ⟨c, rfl⟩
    | none => simp [Cond.before, Cond.holds, Cond.value, hh] at h
  exact ⟨str_of h2 (hm _ (by decide +kernel)), str_of (cls_of hK) (hm _ (by decide +kernel)), str_of (cls_of hK) (hm _ (by decide +kernel)), str_of (cls_of hK) (hm _ (by decide +kernel)), vx_Zqof (hm _ (by decide +kernel)) (hm _ (by decide +kernel)) (hg _ (by decide +kernel)) hA, vx_Zqof (hm _ (by decide +kernel)) (hm _ (by decide +kernel)) (hg _ (by decide +kernel)) hA⟩
theorem Nc_of (hgv : (Jvm.Cond.and given_1 narrow_1).before args s = true) : va_Nc ISEn IAEn s := by
  have hf := flat_of_before _ hgv
  have hg : ∀ w, (decide (w ∈ flatC (Jvm.Cond.and given_1 narrow_1))) = true → w.before args s = true := fun w h => hf w (of_decide_eq_true h)
  exact va_Nc.of (hg _ (by decide +kernel))
end STA
