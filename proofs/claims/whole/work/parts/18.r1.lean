/-! the reference's small methods -/
section R1
variable {f : Hf} {m d sz us : Nat} {w : WD} {y : Nat → Int64}
theorem R_in (v lo hi : Int32) (q : Nat) {hf : Hf} : Ev d 135 0 [some (.ref q), some (.int v), some (.int lo), some (.int hi)] [] (sz, us, hf) = some (some (.int (bI (decide (lo ≤ v) && decide (v ≤ hi)))), (sz, us, hf)) := by
  simp (disch := first | omega | with_reducible assumption | exact cobR | exact bI_01 _ | exact Or.inl rfl | exact Or.inr rfl | (simp (decide := true) only [wid_0, wid_i, wid_l, wid_r, wid_n]; done)) only [s135_0, s135_1, s135_2, s135_5, s135_6, s135_7, s135_10, s135_11, s135_14, s135_15 (st := []) nI01_0, s135_15 (st := []) nI01_1, s135_15 (st := []) (bI_01 _), Option.bind_some, Option.bind_none, Option.toList_some, Option.toList_none, List.cons_append, List.nil_append, clr_i, clr_r, clr_l, clr_n]
  by_cases h1 : v < lo
  · have : ¬ lo ≤ v := Int32.not_le.mpr h1
    simp [h1, this, bI_f]
  · have h2 : lo ≤ v := Int32.not_lt.mp h1
    by_cases h3 : hi < v
    · have : ¬ v ≤ hi := Int32.not_le.mpr h3
      simp [h1, h3, this, bI_f]
    · have h4 : v ≤ hi := Int32.not_lt.mp h3
      simp [h1, h2, h3, h4, bI_t]
theorem R_isIn (s k : Int32) (q : Nat) {hf : Hf} : Ev d 139 0 [some (.ref q), some (.int s), some (.int k)] [] (sz, us, hf) = some (some (.int (bI (decide ((s >>> (k &&& 31)) &&& nI 1 = nI 1)))), (sz, us, hf)) := by
  simp (disch := first | omega | with_reducible assumption | exact cobR | exact bI_01 _ | exact Or.inl rfl | exact Or.inr rfl | (simp (decide := true) only [wid_0, wid_i, wid_l, wid_r, wid_n]; done)) only [s139_0, s139_1, s139_2, s139_3, s139_4, s139_5, s139_6, s139_9, s139_10, s139_13, s139_14 (st := []) nI01_0, s139_14 (st := []) nI01_1, s139_14 (st := []) (bI_01 _), Option.bind_some, Option.bind_none, Option.toList_some, Option.toList_none, List.cons_append, List.nil_append, clr_i, clr_r, clr_l, clr_n]
  by_cases h1 : (s >>> (k &&& 31)) &&& nI 1 = nI 1 <;> simp [h1, bI_f, bI_t]
theorem R_isState (s : Int32) : Ev (d + 1) 136 0 [some (.ref m), some (.int s)] [] (sz, us, emR f m w y) = some (some (.int (bI (decide (nI 0 ≤ s) && decide (s ≤ w 0 1 - nI 1)))), (sz, us, emR f m w y)) := by
  simp (disch := first | omega | with_reducible assumption | exact cobR | exact bI_01 _ | exact Or.inl rfl | exact Or.inr rfl | (simp (decide := true) only [wid_0, wid_i, wid_l, wid_r, wid_n]; done)) only [s136_0, s136_1, s136_2, s136_3, s136_4, s136_7, s136_8, s136_9, s136_12 (st := []) nI01_0, s136_12 (st := []) nI01_1, s136_12 (st := []) (bI_01 _), Option.bind_some, Option.bind_none, Option.toList_some, Option.toList_none, List.cons_append, List.nil_append, clr_i, clr_r, clr_l, clr_n, gR_13, pR_13, hR_1_13, R_in]
theorem R_isPart (s : Int32) : Ev (d + 1) 137 0 [some (.ref m), some (.int s)] [] (sz, us, emR f m w y) = some (some (.int (bI (decide (nI 0 ≤ s) && decide (s ≤ nI 15)))), (sz, us, emR f m w y)) := by
  simp (disch := first | omega | with_reducible assumption | exact cobR | exact bI_01 _ | exact Or.inl rfl | exact Or.inr rfl | (simp (decide := true) only [wid_0, wid_i, wid_l, wid_r, wid_n]; done)) only [s137_0, s137_1, s137_2, s137_3, s137_5, s137_8 (st := []) nI01_0, s137_8 (st := []) nI01_1, s137_8 (st := []) (bI_01 _), Option.bind_some, Option.bind_none, Option.toList_some, Option.toList_none, List.cons_append, List.nil_append, clr_i, clr_r, clr_l, clr_n, R_in]
end R1
