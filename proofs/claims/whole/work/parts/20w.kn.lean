/-! the class: terms of terms asked -/
def isTC (o : Option Nat) : Prop := o = some 0 ∨ o = some 3 ∨ o = some 6 ∨ o = some 8
theorem isTC_T {F : Hf} {x t : Nat} {B : Nat → Option Nat} {A : Nat → Nat} {tm : Nat → Nat → Nat} {td : Nat → Nat → Int32} {K : KT} {c : WD} {y : Nat → Int64} {v : VD} {tA : Nat → Option Nat} (hB : B (A t) = some t) (hx : x + 154 ≤ A t) : isTC (cob (emC (emT F B tm td A K) x c y v tA (A t))) := by
  rw [cob_T hB hx]
  unfold isTC
  rcases tkc_c (tm t 0) with h | h | h | h <;> rw [h] <;> simp
theorem s4_14T {d sz us : Nat} {hf : Hf} {st : List Value} {a0 a1 a2 a3 a4 : Option Value} {x0 : Int32} {x1 : Int32} {x2 : Int32} {x3 : Int32} {q : Nat} (hq : isTC (cob (hf q))) (hw : wid st ≤ 8) : Ev (d + 1) 4 14 [a0, a1, a2, a3, a4] (.int x3 :: .int x2 :: .int x1 :: .int x0 :: .ref q :: st) (sz, us, hf) = (Ev d 3 0 [some (.ref q), some (.int x0), some (.int x1), some (.int x2), some (.int x3)] [] (sz, us, hf)).bind (fun r => Ev (d + 1) 4 17 [a0, a1, a2, a3, a4] (r.1.toList ++ st) r.2) := by
  rcases hq with hq | hq | hq | hq
  · exact s4_14c0 hq hw
  · exact s4_14c3 hq hw
  · exact s4_14c6 hq hw
  · exact s4_14c8 hq hw
theorem s18_19T {d sz us : Nat} {hf : Hf} {st : List Value} {a0 a1 a2 a3 a4 a5 : Option Value} {x0 : Int32} {x1 : Int32} {x2 : Int32} {x3 : Int32} {q : Nat} (hq : isTC (cob (hf q))) (hw : wid st ≤ 8) : Ev (d + 1) 18 19 [a0, a1, a2, a3, a4, a5] (.int x3 :: .int x2 :: .int x1 :: .int x0 :: .ref q :: st) (sz, us, hf) = (Ev d 3 0 [some (.ref q), some (.int x0), some (.int x1), some (.int x2), some (.int x3)] [] (sz, us, hf)).bind (fun r => Ev (d + 1) 18 22 [a0, a1, a2, a3, a4, a5] (r.1.toList ++ st) r.2) := by
  rcases hq with hq | hq | hq | hq
  · exact s18_19c0 hq hw
  · exact s18_19c3 hq hw
  · exact s18_19c6 hq hw
  · exact s18_19c8 hq hw
theorem s53_6T {d sz us : Nat} {hf : Hf} {st : List Value} {a0 a1 a2 a3 a4 a5 a6 a7 a8 : Option Value} {x0 : Nat} {x1 : Int32} {q : Nat} (hq : isTC (cob (hf q))) (hw : wid st ≤ 8) : Ev (d + 1) 53 6 [a0, a1, a2, a3, a4, a5, a6, a7, a8] (.int x1 :: .ref x0 :: .ref q :: st) (sz, us, hf) = (Ev d 56 0 [some (.ref q), some (.ref x0), some (.int x1), none] [] (sz, us, hf)).bind (fun r => Ev (d + 1) 53 9 [a0, a1, a2, a3, a4, a5, a6, a7, a8] (r.1.toList ++ st) r.2) := by
  rcases hq with hq | hq | hq | hq
  · exact s53_6c0 hq hw
  · exact s53_6c3 hq hw
  · exact s53_6c6 hq hw
  · exact s53_6c8 hq hw
theorem s53_134T {d sz us : Nat} {hf : Hf} {st : List Value} {a0 a1 a2 a3 a4 a5 a6 a7 a8 : Option Value} {x0 : Nat} {x1 : Int32} {q : Nat} (hq : isTC (cob (hf q))) (hw : wid st ≤ 8) : Ev (d + 1) 53 134 [a0, a1, a2, a3, a4, a5, a6, a7, a8] (.int x1 :: .ref x0 :: .ref q :: st) (sz, us, hf) = (Ev d 56 0 [some (.ref q), some (.ref x0), some (.int x1), none] [] (sz, us, hf)).bind (fun r => Ev (d + 1) 53 137 [a0, a1, a2, a3, a4, a5, a6, a7, a8] (r.1.toList ++ st) r.2) := by
  rcases hq with hq | hq | hq | hq
  · exact s53_134c0 hq hw
  · exact s53_134c3 hq hw
  · exact s53_134c6 hq hw
  · exact s53_134c8 hq hw
theorem s54_6T {d sz us : Nat} {hf : Hf} {st : List Value} {a0 a1 a2 a3 a4 : Option Value} {x0 : Nat} {x1 : Int32} {q : Nat} (hq : isTC (cob (hf q))) (hw : wid st ≤ 8) : Ev (d + 1) 54 6 [a0, a1, a2, a3, a4] (.int x1 :: .ref x0 :: .ref q :: st) (sz, us, hf) = (Ev d 56 0 [some (.ref q), some (.ref x0), some (.int x1), none] [] (sz, us, hf)).bind (fun r => Ev (d + 1) 54 9 [a0, a1, a2, a3, a4] (r.1.toList ++ st) r.2) := by
  rcases hq with hq | hq | hq | hq
  · exact s54_6c0 hq hw
  · exact s54_6c3 hq hw
  · exact s54_6c6 hq hw
  · exact s54_6c8 hq hw
theorem s54_75T {d sz us : Nat} {hf : Hf} {st : List Value} {a0 a1 a2 a3 a4 : Option Value} {x0 : Nat} {x1 : Int32} {q : Nat} (hq : isTC (cob (hf q))) (hw : wid st ≤ 8) : Ev (d + 1) 54 75 [a0, a1, a2, a3, a4] (.int x1 :: .ref x0 :: .ref q :: st) (sz, us, hf) = (Ev d 56 0 [some (.ref q), some (.ref x0), some (.int x1), none] [] (sz, us, hf)).bind (fun r => Ev (d + 1) 54 78 [a0, a1, a2, a3, a4] (r.1.toList ++ st) r.2) := by
  rcases hq with hq | hq | hq | hq
  · exact s54_75c0 hq hw
  · exact s54_75c3 hq hw
  · exact s54_75c6 hq hw
  · exact s54_75c8 hq hw
theorem s54_87T {d sz us : Nat} {hf : Hf} {st : List Value} {a0 a1 a2 a3 a4 : Option Value} {x0 : Nat} {x1 : Int32} {q : Nat} (hq : isTC (cob (hf q))) (hw : wid st ≤ 8) : Ev (d + 1) 54 87 [a0, a1, a2, a3, a4] (.int x1 :: .ref x0 :: .ref q :: st) (sz, us, hf) = (Ev d 56 0 [some (.ref q), some (.ref x0), some (.int x1), none] [] (sz, us, hf)).bind (fun r => Ev (d + 1) 54 90 [a0, a1, a2, a3, a4] (r.1.toList ++ st) r.2) := by
  rcases hq with hq | hq | hq | hq
  · exact s54_87c0 hq hw
  · exact s54_87c3 hq hw
  · exact s54_87c6 hq hw
  · exact s54_87c8 hq hw
theorem s55_29T {d sz us : Nat} {hf : Hf} {st : List Value} {a0 a1 a2 a3 a4 a5 : Option Value} {x0 : Nat} {x1 : Int32} {q : Nat} (hq : isTC (cob (hf q))) (hw : wid st ≤ 8) : Ev (d + 1) 55 29 [a0, a1, a2, a3, a4, a5] (.int x1 :: .ref x0 :: .ref q :: st) (sz, us, hf) = (Ev d 56 0 [some (.ref q), some (.ref x0), some (.int x1), none] [] (sz, us, hf)).bind (fun r => Ev (d + 1) 55 32 [a0, a1, a2, a3, a4, a5] (r.1.toList ++ st) r.2) := by
  rcases hq with hq | hq | hq | hq
  · exact s55_29c0 hq hw
  · exact s55_29c3 hq hw
  · exact s55_29c6 hq hw
  · exact s55_29c8 hq hw
theorem s61_50T {d sz us : Nat} {hf : Hf} {st : List Value} {a0 a1 a2 a3 a4 a5 : Option Value} {x0 : Nat} {x1 : Int32} {q : Nat} (hq : isTC (cob (hf q))) (hw : wid st ≤ 8) : Ev (d + 1) 61 50 [a0, a1, a2, a3, a4, a5] (.int x1 :: .ref x0 :: .ref q :: st) (sz, us, hf) = (Ev d 56 0 [some (.ref q), some (.ref x0), some (.int x1), none] [] (sz, us, hf)).bind (fun r => Ev (d + 1) 61 53 [a0, a1, a2, a3, a4, a5] (r.1.toList ++ st) r.2) := by
  rcases hq with hq | hq | hq | hq
  · exact s61_50c0 hq hw
  · exact s61_50c3 hq hw
  · exact s61_50c6 hq hw
  · exact s61_50c8 hq hw
theorem s111_74T {d sz us : Nat} {hf : Hf} {st : List Value} {a0 a1 a2 a3 a4 a5 : Option Value} {x0 : Nat} {x1 : Int32} {q : Nat} (hq : isTC (cob (hf q))) (hw : wid st ≤ 8) : Ev (d + 1) 111 74 [a0, a1, a2, a3, a4, a5] (.int x1 :: .ref x0 :: .ref q :: st) (sz, us, hf) = (Ev d 56 0 [some (.ref q), some (.ref x0), some (.int x1), none] [] (sz, us, hf)).bind (fun r => Ev (d + 1) 111 77 [a0, a1, a2, a3, a4, a5] (r.1.toList ++ st) r.2) := by
  rcases hq with hq | hq | hq | hq
  · exact s111_74c0 hq hw
  · exact s111_74c3 hq hw
  · exact s111_74c6 hq hw
  · exact s111_74c8 hq hw
theorem s118_56T {d sz us : Nat} {hf : Hf} {st : List Value} {a0 a1 a2 a3 a4 a5 a6 : Option Value} {x0 : Nat} {x1 : Int32} {q : Nat} (hq : isTC (cob (hf q))) (hw : wid st ≤ 8) : Ev (d + 1) 118 56 [a0, a1, a2, a3, a4, a5, a6] (.int x1 :: .ref x0 :: .ref q :: st) (sz, us, hf) = (Ev d 56 0 [some (.ref q), some (.ref x0), some (.int x1), none] [] (sz, us, hf)).bind (fun r => Ev (d + 1) 118 59 [a0, a1, a2, a3, a4, a5, a6] (r.1.toList ++ st) r.2) := by
  rcases hq with hq | hq | hq | hq
  · exact s118_56c0 hq hw
  · exact s118_56c3 hq hw
  · exact s118_56c6 hq hw
  · exact s118_56c8 hq hw
theorem s118_66T {d sz us : Nat} {hf : Hf} {st : List Value} {a0 a1 a2 a3 a4 a5 a6 : Option Value} {x0 : Nat} {x1 : Int32} {q : Nat} (hq : isTC (cob (hf q))) (hw : wid st ≤ 8) : Ev (d + 1) 118 66 [a0, a1, a2, a3, a4, a5, a6] (.int x1 :: .ref x0 :: .ref q :: st) (sz, us, hf) = (Ev d 56 0 [some (.ref q), some (.ref x0), some (.int x1), none] [] (sz, us, hf)).bind (fun r => Ev (d + 1) 118 69 [a0, a1, a2, a3, a4, a5, a6] (r.1.toList ++ st) r.2) := by
  rcases hq with hq | hq | hq | hq
  · exact s118_66c0 hq hw
  · exact s118_66c3 hq hw
  · exact s118_66c6 hq hw
  · exact s118_66c8 hq hw
