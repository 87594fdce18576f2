/-! the class's constructors: State, Kept, Rows, Shelf, Past's head (wip/whole/gen23a.py) -/
theorem emB_emB {f : Hf} {x k : Nat} {L L' : List PE} (h : L.length = k) : emB (emB f x L) (x + k) L' = emB f x (L ++ L') := by
  subst h
  funext a
  unfold emB
  by_cases q : x + L.length ≤ a
  · rw [if_pos q, if_pos (by omega), if_pos (by omega), List.getElem?_append_right (by omega), List.getElem?_eq_none (l := L) (by omega), show a - x - L.length = a - (x + L.length) by omega]
  · rw [if_neg q]
    by_cases q2 : x ≤ a
    · rw [if_pos q2, if_pos q2, List.getElem?_append_left (by omega)]
    · rw [if_neg q2, if_neg q2]
theorem cdf_C7 : cdf 7 = [.int 0, .int 0, .int 0, .int 0, .int 0, .int 0, .null, .null, .null] := by decide
theorem cdf_C1 : cdf 1 = [.null, .null] := by decide
theorem cdf_C4 : cdf 4 = [.null, .int 0, .null, .null] := by decide
theorem cdf_C2 : cdf 2 = [.null, .int 0, .int 0, .int 0, .int 0, .null, .null, .null, .null, .null] := by decide
theorem cdf_C9 : cdf 9 = [.null, .null, .int 0, .null, .int 0, .null, .null] := by decide
theorem cdf_C5 : cdf 5 = [.null, .null, .null] := by decide
theorem t21_7 {f : Hf} {d us x0 : Nat} {st : List Value} {a0 : Option Value} {n : Nat} {L : List PE} (hn : n ≤ 60000000) (h : L.length = 1) : Ev d 21 7 [a0] (.int (nI n) :: st) (x0 + 1, us, emB f x0 L) = Ev d 21 9 [a0] (.ref (x0 + 1) :: st) (x0 + 2, us + n, emB f x0 (L ++ [zar 1 n])) := by
  rw [s21_7 hn, emB_new h]
theorem pC_8_9 {fs : List Value} {a : Nat} (h : fs.length = 9) : pfl true 8 9 (some (.inr (7, fs))) (.ref a) = some (.inr (7, fs.set 6 (.ref a))) := by
  unfold pfl
  dsimp only
  rw [fs_8_9_7]
  exact if_pos ⟨by omega, okv_ra _ _, by first | exact Or.inl rfl | exact Or.inr ⟨rfl, by decide⟩⟩
theorem t21_9 {f : Hf} {d sz us x0 : Nat} {st : List Value} {a0 : Option Value} {fs : List Value} {L : List PE} {a : Nat} (h : fs.length = 9) : Ev d 21 9 [a0] (.ref a :: .ref x0 :: st) (sz, us, emB f x0 (.inr (7, fs) :: L)) = Ev d 21 12 [a0] st (sz, us, emB f x0 (.inr (7, fs.set 6 (.ref a)) :: L)) := by
  rw [s21_9, emB_get0, pC_8_9 h, Option.bind_some, emB_set0]
theorem t21_15 {f : Hf} {d us x0 : Nat} {st : List Value} {a0 : Option Value} {n : Nat} {L : List PE} (hn : n ≤ 60000000) (h : L.length = 2) : Ev d 21 15 [a0] (.int (nI n) :: st) (x0 + 2, us, emB f x0 L) = Ev d 21 17 [a0] (.ref (x0 + 2) :: st) (x0 + 3, us + n, emB f x0 (L ++ [zar 1 n])) := by
  rw [s21_15 hn, emB_new h]
theorem pC_8_15 {fs : List Value} {a : Nat} (h : fs.length = 9) : pfl true 8 15 (some (.inr (7, fs))) (.ref a) = some (.inr (7, fs.set 7 (.ref a))) := by
  unfold pfl
  dsimp only
  rw [fs_8_15_7]
  exact if_pos ⟨by omega, okv_ra _ _, by first | exact Or.inl rfl | exact Or.inr ⟨rfl, by decide⟩⟩
theorem t21_17 {f : Hf} {d sz us x0 : Nat} {st : List Value} {a0 : Option Value} {fs : List Value} {L : List PE} {a : Nat} (h : fs.length = 9) : Ev d 21 17 [a0] (.ref a :: .ref x0 :: st) (sz, us, emB f x0 (.inr (7, fs) :: L)) = Ev d 21 20 [a0] st (sz, us, emB f x0 (.inr (7, fs.set 7 (.ref a)) :: L)) := by
  rw [s21_17, emB_get0, pC_8_15 h, Option.bind_some, emB_set0]
theorem t21_23 {f : Hf} {d us x0 : Nat} {st : List Value} {a0 : Option Value} {n : Nat} {L : List PE} (hn : n ≤ 60000000) (h : L.length = 3) : Ev d 21 23 [a0] (.int (nI n) :: st) (x0 + 3, us, emB f x0 L) = Ev d 21 25 [a0] (.ref (x0 + 3) :: st) (x0 + 4, us + n, emB f x0 (L ++ [zar 0 n])) := by
  rw [s21_23 hn, emB_new h]
theorem pC_8_18 {fs : List Value} {a : Nat} (h : fs.length = 9) : pfl true 8 18 (some (.inr (7, fs))) (.ref a) = some (.inr (7, fs.set 8 (.ref a))) := by
  unfold pfl
  dsimp only
  rw [fs_8_18_7]
  exact if_pos ⟨by omega, okv_ra _ _, by first | exact Or.inl rfl | exact Or.inr ⟨rfl, by decide⟩⟩
theorem t21_25 {f : Hf} {d sz us x0 : Nat} {st : List Value} {a0 : Option Value} {fs : List Value} {L : List PE} {a : Nat} (h : fs.length = 9) : Ev d 21 25 [a0] (.ref a :: .ref x0 :: st) (sz, us, emB f x0 (.inr (7, fs) :: L)) = Ev d 21 28 [a0] st (sz, us, emB f x0 (.inr (7, fs.set 8 (.ref a)) :: L)) := by
  rw [s21_25, emB_get0, pC_8_18 h, Option.bind_some, emB_set0]
def stO (x : Nat) : PE := .inr (7, [.int 0, .int 0, .int 0, .int 0, .int 0, .int 0, .ref (x + 1), .ref (x + 2), .ref (x + 3)])
theorem K_initS {f : Hf} {m d us : Nat} : Ev (d + 1) 21 0 [some (.ref m)] [] (m + 1, us, hup f m (.inr (7, cdf 7))) = some (none, (m + 4, us + 80, emB f m [stO m, zar 1 16, zar 1 16, zar 0 48])) := by
  rw [emB_one, cdf_C7]
  simp (maxSteps := 4000000) (disch := first | omega | (simp only [List.length_cons, List.length_nil, Nat.reduceAdd]; done) | (simp only [List.length_set]; assumption) | (simp (decide := true) only [wid_0, wid_i, wid_l, wid_r, wid_n]; done) | decide | fail) only [s21_0, s21_1, s21_4, s21_5, s21_12, s21_13, s21_20, s21_21, s21_28 (st := []), List.cons_append, List.nil_append, List.set_cons_zero, List.set_cons_succ, Nat.add_assoc, Nat.reduceAdd, t21_7, t21_9, t21_15, t21_17, t21_23, t21_25]
  rfl
theorem t13_8 {f : Hf} {d us x0 : Nat} {st : List Value} {a0 : Option Value} {n : Nat} {L : List PE} (hn : n ≤ 60000000) (h : L.length = 1) : Ev d 13 8 [a0] (.int (nI n) :: st) (x0 + 1, us, emB f x0 L) = Ev d 13 10 [a0] (.ref (x0 + 1) :: st) (x0 + 2, us + n, emB f x0 (L ++ [zar 0 n])) := by
  rw [s13_8 hn, emB_new h]
theorem pC_1_9 {fs : List Value} {a : Nat} (h : fs.length = 2) : pfl true 1 9 (some (.inr (1, fs))) (.ref a) = some (.inr (1, fs.set 1 (.ref a))) := by
  unfold pfl
  dsimp only
  rw [fs_1_9_1]
  exact if_pos ⟨by omega, okv_ra _ _, by first | exact Or.inl rfl | exact Or.inr ⟨rfl, by decide⟩⟩
theorem t13_10 {f : Hf} {d sz us x0 : Nat} {st : List Value} {a0 : Option Value} {fs : List Value} {L : List PE} {a : Nat} (h : fs.length = 2) : Ev d 13 10 [a0] (.ref a :: .ref x0 :: st) (sz, us, emB f x0 (.inr (1, fs) :: L)) = Ev d 13 13 [a0] st (sz, us, emB f x0 (.inr (1, fs.set 1 (.ref a)) :: L)) := by
  rw [s13_10, emB_get0, pC_1_9 h, Option.bind_some, emB_set0]
def keO (x : Nat) : PE := .inr (1, [.null, .ref (x + 1)])
theorem K_initK {f : Hf} {m d us : Nat} : Ev (d + 1) 13 0 [some (.ref m)] [] (m + 1, us, hup f m (.inr (1, cdf 1))) = some (none, (m + 2, us + 256, emB f m [keO m, zar 0 256])) := by
  rw [emB_one, cdf_C1]
  simp (maxSteps := 4000000) (disch := first | omega | (simp only [List.length_cons, List.length_nil, Nat.reduceAdd]; done) | (simp only [List.length_set]; assumption) | (simp (decide := true) only [wid_0, wid_i, wid_l, wid_r, wid_n]; done) | decide | fail) only [s13_0, s13_1, s13_4, s13_5, s13_13 (st := []), List.cons_append, List.nil_append, List.set_cons_zero, List.set_cons_succ, Nat.add_assoc, Nat.reduceAdd, t13_8, t13_10]
  rfl
theorem t57_8 {f : Hf} {d us x0 : Nat} {st : List Value} {a0 : Option Value} {n : Nat} {L : List PE} (hn : n ≤ 60000000) (h : L.length = 1) : Ev d 57 8 [a0] (.int (nI n) :: st) (x0 + 1, us, emB f x0 L) = Ev d 57 10 [a0] (.ref (x0 + 1) :: st) (x0 + 2, us + n, emB f x0 (L ++ [zar 0 n])) := by
  rw [s57_8 hn, emB_new h]
theorem pC_5_9 {fs : List Value} {a : Nat} (h : fs.length = 4) : pfl true 5 9 (some (.inr (4, fs))) (.ref a) = some (.inr (4, fs.set 2 (.ref a))) := by
  unfold pfl
  dsimp only
  rw [fs_5_9_4]
  exact if_pos ⟨by omega, okv_ra _ _, by first | exact Or.inl rfl | exact Or.inr ⟨rfl, by decide⟩⟩
theorem t57_10 {f : Hf} {d sz us x0 : Nat} {st : List Value} {a0 : Option Value} {fs : List Value} {L : List PE} {a : Nat} (h : fs.length = 4) : Ev d 57 10 [a0] (.ref a :: .ref x0 :: st) (sz, us, emB f x0 (.inr (4, fs) :: L)) = Ev d 57 13 [a0] st (sz, us, emB f x0 (.inr (4, fs.set 2 (.ref a)) :: L)) := by
  rw [s57_10, emB_get0, pC_5_9 h, Option.bind_some, emB_set0]
theorem t57_17 {f : Hf} {d us x0 : Nat} {st : List Value} {a0 : Option Value} {n : Nat} {L : List PE} (hn : n ≤ 60000000) (h : L.length = 2) : Ev d 57 17 [a0] (.int (nI n) :: st) (x0 + 2, us, emB f x0 L) = Ev d 57 19 [a0] (.ref (x0 + 2) :: st) (x0 + 3, us + n, emB f x0 (L ++ [zar 0 n])) := by
  rw [s57_17 hn, emB_new h]
theorem pC_5_15 {fs : List Value} {a : Nat} (h : fs.length = 4) : pfl true 5 15 (some (.inr (4, fs))) (.ref a) = some (.inr (4, fs.set 3 (.ref a))) := by
  unfold pfl
  dsimp only
  rw [fs_5_15_4]
  exact if_pos ⟨by omega, okv_ra _ _, by first | exact Or.inl rfl | exact Or.inr ⟨rfl, by decide⟩⟩
theorem t57_19 {f : Hf} {d sz us x0 : Nat} {st : List Value} {a0 : Option Value} {fs : List Value} {L : List PE} {a : Nat} (h : fs.length = 4) : Ev d 57 19 [a0] (.ref a :: .ref x0 :: st) (sz, us, emB f x0 (.inr (4, fs) :: L)) = Ev d 57 22 [a0] st (sz, us, emB f x0 (.inr (4, fs.set 3 (.ref a)) :: L)) := by
  rw [s57_19, emB_get0, pC_5_15 h, Option.bind_some, emB_set0]
def roO (x : Nat) : PE := .inr (4, [.null, .int 0, .ref (x + 1), .ref (x + 2)])
theorem K_initR {f : Hf} {m d us : Nat} : Ev (d + 1) 57 0 [some (.ref m)] [] (m + 1, us, hup f m (.inr (4, cdf 4))) = some (none, (m + 3, us + 512, emB f m [roO m, zar 0 256, zar 0 256])) := by
  rw [emB_one, cdf_C4]
  simp (maxSteps := 4000000) (disch := first | omega | (simp only [List.length_cons, List.length_nil, Nat.reduceAdd]; done) | (simp only [List.length_set]; assumption) | (simp (decide := true) only [wid_0, wid_i, wid_l, wid_r, wid_n]; done) | decide | fail) only [s57_0, s57_1, s57_4, s57_5, s57_13, s57_14, s57_22 (st := []), List.cons_append, List.nil_append, List.set_cons_zero, List.set_cons_succ, Nat.add_assoc, Nat.reduceAdd, t57_8, t57_10, t57_17, t57_19]
  rfl
def shO : PE := .inr (5, [.null, .null, .null])
theorem K_initH {f : Hf} {m d us : Nat} : Ev (d + 1) 65 0 [some (.ref m)] [] (m + 1, us, hup f m (.inr (5, cdf 5))) = some (none, (m + 1, us, emB f m [shO])) := by
  rw [emB_one, cdf_C5]
  simp (maxSteps := 4000000) (disch := first | omega | (simp only [List.length_cons, List.length_nil, Nat.reduceAdd]; done) | (simp only [List.length_set]; assumption) | (simp (decide := true) only [wid_0, wid_i, wid_l, wid_r, wid_n]; done) | decide | fail) only [s65_0, s65_1, s65_4 (st := [])]
  rfl
theorem t22_7 {f : Hf} {d us x0 : Nat} {st : List Value} {a0 a1 : Option Value} {n : Nat} {L : List PE} (hn : n ≤ 60000000) (h : L.length = 1) : Ev d 22 7 [a0, a1] (.int (nI n) :: st) (x0 + 1, us, emB f x0 L) = Ev d 22 10 [a0, a1] (.ref (x0 + 1) :: st) (x0 + 2, us + n, emB f x0 (L ++ [zar 4 n])) := by
  rw [s22_7 hn, emB_new h]
theorem pC_3_11 {fs : List Value} {a : Nat} (h : fs.length = 10) : pfl true 3 11 (some (.inr (2, fs))) (.ref a) = some (.inr (2, fs.set 0 (.ref a))) := by
  unfold pfl
  dsimp only
  rw [fs_3_11_2]
  exact if_pos ⟨by omega, okv_ra _ _, by first | exact Or.inl rfl | exact Or.inr ⟨rfl, by decide⟩⟩
theorem t22_10 {f : Hf} {d sz us x0 : Nat} {st : List Value} {a0 a1 : Option Value} {fs : List Value} {L : List PE} {a : Nat} (h : fs.length = 10) : Ev d 22 10 [a0, a1] (.ref a :: .ref x0 :: st) (sz, us, emB f x0 (.inr (2, fs) :: L)) = Ev d 22 13 [a0, a1] st (sz, us, emB f x0 (.inr (2, fs.set 0 (.ref a)) :: L)) := by
  rw [s22_10, emB_get0, pC_3_11 h, Option.bind_some, emB_set0]
theorem t22_16 {f : Hf} {d us x0 : Nat} {st : List Value} {a0 a1 : Option Value} {n : Nat} {L : List PE} (hn : n ≤ 60000000) (h : L.length = 2) : Ev d 22 16 [a0, a1] (.int (nI n) :: st) (x0 + 2, us, emB f x0 L) = Ev d 22 18 [a0, a1] (.ref (x0 + 2) :: st) (x0 + 3, us + n, emB f x0 (L ++ [zar 0 n])) := by
  rw [s22_16 hn, emB_new h]
theorem pC_3_17 {fs : List Value} {a : Nat} (h : fs.length = 10) : pfl true 3 17 (some (.inr (2, fs))) (.ref a) = some (.inr (2, fs.set 5 (.ref a))) := by
  unfold pfl
  dsimp only
  rw [fs_3_17_2]
  exact if_pos ⟨by omega, okv_ra _ _, by first | exact Or.inl rfl | exact Or.inr ⟨rfl, by decide⟩⟩
theorem t22_18 {f : Hf} {d sz us x0 : Nat} {st : List Value} {a0 a1 : Option Value} {fs : List Value} {L : List PE} {a : Nat} (h : fs.length = 10) : Ev d 22 18 [a0, a1] (.ref a :: .ref x0 :: st) (sz, us, emB f x0 (.inr (2, fs) :: L)) = Ev d 22 21 [a0, a1] st (sz, us, emB f x0 (.inr (2, fs.set 5 (.ref a)) :: L)) := by
  rw [s22_18, emB_get0, pC_3_17 h, Option.bind_some, emB_set0]
theorem t22_25 {f : Hf} {d us x0 : Nat} {st : List Value} {a0 a1 : Option Value} {n : Nat} {L : List PE} (hn : n ≤ 60000000) (h : L.length = 3) : Ev d 22 25 [a0, a1] (.int (nI n) :: st) (x0 + 3, us, emB f x0 L) = Ev d 22 27 [a0, a1] (.ref (x0 + 3) :: st) (x0 + 4, us + n, emB f x0 (L ++ [zar 0 n])) := by
  rw [s22_25 hn, emB_new h]
theorem pC_3_21 {fs : List Value} {a : Nat} (h : fs.length = 10) : pfl true 3 21 (some (.inr (2, fs))) (.ref a) = some (.inr (2, fs.set 6 (.ref a))) := by
  unfold pfl
  dsimp only
  rw [fs_3_21_2]
  exact if_pos ⟨by omega, okv_ra _ _, by first | exact Or.inl rfl | exact Or.inr ⟨rfl, by decide⟩⟩
theorem t22_27 {f : Hf} {d sz us x0 : Nat} {st : List Value} {a0 a1 : Option Value} {fs : List Value} {L : List PE} {a : Nat} (h : fs.length = 10) : Ev d 22 27 [a0, a1] (.ref a :: .ref x0 :: st) (sz, us, emB f x0 (.inr (2, fs) :: L)) = Ev d 22 30 [a0, a1] st (sz, us, emB f x0 (.inr (2, fs.set 6 (.ref a)) :: L)) := by
  rw [s22_27, emB_get0, pC_3_21 h, Option.bind_some, emB_set0]
theorem t22_34 {f : Hf} {d us x0 : Nat} {st : List Value} {a0 a1 : Option Value} {n : Nat} {L : List PE} (hn : n ≤ 60000000) (h : L.length = 4) : Ev d 22 34 [a0, a1] (.int (nI n) :: st) (x0 + 4, us, emB f x0 L) = Ev d 22 36 [a0, a1] (.ref (x0 + 4) :: st) (x0 + 5, us + n, emB f x0 (L ++ [zar 0 n])) := by
  rw [s22_34 hn, emB_new h]
theorem pC_3_24 {fs : List Value} {a : Nat} (h : fs.length = 10) : pfl true 3 24 (some (.inr (2, fs))) (.ref a) = some (.inr (2, fs.set 7 (.ref a))) := by
  unfold pfl
  dsimp only
  rw [fs_3_24_2]
  exact if_pos ⟨by omega, okv_ra _ _, by first | exact Or.inl rfl | exact Or.inr ⟨rfl, by decide⟩⟩
theorem t22_36 {f : Hf} {d sz us x0 : Nat} {st : List Value} {a0 a1 : Option Value} {fs : List Value} {L : List PE} {a : Nat} (h : fs.length = 10) : Ev d 22 36 [a0, a1] (.ref a :: .ref x0 :: st) (sz, us, emB f x0 (.inr (2, fs) :: L)) = Ev d 22 39 [a0, a1] st (sz, us, emB f x0 (.inr (2, fs.set 7 (.ref a)) :: L)) := by
  rw [s22_36, emB_get0, pC_3_24 h, Option.bind_some, emB_set0]
theorem t22_42 {f : Hf} {d us x0 : Nat} {st : List Value} {a0 a1 : Option Value} {n : Nat} {L : List PE} (hn : n ≤ 60000000) (h : L.length = 5) : Ev d 22 42 [a0, a1] (.int (nI n) :: st) (x0 + 5, us, emB f x0 L) = Ev d 22 44 [a0, a1] (.ref (x0 + 5) :: st) (x0 + 6, us + n, emB f x0 (L ++ [zar 0 n])) := by
  rw [s22_42 hn, emB_new h]
theorem pC_3_27 {fs : List Value} {a : Nat} (h : fs.length = 10) : pfl true 3 27 (some (.inr (2, fs))) (.ref a) = some (.inr (2, fs.set 8 (.ref a))) := by
  unfold pfl
  dsimp only
  rw [fs_3_27_2]
  exact if_pos ⟨by omega, okv_ra _ _, by first | exact Or.inl rfl | exact Or.inr ⟨rfl, by decide⟩⟩
theorem t22_44 {f : Hf} {d sz us x0 : Nat} {st : List Value} {a0 a1 : Option Value} {fs : List Value} {L : List PE} {a : Nat} (h : fs.length = 10) : Ev d 22 44 [a0, a1] (.ref a :: .ref x0 :: st) (sz, us, emB f x0 (.inr (2, fs) :: L)) = Ev d 22 47 [a0, a1] st (sz, us, emB f x0 (.inr (2, fs.set 8 (.ref a)) :: L)) := by
  rw [s22_44, emB_get0, pC_3_27 h, Option.bind_some, emB_set0]
theorem t22_50 {f : Hf} {d us x0 : Nat} {st : List Value} {a0 a1 : Option Value} {n : Nat} {L : List PE} (hn : n ≤ 60000000) (h : L.length = 6) : Ev d 22 50 [a0, a1] (.int (nI n) :: st) (x0 + 6, us, emB f x0 L) = Ev d 22 52 [a0, a1] (.ref (x0 + 6) :: st) (x0 + 7, us + n, emB f x0 (L ++ [zar 3 n])) := by
  rw [s22_50 hn, emB_new h]
theorem pC_3_30 {fs : List Value} {a : Nat} (h : fs.length = 10) : pfl true 3 30 (some (.inr (2, fs))) (.ref a) = some (.inr (2, fs.set 9 (.ref a))) := by
  unfold pfl
  dsimp only
  rw [fs_3_30_2]
  exact if_pos ⟨by omega, okv_ra _ _, by first | exact Or.inl rfl | exact Or.inr ⟨rfl, by decide⟩⟩
theorem t22_52 {f : Hf} {d sz us x0 : Nat} {st : List Value} {a0 a1 : Option Value} {fs : List Value} {L : List PE} {a : Nat} (h : fs.length = 10) : Ev d 22 52 [a0, a1] (.ref a :: .ref x0 :: st) (sz, us, emB f x0 (.inr (2, fs) :: L)) = Ev d 22 55 [a0, a1] st (sz, us, emB f x0 (.inr (2, fs.set 9 (.ref a)) :: L)) := by
  rw [s22_52, emB_get0, pC_3_30 h, Option.bind_some, emB_set0]
def paO (x : Nat) : PE := .inr (2, [.ref (x + 1), .int 0, .int 0, .int 0, .int 0, .ref (x + 2), .ref (x + 3), .ref (x + 4), .ref (x + 5), .ref (x + 6)])
theorem K_initP0 {f : Hf} {m d us : Nat} : Ev (d + 1) 22 0 [some (.ref m), none] [] (m + 1, us, hup f m (.inr (2, cdf 2))) = Ev (d + 1) 22 57 [some (.ref m), some (.int (nI 0))] [] (m + 7, us + 1628, emB f m [paO m, zar 4 30, zar 0 16, zar 0 768, zar 0 768, zar 0 16, zar 3 30]) := by
  rw [emB_one, cdf_C2]
  simp (maxSteps := 4000000) (disch := first | omega | (simp only [List.length_cons, List.length_nil, Nat.reduceAdd]; done) | (simp only [List.length_set]; assumption) | (simp (decide := true) only [wid_0, wid_i, wid_l, wid_r, wid_n]; done) | decide | fail) only [s22_0, s22_1, s22_4, s22_5, s22_13, s22_14, s22_21, s22_22, s22_30, s22_31, s22_39, s22_40, s22_47, s22_48, s22_55, s22_56, List.cons_append, List.nil_append, List.set_cons_zero, List.set_cons_succ, Nat.add_assoc, Nat.reduceAdd, t22_7, t22_10, t22_16, t22_18, t22_25, t22_27, t22_34, t22_36, t22_42, t22_44, t22_50, t22_52]
  rfl
