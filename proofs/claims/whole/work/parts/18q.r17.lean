/-! heaps as lists of cells; the reference's constructor (wip/whole/gen18q.py) -/
def emB (f : Hf) (x : Nat) (L : List PE) : Hf := fun a => if x ≤ a then (match L[a - x]? with
  | some e => some e
  | none => f a) else f a
theorem emB_get {f : Hf} {x k : Nat} {L : List PE} {e : PE} (h : L[k]? = some e) : emB f x L (x + k) = some e := by
  unfold emB
  rw [if_pos (by omega), Nat.add_sub_cancel_left, h]
theorem emB_get0 {f : Hf} {x : Nat} {L : List PE} {e : PE} : emB f x (e :: L) x = some e := emB_get (k := 0) rfl
theorem emB_hup {f : Hf} {x k : Nat} {L L' : List PE} {e : PE} (h : L'[k]? = some e) (h2 : ∀ j, j ≠ k → L'[j]? = L[j]?) : hup (emB f x L) (x + k) e = emB f x L' := by
  funext a
  unfold hup
  by_cases q : a = x + k
  · subst q
    rw [if_pos rfl, emB_get h]
  · rw [if_neg q]
    unfold emB
    by_cases q2 : x ≤ a
    · rw [if_pos q2, if_pos q2, h2 (a - x) (by omega)]
    · rw [if_neg q2, if_neg q2]
theorem emB_new {f : Hf} {x k : Nat} {L : List PE} {e : PE} (h : L.length = k) : hup (emB f x L) (x + k) e = emB f x (L ++ [e]) := by
  subst h
  refine emB_hup (by simp) (fun j hj => ?_)
  by_cases q : j < L.length
  · rw [List.getElem?_append_left q]
  · rw [List.getElem?_append_right (by omega), List.getElem?_eq_none (l := L) (by omega)]
    exact List.getElem?_eq_none (by simp; omega)
theorem emB_set {f : Hf} {x k : Nat} {L : List PE} {e : PE} (h : k < L.length) : hup (emB f x L) (x + k) e = emB f x (L.set k e) := emB_hup (by simp [h]) (fun j hj => by rw [List.getElem?_set_ne (by omega)])
theorem emB_set0 {f : Hf} {x : Nat} {L : List PE} {e e' : PE} : hup (emB f x (e :: L)) x e' = emB f x (e' :: L) := emB_set (k := 0) (by simp)
theorem emB_one {f : Hf} {x : Nat} {e : PE} : hup f x e = emB f x [e] := by
  funext a
  unfold hup emB
  by_cases q : a = x
  · subst q
    simp
  · rw [if_neg q]
    by_cases q2 : x ≤ a
    · rw [if_pos q2]
      have : ([e] : List PE)[a - x]? = none := List.getElem?_eq_none (by simp; omega)
      rw [this]
    · rw [if_neg q2]
def wZ : WD := fun k => if k = 0 then (fun i => if i = 10 then 1 else 0) else fun _ => 0
def yZ : Nat → Int64 := fun _ => 0
theorem emB_emR {f : Hf} {m : Nat} {w : WD} {y : Nat → Int64} {L : List PE} (hl : L.length = 31) (h : ∀ k, k < 31 → L[k]? = some (rce m w y k)) : emB f m L = emR f m w y := by
  funext a
  unfold emB emR
  by_cases q : m ≤ a
  · rw [if_pos q]
    by_cases q2 : a < m + 31
    · rw [if_pos ⟨q, q2⟩, h _ (by omega)]
    · rw [if_neg (by omega), List.getElem?_eq_none (by omega)]
  · rw [if_neg q, if_neg (by omega)]
theorem pS_7 {fs : List Value} {x : Int32} (h : fs.length = 35) : pfl true 12 7 (some (.inr (10, fs))) (.int x) = some (.inr (10, fs.set 0 (.int x))) := by
  unfold pfl
  dsimp only
  rw [fsR_7]
  exact if_pos ⟨by omega, okv_i _, by first | exact Or.inl rfl | exact Or.inr ⟨rfl, by decide⟩⟩
theorem pS_13 {fs : List Value} {x : Int32} (h : fs.length = 35) : pfl true 12 13 (some (.inr (10, fs))) (.int x) = some (.inr (10, fs.set 1 (.int x))) := by
  unfold pfl
  dsimp only
  rw [fsR_13]
  exact if_pos ⟨by omega, okv_i _, by first | exact Or.inl rfl | exact Or.inr ⟨rfl, by decide⟩⟩
theorem pS_16 {fs : List Value} {a : Nat} (h : fs.length = 35) : pfl true 12 16 (some (.inr (10, fs))) (.ref a) = some (.inr (10, fs.set 2 (.ref a))) := by
  unfold pfl
  dsimp only
  rw [fsR_16]
  exact if_pos ⟨by omega, okv_ra _ _, by first | exact Or.inl rfl | exact Or.inr ⟨rfl, by decide⟩⟩
theorem pS_20 {fs : List Value} {a : Nat} (h : fs.length = 35) : pfl true 12 20 (some (.inr (10, fs))) (.ref a) = some (.inr (10, fs.set 3 (.ref a))) := by
  unfold pfl
  dsimp only
  rw [fsR_20]
  exact if_pos ⟨by omega, okv_ra _ _, by first | exact Or.inl rfl | exact Or.inr ⟨rfl, by decide⟩⟩
theorem pS_23 {fs : List Value} {a : Nat} (h : fs.length = 35) : pfl true 12 23 (some (.inr (10, fs))) (.ref a) = some (.inr (10, fs.set 4 (.ref a))) := by
  unfold pfl
  dsimp only
  rw [fsR_23]
  exact if_pos ⟨by omega, okv_ra _ _, by first | exact Or.inl rfl | exact Or.inr ⟨rfl, by decide⟩⟩
theorem pS_26 {fs : List Value} {a : Nat} (h : fs.length = 35) : pfl true 12 26 (some (.inr (10, fs))) (.ref a) = some (.inr (10, fs.set 5 (.ref a))) := by
  unfold pfl
  dsimp only
  rw [fsR_26]
  exact if_pos ⟨by omega, okv_ra _ _, by first | exact Or.inl rfl | exact Or.inr ⟨rfl, by decide⟩⟩
theorem pS_29 {fs : List Value} {a : Nat} (h : fs.length = 35) : pfl true 12 29 (some (.inr (10, fs))) (.ref a) = some (.inr (10, fs.set 6 (.ref a))) := by
  unfold pfl
  dsimp only
  rw [fsR_29]
  exact if_pos ⟨by omega, okv_ra _ _, by first | exact Or.inl rfl | exact Or.inr ⟨rfl, by decide⟩⟩
theorem pS_33 {fs : List Value} {a : Nat} (h : fs.length = 35) : pfl true 12 33 (some (.inr (10, fs))) (.ref a) = some (.inr (10, fs.set 7 (.ref a))) := by
  unfold pfl
  dsimp only
  rw [fsR_33]
  exact if_pos ⟨by omega, okv_ra _ _, by first | exact Or.inl rfl | exact Or.inr ⟨rfl, by decide⟩⟩
theorem pS_36 {fs : List Value} {a : Nat} (h : fs.length = 35) : pfl true 12 36 (some (.inr (10, fs))) (.ref a) = some (.inr (10, fs.set 8 (.ref a))) := by
  unfold pfl
  dsimp only
  rw [fsR_36]
  exact if_pos ⟨by omega, okv_ra _ _, by first | exact Or.inl rfl | exact Or.inr ⟨rfl, by decide⟩⟩
theorem pS_39 {fs : List Value} {a : Nat} (h : fs.length = 35) : pfl true 12 39 (some (.inr (10, fs))) (.ref a) = some (.inr (10, fs.set 9 (.ref a))) := by
  unfold pfl
  dsimp only
  rw [fsR_39]
  exact if_pos ⟨by omega, okv_ra _ _, by first | exact Or.inl rfl | exact Or.inr ⟨rfl, by decide⟩⟩
theorem pS_42 {fs : List Value} {x : Int32} (hx : x = 0 ∨ x = 1) (h : fs.length = 35) : pfl true 12 42 (some (.inr (10, fs))) (.int x) = some (.inr (10, fs.set 10 (.int x))) := by
  unfold pfl
  dsimp only
  rw [fsR_42]
  exact if_pos ⟨by omega, by rcases hx with rfl | rfl <;> decide, by first | exact Or.inl rfl | exact Or.inr ⟨rfl, by decide⟩⟩
theorem pS_46 {fs : List Value} {a : Nat} (h : fs.length = 35) : pfl true 12 46 (some (.inr (10, fs))) (.ref a) = some (.inr (10, fs.set 11 (.ref a))) := by
  unfold pfl
  dsimp only
  rw [fsR_46]
  exact if_pos ⟨by omega, okv_ra _ _, by first | exact Or.inl rfl | exact Or.inr ⟨rfl, by decide⟩⟩
theorem pS_50 {fs : List Value} {x : Int32} (h : fs.length = 35) : pfl true 12 50 (some (.inr (10, fs))) (.int x) = some (.inr (10, fs.set 12 (.int x))) := by
  unfold pfl
  dsimp only
  rw [fsR_50]
  exact if_pos ⟨by omega, okv_i _, by first | exact Or.inl rfl | exact Or.inr ⟨rfl, by decide⟩⟩
theorem pS_53 {fs : List Value} {a : Nat} (h : fs.length = 35) : pfl true 12 53 (some (.inr (10, fs))) (.ref a) = some (.inr (10, fs.set 13 (.ref a))) := by
  unfold pfl
  dsimp only
  rw [fsR_53]
  exact if_pos ⟨by omega, okv_ra _ _, by first | exact Or.inl rfl | exact Or.inr ⟨rfl, by decide⟩⟩
theorem pS_56 {fs : List Value} {a : Nat} (h : fs.length = 35) : pfl true 12 56 (some (.inr (10, fs))) (.ref a) = some (.inr (10, fs.set 14 (.ref a))) := by
  unfold pfl
  dsimp only
  rw [fsR_56]
  exact if_pos ⟨by omega, okv_ra _ _, by first | exact Or.inl rfl | exact Or.inr ⟨rfl, by decide⟩⟩
theorem pS_59 {fs : List Value} {a : Nat} (h : fs.length = 35) : pfl true 12 59 (some (.inr (10, fs))) (.ref a) = some (.inr (10, fs.set 15 (.ref a))) := by
  unfold pfl
  dsimp only
  rw [fsR_59]
  exact if_pos ⟨by omega, okv_ra _ _, by first | exact Or.inl rfl | exact Or.inr ⟨rfl, by decide⟩⟩
theorem pS_62 {fs : List Value} {a : Nat} (h : fs.length = 35) : pfl true 12 62 (some (.inr (10, fs))) (.ref a) = some (.inr (10, fs.set 16 (.ref a))) := by
  unfold pfl
  dsimp only
  rw [fsR_62]
  exact if_pos ⟨by omega, okv_ra _ _, by first | exact Or.inl rfl | exact Or.inr ⟨rfl, by decide⟩⟩
theorem pS_65 {fs : List Value} {a : Nat} (h : fs.length = 35) : pfl true 12 65 (some (.inr (10, fs))) (.ref a) = some (.inr (10, fs.set 17 (.ref a))) := by
  unfold pfl
  dsimp only
  rw [fsR_65]
  exact if_pos ⟨by omega, okv_ra _ _, by first | exact Or.inl rfl | exact Or.inr ⟨rfl, by decide⟩⟩
theorem pS_68 {fs : List Value} {a : Nat} (h : fs.length = 35) : pfl true 12 68 (some (.inr (10, fs))) (.ref a) = some (.inr (10, fs.set 18 (.ref a))) := by
  unfold pfl
  dsimp only
  rw [fsR_68]
  exact if_pos ⟨by omega, okv_ra _ _, by first | exact Or.inl rfl | exact Or.inr ⟨rfl, by decide⟩⟩
theorem pS_71 {fs : List Value} {a : Nat} (h : fs.length = 35) : pfl true 12 71 (some (.inr (10, fs))) (.ref a) = some (.inr (10, fs.set 19 (.ref a))) := by
  unfold pfl
  dsimp only
  rw [fsR_71]
  exact if_pos ⟨by omega, okv_ra _ _, by first | exact Or.inl rfl | exact Or.inr ⟨rfl, by decide⟩⟩
theorem pS_75 {fs : List Value} {a : Nat} (h : fs.length = 35) : pfl true 12 75 (some (.inr (10, fs))) (.ref a) = some (.inr (10, fs.set 20 (.ref a))) := by
  unfold pfl
  dsimp only
  rw [fsR_75]
  exact if_pos ⟨by omega, okv_ra _ _, by first | exact Or.inl rfl | exact Or.inr ⟨rfl, by decide⟩⟩
theorem pS_78 {fs : List Value} {a : Nat} (h : fs.length = 35) : pfl true 12 78 (some (.inr (10, fs))) (.ref a) = some (.inr (10, fs.set 21 (.ref a))) := by
  unfold pfl
  dsimp only
  rw [fsR_78]
  exact if_pos ⟨by omega, okv_ra _ _, by first | exact Or.inl rfl | exact Or.inr ⟨rfl, by decide⟩⟩
theorem pS_81 {fs : List Value} {a : Nat} (h : fs.length = 35) : pfl true 12 81 (some (.inr (10, fs))) (.ref a) = some (.inr (10, fs.set 22 (.ref a))) := by
  unfold pfl
  dsimp only
  rw [fsR_81]
  exact if_pos ⟨by omega, okv_ra _ _, by first | exact Or.inl rfl | exact Or.inr ⟨rfl, by decide⟩⟩
theorem pS_84 {fs : List Value} {a : Nat} (h : fs.length = 35) : pfl true 12 84 (some (.inr (10, fs))) (.ref a) = some (.inr (10, fs.set 23 (.ref a))) := by
  unfold pfl
  dsimp only
  rw [fsR_84]
  exact if_pos ⟨by omega, okv_ra _ _, by first | exact Or.inl rfl | exact Or.inr ⟨rfl, by decide⟩⟩
theorem pS_87 {fs : List Value} {a : Nat} (h : fs.length = 35) : pfl true 12 87 (some (.inr (10, fs))) (.ref a) = some (.inr (10, fs.set 24 (.ref a))) := by
  unfold pfl
  dsimp only
  rw [fsR_87]
  exact if_pos ⟨by omega, okv_ra _ _, by first | exact Or.inl rfl | exact Or.inr ⟨rfl, by decide⟩⟩
theorem pS_90 {fs : List Value} {a : Nat} (h : fs.length = 35) : pfl true 12 90 (some (.inr (10, fs))) (.ref a) = some (.inr (10, fs.set 25 (.ref a))) := by
  unfold pfl
  dsimp only
  rw [fsR_90]
  exact if_pos ⟨by omega, okv_ra _ _, by first | exact Or.inl rfl | exact Or.inr ⟨rfl, by decide⟩⟩
theorem pS_93 {fs : List Value} {a : Nat} (h : fs.length = 35) : pfl true 12 93 (some (.inr (10, fs))) (.ref a) = some (.inr (10, fs.set 26 (.ref a))) := by
  unfold pfl
  dsimp only
  rw [fsR_93]
  exact if_pos ⟨by omega, okv_ra _ _, by first | exact Or.inl rfl | exact Or.inr ⟨rfl, by decide⟩⟩
theorem pS_96 {fs : List Value} {x : Int32} (h : fs.length = 35) : pfl true 12 96 (some (.inr (10, fs))) (.int x) = some (.inr (10, fs.set 27 (.int x))) := by
  unfold pfl
  dsimp only
  rw [fsR_96]
  exact if_pos ⟨by omega, okv_i _, by first | exact Or.inl rfl | exact Or.inr ⟨rfl, by decide⟩⟩
theorem pS_99 {fs : List Value} {a : Nat} (h : fs.length = 35) : pfl true 12 99 (some (.inr (10, fs))) (.ref a) = some (.inr (10, fs.set 28 (.ref a))) := by
  unfold pfl
  dsimp only
  rw [fsR_99]
  exact if_pos ⟨by omega, okv_ra _ _, by first | exact Or.inl rfl | exact Or.inr ⟨rfl, by decide⟩⟩
theorem pS_102 {fs : List Value} {a : Nat} (h : fs.length = 35) : pfl true 12 102 (some (.inr (10, fs))) (.ref a) = some (.inr (10, fs.set 29 (.ref a))) := by
  unfold pfl
  dsimp only
  rw [fsR_102]
  exact if_pos ⟨by omega, okv_ra _ _, by first | exact Or.inl rfl | exact Or.inr ⟨rfl, by decide⟩⟩
theorem pS_105 {fs : List Value} {a : Nat} (h : fs.length = 35) : pfl true 12 105 (some (.inr (10, fs))) (.ref a) = some (.inr (10, fs.set 30 (.ref a))) := by
  unfold pfl
  dsimp only
  rw [fsR_105]
  exact if_pos ⟨by omega, okv_ra _ _, by first | exact Or.inl rfl | exact Or.inr ⟨rfl, by decide⟩⟩
theorem pS_108 {fs : List Value} {a : Nat} (h : fs.length = 35) : pfl true 12 108 (some (.inr (10, fs))) (.ref a) = some (.inr (10, fs.set 31 (.ref a))) := by
  unfold pfl
  dsimp only
  rw [fsR_108]
  exact if_pos ⟨by omega, okv_ra _ _, by first | exact Or.inl rfl | exact Or.inr ⟨rfl, by decide⟩⟩
theorem pS_111 {fs : List Value} {a : Nat} (h : fs.length = 35) : pfl true 12 111 (some (.inr (10, fs))) (.ref a) = some (.inr (10, fs.set 32 (.ref a))) := by
  unfold pfl
  dsimp only
  rw [fsR_111]
  exact if_pos ⟨by omega, okv_ra _ _, by first | exact Or.inl rfl | exact Or.inr ⟨rfl, by decide⟩⟩
theorem pS_114 {fs : List Value} {a : Nat} (h : fs.length = 35) : pfl true 12 114 (some (.inr (10, fs))) (.ref a) = some (.inr (10, fs.set 33 (.ref a))) := by
  unfold pfl
  dsimp only
  rw [fsR_114]
  exact if_pos ⟨by omega, okv_ra _ _, by first | exact Or.inl rfl | exact Or.inr ⟨rfl, by decide⟩⟩
theorem pS_117 {fs : List Value} {a : Nat} (h : fs.length = 35) : pfl true 12 117 (some (.inr (10, fs))) (.ref a) = some (.inr (10, fs.set 34 (.ref a))) := by
  unfold pfl
  dsimp only
  rw [fsR_117]
  exact if_pos ⟨by omega, okv_ra _ _, by first | exact Or.inl rfl | exact Or.inr ⟨rfl, by decide⟩⟩
theorem eN_1 {f : Hf} {x : Nat} {L : List PE} {e : PE} (h : L.length = 1) : hup (emB f x L) (x + 1) e = emB f x (L ++ [e]) := emB_new h
theorem eN_2 {f : Hf} {x : Nat} {L : List PE} {e : PE} (h : L.length = 2) : hup (emB f x L) (x + 2) e = emB f x (L ++ [e]) := emB_new h
theorem eN_3 {f : Hf} {x : Nat} {L : List PE} {e : PE} (h : L.length = 3) : hup (emB f x L) (x + 3) e = emB f x (L ++ [e]) := emB_new h
theorem eN_4 {f : Hf} {x : Nat} {L : List PE} {e : PE} (h : L.length = 4) : hup (emB f x L) (x + 4) e = emB f x (L ++ [e]) := emB_new h
theorem eN_5 {f : Hf} {x : Nat} {L : List PE} {e : PE} (h : L.length = 5) : hup (emB f x L) (x + 5) e = emB f x (L ++ [e]) := emB_new h
theorem eN_6 {f : Hf} {x : Nat} {L : List PE} {e : PE} (h : L.length = 6) : hup (emB f x L) (x + 6) e = emB f x (L ++ [e]) := emB_new h
theorem eN_7 {f : Hf} {x : Nat} {L : List PE} {e : PE} (h : L.length = 7) : hup (emB f x L) (x + 7) e = emB f x (L ++ [e]) := emB_new h
theorem eN_8 {f : Hf} {x : Nat} {L : List PE} {e : PE} (h : L.length = 8) : hup (emB f x L) (x + 8) e = emB f x (L ++ [e]) := emB_new h
theorem eN_9 {f : Hf} {x : Nat} {L : List PE} {e : PE} (h : L.length = 9) : hup (emB f x L) (x + 9) e = emB f x (L ++ [e]) := emB_new h
theorem eN_10 {f : Hf} {x : Nat} {L : List PE} {e : PE} (h : L.length = 10) : hup (emB f x L) (x + 10) e = emB f x (L ++ [e]) := emB_new h
theorem eN_11 {f : Hf} {x : Nat} {L : List PE} {e : PE} (h : L.length = 11) : hup (emB f x L) (x + 11) e = emB f x (L ++ [e]) := emB_new h
theorem eN_12 {f : Hf} {x : Nat} {L : List PE} {e : PE} (h : L.length = 12) : hup (emB f x L) (x + 12) e = emB f x (L ++ [e]) := emB_new h
theorem eN_13 {f : Hf} {x : Nat} {L : List PE} {e : PE} (h : L.length = 13) : hup (emB f x L) (x + 13) e = emB f x (L ++ [e]) := emB_new h
theorem eN_14 {f : Hf} {x : Nat} {L : List PE} {e : PE} (h : L.length = 14) : hup (emB f x L) (x + 14) e = emB f x (L ++ [e]) := emB_new h
theorem eN_15 {f : Hf} {x : Nat} {L : List PE} {e : PE} (h : L.length = 15) : hup (emB f x L) (x + 15) e = emB f x (L ++ [e]) := emB_new h
theorem eN_16 {f : Hf} {x : Nat} {L : List PE} {e : PE} (h : L.length = 16) : hup (emB f x L) (x + 16) e = emB f x (L ++ [e]) := emB_new h
theorem eN_17 {f : Hf} {x : Nat} {L : List PE} {e : PE} (h : L.length = 17) : hup (emB f x L) (x + 17) e = emB f x (L ++ [e]) := emB_new h
theorem eN_18 {f : Hf} {x : Nat} {L : List PE} {e : PE} (h : L.length = 18) : hup (emB f x L) (x + 18) e = emB f x (L ++ [e]) := emB_new h
theorem eN_19 {f : Hf} {x : Nat} {L : List PE} {e : PE} (h : L.length = 19) : hup (emB f x L) (x + 19) e = emB f x (L ++ [e]) := emB_new h
theorem eN_20 {f : Hf} {x : Nat} {L : List PE} {e : PE} (h : L.length = 20) : hup (emB f x L) (x + 20) e = emB f x (L ++ [e]) := emB_new h
theorem eN_21 {f : Hf} {x : Nat} {L : List PE} {e : PE} (h : L.length = 21) : hup (emB f x L) (x + 21) e = emB f x (L ++ [e]) := emB_new h
theorem eN_22 {f : Hf} {x : Nat} {L : List PE} {e : PE} (h : L.length = 22) : hup (emB f x L) (x + 22) e = emB f x (L ++ [e]) := emB_new h
theorem eN_23 {f : Hf} {x : Nat} {L : List PE} {e : PE} (h : L.length = 23) : hup (emB f x L) (x + 23) e = emB f x (L ++ [e]) := emB_new h
theorem eN_24 {f : Hf} {x : Nat} {L : List PE} {e : PE} (h : L.length = 24) : hup (emB f x L) (x + 24) e = emB f x (L ++ [e]) := emB_new h
theorem eN_25 {f : Hf} {x : Nat} {L : List PE} {e : PE} (h : L.length = 25) : hup (emB f x L) (x + 25) e = emB f x (L ++ [e]) := emB_new h
theorem eN_26 {f : Hf} {x : Nat} {L : List PE} {e : PE} (h : L.length = 26) : hup (emB f x L) (x + 26) e = emB f x (L ++ [e]) := emB_new h
theorem eN_27 {f : Hf} {x : Nat} {L : List PE} {e : PE} (h : L.length = 27) : hup (emB f x L) (x + 27) e = emB f x (L ++ [e]) := emB_new h
theorem eN_28 {f : Hf} {x : Nat} {L : List PE} {e : PE} (h : L.length = 28) : hup (emB f x L) (x + 28) e = emB f x (L ++ [e]) := emB_new h
theorem eN_29 {f : Hf} {x : Nat} {L : List PE} {e : PE} (h : L.length = 29) : hup (emB f x L) (x + 29) e = emB f x (L ++ [e]) := emB_new h
theorem eN_30 {f : Hf} {x : Nat} {L : List PE} {e : PE} (h : L.length = 30) : hup (emB f x L) (x + 30) e = emB f x (L ++ [e]) := emB_new h
theorem t133_6 {f : Hf} {d sz us x0 : Nat} {st : List Value} {a0 : Option Value} {fs : List Value} {L : List PE} {x : Int32} (h : fs.length = 35) : Ev d 133 6 [a0] (.int x :: .ref x0 :: st) (sz, us, emB f x0 (.inr (10, fs) :: L)) = Ev d 133 9 [a0] st (sz, us, emB f x0 (.inr (10, fs.set 0 (.int x)) :: L)) := by
  rw [s133_6, emB_get0, pS_7 h, Option.bind_some, emB_set0]
theorem t133_11 {f : Hf} {d sz us x0 : Nat} {st : List Value} {a0 : Option Value} {fs : List Value} {L : List PE} {x : Int32} (h : fs.length = 35) : Ev d 133 11 [a0] (.int x :: .ref x0 :: st) (sz, us, emB f x0 (.inr (10, fs) :: L)) = Ev d 133 14 [a0] st (sz, us, emB f x0 (.inr (10, fs.set 1 (.int x)) :: L)) := by
  rw [s133_11, emB_get0, pS_13 h, Option.bind_some, emB_set0]
theorem t133_17 {f : Hf} {d us x0 : Nat} {st : List Value} {a0 : Option Value} {n : Nat} {L : List PE} (hn : n ≤ 60000000) (h : L.length = 1) : Ev d 133 17 [a0] (.int (nI n) :: st) (x0 + 1, us, emB f x0 L) = Ev d 133 19 [a0] (.ref (x0 + 1) :: st) (x0 + 2, us + n, emB f x0 (L ++ [zar 0 n])) := by
  rw [s133_17 hn, emB_new h]
theorem t133_19 {f : Hf} {d sz us x0 : Nat} {st : List Value} {a0 : Option Value} {fs : List Value} {L : List PE} {a : Nat} (h : fs.length = 35) : Ev d 133 19 [a0] (.ref a :: .ref x0 :: st) (sz, us, emB f x0 (.inr (10, fs) :: L)) = Ev d 133 22 [a0] st (sz, us, emB f x0 (.inr (10, fs.set 2 (.ref a)) :: L)) := by
  rw [s133_19, emB_get0, pS_16 h, Option.bind_some, emB_set0]
theorem t133_25 {f : Hf} {d us x0 : Nat} {st : List Value} {a0 : Option Value} {n : Nat} {L : List PE} (hn : n ≤ 60000000) (h : L.length = 2) : Ev d 133 25 [a0] (.int (nI n) :: st) (x0 + 2, us, emB f x0 L) = Ev d 133 27 [a0] (.ref (x0 + 2) :: st) (x0 + 3, us + n, emB f x0 (L ++ [zar 0 n])) := by
  rw [s133_25 hn, emB_new h]
theorem t133_27 {f : Hf} {d sz us x0 : Nat} {st : List Value} {a0 : Option Value} {fs : List Value} {L : List PE} {a : Nat} (h : fs.length = 35) : Ev d 133 27 [a0] (.ref a :: .ref x0 :: st) (sz, us, emB f x0 (.inr (10, fs) :: L)) = Ev d 133 30 [a0] st (sz, us, emB f x0 (.inr (10, fs.set 3 (.ref a)) :: L)) := by
  rw [s133_27, emB_get0, pS_20 h, Option.bind_some, emB_set0]
theorem t133_33 {f : Hf} {d us x0 : Nat} {st : List Value} {a0 : Option Value} {n : Nat} {L : List PE} (hn : n ≤ 60000000) (h : L.length = 3) : Ev d 133 33 [a0] (.int (nI n) :: st) (x0 + 3, us, emB f x0 L) = Ev d 133 35 [a0] (.ref (x0 + 3) :: st) (x0 + 4, us + n, emB f x0 (L ++ [zar 0 n])) := by
  rw [s133_33 hn, emB_new h]
theorem t133_35 {f : Hf} {d sz us x0 : Nat} {st : List Value} {a0 : Option Value} {fs : List Value} {L : List PE} {a : Nat} (h : fs.length = 35) : Ev d 133 35 [a0] (.ref a :: .ref x0 :: st) (sz, us, emB f x0 (.inr (10, fs) :: L)) = Ev d 133 38 [a0] st (sz, us, emB f x0 (.inr (10, fs.set 4 (.ref a)) :: L)) := by
  rw [s133_35, emB_get0, pS_23 h, Option.bind_some, emB_set0]
theorem t133_41 {f : Hf} {d us x0 : Nat} {st : List Value} {a0 : Option Value} {n : Nat} {L : List PE} (hn : n ≤ 60000000) (h : L.length = 4) : Ev d 133 41 [a0] (.int (nI n) :: st) (x0 + 4, us, emB f x0 L) = Ev d 133 43 [a0] (.ref (x0 + 4) :: st) (x0 + 5, us + n, emB f x0 (L ++ [zar 0 n])) := by
  rw [s133_41 hn, emB_new h]
theorem t133_43 {f : Hf} {d sz us x0 : Nat} {st : List Value} {a0 : Option Value} {fs : List Value} {L : List PE} {a : Nat} (h : fs.length = 35) : Ev d 133 43 [a0] (.ref a :: .ref x0 :: st) (sz, us, emB f x0 (.inr (10, fs) :: L)) = Ev d 133 46 [a0] st (sz, us, emB f x0 (.inr (10, fs.set 5 (.ref a)) :: L)) := by
  rw [s133_43, emB_get0, pS_26 h, Option.bind_some, emB_set0]
theorem t133_49 {f : Hf} {d us x0 : Nat} {st : List Value} {a0 : Option Value} {n : Nat} {L : List PE} (hn : n ≤ 60000000) (h : L.length = 5) : Ev d 133 49 [a0] (.int (nI n) :: st) (x0 + 5, us, emB f x0 L) = Ev d 133 51 [a0] (.ref (x0 + 5) :: st) (x0 + 6, us + n, emB f x0 (L ++ [zar 2 n])) := by
  rw [s133_49 hn, emB_new h]
theorem t133_51 {f : Hf} {d sz us x0 : Nat} {st : List Value} {a0 : Option Value} {fs : List Value} {L : List PE} {a : Nat} (h : fs.length = 35) : Ev d 133 51 [a0] (.ref a :: .ref x0 :: st) (sz, us, emB f x0 (.inr (10, fs) :: L)) = Ev d 133 54 [a0] st (sz, us, emB f x0 (.inr (10, fs.set 6 (.ref a)) :: L)) := by
  rw [s133_51, emB_get0, pS_29 h, Option.bind_some, emB_set0]
theorem t133_58 {f : Hf} {d us x0 : Nat} {st : List Value} {a0 : Option Value} {n : Nat} {L : List PE} (hn : n ≤ 60000000) (h : L.length = 6) : Ev d 133 58 [a0] (.int (nI n) :: st) (x0 + 6, us, emB f x0 L) = Ev d 133 60 [a0] (.ref (x0 + 6) :: st) (x0 + 7, us + n, emB f x0 (L ++ [zar 0 n])) := by
  rw [s133_58 hn, emB_new h]
theorem t133_60 {f : Hf} {d sz us x0 : Nat} {st : List Value} {a0 : Option Value} {fs : List Value} {L : List PE} {a : Nat} (h : fs.length = 35) : Ev d 133 60 [a0] (.ref a :: .ref x0 :: st) (sz, us, emB f x0 (.inr (10, fs) :: L)) = Ev d 133 63 [a0] st (sz, us, emB f x0 (.inr (10, fs.set 7 (.ref a)) :: L)) := by
  rw [s133_60, emB_get0, pS_33 h, Option.bind_some, emB_set0]
theorem t133_67 {f : Hf} {d us x0 : Nat} {st : List Value} {a0 : Option Value} {n : Nat} {L : List PE} (hn : n ≤ 60000000) (h : L.length = 7) : Ev d 133 67 [a0] (.int (nI n) :: st) (x0 + 7, us, emB f x0 L) = Ev d 133 69 [a0] (.ref (x0 + 7) :: st) (x0 + 8, us + n, emB f x0 (L ++ [zar 0 n])) := by
  rw [s133_67 hn, emB_new h]
theorem t133_69 {f : Hf} {d sz us x0 : Nat} {st : List Value} {a0 : Option Value} {fs : List Value} {L : List PE} {a : Nat} (h : fs.length = 35) : Ev d 133 69 [a0] (.ref a :: .ref x0 :: st) (sz, us, emB f x0 (.inr (10, fs) :: L)) = Ev d 133 72 [a0] st (sz, us, emB f x0 (.inr (10, fs.set 8 (.ref a)) :: L)) := by
  rw [s133_69, emB_get0, pS_36 h, Option.bind_some, emB_set0]
theorem t133_76 {f : Hf} {d us x0 : Nat} {st : List Value} {a0 : Option Value} {n : Nat} {L : List PE} (hn : n ≤ 60000000) (h : L.length = 8) : Ev d 133 76 [a0] (.int (nI n) :: st) (x0 + 8, us, emB f x0 L) = Ev d 133 78 [a0] (.ref (x0 + 8) :: st) (x0 + 9, us + n, emB f x0 (L ++ [zar 0 n])) := by
  rw [s133_76 hn, emB_new h]
theorem t133_78 {f : Hf} {d sz us x0 : Nat} {st : List Value} {a0 : Option Value} {fs : List Value} {L : List PE} {a : Nat} (h : fs.length = 35) : Ev d 133 78 [a0] (.ref a :: .ref x0 :: st) (sz, us, emB f x0 (.inr (10, fs) :: L)) = Ev d 133 81 [a0] st (sz, us, emB f x0 (.inr (10, fs.set 9 (.ref a)) :: L)) := by
  rw [s133_78, emB_get0, pS_39 h, Option.bind_some, emB_set0]
theorem t133_83 {f : Hf} {d sz us x0 : Nat} {st : List Value} {a0 : Option Value} {fs : List Value} {L : List PE} {x : Int32} (hx : x = 0 ∨ x = 1) (h : fs.length = 35) : Ev d 133 83 [a0] (.int x :: .ref x0 :: st) (sz, us, emB f x0 (.inr (10, fs) :: L)) = Ev d 133 86 [a0] st (sz, us, emB f x0 (.inr (10, fs.set 10 (.int x)) :: L)) := by
  rw [s133_83, emB_get0, pS_42 hx h, Option.bind_some, emB_set0]
theorem t133_89 {f : Hf} {d us x0 : Nat} {st : List Value} {a0 : Option Value} {n : Nat} {L : List PE} (hn : n ≤ 60000000) (h : L.length = 9) : Ev d 133 89 [a0] (.int (nI n) :: st) (x0 + 9, us, emB f x0 L) = Ev d 133 91 [a0] (.ref (x0 + 9) :: st) (x0 + 10, us + n, emB f x0 (L ++ [zar 3 n])) := by
  rw [s133_89 hn, emB_new h]
theorem t133_91 {f : Hf} {d sz us x0 : Nat} {st : List Value} {a0 : Option Value} {fs : List Value} {L : List PE} {a : Nat} (h : fs.length = 35) : Ev d 133 91 [a0] (.ref a :: .ref x0 :: st) (sz, us, emB f x0 (.inr (10, fs) :: L)) = Ev d 133 94 [a0] st (sz, us, emB f x0 (.inr (10, fs.set 11 (.ref a)) :: L)) := by
  rw [s133_91, emB_get0, pS_46 h, Option.bind_some, emB_set0]
theorem t133_96 {f : Hf} {d sz us x0 : Nat} {st : List Value} {a0 : Option Value} {fs : List Value} {L : List PE} {x : Int32} (h : fs.length = 35) : Ev d 133 96 [a0] (.int x :: .ref x0 :: st) (sz, us, emB f x0 (.inr (10, fs) :: L)) = Ev d 133 99 [a0] st (sz, us, emB f x0 (.inr (10, fs.set 12 (.int x)) :: L)) := by
  rw [s133_96, emB_get0, pS_50 h, Option.bind_some, emB_set0]
theorem t133_102 {f : Hf} {d us x0 : Nat} {st : List Value} {a0 : Option Value} {n : Nat} {L : List PE} (hn : n ≤ 60000000) (h : L.length = 10) : Ev d 133 102 [a0] (.int (nI n) :: st) (x0 + 10, us, emB f x0 L) = Ev d 133 104 [a0] (.ref (x0 + 10) :: st) (x0 + 11, us + n, emB f x0 (L ++ [zar 0 n])) := by
  rw [s133_102 hn, emB_new h]
theorem t133_104 {f : Hf} {d sz us x0 : Nat} {st : List Value} {a0 : Option Value} {fs : List Value} {L : List PE} {a : Nat} (h : fs.length = 35) : Ev d 133 104 [a0] (.ref a :: .ref x0 :: st) (sz, us, emB f x0 (.inr (10, fs) :: L)) = Ev d 133 107 [a0] st (sz, us, emB f x0 (.inr (10, fs.set 13 (.ref a)) :: L)) := by
  rw [s133_104, emB_get0, pS_53 h, Option.bind_some, emB_set0]
theorem t133_110 {f : Hf} {d us x0 : Nat} {st : List Value} {a0 : Option Value} {n : Nat} {L : List PE} (hn : n ≤ 60000000) (h : L.length = 11) : Ev d 133 110 [a0] (.int (nI n) :: st) (x0 + 11, us, emB f x0 L) = Ev d 133 112 [a0] (.ref (x0 + 11) :: st) (x0 + 12, us + n, emB f x0 (L ++ [zar 0 n])) := by
  rw [s133_110 hn, emB_new h]
theorem t133_112 {f : Hf} {d sz us x0 : Nat} {st : List Value} {a0 : Option Value} {fs : List Value} {L : List PE} {a : Nat} (h : fs.length = 35) : Ev d 133 112 [a0] (.ref a :: .ref x0 :: st) (sz, us, emB f x0 (.inr (10, fs) :: L)) = Ev d 133 115 [a0] st (sz, us, emB f x0 (.inr (10, fs.set 14 (.ref a)) :: L)) := by
  rw [s133_112, emB_get0, pS_56 h, Option.bind_some, emB_set0]
theorem t133_118 {f : Hf} {d us x0 : Nat} {st : List Value} {a0 : Option Value} {n : Nat} {L : List PE} (hn : n ≤ 60000000) (h : L.length = 12) : Ev d 133 118 [a0] (.int (nI n) :: st) (x0 + 12, us, emB f x0 L) = Ev d 133 120 [a0] (.ref (x0 + 12) :: st) (x0 + 13, us + n, emB f x0 (L ++ [zar 0 n])) := by
  rw [s133_118 hn, emB_new h]
theorem t133_120 {f : Hf} {d sz us x0 : Nat} {st : List Value} {a0 : Option Value} {fs : List Value} {L : List PE} {a : Nat} (h : fs.length = 35) : Ev d 133 120 [a0] (.ref a :: .ref x0 :: st) (sz, us, emB f x0 (.inr (10, fs) :: L)) = Ev d 133 123 [a0] st (sz, us, emB f x0 (.inr (10, fs.set 15 (.ref a)) :: L)) := by
  rw [s133_120, emB_get0, pS_59 h, Option.bind_some, emB_set0]
theorem t133_126 {f : Hf} {d us x0 : Nat} {st : List Value} {a0 : Option Value} {n : Nat} {L : List PE} (hn : n ≤ 60000000) (h : L.length = 13) : Ev d 133 126 [a0] (.int (nI n) :: st) (x0 + 13, us, emB f x0 L) = Ev d 133 128 [a0] (.ref (x0 + 13) :: st) (x0 + 14, us + n, emB f x0 (L ++ [zar 0 n])) := by
  rw [s133_126 hn, emB_new h]
theorem t133_128 {f : Hf} {d sz us x0 : Nat} {st : List Value} {a0 : Option Value} {fs : List Value} {L : List PE} {a : Nat} (h : fs.length = 35) : Ev d 133 128 [a0] (.ref a :: .ref x0 :: st) (sz, us, emB f x0 (.inr (10, fs) :: L)) = Ev d 133 131 [a0] st (sz, us, emB f x0 (.inr (10, fs.set 16 (.ref a)) :: L)) := by
  rw [s133_128, emB_get0, pS_62 h, Option.bind_some, emB_set0]
theorem t133_134 {f : Hf} {d us x0 : Nat} {st : List Value} {a0 : Option Value} {n : Nat} {L : List PE} (hn : n ≤ 60000000) (h : L.length = 14) : Ev d 133 134 [a0] (.int (nI n) :: st) (x0 + 14, us, emB f x0 L) = Ev d 133 136 [a0] (.ref (x0 + 14) :: st) (x0 + 15, us + n, emB f x0 (L ++ [zar 0 n])) := by
  rw [s133_134 hn, emB_new h]
theorem t133_136 {f : Hf} {d sz us x0 : Nat} {st : List Value} {a0 : Option Value} {fs : List Value} {L : List PE} {a : Nat} (h : fs.length = 35) : Ev d 133 136 [a0] (.ref a :: .ref x0 :: st) (sz, us, emB f x0 (.inr (10, fs) :: L)) = Ev d 133 139 [a0] st (sz, us, emB f x0 (.inr (10, fs.set 17 (.ref a)) :: L)) := by
  rw [s133_136, emB_get0, pS_65 h, Option.bind_some, emB_set0]
theorem t133_142 {f : Hf} {d us x0 : Nat} {st : List Value} {a0 : Option Value} {n : Nat} {L : List PE} (hn : n ≤ 60000000) (h : L.length = 15) : Ev d 133 142 [a0] (.int (nI n) :: st) (x0 + 15, us, emB f x0 L) = Ev d 133 144 [a0] (.ref (x0 + 15) :: st) (x0 + 16, us + n, emB f x0 (L ++ [zar 0 n])) := by
  rw [s133_142 hn, emB_new h]
theorem t133_144 {f : Hf} {d sz us x0 : Nat} {st : List Value} {a0 : Option Value} {fs : List Value} {L : List PE} {a : Nat} (h : fs.length = 35) : Ev d 133 144 [a0] (.ref a :: .ref x0 :: st) (sz, us, emB f x0 (.inr (10, fs) :: L)) = Ev d 133 147 [a0] st (sz, us, emB f x0 (.inr (10, fs.set 18 (.ref a)) :: L)) := by
  rw [s133_144, emB_get0, pS_68 h, Option.bind_some, emB_set0]
theorem t133_150 {f : Hf} {d us x0 : Nat} {st : List Value} {a0 : Option Value} {n : Nat} {L : List PE} (hn : n ≤ 60000000) (h : L.length = 16) : Ev d 133 150 [a0] (.int (nI n) :: st) (x0 + 16, us, emB f x0 L) = Ev d 133 152 [a0] (.ref (x0 + 16) :: st) (x0 + 17, us + n, emB f x0 (L ++ [zar 0 n])) := by
  rw [s133_150 hn, emB_new h]
theorem t133_152 {f : Hf} {d sz us x0 : Nat} {st : List Value} {a0 : Option Value} {fs : List Value} {L : List PE} {a : Nat} (h : fs.length = 35) : Ev d 133 152 [a0] (.ref a :: .ref x0 :: st) (sz, us, emB f x0 (.inr (10, fs) :: L)) = Ev d 133 155 [a0] st (sz, us, emB f x0 (.inr (10, fs.set 19 (.ref a)) :: L)) := by
  rw [s133_152, emB_get0, pS_71 h, Option.bind_some, emB_set0]
theorem t133_158 {f : Hf} {d us x0 : Nat} {st : List Value} {a0 : Option Value} {n : Nat} {L : List PE} (hn : n ≤ 60000000) (h : L.length = 17) : Ev d 133 158 [a0] (.int (nI n) :: st) (x0 + 17, us, emB f x0 L) = Ev d 133 160 [a0] (.ref (x0 + 17) :: st) (x0 + 18, us + n, emB f x0 (L ++ [zar 0 n])) := by
  rw [s133_158 hn, emB_new h]
theorem t133_160 {f : Hf} {d sz us x0 : Nat} {st : List Value} {a0 : Option Value} {fs : List Value} {L : List PE} {a : Nat} (h : fs.length = 35) : Ev d 133 160 [a0] (.ref a :: .ref x0 :: st) (sz, us, emB f x0 (.inr (10, fs) :: L)) = Ev d 133 163 [a0] st (sz, us, emB f x0 (.inr (10, fs.set 20 (.ref a)) :: L)) := by
  rw [s133_160, emB_get0, pS_75 h, Option.bind_some, emB_set0]
theorem t133_166 {f : Hf} {d us x0 : Nat} {st : List Value} {a0 : Option Value} {n : Nat} {L : List PE} (hn : n ≤ 60000000) (h : L.length = 18) : Ev d 133 166 [a0] (.int (nI n) :: st) (x0 + 18, us, emB f x0 L) = Ev d 133 168 [a0] (.ref (x0 + 18) :: st) (x0 + 19, us + n, emB f x0 (L ++ [zar 0 n])) := by
  rw [s133_166 hn, emB_new h]
theorem t133_168 {f : Hf} {d sz us x0 : Nat} {st : List Value} {a0 : Option Value} {fs : List Value} {L : List PE} {a : Nat} (h : fs.length = 35) : Ev d 133 168 [a0] (.ref a :: .ref x0 :: st) (sz, us, emB f x0 (.inr (10, fs) :: L)) = Ev d 133 171 [a0] st (sz, us, emB f x0 (.inr (10, fs.set 21 (.ref a)) :: L)) := by
  rw [s133_168, emB_get0, pS_78 h, Option.bind_some, emB_set0]
theorem t133_174 {f : Hf} {d us x0 : Nat} {st : List Value} {a0 : Option Value} {n : Nat} {L : List PE} (hn : n ≤ 60000000) (h : L.length = 19) : Ev d 133 174 [a0] (.int (nI n) :: st) (x0 + 19, us, emB f x0 L) = Ev d 133 176 [a0] (.ref (x0 + 19) :: st) (x0 + 20, us + n, emB f x0 (L ++ [zar 2 n])) := by
  rw [s133_174 hn, emB_new h]
theorem t133_176 {f : Hf} {d sz us x0 : Nat} {st : List Value} {a0 : Option Value} {fs : List Value} {L : List PE} {a : Nat} (h : fs.length = 35) : Ev d 133 176 [a0] (.ref a :: .ref x0 :: st) (sz, us, emB f x0 (.inr (10, fs) :: L)) = Ev d 133 179 [a0] st (sz, us, emB f x0 (.inr (10, fs.set 22 (.ref a)) :: L)) := by
  rw [s133_176, emB_get0, pS_81 h, Option.bind_some, emB_set0]
theorem t133_181 {f : Hf} {d us x0 : Nat} {st : List Value} {a0 : Option Value} {n : Nat} {L : List PE} (hn : n ≤ 60000000) (h : L.length = 20) : Ev d 133 181 [a0] (.int (nI n) :: st) (x0 + 20, us, emB f x0 L) = Ev d 133 183 [a0] (.ref (x0 + 20) :: st) (x0 + 21, us + n, emB f x0 (L ++ [zar 0 n])) := by
  rw [s133_181 hn, emB_new h]
theorem t133_183 {f : Hf} {d sz us x0 : Nat} {st : List Value} {a0 : Option Value} {fs : List Value} {L : List PE} {a : Nat} (h : fs.length = 35) : Ev d 133 183 [a0] (.ref a :: .ref x0 :: st) (sz, us, emB f x0 (.inr (10, fs) :: L)) = Ev d 133 186 [a0] st (sz, us, emB f x0 (.inr (10, fs.set 23 (.ref a)) :: L)) := by
  rw [s133_183, emB_get0, pS_84 h, Option.bind_some, emB_set0]
theorem t133_188 {f : Hf} {d us x0 : Nat} {st : List Value} {a0 : Option Value} {n : Nat} {L : List PE} (hn : n ≤ 60000000) (h : L.length = 21) : Ev d 133 188 [a0] (.int (nI n) :: st) (x0 + 21, us, emB f x0 L) = Ev d 133 190 [a0] (.ref (x0 + 21) :: st) (x0 + 22, us + n, emB f x0 (L ++ [zar 0 n])) := by
  rw [s133_188 hn, emB_new h]
theorem t133_190 {f : Hf} {d sz us x0 : Nat} {st : List Value} {a0 : Option Value} {fs : List Value} {L : List PE} {a : Nat} (h : fs.length = 35) : Ev d 133 190 [a0] (.ref a :: .ref x0 :: st) (sz, us, emB f x0 (.inr (10, fs) :: L)) = Ev d 133 193 [a0] st (sz, us, emB f x0 (.inr (10, fs.set 24 (.ref a)) :: L)) := by
  rw [s133_190, emB_get0, pS_87 h, Option.bind_some, emB_set0]
theorem t133_197 {f : Hf} {d us x0 : Nat} {st : List Value} {a0 : Option Value} {n : Nat} {L : List PE} (hn : n ≤ 60000000) (h : L.length = 22) : Ev d 133 197 [a0] (.int (nI n) :: st) (x0 + 22, us, emB f x0 L) = Ev d 133 199 [a0] (.ref (x0 + 22) :: st) (x0 + 23, us + n, emB f x0 (L ++ [zar 0 n])) := by
  rw [s133_197 hn, emB_new h]
theorem t133_199 {f : Hf} {d sz us x0 : Nat} {st : List Value} {a0 : Option Value} {fs : List Value} {L : List PE} {a : Nat} (h : fs.length = 35) : Ev d 133 199 [a0] (.ref a :: .ref x0 :: st) (sz, us, emB f x0 (.inr (10, fs) :: L)) = Ev d 133 202 [a0] st (sz, us, emB f x0 (.inr (10, fs.set 25 (.ref a)) :: L)) := by
  rw [s133_199, emB_get0, pS_90 h, Option.bind_some, emB_set0]
theorem t133_206 {f : Hf} {d us x0 : Nat} {st : List Value} {a0 : Option Value} {n : Nat} {L : List PE} (hn : n ≤ 60000000) (h : L.length = 23) : Ev d 133 206 [a0] (.int (nI n) :: st) (x0 + 23, us, emB f x0 L) = Ev d 133 208 [a0] (.ref (x0 + 23) :: st) (x0 + 24, us + n, emB f x0 (L ++ [zar 0 n])) := by
  rw [s133_206 hn, emB_new h]
theorem t133_208 {f : Hf} {d sz us x0 : Nat} {st : List Value} {a0 : Option Value} {fs : List Value} {L : List PE} {a : Nat} (h : fs.length = 35) : Ev d 133 208 [a0] (.ref a :: .ref x0 :: st) (sz, us, emB f x0 (.inr (10, fs) :: L)) = Ev d 133 211 [a0] st (sz, us, emB f x0 (.inr (10, fs.set 26 (.ref a)) :: L)) := by
  rw [s133_208, emB_get0, pS_93 h, Option.bind_some, emB_set0]
theorem t133_213 {f : Hf} {d sz us x0 : Nat} {st : List Value} {a0 : Option Value} {fs : List Value} {L : List PE} {x : Int32} (h : fs.length = 35) : Ev d 133 213 [a0] (.int x :: .ref x0 :: st) (sz, us, emB f x0 (.inr (10, fs) :: L)) = Ev d 133 216 [a0] st (sz, us, emB f x0 (.inr (10, fs.set 27 (.int x)) :: L)) := by
  rw [s133_213, emB_get0, pS_96 h, Option.bind_some, emB_set0]
theorem t133_219 {f : Hf} {d us x0 : Nat} {st : List Value} {a0 : Option Value} {n : Nat} {L : List PE} (hn : n ≤ 60000000) (h : L.length = 24) : Ev d 133 219 [a0] (.int (nI n) :: st) (x0 + 24, us, emB f x0 L) = Ev d 133 221 [a0] (.ref (x0 + 24) :: st) (x0 + 25, us + n, emB f x0 (L ++ [zar 0 n])) := by
  rw [s133_219 hn, emB_new h]
theorem t133_221 {f : Hf} {d sz us x0 : Nat} {st : List Value} {a0 : Option Value} {fs : List Value} {L : List PE} {a : Nat} (h : fs.length = 35) : Ev d 133 221 [a0] (.ref a :: .ref x0 :: st) (sz, us, emB f x0 (.inr (10, fs) :: L)) = Ev d 133 224 [a0] st (sz, us, emB f x0 (.inr (10, fs.set 28 (.ref a)) :: L)) := by
  rw [s133_221, emB_get0, pS_99 h, Option.bind_some, emB_set0]
theorem t133_228 {f : Hf} {d us x0 : Nat} {st : List Value} {a0 : Option Value} {n : Nat} {L : List PE} (hn : n ≤ 60000000) (h : L.length = 25) : Ev d 133 228 [a0] (.int (nI n) :: st) (x0 + 25, us, emB f x0 L) = Ev d 133 230 [a0] (.ref (x0 + 25) :: st) (x0 + 26, us + n, emB f x0 (L ++ [zar 0 n])) := by
  rw [s133_228 hn, emB_new h]
theorem t133_230 {f : Hf} {d sz us x0 : Nat} {st : List Value} {a0 : Option Value} {fs : List Value} {L : List PE} {a : Nat} (h : fs.length = 35) : Ev d 133 230 [a0] (.ref a :: .ref x0 :: st) (sz, us, emB f x0 (.inr (10, fs) :: L)) = Ev d 133 233 [a0] st (sz, us, emB f x0 (.inr (10, fs.set 29 (.ref a)) :: L)) := by
  rw [s133_230, emB_get0, pS_102 h, Option.bind_some, emB_set0]
theorem t133_236 {f : Hf} {d us x0 : Nat} {st : List Value} {a0 : Option Value} {n : Nat} {L : List PE} (hn : n ≤ 60000000) (h : L.length = 26) : Ev d 133 236 [a0] (.int (nI n) :: st) (x0 + 26, us, emB f x0 L) = Ev d 133 238 [a0] (.ref (x0 + 26) :: st) (x0 + 27, us + n, emB f x0 (L ++ [zar 0 n])) := by
  rw [s133_236 hn, emB_new h]
theorem t133_238 {f : Hf} {d sz us x0 : Nat} {st : List Value} {a0 : Option Value} {fs : List Value} {L : List PE} {a : Nat} (h : fs.length = 35) : Ev d 133 238 [a0] (.ref a :: .ref x0 :: st) (sz, us, emB f x0 (.inr (10, fs) :: L)) = Ev d 133 241 [a0] st (sz, us, emB f x0 (.inr (10, fs.set 30 (.ref a)) :: L)) := by
  rw [s133_238, emB_get0, pS_105 h, Option.bind_some, emB_set0]
theorem t133_244 {f : Hf} {d us x0 : Nat} {st : List Value} {a0 : Option Value} {n : Nat} {L : List PE} (hn : n ≤ 60000000) (h : L.length = 27) : Ev d 133 244 [a0] (.int (nI n) :: st) (x0 + 27, us, emB f x0 L) = Ev d 133 246 [a0] (.ref (x0 + 27) :: st) (x0 + 28, us + n, emB f x0 (L ++ [zar 0 n])) := by
  rw [s133_244 hn, emB_new h]
theorem t133_246 {f : Hf} {d sz us x0 : Nat} {st : List Value} {a0 : Option Value} {fs : List Value} {L : List PE} {a : Nat} (h : fs.length = 35) : Ev d 133 246 [a0] (.ref a :: .ref x0 :: st) (sz, us, emB f x0 (.inr (10, fs) :: L)) = Ev d 133 249 [a0] st (sz, us, emB f x0 (.inr (10, fs.set 31 (.ref a)) :: L)) := by
  rw [s133_246, emB_get0, pS_108 h, Option.bind_some, emB_set0]
theorem t133_252 {f : Hf} {d us x0 : Nat} {st : List Value} {a0 : Option Value} {n : Nat} {L : List PE} (hn : n ≤ 60000000) (h : L.length = 28) : Ev d 133 252 [a0] (.int (nI n) :: st) (x0 + 28, us, emB f x0 L) = Ev d 133 254 [a0] (.ref (x0 + 28) :: st) (x0 + 29, us + n, emB f x0 (L ++ [zar 0 n])) := by
  rw [s133_252 hn, emB_new h]
theorem t133_254 {f : Hf} {d sz us x0 : Nat} {st : List Value} {a0 : Option Value} {fs : List Value} {L : List PE} {a : Nat} (h : fs.length = 35) : Ev d 133 254 [a0] (.ref a :: .ref x0 :: st) (sz, us, emB f x0 (.inr (10, fs) :: L)) = Ev d 133 257 [a0] st (sz, us, emB f x0 (.inr (10, fs.set 32 (.ref a)) :: L)) := by
  rw [s133_254, emB_get0, pS_111 h, Option.bind_some, emB_set0]
theorem t133_261 {f : Hf} {d us x0 : Nat} {st : List Value} {a0 : Option Value} {n : Nat} {L : List PE} (hn : n ≤ 60000000) (h : L.length = 29) : Ev d 133 261 [a0] (.int (nI n) :: st) (x0 + 29, us, emB f x0 L) = Ev d 133 263 [a0] (.ref (x0 + 29) :: st) (x0 + 30, us + n, emB f x0 (L ++ [zar 0 n])) := by
  rw [s133_261 hn, emB_new h]
theorem t133_263 {f : Hf} {d sz us x0 : Nat} {st : List Value} {a0 : Option Value} {fs : List Value} {L : List PE} {a : Nat} (h : fs.length = 35) : Ev d 133 263 [a0] (.ref a :: .ref x0 :: st) (sz, us, emB f x0 (.inr (10, fs) :: L)) = Ev d 133 266 [a0] st (sz, us, emB f x0 (.inr (10, fs.set 33 (.ref a)) :: L)) := by
  rw [s133_263, emB_get0, pS_114 h, Option.bind_some, emB_set0]
theorem t133_269 {f : Hf} {d us x0 : Nat} {st : List Value} {a0 : Option Value} {n : Nat} {L : List PE} (hn : n ≤ 60000000) (h : L.length = 30) : Ev d 133 269 [a0] (.int (nI n) :: st) (x0 + 30, us, emB f x0 L) = Ev d 133 271 [a0] (.ref (x0 + 30) :: st) (x0 + 31, us + n, emB f x0 (L ++ [zar 0 n])) := by
  rw [s133_269 hn, emB_new h]
theorem t133_271 {f : Hf} {d sz us x0 : Nat} {st : List Value} {a0 : Option Value} {fs : List Value} {L : List PE} {a : Nat} (h : fs.length = 35) : Ev d 133 271 [a0] (.ref a :: .ref x0 :: st) (sz, us, emB f x0 (.inr (10, fs) :: L)) = Ev d 133 274 [a0] st (sz, us, emB f x0 (.inr (10, fs.set 34 (.ref a)) :: L)) := by
  rw [s133_271, emB_get0, pS_117 h, Option.bind_some, emB_set0]
theorem cdf10 : cdf 10 = [.int 0, .int 0, .null, .null, .null, .null, .null, .null, .null, .null, .int 0, .null, .int 0, .null, .null, .null, .null, .null, .null, .null, .null, .null, .null, .null, .null, .null, .null, .int 0, .null, .null, .null, .null, .null, .null, .null] := by rfl
theorem R_init {f : Hf} {m d us : Nat} : Ev (d + 1) 133 0 [some (.ref m)] [] (m + 1, us, hup f m (.inr (10, cdf 10))) = some (none, (m + 31, us + 498388, emR f m wZ yZ)) := by
  rw [emB_one, cdf10]
  simp (maxSteps := 4000000) (disch := first | omega | (simp only [List.length_cons, List.length_nil, Nat.reduceAdd]; done) | (simp (decide := true) only [wid_0, wid_i, wid_l, wid_r, wid_n]; done) | fail) only [s133_0, s133_1, s133_4, s133_5, s133_9, s133_10, s133_14, s133_15, s133_22, s133_23, s133_30, s133_31, s133_38, s133_39, s133_46, s133_47, s133_54, s133_55, s133_63, s133_64, s133_72, s133_73, s133_81, s133_82, s133_86, s133_87, s133_94, s133_95, s133_99, s133_100, s133_107, s133_108, s133_115, s133_116, s133_123, s133_124, s133_131, s133_132, s133_139, s133_140, s133_147, s133_148, s133_155, s133_156, s133_163, s133_164, s133_171, s133_172, s133_179, s133_180, s133_186, s133_187, s133_193, s133_194, s133_202, s133_203, s133_211, s133_212, s133_216, s133_217, s133_224, s133_225, s133_233, s133_234, s133_241, s133_242, s133_249, s133_250, s133_257, s133_258, s133_266, s133_267, s133_274 (st := []), List.cons_append, List.nil_append, List.set_cons_zero, List.set_cons_succ, Nat.add_assoc, Nat.reduceAdd, t133_6, t133_11, t133_17, t133_19, t133_25, t133_27, t133_33, t133_35, t133_41, t133_43, t133_49, t133_51, t133_58, t133_60, t133_67, t133_69, t133_76, t133_78, t133_83 nI01_1, t133_89, t133_91, t133_96, t133_102, t133_104, t133_110, t133_112, t133_118, t133_120, t133_126, t133_128, t133_134, t133_136, t133_142, t133_144, t133_150, t133_152, t133_158, t133_160, t133_166, t133_168, t133_174, t133_176, t133_181, t133_183, t133_188, t133_190, t133_197, t133_199, t133_206, t133_208, t133_213, t133_219, t133_221, t133_228, t133_230, t133_236, t133_238, t133_244, t133_246, t133_252, t133_254, t133_261, t133_263, t133_269, t133_271]
  refine congrArg (fun h => some (none, (m + 31, us + 498388, h))) (emB_emR ?_ (fun k hk => ?_))
  · rfl
  match k, hk with
  | 0, _ => rfl
  | 1, _ => rfl
  | 2, _ => rfl
  | 3, _ => rfl
  | 4, _ => rfl
  | 5, _ => rfl
  | 6, _ => rfl
  | 7, _ => rfl
  | 8, _ => rfl
  | 9, _ => rfl
  | 10, _ => rfl
  | 11, _ => rfl
  | 12, _ => rfl
  | 13, _ => rfl
  | 14, _ => rfl
  | 15, _ => rfl
  | 16, _ => rfl
  | 17, _ => rfl
  | 18, _ => rfl
  | 19, _ => rfl
  | 20, _ => rfl
  | 21, _ => rfl
  | 22, _ => rfl
  | 23, _ => rfl
  | 24, _ => rfl
  | 25, _ => rfl
  | 26, _ => rfl
  | 27, _ => rfl
  | 28, _ => rfl
  | 29, _ => rfl
  | 30, _ => rfl
  | k + 31, h => exact absurd h (by omega)
