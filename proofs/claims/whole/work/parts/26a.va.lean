/-! what the law's three special calls answer, as an oracle -/
def RelL (pc : Nat) (st : List Value) (h : Hp) (r : List Value × Hp) : Prop :=
  (pc = 526 ∧ ∃ x a b o q, st = [.ref o, .int b, .int a, .ref x] ∧ RdR h x o a b q ∧ r = ([.int q.1], q.2)) ∨
  (pc = 1416 ∧ ∃ x a b o q, st = [.ref o, .int b, .int a, .ref x] ∧ ElR h x o a b q ∧ r = ([.int q.1], q.2)) ∨
  (pc = 1574 ∧ ∃ x a q, st = [.int a, .ref x] ∧ TsR h x a q ∧ r = ([.int q.1], q.2))
theorem bI_ij {a b : Bool} (h : bI a = bI b) : a = b := by
  cases a <;> cases b <;> first | rfl | exact absurd h (by decide)
theorem RdR.fn {h : Hp} {x o : Nat} {a b : Int32} {r r' : Int32 × Hp} (h1 : RdR h x o a b r) (h2 : RdR h x o a b r') : r = r' := by
  obtain ⟨-, n, hS, C⟩ := h1
  obtain ⟨-, n', hS', C'⟩ := h2
  have hn : ∀ q, vI q n = vI q n' := fun q => by
    have := (hS q).symm.trans (hS' q)
    simp only [Option.some.injEq, Prod.mk.injEq, Value.int.injEq, and_true] at this
    exact bI_ij this
  rw [← hn, ← hn] at C'
  rcases C with ⟨c1, e1⟩ | ⟨c1, p, z, h2, e', p1, p2, p3, p4, p5, p6, e1⟩ <;> rcases C' with ⟨c2, e2⟩ | ⟨c2, p', z', h2', e'', q1, q2, q3, q4, q5, q6, e2⟩
  · rw [e1, e2]
  · rw [c1] at c2; cases c2
  · rw [c1] at c2; cases c2
  · have := p1.symm.trans q1
    simp only [Option.some.injEq, Value.ref.injEq] at this
    subst this
    have := p3.symm.trans q3
    simp only [Option.some.injEq, Prod.mk.injEq, Value.long.injEq] at this
    obtain ⟨g1, g2⟩ := this
    subst g1; subst g2
    have := p6.symm.trans q6
    simp only [Option.some.injEq] at this
    subst this
    rw [e1, e2]
theorem ElR.fn {h : Hp} {x o : Nat} {a b : Int32} {r r' : Int32 × Hp} (h1 : ElR h x o a b r) (h2 : ElR h x o a b r') : r = r' := by
  obtain ⟨-, C⟩ := h1
  obtain ⟨-, C'⟩ := h2
  rcases C with ⟨c1, e1⟩ | ⟨c1, ra, q, zs, p1, p2, p3, p4, C⟩ <;> rcases C' with ⟨c2, e2⟩ | ⟨c2, ra', q', zs', q1, q2, q3, q4, C'⟩
  · rw [e1, e2]
  · rw [c1] at c2; cases c2
  · rw [c1] at c2; cases c2
  · have := p1.symm.trans q1
    simp only [Option.some.injEq, Value.ref.injEq] at this
    subst this
    have := p2.symm.trans q2
    simp only [Option.some.injEq] at this
    subst this
    have := p4.symm.trans q4
    simp only [Option.some.injEq, Prod.mk.injEq, Value.int.injEq, and_true] at this
    subst this
    rcases C with ⟨d1, e1⟩ | ⟨d1, z, e', d2, d3, e1⟩ <;> rcases C' with ⟨f1, e2⟩ | ⟨f1, z', e'', f2, f3, e2⟩
    · rw [e1, e2]
    · have := d1.symm.trans f1
      simp only [Option.some.injEq, Prod.mk.injEq, Value.int.injEq, and_true] at this
      exact absurd (bI_ij this) (by decide)
    · have := d1.symm.trans f1
      simp only [Option.some.injEq, Prod.mk.injEq, Value.int.injEq, and_true] at this
      exact absurd (bI_ij this) (by decide)
    · have := d2.symm.trans f2
      simp only [Option.some.injEq, Prod.mk.injEq, Value.long.injEq, and_true] at this
      subst this
      have := d3.symm.trans f3
      simp only [Option.some.injEq] at this
      subst this
      rw [e1, e2]
theorem TsR.fn {h : Hp} {x : Nat} {a : Int32} {r r' : Int32 × Hp} (h1 : TsR h x a r) (h2 : TsR h x a r') : r = r' := by
  obtain ⟨-, C⟩ := h1
  obtain ⟨-, C'⟩ := h2
  rcases C with ⟨z, c1, c2, e1⟩ | ⟨ra, q, t, p1, p2, p3, p4, C⟩ <;> rcases C' with ⟨z', c3, c4, e2⟩ | ⟨ra', q', t', q1, q2, q3, q4, C'⟩
  · have := c1.symm.trans c3
    simp only [Option.some.injEq, Prod.mk.injEq, Value.int.injEq, and_true] at this
    subst this
    rw [e1, e2]
  · have := c1.symm.trans q1
    simp only [Option.some.injEq, Prod.mk.injEq, Value.int.injEq, and_true] at this
    exact absurd this c2
  · have := p1.symm.trans c3
    simp only [Option.some.injEq, Prod.mk.injEq, Value.int.injEq, and_true] at this
    exact absurd this.symm c4
  · have := p2.symm.trans q2
    simp only [Option.some.injEq, Value.ref.injEq] at this
    subst this
    have := p3.symm.trans q3
    simp only [Option.some.injEq] at this
    subst this
    have := p4.symm.trans q4
    simp only [Option.some.injEq, Value.ref.injEq] at this
    subst this
    rcases C with ⟨d1, e1⟩ | ⟨ci, fs, z, d1, d2, d3, e1⟩ <;> rcases C' with ⟨f1, e2⟩ | ⟨ci', fs', z', f1, f2, f3, e2⟩
    · rw [e1, e2]
    · rw [f2] at d1
      simp only [cob, Option.some.injEq] at d1
      omega
    · rw [d2] at f1
      simp only [cob, Option.some.injEq] at f1
      omega
    · have := d3.symm.trans f3
      simp only [Option.some.injEq, Value.int.injEq] at this
      subst this
      rw [e1, e2]
theorem RelL.fn {pc : Nat} {st : List Value} {h : Hp} {r r' : List Value × Hp} (h1 : RelL pc st h r) (h2 : RelL pc st h r') : r = r' := by
  rcases h1 with ⟨p1, x, a, b, o, q, e1, r1, s1⟩ | ⟨p1, x, a, b, o, q, e1, r1, s1⟩ | ⟨p1, x, a, q, e1, r1, s1⟩ <;> rcases h2 with ⟨p2, x', a', b', o', q', e2, r2, s2⟩ | ⟨p2, x', a', b', o', q', e2, r2, s2⟩ | ⟨p2, x', a', q', e2, r2, s2⟩ <;> first | (exfalso; omega) | skip
  · have := e1.symm.trans e2
    simp only [List.cons.injEq, Value.ref.injEq, Value.int.injEq, and_true] at this
    obtain ⟨g1, g2, g3, g4⟩ := this
    subst g1; subst g2; subst g3; subst g4
    rw [s1, s2, r1.fn r2]
  · have := e1.symm.trans e2
    simp only [List.cons.injEq, Value.ref.injEq, Value.int.injEq, and_true] at this
    obtain ⟨g1, g2, g3, g4⟩ := this
    subst g1; subst g2; subst g3; subst g4
    rw [s1, s2, r1.fn r2]
  · have := e1.symm.trans e2
    simp only [List.cons.injEq, Value.ref.injEq, Value.int.injEq, and_true] at this
    obtain ⟨g1, g2⟩ := this
    subst g1; subst g2
    rw [s1, s2, r1.fn r2]
noncomputable def spL : SP := fun mi pc st h => @dite _ (mi = 202 ∧ ∃ r, RelL pc st h r) (Classical.propDecidable _) (fun q => some (Classical.choose q.2)) (fun _ => none)
theorem spL_some {pc : Nat} {st : List Value} {h : Hp} {r : List Value × Hp} (hr : RelL pc st h r) : spL 202 pc st h = some r := by
  unfold spL
  have q : (202 : Nat) = 202 ∧ ∃ r, RelL pc st h r := ⟨rfl, r, hr⟩
  rw [dif_pos q]
  exact congrArg some ((Classical.choose_spec q.2).fn hr)
theorem spL_rel {mi pc : Nat} {st : List Value} {h : Hp} {r : List Value × Hp} (hr : spL mi pc st h = some r) : mi = 202 ∧ RelL pc st h r := by
  unfold spL at hr
  by_cases q : mi = 202 ∧ ∃ r, RelL pc st h r
  · rw [dif_pos q] at hr
    rw [← Option.some.inj hr]
    exact ⟨q.1, Classical.choose_spec q.2⟩
  · rw [dif_neg q] at hr
    cases hr
theorem spL_none {mi pc : Nat} {st : List Value} {h : Hp} (hp : (pc == 526 || (pc == 1416 || pc == 1574)) = false) : spL mi pc st h = none := by
  cases hs : spL mi pc st h with
  | none => rfl
  | some r =>
    obtain ⟨-, hr⟩ := spL_rel hs
    rcases hr with ⟨rfl, -⟩ | ⟨rfl, -⟩ | ⟨rfl, -⟩ <;> cases hp
theorem RdR.mono {h : Hp} {x o : Nat} {a b : Int32} {r : Int32 × Hp} (h1 : RdR h x o a b r) : h.1 ≤ r.2.1 ∧ h.2.1 ≤ r.2.2.1 := by
  obtain ⟨-, n, hS, ⟨c1, e1⟩ | ⟨c1, p, z, h2, e', p1, p2, p3, p4, p5, p6, e1⟩⟩ := h1
  · rw [e1]; exact ⟨Nat.le_succ _, Nat.le_add_right _ _⟩
  · rw [e1]; exact ⟨Nat.le_of_eq p4.symm, Nat.le_of_eq p5.symm⟩
theorem ElR.mono {h : Hp} {x o : Nat} {a b : Int32} {r : Int32 × Hp} (h1 : ElR h x o a b r) : h.1 ≤ r.2.1 ∧ h.2.1 ≤ r.2.2.1 := by
  obtain ⟨-, ⟨c1, e1⟩ | ⟨c1, ra, q, zs, p1, p2, p3, p4, ⟨d1, e1⟩ | ⟨d1, z, e', d2, d3, e1⟩⟩⟩ := h1
  · rw [e1]; exact ⟨Nat.le_succ _, Nat.le_add_right _ _⟩
  · rw [e1]; exact ⟨Nat.le_succ _, Nat.le_add_right _ _⟩
  · rw [e1]; exact ⟨Nat.le_refl _, Nat.le_refl _⟩
theorem TsR.mono {h : Hp} {x : Nat} {a : Int32} {r : Int32 × Hp} (h1 : TsR h x a r) : h.1 ≤ r.2.1 ∧ h.2.1 ≤ r.2.2.1 := by
  obtain ⟨-, ⟨z, c1, c2, e1⟩ | ⟨ra, q, t, p1, p2, p3, p4, ⟨d1, e1⟩ | ⟨ci, fs, z, d1, d2, d3, e1⟩⟩⟩ := h1
  · rw [e1]; exact ⟨Nat.le_refl _, Nat.le_refl _⟩
  · rw [e1]; exact ⟨Nat.le_refl _, Nat.le_refl _⟩
  · rw [e1]; exact ⟨Nat.le_succ _, Nat.le_add_right _ _⟩
theorem spLM : spM spL := by
  intro mi pc st h st' h' hs
  obtain ⟨-, hr⟩ := spL_rel hs
  rcases hr with ⟨-, x, a, b, o, q, -, r1, s1⟩ | ⟨-, x, a, b, o, q, -, r1, s1⟩ | ⟨-, x, a, q, -, r1, s1⟩
  · cases s1; exact r1.mono
  · cases s1; exact r1.mono
  · cases s1; exact r1.mono
