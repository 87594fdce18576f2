/-! what a run comes to, as a function: one equation an instruction -/
theorem run_fuel : ∀ (n : Nat) (sp : SP) (scr : SC) (d mi pc : Nat) (ls : LL) (st : List Value) (h : Hp) (r : Option Value × Hp), run sp n scr d mi pc ls st h = some r → run sp (n + 1) scr d mi pc ls st h = some r := by
  intro n
  induction n with
  | zero => intro sp scr d mi pc ls st h r hr; simp [run] at hr
  | succ n ih =>
    intro sp scr d mi pc ls st h r hr
    rw [run] at hr ⊢
    cases hp : prog mi pc with
    | none => simp only [hp] at hr; cases hr
    | some x =>
      obtain ⟨ins, len⟩ := x
      simp only [hp] at hr ⊢
      by_cases hlen : len = ilen ins ∨ isTs ins = true
      · rw [if_pos hlen] at hr ⊢
        cases hv : rti (mtd mi).2.2.2.2 ins st with
        | some v => simp only [hv] at hr ⊢; exact hr
        | none =>
          simp only [hv] at hr ⊢
          cases hc : cli (mtd mi).1 ins st h with
          | some t =>
            obtain ⟨y, as, rest⟩ := t
            simp only [hc] at hr ⊢
            cases d with
            | zero => simp at hr
            | succ d' =>
              simp only at hr ⊢
              by_cases hl : ls.length = (mtd mi).2.2.2.1 ∧ (entL as).length ≤ (mtd y).2.2.2.1
              · rw [if_pos hl] at hr ⊢
                cases hr1 : run sp0 n none d' y 0 (ent (mtd y).2.2.2.1 as) [] h with
                | none => simp only [hr1] at hr; cases hr
                | some t =>
                  obtain ⟨v, h1⟩ := t
                  simp only [hr1] at hr
                  simp only [ih _ _ _ _ _ _ _ _ _ hr1]
                  exact ih _ _ _ _ _ _ _ _ _ hr
              · rw [if_neg hl] at hr; cases hr
          | none =>
            simp only [hc] at hr ⊢
            cases hnt : (ntv (mtd mi).1 ins st h).or (ntc (mtd mi).1 ins st h) with
            | some t =>
              obtain ⟨s1, h1⟩ := t
              simp only [hnt] at hr ⊢
              by_cases hq : d = 0 ∨ ls.length ≠ (mtd mi).2.2.2.1
              · rw [if_pos hq] at hr; cases hr
              · rw [if_neg hq] at hr ⊢; exact ih _ _ _ _ _ _ _ _ _ hr
            | none =>
              simp only [hnt] at hr ⊢
              cases hs : sp mi pc st h with
              | some t =>
                obtain ⟨s1, h1⟩ := t
                simp only [hs] at hr ⊢
                by_cases hq : d = 0 ∨ ls.length ≠ (mtd mi).2.2.2.1
                · rw [if_pos hq] at hr; cases hr
                · rw [if_neg hq] at hr ⊢; exact ih _ _ _ _ _ _ _ _ _ hr
              | none =>
                simp only [hs] at hr ⊢
                cases hn : nx scr (isIn0 mi) (mtd mi).1 ins pc ls st h with
                | none => simp only [hn] at hr; cases hr
                | some t =>
                  obtain ⟨p1, l1, s1, h1⟩ := t
                  simp only [hn] at hr ⊢
                  exact ih _ _ _ _ _ _ _ _ _ hr
      · rw [if_neg hlen] at hr; cases hr
theorem run_le {n n' : Nat} (hle : n ≤ n') {sp : SP} {scr : SC} {d mi pc : Nat} {ls : LL} {st : List Value} {h : Hp} {r : Option Value × Hp} (hr : run sp n scr d mi pc ls st h = some r) : run sp n' scr d mi pc ls st h = some r := by
  induction hle with
  | refl => exact hr
  | step _ ih => exact run_fuel _ _ _ _ _ _ _ _ _ _ ih
noncomputable def EV (sp : SP) (scr : SC) (d mi pc : Nat) (ls : LL) (st : List Value) (h : Hp) : Option (Option Value × Hp) :=
  @dite _ (∃ r, ∃ n, run sp n scr d mi pc ls st h = some r) (Classical.propDecidable _) (fun q => some q.choose) (fun _ => none)
theorem EV_iff {sp : SP} {scr : SC} {d mi pc : Nat} {ls : LL} {st : List Value} {h : Hp} {r : Option Value × Hp} : EV sp scr d mi pc ls st h = some r ↔ ∃ n, run sp n scr d mi pc ls st h = some r := by
  unfold EV
  by_cases q : ∃ r, ∃ n, run sp n scr d mi pc ls st h = some r
  · rw [dif_pos q]
    constructor
    · intro e; cases e; exact q.choose_spec
    · intro ⟨n, hn⟩
      obtain ⟨n', hn'⟩ := q.choose_spec
      have h1 := run_le (Nat.le_max_left n n') hn
      have h2 := run_le (Nat.le_max_right n n') hn'
      rw [h1] at h2
      exact h2.symm
  · rw [dif_neg q]
    constructor
    · intro e; cases e
    · intro ⟨n, hn⟩; exact absurd ⟨r, n, hn⟩ q
theorem EV_ext {sp sp' : SP} {scr scr' : SC} {d mi pc d' mi' pc' : Nat} {ls ls' : LL} {st st' : List Value} {h h' : Hp} (q : ∀ r, (∃ n, run sp n scr d mi pc ls st h = some r) ↔ (∃ n, run sp' n scr' d' mi' pc' ls' st' h' = some r)) : EV sp scr d mi pc ls st h = EV sp' scr' d' mi' pc' ls' st' h' := by
  cases h1 : EV sp' scr' d' mi' pc' ls' st' h' with
  | some r => exact EV_iff.mpr ((q r).mpr (EV_iff.mp h1))
  | none =>
    cases h2 : EV sp scr d mi pc ls st h with
    | none => rfl
    | some r =>
      have := EV_iff.mpr ((q r).mp (EV_iff.mp h2))
      rw [h1] at this; cases this
def isNx : Instr → Bool := fun i => match i with
  | .invokestatic _ => false
  | .invokevirtual _ => false
  | .invokespecial _ => false
  | .return_ => false
  | .ireturn => false
  | .lreturn => false
  | .areturn => false
  | _ => true
theorem isNx_ok {ins : Instr} (h : isNx ins = true) (r : Option FieldType) (oc : Nat) (st : List Value) (hh : Hp) : rti r ins st = none ∧ cli oc ins st hh = none ∧ ntv oc ins st hh = none ∧ ntc oc ins st hh = none := by
  cases ins <;> simp [isNx] at h <;> exact ⟨rfl, rfl, rfl, rfl⟩
/-- an instruction that calls nothing -/
theorem EV_nx {sp : SP} {scr : SC} {d mi pc : Nat} {ls : LL} {st : List Value} {h : Hp} {ins : Instr} {len : Nat} (hp : prog mi pc = some (ins, len)) (hl : (len == ilen ins || isTs ins) = true) (hi : isNx ins = true) (hsp : sp mi pc st h = none) :
    EV sp scr d mi pc ls st h = (match nx scr (isIn0 mi) (mtd mi).1 ins pc ls st h with
      | some (pc', ls', st', h') => EV sp scr d mi pc' ls' st' h'
      | none => none) := by
  obtain ⟨i1, i2, i3, i4⟩ := isNx_ok hi (mtd mi).2.2.2.2 (mtd mi).1 st h
  have hlen : len = ilen ins ∨ isTs ins = true := by simpa using hl
  have step : ∀ n, run sp (n + 1) scr d mi pc ls st h = (match nx scr (isIn0 mi) (mtd mi).1 ins pc ls st h with
      | some (pc', ls', st', h') => run sp n scr d mi pc' ls' st' h'
      | none => none) := by
    intro n
    rw [run]
    simp only [hp, i1, i2, i3, i4, hsp, if_pos hlen, Option.or]
    rfl
  cases hn : nx scr (isIn0 mi) (mtd mi).1 ins pc ls st h with
  | none =>
    cases h2 : EV sp scr d mi pc ls st h with
    | none => rfl
    | some r =>
      obtain ⟨n, hr⟩ := EV_iff.mp h2
      cases n with
      | zero => simp [run] at hr
      | succ n => rw [step n, hn] at hr; cases hr
  | some t =>
    obtain ⟨p1, l1, s1, h1⟩ := t
    refine EV_ext fun r => ⟨fun ⟨n, hr⟩ => ?_, fun ⟨n, hr⟩ => ⟨n + 1, by rw [step n, hn]; exact hr⟩⟩
    cases n with
    | zero => simp [run] at hr
    | succ n => rw [step n, hn] at hr; exact ⟨n, hr⟩
theorem EV_ret {sp : SP} {scr : SC} {d mi pc : Nat} {ls : LL} {st : List Value} {h : Hp} {ins : Instr} {v : Option Value} (hp : prog mi pc = some (ins, 1)) (hl : ilen ins = 1) (hr : rti (mtd mi).2.2.2.2 ins st = some v) : EV sp scr d mi pc ls st h = some (v, h) := by
  refine EV_iff.mpr ⟨1, ?_⟩
  rw [run]
  simp only [hp, hl, hr, true_or, if_true]
def exR (o : Option (Option Value × Hp)) (k : Option Value → Hp → Option (Option Value × Hp)) : Option (Option Value × Hp) := match o with
  | some (v, h) => k v h
  | none => none
theorem EV_call {sp : SP} {scr : SC} {d mi pc y : Nat} {ls : LL} {st as rest : List Value} {h : Hp} {ins : Instr} (hp : prog mi pc = some (ins, 3)) (hi : ilen ins = 3) (hrt : rti (mtd mi).2.2.2.2 ins st = none) (hc : cli (mtd mi).1 ins st h = some (y, as, rest)) (hl : ls.length = (mtd mi).2.2.2.1) (hl2 : (entL as).length ≤ (mtd y).2.2.2.1) :
    EV sp scr (d + 1) mi pc ls st h = exR (EV sp0 none d y 0 (ent (mtd y).2.2.2.1 as) [] h) (fun v h' => EV sp scr (d + 1) mi (pc + 3) ls (v.toList ++ rest) h') := by
  have step : ∀ n, run sp (n + 1) scr (d + 1) mi pc ls st h = (match run sp0 n none d y 0 (ent (mtd y).2.2.2.1 as) [] h with
      | some (v, h') => run sp n scr (d + 1) mi (pc + 3) ls (v.toList ++ rest) h'
      | none => none) := by
    intro n
    rw [run]
    simp only [hp, hi, hrt, hc, hl, true_or, if_true, true_and, if_pos hl2]
    rfl
  cases h1 : EV sp0 none d y 0 (ent (mtd y).2.2.2.1 as) [] h with
  | none =>
    cases h2 : EV sp scr (d + 1) mi pc ls st h with
    | none => rfl
    | some r =>
      obtain ⟨n, hr⟩ := EV_iff.mp h2
      cases n with
      | zero => simp [run] at hr
      | succ n =>
        rw [step n] at hr
        cases h3 : run sp0 n none d y 0 (ent (mtd y).2.2.2.1 as) [] h with
        | none => rw [h3] at hr; cases hr
        | some t => have := EV_iff.mpr ⟨n, h3⟩; rw [h1] at this; cases this
  | some t =>
    obtain ⟨v, h'⟩ := t
    obtain ⟨n1, hn1⟩ := EV_iff.mp h1
    refine EV_ext fun r => ⟨fun ⟨n, hr⟩ => ?_, fun ⟨n, hr⟩ => ⟨max n1 n + 1, ?_⟩⟩
    · cases n with
      | zero => simp [run] at hr
      | succ n =>
        rw [step n] at hr
        cases h3 : run sp0 n none d y 0 (ent (mtd y).2.2.2.1 as) [] h with
        | none => rw [h3] at hr; cases hr
        | some t =>
          have := EV_iff.mpr ⟨n, h3⟩
          rw [h1] at this
          cases this
          rw [h3] at hr
          exact ⟨n, hr⟩
    · rw [step, run_le (Nat.le_max_left n1 n) hn1]
      exact run_le (Nat.le_max_right n1 n) hr
theorem EV_nat {sp : SP} {scr : SC} {d mi pc : Nat} {ls : LL} {st st' : List Value} {h h' : Hp} {ins : Instr} (hp : prog mi pc = some (ins, 3)) (hi : ilen ins = 3) (hrt : rti (mtd mi).2.2.2.2 ins st = none) (hc : cli (mtd mi).1 ins st h = none) (hn : (ntv (mtd mi).1 ins st h).or (ntc (mtd mi).1 ins st h) = some (st', h')) (hl : ls.length = (mtd mi).2.2.2.1) :
    EV sp scr (d + 1) mi pc ls st h = EV sp scr (d + 1) mi (pc + 3) ls st' h' := by
  have step : ∀ n, run sp (n + 1) scr (d + 1) mi pc ls st h = run sp n scr (d + 1) mi (pc + 3) ls st' h' := by
    intro n
    rw [run]
    simp only [hp, hi, hrt, hc, hn, hl, true_or, if_true]
    simp
  refine EV_ext fun r => ⟨fun ⟨n, hr⟩ => ?_, fun ⟨n, hr⟩ => ⟨n + 1, by rw [step n]; exact hr⟩⟩
  cases n with
  | zero => simp [run] at hr
  | succ n => rw [step n] at hr; exact ⟨n, hr⟩
theorem EV_sp {sp : SP} {scr : SC} {d mi pc : Nat} {ls : LL} {st st' : List Value} {h h' : Hp} {ins : Instr} (hp : prog mi pc = some (ins, 3)) (hi : ilen ins = 3) (hrt : rti (mtd mi).2.2.2.2 ins st = none) (hc : cli (mtd mi).1 ins st h = none) (hn : (ntv (mtd mi).1 ins st h).or (ntc (mtd mi).1 ins st h) = none) (hs : sp mi pc st h = some (st', h')) (hl : ls.length = (mtd mi).2.2.2.1) :
    EV sp scr (d + 1) mi pc ls st h = EV sp scr (d + 1) mi (pc + 3) ls st' h' := by
  have step : ∀ n, run sp (n + 1) scr (d + 1) mi pc ls st h = run sp n scr (d + 1) mi (pc + 3) ls st' h' := by
    intro n
    rw [run]
    simp only [hp, hi, hrt, hc, hn, hs, hl, true_or, if_true]
    simp
  refine EV_ext fun r => ⟨fun ⟨n, hr⟩ => ?_, fun ⟨n, hr⟩ => ⟨n + 1, by rw [step n]; exact hr⟩⟩
  cases n with
  | zero => simp [run] at hr
  | succ n => rw [step n] at hr; exact ⟨n, hr⟩
