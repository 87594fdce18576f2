/-! the whole run -/
theorem nx_mono {scr : SC} {ini : Bool} {oc : Nat} {ins : Instr} {pc pc' : Nat} {ls ls' : LL} {st st' : List Value} {h h' : Hp} (hn : nx scr ini oc ins pc ls st h = some (pc', ls', st', h')) : h.1 ≤ h'.1 ∧ h.2.1 ≤ h'.2.1 := by
  cases ins <;> simp only [nx, ld1, st1] at hn <;> (repeat' split at hn) <;> first | (cases hn; done) | (simp only [Option.some.injEq, Prod.mk.injEq] at hn; obtain ⟨-, -, -, rfl⟩ := hn; first | exact ⟨Nat.le_refl _, Nat.le_refl _⟩ | exact ⟨Nat.le_succ _, Nat.le_add_right _ _⟩)
theorem ntv_same {oc : Nat} {ins : Instr} {st st' : List Value} {h h' : Hp} (hn : ntv oc ins st h = some (st', h')) : h'.1 = h.1 ∧ h'.2.1 = h.2.1 := by
  cases ins <;> simp only [ntv] at hn <;> (repeat' split at hn) <;> first | (cases hn; done) | (simp only [Option.some.injEq, Prod.mk.injEq] at hn; obtain ⟨-, rfl⟩ := hn; exact ⟨rfl, rfl⟩)
theorem ntc_same {oc : Nat} {ins : Instr} {st st' : List Value} {h h' : Hp} (hn : ntc oc ins st h = some (st', h')) : h'.1 = h.1 ∧ h'.2.1 = h.2.1 := by
  cases ins <;> simp only [ntc] at hn <;> (repeat' split at hn) <;> first | (cases hn; done) | (simp only [Option.some.injEq, Prod.mk.injEq] at hn; obtain ⟨-, rfl⟩ := hn; exact ⟨rfl, rfl⟩)
def spM (sp : SP) : Prop := ∀ mi pc st h st' h', sp mi pc st h = some (st', h') → h.1 ≤ h'.1 ∧ h.2.1 ≤ h'.2.1
theorem sp0M : spM sp0 := fun _ _ _ _ _ _ h => by cases h
theorem run_mono : ∀ (n : Nat) (sp : SP), spM sp → ∀ (scr : SC) (d mi pc : Nat) (ls : LL) (st : List Value) (h : Hp) (v : Option Value) (h' : Hp), run sp n scr d mi pc ls st h = some (v, h') → h.1 ≤ h'.1 ∧ h.2.1 ≤ h'.2.1 := by
  intro n
  induction n with
  | zero => intro sp hsp scr d mi pc ls st h v h' hr; simp [run] at hr
  | succ n ih =>
    intro sp hsp scr d mi pc ls st h v h' hr
    simp only [run] at hr
    split at hr
    · cases hr
    · split at hr
      · split at hr
        · cases hr; exact ⟨Nat.le_refl _, Nat.le_refl _⟩
        · split at hr
          · split at hr
            · cases hr
            · split at hr
              · split at hr
                · rename_i hr1
                  have h1 := ih _ sp0M _ _ _ _ _ _ _ _ _ hr1
                  have h2 := ih _ hsp _ _ _ _ _ _ _ _ _ hr
                  omega
                · cases hr
              · cases hr
          · split at hr
            · rename_i hnt
              split at hr
              · cases hr
              · have h2 := ih _ hsp _ _ _ _ _ _ _ _ _ hr
                rw [Option.or_eq_some_iff] at hnt
                rcases hnt with hnt | ⟨-, hnt⟩
                · have := ntv_same hnt; omega
                · have := ntc_same hnt; omega
            · split at hr
              · rename_i hsp1
                split at hr
                · cases hr
                · have h1 := hsp _ _ _ _ _ _ hsp1
                  have h2 := ih _ hsp _ _ _ _ _ _ _ _ _ hr
                  omega
              · split at hr
                · rename_i hnx
                  have h1 := nx_mono hnx
                  have h2 := ih _ hsp _ _ _ _ _ _ _ _ _ hr
                  omega
                · cases hr
      · cases hr
/-- at a method's return instruction -/
def AtRet (cc : ByteArray) (ret : Option FieldType) (pc : Nat) (st : List Value) (v : Option Value) : Prop := ∃ ins, decode cc pc = .ok (ins, 1) ∧ rti ret ins st = some v
theorem prog_ok {mi pc : Nat} {x : Instr × Nat} (h : prog mi pc = some x) : decode (mtd mi).2.2.1 pc = .ok x := by
  unfold prog at h
  split at h
  · rename_i y hy; cases h; exact hy
  · cases h
section MAIN
variable {p : Program} {l : Launch} {e : Env} {R : Room} {s : State} {m : MethodId} {args : Array Value} {below : List Frame} {meth : Method} {c : Code} {Q : State → Prop}
variable {D : va_G} {cA : Nat → ClassId} {n0 : Nat} {H0 : Heap}
/-- what a method's run says of it -/
def RunMet (l : Launch) (D : va_G) (cA : Nat → ClassId) (n0 n : Nat) : Prop := ∀ (d y : Nat) (as : List Value) (h : Hp) (v : Option Value) (h' : Hp), y < 202 → (entL as).length ≤ (mtd y).2.2.2.1 → run sp0 n none d y 0 (ent (mtd y).2.2.2.1 as) [] h = some (v, h') →
  Met l (mtd y).2.1 (wM y) (rM d (h'.1 - h.1) (h'.2.1 - h.2.1)) (PcM as h D cA n0) (QcM v h' D cA n0) (h'.1 - h.1) (h'.2.1 - h.2.1) (AN n0)
/-- what single instructions of their own answer is so -/
def SpOk (p : Program) (l : Launch) (e : Env) (R : Room) (s : State) (m : MethodId) (args : Array Value) (below : List Frame) (meth : Method) (c : Code) (Q : State → Prop) (D : va_G) (cA : Nat → ClassId) (n0 : Nat) (H0 : Heap) (sp : SP) : Prop := ∀ mi pc st h st' h', sp mi pc st h = some (st', h') →
  ∀ (cells slots : Nat) (H : Heap) (locs : List Loc) (la : Array Slot), c.maxLocals = la.size → DY D cA n0 H0 h H locs → cells + (h'.1 - h.1) ≤ R.cells → slots + (h'.2.1 - h.2.1) ≤ R.slots →
    (∀ H1 locs1, DY D cA n0 H0 h' H1 locs1 → W p l e R s m args below meth c H1 locs1 (cells + (h'.1 - h.1)) (slots + (h'.2.1 - h.2.1)) Q (F0 m (pc + 3) la st')) →
    W p l e R s m args below meth c H locs cells slots Q (F0 m pc la st)
theorem run_in (n : Nat) (hM : ∀ n', n' < n → RunMet l D cA n0 n') (sp : SP) (hspM : spM sp) (hsp : SpOk p l e R s m args below meth c Q D cA n0 H0 sp) : ∀ (n1 : Nat), n1 ≤ n → ∀ (scr : SC) (d mi pc : Nat) (ls : LL) (st : List Value) (h : Hp) (v : Option Value) (h' : Hp), run sp n1 scr d mi pc ls st h = some (v, h') →
    CX p s m args meth c (mtd mi).2.2.1 (mtd mi).1 (isIn0 mi) D cA n0 H0 → SCk n0 s H0 scr → c.maxLocals = (mtd mi).2.2.2.1 → d ≤ R.frames → 40 * d ≤ R.locals →
    ∀ (cells slots : Nat) (H : Heap) (locs : List Loc) (la : Array Slot), LR la ls → DY D cA n0 H0 h H locs → cells + (h'.1 - h.1) ≤ R.cells → slots + (h'.2.1 - h.2.1) ≤ R.slots →
    (∀ H1 locs1 la1 pc1 st1, AtRet (mtd mi).2.2.1 (mtd mi).2.2.2.2 pc1 st1 v → DY D cA n0 H0 h' H1 locs1 → W p l e R s m args below meth c H1 locs1 (cells + (h'.1 - h.1)) (slots + (h'.2.1 - h.2.1)) Q (F0 m pc1 la1 st1)) →
    W p l e R s m args below meth c H locs cells slots Q (F0 m pc la st) := by
  intro n1
  induction n1 with
  | zero => intro _ scr d mi pc ls st h v h' hr; simp [run] at hr
  | succ n1 ih =>
    intro hle scr d mi pc ls st h v h' hr C hscr hml hd1 hd2 cells slots H locs la hl Y hc hs k
    simp only [run] at hr
    split at hr
    · cases hr
    · rename_i ins len hp
      have hdec := prog_ok hp
      split at hr
      · rename_i hlen
        split at hr
        · rename_i v1 hv
          cases hr
          have hlen1 : len = 1 := by
            rcases hlen with h1 | h1
            · cases ins <;> simp [rti] at hv <;> exact h1
            · cases ins <;> simp [rti] at hv <;> simp [isTs] at h1
          subst hlen1
          have := k H locs la pc st ⟨ins, hdec, hv⟩ Y
          simpa only [Nat.sub_self, Nat.add_zero] using this
        · split at hr
          · rename_i y as rest hcl
            have hlen3 : len = ilen ins := by
              rcases hlen with h1 | h1
              · exact h1
              · cases ins <;> simp [cli] at hcl <;> simp [isTs] at h1
            subst hlen3
            have hi3 : ilen ins = 3 := by cases ins <;> simp [cli] at hcl <;> rfl
            split at hr
            · cases hr
            · rename_i d'
              split at hr
              · rename_i hlens
                split at hr
                · rename_i v1 h1 hr1
                  have m1 := run_mono _ _ sp0M _ _ _ _ _ _ _ _ _ hr1
                  have m2 := run_mono _ _ hspM _ _ _ _ _ _ _ _ _ hr
                  have hR1 : d' + 1 ≤ R.frames ∧ 40 * (d' + 1) ≤ R.locals := ⟨hd1, hd2⟩
                  have hml2 : c.maxLocals = la.size := by rw [hl.size, hlens.1, hml]
                  have hrun := cli_run (e := e) (R := R) (below := below) (pc := pc) (la := la) (cells := cells) (slots := slots) (d := d') (mc := h1.1 - h.1) (ms := h1.2.1 - h.2.1) (v := v1) (h' := h1) hcl hdec C hml2 Y (fun hy => hM n1 hle d' y as h v1 h1 hy hlens.2 hr1) hR1 ⟨by omega, by omega⟩
                  refine run_call hrun C.2.2.2.2.2.2.1 Y (fun H1 locs1 Y1 => ?_)
                  refine ih (by omega) scr (d' + 1) mi (pc + 3) ls (v1.toList ++ rest) h1 v h' hr C hscr hml hd1 hd2 _ _ H1 locs1 la hl Y1 (by omega) (by omega) (fun H2 locs2 la2 pc2 st2 hret Y2 => ?_)
                  have := k H2 locs2 la2 pc2 st2 hret Y2
                  rw [show cells + (h1.1 - h.1) + (h'.1 - h1.1) = cells + (h'.1 - h.1) by omega, show slots + (h1.2.1 - h.2.1) + (h'.2.1 - h1.2.1) = slots + (h'.2.1 - h.2.1) by omega]
                  exact this
                · cases hr
              · cases hr
          · split at hr
            · rename_i st1 h1 hnt
              split at hr
              · cases hr
              · rename_i hcd
                have hd0 : 1 ≤ d := by omega
                have hml2 : c.maxLocals = la.size := by rw [hl.size, hml]; omega
                have hR1 : 1 ≤ R.frames ∧ 40 ≤ R.locals := ⟨by omega, by omega⟩
                have hlen3 : len = ilen ins := by
                  rcases hlen with h2 | h2
                  · exact h2
                  · rw [Option.or_eq_some_iff] at hnt
                    rcases hnt with hnt | ⟨-, hnt⟩
                    · cases ins <;> simp [ntv] at hnt <;> simp [isTs] at h2
                    · cases ins <;> simp [ntc] at hnt <;> simp [isTs] at h2
                subst hlen3
                have hsame : h1.1 = h.1 ∧ h1.2.1 = h.2.1 := by
                  rw [Option.or_eq_some_iff] at hnt
                  rcases hnt with hnt | ⟨-, hnt⟩
                  · exact ntv_same hnt
                  · exact ntc_same hnt
                have go : ∀ H1 locs1, DY D cA n0 H0 h1 H1 locs1 → W p l e R s m args below meth c H1 locs1 cells slots Q (F0 m (pc + 3) la st1) := by
                  intro H1 locs1 Y1
                  refine ih (by omega) scr d mi (pc + 3) ls st1 h1 v h' hr C hscr hml hd1 hd2 _ _ H1 locs1 la hl Y1 (by omega) (by omega) (fun H2 locs2 la2 pc2 st2 hret Y2 => ?_)
                  have := k H2 locs2 la2 pc2 st2 hret Y2
                  rw [hsame.1, hsame.2]
                  exact this
                rw [Option.or_eq_some_iff] at hnt
                rcases hnt with hnt | ⟨-, hnt⟩
                · exact snd_ntv hnt hdec C hml2 Y hR1 ⟨by omega, by omega⟩ go
                · exact snd_ntc hnt hdec C hml2 Y hR1 go
            · split at hr
              · rename_i st1 h1 hs1
                split at hr
                · cases hr
                · rename_i hcd
                  have hml2 : c.maxLocals = la.size := by rw [hl.size, hml]; omega
                  have m1 := hspM _ _ _ _ _ _ hs1
                  have m2 := run_mono _ _ hspM _ _ _ _ _ _ _ _ _ hr
                  refine hsp _ _ _ _ _ _ hs1 cells slots H locs la hml2 Y (by omega) (by omega) (fun H1 locs1 Y1 => ?_)
                  refine ih (by omega) scr d mi (pc + 3) ls st1 h1 v h' hr C hscr hml hd1 hd2 _ _ H1 locs1 la hl Y1 (by omega) (by omega) (fun H2 locs2 la2 pc2 st2 hret Y2 => ?_)
                  have := k H2 locs2 la2 pc2 st2 hret Y2
                  rw [show cells + (h1.1 - h.1) + (h'.1 - h1.1) = cells + (h'.1 - h.1) by omega, show slots + (h1.2.1 - h.2.1) + (h'.2.1 - h1.2.1) = slots + (h'.2.1 - h.2.1) by omega]
                  exact this
              split at hr
              · rename_i pc1 ls1 st1 h1 hnx
                have m1 := nx_mono hnx
                have m2 := run_mono _ _ hspM _ _ _ _ _ _ _ _ _ hr
                refine nx_snd hnx hdec hlen C hscr hl Y (by omega) (by omega) (fun H1 locs1 la1 hl1 Y1 => ?_)
                refine ih (by omega) scr d mi pc1 ls1 st1 h1 v h' hr C hscr hml hd1 hd2 _ _ H1 locs1 la1 hl1 Y1 (by omega) (by omega) (fun H2 locs2 la2 pc2 st2 hret Y2 => ?_)
                have := k H2 locs2 la2 pc2 st2 hret Y2
                rw [show cells + (h1.1 - h.1) + (h'.1 - h1.1) = cells + (h'.1 - h.1) by omega, show slots + (h1.2.1 - h.2.1) + (h'.2.1 - h1.2.1) = slots + (h'.2.1 - h.2.1) by omega]
                exact this
              · cases hr
      · cases hr
theorem runMet (l : Launch) (D : va_G) (cA : Nat → ClassId) (n0 : Nat) : ∀ n, RunMet l D cA n0 n := by
  intro n
  induction n using Nat.strongRecOn with
  | _ n ihn =>
    intro d y as h v h' hy hlen hr
    obtain ⟨k1, k2, k3, k4, k5, k6⟩ := mtd_ok y hy
    refine Met.ofW (cc := (mtd y).2.2.1) (maxL := (mtd y).2.2.2.1) (ret := (mtd y).2.2.2.2) k2 rfl ?_
    intro p e s m args below meth c s₁ B hml hv
    obtain ⟨rfl, ⟨hz, hH, hlo, hn0⟩, hK, hN⟩ := hv
    have hx := B.exec
    have hb := B.bytes
    have hr' := B.returns
    have hts := atoms_spec (ws := wM y) B.pre
    have hown : s.vm.findClass (mtd y).2.1.cls = some m.cls := findClass_of_methodNamed B.named
    have hlocks := B.notSynchronized
    have hname := (name_of_methodNamed B.named B.method).1
    have C : CX p s m as.toArray meth c (mtd y).2.2.1 (mtd y).1 (isIn0 y) D cA n0 s.heap := ⟨hx, hb, by rw [← k5]; exact hown, fun w hw => hts w (List.mem_cons_of_mem _ hw), hK, hN, hn0, fun q => by
      unfold isIn0 at q
      rw [hname]
      simpa using q⟩
    have Y : DY D cA n0 s.heap h s.heap [] := ⟨hz, hH, va_S.rf, hlo⟩
    rw [lg_entry_eq]
    refine run_in n ihn sp0 sp0M (fun _ _ _ _ _ _ h => by cases h) n (Nat.le_refl n) none d y 0 _ [] h v h' hr C (fun q hq => by cases hq) hml (Nat.le_refl d) (Nat.le_refl (40 * d)) 0 0 s.heap [] _ (ent_LR hlen) Y (by rw [Nat.zero_add]; exact Nat.le_refl _) (by rw [Nat.zero_add]; exact Nat.le_refl _) ?_
    intro H1 locs1 la1 pc1 st1 hret Y1
    rw [Nat.zero_add, Nat.zero_add]
    obtain ⟨ins, hdec, hrti⟩ := hret
    have hq : ∀ (t : State), t.heap = H1 → QcM v h' D cA n0 as.toArray s (.returned v) t := fun t ht => ⟨rfl, ⟨by rw [ht]; exact Y1.1, by rw [ht]; exact Y1.2.1, Y1.2.2.2⟩, Y1.2.2.1.F ht⟩
    have hf : ∀ q ∈ locs1, AN n0 q.base := Y1.2.2.1.2.2
    cases ins <;> simp only [rti] at hrti <;> first | (cases hrti; done) | skip
    · split at hrti
      · split at hrti
        · rename_i hret2
          cases hrti
          exact W.aret hx hb (by rw [hr']; exact hret2) (Or.inl ⟨_, rfl⟩) (Or.inr ⟨_, rfl⟩) (fun t ht hW => hq t ht) hf hdec
        · rename_i hret2
          cases hrti
          exact W.aret hx hb (by rw [hr']; exact hret2) (Or.inr ⟨_, rfl⟩) (Or.inr ⟨_, rfl⟩) (fun t ht hW => hq t ht) hf hdec
        · cases hrti
      · cases hrti
    · split at hrti
      · split at hrti
        · rename_i hret2
          cases hrti
          rcases hret2 with hret2 | ⟨hret2, hx01⟩
          · exact W.iret hx hb (by rw [hr']; exact hret2) (fun t ht hW => hq t ht) hf hdec
          · exact W.zret hx hb (ty := .boolean) (by rw [hr']; exact hret2) (by rcases hx01 with rfl | rfl <;> rfl) (fun t ht hW => hq t ht) hf hdec
        · cases hrti
      · cases hrti
    · split at hrti
      · split at hrti
        · rename_i hret2
          cases hrti
          exact W.lret hx hb (by rw [hr']; exact hret2) (fun t ht hW => hq t ht) hf hdec
        · cases hrti
      · cases hrti
    · split at hrti
      · split at hrti
        · rename_i hret2
          cases hrti
          exact W.vret hx hb (by rw [hr']; exact hret2) (fun t ht hW => hq t ht) hf hdec
        · cases hrti
      · cases hrti
end MAIN
