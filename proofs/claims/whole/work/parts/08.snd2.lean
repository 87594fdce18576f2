section SN2
variable {p : Program} {l : Launch} {e : Env} {R : Room} {s : State} {m : MethodId} {args : Array Value} {below : List Frame} {meth : Method} {c : Code} {H : Heap} {locs : List Loc} {cells slots : Nat} {Q : State → Prop}
variable {cc : ByteArray} {pc : Nat} {la : Array Slot} {D : va_G} {cA : Nat → ClassId} {n0 : Nat} {H0 : Heap} {h h' : Hp} {oc : Nat} {ini : Bool} {ls ls' : LL} {st st' : List Value} {pc' : Nat}
theorem snd_put {i a : Nat} {v : Value} {pe : PE} {r : List Value} (C : CX p s m args meth c cc oc ini D cA n0 H0) (Y : DY D cA n0 H0 h H locs) (hg : pfl ini oc i (h.2.2 a) v = some pe) (hd : decode cc pc = .ok (.putfield i, 3))
    (k : ∀ H1 locs1, DY D cA n0 H0 (h.1, h.2.1, hup h.2.2 a pe) H1 locs1 → W p l e R s m args below meth c H1 locs1 cells slots Q (F0 m (pc + 3) la r)) : W p l e R s m args below meth c H locs cells slots Q (F0 m pc la (v :: .ref a :: r)) := by
  obtain ⟨hx, hb, hown, hts, hK, hN, hn0, hini⟩ := C
  unfold pfl at hg
  split at hg
  · rename_i ci fs hc
    split at hg
    · rename_i kk hk
      obtain ⟨⟨a1, a2, a3, a4, ref, host⟩, ⟨g1, g2, g3, g4⟩, q1, q2, q3, q4⟩ := fsl_ok hk
      dsimp only at q1 q2 q3 q4 g1 g2 g3 g4
      subst q1; subst q2; subst q3; subst q4
      split at hg
      · rename_i hcond
        obtain ⟨hl, hok, hfin⟩ := hcond
        cases hg
        unfold okv at hok
        simp only [Bool.and_eq_true, decide_eq_true_eq] at hok
        have hsame : ∀ x, s.fieldFound? (cit a3 a4).1 (cit a3 a4).2.1 (cit a3 a4).2.2.1 = some x → s.fieldFound? ref (cit a3 a4).2.1 (cit a3 a4).2.2.1 = some x := by
          intro x hxx
          rcases g4 with rfl | g4
          · exact hxx
          · exact u_same (hts _ g4) x hxx
        have hcl := vwCl_at a3 g1
        have hap := va_apart (own := ocn a1) (C := cin a3) (T := cit a3) (N := ciN a3) hts (cit_in a3 g1) (cty a3) (cit_ty a3 g1) (cit_nm a3 g1) hK hcl
        obtain ⟨rr, h1, cell, q1, q2, q3, q4⟩ := Y.2.1 a _ hc
        have hr : rr = (cin a3, cit a3, ciN a3) := Option.some.inj (h1.symm.trans hcl)
        subst hr
        obtain ⟨hS, hfc, kC, hkC, hkind⟩ := hK.1 a3 _ hcl
        obtain ⟨cf, kf, fi, f, hi, hsl⟩ := hS a4 g2
        have hlay := hts _ (cit_in a3 g1 _ (u_in_lay g2))
        unfold u_lay at hlay
        have hst := (u_facts hfc hkC (u_lays hts (cit_in a3 g1) g2) hi).1
        have hfinish : ∀ (H' : Heap), H'[a]? = some (cell.setSlot (D.2 a3 a4) v) → H'.size = H.size → (∀ q, q ≠ a → H'[q]? = H[q]?) → DY D cA n0 H0 (h.1, h.2.1, hup h.2.2 a (.inr (a3, fs.set a4 v))) H' (locs ++ [⟨a, D.2 a3 a4⟩]) := by
          intro H' e1 e2 e3
          refine Y.put hc ?_ e2 e3
          exact ⟨_, hcl, t_OB.to (V := updV (vp_V fs) a4 v) ⟨_, e1, q2, q3, t_set q4 hap g2 v⟩ (fun j _ => vp_updV_set hl v j)⟩
        by_cases hf : (cit a3 a4).2.2.2 = true
        · rw [if_pos hf] at hlay
          rcases hfin with hfin | ⟨hin1, hdecl⟩
          · rw [hf] at hfin; cases hfin
          · have hcf : m.cls = cf := by
              obtain ⟨_, _, c', _, _, _, -, -, hf', -, -, -, hown2, -⟩ := Cond.laysFinal_spec hlay
              have e1 : c' = cf := by have := hi.symm.trans hf'; simp at this; exact this.1.symm
              rw [hdecl] at hown2
              rw [← e1]; exact Option.some.inj (hown.symm.trans hown2)
            have h6 := u_fits hfc hkC hkind (Or.inr hlay) hi (cit_ty a3 g1 a4 g2) hok.2 hok.1
            rcases g3 with ⟨-, g3⟩ | ⟨-, g5, g3⟩
            · refine W.putFinK hx hb hown (hts _ g3) (hsame _ hi) hst hcf (hini hin1) (by rw [q2]; exact h6) q1 q3 (by rw [hsl]; exact k2_hasslot (q4 a4 g2)) rfl rfl hd fun H' e1 e2 e3 => ?_
              rw [hsl] at e1 ⊢
              exact k H' _ (hfinish H' e1 e2 e3)
            · exact absurd hdecl g5
        · rw [if_neg hf] at hlay
          have h6 := u_store hfc hkC hkind hlay hi (cit_ty a3 g1 a4 g2) hok.2 hok.1
          rcases g3 with ⟨-, g3⟩ | ⟨-, -, g3⟩
          · refine W.putK hx hb (f := f) ⟨hown, hts _ g3, ⟨_, _, _, hsame _ hi⟩, hst⟩ (by rw [q2]; exact h6) q1 q3 (by rw [hsl]; exact k2_hasslot (q4 a4 g2)) rfl rfl hd fun H' e1 e2 e3 => ?_
            rw [hsl] at e1 ⊢
            exact k H' _ (hfinish H' e1 e2 e3)
          · refine va_WputK hx hb (f := f) hown (va_Nw.use (A := args) rfl (hN _ g3)) (hsame _ hi) hst (by rw [q2]; exact h6) q1 q3 (by rw [hsl]; exact k2_hasslot (q4 a4 g2)) rfl rfl hd fun H' e1 e2 e3 => ?_
            rw [hsl] at e1 ⊢
            exact k H' _ (hfinish H' e1 e2 e3)
      · cases hg
    · cases hg
  · cases hg
theorem ral_some {t : Nat} {pe : Option PE} {i x : Int32} (h : ral t pe i = some x) : ∃ n f, pe = some (.inl (t, n, .inl f)) ∧ vp_in i n ∧ x = f i.toNatClampNeg := by
  unfold ral at h
  split at h
  · split at h
    · rename_i hc; obtain ⟨rfl, h2⟩ := hc; cases h; exact ⟨_, _, rfl, vin_of h2, rfl⟩
    · cases h
  · cases h
theorem rll_some {pe : Option PE} {i : Int32} {x : Int64} (h : rll pe i = some x) : ∃ n f, pe = some (.inl (3, n, .inr (.inl f))) ∧ vp_in i n ∧ x = f i.toNatClampNeg := by
  unfold rll at h
  split at h
  · split at h
    · rename_i hc; obtain ⟨rfl, h2⟩ := hc; cases h; exact ⟨_, _, rfl, vin_of h2, rfl⟩
    · cases h
  · cases h
theorem rrl_some {pe : Option PE} {i : Int32} {x : Option Nat} (h : rrl pe i = some x) : ∃ t n f, (4 ≤ t ∧ t < 8) ∧ pe = some (.inl (t, n, .inr (.inr (.inr (.inr f))))) ∧ vp_in i n ∧ x = f i.toNatClampNeg := by
  unfold rrl at h
  split at h
  · split at h
    · rename_i hc; obtain ⟨h1, h2⟩ := hc; cases h; exact ⟨_, _, _, h1, rfl, vin_of h2, rfl⟩
    · cases h
  · cases h
theorem wal_some {t : Nat} {pe : Option PE} {i x : Int32} {pe' : PE} (h : wal t pe i x = some pe') : ∃ n f, pe = some (.inl (t, n, .inl f)) ∧ vp_in i n ∧ pe' = .inl (t, n, .inl (upd f i.toNatClampNeg x)) := by
  unfold wal at h
  split at h
  · split at h
    · rename_i hc; obtain ⟨rfl, h2⟩ := hc; cases h; exact ⟨_, _, rfl, vin_of h2, rfl⟩
    · cases h
  · cases h
theorem wll_some {pe : Option PE} {i : Int32} {x : Int64} {pe' : PE} (h : wll pe i x = some pe') : ∃ n f, pe = some (.inl (3, n, .inr (.inl f))) ∧ vp_in i n ∧ pe' = .inl (3, n, .inr (.inl (vp_updL f i.toNatClampNeg x))) := by
  unfold wll at h
  split at h
  · split at h
    · rename_i hc; obtain ⟨rfl, h2⟩ := hc; cases h; exact ⟨_, _, rfl, vin_of h2, rfl⟩
    · cases h
  · cases h
theorem wrl_some {pe ev : Option PE} {i : Int32} {v : Nat} {pe' : PE} (h : wrl pe i v ev = some pe') : ∃ t n f ci fs, asg t ci = true ∧ pe = some (.inl (t, n, .inr (.inr (.inr (.inr f))))) ∧ ev = some (.inr (ci, fs)) ∧ vp_in i n ∧ pe' = .inl (t, n, .inr (.inr (.inr (.inr (va_up f i.toNatClampNeg (some v)))))) := by
  unfold wrl at h
  split at h
  · split at h
    · rename_i ci hci
      split at h
      · rename_i hc; obtain ⟨h1, h2⟩ := hc; cases h
        unfold cob at hci
        split at hci
        · rename_i o; cases hci; exact ⟨_, _, _, o.1, o.2, h1, rfl, rfl, vin_of h2, rfl⟩
        · cases hci
      · cases h
    · cases h
  · cases h
theorem ty_at : ∀ t, 4 ≤ t → t < 8 → ∃ C, (tyL cA)[t]? = some (cA t, .object C) ∧ C = tgn t := by
  intro t h1 h2
  have : t = 4 ∨ t = 5 ∨ t = 6 ∨ t = 7 := by omega
  rcases this with rfl | rfl | rfl | rfl <;> exact ⟨_, rfl, rfl⟩
theorem snd_iald {i : Int32} {x : Int32} {a : Nat} {r : List Value} (C : CX p s m args meth c cc oc ini D cA n0 H0) (Y : DY D cA n0 H0 h H locs) (hg : ral 0 (h.2.2 a) i = some x) (hd : decode cc pc = .ok (.iaload, 1))
    (k : W p l e R s m args below meth c H locs cells slots Q (F0 m (pc + 1) la (.int x :: r))) : W p l e R s m args below meth c H locs cells slots Q (F0 m pc la (.int i :: .ref a :: r)) := by
  obtain ⟨hx, hb, hown, hts, hK, hN, hn0, hini⟩ := C
  obtain ⟨n, f, he, hin, rfl⟩ := ral_some hg
  exact va_iald hx hb hK (at_ref Y he) 0 0 rfl rfl hin hd k
theorem snd_bald {i : Int32} {x : Int32} {a : Nat} {r : List Value} (C : CX p s m args meth c cc oc ini D cA n0 H0) (Y : DY D cA n0 H0 h H locs) (hg : ral 1 (h.2.2 a) i = some x) (hd : decode cc pc = .ok (.baload, 1))
    (k : W p l e R s m args below meth c H locs cells slots Q (F0 m (pc + 1) la (.int x :: r))) : W p l e R s m args below meth c H locs cells slots Q (F0 m pc la (.int i :: .ref a :: r)) := by
  obtain ⟨hx, hb, hown, hts, hK, hN, hn0, hini⟩ := C
  obtain ⟨n, f, he, hin, rfl⟩ := ral_some hg
  exact va_bald hx hb hK (at_ref Y he) 0 1 rfl rfl hin hd k
theorem snd_zald {i : Int32} {x : Int32} {a : Nat} {r : List Value} (C : CX p s m args meth c cc oc ini D cA n0 H0) (Y : DY D cA n0 H0 h H locs) (hg : ral 2 (h.2.2 a) i = some x) (hd : decode cc pc = .ok (.baload, 1))
    (k : W p l e R s m args below meth c H locs cells slots Q (F0 m (pc + 1) la (.int x :: r))) : W p l e R s m args below meth c H locs cells slots Q (F0 m pc la (.int i :: .ref a :: r)) := by
  obtain ⟨hx, hb, hown, hts, hK, hN, hn0, hini⟩ := C
  obtain ⟨n, f, he, hin, rfl⟩ := ral_some hg
  exact va_zald hx hb hK (at_ref Y he) 0 2 rfl rfl hin hd k
theorem snd_lald {i : Int32} {x : Int64} {a : Nat} {r : List Value} (C : CX p s m args meth c cc oc ini D cA n0 H0) (Y : DY D cA n0 H0 h H locs) (hg : rll (h.2.2 a) i = some x) (hd : decode cc pc = .ok (.laload, 1))
    (k : W p l e R s m args below meth c H locs cells slots Q (F0 m (pc + 1) la (.long x :: r))) : W p l e R s m args below meth c H locs cells slots Q (F0 m pc la (.int i :: .ref a :: r)) := by
  obtain ⟨hx, hb, hown, hts, hK, hN, hn0, hini⟩ := C
  obtain ⟨n, f, he, hin, rfl⟩ := rll_some hg
  exact va_lald hx hb hK (at_ref Y he) 0 3 rfl rfl hin hd k
theorem snd_aald {i : Int32} {x : Option Nat} {a : Nat} {r : List Value} (C : CX p s m args meth c cc oc ini D cA n0 H0) (Y : DY D cA n0 H0 h H locs) (hg : rrl (h.2.2 a) i = some x) (hd : decode cc pc = .ok (.aaload, 1))
    (k : W p l e R s m args below meth c H locs cells slots Q (F0 m (pc + 1) la (va_rf x :: r))) : W p l e R s m args below meth c H locs cells slots Q (F0 m pc la (.int i :: .ref a :: r)) := by
  obtain ⟨hx, hb, hown, hts, hK, hN, hn0, hini⟩ := C
  obtain ⟨t, n, f, ht, he, hin, rfl⟩ := rrl_some hg
  obtain ⟨C, hC, -⟩ := ty_at (cA := cA) t ht.1 ht.2
  exact va_aldq hx hb hK (at_ref Y he) 0 t rfl hC hin hd k
theorem upd_cell (cI : ClassId) (n : Nat) (f : Nat → Int32) (j : Nat) (x : Int32) : (arrV cI n (fun j => .int (f j))).setSlot j (.int x) = vp_cell cI (n, .inl (upd f j x)) := by
  rw [vp_cell_i, arrV_store]
  congr 2
  funext q
  by_cases hq : q = j
  · subst hq; simp [updV, upd]
  · simp [updV, upd, hq]
theorem snd_iast {i x : Int32} {pe : PE} {a : Nat} {r : List Value} (C : CX p s m args meth c cc oc ini D cA n0 H0) (Y : DY D cA n0 H0 h H locs) (hg : wal 0 (h.2.2 a) i x = some pe) (hd : decode cc pc = .ok (.iastore, 1))
    (k : ∀ H1 locs1, DY D cA n0 H0 (h.1, h.2.1, hup h.2.2 a pe) H1 locs1 → W p l e R s m args below meth c H1 locs1 cells slots Q (F0 m (pc + 1) la r)) : W p l e R s m args below meth c H locs cells slots Q (F0 m pc la (.int x :: .int i :: .ref a :: r)) := by
  obtain ⟨hx, hb, hown, hts, hK, hN, hn0, hini⟩ := C
  obtain ⟨n, f, he, hin, rfl⟩ := wal_some hg
  refine W.iast hx hb (Y.2.1 a _ he) ((hK.2 0 (cA 0, .int) rfl).1 n (fun j => .int (f j))) (fun q => by cases q) (by show ¬ (i < 0 ∨ (arrV _ _ _).slots.size ≤ _); rw [arrV_size]; exact hin) rfl rfl hd fun H1 e z oq => ?_
  refine k H1 _ (Y.put he ?_ z oq)
  show H1[a]? = some (vp_cell _ _)
  rw [e]
  exact congrArg some (upd_cell _ _ _ _ _)
theorem snd_bast {i x : Int32} {pe : PE} {a : Nat} {r : List Value} (C : CX p s m args meth c cc oc ini D cA n0 H0) (Y : DY D cA n0 H0 h H locs) (hg : wal 1 (h.2.2 a) i (vp_nar .byte x) = some pe) (hd : decode cc pc = .ok (.bastore, 1))
    (k : ∀ H1 locs1, DY D cA n0 H0 (h.1, h.2.1, hup h.2.2 a pe) H1 locs1 → W p l e R s m args below meth c H1 locs1 cells slots Q (F0 m (pc + 1) la r)) : W p l e R s m args below meth c H locs cells slots Q (F0 m pc la (.int x :: .int i :: .ref a :: r)) := by
  obtain ⟨hx, hb, hown, hts, hK, hN, hn0, hini⟩ := C
  obtain ⟨n, f, he, hin, rfl⟩ := wal_some hg
  refine W.bast hx hb (Y.2.1 a _ he) ((hK.2 1 (cA 1, .byte) rfl).1 n (fun j => .int (f j))) (fun q => by cases q) (by show ¬ (i < 0 ∨ (arrV _ _ _).slots.size ≤ _); rw [arrV_size]; exact hin) rfl rfl hd fun H1 e z oq => ?_
  refine k H1 _ (Y.put he ?_ z oq)
  show H1[a]? = some (vp_cell _ _)
  rw [e]
  exact congrArg some (upd_cell _ _ _ _ _)
theorem snd_zast {i x : Int32} {pe : PE} {a : Nat} {r : List Value} (C : CX p s m args meth c cc oc ini D cA n0 H0) (Y : DY D cA n0 H0 h H locs) (hg : wal 2 (h.2.2 a) i (vp_nar .boolean x) = some pe) (hd : decode cc pc = .ok (.bastore, 1))
    (k : ∀ H1 locs1, DY D cA n0 H0 (h.1, h.2.1, hup h.2.2 a pe) H1 locs1 → W p l e R s m args below meth c H1 locs1 cells slots Q (F0 m (pc + 1) la r)) : W p l e R s m args below meth c H locs cells slots Q (F0 m pc la (.int x :: .int i :: .ref a :: r)) := by
  obtain ⟨hx, hb, hown, hts, hK, hN, hn0, hini⟩ := C
  obtain ⟨n, f, he, hin, rfl⟩ := wal_some hg
  refine W.zast hx hb (Y.2.1 a _ he) ((hK.2 2 (cA 2, .boolean) rfl).1 n (fun j => .int (f j))) (fun q => by cases q) (by show ¬ (i < 0 ∨ (arrV _ _ _).slots.size ≤ _); rw [arrV_size]; exact hin) rfl rfl hd fun H1 e z oq => ?_
  refine k H1 _ (Y.put he ?_ z oq)
  show H1[a]? = some (vp_cell _ _)
  rw [e]
  exact congrArg some (upd_cell _ _ _ _ _)
theorem snd_last {i : Int32} {x : Int64} {pe : PE} {a : Nat} {r : List Value} (C : CX p s m args meth c cc oc ini D cA n0 H0) (Y : DY D cA n0 H0 h H locs) (hg : wll (h.2.2 a) i x = some pe) (hd : decode cc pc = .ok (.lastore, 1))
    (k : ∀ H1 locs1, DY D cA n0 H0 (h.1, h.2.1, hup h.2.2 a pe) H1 locs1 → W p l e R s m args below meth c H1 locs1 cells slots Q (F0 m (pc + 1) la r)) : W p l e R s m args below meth c H locs cells slots Q (F0 m pc la (.long x :: .int i :: .ref a :: r)) := by
  obtain ⟨hx, hb, hown, hts, hK, hN, hn0, hini⟩ := C
  obtain ⟨n, f, he, hin, rfl⟩ := wll_some hg
  refine W.last hx hb (Y.2.1 a _ he) ((hK.2 3 (cA 3, .long) rfl).1 n (fun j => .long (f j))) (fun q => by cases q) (by show ¬ (i < 0 ∨ (arrV _ _ _).slots.size ≤ _); rw [arrV_size]; exact hin) rfl rfl hd fun H1 e z oq => ?_
  refine k H1 _ (Y.put he ?_ z oq)
  show H1[a]? = some (vp_cell _ _)
  rw [e]
  show some ((arrV (cA 3) n (fun j => .long (f j))).setSlot _ _) = _
  rw [vp_cell_l, arrV_store]
  congr 2
  funext q
  by_cases hq : q = i.toNatClampNeg
  · subst hq; simp [updV, vp_updL]
  · simp [updV, vp_updL, hq]
theorem asg_any {t ci v : Nat} {fs : List Value} (C : CX p s m args meth c cc oc ini D cA n0 H0) (Y : DY D cA n0 H0 h H locs) (ha : asg t ci = true) (hv : h.2.2 v = some (.inr (ci, fs))) (ht : 4 ≤ t ∧ t < 8) (hci : ci < 11) : va_Any (tgn t) s H v := by
  obtain ⟨hx, hb, hown, hts, hK, hN, hn0, hini⟩ := C
  obtain ⟨rr, h1, cell, q1, q2, q3, q4⟩ := Y.2.1 v _ hv
  have hcl := vwCl_at ci hci
  obtain ⟨hS, hfc, kC, hkC, hkind⟩ := hK.1 ci _ hcl
  refine ⟨cell, q1, by rw [q3]; rfl, ⟨kC, by rw [q2]; exact hkC⟩, fun comp hcomp => ?_⟩
  rw [q2]
  have cast_ok : ∀ w : String, NB (Cond.castable (cin ci) w) → w = tgn t → s.vm.assignable (D.1 ci) comp = true := by
    intro w hw e
    subst e
    obtain ⟨c0, t0, f1, f2, f3⟩ := Cond.castable_spec (hN _ hw)
    cases hfc.symm.trans f1
    cases hcomp.symm.trans f2
    exact f3
  have self_ok : cin ci = tgn t → s.vm.assignable (D.1 ci) comp = true := by
    intro e
    have e2 : comp = D.1 ci := by
      have := hfc
      rw [show (cin ci, cit ci, ciN ci).1 = cin ci from rfl, e, hcomp] at this
      exact Option.some.inj this
    rw [e2]
    exact va_assign (C := cin ci) ⟨hfc, kC, hkC, hkind⟩
  simp only [asg, Bool.or_eq_true, Bool.and_eq_true, beq_iff_eq] at ha
  rcases ha with ((⟨rfl, rfl⟩ | ⟨rfl, rfl⟩) | ⟨rfl, rfl⟩) | ⟨rfl, hc4⟩
  · exact self_ok rfl
  · exact self_ok rfl
  · exact self_ok rfl
  · rcases hc4 with ((rfl | rfl) | rfl) | rfl
    · exact cast_ok _ (mN6 154 rfl rfl) rfl
    · exact cast_ok _ (mN6 156 rfl rfl) rfl
    · exact cast_ok _ (mN6 155 rfl rfl) rfl
    · exact cast_ok _ (mN6 157 rfl rfl) rfl
theorem asg_lt {t ci : Nat} (ha : asg t ci = true) : (4 ≤ t ∧ t < 8) ∧ ci < 11 := by
  simp only [asg, Bool.or_eq_true, Bool.and_eq_true, beq_iff_eq] at ha
  omega
theorem snd_aast {i : Int32} {v : Nat} {pe : PE} {a : Nat} {r : List Value} (C : CX p s m args meth c cc oc ini D cA n0 H0) (Y : DY D cA n0 H0 h H locs) (hg : wrl (h.2.2 a) i v (h.2.2 v) = some pe) (hd : decode cc pc = .ok (.aastore, 1))
    (k : ∀ H1 locs1, DY D cA n0 H0 (h.1, h.2.1, hup h.2.2 a pe) H1 locs1 → W p l e R s m args below meth c H1 locs1 cells slots Q (F0 m (pc + 1) la r)) : W p l e R s m args below meth c H locs cells slots Q (F0 m pc la (.ref v :: .int i :: .ref a :: r)) := by
  obtain ⟨t, n, f, ci, fs, hag, he, hev, hin, rfl⟩ := wrl_some hg
  obtain ⟨ht, hci⟩ := asg_lt hag
  obtain ⟨cellV, g1, g3, ⟨kC, hkC⟩, hasg⟩ := asg_any C Y hag hev ht hci
  obtain ⟨hx, hb, hown, hts, hK, hN, hn0, hini⟩ := C
  obtain ⟨CN, hC, rfl⟩ := ty_at (cA := cA) t ht.1 ht.2
  have hlt : i.toNatClampNeg < n := Nat.not_le.mp fun q => hin (Or.inr q)
  have h0 : ¬ i < 0 := fun q => hin (Or.inl q)
  obtain ⟨kA, comp, k1, k2, k3, -⟩ := (hK.2 t _ hC).2
  obtain ⟨kE, hkE, -⟩ := Vm.findClass_spec k3
  refine W.aast hx hb (Y.2.1 a _ he) (fun q h => by cases h) (fun h => by cases h) k1 k2 rfl hkE ⟨h0, by show _ < (arrV _ _ _).slots.size; rw [arrV_size]; exact hlt⟩ g1 (fun q h => by rw [h] at g3; cases g3) hkC (hasg _ k3) rfl rfl hd fun H1 e z oq => ?_
  refine k H1 _ (Y.put he ?_ z oq)
  show H1[a]? = some (vp_cell _ _)
  rw [e]
  show some ((arrV (cA t) n (fun j => va_rf (f j))).setSlot _ _) = _
  rw [vp_cell_q, arrV_store]
  congr 2
  funext q
  by_cases hq : q = i.toNatClampNeg
  · subst hq; simp [updV, va_up, va_rf]
  · simp [updV, va_up, hq]
theorem snd_alen {n a : Nat} {r : List Value} (C : CX p s m args meth c cc oc ini D cA n0 H0) (Y : DY D cA n0 H0 h H locs) (hg : aln (h.2.2 a) = some n) (hd : decode cc pc = .ok (.arraylength, 1))
    (k : W p l e R s m args below meth c H locs cells slots Q (F0 m (pc + 1) la (.int (nI n) :: r))) : W p l e R s m args below meth c H locs cells slots Q (F0 m pc la (.ref a :: r)) := by
  obtain ⟨hx, hb, hown, hts, hK, hN, hn0, hini⟩ := C
  unfold aln at hg
  split at hg
  · rename_i t' n' x he
    split at hg
    · rename_i ht
      cases hg
      obtain ⟨ty, hty⟩ : ∃ ty, (tyL cA)[t']? = some (cA t', ty) := by
        have : t' = 0 ∨ t' = 1 ∨ t' = 2 ∨ t' = 3 ∨ t' = 4 ∨ t' = 5 ∨ t' = 6 ∨ t' = 7 := by omega
        rcases this with rfl | rfl | rfl | rfl | rfl | rfl | rfl | rfl <;> exact ⟨_, rfl⟩
      exact va_alen hx hb hK (at_ref Y he) 0 t' rfl hty rfl hd k
    · cases hg
  · cases hg
end SN2
