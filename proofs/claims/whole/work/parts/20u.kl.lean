/-! the class: its states are the reference's; facts asked -/
def ahB (a b : Option Nat) : Int32 := orO (orO (nI 0) a) b
def CS (c w : WD) (fs sn : Nat → Option Nat) (n : Nat) : Prop :=
  c 1 1 = nI n ∧ n ≤ 30 ∧
  (∀ s, s < 30 → c (8 + 4 * s) 3 = w 3 s ∧ c (8 + 4 * s) 4 = w 5 s ∧ c (8 + 4 * s) 5 = w 4 s ∧ (∀ p, p < 16 → c (9 + 4 * s) p = w 6 (16 * s + p) ∧ c (10 + 4 * s) p = w 7 (16 * s + p)) ∧ (∀ k, k < 3 → ∀ p, p < 16 → c (11 + 4 * s) (k * 16 + p) = w 8 (lk s k p))) ∧
  (∀ s, s < n → c (8 + 4 * s) 0 = enc (fs s) ∧ c (8 + 4 * s) 1 = enc (sn s) ∧ c (8 + 4 * s) 2 = ahB (fs s) (sn s) ∧ (∀ i, fs s = some i → i < s) ∧ (∀ i, sn s = some i → i < s) ∧ (sn s ≠ none → fs s ≠ none))
theorem i32_0 {a : Int32} : a = 0 ↔ ∀ k, k < 32 → tb a k = false :=
  ⟨fun h k _ => by rw [h]; exact tb_00 k, fun h => i32_ext (fun k hk => by rw [h k hk, tb_00])⟩
theorem tb_orO {z : Int32} {o : Option Nat} (ho : ∀ i, o = some i → i < 32) {k : Nat} : tb (orO z o) k = (tb z k || decide (o = some k)) := by
  cases o with
  | none => simp [orO]
  | some i =>
    show tb (z ||| sb i) k = _
    rw [tb_or, tb_sb (ho i rfl)]
    congr 1
    exact decide_eq_decide.mpr ⟨fun h => by rw [h], fun h => by injection h with h; exact h.symm⟩
theorem tb_ahB {a b : Option Nat} (ha : ∀ i, a = some i → i < 32) (hb : ∀ i, b = some i → i < 32) {k : Nat} : tb (ahB a b) k = (decide (a = some k) || decide (b = some k)) := by
  unfold ahB
  rw [tb_orO hb, tb_orO ha, tb_0, Bool.false_or]
theorem ahB_in {a b : Option Nat} {z : Int32} (ha : ∀ i, a = some i → i < 32) (hb : ∀ i, b = some i → i < 32) : (ahB a b &&& z = 0) = ((inO z a || inO z b) = false) := by
  apply propext
  rw [i32_0]
  constructor
  · intro h
    have ea : inO z a = false := by
      cases a with
      | none => rfl
      | some i =>
        have := h i (ha i rfl)
        rw [tb_and, tb_ahB ha hb] at this
        simpa [inO] using this
    have eb : inO z b = false := by
      cases b with
      | none => rfl
      | some i =>
        have := h i (hb i rfl)
        rw [tb_and, tb_ahB ha hb] at this
        simpa [inO] using this
    rw [ea, eb]; rfl
  · intro h k hk
    rw [tb_and, tb_ahB ha hb]
    have h1 : inO z a = false := by cases e : inO z a <;> simp [e] at h ⊢
    have h2 : inO z b = false := by cases e : inO z b <;> simp [e] at h ⊢
    cases e : tb z k with
    | false => simp
    | true =>
      have e1 : decide (a = some k) = false := decide_eq_false (fun q => by rw [q] at h1; simp [inO, e] at h1)
      have e2 : decide (b = some k) = false := decide_eq_false (fun q => by rw [q] at h2; simp [inO, e] at h2)
      rw [e1, e2]; rfl
theorem ahB_0 {a b : Option Nat} (ha : ∀ i, a = some i → i < 32) (hb : ∀ i, b = some i → i < 32) (hab : b ≠ none → a ≠ none) : decide (ahB a b = 0) = decide (a = none) := by
  refine decide_eq_decide.mpr ?_
  rw [i32_0]
  constructor
  · intro h
    cases a with
    | none => rfl
    | some i =>
      have := h i (ha i rfl)
      rw [tb_ahB ha hb] at this
      simp at this
  · intro h k hk
    have hb0 : b = none := by
      cases b with
      | none => rfl
      | some j => exact absurd h (hab (by simp))
    rw [tb_ahB ha hb, h, hb0]; rfl
theorem kLas_gos {a b : Option Nat} {z : Int32} (ha : ∀ i, a = some i → i < 32) (hb : ∀ i, b = some i → i < 32) (hab : b ≠ none → a ≠ none) : kLas (ahB a b) z = gos z a b := by
  unfold kLas
  rw [ahB_0 ha hb hab]
  have e1 : decide (ahB a b &&& (z ^^^ (-1)) = 0) = !(inO (z ^^^ (-1)) a || inO (z ^^^ (-1)) b) := by
    have h := ahB_in (z := z ^^^ (-1)) ha hb
    cases e : (inO (z ^^^ (-1)) a || inO (z ^^^ (-1)) b)
    · rw [e] at h; exact decide_eq_true (by rw [h])
    · rw [e] at h; exact decide_eq_false (by rw [h]; simp)
  rw [e1]
  cases a with
  | none => simp [gos]
  | some i =>
    cases b with
    | none => simp only [gos, inO, tb_not z (ha i rfl)]; simp
    | some j => simp only [gos, inO, tb_not z (ha i rfl), tb_not z (hb j rfl)]; simp
section CSS
variable {c w : WD} {fs sn : Nat → Option Nat} {n : Nat}
theorem CS.b (C : CS c w fs sn n) {s : Nat} (hs : s < 30) : c (8 + 4 * s) 3 = w 3 s := (C.2.2.1 s hs).1
theorem CS.r (C : CS c w fs sn n) {s : Nat} (hs : s < 30) : c (8 + 4 * s) 4 = w 5 s := (C.2.2.1 s hs).2.1
theorem CS.p (C : CS c w fs sn n) {s : Nat} (hs : s < 30) : c (8 + 4 * s) 5 = w 4 s := (C.2.2.1 s hs).2.2.1
theorem CS.so (C : CS c w fs sn n) {s : Nat} (hs : s < 30) {p : Nat} (hp : p < 16) : c (9 + 4 * s) p = w 6 (16 * s + p) := ((C.2.2.1 s hs).2.2.2.1 p hp).1
theorem CS.sh (C : CS c w fs sn n) {s : Nat} (hs : s < 30) {p : Nat} (hp : p < 16) : c (10 + 4 * s) p = w 7 (16 * s + p) := ((C.2.2.1 s hs).2.2.2.1 p hp).2
theorem CS.le (C : CS c w fs sn n) {s : Nat} (hs : s < 30) {k : Nat} (hk : k < 3) {p : Nat} (hp : p < 16) : c (11 + 4 * s) (k * 16 + p) = w 8 (lk s k p) := (C.2.2.1 s hs).2.2.2.2 k hk p hp
theorem CS.ah (C : CS c w fs sn n) {s : Nat} (hs : s < n) : c (8 + 4 * s) 2 = ahB (fs s) (sn s) := (C.2.2.2 s hs).2.2.1
theorem CS.f1 (C : CS c w fs sn n) {s : Nat} (hs : s < n) : ∀ i, fs s = some i → i < 32 := fun i h => by have := (C.2.2.2 s hs).2.2.2.1 i h; have := C.2.1; omega
theorem CS.f2 (C : CS c w fs sn n) {s : Nat} (hs : s < n) : ∀ i, sn s = some i → i < 32 := fun i h => by have := (C.2.2.2 s hs).2.2.2.2.1 i h; have := C.2.1; omega
theorem CS.f3 (C : CS c w fs sn n) {s : Nat} (hs : s < n) : sn s ≠ none → fs s ≠ none := (C.2.2.2 s hs).2.2.2.2.2
theorem CS.ever (C : CS c w fs sn n) (a : Int32) : kever c a n = evO w a n := itr_cg (fun k hk b => by have := C.2.1; rw [CS.b C (by omega)])
theorem CS.always (C : CS c w fs sn n) (a : Int32) : kalways c a n = alO w a n := itr_cg (fun k hk b => by have := C.2.1; rw [CS.b C (by omega)])
theorem CS.wnb (C : CS c w fs sn n) (a b : Int32) : kwithNoneBefore c a b n = wnb w a b n := itr_cg (fun k hk b => by have := C.2.1; rw [CS.b C (by omega)])
theorem CS.ahead (C : CS c w fs sn n) (a : Int32) : krightBehind c a n = ahO fs sn a n := itr_cg (fun k hk b => by
  have h := ahB_in (z := a) (CS.f1 C hk) (CS.f2 C hk)
  rw [CS.ah C hk]
  cases e : (inO a (fs k) || inO a (sn k))
  · rw [e] at h; rw [if_pos (by rw [h]), if_neg (by simp)]
  · rw [e] at h; rw [if_neg (by rw [h]; simp), if_pos rfl])
theorem CS.since (C : CS c w fs sn n) (a b : Int32) : kSin c a b n = siO fs sn a b n := itr_cg (fun k hk z => by
  rw [CS.ah C hk, kLas_gos (CS.f1 C hk) (CS.f2 C hk) (CS.f3 C hk), Bool.or_comm])
end CSS
/-- what a fact asked is worth -/
theorem spf_sm {c w W : WD} {fs sn : Nat → Option Nat} {n t x y z : Nat} {tm : Nat → Nat → Nat} {b : Int32} (C : CS c w fs sn n) (hN : ∀ s, s < n → NTs c s) (hW : ∀ s, W 5 s = w 5 s) (hk : ¬ tm t 0 = 5) (h : ∀ s, s < n → tb b s = hlT W tm t s x y z) : spf c b n = bsp (smS W tm t x y z n) (smM W tm t x y z n) := by
  have hn := C.2.1
  unfold spf smS smM
  have e : ∀ k, k < n → smU W tm t k = !tb (c 1 4) k := fun k hk2 => by
    unfold smU
    rw [hW, ← CS.r C (by omega), (hN k hk2).1]
    cases tb (c 1 4) k <;> simp [hk, bI]
  congr 1
  · apply i32_ext
    intro k hk32
    rw [orS_tb (P := fun s => smH W tm t x y z s) (by omega) hk32, tb_and, tb_and, tb_wal1 n (by omega) k hk32]
    by_cases q : k < n
    · unfold smH
      rw [e k q, h k q, Bool.not_not]
      simp only [q, decide_true, Bool.and_true, Bool.true_and]
      exact Bool.and_comm _ _
    · simp [q]
  · apply i32_ext
    intro k hk32
    rw [orS_tb (P := fun s => smH W tm t x y z s || smU W tm t s) (by omega) hk32, tb_and, tb_or, tb_not _ hk32, tb_wal1 n (by omega) k hk32]
    by_cases q : k < n
    · unfold smH
      rw [e k q, h k q, Bool.not_not]
      cases tb (c 1 4) k <;> simp [q]
    · simp [q]
theorem tb_kSor {c : WD} {p n : Nat} {q : Int32} (hn : n ≤ 30) {k : Nat} (hk : k < n) : tb (kSor c p q n) k = (tb (c (8 + 4 * k) 5) p && decide (c (9 + 4 * k) p = q)) := by
  unfold kSor
  rw [orS_tb (P := fun k => tb (c (8 + 4 * k) 5) p && decide (c (9 + 4 * k) p = q)) (by omega) (by omega)]
  simp [hk]
theorem tb_kSha {c : WD} {p n : Nat} {q : Int32} (hn : n ≤ 30) {k : Nat} (hk : k < n) : tb (kSha c p q n) k = (tb (c (8 + 4 * k) 5) p && decide (c (10 + 4 * k) p = q)) := by
  unfold kSha
  rw [orS_tb (P := fun k => tb (c (8 + 4 * k) 5) p && decide (c (10 + 4 * k) p = q)) (by omega) (by omega)]
  simp [hk]
/-- the number for the parts in place of the variables -/
def pn (x y z : Nat) : Nat := x + 16 * y + 256 * z
theorem pn_inj {x y z x' y' z' : Nat} (hx : x < 16) (hy : y < 16) (hz : z < 16) (hx' : x' < 16) (hy' : y' < 16) (hz' : z' < 16) (h : nI (pn x y z) = nI (pn x' y' z')) : x = x' ∧ y = y' ∧ z = z' := by
  unfold pn at h
  have := nI_ij (by omega) (by omega) h
  omega
theorem asP_pn : ∀ x, x < 16 → ∀ y, y < 16 → ∀ z, z < 16 → asP (nI x) (nI y) (nI z) = nI (pn x y z) := by decide +kernel
theorem pn_0 : ∀ x, x < 16 → ∀ y, y < 16 → ∀ z, z < 16 → (nI (pn x y z) >>> (nI (4 * 0) &&& 31)) &&& nI 15 = nI x := by decide +kernel
theorem pn_1 : ∀ x, x < 16 → ∀ y, y < 16 → ∀ z, z < 16 → (nI (pn x y z) >>> (nI (4 * 1) &&& 31)) &&& nI 15 = nI y := by decide +kernel
theorem pn_2 : ∀ x, x < 16 → ∀ y, y < 16 → ∀ z, z < 16 → (nI (pn x y z) >>> (nI (4 * 2) &&& 31)) &&& nI 15 = nI z := by decide +kernel
theorem pn_p0 : ∀ y, y < 16 → ∀ z, z < 16 → ∀ p, p < 16 → nI (pn 0 y z) ||| nI p <<< (nI (4 * 0) &&& 31) = nI (pn p y z) := by decide +kernel
theorem pn_p1 : ∀ x, x < 16 → ∀ z, z < 16 → ∀ p, p < 16 → nI (pn x 0 z) ||| nI p <<< (nI (4 * 1) &&& 31) = nI (pn x p z) := by decide +kernel
theorem pn_p2 : ∀ x, x < 16 → ∀ y, y < 16 → ∀ p, p < 16 → nI (pn x y 0) ||| nI p <<< (nI (4 * 2) &&& 31) = nI (pn x y p) := by decide +kernel
def mk (b : Bool) (x : Nat) : Nat := if b = true then x else 0
theorem mk_lt {b : Bool} {x : Nat} (h : x < 16) : mk b x < 16 := by unfold mk; split <;> omega
def pipB (a b g : Bool) : Int32 := (if a = true then nI 15 else nI 0) ||| (if b = true then nI 240 else nI 0) ||| (if g = true then nI 3840 else nI 0)
theorem pn_mk0 : ∀ a b g : Bool, ∀ x, x < 16 → ∀ y, y < 16 → ∀ z, z < 16 → nI (pn x y z) &&& pipB a b g = nI (pn (mk a x) (mk b y) (mk g z)) := by decide +kernel
theorem pn_mk (r : Int32) {x y z : Nat} (hx : x < 16) (hy : y < 16) (hz : z < 16) : nI (pn x y z) &&& pip r = nI (pn (mk (tb r 0) x) (mk (tb r 1) y) (mk (tb r 2) z)) := pn_mk0 _ _ _ x hx y hy z hz
theorem agr_mk (r : Int32) (x y z : Nat) : agr r (mk (tb r 0) x) (mk (tb r 1) y) (mk (tb r 2) z) x y z :=
  ⟨fun h => by unfold mk; rw [if_pos h], fun h => by unfold mk; rw [if_pos h], fun h => by unfold mk; rw [if_pos h]⟩
