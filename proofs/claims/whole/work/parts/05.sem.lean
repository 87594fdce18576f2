/-! a machine of pure values that the class's bytecode runs on: heap, one instruction, a run; what it says of the real machine stands in 06 -/
abbrev PE : Type := (Nat × vp_A) ⊕ (Nat × List Value)
abbrev Hf : Type := Nat → Option PE
abbrev Hp : Type := Nat × Nat × Hf
abbrev LL : Type := List (Option Value)
def hup (f : Hf) (a : Nat) (e : PE) : Hf := fun b => if b = a then some e else f b
/-- tags of arrays: 0 int, 1 byte, 2 boolean, 3 long, 4 State, 5 Term, 6 Kept, 7 Shelf -/
def tyL (cA : Nat → ClassId) : List (ClassId × FieldType) := [(cA 0, .int), (cA 1, .byte), (cA 2, .boolean), (cA 3, .long), (cA 4, .object RX8), (cA 5, .object RX9), (cA 6, .object RX1), (cA 7, .object RX6)]
def tow (cA : Nat → ClassId) : PE → va_E := fun e => match e with
  | .inl (t, x) => .inl (cA t, x)
  | .inr o => .inr o
/-- the words of the tables that every method is given -/
def BG : List Cond := lw_tbl.filter goodWord
def isNw : Cond → Bool := fun w => match w with
  | .fieldLinkNest _ _ _ _ _ _ => true
  | .methodLinkNest _ _ _ _ => true
  | .declares _ => true
  | .arrayOver (.object _) => true
  | .castable _ _ => true
  | _ => false
def inB (w : Cond) : Bool := decide (w ∈ lw_tbl) && goodWord w
def inN (w : Cond) : Bool := decide (w ∈ lw_tbl) && isNw w
-- lookups
def fsl (oc i ci : Nat) : Option Nat := (ftL.find? (fun e => e.1 == oc && e.2.1 == i && e.2.2.1 == ci)).map (fun e => e.2.2.2.1)
def cvt (oc i ci : Nat) (sp : Bool) : Option (Nat × Nat) := (vtL.find? (fun e => e.1 == oc && e.2.1 == i && e.2.2.1 == ci && (Nat.ble 5 e.2.2.2.2.2.1 == sp))).map (fun e => (e.2.2.2.1, e.2.2.2.2.1))
def cvn (oc i : Nat) : Option Nat := (vtL.find? (fun e => e.1 == oc && e.2.1 == i)).map (fun e => e.2.2.2.2.1)
def cst (oc i : Nat) : Option (Nat × Nat) := (stL.find? (fun e => e.1 == oc && e.2.1 == i)).map (fun e => (e.2.2.1, e.2.2.2.1))
def ntf (oc i : Nat) : Option Nat := (ntL.find? (fun e => e.1 == oc && e.2.1 == i)).map (fun e => e.2.2)
def atf (oc i : Nat) : Option Nat := (atL.find? (fun e => e.1 == oc && e.2.1 == i)).map (fun e => e.2.2)
def mxf (oc i : Nat) : Option Nat := (mxL.find? (fun e => e.1 == oc && e.2.1 == i)).map (fun e => e.2.2)
def ldf (oc i : Nat) : Option Int32 := (ldL.find? (fun e => e.1 == oc && e.2.1 == i)).map (fun e => e.2.2)
def cob (e : Option PE) : Option Nat := match e with
  | some (.inr o) => some o.1
  | _ => none
def wid (l : List Value) : Nat := (l.map fun v => v.category).sum
def tg (pc : Nat) (off : Int) : Option Nat := if (0 : Int) ≤ (pc : Int) + off then some ((pc : Int) + off).toNat else none
def lkp (ls : LL) (i : Nat) : Option Value := (ls[i]?).join
def clr : Option Value → Option Value := fun o => match o with
  | some (.long _) => none
  | some (.double _) => none
  | o => o
def sto : LL → Nat → Value → LL
  | [], _, _ => []
  | _ :: r, 0, v => some v :: r
  | o :: r, 1, v => clr o :: sto r 0 v
  | o :: r, n + 2, v => o :: sto r (n + 1) v
def ilen : Instr → Nat := fun i => match i with
  | .bipush _ => 2
  | .sipush _ => 3
  | .ldc _ => 2
  | .ldc_w _ => 3
  | .iload _ => 2
  | .lload _ => 2
  | .aload _ => 2
  | .istore _ => 2
  | .lstore _ => 2
  | .astore _ => 2
  | .iinc _ _ => 3
  | .ifCond _ _ => 3
  | .if_icmp _ _ => 3
  | .if_acmp _ _ => 3
  | .ifnull _ => 3
  | .ifnonnull _ => 3
  | .goto _ => 3
  | .getfield _ => 3
  | .putfield _ => 3
  | .new _ => 3
  | .newarray _ => 2
  | .anewarray _ => 3
  | .invokestatic _ => 3
  | .invokevirtual _ => 3
  | .invokespecial _ => 3
  | _ => 1
def isTs : Instr → Bool := fun i => match i with
  | .tableswitch _ _ _ _ => true
  | .lookupswitch _ _ => true
  | _ => false
/-- a field read, by the cell -/
def gfl (oc i : Nat) (e : Option PE) : Option Value := match e with
  | some (.inr (ci, fs)) => match fsl oc i ci with
    | some k => fs[k]?
    | none => none
  | _ => none
def okv (ty : FieldType) (v : Value) : Bool := fits ty v && decide (narrow ty v = v)
/-- a field written -/
def pfl (ini : Bool) (oc i : Nat) (e : Option PE) (v : Value) : Option PE := match e with
  | some (.inr (ci, fs)) => match fsl oc i ci with
    | some k => if k < fs.length ∧ okv (cty ci k) v = true ∧ ((cit ci k).2.2.2 = false ∨ (ini = true ∧ (cit ci k).1 = ocn oc)) then some (.inr (ci, fs.set k v)) else none
    | none => none
  | _ => none
abbrev SC : Type := Option (Nat × Nat × (Nat → Int32))
/-- an int out of an array: the script, or a cell of tag t -/
def ral (t : Nat) (e : Option PE) (i : Int32) : Option Int32 := match e with
  | some (.inl (t', n, .inl f)) => if t' = t ∧ (0 ≤ i.toInt ∧ i.toInt < n) then some (f i.toNatClampNeg) else none
  | _ => none
def rll (e : Option PE) (i : Int32) : Option Int64 := match e with
  | some (.inl (t', n, .inr (.inl f))) => if t' = 3 ∧ (0 ≤ i.toInt ∧ i.toInt < n) then some (f i.toNatClampNeg) else none
  | _ => none
def rrl (e : Option PE) (i : Int32) : Option (Option Nat) := match e with
  | some (.inl (t', n, .inr (.inr (.inr (.inr f))))) => if (4 ≤ t' ∧ t' < 8) ∧ (0 ≤ i.toInt ∧ i.toInt < n) then some (f i.toNatClampNeg) else none
  | _ => none
def wal (t : Nat) (e : Option PE) (i x : Int32) : Option PE := match e with
  | some (.inl (t', n, .inl f)) => if t' = t ∧ (0 ≤ i.toInt ∧ i.toInt < n) then some (.inl (t, n, .inl (upd f i.toNatClampNeg x))) else none
  | _ => none
def wll (e : Option PE) (i : Int32) (x : Int64) : Option PE := match e with
  | some (.inl (t', n, .inr (.inl f))) => if t' = 3 ∧ (0 ≤ i.toInt ∧ i.toInt < n) then some (.inl (3, n, .inr (.inl (vp_updL f i.toNatClampNeg x)))) else none
  | _ => none
/-- which class may stand in an array of that tag -/
def asg (t ci : Nat) : Bool := (t == 4 && ci == 7) || (t == 6 && ci == 1) || (t == 7 && ci == 5) || (t == 5 && (ci == 0 || ci == 3 || ci == 6 || ci == 8))
def wrl (e : Option PE) (i : Int32) (v : Nat) (ev : Option PE) : Option PE := match e with
  | some (.inl (t', n, .inr (.inr (.inr (.inr f))))) => match cob ev with
    | some ci => if asg t' ci = true ∧ (0 ≤ i.toInt ∧ i.toInt < n) then some (.inl (t', n, .inr (.inr (.inr (.inr (va_up f i.toNatClampNeg (some v))))))) else none
    | none => none
  | _ => none
def aln (e : Option PE) : Option Nat := match e with
  | some (.inl (t', n, _)) => if t' < 8 then some n else none
  | _ => none
def zar (t n : Nat) : PE := .inl (t, n, if t = 3 then .inr (.inl (fun _ => 0)) else if t < 3 then .inl (fun _ => 0) else .inr (.inr (.inr (.inr (fun _ => none)))))
def tgA : ArrayType → Option Nat := fun a => match a with
  | .int => some 0
  | .byte => some 1
  | .boolean => some 2
  | .long => some 3
  | _ => none
def brc : ClassFile.Cond → Int32 → Bool := fun c x => match c with
  | .eq => decide (x = 0)
  | .ne => decide (¬ x = 0)
  | .lt => decide (x < 0)
  | .ge => decide (0 ≤ x)
  | .gt => decide (0 < x)
  | .le => decide (x ≤ 0)
def brd : ClassFile.Cond → Int32 → Int32 → Bool := fun c x y => match c with
  | .eq => decide (x = y)
  | .ne => decide (¬ x = y)
  | .lt => decide (x < y)
  | .ge => decide (y ≤ x)
  | .gt => decide (y < x)
  | .le => decide (x ≤ y)

def ld1 (ls : LL) (i : Nat) (k : Nat) (pc : Nat) (st : List Value) (h : Hp) (w : Nat) : Option (Nat × LL × List Value × Hp) := match lkp ls i with
  | some (.int x) => if k = 0 then some (pc + w, ls, .int x :: st, h) else none
  | some (.long x) => if k = 1 then some (pc + w, ls, .long x :: st, h) else none
  | some (.ref x) => if k = 2 then some (pc + w, ls, .ref x :: st, h) else none
  | some .null => if k = 2 then some (pc + w, ls, .null :: st, h) else none
  | _ => none
def st1 (ls : LL) (i : Nat) (k : Nat) (pc : Nat) (st : List Value) (h : Hp) (w : Nat) : Option (Nat × LL × List Value × Hp) := match st with
  | .int x :: r => if k = 0 ∧ i < ls.length then some (pc + w, sto ls i (.int x), r, h) else none
  | .long x :: r => if k = 1 ∧ i + 1 < ls.length then some (pc + w, (sto ls i (.long x)).set (i + 1) none, r, h) else none
  | .ref x :: r => if k = 2 ∧ i < ls.length then some (pc + w, sto ls i (.ref x), r, h) else none
  | .null :: r => if k = 2 ∧ i < ls.length then some (pc + w, sto ls i .null, r, h) else none
  | _ => none
/-- one instruction that calls nothing -/
def nx (scr : SC) (ini : Bool) (oc : Nat) (ins : Instr) (pc : Nat) (ls : LL) (st : List Value) (h : Hp) : Option (Nat × LL × List Value × Hp) := match ins with
  | .iconst n => some (pc + 1, ls, .int (Int32.ofInt n) :: st, h)
  | .bipush n => some (pc + 2, ls, .int (Int8.ofInt n).toInt32 :: st, h)
  | .sipush n => some (pc + 3, ls, .int (Int16.ofInt n).toInt32 :: st, h)
  | .lconst n => some (pc + 1, ls, .long (Int64.ofNat (n : Nat)) :: st, h)
  | .aconst_null => some (pc + 1, ls, .null :: st, h)
  | .ldc i => match ldf oc i with
    | some v => some (pc + 2, ls, .int v :: st, h)
    | none => none
  | .ldc_w i => match ldf oc i with
    | some v => some (pc + 3, ls, .int v :: st, h)
    | none => none
  | .iload_n k => ld1 ls (k : Nat) 0 pc st h 1
  | .lload_n k => ld1 ls (k : Nat) 1 pc st h 1
  | .aload_n k => ld1 ls (k : Nat) 2 pc st h 1
  | .iload i => ld1 ls i 0 pc st h 2
  | .lload i => ld1 ls i 1 pc st h 2
  | .aload i => ld1 ls i 2 pc st h 2
  | .istore_n k => st1 ls (k : Nat) 0 pc st h 1
  | .lstore_n k => st1 ls (k : Nat) 1 pc st h 1
  | .astore_n k => st1 ls (k : Nat) 2 pc st h 1
  | .istore i => st1 ls i 0 pc st h 2
  | .lstore i => st1 ls i 1 pc st h 2
  | .astore i => st1 ls i 2 pc st h 2
  | .iinc i n => match lkp ls i with
    | some (.int x) => if i < ls.length then some (pc + 3, sto ls i (.int (x + Int32.ofInt n)), st, h) else none
    | _ => none
  | .iadd => match st with
    | .int y :: .int x :: r => some (pc + 1, ls, .int (x + y) :: r, h)
    | _ => none
  | .isub => match st with
    | .int y :: .int x :: r => some (pc + 1, ls, .int (x - y) :: r, h)
    | _ => none
  | .imul => match st with
    | .int y :: .int x :: r => some (pc + 1, ls, .int (x * y) :: r, h)
    | _ => none
  | .idiv => match st with
    | .int y :: .int x :: r => if y = 0 then none else some (pc + 1, ls, .int (x / y) :: r, h)
    | _ => none
  | .irem => match st with
    | .int y :: .int x :: r => if y = 0 then none else some (pc + 1, ls, .int (x - x / y * y) :: r, h)
    | _ => none
  | .iand => match st with
    | .int y :: .int x :: r => some (pc + 1, ls, .int (x &&& y) :: r, h)
    | _ => none
  | .ior => match st with
    | .int y :: .int x :: r => some (pc + 1, ls, .int (x ||| y) :: r, h)
    | _ => none
  | .ixor => match st with
    | .int y :: .int x :: r => some (pc + 1, ls, .int (x ^^^ y) :: r, h)
    | _ => none
  | .ishl => match st with
    | .int y :: .int x :: r => some (pc + 1, ls, .int (x <<< (y &&& 31)) :: r, h)
    | _ => none
  | .ishr => match st with
    | .int y :: .int x :: r => some (pc + 1, ls, .int (x >>> (y &&& 31)) :: r, h)
    | _ => none
  | .iushr => match st with
    | .int y :: .int x :: r => some (pc + 1, ls, .int (x.toUInt32 >>> (y.toUInt32 &&& Int32.toUInt32 31)).toInt32 :: r, h)
    | _ => none
  | .ladd => match st with
    | .long y :: .long x :: r => some (pc + 1, ls, .long (x + y) :: r, h)
    | _ => none
  | .land => match st with
    | .long y :: .long x :: r => some (pc + 1, ls, .long (x &&& y) :: r, h)
    | _ => none
  | .lor => match st with
    | .long y :: .long x :: r => some (pc + 1, ls, .long (x ||| y) :: r, h)
    | _ => none
  | .lxor => match st with
    | .long y :: .long x :: r => some (pc + 1, ls, .long (x ^^^ y) :: r, h)
    | _ => none
  | .lshl => match st with
    | .int y :: .long x :: r => some (pc + 1, ls, .long (x <<< (y.toInt64 &&& 63)) :: r, h)
    | _ => none
  | .lshr => match st with
    | .int y :: .long x :: r => some (pc + 1, ls, .long (x >>> (y.toInt64 &&& 63)) :: r, h)
    | _ => none
  | .lcmp => match st with
    | .long y :: .long x :: r => some (pc + 1, ls, .int (lg_cmp x y) :: r, h)
    | _ => none
  | .i2l => match st with
    | .int x :: r => some (pc + 1, ls, .long x.toInt64 :: r, h)
    | _ => none
  | .l2i => match st with
    | .long x :: r => some (pc + 1, ls, .int x.toInt32 :: r, h)
    | _ => none
  | .i2b => match st with
    | .int x :: r => some (pc + 1, ls, .int x.toInt8.toInt32 :: r, h)
    | _ => none
  | .dup => match st with
    | v :: r => if v.category = 1 then some (pc + 1, ls, v :: v :: r, h) else none
    | _ => none
  | .pop => match st with
    | v :: r => if v.category = 1 then some (pc + 1, ls, r, h) else none
    | _ => none
  | .dup_x1 => match st with
    | v :: w :: r => if v.category = 1 ∧ w.category = 1 then some (pc + 1, ls, v :: w :: v :: r, h) else none
    | _ => none
  | .dup2 => match st with
    | v :: w :: r => if v.category = 1 ∧ w.category = 1 then some (pc + 1, ls, v :: w :: v :: w :: r, h) else none
    | _ => none
  | .ifCond c off => match st with
    | .int x :: r => match tg pc off with
      | some t => some (if brc c x = true then t else pc + 3, ls, r, h)
      | none => none
    | _ => none
  | .if_icmp c off => match st with
    | .int y :: .int x :: r => match tg pc off with
      | some t => some (if brd c x y = true then t else pc + 3, ls, r, h)
      | none => none
    | _ => none
  | .if_acmp c off => match st, c with
    | .ref y :: .ref x :: r, .ne => match tg pc off with
      | some t => some (if x = y then pc + 3 else t, ls, r, h)
      | none => none
    | .ref _ :: .null :: r, .ne => match tg pc off with
      | some t => some (t, ls, r, h)
      | none => none
    | _, _ => none
  | .ifnull off => match st with
    | .ref _ :: r => some (pc + 3, ls, r, h)
    | .null :: r => match tg pc off with
      | some t => some (t, ls, r, h)
      | none => none
    | _ => none
  | .ifnonnull off => match st with
    | .null :: r => some (pc + 3, ls, r, h)
    | .ref _ :: r => match tg pc off with
      | some t => some (t, ls, r, h)
      | none => none
    | _ => none
  | .goto off => match tg pc off with
    | some t => some (t, ls, st, h)
    | none => none
  | .tableswitch df lo hi offs => match st with
    | .int x :: r => if x.toInt < lo ∨ hi < x.toInt then (match tg pc df with
        | some t => some (t, ls, r, h)
        | none => none)
      else match offs[(x.toInt - lo).toNat]? with
        | some off => (match tg pc off with
          | some t => some (t, ls, r, h)
          | none => none)
        | none => none
    | _ => none
  | .lookupswitch df ps => match st with
    | .int x :: r => if (ps.toList.zip (ps.toList.drop 1)).all (fun (a, next) => a.1 < next.1) = true then (match tg pc (Op.lookupswitch.offset ps.toList df x.toInt) with
        | some t => some (t, ls, r, h)
        | none => none)
      else none
    | _ => none
  | .getfield i => match st with
    | .ref a :: r => match gfl oc i (h.2.2 a) with
      | some v => some (pc + 3, ls, v :: r, h)
      | none => none
    | _ => none
  | .putfield i => match st with
    | v :: .ref a :: r => match pfl ini oc i (h.2.2 a) v with
      | some e => some (pc + 3, ls, r, (h.1, h.2.1, hup h.2.2 a e))
      | none => none
    | _ => none
  | .iaload => match st with
    | .int i :: .ref a :: r => match scr with
      | some (b, n, xs) => if a = b then (if 0 ≤ i.toInt ∧ i.toInt < n then some (pc + 1, ls, .int (xs i.toNatClampNeg) :: r, h) else none) else (match ral 0 (h.2.2 a) i with
        | some v => some (pc + 1, ls, .int v :: r, h)
        | none => none)
      | none => match ral 0 (h.2.2 a) i with
        | some v => some (pc + 1, ls, .int v :: r, h)
        | none => none
    | _ => none
  | .baload => match st with
    | .int i :: .ref a :: r => match ral 1 (h.2.2 a) i with
      | some v => some (pc + 1, ls, .int v :: r, h)
      | none => match ral 2 (h.2.2 a) i with
        | some v => some (pc + 1, ls, .int v :: r, h)
        | none => none
    | _ => none
  | .laload => match st with
    | .int i :: .ref a :: r => match rll (h.2.2 a) i with
      | some v => some (pc + 1, ls, .long v :: r, h)
      | none => none
    | _ => none
  | .aaload => match st with
    | .int i :: .ref a :: r => match rrl (h.2.2 a) i with
      | some v => some (pc + 1, ls, va_rf v :: r, h)
      | none => none
    | _ => none
  | .iastore => match st with
    | .int x :: .int i :: .ref a :: r => match wal 0 (h.2.2 a) i x with
      | some e => some (pc + 1, ls, r, (h.1, h.2.1, hup h.2.2 a e))
      | none => none
    | _ => none
  | .bastore => match st with
    | .int x :: .int i :: .ref a :: r => match wal 1 (h.2.2 a) i (vp_nar .byte x) with
      | some e => some (pc + 1, ls, r, (h.1, h.2.1, hup h.2.2 a e))
      | none => match wal 2 (h.2.2 a) i (vp_nar .boolean x) with
        | some e => some (pc + 1, ls, r, (h.1, h.2.1, hup h.2.2 a e))
        | none => none
    | _ => none
  | .lastore => match st with
    | .long x :: .int i :: .ref a :: r => match wll (h.2.2 a) i x with
      | some e => some (pc + 1, ls, r, (h.1, h.2.1, hup h.2.2 a e))
      | none => none
    | _ => none
  | .aastore => match st with
    | .ref v :: .int i :: .ref a :: r => match wrl (h.2.2 a) i v (h.2.2 v) with
      | some e => some (pc + 1, ls, r, (h.1, h.2.1, hup h.2.2 a e))
      | none => none
    | _ => none
  | .arraylength => match st with
    | .ref a :: r => match scr with
      | some (b, n, xs) => if a = b then some (pc + 1, ls, .int (nI n) :: r, h) else (match aln (h.2.2 a) with
        | some v => some (pc + 1, ls, .int (nI v) :: r, h)
        | none => none)
      | none => match aln (h.2.2 a) with
        | some v => some (pc + 1, ls, .int (nI v) :: r, h)
        | none => none
    | _ => none
  | .new i => match ntf oc i with
    | some ci => some (pc + 3, ls, .ref h.1 :: st, (h.1 + 1, h.2.1 + ciN ci, hup h.2.2 h.1 (.inr (ci, cdf ci))))
    | none => none
  | .newarray ty => match st, tgA ty with
    | .int n :: r, some t => if 0 ≤ n.toInt ∧ n.toInt ≤ 60000000 then some (pc + 2, ls, .ref h.1 :: r, (h.1 + 1, h.2.1 + n.toNatClampNeg, hup h.2.2 h.1 (zar t n.toNatClampNeg))) else none
    | _, _ => none
  | .anewarray i => match st, atf oc i with
    | .int n :: r, some t => if 0 ≤ n.toInt ∧ n.toInt ≤ 60000000 then some (pc + 3, ls, .ref h.1 :: r, (h.1 + 1, h.2.1 + n.toNatClampNeg, hup h.2.2 h.1 (zar t n.toNatClampNeg))) else none
    | _, _ => none
  | _ => none
/-- Object's constructor, and Math's max, min -/
def ntv (oc : Nat) (ins : Instr) (st : List Value) (h : Hp) : Option (List Value × Hp) := match ins with
  | .invokespecial i => match st with
    | .ref _ :: r => if (itL.contains (oc, i)) = true ∧ wid r ≤ 8 then some (r, h) else none
    | _ => none
  | .invokestatic i => match st with
    | .int y :: .int x :: r => match mxf oc i with
      | some k => if wid r ≤ 8 then some (.int (if k = 0 then (if x < y then y else x) else (if y < x then y else x)) :: r, h) else none
      | none => none
    | _ => none
  | _ => none
/-- arraycopy -/
def ntc (oc : Nat) (ins : Instr) (st : List Value) (h : Hp) : Option (List Value × Hp) := match ins with
  | .invokestatic i => match st with
    | .int n :: .int dp :: .ref b :: .int sp :: .ref a :: r => match h.2.2 a, h.2.2 b with
      | some (.inl (t, n0, .inl f)), some (.inl (t', n1, .inl g)) =>
        if (ctL.contains (oc, i)) = true ∧ wid r ≤ 8 ∧ t < 2 ∧ t' = t ∧ 0 ≤ n.toInt ∧ 0 ≤ dp.toInt ∧ 0 ≤ sp.toInt ∧ sp.toNatClampNeg + n.toNatClampNeg ≤ n0 ∧ dp.toNatClampNeg + n.toNatClampNeg ≤ n1 ∧ (t = 1 → ∀ k, k < n.toNatClampNeg → fits .byte (.int (f (sp.toNatClampNeg + k))) = true) then
          some (r, (h.1, h.2.1, hup h.2.2 b (.inl (t', n1, .inl (va_cpy f g sp.toNatClampNeg dp.toNatClampNeg n.toNatClampNeg)))))
        else none
      | _, _ => none
    | _ => none
  | _ => none
/-- which method is called: its number, its arguments, the stack below -/
def clv (oc i : Nat) (sp : Bool) (st : List Value) (h : Hp) : Option (Nat × List Value × List Value) := match cvn oc i with
  | some n => match st[n]? with
    | some (.ref a) => match cob (h.2.2 a) with
      | some ci => match cvt oc i ci sp with
        | some (y, n') => if n' = n ∧ wid (st.drop (n + 1)) ≤ 8 then some (y, .ref a :: (st.take n).reverse, st.drop (n + 1)) else none
        | none => none
      | none => none
    | _ => none
  | none => none
def cli (oc : Nat) (ins : Instr) (st : List Value) (h : Hp) : Option (Nat × List Value × List Value) := match ins with
  | .invokestatic i => match cst oc i with
    | some (y, n) => if n ≤ st.length ∧ wid (st.drop n) ≤ 8 then some (y, (st.take n).reverse, st.drop n) else none
    | none => none
  | .invokevirtual i => clv oc i false st h
  | .invokespecial i => clv oc i true st h
  | _ => none
def entL (as : List Value) : LL := as.flatMap (fun v => if v.category = 2 then [some v, none] else [some v])
def ent (n : Nat) (as : List Value) : LL := entL as ++ List.replicate (n - (entL as).length) none
def rti (r : Option FieldType) (ins : Instr) (st : List Value) : Option (Option Value) := match ins with
  | .return_ => match st with
    | [] => if r = none then some none else none
    | _ => none
  | .ireturn => match st with
    | [.int x] => if r = some .int ∨ (r = some .boolean ∧ (x = 0 ∨ x = 1)) then some (some (.int x)) else none
    | _ => none
  | .lreturn => match st with
    | [.long x] => if r = some .long then some (some (.long x)) else none
    | _ => none
  | .areturn => match st with
    | [.ref a] => match r with
      | some (.object _) => some (some (.ref a))
      | some (.array _) => some (some (.ref a))
      | _ => none
    | _ => none
  | _ => none
def prog (mi pc : Nat) : Option (Instr × Nat) := match decode (mtd mi).2.2.1 pc with
  | .ok x => some x
  | .error _ => none
def isIn0 (mi : Nat) : Bool := (mtd mi).2.1.name == "<init>"
abbrev SP : Type := Nat → Nat → List Value → Hp → Option (List Value × Hp)
def sp0 : SP := fun _ _ _ _ => none
/-- a run: n bounds the steps, d the calls that stand open; sp: what single instructions of their own answer -/
def run : SP → Nat → SC → Nat → Nat → Nat → LL → List Value → Hp → Option (Option Value × Hp)
  | _, 0, _, _, _, _, _, _, _ => none
  | sp, n + 1, scr, d, mi, pc, ls, st, h => match prog mi pc with
    | none => none
    | some (ins, len) => if len = ilen ins ∨ isTs ins = true then
        (match rti (mtd mi).2.2.2.2 ins st with
        | some v => some (v, h)
        | none => match cli (mtd mi).1 ins st h with
          | some (y, as, rest) => (match d with
            | 0 => none
            | d' + 1 => if ls.length = (mtd mi).2.2.2.1 ∧ (entL as).length ≤ (mtd y).2.2.2.1 then (match run sp0 n none d' y 0 (ent (mtd y).2.2.2.1 as) [] h with
              | some (v, h') => run sp n scr (d' + 1) mi (pc + 3) ls (v.toList ++ rest) h'
              | none => none) else none)
          | none => match (ntv (mtd mi).1 ins st h).or (ntc (mtd mi).1 ins st h) with
            | some (st', h') => if d = 0 ∨ ls.length ≠ (mtd mi).2.2.2.1 then none else run sp n scr d mi (pc + 3) ls st' h'
            | none => match sp mi pc st h with
              | some (st', h') => if d = 0 ∨ ls.length ≠ (mtd mi).2.2.2.1 then none else run sp n scr d mi (pc + 3) ls st' h'
              | none => match nx scr (isIn0 mi) (mtd mi).1 ins pc ls st h with
                | some (pc', ls', st', h') => run sp n scr d mi pc' ls' st' h'
                | none => none)
      else none
