/-! A SMALL MACHINE OF ITS OWN over the listed code: a store of numbered objects, a step, a run with fuel. All later parts speak of it; part 05 shows that what it answers the claim's machine answers. -/
abbrev zSt : Type := (Nat → Nat → Int32) × (Nat → Nat → Int64) × (Nat → Nat → Option Nat) × Nat
def zI (σ : zSt) (o k : Nat) : Int32 := σ.1 o k
def zL (σ : zSt) (o k : Nat) : Int64 := σ.2.1 o k
def zR (σ : zSt) (o k : Nat) : Option Nat := σ.2.2.1 o k
def zN (σ : zSt) : Nat := σ.2.2.2
/-- one place is written -/
def zwI (σ : zSt) (o k : Nat) (v : Int32) : zSt := (va_up σ.1 o (va_up (σ.1 o) k v), σ.2)
def zwL (σ : zSt) (o k : Nat) (v : Int64) : zSt := (σ.1, va_up σ.2.1 o (va_up (σ.2.1 o) k v), σ.2.2)
def zwR (σ : zSt) (o k : Nat) (v : Option Nat) : zSt := (σ.1, σ.2.1, va_up σ.2.2.1 o (va_up (σ.2.2.1 o) k v), σ.2.2.2)
/-- a whole row is written -/
def zrI (σ : zSt) (o : Nat) (f : Nat → Int32) : zSt := (va_up σ.1 o f, σ.2)
def zrL (σ : zSt) (o : Nat) (f : Nat → Int64) : zSt := (σ.1, va_up σ.2.1 o f, σ.2.2)
def zrR (σ : zSt) (o : Nat) (f : Nat → Option Nat) : zSt := (σ.1, σ.2.1, va_up σ.2.2.1 o f, σ.2.2.2)
/-- a new object: the next number, all its places as born -/
def znew (σ : zSt) : zSt := (va_up σ.1 σ.2.2.2 (fun _ => 0), va_up σ.2.1 σ.2.2.2 (fun _ => 0), va_up σ.2.2.1 σ.2.2.2 (fun _ => none), σ.2.2.2 + 1)
/-- k new objects -/
def znews : Nat → zSt → zSt
  | 0, σ => σ
  | k + 1, σ => znews k (znew σ)
/-- what stands at each number: its kind (0 .. 10 objects by their class, 11 .. 18 arrays), its length -/
def zLY (o : Nat) : Nat × Nat := (zLYl[o]?).getD (13, 8)
abbrev zLv : Type := List (Nat × Value)
def zld (ls : zLv) (i : Nat) : Option Value := (ls.find? (fun q => q.1 == i)).map (fun q => q.2)
def zs1 (ls : zLv) (i : Nat) (v : Value) : zLv := (i, v) :: ls.filter (fun q => !(q.1 == i) && !(q.1 + 1 == i && q.2.category == 2))
def zs2 (ls : zLv) (i : Nat) (v : Value) : zLv := (i, v) :: ls.filter (fun q => !(q.1 == i) && (!(q.1 == i + 1) && !(q.1 + 1 == i && q.2.category == 2)))
abbrev zFr : Type := Nat × zLv × List Value × zSt
abbrev zRes : Type := Option (zFr ⊕ (zSt × Option Value))
def zgo (pc : Nat) (ls : zLv) (st : List Value) (σ : zSt) : zRes := some (.inl (pc, ls, st, σ))
def zjp (pc : Nat) (off : Int) : Nat := ((pc : Int) + off).toNat
def zii (st : List Value) (f : Int32 → Int32 → Value) : Option (List Value) := match st with
  | .int y :: .int x :: r => some (f x y :: r)
  | _ => none
def zi1 (st : List Value) (f : Int32 → Value) : Option (List Value) := match st with
  | .int x :: r => some (f x :: r)
  | _ => none
def zll (st : List Value) (f : Int64 → Int64 → Value) : Option (List Value) := match st with
  | .long y :: .long x :: r => some (f x y :: r)
  | _ => none
def zl1 (st : List Value) (f : Int64 → Value) : Option (List Value) := match st with
  | .long x :: r => some (f x :: r)
  | _ => none
def zli (st : List Value) (f : Int64 → Int32 → Value) : Option (List Value) := match st with
  | .int y :: .long x :: r => some (f x y :: r)
  | _ => none
def zdd (st : List Value) (f : UInt64 → UInt64 → Option Value) : Option (List Value) := match st with
  | .double y :: .double x :: r => (f x y).map (fun v => v :: r)
  | _ => none
def zd1 (st : List Value) (f : UInt64 → Option Value) : Option (List Value) := match st with
  | .double x :: r => (f x).map (fun v => v :: r)
  | _ => none
/-- a double, if it is a number -/
def zD (x : UInt64) : Option Value := if x &&& 0x7fffffffffffffff ≤ 0x7ff0000000000000 then some (.double x) else none
def zF (x : UInt32) : Option Value := if x &&& 0x7fffffff ≤ 0x7f800000 then some (.float x) else none
/-- the instructions that touch the stack alone -/
def zpst (i : Instr) (st : List Value) : Option (List Value) := match i with
  | .aconst_null => some (.null :: st)
  | .iconst n => some (.int (Int32.ofInt n) :: st)
  | .bipush n => some (.int (Int8.ofInt n).toInt32 :: st)
  | .sipush n => some (.int (Int16.ofInt n).toInt32 :: st)
  | .lconst n => some (.long (Int64.ofNat (n : Nat)) :: st)
  | .dconst 0 => some (.double 0 :: st)
  | .dconst 1 => some (.double 0x3ff0000000000000 :: st)
  | .iadd => zii st (fun x y => .int (x + y))
  | .isub => zii st (fun x y => .int (x - y))
  | .imul => zii st (fun x y => .int (x * y))
  | .iand => zii st (fun x y => .int (x &&& y))
  | .ior => zii st (fun x y => .int (x ||| y))
  | .ixor => zii st (fun x y => .int (x ^^^ y))
  | .ishl => zii st (fun x y => .int (x <<< (y &&& 31)))
  | .ishr => zii st (fun x y => .int (x >>> (y &&& 31)))
  | .iushr => zii st (fun x y => .int (x.toUInt32 >>> (y.toUInt32 &&& Int32.toUInt32 31)).toInt32)
  | .idiv => match st with
    | .int y :: .int x :: r => if y = 0 then none else some (.int (x / y) :: r)
    | _ => none
  | .irem => match st with
    | .int y :: .int x :: r => if y = 0 then none else some (.int (x - x / y * y) :: r)
    | _ => none
  | .ineg => zi1 st (fun x => .int (-x))
  | .i2l => zi1 st (fun x => .long x.toInt64)
  | .i2b => zi1 st (fun x => .int x.toInt8.toInt32)
  | .i2s => zi1 st (fun x => .int x.toInt16.toInt32)
  | .i2c => zi1 st (fun x => .int (x.toUInt32 % 65536).toInt32)
  | .i2d => zi1 st (fun x => .double (FP.i2d x))
  | .ladd => zll st (fun x y => .long (x + y))
  | .lsub => zll st (fun x y => .long (x - y))
  | .lmul => zll st (fun x y => .long (x * y))
  | .land => zll st (fun x y => .long (x &&& y))
  | .lor => zll st (fun x y => .long (x ||| y))
  | .lxor => zll st (fun x y => .long (x ^^^ y))
  | .lcmp => zll st (fun x y => .int (lg_cmp x y))
  | .ldiv => match st with
    | .long y :: .long x :: r => if y = 0 then none else some (.long (x / y) :: r)
    | _ => none
  | .lrem => match st with
    | .long y :: .long x :: r => if y = 0 then none else some (.long (x - x / y * y) :: r)
    | _ => none
  | .lneg => zl1 st (fun x => .long (-x))
  | .l2i => zl1 st (fun x => .int x.toInt32)
  | .l2f => zl1 st (fun x => .float (FP.l2f x))
  | .l2d => zl1 st (fun x => .double (FP.l2d x))
  | .lshl => zli st (fun x y => .long (x <<< (y.toInt64 &&& 63)))
  | .lshr => zli st (fun x y => .long (x >>> (y.toInt64 &&& 63)))
  | .lushr => zli st (fun x y => .long (x.toUInt64 >>> (y.toInt64.toUInt64 &&& Int64.toUInt64 63)).toInt64)
  | .dadd => zdd st (fun x y => zD (FP.dadd x y))
  | .dmul => zdd st (fun x y => zD (FP.dmul x y))
  | .ddiv => zdd st (fun x y => zD (FP.ddiv x y))
  | .dcmp op => zdd st (fun x y => some (.int (Op.cmpValue (FP.dcmp x y) op)))
  | .dneg => zd1 st (fun x => some (.double (FP.dneg x)))
  | .d2i => zd1 st (fun x => some (.int (FP.d2i x)))
  | .d2l => zd1 st (fun x => some (.long (FP.d2l x)))
  | .d2f => zd1 st (fun x => zF (FP.d2f x))
  | .f2d => match st with
    | .float x :: r => (zD (FP.f2d x)).map (fun v => v :: r)
    | _ => none
  | .fdiv => match st with
    | .float y :: .float x :: r => (zF (FP.fdiv x y)).map (fun v => v :: r)
    | _ => none
  | .fcmp op => match st with
    | .float y :: .float x :: r => some (.int (Op.cmpValue (FP.fcmp x y) op) :: r)
    | _ => none
  | .dup => match st with
    | .int x :: r => some (.int x :: .int x :: r)
    | .ref x :: r => some (.ref x :: .ref x :: r)
    | .null :: r => some (.null :: .null :: r)
    | _ => none
  | .dup2 => match st with
    | .long x :: r => some (.long x :: .long x :: r)
    | .int y :: .ref x :: r => some (.int y :: .ref x :: .int y :: .ref x :: r)
    | _ => none
  | .pop => match st with
    | .int _ :: r => some r
    | .ref _ :: r => some r
    | .null :: r => some r
    | _ => none
  | _ => none
/-- the branches: whether it is taken, by how much, what is left of the stack -/
def zbr (i : Instr) (st : List Value) : Option (Bool × Int × List Value) := match i with
  | .goto off => some (true, off, st)
  | .ifCond c off => match st with
    | .int x :: r => some (match c with
      | .eq => decide (x = 0)
      | .ne => decide (¬ x = 0)
      | .lt => decide (x < 0)
      | .ge => decide (0 ≤ x)
      | .gt => decide (0 < x)
      | .le => decide (x ≤ 0), off, r)
    | _ => none
  | .if_icmp c off => match st with
    | .int y :: .int x :: r => some (match c with
      | .eq => decide (x = y)
      | .ne => decide (¬ x = y)
      | .lt => decide (x < y)
      | .ge => decide (y ≤ x)
      | .gt => decide (y < x)
      | .le => decide (x ≤ y), off, r)
    | _ => none
  | .ifnull off => match st with
    | .null :: r => some (true, off, r)
    | .ref _ :: r => some (false, off, r)
    | _ => none
  | .ifnonnull off => match st with
    | .null :: r => some (false, off, r)
    | .ref _ :: r => some (true, off, r)
    | _ => none
  | .tableswitch dflt lo hi offs => match st with
    | .int x :: r => if x.toInt < lo ∨ hi < x.toInt then some (true, dflt, r) else (offs[(x.toInt - lo).toNat]?).map (fun o => (true, o, r))
    | _ => none
  | _ => none
/-- loads and stores of locals -/
def zloc (i : Instr) (ls : zLv) (st : List Value) : Option (zLv × List Value) := match i with
  | .iload k => match zld ls k with
    | some (.int x) => some (ls, .int x :: st)
    | _ => none
  | .iload_n k => match zld ls k with
    | some (.int x) => some (ls, .int x :: st)
    | _ => none
  | .lload k => match zld ls k with
    | some (.long x) => some (ls, .long x :: st)
    | _ => none
  | .lload_n k => match zld ls k with
    | some (.long x) => some (ls, .long x :: st)
    | _ => none
  | .dload k => match zld ls k with
    | some (.double x) => some (ls, .double x :: st)
    | _ => none
  | .dload_n k => match zld ls k with
    | some (.double x) => some (ls, .double x :: st)
    | _ => none
  | .fload_n k => match zld ls k with
    | some (.float x) => some (ls, .float x :: st)
    | _ => none
  | .aload k => match zld ls k with
    | some (.ref x) => some (ls, .ref x :: st)
    | some .null => some (ls, .null :: st)
    | _ => none
  | .aload_n k => match zld ls k with
    | some (.ref x) => some (ls, .ref x :: st)
    | some .null => some (ls, .null :: st)
    | _ => none
  | .istore k => match st with
    | .int x :: r => some (zs1 ls k (.int x), r)
    | _ => none
  | .istore_n k => match st with
    | .int x :: r => some (zs1 ls k (.int x), r)
    | _ => none
  | .astore k => match st with
    | .ref x :: r => some (zs1 ls k (.ref x), r)
    | .null :: r => some (zs1 ls k .null, r)
    | _ => none
  | .astore_n k => match st with
    | .ref x :: r => some (zs1 ls k (.ref x), r)
    | .null :: r => some (zs1 ls k .null, r)
    | _ => none
  | .lstore k => match st with
    | .long x :: r => some (zs2 ls k (.long x), r)
    | _ => none
  | .lstore_n k => match st with
    | .long x :: r => some (zs2 ls k (.long x), r)
    | _ => none
  | .dstore k => match st with
    | .double x :: r => some (zs2 ls k (.double x), r)
    | _ => none
  | .iinc k n => match zld ls k with
    | some (.int x) => some (zs1 ls k (.int (x + Int32.ofInt n)), st)
    | _ => none
  | _ => none
/-- what a place of an object holds, by the sort of the place: 0 an int, 1 a long, 2 a reference, 3 a yes or no -/
def zget (σ : zSt) (o k t : Nat) : Value := if t = 1 then .long (zL σ o k) else if t = 2 then va_rf (zR σ o k) else .int (zI σ o k)
def zbit (x : Int32) : Prop := x = 0 ∨ x = 1
/-- an index within -/
abbrev zin (i : Int32) (n : Nat) : Prop := ¬ (i < 0 ∨ n ≤ i.toNatClampNeg)
/-- fields, arrays: a getfield's number is 256 * class + 4 * place + sort -/
def zmem (i : Instr) (st : List Value) (σ : zSt) : Option (List Value × zSt) := match i with
  | .getfield x => match st with
    | .ref o :: r => if o < zN σ ∧ (zLY o).1 = x / 256 then some (zget σ o (x / 4 % 64) (x % 4) :: r, σ) else none
    | _ => none
  | .putfield x => match st with
    | v :: .ref o :: r => if o < zN σ ∧ (zLY o).1 = x / 256 then (match v with
      | .int n => if x % 4 = 0 ∨ (x % 4 = 3 ∧ (n = 0 ∨ n = 1)) then some (r, zwI σ o (x / 4 % 64) n) else none
      | .long n => if x % 4 = 1 then some (r, zwL σ o (x / 4 % 64) n) else none
      | .ref n => if x % 4 = 2 then some (r, zwR σ o (x / 4 % 64) (some n)) else none
      | .null => if x % 4 = 2 then some (r, zwR σ o (x / 4 % 64) none) else none
      | _ => none) else none
    | _ => none
  | .iaload => match st with
    | .int k :: .ref a :: r => if a = zSCR then (if zin k ((zR σ zSCR 0).getD 0) then some (.int (zI σ zSCR k.toNatClampNeg) :: r, σ) else none)
        else if a < zN σ ∧ (zLY a).1 = 12 ∧ zin k (zLY a).2 then some (.int (zI σ a k.toNatClampNeg) :: r, σ) else none
    | _ => none
  | .laload => match st with
    | .int k :: .ref a :: r => if a < zN σ ∧ (zLY a).1 = 13 ∧ zin k (zLY a).2 then some (.long (zL σ a k.toNatClampNeg) :: r, σ) else none
    | _ => none
  | .aaload => match st with
    | .int k :: .ref a :: r => if a < zN σ ∧ (15 ≤ (zLY a).1 ∧ (zLY a).1 ≤ 18) ∧ zin k (zLY a).2 then some (va_rf (zR σ a k.toNatClampNeg) :: r, σ) else none
    | _ => none
  | .iastore => match st with
    | .int v :: .int k :: .ref a :: r => if a < zN σ ∧ (zLY a).1 = 12 ∧ zin k (zLY a).2 then some (r, zwI σ a k.toNatClampNeg v) else none
    | _ => none
  | .lastore => match st with
    | .long v :: .int k :: .ref a :: r => if a < zN σ ∧ (zLY a).1 = 13 ∧ zin k (zLY a).2 then some (r, zwL σ a k.toNatClampNeg v) else none
    | _ => none
  | .aastore => match st with
    | .ref v :: .int k :: .ref a :: r => if a < zN σ ∧ v < zN σ ∧ ((zLY a).1, (zLY v).1) ∈ [(15, 2), (16, 5), (17, 6)] ∧ zin k (zLY a).2 then some (r, zwR σ a k.toNatClampNeg (some v)) else none
    | _ => none
  | .arraylength => match st with
    | .ref a :: r => if a = zSCR then some (.int (Int32.ofNat ((zR σ zSCR 0).getD 0)) :: r, σ)
        else if a < zN σ ∧ 11 ≤ (zLY a).1 ∧ (zLY a).1 ≤ 18 then some (.int (Int32.ofNat (zLY a).2) :: r, σ) else none
    | _ => none
  | _ => none
/-- new objects -/
def zaty : ArrayType → Nat
  | .int => 12
  | .long => 13
  | _ => 99
def zmak (i : Instr) (st : List Value) (σ : zSt) : Option (List Value × zSt) := match i with
  | .new c => if (zLY (zN σ)).1 = c ∧ c ≤ 10 then some (.ref (zN σ) :: st, znew σ) else none
  | .newarray t => match st with
    | .int n :: r => if zaty t ≤ 14 ∧ ¬ n < 0 ∧ zLY (zN σ) = (zaty t, n.toNatClampNeg) then some (.ref (zN σ) :: r, znew σ) else none
    | _ => none
  | .anewarray c => match st with
    | .int n :: r => if (c = 15 ∨ c = 16 ∨ c = 17) ∧ ¬ n < 0 ∧ zLY (zN σ) = (c, n.toNatClampNeg) then some (.ref (zN σ) :: r, znew σ) else none
    | _ => none
  | .multianewarray c d => match st with
    | .int k :: .int n :: r => if c = 18 ∧ d = 2 ∧ ¬ k < 0 ∧ ¬ n < 0 ∧ zLY (zN σ) = (18, n.toNatClampNeg) ∧ (∀ j, j < n.toNatClampNeg → zLY (zN σ + 1 + j) = (13, k.toNatClampNeg))
        then some (.ref (zN σ) :: r, zrR (znews (n.toNatClampNeg + 1) σ) (zN σ) (fun j => if j < n.toNatClampNeg then some (zN σ + 1 + j) else none)) else none
    | _ => none
  | _ => none
/-- constants: of the table beside the code -/
def zcst (i : Instr) (st : List Value) : Option (List Value) := match i with
  | .ldc j => (zCT[j]?).map (fun v => v :: st)
  | .ldc_w j => (zCT[j]?).map (fun v => v :: st)
  | .ldc2_w j => (zCT[j]?).map (fun v => v :: st)
  | _ => none
/-- answers: t the sort that the method's head asks for: 0 an int, 1 a yes or no, 2 anything else -/
def zret (i : Instr) (t : Nat) (st : List Value) : Option (Option Value) := match i with
  | .return_ => match st with
    | [] => some none
    | _ => none
  | .ireturn => match st with
    | [.int x] => if t = 0 ∨ (t = 1 ∧ (x = 0 ∨ x = 1)) then some (some (.int x)) else none
    | _ => none
  | .lreturn => match st with
    | [.long x] => some (some (.long x))
    | _ => none
  | .freturn => match st with
    | [.float x] => some (some (.float x))
    | _ => none
  | .dreturn => match st with
    | [.double x] => some (some (.double x))
    | _ => none
  | .areturn => match st with
    | [.ref x] => some (some (.ref x))
    | [.null] => some (some .null)
    | _ => none
  | _ => none
/-- one step that isn't a call -/
def zstp (i : Instr) (len t pc : Nat) (ls : zLv) (st : List Value) (σ : zSt) : zRes :=
  match zpst i st with
  | some st' => zgo (pc + len) ls st' σ
  | none => match zbr i st with
    | some (b, off, r) => zgo (if b then zjp pc off else pc + len) ls r σ
    | none => match zloc i ls st with
      | some (ls', st') => zgo (pc + len) ls' st' σ
      | none => match zmem i st σ with
        | some (st', σ') => zgo (pc + len) ls st' σ'
        | none => match zmak i st σ with
          | some (st', σ') => zgo (pc + len) ls st' σ'
          | none => match zcst i st with
            | some st' => zgo (pc + len) ls st' σ
            | none => match zret i t st with
              | some r => some (.inr (σ, r))
              | none => none
/-- calls: the number of the method that is called, whether by its receiver's class -/
def zcal : Instr → Option (Nat × Bool)
  | .invokevirtual n => some (n, true)
  | .invokestatic n => some (n, false)
  | .invokespecial n => some (n, true)
  | _ => none
/-- the receiver is an object of the method's class -/
def zrcv (y : Nat) (a : List Value) (σ : zSt) : Bool := match a with
  | .ref o :: _ => decide (o < zN σ) && ((zLY o).1 == zCI y)
  | _ => false
/-- the n uppermost values, the lowest first, and what is left -/
def zpop : Nat → List Value → Option (List Value × List Value)
  | 0, st => some ([], st)
  | n + 1, v :: st => (zpop n st).map (fun q => (q.1 ++ [v], q.2))
  | _ + 1, [] => none
/-- calls that no listed code answers: numbers from 900 on -/
def znat (n : Nat) (a : List Value) (σ : zSt) : Option (zSt × Option Value) := match n with
  | 900 => match a with
    | [.ref x, .int i, .ref y, .int j, .int k] =>
      if x < zN σ ∧ y < zN σ ∧ ¬ i < 0 ∧ ¬ j < 0 ∧ ¬ k < 0 ∧ i.toNatClampNeg + k.toNatClampNeg ≤ (zLY x).2 ∧ j.toNatClampNeg + k.toNatClampNeg ≤ (zLY y).2 ∧ (zLY x).1 = (zLY y).1 then
        (if (zLY x).1 = 12 then some (zrI σ y (va_cpy (zI σ x) (zI σ y) i.toNatClampNeg j.toNatClampNeg k.toNatClampNeg), none)
         else if (zLY x).1 = 13 then some (zrL σ y (va_cpy (zL σ x) (zL σ y) i.toNatClampNeg j.toNatClampNeg k.toNatClampNeg), none) else none) else none
    | _ => none
  | 901 => match a with
    | [.double x] => some (σ, some (.long x.toInt64))
    | _ => none
  | 902 => match a with
    | [.long x] => if vn_snl2d x = false then some (σ, some (.double x.toUInt64)) else none
    | _ => none
  | 903 => match a with
    | [.float x] => some (σ, some (.int x.toInt32))
    | _ => none
  | 904 => match a with
    | [.int x] => if vn_sni2f x = false then some (σ, some (.float x.toUInt32)) else none
    | _ => none
  | 905 => match a with
    | [.ref x] => if zSTR ≤ x ∧ ¬ zSTE ≤ x then some (σ, some (.int (Int32.ofNat (zTx (Nat.sub x zSTR)).length))) else none
    | _ => none
  | 906 => match a with
    | [.ref x, .int k] => if (zSTR ≤ x ∧ ¬ zSTE ≤ x) ∧ zin k (zTx (Nat.sub x zSTR)).length then some (σ, some (.int ((zTx (Nat.sub x zSTR)).getD k.toNatClampNeg 0))) else none
    | _ => none
  | 907 => match a with
    | [.ref _] => some (σ, none)
    | _ => none
  | _ => none
/-- THE RUN: n is the fuel -/
def zrun : Nat → zCode → Nat → zLv → List Value → zSt → Option (zSt × Option Value)
  | 0, _, _, _, _, _ => none
  | n + 1, c, pc, ls, st, σ => match c[pc]? with
    | some (some (i, len, t)) => match zcal i with
      | some (y, vt) => match zpop (zNA y) st with
        | some (a, r) => if (r.map (fun v => v.category)).sum ≤ 8 ∧ (900 ≤ y ∨ ((a.map (fun v => v.category)).sum ≤ zML y ∧ (vt = true → zrcv y a σ = true))) then
            (match (if 900 ≤ y then znat y a σ else zrun n (zcode y) 0 (lv_args 0 a) [] σ) with
              | some (σ', v) => zrun n c (pc + 3) ls (v.toList ++ r) σ'
              | none => none) else none
        | none => none
      | none => match zstp i len t pc ls st σ with
        | some (.inl (pc', ls', st', σ')) => zrun n c pc' ls' st' σ'
        | some (.inr q) => some q
        | none => none
    | _ => none
