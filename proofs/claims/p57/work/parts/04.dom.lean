/-! THE PURE MACHINE: a method's run as a function of numbers, lists and an abstract heap (part 04: the words; parts 05 to 09: that it is what the machine does) -/
/-- a cell: an array (its kind, its contents) or an object (its class, its fields); a reference is a place of the heap's list -/
abbrev sC : Type := (Nat × List Value) ⊕ (Nat × List Value)
abbrev sH : Type := List sC
abbrev sL : Type := List (Nat × Value)
/-- an instruction, its length, and what its index names -/
abbrev sE : Type := Instr × Nat × Nat × Nat
abbrev sR : Type := (Option Value ⊕ Nat) × sH
abbrev sT : Type := List (Nat × Nat × Nat × Nat)
/-- a method: name, bytes, locals, what it returns, parameters (without the receiver), its room of cells and slots, table, code -/
abbrev sM : Type := MethodName × ByteArray × Nat × Option FieldType × Nat × Nat × Nat × sT × (Nat → Option sE)
abbrev sK : Type := Nat × sL × List Value × sH × Nat × Nat
def mY (M : sM) : MethodName := M.1
def mB (M : sM) : ByteArray := M.2.1
def mL (M : sM) : Nat := M.2.2.1
def mR (M : sM) : Option FieldType := M.2.2.2.1
def mN (M : sM) : Nat := M.2.2.2.2.1
def mC (M : sM) : Nat := M.2.2.2.2.2.1
def mS (M : sM) : Nat := M.2.2.2.2.2.2.1
def mT (M : sM) : sT := M.2.2.2.2.2.2.2.1
def mE (M : sM) : Nat → Option sE := M.2.2.2.2.2.2.2.2
/-- the classes whose objects the heap holds -/
abbrev sCl : List vw_C := [(RX0, TX0, 5), (RX1, TX1, 3), (RX2, TX2, 5), (RX3, TX3, 6), (RX4, TX4, 7), (RX5, TX5, 4), (RX6, TX6, 3), (RX7, TX7, 9), (RX8, TX8, 20), (RX9, TX9, 48)]
def sFt (ci : Nat) : Nat → FieldType := match ci with
  | 0 => tyX0
  | 1 => tyX1
  | 2 => tyX2
  | 3 => tyX3
  | 4 => tyX4
  | 5 => tyX5
  | 6 => tyX6
  | 7 => tyX7
  | 8 => tyX8
  | _ => tyX9
def sNm (ci : Nat) : String := match ci with
  | 0 => RX0
  | 1 => RX1
  | 2 => RX2
  | 3 => RX3
  | 4 => RX4
  | 5 => RX5
  | 6 => RX6
  | 7 => RX7
  | 8 => RX8
  | _ => RX9
def sNf (ci : Nat) : Nat := match ci with
  | 0 => 5
  | 1 => 3
  | 2 => 5
  | 3 => 6
  | 4 => 7
  | 5 => 4
  | 6 => 3
  | 7 => 9
  | 8 => 20
  | _ => 48
/-- the kinds of arrays -/
def sTy (t : Nat) : FieldType := match t with
  | 0 => .int
  | 1 => .boolean
  | 2 => .long
  | 3 => .double
  | 4 => .array .int
  | n + 5 => .object (sNm n)
def sTn : Nat := 15
def iOf (v : Value) : Int32 := match v with
  | .int x => x
  | _ => 0
def lOf (v : Value) : Int64 := match v with
  | .long x => x
  | _ => 0
def dOf (v : Value) : UInt64 := match v with
  | .double x => x
  | _ => 0
def rOf (v : Value) : Value := match v with
  | .ref x => .ref x
  | _ => .null
/-- what a field of a type may hold -/
def sFit (ty : FieldType) (v : Value) : Bool := match ty, v with
  | .int, .int _ => true
  | .long, .long _ => true
  | .float, .float _ => true
  | .double, .double _ => true
  | .boolean, .int x => decide (x = 0) || decide (x = 1)
  | .object _, .ref _ => true
  | .object _, .null => true
  | .array _, .ref _ => true
  | .array _, .null => true
  | _, _ => false
/-- the exceptions that the class throws -/
def sEx (k : Nat) : String := match k with
  | 0 => "java/lang/IllegalArgumentException"
  | 1 => "java/lang/IllegalStateException"
  | 2 => "java/lang/IndexOutOfBoundsException"
  | 3 => "java/lang/UnsupportedOperationException"
  | 4 => "java/util/NoSuchElementException"
  | _ => "java/lang/ArithmeticException"
/-! the locals -/
def sLk (i : Nat) : sL → Option Value
  | [] => none
  | q :: l => if q.1 = i then some q.2 else sLk i l
def sDr (i : Nat) (l : sL) : sL := l.filter (fun q => !(q.1 == i) && !(q.1 + 1 == i && q.2.category == 2))
def sS1 (i : Nat) (v : Value) (l : sL) : sL := (i, v) :: sDr i l
def sS2 (i : Nat) (v : Value) (l : sL) : sL := (i, v) :: l.filter (fun q => !(q.1 == i) && (!(q.1 == i + 1) && !(q.1 + 1 == i && q.2.category == 2)))
def sTg (pc : Nat) (off : Int) : Option Nat := if 0 ≤ (pc : Int) + off then some ((pc : Int) + off).toNat else none
abbrev sPr : Type := Option (Nat × sL × List Value)
def sLdI (pc i : Nat) (l : sL) (st : List Value) : sPr := match sLk i l with
  | some (.int x) => some (pc, l, .int x :: st)
  | _ => none
def sLdL (pc i : Nat) (l : sL) (st : List Value) : sPr := match sLk i l with
  | some (.long x) => some (pc, l, .long x :: st)
  | _ => none
def sLdF (pc i : Nat) (l : sL) (st : List Value) : sPr := match sLk i l with
  | some (.float x) => some (pc, l, .float x :: st)
  | _ => none
def sLdD (pc i : Nat) (l : sL) (st : List Value) : sPr := match sLk i l with
  | some (.double x) => some (pc, l, .double x :: st)
  | _ => none
def sLdA (pc i : Nat) (l : sL) (st : List Value) : sPr := match sLk i l with
  | some (.ref x) => some (pc, l, .ref x :: st)
  | some (.retAddr x) => some (pc, l, .retAddr x :: st)
  | _ => none
def sStI (nL pc i : Nat) (l : sL) (st : List Value) : sPr := match st with
  | .int x :: r => if i < nL then some (pc, sS1 i (.int x) l, r) else none
  | _ => none
def sStA (nL pc i : Nat) (l : sL) (st : List Value) : sPr := match st with
  | .ref x :: r => if i < nL then some (pc, sS1 i (.ref x) l, r) else none
  | _ => none
def sStF (nL pc i : Nat) (l : sL) (st : List Value) : sPr := match st with
  | .float x :: r => if i < nL then some (pc, sS1 i (.float x) l, r) else none
  | _ => none
def sStL (nL pc i : Nat) (l : sL) (st : List Value) : sPr := match st with
  | .long x :: r => if i + 1 < nL then some (pc, sS2 i (.long x) l, r) else none
  | _ => none
def sStD (nL pc i : Nat) (l : sL) (st : List Value) : sPr := match st with
  | .double x :: r => if i + 1 < nL then some (pc, sS2 i (.double x) l, r) else none
  | _ => none
def sBi (f : Int32 → Int32 → Int32) (pc : Nat) (l : sL) (st : List Value) : sPr := match st with
  | .int y :: .int x :: r => some (pc, l, .int (f x y) :: r)
  | _ => none
def sBl (f : Int64 → Int64 → Int64) (pc : Nat) (l : sL) (st : List Value) : sPr := match st with
  | .long y :: .long x :: r => some (pc, l, .long (f x y) :: r)
  | _ => none
def sBs (f : Int64 → Int32 → Int64) (pc : Nat) (l : sL) (st : List Value) : sPr := match st with
  | .int y :: .long x :: r => some (pc, l, .long (f x y) :: r)
  | _ => none
def sIf (c : Int32 → Bool) (pc : Nat) (off : Int) (l : sL) (st : List Value) : sPr := match st with
  | .int x :: r => match sTg pc off with
    | some t => some (cond (c x) t (pc + 3), l, r)
    | none => none
  | _ => none
def sIc (c : Int32 → Int32 → Bool) (pc : Nat) (off : Int) (l : sL) (st : List Value) : sPr := match st with
  | .int y :: .int x :: r => match sTg pc off with
    | some t => some (cond (c x y) t (pc + 3), l, r)
    | none => none
  | _ => none
def sCv (f : Value → Option Value) (pc : Nat) (l : sL) (st : List Value) : sPr := match st with
  | v :: r => match f v with
    | some w => some (pc, l, w :: r)
    | none => none
  | _ => none
def vI2l (v : Value) : Option Value := match v with
  | .int x => some (.long x.toInt64)
  | _ => none
def vL2i (v : Value) : Option Value := match v with
  | .long x => some (.int x.toInt32)
  | _ => none
def vI2f (v : Value) : Option Value := match v with
  | .int x => some (.float (FP.i2f x))
  | _ => none
def vI2d (v : Value) : Option Value := match v with
  | .int x => some (.double (FP.i2d x))
  | _ => none
def vF2d (v : Value) : Option Value := match v with
  | .float x => if FP.f2d x &&& 0x7fffffffffffffff ≤ 0x7ff0000000000000 then some (.double (FP.f2d x)) else none
  | _ => none
def vNeg (v : Value) : Option Value := match v with
  | .int x => some (.int (-x))
  | _ => none
/-- how long an instruction is -/
def sLen (i : Instr) : Nat := match i with
  | .bipush _ | .iload _ | .lload _ | .fload _ | .dload _ | .aload _ | .istore _ | .lstore _ | .fstore _ | .dstore _ | .astore _ | .ldc _ | .newarray _ => 2
  | .sipush _ | .iinc _ _ | .goto _ | .ifCond _ _ | .if_icmp _ _ | .ldc_w _ | .ldc2_w _ | .getfield _ | .putfield _ | .new _ | .anewarray _ | .invokestatic _ | .invokevirtual _ | .invokespecial _ => 3
  | .multianewarray _ _ => 4
  | _ => 1
/-- an instruction of the locals and the stack alone -/
def sP (nL : Nat) (i : Instr) (pc : Nat) (l : sL) (st : List Value) : sPr := match i with
  | .iload_n k => sLdI (pc + 1) k l st
  | .aload_n k => sLdA (pc + 1) k l st
  | .iconst n => some (pc + 1, l, .int (Int32.ofInt n) :: st)
  | .iload k => sLdI (pc + 2) k l st
  | .goto off => match sTg pc off with
    | some t => some (t, l, st)
    | none => none
  | .iadd => sBi (fun x y => x + y) (pc + 1) l st
  | .ifCond .eq off => sIf (fun x => decide (x = 0)) pc off l st
  | .ifCond .ne off => sIf (fun x => decide (¬ x = 0)) pc off l st
  | .ifCond .lt off => sIf (fun x => decide (x < 0)) pc off l st
  | .ifCond .ge off => sIf (fun x => decide (0 ≤ x)) pc off l st
  | .ifCond .gt off => sIf (fun x => decide (0 < x)) pc off l st
  | .ifCond .le off => sIf (fun x => decide (x ≤ 0)) pc off l st
  | .if_icmp .eq off => sIc (fun x y => decide (x = y)) pc off l st
  | .if_icmp .ne off => sIc (fun x y => decide (¬ x = y)) pc off l st
  | .if_icmp .lt off => sIc (fun x y => decide (x < y)) pc off l st
  | .if_icmp .ge off => sIc (fun x y => decide (y ≤ x)) pc off l st
  | .if_icmp .gt off => sIc (fun x y => decide (y < x)) pc off l st
  | .if_icmp .le off => sIc (fun x y => decide (x ≤ y)) pc off l st
  | .istore k => sStI nL (pc + 2) k l st
  | .istore_n k => sStI nL (pc + 1) k l st
  | .iinc k n => match sLk k l with
    | some (.int x) => if k < nL then some (pc + 3, sS1 k (.int (x + Int32.ofInt n)) l, st) else none
    | _ => none
  | .bipush n => some (pc + 2, l, .int (Int8.ofInt n).toInt32 :: st)
  | .sipush n => some (pc + 3, l, .int (Int16.ofInt n).toInt32 :: st)
  | .lconst n => some (pc + 1, l, .long (Int64.ofNat (n : Nat)) :: st)
  | .aload k => sLdA (pc + 2) k l st
  | .lload k => sLdL (pc + 2) k l st
  | .lload_n k => sLdL (pc + 1) k l st
  | .fload k => sLdF (pc + 2) k l st
  | .fload_n k => sLdF (pc + 1) k l st
  | .dload k => sLdD (pc + 2) k l st
  | .dload_n k => sLdD (pc + 1) k l st
  | .astore k => sStA nL (pc + 2) k l st
  | .astore_n k => sStA nL (pc + 1) k l st
  | .lstore k => sStL nL (pc + 2) k l st
  | .lstore_n k => sStL nL (pc + 1) k l st
  | .fstore k => sStF nL (pc + 2) k l st
  | .fstore_n k => sStF nL (pc + 1) k l st
  | .dstore k => sStD nL (pc + 2) k l st
  | .dstore_n k => sStD nL (pc + 1) k l st
  | .isub => sBi (fun x y => x - y) (pc + 1) l st
  | .imul => sBi (fun x y => x * y) (pc + 1) l st
  | .iand => sBi (fun x y => x &&& y) (pc + 1) l st
  | .ior => sBi (fun x y => x ||| y) (pc + 1) l st
  | .ixor => sBi (fun x y => x ^^^ y) (pc + 1) l st
  | .ishl => sBi (fun x y => x <<< (y &&& 31)) (pc + 1) l st
  | .ishr => sBi (fun x y => x >>> (y &&& 31)) (pc + 1) l st
  | .iushr => sBi (fun x y => (x.toUInt32 >>> (y.toUInt32 &&& Int32.toUInt32 31)).toInt32) (pc + 1) l st
  | .idiv => match st with
    | .int y :: .int x :: r => if y = 0 then none else some (pc + 1, l, .int (x / y) :: r)
    | _ => none
  | .irem => match st with
    | .int y :: .int x :: r => if y = 0 then none else some (pc + 1, l, .int (x - x / y * y) :: r)
    | _ => none
  | .ineg => sCv vNeg (pc + 1) l st
  | .ladd => sBl (fun x y => x + y) (pc + 1) l st
  | .lsub => sBl (fun x y => x - y) (pc + 1) l st
  | .lmul => sBl (fun x y => x * y) (pc + 1) l st
  | .land => sBl (fun x y => x &&& y) (pc + 1) l st
  | .lor => sBl (fun x y => x ||| y) (pc + 1) l st
  | .lxor => sBl (fun x y => x ^^^ y) (pc + 1) l st
  | .lshl => sBs (fun x y => x <<< (y.toInt64 &&& 63)) (pc + 1) l st
  | .lshr => sBs (fun x y => x >>> (y.toInt64 &&& 63)) (pc + 1) l st
  | .lushr => sBs (fun x y => (x.toUInt64 >>> (y.toInt64.toUInt64 &&& Int64.toUInt64 63)).toInt64) (pc + 1) l st
  | .lcmp => match st with
    | .long y :: .long x :: r => some (pc + 1, l, .int (lg_cmp x y) :: r)
    | _ => none
  | .fcmp op => match st with
    | .float y :: .float x :: r => some (pc + 1, l, .int (Op.cmpValue (FP.fcmp x y) op) :: r)
    | _ => none
  | .dcmp op => match st with
    | .double y :: .double x :: r => some (pc + 1, l, .int (Op.cmpValue (FP.dcmp x y) op) :: r)
    | _ => none
  | .fdiv => match st with
    | .float y :: .float x :: r => if FP.fdiv x y &&& 0x7fffffff ≤ 0x7f800000 then some (pc + 1, l, .float (FP.fdiv x y) :: r) else none
    | _ => none
  | .ddiv => match st with
    | .double y :: .double x :: r => if FP.ddiv x y &&& 0x7fffffffffffffff ≤ 0x7ff0000000000000 then some (pc + 1, l, .double (FP.ddiv x y) :: r) else none
    | _ => none
  | .fconst n => if n = 0 then some (pc + 1, l, .float FP.fconst0 :: st) else none
  | .dconst n => if n = 0 then some (pc + 1, l, .double FP.dconst0 :: st) else none
  | .i2l => sCv vI2l (pc + 1) l st
  | .l2i => sCv vL2i (pc + 1) l st
  | .i2f => sCv vI2f (pc + 1) l st
  | .i2d => sCv vI2d (pc + 1) l st
  | .f2d => sCv vF2d (pc + 1) l st
  | .dup => match st with
    | v :: r => if v.category = 1 then some (pc + 1, l, v :: v :: r) else none
    | _ => none
  | .dup2 => match st with
    | v :: w :: r => if v.category = 1 ∧ w.category = 1 then some (pc + 1, l, v :: w :: v :: w :: r) else none
    | _ => none
  | .pop => match st with
    | v :: r => if v.category = 1 then some (pc + 1, l, r) else none
    | _ => none
  | .pop2 => match st with
    | v :: r => if v.category = 2 then some (pc + 1, l, r) else none
    | _ => none
  | .tableswitch dflt lo hi offs => match st with
    | .int x :: r => if x.toInt < lo ∨ hi < x.toInt then (match sTg pc dflt with
        | some t => some (t, l, r)
        | none => none) else (match offs[(x.toInt - lo).toNat]? with
        | some off => (match sTg pc off with
          | some t => some (t, l, r)
          | none => none)
        | none => none)
    | _ => none
  | _ => none
