/-! J: the pure interpreter. A value is the machine's own kind of value; a ref below 64 names a thing outside (a text, or 63: the script), a ref 64 + k the heap's cell k. -/
abbrev jL : Type := List (Nat × Value)
abbrev jC : Type := (Nat × vp_A) ⊕ (Nat × List Value)
abbrev jH : Type := List jC
/-- an outcome: a return, or the ref of what is thrown -/
abbrev jO : Type := Option Value ⊕ Nat
/-- pc, locals, stack, heap -/
abbrev jS : Type := Nat × jL × List Value × jH
/-- the script: its length, its ints -/
abbrev jX : Type := Nat × (Nat → Int32)
abbrev jCall : Type := Nat → List Value → jH → Option (jO × jH)
def jAt (V : jH) (n : Nat) : Option jC := if n < 64 then none else V[n - 64]?
def jPut (V : jH) (n : Nat) (c : jC) : jH := V.set (n - 64) c
def jGet (l : jL) (i : Nat) : Option Value := (l.find? (fun q => q.1 == i)).map (fun q => q.2)
def jSto1 (l : jL) (i : Nat) (v : Value) : jL := (i, v) :: l.filter (fun q => !(q.1 == i) && !(q.1 + 1 == i && q.2.category == 2))
def jSto2 (l : jL) (i : Nat) (v : Value) : jL := (i, v) :: l.filter (fun q => !(q.1 == i) && (!(q.1 == i + 1) && !(q.1 + 1 == i && q.2.category == 2)))
def jTgt (pc : Nat) (off : Int) : Option Nat := if (pc : Int) + off < 0 then none else some ((pc : Int) + off).toNat
def jIn (i : Int32) (n : Nat) : Bool := !(decide (i < 0)) && decide (i.toNatClampNeg < n)
def jIsR (v : Value) : Bool := match v with
  | .ref _ => true
  | .null => true
  | _ => false
/-- null, or a cell of the heap -/
def jIsO (v : Value) : Bool := match v with
  | .ref n => decide (64 ≤ n)
  | .null => true
  | _ => false
/-- array kinds -/
def jAk : List FieldType := [.byte, .int, .long, .boolean, .object "LinkedCores$Node", .object "LinkedCores$Name", .object "LinkedCores$Link", .object "LinkedCores$Core"]
/-- the array kind over a class -/
def jOver (c : Nat) : Option Nat := if c = 7 then some 4 else if c = 6 then some 5 else if c = 4 then some 6 else if c = 2 then some 7 else none
/-- may a value lie in a field of this type -/
def jFit (t : FieldType) (v : Value) : Bool := match t, v with
  | .int, .int _ => true
  | .boolean, .int x => x == 0 || x == 1
  | .long, .long _ => true
  | .object _, .ref _ => true
  | .object _, .null => true
  | .array _, .ref _ => true
  | .array _, .null => true
  | _, _ => false
def jFind {α : Type} (l : List (List (Nat × α))) (o i : Nat) : Option α := ((l.getD o []).find? (fun q => q.1 == i)).map (fun q => q.2)
/-- the instruction at a pc -/
def jGet' (e : jM) (pc : Nat) : Option (Instr × Nat) := (e.2.2.2.2.2.2.find? (fun q => q.1 == pc)).map (fun q => q.2)
/-- instructions that touch the frame alone: mx the method's locals -/
def jLoad (i : Instr) (n pc mx : Nat) (l : jL) (st : List Value) : Option (Nat × jL × List Value) := match i, n, st with
  | .aload_n a, 1, st => match jGet l a.val with
    | some v => if jIsR v then some (pc + 1, l, v :: st) else none
    | none => none
  | .aload a, 2, st => match jGet l a with
    | some v => if jIsR v then some (pc + 2, l, v :: st) else none
    | none => none
  | .iload_n a, 1, st => match jGet l a.val with
    | some (.int x) => some (pc + 1, l, .int x :: st)
    | _ => none
  | .iload a, 2, st => match jGet l a with
    | some (.int x) => some (pc + 2, l, .int x :: st)
    | _ => none
  | .lload_n a, 1, st => match jGet l a.val with
    | some (.long x) => some (pc + 1, l, .long x :: st)
    | _ => none
  | .lload a, 2, st => match jGet l a with
    | some (.long x) => some (pc + 2, l, .long x :: st)
    | _ => none
  | .astore_n a, 1, v :: st => if jIsR v && decide (a.val < mx) then some (pc + 1, jSto1 l a.val v, st) else none
  | .astore a, 2, v :: st => if jIsR v && decide (a < mx) then some (pc + 2, jSto1 l a v, st) else none
  | .istore_n a, 1, .int x :: st => if a.val < mx then some (pc + 1, jSto1 l a.val (.int x), st) else none
  | .istore a, 2, .int x :: st => if a < mx then some (pc + 2, jSto1 l a (.int x), st) else none
  | .lstore_n a, 1, .long x :: st => if a.val + 1 < mx then some (pc + 1, jSto2 l a.val (.long x), st) else none
  | .lstore a, 2, .long x :: st => if a + 1 < mx then some (pc + 2, jSto2 l a (.long x), st) else none
  | .iinc a k, 3, st => match jGet l a with
    | some (.int x) => if a < mx then some (pc + 3, jSto1 l a (.int (x + Int32.ofInt k)), st) else none
    | _ => none
  | _, _, _ => none
def jArith (i : Instr) (n : Nat) (st : List Value) : Option (List Value) := match i, n, st with
  | .iconst k, 1, st => some (.int (Int32.ofInt k) :: st)
  | .bipush k, 2, st => some (.int (Int8.ofInt k).toInt32 :: st)
  | .sipush k, 3, st => some (.int (Int16.ofInt k).toInt32 :: st)
  | .lconst k, 1, st => some (.long (Int64.ofNat k.val) :: st)
  | .aconst_null, 1, st => some (.null :: st)
  | .iadd, 1, .int y :: .int x :: st => some (.int (x + y) :: st)
  | .isub, 1, .int y :: .int x :: st => some (.int (x - y) :: st)
  | .imul, 1, .int y :: .int x :: st => some (.int (x * y) :: st)
  | .idiv, 1, .int y :: .int x :: st => if y = 0 then none else some (.int (x / y) :: st)
  | .irem, 1, .int y :: .int x :: st => if y = 0 then none else some (.int (x - x / y * y) :: st)
  | .ineg, 1, .int x :: st => some (.int (-x) :: st)
  | .iand, 1, .int y :: .int x :: st => some (.int (x &&& y) :: st)
  | .ior, 1, .int y :: .int x :: st => some (.int (x ||| y) :: st)
  | .ixor, 1, .int y :: .int x :: st => some (.int (x ^^^ y) :: st)
  | .ishl, 1, .int y :: .int x :: st => some (.int (x <<< (y &&& 31)) :: st)
  | .ishr, 1, .int y :: .int x :: st => some (.int (x >>> (y &&& 31)) :: st)
  | .iushr, 1, .int y :: .int x :: st => some (.int (x.toUInt32 >>> (y.toUInt32 &&& Int32.toUInt32 31)).toInt32 :: st)
  | .ladd, 1, .long y :: .long x :: st => some (.long (x + y) :: st)
  | .lsub, 1, .long y :: .long x :: st => some (.long (x - y) :: st)
  | .lmul, 1, .long y :: .long x :: st => some (.long (x * y) :: st)
  | .lcmp, 1, .long y :: .long x :: st => some (.int (lg_cmp x y) :: st)
  | .i2l, 1, .int x :: st => some (.long x.toInt64 :: st)
  | .l2i, 1, .long x :: st => some (.int x.toInt32 :: st)
  | .i2b, 1, .int x :: st => some (.int x.toInt8.toInt32 :: st)
  | .i2c, 1, .int x :: st => some (.int (x.toUInt32 % 65536).toInt32 :: st)
  | .dup, 1, v :: st => if v.category = 1 then some (v :: v :: st) else none
  | .pop, 1, v :: st => if v.category = 1 then some st else none
  | .dup2, 1, v :: w :: st => if v.category = 1 ∧ w.category = 1 then some (v :: w :: v :: w :: st) else none
  | _, _, _ => none
/-- branches: the new pc and the stack -/
def jBranch (i : Instr) (n pc : Nat) (st : List Value) : Option (Nat × List Value) := match i, n, st with
  | .ifCond c o, 3, .int x :: st => if Op.ifCond.holds c x then (jTgt pc o).map (fun t => (t, st)) else some (pc + 3, st)
  | .if_icmp c o, 3, .int y :: .int x :: st => if Op.if_icmp.holds c x y then (jTgt pc o).map (fun t => (t, st)) else some (pc + 3, st)
  | .if_acmp .eq o, 3, v :: w :: st => if jIsO v && jIsO w then (if w = v then (jTgt pc o).map (fun t => (t, st)) else some (pc + 3, st)) else none
  | .if_acmp .ne o, 3, v :: w :: st => if jIsO v && jIsO w then (if w = v then some (pc + 3, st) else (jTgt pc o).map (fun t => (t, st))) else none
  | .ifnull o, 3, .null :: st => (jTgt pc o).map (fun t => (t, st))
  | .ifnull _, 3, .ref _ :: st => some (pc + 3, st)
  | .ifnonnull _, 3, .null :: st => some (pc + 3, st)
  | .ifnonnull o, 3, .ref _ :: st => (jTgt pc o).map (fun t => (t, st))
  | .goto o, 3, st => (jTgt pc o).map (fun t => (t, st))
  | .tableswitch d lo hi os, _, .int x :: st => if x.toInt < lo ∨ hi < x.toInt then (jTgt pc d).map (fun t => (t, st)) else match os[(x.toInt - lo).toNat]? with
    | some o => (jTgt pc o).map (fun t => (t, st))
    | none => none
  | .lookupswitch d ps, _, .int x :: st => if (ps.toList.zip (ps.toList.drop 1)).all (fun (a, next) => a.1 < next.1) then (match ps.find? (fun q => q.1 == x.toInt) with
    | some q => (jTgt pc q.2).map (fun t => (t, st))
    | none => (jTgt pc d).map (fun t => (t, st))) else none
  | _, _, _ => none
