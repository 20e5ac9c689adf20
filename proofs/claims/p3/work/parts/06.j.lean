/-- heap: ow the owner's number, ini whether the method is a constructor; the new stack and heap -/
def jHeap (X : jX) (ow : Nat) (ini : Bool) (i : Instr) (n : Nat) (st : List Value) (V : jH) : Option (List Value × jH) := match i, n, st with
  | .getfield k, 3, .ref a :: st => match jFind jFl ow k, jAt V a with
    | some q, some (.inr o) => if q.1 = o.1 then (o.2[q.2]?).map (fun v => (v :: st, V)) else none
    | _, _ => none
  | .putfield k, 3, v :: .ref a :: st => match jFind jFl ow k, jAt V a with
    | some q, some (.inr o) => match (jFs.getD q.1 [])[q.2]?, (jTys.getD q.1 [])[q.2]? with
      | some f, some t => if q.1 = o.1 ∧ q.2 < o.2.length ∧ jFit t v = true ∧ (f.2.2.2 = true → ini = true ∧ ow = q.1) then some (st, jPut V a (.inr (o.1, o.2.set q.2 v))) else none
      | _, _ => none
    | _, _ => none
  | .iaload, 1, .int j :: .ref a :: st => if a = 63 then (if jIn j X.1 then some (.int (X.2 j.toNatClampNeg) :: st, V) else none) else match jAt V a with
    | some (.inl (1, m, .inl f)) => if jIn j m then some (.int (f j.toNatClampNeg) :: st, V) else none
    | _ => none
  | .baload, 1, .int j :: .ref a :: st => match jAt V a with
    | some (.inl (0, m, .inl f)) => if jIn j m then some (.int (f j.toNatClampNeg) :: st, V) else none
    | some (.inl (3, m, .inl f)) => if jIn j m then some (.int (f j.toNatClampNeg) :: st, V) else none
    | _ => none
  | .laload, 1, .int j :: .ref a :: st => match jAt V a with
    | some (.inl (2, m, .inr (.inl f))) => if jIn j m then some (.long (f j.toNatClampNeg) :: st, V) else none
    | _ => none
  | .aaload, 1, .int j :: .ref a :: st => match jAt V a with
    | some (.inl (kd, m, .inr (.inr (.inr (.inr f))))) => if jIn j m && decide (4 ≤ kd) && decide (kd < 8) then some (va_rf (f j.toNatClampNeg) :: st, V) else none
    | _ => none
  | .iastore, 1, .int x :: .int j :: .ref a :: st => match jAt V a with
    | some (.inl (1, m, .inl f)) => if jIn j m then some (st, jPut V a (.inl (1, m, .inl (upd f j.toNatClampNeg x)))) else none
    | _ => none
  | .bastore, 1, .int x :: .int j :: .ref a :: st => match jAt V a with
    | some (.inl (0, m, .inl f)) => if jIn j m then some (st, jPut V a (.inl (0, m, .inl (upd f j.toNatClampNeg (vp_nar .byte x))))) else none
    | some (.inl (3, m, .inl f)) => if jIn j m then some (st, jPut V a (.inl (3, m, .inl (upd f j.toNatClampNeg (vp_nar .boolean x))))) else none
    | _ => none
  | .lastore, 1, .long x :: .int j :: .ref a :: st => match jAt V a with
    | some (.inl (2, m, .inr (.inl f))) => if jIn j m then some (st, jPut V a (.inl (2, m, .inr (.inl (vp_updL f j.toNatClampNeg x))))) else none
    | _ => none
  | .aastore, 1, .null :: .int j :: .ref a :: st => match jAt V a with
    | some (.inl (kd, m, .inr (.inr (.inr (.inr f))))) => if jIn j m && decide (4 ≤ kd) && decide (kd < 8) then some (st, jPut V a (.inl (kd, m, .inr (.inr (.inr (.inr (va_up f j.toNatClampNeg none))))))) else none
    | _ => none
  | .aastore, 1, .ref b :: .int j :: .ref a :: st => match jAt V a, jAt V b with
    | some (.inl (kd, m, .inr (.inr (.inr (.inr f))))), some (.inr o) => if jIn j m && decide (jOver o.1 = some kd) then some (st, jPut V a (.inl (kd, m, .inr (.inr (.inr (.inr (va_up f j.toNatClampNeg (some b)))))))) else none
    | _, _ => none
  | .arraylength, 1, .ref a :: st => if a = 63 then some (.int (Int32.ofNat X.1) :: st, V) else match jAt V a with
    | some (.inl (kd, m, _)) => if kd < 8 then some (.int (Int32.ofNat m) :: st, V) else none
    | _ => none
  | .newarray t, 2, .int j :: st => if j < 0 ∨ 1000000 < j.toNatClampNeg then none else match t with
    | .byte => some (.ref (64 + V.length) :: st, V ++ [.inl (0, j.toNatClampNeg, .inl (fun _ => 0))])
    | .int => some (.ref (64 + V.length) :: st, V ++ [.inl (1, j.toNatClampNeg, .inl (fun _ => 0))])
    | .long => some (.ref (64 + V.length) :: st, V ++ [.inl (2, j.toNatClampNeg, .inr (.inl (fun _ => 0)))])
    | .boolean => some (.ref (64 + V.length) :: st, V ++ [.inl (3, j.toNatClampNeg, .inl (fun _ => 0))])
    | _ => none
  | .anewarray k, 3, .int j :: st => if j < 0 ∨ 1000000 < j.toNatClampNeg then none else match (jFind jKl ow k).bind jOver with
    | some kd => some (.ref (64 + V.length) :: st, V ++ [.inl (kd, j.toNatClampNeg, .inr (.inr (.inr (.inr (fun _ => none)))))])
    | none => none
  | .new k, 3, st => match jFind jKl ow k with
    | some c => if c < 13 then some (.ref (64 + V.length) :: st, V ++ [.inr (c, (jTys.getD c []).map defaultValue)]) else none
    | none => none
  | .ldc k, 2, st => match jFind jCn ow k with
    | some (.int x) => some (.int x :: st, V)
    | some (.ref i) => some (.ref i :: st, V)
    | _ => none
  | .ldc_w k, 3, st => match jFind jCn ow k with
    | some (.int x) => some (.int x :: st, V)
    | some (.ref i) => some (.ref i :: st, V)
    | _ => none
  | .ldc2_w k, 3, st => match jFind jCn ow k with
    | some (.long x) => some (.long x :: st, V)
    | _ => none
  | _, _, _ => none
/-- what a thrown ref's class is -/
def jExc (V : jH) (a : Nat) : Option Nat := match jAt V a with
  | some (.inr o) => some o.1
  | _ => none
/-- the handler that takes an exception of class c at pc -/
def jCatch (ow pc c : Nat) : List (Nat × Nat × Nat × Nat) → Option Nat
  | [] => none
  | h :: hs => if h.1 ≤ pc ∧ pc < h.2.1 ∧ jFind jKl ow h.2.2.2 = some c then some h.2.2.1 else jCatch ow pc c hs
abbrev jR : Type := jS ⊕ (jO × jH)
/-- a call's answer, in the caller: w what the call leaves on the stack -/
def jBack (e : jM) (ow pc : Nat) (l : jL) (st : List Value) (r : Option (jO × jH)) : Option jR := match r with
  | some (.inl none, V) => some (.inl (pc + 3, l, st, V))
  | some (.inl (some v), V) => some (.inl (pc + 3, l, v :: st, V))
  | some (.inr a, V) => match jExc V a with
    | some c => match jCatch ow pc c e.2.2.2.2.2.1 with
      | some h => some (.inl (h, l, [.ref a], V))
      | none => some (.inr (.inr a, V))
    | none => none
  | none => none
/-- the letters of a text -/
def jTx (i : Nat) : Option (List Char) := (jSt[i]?).map (fun q => q.2.2.toList)
def jIdx (c : Int32) : List Char → Nat → Int32
  | [], _ => -1
  | x :: xs, i => if Int32.ofNat x.toNat = c then Int32.ofNat i else jIdx c xs (i + 1)
def jSum (st : List Value) : Nat := (st.map (fun v => v.category)).sum
def jInvoke (call : jCall) (e : jM) (ow : Nat) (i : Instr) (n pc : Nat) (l : jL) (st : List Value) (V : jH) : Option jR := match i, n with
  | .invokevirtual k, 3 => match jFind jCl ow k with
    | some (0, t, na) => match st.drop na with
      | .ref a :: rest => match jAt V a, jMs[t]? with
        | some (.inr o), some f => if (st.take na).length = na ∧ o.1 = f.2.1 ∧ jSum rest ≤ 8 then jBack e ow pc l rest (call t (.ref a :: (st.take na).reverse) V) else none
        | _, _ => none
      | _ => none
    | some (6, _, _) => match st with
      | .ref a :: rest => match jTx a with
        | some x => if jSum rest ≤ 8 ∧ a < 31 then some (.inl (pc + 3, l, .int (Int32.ofNat x.length) :: rest, V)) else none
        | none => none
      | _ => none
    | some (7, _, _) => match st with
      | .int j :: .ref a :: rest => match jTx a with
        | some x => if jSum rest ≤ 8 ∧ a < 31 ∧ jIn j x.length = true then some (.inl (pc + 3, l, .int (Int32.ofNat (x.getD j.toNatClampNeg 'A').toNat) :: rest, V)) else none
        | none => none
      | _ => none
    | some (8, _, _) => match st with
      | .int j :: .ref a :: rest => match jTx a with
        | some x => if jSum rest ≤ 8 ∧ a < 31 ∧ 0 ≤ j ∧ j < 256 then some (.inl (pc + 3, l, .int (jIdx j x 0) :: rest, V)) else none
        | none => none
      | _ => none
    | _ => none
  | .invokestatic k, 3 => match jFind jCl ow k with
    | some (1, t, na) => if (st.take na).length = na ∧ jSum (st.drop na) ≤ 8 then jBack e ow pc l (st.drop na) (call t (st.take na).reverse V) else none
    | some (9, _, _) => match st with
      | .int c :: .int j :: .ref b :: .int i :: .ref a :: rest => match jAt V a, jAt V b with
        | some (.inl (1, m, .inl f)), some (.inl (1, m', .inl g)) => if jSum rest ≤ 8 ∧ ¬ c < 0 ∧ ¬ i < 0 ∧ ¬ j < 0 ∧ i.toNatClampNeg + c.toNatClampNeg ≤ m ∧ j.toNatClampNeg + c.toNatClampNeg ≤ m' then some (.inl (pc + 3, l, rest, jPut V b (.inl (1, m', .inl (va_cpy f g i.toNatClampNeg j.toNatClampNeg c.toNatClampNeg))))) else none
        | _, _ => none
      | _ => none
    | _ => none
  | .invokespecial k, 3 => match jFind jCl ow k with
    | some (4, _, _) => match st with
      | .ref a :: rest => if jSum rest ≤ 8 ∧ 64 ≤ a then some (.inl (pc + 3, l, rest, V)) else none
      | _ => none
    | some (kd, t, na) => if kd = 2 ∨ kd = 3 then match st.drop na with
      | .ref a :: rest => if (st.take na).length = na ∧ jSum rest ≤ 8 ∧ 64 ≤ a then jBack e ow pc l rest (call t (.ref a :: (st.take na).reverse) V) else none
      | _ => none else none
    | none => none
  | _, _ => none
/-- a constant that is a text -/
def jIsS (v : Option Value) : Bool := match v with
  | some (.ref _) => true
  | _ => false
/-- 'throw new E("..")', all of it at its new -/
def jThrow (e : jM) (ow : Nat) (i : Instr) (n pc : Nat) (st : List Value) (V : jH) : Option jR := match i, n with
  | .new k, 3 => match jFind jKl ow k, jGet' e (pc + 3), jGet' e (pc + 4) with
    | some c, some (.dup, 1), some (.ldc s, 2) => if 13 ≤ c ∧ c < 18 ∧ jSum st ≤ 8 ∧ e.2.2.2.2.2.1 = [] ∧ jIsS (jFind jCn ow s) = true ∧ jGet' e (pc + 9) = some (.athrow, 1) then match jGet' e (pc + 6) with
        | some (.invokespecial q, 3) => if jFind jCl ow q = some (5, c, 1) then some (.inr (.inr (64 + V.length), V ++ [.inr (c, [])])) else none
        | _ => none
      else none
    | some c, some (.dup, 1), some (.ldc_w s, 3) => if 13 ≤ c ∧ c < 18 ∧ jSum st ≤ 8 ∧ e.2.2.2.2.2.1 = [] ∧ jIsS (jFind jCn ow s) = true ∧ jGet' e (pc + 10) = some (.athrow, 1) then match jGet' e (pc + 7) with
        | some (.invokespecial q, 3) => if jFind jCl ow q = some (5, c, 1) then some (.inr (.inr (64 + V.length), V ++ [.inr (c, [])])) else none
        | _ => none
      else none
    | _, _, _ => none
  | _, _ => none
/-- returns -/
def jRet (i : Instr) (n : Nat) (rt : Option FieldType) (st : List Value) : Option (Option Value) := match i, n, rt, st with
  | .return_, 1, none, [] => some none
  | .ireturn, 1, some .int, [.int x] => some (some (.int x))
  | .ireturn, 1, some .boolean, [.int x] => if x = 0 ∨ x = 1 then some (some (.int x)) else none
  | .lreturn, 1, some .long, [.long x] => some (some (.long x))
  | .areturn, 1, some (.object _), [v] => if jIsR v then some (some v) else none
  | .areturn, 1, some (.array _), [v] => if jIsR v then some (some v) else none
  | _, _, _, _ => none
def jStep (call : jCall) (X : jX) (e : jM) (S : jS) : Option jR := match jGet' e S.1 with
  | none => none
  | some (i, n) => match jLoad i n S.1 e.2.2.2.1 S.2.1 S.2.2.1 with
    | some r => some (.inl (r.1, r.2.1, r.2.2, S.2.2.2))
    | none => match jArith i n S.2.2.1 with
      | some st => some (.inl (S.1 + n, S.2.1, st, S.2.2.2))
      | none => match jBranch i n S.1 S.2.2.1 with
        | some r => some (.inl (r.1, S.2.1, r.2, S.2.2.2))
        | none => match jHeap X e.2.1 (e.1.name == "<init>") i n S.2.2.1 S.2.2.2 with
          | some r => some (.inl (S.1 + n, S.2.1, r.1, r.2))
          | none => match jRet i n e.2.2.2.2.1 S.2.2.1 with
            | some v => some (.inr (.inl v, S.2.2.2))
            | none => match jInvoke call e e.2.1 i n S.1 S.2.1 S.2.2.1 S.2.2.2 with
              | some r => some r
              | none => jThrow e e.2.1 i n S.1 S.2.2.1 S.2.2.2
def jLoop (call : jCall) (X : jX) (e : jM) : Nat → jS → Option (jO × jH)
  | 0, _ => none
  | f + 1, S => match jStep call X e S with
    | some (.inl S') => jLoop call X e f S'
    | some (.inr r) => some r
    | none => none
/-- a method of number t, at call depth d, with fuel f for each activation -/
def jRun (X : jX) (f : Nat) : Nat → jCall
  | 0, _, _, _ => none
  | d + 1, t, as, V => match jMs[t]? with
    | some e => if jSum as ≤ e.2.2.2.1 then jLoop (jRun X f d) X e f (0, lv_args 0 as, [], V) else none
    | none => none
