/-! an abstract machine over numbered objects, whose runs the law's bytecode follows -/
abbrev aI : Type := Instr × Nat × Nat × Nat × Nat × Value
abbrev aL : Type := List (Nat × Value)
abbrev aH : Type := Nat × (Nat → Nat → Int32) × (Nat → Nat → Int64) × (Nat → Nat → Option Nat)
abbrev aC : Type := Nat × aL × List Value × aH
def up2 {α : Type} (f : Nat → Nat → α) (i k : Nat) (v : α) : Nat → Nat → α := fun j q => bif Nat.beq j i && Nat.beq q k then v else f j q
def up1 {α : Type} (f : Nat → Nat → α) (i : Nat) (g : Nat → α) : Nat → Nat → α := fun j => bif Nat.beq j i then g else f j
def aGet : aL → Nat → Option Value
  | [], _ => none
  | q :: l, i => bif Nat.beq q.1 i then some q.2 else aGet l i
def aPut1 (l : aL) (i : Nat) (v : Value) : aL := (i, v) :: l.filter (fun q => !(q.1 == i) && !(q.1 + 1 == i && q.2.category == 2))
def aPut2 (l : aL) (i : Nat) (v : Value) : aL := (i, v) :: l.filter (fun q => !(q.1 == i) && (!(q.1 == i + 1) && !(q.1 + 1 == i && q.2.category == 2)))
/-- what a field holds, by its type's number -/
def aVal (h : aH) (t i b : Nat) : Value := match t with | 1 => .long (h.2.2.1 i b) | 2 => va_rf (h.2.2.2 i b) | _ => .int (h.2.1 i b)
/-- one instruction without a side condition: the next place, locals, stack, heap -/
def aStp (kd : Nat → Nat × Nat) (n0 : Nat) (ai : aI) (c : aC) : Option aC :=
  match ai, c with
  | (ins, nx, a, b, t, v), (_, ls, st, h) =>
    match ins with
    | .iconst _ => some (nx, ls, v :: st, h)
    | .bipush _ => some (nx, ls, v :: st, h)
    | .sipush _ => some (nx, ls, v :: st, h)
    | .lconst _ => some (nx, ls, v :: st, h)
    | .ldc _ => some (nx, ls, v :: st, h)
    | .ldc_w _ => some (nx, ls, v :: st, h)
    | .ldc2_w _ => some (nx, ls, v :: st, h)
    | .getstatic _ => some (nx, ls, v :: st, h)
    | .aconst_null => some (nx, ls, .null :: st, h)
    | .iload_n _ => match aGet ls a with | some (.int x) => some (nx, ls, .int x :: st, h) | _ => none
    | .iload _ => match aGet ls a with | some (.int x) => some (nx, ls, .int x :: st, h) | _ => none
    | .lload_n _ => match aGet ls a with | some (.long x) => some (nx, ls, .long x :: st, h) | _ => none
    | .lload _ => match aGet ls a with | some (.long x) => some (nx, ls, .long x :: st, h) | _ => none
    | .aload_n _ => match aGet ls a with | some (.ref x) => some (nx, ls, .ref x :: st, h) | some .null => some (nx, ls, .null :: st, h) | _ => none
    | .aload _ => match aGet ls a with | some (.ref x) => some (nx, ls, .ref x :: st, h) | some .null => some (nx, ls, .null :: st, h) | _ => none
    | .istore_n _ => match st with | .int x :: r => some (nx, aPut1 ls a (.int x), r, h) | _ => none
    | .istore _ => match st with | .int x :: r => some (nx, aPut1 ls a (.int x), r, h) | _ => none
    | .lstore_n _ => match st with | .long x :: r => some (nx, aPut2 ls a (.long x), r, h) | _ => none
    | .lstore _ => match st with | .long x :: r => some (nx, aPut2 ls a (.long x), r, h) | _ => none
    | .astore_n _ => match st with | .ref x :: r => some (nx, aPut1 ls a (.ref x), r, h) | .null :: r => some (nx, aPut1 ls a .null, r, h) | _ => none
    | .astore _ => match st with | .ref x :: r => some (nx, aPut1 ls a (.ref x), r, h) | .null :: r => some (nx, aPut1 ls a .null, r, h) | _ => none
    | .iinc _ _ => match v, aGet ls a with | .int y, some (.int x) => some (nx, aPut1 ls a (.int (x + y)), st, h) | _, _ => none
    | .iadd => match st with | .int y :: .int x :: r => some (nx, ls, .int (x + y) :: r, h) | _ => none
    | .isub => match st with | .int y :: .int x :: r => some (nx, ls, .int (x - y) :: r, h) | _ => none
    | .imul => match st with | .int y :: .int x :: r => some (nx, ls, .int (x * y) :: r, h) | _ => none
    | .iand => match st with | .int y :: .int x :: r => some (nx, ls, .int (x &&& y) :: r, h) | _ => none
    | .ior => match st with | .int y :: .int x :: r => some (nx, ls, .int (x ||| y) :: r, h) | _ => none
    | .ixor => match st with | .int y :: .int x :: r => some (nx, ls, .int (x ^^^ y) :: r, h) | _ => none
    | .ishl => match st with | .int y :: .int x :: r => some (nx, ls, .int (x <<< (y &&& 31)) :: r, h) | _ => none
    | .ishr => match st with | .int y :: .int x :: r => some (nx, ls, .int (x >>> (y &&& 31)) :: r, h) | _ => none
    | .iushr => match st with | .int y :: .int x :: r => some (nx, ls, .int (x.toUInt32 >>> (y.toUInt32 &&& Int32.toUInt32 31)).toInt32 :: r, h) | _ => none
    | .ineg => match st with | .int x :: r => some (nx, ls, .int (-x) :: r, h) | _ => none
    | .ladd => match st with | .long y :: .long x :: r => some (nx, ls, .long (x + y) :: r, h) | _ => none
    | .lsub => match st with | .long y :: .long x :: r => some (nx, ls, .long (x - y) :: r, h) | _ => none
    | .lmul => match st with | .long y :: .long x :: r => some (nx, ls, .long (x * y) :: r, h) | _ => none
    | .land => match st with | .long y :: .long x :: r => some (nx, ls, .long (x &&& y) :: r, h) | _ => none
    | .lor => match st with | .long y :: .long x :: r => some (nx, ls, .long (x ||| y) :: r, h) | _ => none
    | .lshl => match st with | .int y :: .long x :: r => some (nx, ls, .long (x <<< (y.toInt64 &&& 63)) :: r, h) | _ => none
    | .lneg => match st with | .long x :: r => some (nx, ls, .long (-x) :: r, h) | _ => none
    | .lcmp => match st with | .long y :: .long x :: r => some (nx, ls, .int (lg_cmp x y) :: r, h) | _ => none
    | .i2l => match st with | .int x :: r => some (nx, ls, .long x.toInt64 :: r, h) | _ => none
    | .l2i => match st with | .long x :: r => some (nx, ls, .int x.toInt32 :: r, h) | _ => none
    | .i2b => match st with | .int x :: r => some (nx, ls, .int x.toInt8.toInt32 :: r, h) | _ => none
    | .i2s => match st with | .int x :: r => some (nx, ls, .int x.toInt16.toInt32 :: r, h) | _ => none
    | .i2c => match st with | .int x :: r => some (nx, ls, .int (x.toUInt32 % 65536).toInt32 :: r, h) | _ => none
    | .dup => match st with | .int x :: r => some (nx, ls, .int x :: .int x :: r, h) | .ref x :: r => some (nx, ls, .ref x :: .ref x :: r, h) | _ => none
    | .dup2 => match st with | .int y :: .ref x :: r => some (nx, ls, .int y :: .ref x :: .int y :: .ref x :: r, h) | _ => none
    | .pop => match st with | .int _ :: r => some (nx, ls, r, h) | _ => none
    | .goto _ => some (a, ls, st, h)
    | .ifCond .eq _ => match st with | .int x :: r => some (if x = 0 then a else nx, ls, r, h) | _ => none
    | .ifCond .ne _ => match st with | .int x :: r => some (if x = 0 then nx else a, ls, r, h) | _ => none
    | .ifCond .lt _ => match st with | .int x :: r => some (if x < 0 then a else nx, ls, r, h) | _ => none
    | .ifCond .ge _ => match st with | .int x :: r => some (if 0 ≤ x then a else nx, ls, r, h) | _ => none
    | .ifCond .gt _ => match st with | .int x :: r => some (if 0 < x then a else nx, ls, r, h) | _ => none
    | .ifCond .le _ => match st with | .int x :: r => some (if x ≤ 0 then a else nx, ls, r, h) | _ => none
    | .if_icmp .eq _ => match st with | .int y :: .int x :: r => some (if x = y then a else nx, ls, r, h) | _ => none
    | .if_icmp .ne _ => match st with | .int y :: .int x :: r => some (if x = y then nx else a, ls, r, h) | _ => none
    | .if_icmp .lt _ => match st with | .int y :: .int x :: r => some (if x < y then a else nx, ls, r, h) | _ => none
    | .if_icmp .ge _ => match st with | .int y :: .int x :: r => some (if y ≤ x then a else nx, ls, r, h) | _ => none
    | .if_icmp .gt _ => match st with | .int y :: .int x :: r => some (if y < x then a else nx, ls, r, h) | _ => none
    | .if_icmp .le _ => match st with | .int y :: .int x :: r => some (if x ≤ y then a else nx, ls, r, h) | _ => none
    | .ifnull _ => match st with | .ref _ :: r => some (nx, ls, r, h) | .null :: r => some (a, ls, r, h) | _ => none
    | .ifnonnull _ => match st with | .ref _ :: r => some (a, ls, r, h) | .null :: r => some (nx, ls, r, h) | _ => none
    | .arraylength => match st with | .ref i :: r => (bif (Nat.blt i n0 || Nat.blt i h.1) && (Nat.ble 7 (kd i).1 && Nat.ble (kd i).1 12) then some (nx, ls, .int (Int32.ofNat (kd i).2) :: r, h) else none) | _ => none
    | .getfield _ => match st with
      | .ref i :: r => (bif (Nat.blt i n0 || Nat.blt i h.1) && Nat.beq (kd i).1 a then some (nx, ls, aVal h t i b :: r, h) else none)
      | _ => none
    | .putfield _ => match st with
      | .int x :: .ref i :: r => (bif (Nat.blt i n0 || Nat.blt i h.1) && Nat.beq (kd i).1 a && Nat.beq t 0 then some (nx, ls, r, h.1, up2 h.2.1 i b x, h.2.2.1, h.2.2.2) else none)
      | .long x :: .ref i :: r => (bif (Nat.blt i n0 || Nat.blt i h.1) && Nat.beq (kd i).1 a && Nat.beq t 1 then some (nx, ls, r, h.1, h.2.1, up2 h.2.2.1 i b x, h.2.2.2) else none)
      | .ref j :: .ref i :: r => (bif (Nat.blt i n0 || Nat.blt i h.1) && Nat.beq (kd i).1 a && Nat.beq t 2 && (Nat.blt j n0 || Nat.blt j h.1) then some (nx, ls, r, h.1, h.2.1, h.2.2.1, up2 h.2.2.2 i b (some j)) else none)
      | _ => none
    | _ => none
