section
/-! an abstract machine over numbered objects, whose runs the law's bytecode follows -/
abbrev aI : Type := Instr × Nat × Nat × Nat × Nat × Value
abbrev aL : Type := List (Nat × Value)
abbrev aH : Type := Nat × (Nat → Nat → Int32) × (Nat → Nat → Int64) × (Nat → Nat → Option Nat)
abbrev aC : Type := Nat × aL × List Value × aH
def up2 {α : Type} (f : Nat → Nat → α) (i k : Nat) (v : α) : Nat → Nat → α := fun j q => bif Nat.beq j i && Nat.beq q k then v else f j q
def up1 {α : Type} (f : Nat → Nat → α) (i : Nat) (g : Nat → α) : Nat → Nat → α := fun j => bif Nat.beq j i then g else f j
def aGet : aL → Nat → Option Value
  | [], _ => none
  | q :: l, i => bif Nat.beq q.1 i then some q.2 else aGet l i
def aPut1 (l : aL) (i : Nat) (v : Value) : aL := (i, v) :: l.filter (fun q => !(q.1 == i) && !(q.1 + 1 == i && q.2.category == 2))
def aPut2 (l : aL) (i : Nat) (v : Value) : aL := (i, v) :: l.filter (fun q => !(q.1 == i) && (!(q.1 == i + 1) && !(q.1 + 1 == i && q.2.category == 2)))
/-- what a field holds, by its type's number -/
def aVal (h : aH) (t i b : Nat) : Value := match t with | 1 => .long (h.2.2.1 i b) | 2 => va_rf (h.2.2.2 i b) | _ => .int (h.2.1 i b)
/-- one instruction without a side condition: the next place, locals, stack, heap -/
def aStp (kd : Nat → Nat × Nat) (n0 : Nat) (ai : aI) (c : aC) : Option aC :=
  match ai, c with
  | (ins, nx, a, b, t, v), (_, ls, st, h) =>
    match ins with
    | .iconst _ => some (nx, ls, v :: st, h)
    | .bipush _ => some (nx, ls, v :: st, h)
    | .sipush _ => some (nx, ls, v :: st, h)
    | .lconst _ => some (nx, ls, v :: st, h)
    | .ldc _ => some (nx, ls, v :: st, h)
    | .ldc_w _ => some (nx, ls, v :: st, h)
    | .ldc2_w _ => some (nx, ls, v :: st, h)
    | .getstatic _ => some (nx, ls, v :: st, h)
    | .aconst_null => some (nx, ls, .null :: st, h)
    | .iload_n _ => match aGet ls a with | some (.int x) => some (nx, ls, .int x :: st, h) | _ => none
    | .iload _ => match aGet ls a with | some (.int x) => some (nx, ls, .int x :: st, h) | _ => none
    | .lload_n _ => match aGet ls a with | some (.long x) => some (nx, ls, .long x :: st, h) | _ => none
    | .lload _ => match aGet ls a with | some (.long x) => some (nx, ls, .long x :: st, h) | _ => none
    | .aload_n _ => match aGet ls a with | some (.ref x) => some (nx, ls, .ref x :: st, h) | some .null => some (nx, ls, .null :: st, h) | _ => none
    | .aload _ => match aGet ls a with | some (.ref x) => some (nx, ls, .ref x :: st, h) | some .null => some (nx, ls, .null :: st, h) | _ => none
    | .istore_n _ => match st with | .int x :: r => some (nx, aPut1 ls a (.int x), r, h) | _ => none
    | .istore _ => match st with | .int x :: r => some (nx, aPut1 ls a (.int x), r, h) | _ => none
    | .lstore_n _ => match st with | .long x :: r => some (nx, aPut2 ls a (.long x), r, h) | _ => none
    | .lstore _ => match st with | .long x :: r => some (nx, aPut2 ls a (.long x), r, h) | _ => none
    | .astore_n _ => match st with | .ref x :: r => some (nx, aPut1 ls a (.ref x), r, h) | .null :: r => some (nx, aPut1 ls a .null, r, h) | _ => none
    | .astore _ => match st with | .ref x :: r => some (nx, aPut1 ls a (.ref x), r, h) | .null :: r => some (nx, aPut1 ls a .null, r, h) | _ => none
    | .iinc _ _ => match v, aGet ls a with | .int y, some (.int x) => some (nx, aPut1 ls a (.int (x + y)), st, h) | _, _ => none
    | .iadd => match st with | .int y :: .int x :: r => some (nx, ls, .int (x + y) :: r, h) | _ => none
    | .isub => match st with | .int y :: .int x :: r => some (nx, ls, .int (x - y) :: r, h) | _ => none
    | .imul => match st with | .int y :: .int x :: r => some (nx, ls, .int (x * y) :: r, h) | _ => none
    | .iand => match st with | .int y :: .int x :: r => some (nx, ls, .int (x &&& y) :: r, h) | _ => none
    | .ior => match st with | .int y :: .int x :: r => some (nx, ls, .int (x ||| y) :: r, h) | _ => none
    | .ixor => match st with | .int y :: .int x :: r => some (nx, ls, .int (x ^^^ y) :: r, h) | _ => none
    | .ishl => match st with | .int y :: .int x :: r => some (nx, ls, .int (x <<< (y &&& 31)) :: r, h) | _ => none
    | .ishr => match st with | .int y :: .int x :: r => some (nx, ls, .int (x >>> (y &&& 31)) :: r, h) | _ => none
    | .iushr => match st with | .int y :: .int x :: r => some (nx, ls, .int (x.toUInt32 >>> (y.toUInt32 &&& Int32.toUInt32 31)).toInt32 :: r, h) | _ => none
    | .ineg => match st with | .int x :: r => some (nx, ls, .int (-x) :: r, h) | _ => none
    | .ladd => match st with | .long y :: .long x :: r => some (nx, ls, .long (x + y) :: r, h) | _ => none
    | .lsub => match st with | .long y :: .long x :: r => some (nx, ls, .long (x - y) :: r, h) | _ => none
    | .lmul => match st with | .long y :: .long x :: r => some (nx, ls, .long (x * y) :: r, h) | _ => none
    | .land => match st with | .long y :: .long x :: r => some (nx, ls, .long (x &&& y) :: r, h) | _ => none
    | .lor => match st with | .long y :: .long x :: r => some (nx, ls, .long (x ||| y) :: r, h) | _ => none
    | .lshl => match st with | .int y :: .long x :: r => some (nx, ls, .long (x <<< (y.toInt64 &&& 63)) :: r, h) | _ => none
    | .lneg => match st with | .long x :: r => some (nx, ls, .long (-x) :: r, h) | _ => none
    | .lcmp => match st with | .long y :: .long x :: r => some (nx, ls, .int (lg_cmp x y) :: r, h) | _ => none
    | .i2l => match st with | .int x :: r => some (nx, ls, .long x.toInt64 :: r, h) | _ => none
    | .l2i => match st with | .long x :: r => some (nx, ls, .int x.toInt32 :: r, h) | _ => none
    | .i2b => match st with | .int x :: r => some (nx, ls, .int x.toInt8.toInt32 :: r, h) | _ => none
    | .i2s => match st with | .int x :: r => some (nx, ls, .int x.toInt16.toInt32 :: r, h) | _ => none
    | .i2c => match st with | .int x :: r => some (nx, ls, .int (x.toUInt32 % 65536).toInt32 :: r, h) | _ => none
    | .dup => match st with | .int x :: r => some (nx, ls, .int x :: .int x :: r, h) | .ref x :: r => some (nx, ls, .ref x :: .ref x :: r, h) | _ => none
    | .dup2 => match st with | .int y :: .ref x :: r => some (nx, ls, .int y :: .ref x :: .int y :: .ref x :: r, h) | _ => none
    | .pop => match st with | .int _ :: r => some (nx, ls, r, h) | _ => none
    | .goto _ => some (a, ls, st, h)
    | .ifCond .eq _ => match st with | .int x :: r => some (if x = 0 then a else nx, ls, r, h) | _ => none
    | .ifCond .ne _ => match st with | .int x :: r => some (if x = 0 then nx else a, ls, r, h) | _ => none
    | .ifCond .lt _ => match st with | .int x :: r => some (if x < 0 then a else nx, ls, r, h) | _ => none
    | .ifCond .ge _ => match st with | .int x :: r => some (if 0 ≤ x then a else nx, ls, r, h) | _ => none
    | .ifCond .gt _ => match st with | .int x :: r => some (if 0 < x then a else nx, ls, r, h) | _ => none
    | .ifCond .le _ => match st with | .int x :: r => some (if x ≤ 0 then a else nx, ls, r, h) | _ => none
    | .if_icmp .eq _ => match st with | .int y :: .int x :: r => some (if x = y then a else nx, ls, r, h) | _ => none
    | .if_icmp .ne _ => match st with | .int y :: .int x :: r => some (if x = y then nx else a, ls, r, h) | _ => none
    | .if_icmp .lt _ => match st with | .int y :: .int x :: r => some (if x < y then a else nx, ls, r, h) | _ => none
    | .if_icmp .ge _ => match st with | .int y :: .int x :: r => some (if y ≤ x then a else nx, ls, r, h) | _ => none
    | .if_icmp .gt _ => match st with | .int y :: .int x :: r => some (if y < x then a else nx, ls, r, h) | _ => none
    | .if_icmp .le _ => match st with | .int y :: .int x :: r => some (if x ≤ y then a else nx, ls, r, h) | _ => none
    | .ifnull _ => match st with | .ref _ :: r => some (nx, ls, r, h) | .null :: r => some (a, ls, r, h) | _ => none
    | .ifnonnull _ => match st with | .ref _ :: r => some (a, ls, r, h) | .null :: r => some (nx, ls, r, h) | _ => none
    | .arraylength => match st with | .ref i :: r => (bif (Nat.blt i n0 || Nat.blt i h.1) && (Nat.ble 7 (kd i).1 && Nat.ble (kd i).1 12) then some (nx, ls, .int (Int32.ofNat (kd i).2) :: r, h) else none) | _ => none
    | .getfield _ => match st with
      | .ref i :: r => (bif (Nat.blt i n0 || Nat.blt i h.1) && Nat.beq (kd i).1 a then some (nx, ls, aVal h t i b :: r, h) else none)
      | _ => none
    | .putfield _ => match st with
      | .int x :: .ref i :: r => (bif (Nat.blt i n0 || Nat.blt i h.1) && Nat.beq (kd i).1 a && Nat.beq t 0 then some (nx, ls, r, h.1, up2 h.2.1 i b x, h.2.2.1, h.2.2.2) else none)
      | .long x :: .ref i :: r => (bif (Nat.blt i n0 || Nat.blt i h.1) && Nat.beq (kd i).1 a && Nat.beq t 1 then some (nx, ls, r, h.1, h.2.1, up2 h.2.2.1 i b x, h.2.2.2) else none)
      | .ref j :: .ref i :: r => (bif (Nat.blt i n0 || Nat.blt i h.1) && Nat.beq (kd i).1 a && Nat.beq t 2 && (Nat.blt j n0 || Nat.blt j h.1) then some (nx, ls, r, h.1, h.2.1, h.2.2.1, up2 h.2.2.2 i b (some j)) else none)
      | _ => none
    | _ => none
end
section
/-- a value names nothing that is younger than n -/
def aOk (n : Nat) : Value → Prop
  | .ref i => i < n ∨ 1000 ≤ i
  | _ => True
def aOks (n : Nat) (l : List Value) : Prop := ∀ v ∈ l, aOk n v
/-- the cells that exist hold no name of a younger one -/
def aHok (h : aH) : Prop := ∀ i k j, i < h.1 → h.2.2.2 i k = some j → j < h.1
abbrev aX : Type := Nat → List Value → aH → Option Value → aH → Prop
/-- what static arrays hold -/
abbrev aZ : Type := (Nat → Nat → Int32) × (Nat → Nat → Int64)
def aLv (h : aH) (i : Nat) : Prop := i < h.1
/-- an instruction with a side condition, a call, an end: K is what goes on -/
def aSpc (kd : Nat → Nat × Nat) (Z : aZ) (X : aX) (K : aC → Prop) (ai : aI) (c : aC) (rv : Option Value) (hh : aH) : Prop :=
  match ai, c with
  | (ins, nx, a, b, t, v), (pc, ls, st, h) =>
    match ins with
    | .ireturn => match st with | [.int x] => (t = 0 ∨ (t = 1 ∧ (x = 0 ∨ x = 1)) ∨ (t = 2 ∧ x = 0) ∨ (t = 3 ∧ narrow .char (.int x) = .int x)) ∧ rv = some (.int x) ∧ hh = h | _ => False
    | .lreturn => match st with | [.long x] => rv = some (.long x) ∧ hh = h | _ => False
    | .areturn => match st with | [.ref x] => rv = some (.ref x) ∧ hh = h | [.null] => rv = some .null ∧ hh = h | _ => False
    | .return_ => match st with | [] => rv = none ∧ hh = h | _ => False
    | .idiv => match st with | .int y :: .int x :: r => ¬ y = 0 ∧ K (nx, ls, .int (x / y) :: r, h) | _ => False
    | .irem => match st with | .int y :: .int x :: r => ¬ y = 0 ∧ K (nx, ls, .int (x - x / y * y) :: r, h) | _ => False
    | .ldiv => match st with | .long y :: .long x :: r => ¬ y = 0 ∧ K (nx, ls, .long (x / y) :: r, h) | _ => False
    | .lrem => match st with | .long y :: .long x :: r => ¬ y = 0 ∧ K (nx, ls, .long (x - x / y * y) :: r, h) | _ => False
    | .arraylength => match st with | .ref i :: r => ((kd i).1 = 13 ∨ (kd i).1 = 16) ∧ K (nx, ls, .int (Int32.ofNat (kd i).2) :: r, h) | _ => False
    | .getfield _ => match st with | .ref i :: r => (kd i).1 = 15 ∧ ((t = 15 ∧ K (nx, ls, .ref (i + 100) :: r, h)) ∨ (t = 16 ∧ K (nx, ls, .int 0 :: r, h))) | _ => False
    | .iaload => match st with
      | .int j :: .ref i :: r => vp_in j (kd i).2 ∧ ((aLv h i ∧ (kd i).1 = 7 ∧ K (nx, ls, .int (h.2.1 i j.toNatClampNeg) :: r, h)) ∨ ((kd i).1 = 13 ∧ K (nx, ls, .int (Z.1 i j.toNatClampNeg) :: r, h)))
      | _ => False
    | .laload => match st with
      | .int j :: .ref i :: r => vp_in j (kd i).2 ∧ ((aLv h i ∧ (kd i).1 = 8 ∧ K (nx, ls, .long (h.2.2.1 i j.toNatClampNeg) :: r, h)) ∨ ((kd i).1 = 14 ∧ K (nx, ls, .long (Z.2 i j.toNatClampNeg) :: r, h)))
      | _ => False
    | .baload => match st with
      | .int j :: .ref i :: r => vp_in j (kd i).2 ∧ ((aLv h i ∧ (kd i).1 = 9 ∧ K (nx, ls, .int (h.2.1 i j.toNatClampNeg) :: r, h)) ∨ ((kd i).1 = 16 ∧ K (nx, ls, .int (Z.1 i j.toNatClampNeg) :: r, h)))
      | _ => False
    | .aaload => match st with
      | .int j :: .ref i :: r => vp_in j (kd i).2 ∧ aLv h i ∧ 10 ≤ (kd i).1 ∧ (kd i).1 ≤ 12 ∧ K (nx, ls, va_rf (h.2.2.2 i j.toNatClampNeg) :: r, h)
      | _ => False
    | .iastore => match st with
      | .int x :: .int j :: .ref i :: r => vp_in j (kd i).2 ∧ aLv h i ∧ (kd i).1 = 7 ∧ K (nx, ls, r, h.1, up2 h.2.1 i j.toNatClampNeg x, h.2.2.1, h.2.2.2)
      | _ => False
    | .lastore => match st with
      | .long x :: .int j :: .ref i :: r => vp_in j (kd i).2 ∧ aLv h i ∧ (kd i).1 = 8 ∧ K (nx, ls, r, h.1, h.2.1, up2 h.2.2.1 i j.toNatClampNeg x, h.2.2.2)
      | _ => False
    | .bastore => match st with
      | .int x :: .int j :: .ref i :: r => vp_in j (kd i).2 ∧ aLv h i ∧ (kd i).1 = 9 ∧ (x = 0 ∨ x = 1) ∧ K (nx, ls, r, h.1, up2 h.2.1 i j.toNatClampNeg x, h.2.2.1, h.2.2.2)
      | _ => False
    | .aastore => match st with
      | .ref q :: .int j :: .ref i :: r => vp_in j (kd i).2 ∧ aLv h i ∧ 10 ≤ (kd i).1 ∧ (kd i).1 ≤ 12 ∧ aLv h q ∧ (kd q).1 = a ∧ (kd i).1 = b ∧ K (nx, ls, r, h.1, h.2.1, h.2.2.1, up2 h.2.2.2 i j.toNatClampNeg (some q))
      | _ => False
    | .putfield _ => match st with
      | .int x :: .ref i :: r => aLv h i ∧ (kd i).1 = a ∧ t = 3 ∧ (x = 0 ∨ x = 1) ∧ K (nx, ls, r, h.1, up2 h.2.1 i b x, h.2.2.1, h.2.2.2)
      | _ => False
    | .new _ => (kd h.1) = (a, b) ∧ h.1 < 1000 ∧ aOks h.1 (ls.map (·.2)) ∧ aOks h.1 st ∧ K (nx, ls, .ref h.1 :: st, h.1 + 1, up1 h.2.1 h.1 (fun _ => 0), up1 h.2.2.1 h.1 (fun _ => 0), up1 h.2.2.2 h.1 (fun _ => none))
    | .newarray _ => match st with
      | .int x :: r => (¬ x < 0) ∧ kd h.1 = (a, x.toNatClampNeg) ∧ x.toNatClampNeg ≤ 10000 ∧ h.1 < 1000 ∧ aOks h.1 (ls.map (·.2)) ∧ aOks h.1 r ∧ K (nx, ls, .ref h.1 :: r, h.1 + 1, up1 h.2.1 h.1 (fun _ => 0), up1 h.2.2.1 h.1 (fun _ => 0), up1 h.2.2.2 h.1 (fun _ => none))
      | _ => False
    | .anewarray _ => match st with
      | .int x :: r => (¬ x < 0) ∧ kd h.1 = (a, x.toNatClampNeg) ∧ x.toNatClampNeg ≤ 10000 ∧ h.1 < 1000 ∧ aOks h.1 (ls.map (·.2)) ∧ aOks h.1 r ∧ K (nx, ls, .ref h.1 :: r, h.1 + 1, up1 h.2.1 h.1 (fun _ => 0), up1 h.2.2.1 h.1 (fun _ => 0), up1 h.2.2.2 h.1 (fun _ => none))
      | _ => False
    | .tableswitch dflt lo hi offs => match st with
      | .int x :: r => ((x.toInt < lo ∨ hi < x.toInt) ∧ K (((pc : Int) + dflt).toNat, ls, r, h)) ∨ (∃ off, offs[(x.toInt - lo).toNat]? = some off ∧ (¬ x.toInt < lo) ∧ (¬ hi < x.toInt) ∧ K (((pc : Int) + off).toNat, ls, r, h))
      | _ => False
    | .lookupswitch dflt ps => match st with
      | .int x :: r => K (((pc : Int) + Op.lookupswitch.offset ps.toList dflt x.toInt).toNat, ls, r, h)
      | _ => False
    | .invokestatic _ => if t = 9 then (match st with
        | .int n :: .int dp :: .ref i1 :: .int sp :: .ref i0 :: r => ¬ sp < 0 ∧ ¬ dp < 0 ∧ ¬ n < 0 ∧ aLv h i0 ∧ aLv h i1 ∧ sp.toNatClampNeg + n.toNatClampNeg ≤ (kd i0).2 ∧ dp.toNatClampNeg + n.toNatClampNeg ≤ (kd i1).2 ∧ (r.map fun v => v.category).sum ≤ 8 ∧
            (((kd i0).1 = 7 ∧ (kd i1).1 = 7 ∧ K (nx, ls, r, h.1, up1 h.2.1 i1 (va_cpy (h.2.1 i0) (h.2.1 i1) sp.toNatClampNeg dp.toNatClampNeg n.toNatClampNeg), h.2.2.1, h.2.2.2)) ∨
             ((kd i0).1 = 8 ∧ (kd i1).1 = 8 ∧ K (nx, ls, r, h.1, h.2.1, up1 h.2.2.1 i1 (va_cpy (h.2.2.1 i0) (h.2.2.1 i1) sp.toNatClampNeg dp.toNatClampNeg n.toNatClampNeg), h.2.2.2)))
        | _ => False)
      else ∃ rv1 h1, b ≤ st.length ∧ ((st.drop b).map fun v => v.category).sum ≤ 8 ∧ X a (st.take b).reverse h rv1 h1 ∧ (h1.1 = h.1 ∨ (aOks h.1 (ls.map (·.2)) ∧ aOks h.1 (st.drop b))) ∧ K (nx, ls, rv1.toList ++ st.drop b, h1)
    | .invokevirtual _ => ∃ rv1 h1, b ≤ st.length ∧ ((st.drop b).map fun v => v.category).sum ≤ 8 ∧ (∃ i, (st.take b).reverse.head? = some (.ref i) ∧ (((kd i).1 = 15 ∧ t = 20) ∨ (aLv h i ∧ (kd i).1 = t))) ∧ X a (st.take b).reverse h rv1 h1 ∧ (h1.1 = h.1 ∨ (aOks h.1 (ls.map (·.2)) ∧ aOks h.1 (st.drop b))) ∧ K (nx, ls, rv1.toList ++ st.drop b, h1)
    | .invokespecial _ => if t = 8 then (match st with
        | .ref _ :: r => (r.map fun v => v.category).sum ≤ 8 ∧ K (nx, ls, r, h)
        | _ => False)
      else ∃ h1, b ≤ st.length ∧ ((st.drop b).map fun v => v.category).sum ≤ 8 ∧ (∃ i, (st.take b).reverse.head? = some (.ref i)) ∧ X a (st.take b).reverse h none h1 ∧ (h1.1 = h.1 ∨ (aOks h.1 (ls.map (·.2)) ∧ aOks h.1 (st.drop b))) ∧ K (nx, ls, st.drop b, h1)
    | _ => False
def aRun (kd : Nat → Nat × Nat) (Z : aZ) (n0 : Nat) (X : aX) (cd : Nat → Option aI) : Nat → aC → Option Value → aH → Prop
  | 0, _, _, _ => False
  | F + 1, c, rv, hh => match cd c.1 with
    | none => False
    | some ai => match aStp kd n0 ai c with
      | some c' => aRun kd Z n0 X cd F c' rv hh
      | none => aSpc kd Z X (fun c' => aRun kd Z n0 X cd F c' rv hh) ai c rv hh
/-- calls no deeper than d: the numbered methods' codes are cds -/
def aEx (kd : Nat → Nat × Nat) (Z : aZ) (n0 : Nat) (ml : Nat → Nat) (cds : Nat → Nat → Option aI) : Nat → aX
  | 0 => fun _ _ _ _ _ => False
  | d + 1 => fun y vs h rv hh => Nat.ble (vs.map fun v => v.category).sum (ml y) = true ∧ n0 ≤ h.1 ∧ ∃ F, aRun kd Z n0 (aEx kd Z n0 ml cds d) (cds y) F (0, lv_args 0 vs, [], h) rv hh
end
section
/-! values, locals and cells of the abstract machine, read at addresses -/
def aTr (ad : Nat → Nat) : Value → Value
  | .ref i => .ref (ad i)
  | v => v
def aTl (ad : Nat → Nat) (l : aL) : aL := l.map (fun q => (q.1, aTr ad q.2))
theorem aTr_cat (ad : Nat → Nat) (v : Value) : (aTr ad v).category = v.category := by cases v <;> rfl
theorem aTr_rf (ad : Nat → Nat) (r : Option Nat) : aTr ad (va_rf r) = va_rf (r.map ad) := by cases r <;> rfl
theorem aGet_mem : ∀ {l : aL} {i : Nat} {v : Value}, aGet l i = some v → (i, v) ∈ l
  | [], i, v, h => by cases h
  | q :: l, i, v, h => by
    unfold aGet at h
    cases hq : Nat.beq q.1 i with
    | true =>
      rw [hq] at h
      have h1 : q.2 = v := Option.some.inj h
      have h2 : q.1 = i := Nat.eq_of_beq_eq_true hq
      rw [← h1, ← h2]
      exact List.mem_cons_self
    | false =>
      rw [hq] at h
      exact List.mem_cons_of_mem _ (aGet_mem h)
theorem aTl_mem {ad : Nat → Nat} {l : aL} {i : Nat} {v : Value} (h : (i, v) ∈ l) : (i, aTr ad v) ∈ aTl ad l := List.mem_map.mpr ⟨(i, v), h, rfl⟩
theorem aGet_lv {ad : Nat → Nat} {l : aL} {i nL : Nat} {v : Value} {ls : Array Slot} (hl : lv_has ls nL (aTl ad l)) (h : aGet l i = some v) : ls[i]? = some (.val (aTr ad v)) := hl.2.2 (i, aTr ad v) (aTl_mem (aGet_mem h))
theorem aTl_put1 (ad : Nat → Nat) (l : aL) (i : Nat) (v : Value) : (i, aTr ad v) :: (aTl ad l).filter (fun q => !(q.1 == i) && !(q.1 + 1 == i && q.2.category == 2)) = aTl ad (aPut1 l i v) := by
  unfold aPut1 aTl
  rw [List.map_cons, List.filter_map]
  congr 2
  apply List.filter_congr
  intro q _
  simp [aTr_cat]
theorem aTl_put2 (ad : Nat → Nat) (l : aL) (i : Nat) (v : Value) : (i, aTr ad v) :: (aTl ad l).filter (fun q => !(q.1 == i) && (!(q.1 == i + 1) && !(q.1 + 1 == i && q.2.category == 2))) = aTl ad (aPut2 l i v) := by
  unfold aPut2 aTl
  rw [List.map_cons, List.filter_map]
  congr 2
  apply List.filter_congr
  intro q _
  simp [aTr_cat]
theorem aTr_args (ad : Nat → Nat) : ∀ (vs : List Value) (i : Nat), lv_args i (vs.map (aTr ad)) = aTl ad (lv_args i vs)
  | [], _ => rfl
  | v :: vs, i => by
    show (i, aTr ad v) :: lv_args (if (aTr ad v).category = 2 then i + 2 else i + 1) (vs.map (aTr ad)) = (i, aTr ad v) :: aTl ad (lv_args (if v.category = 2 then i + 2 else i + 1) vs)
    rw [aTr_cat, aTr_args ad vs]
/-- what a field holds, by its type's number: 1 long, 2 a reference, else int or boolean -/
def aFv (h : aH) (ad : Nat → Nat) (t i k : Nat) : Value := match t with
  | 1 => .long (h.2.2.1 i k)
  | 2 => va_rf ((h.2.2.2 i k).map ad)
  | _ => .int (h.2.1 i k)
def aEn (kd : Nat → Nat × Nat) (fk : Nat → Nat → Nat) (cy : Nat → ClassId) (h : aH) (ad : Nat → Nat) (i : Nat) : va_E :=
  if (kd i).1 < 7 then .inr ((kd i).1, (List.range (kd i).2).map (fun k => aFv h ad (fk (kd i).1 k) i k))
  else if (kd i).1 = 8 then .inl (cy 8, (kd i).2, .inr (.inl (h.2.2.1 i)))
  else if 10 ≤ (kd i).1 then .inl (cy (kd i).1, (kd i).2, .inr (.inr (.inr (.inr (fun k => (h.2.2.2 i k).map ad)))))
  else .inl (cy (kd i).1, (kd i).2, .inl (h.2.1 i))
def aWd (kd : Nat → Nat × Nat) (fk : Nat → Nat → Nat) (cy : Nat → ClassId) (ad : Nat → Nat) (h : aH) : va_W := (List.range h.1).map (fun i => (ad i, aEn kd fk cy h ad i))
section AW
variable {kd : Nat → Nat × Nat} {fk : Nat → Nat → Nat} {cy : Nat → ClassId} {ad : Nat → Nat} {h : aH}
theorem aWd_at {i : Nat} (hi : i < h.1) : (aWd kd fk cy ad h)[i]? = some (ad i, aEn kd fk cy h ad i) := by
  simp [aWd, hi]
theorem aWd_set {h' : aH} {i : Nat} {e : va_E} (hn : h'.1 = h.1) (he : e = aEn kd fk cy h' ad i) (ho : ∀ j, j ≠ i → aEn kd fk cy h' ad j = aEn kd fk cy h ad j) : (aWd kd fk cy ad h).set i (ad i, e) = aWd kd fk cy ad h' := by
  apply List.ext_getElem?
  intro j
  rw [List.getElem?_set]
  by_cases hj : i = j
  · subst hj
    by_cases hi : i < h.1
    · have h2 : i < h'.1 := by rw [hn]; exact hi
      rw [if_pos rfl, if_pos (by simp [aWd, hi]), aWd_at h2, he]
    · rw [if_pos rfl, if_neg (by simp [aWd, hi])]
      simp [aWd, hn, hi]
  · rw [if_neg hj]
    by_cases hi : j < h.1
    · have h2 : j < h'.1 := by rw [hn]; exact hi
      rw [aWd_at hi, aWd_at h2, ho j (fun e => hj e.symm)]
    · simp [aWd, hn, hi]
theorem up2_ne {α : Type} {f : Nat → Nat → α} {i k j : Nat} {v : α} (hj : j ≠ i) : up2 f i k v j = f j := by
  funext q
  have h1 : Nat.beq j i = false := by
    cases hb : Nat.beq j i with
    | false => rfl
    | true => exact absurd (Nat.eq_of_beq_eq_true hb) hj
  simp [up2, h1]
theorem up2_at {α : Type} {f : Nat → Nat → α} {i k q : Nat} {v : α} : up2 f i k v i q = if q = k then v else f i q := by
  by_cases hq : q = k
  · subst hq
    simp [up2]
  · have h1 : Nat.beq q k = false := by
      cases hb : Nat.beq q k with
      | false => rfl
      | true => exact absurd (Nat.eq_of_beq_eq_true hb) hq
    simp [up2, h1, hq]
theorem up1_ne {α : Type} {f : Nat → Nat → α} {i j : Nat} {g : Nat → α} (hj : j ≠ i) : up1 f i g j = f j := by
  have h1 : Nat.beq j i = false := by
    cases hb : Nat.beq j i with
    | false => rfl
    | true => exact absurd (Nat.eq_of_beq_eq_true hb) hj
  simp [up1, h1]
theorem up1_at {α : Type} {f : Nat → Nat → α} {i : Nat} {g : Nat → α} : up1 f i g i = g := by simp [up1]
theorem aSet_map {n k : Nat} {f g : Nat → Value} {v : Value} (hk : g k = v) (ho : ∀ j, j ≠ k → g j = f j) : ((List.range n).map f).set k v = (List.range n).map g := by
  apply List.ext_getElem?
  intro j
  rw [List.getElem?_set]
  by_cases hj : k = j
  · subst hj
    by_cases hi : k < n
    · rw [if_pos rfl, if_pos (by simp [hi])]
      simp [hi, hk]
    · rw [if_pos rfl, if_neg (by simp [hi])]
      simp [hi]
  · rw [if_neg hj]
    by_cases hi : j < n
    · simp [hi, ho j (fun e => hj e.symm)]
    · simp [hi]
end AW
end
section
/-- what the tables say of an instruction that has no side condition -/
def aSd (cl : List vw_C) (fk : Nat → Nat → Nat) (Ts : List Jvm.Cond) (SF : List (String × String × String × Value)) (SK : List (String × Nat × String × Nat)) (own : String) (nL : Nat) (ini : Bool) (pc len a b t : Nat) (v : Value) (ins : Instr) : Prop :=
  match ins with
  | .iconst z => len = 1 ∧ v = .int (Int32.ofInt z)
  | .bipush z => len = 2 ∧ v = .int (Int8.ofInt z).toInt32
  | .sipush z => len = 3 ∧ v = .int (Int16.ofInt z).toInt32
  | .lconst z => len = 1 ∧ v = .long (Int64.ofNat (z : Nat))
  | .ldc i => len = 2 ∧ ((∃ x, v = .int x ∧ Cond.constant own i x ∈ Ts) ∨ ∃ tx q, v = .ref q ∧ (own, i, tx, q) ∈ SK)
  | .ldc_w i => len = 3 ∧ ∃ x, v = .int x ∧ Cond.constant own i x ∈ Ts
  | .ldc2_w i => len = 3 ∧ ∃ x, v = .long x ∧ Cond.constantLong own i x ∈ Ts
  | .getstatic i => len = 3 ∧ ∃ q, q ∈ SF ∧ v = q.2.2.2 ∧ Cond.fieldLink own i q.1 q.2.1 q.2.2.1 ∈ Ts
  | .aconst_null => len = 1
  | .iload_n k => len = 1 ∧ (k : Nat) = a
  | .lload_n k => len = 1 ∧ (k : Nat) = a
  | .aload_n k => len = 1 ∧ (k : Nat) = a
  | .iload k => len = 2 ∧ k = a
  | .lload k => len = 2 ∧ k = a
  | .aload k => len = 2 ∧ k = a
  | .istore_n k => len = 1 ∧ (k : Nat) = a ∧ a < nL
  | .lstore_n k => len = 1 ∧ (k : Nat) = a ∧ a + 1 < nL
  | .astore_n k => len = 1 ∧ (k : Nat) = a ∧ a < nL
  | .istore k => len = 2 ∧ k = a ∧ a < nL
  | .lstore k => len = 2 ∧ k = a ∧ a + 1 < nL
  | .astore k => len = 2 ∧ k = a ∧ a < nL
  | .iinc k z => len = 3 ∧ k = a ∧ a < nL ∧ v = .int (Int32.ofInt z)
  | .goto off => len = 3 ∧ (pc : Int) + off = (a : Int)
  | .ifCond _ off => len = 3 ∧ (pc : Int) + off = (a : Int)
  | .if_icmp _ off => len = 3 ∧ (pc : Int) + off = (a : Int)
  | .ifnull off => len = 3 ∧ (pc : Int) + off = (a : Int)
  | .ifnonnull off => len = 3 ∧ (pc : Int) + off = (a : Int)
  | .getfield i => len = 3 ∧ ((a = 99 ∧ ((t = 15 ∧ Cond.fieldLink own i "java/lang/String" "value" "[B" ∈ Ts) ∨ (t = 16 ∧ Cond.fieldLink own i "java/lang/String" "coder" "B" ∈ Ts))) ∨ ∃ C T N, cl[a]? = some (C, T, N) ∧ b < N ∧ Cond.fieldLink own i (T b).1 (T b).2.1 (T b).2.2.1 ∈ Ts ∧ ((t = 1 ∧ fk a b = 1) ∨ (t = 2 ∧ fk a b = 2) ∨ (t = 0 ∧ (fk a b = 0 ∨ fk a b = 3))))
  | .putfield i => len = 3 ∧ ∃ C T N, cl[a]? = some (C, T, N) ∧ b < N ∧ Cond.fieldLink own i (T b).1 (T b).2.1 (T b).2.2.1 ∈ Ts ∧ fk a b = t ∧ ((T b).2.2.2 = true → ini = true ∧ (T b).1 = own)
  | .new _ => True
  | .newarray _ => True
  | .anewarray _ => True
  | .tableswitch _ _ _ _ => True
  | .lookupswitch _ _ => True
  | .invokestatic _ => True
  | .invokevirtual _ => True
  | .invokespecial _ => True
  | _ => len = 1
/-- what the class tables say -/
def aTab (cl : List vw_C) (fk : Nat → Nat → Nat) (Ts : List Jvm.Cond) : Prop := ∀ (ci : Nat) (C : String) (T : u_T) (N : Nat), cl[ci]? = some (C, T, N) → (∀ w ∈ u_ws C T N, w ∈ Ts) ∧ (∀ a, a < N → ∀ b, b < N → a ≠ b → (T a).2.1 ≠ (T b).2.1) ∧ ∃ ty : Nat → FieldType, (∀ k, k < N → parseFieldDescriptor (T k).2.2.1 = some (ty k)) ∧
  ∀ k, k < N → (fk ci k = 0 ∧ ty k = .int) ∨ (fk ci k = 1 ∧ ty k = .long) ∨ (fk ci k = 3 ∧ ty k = .boolean) ∨ (fk ci k = 2 ∧ ((∃ n, ty k = .object n) ∨ ∃ n, ty k = .array n))
section ST
variable {p : Program} {l : Launch} {e : Env} {R : Room} {s : State} {m : MethodId} {args : Array Value} {below : List Frame} {meth : Method} {c : Code} {Q : State → Prop}
variable {cc : ByteArray} {D : va_G} {cl : List vw_C} {A : Nat → Prop} {tys : List (ClassId × FieldType)} {Ts : List Jvm.Cond} {SF : List (String × String × String × Value)} {SK : List (String × Nat × String × Nat)} {own : String} {nL nS : Nat} {ini : Bool}
variable {kd : Nat → Nat × Nat} {fk : Nat → Nat → Nat} {cy : Nat → ClassId} {zs : Nat → Nat}
/-- from the abstract place c, read at the addresses ad, the machine comes to Q -/
def aSW (p : Program) (l : Launch) (e : Env) (R : Room) (s : State) (m : MethodId) (args : Array Value) (below : List Frame) (meth : Method) (cd : Code) (Q : State → Prop) (D : va_G) (cl : List vw_C) (A : Nat → Prop) (nL nS : Nat) (kd : Nat → Nat × Nat) (fk : Nat → Nat → Nat) (cy : Nat → ClassId) (zs : Nat → Nat) (ad : Nat → Nat) (c : aC) : Prop :=
  ∀ (H : Heap) (locs : List Loc) (ls : Array Slot), va_P D cl (aWd kd fk cy ad c.2.2.2) H → va_D A (aWd kd fk cy ad c.2.2.2) → va_S A s.heap H locs → lv_has ls nL (aTl ad c.2.1) →
    W p l e R s m args below meth cd H locs (c.2.2.2.1 - nS) (zs c.2.2.2.1 - zs nS) Q (F0 m c.1 ls (c.2.2.1.map (aTr ad)))
theorem aLive {n0 n i : Nat} (h0 : n0 ≤ n) (h : (Nat.blt i n0 || Nat.blt i n) = true) : i < n := by
  rcases Bool.or_eq_true_iff.mp h with h | h
  · have := Nat.le_of_ble_eq_true h
    omega
  · exact Nat.le_of_ble_eq_true h
theorem aBr {α : Type} {P : Prop} [Decidable P] {x y : α} {F : α → Prop} (h : F (if P then x else y)) : (P → F x) ∧ (¬ P → F y) := ⟨fun hp => by rw [if_pos hp] at h; exact h, fun hp => by rw [if_neg hp] at h; exact h⟩
end ST
end
section
section ST
variable {p : Program} {l : Launch} {e : Env} {R : Room} {s : State} {m : MethodId} {args : Array Value} {below : List Frame} {meth : Method} {c : Code} {Q : State → Prop}
variable {cc : ByteArray} {D : va_G} {cl : List vw_C} {A : Nat → Prop} {tys : List (ClassId × FieldType)} {Ts : List Jvm.Cond} {SF : List (String × String × String × Value)} {SK : List (String × Nat × String × Nat)} {own : String} {nL nS : Nat} {ini : Bool}
variable {kd : Nat → Nat × Nat} {fk : Nat → Nat → Nat} {cy : Nat → ClassId} {zs : Nat → Nat}
/-- which class ids the arrays have -/
def aTys (cy : Nat → ClassId) (tys : List (ClassId × FieldType)) : Prop := tys[0]? = some (cy 7, .int) ∧ tys[1]? = some (cy 8, .long) ∧ tys[2]? = some (cy 9, .boolean) ∧ (∃ C, tys[3]? = some (cy 10, .object C)) ∧ (∃ C, tys[4]? = some (cy 11, .object C)) ∧ (∃ C, tys[5]? = some (cy 12, .object C))
theorem aEn_eq {h h' : aH} {ad : Nat → Nat} {j : Nat} (h1 : h'.2.1 j = h.2.1 j) (h2 : h'.2.2.1 j = h.2.2.1 j) (h3 : h'.2.2.2 j = h.2.2.2 j) : aEn kd fk cy h' ad j = aEn kd fk cy h ad j := by
  unfold aEn aFv
  rw [h1, h2, h3]
theorem aEn_arr {h : aH} {ad : Nat → Nat} {i : Nat} (h7 : 7 ≤ (kd i).1) : ∃ x : vp_A, aEn kd fk cy h ad i = .inl (cy (kd i).1, x) ∧ x.1 = (kd i).2 := by
  unfold aEn
  rw [if_neg (Nat.not_lt.mpr h7)]
  by_cases h8 : (kd i).1 = 8
  · rw [if_pos h8, h8]; exact ⟨_, rfl, rfl⟩
  · rw [if_neg h8]
    by_cases h10 : 10 ≤ (kd i).1
    · rw [if_pos h10]; exact ⟨_, rfl, rfl⟩
    · rw [if_neg h10]; exact ⟨_, rfl, rfl⟩
theorem aWd_obj {h : aH} {ad : Nat → Nat} {i ci N : Nat} {C : String} {T : u_T} (hkd : ∀ i, (kd i).1 < 7 → ∃ C T, cl[(kd i).1]? = some (C, T, (kd i).2)) (hcl : cl.length ≤ 7) (hi : i < h.1) (hk : (kd i).1 = ci) (hc : cl[ci]? = some (C, T, N)) :
    (aWd kd fk cy ad h)[i]? = some (ad i, .inr (ci, (List.range N).map (fun k => aFv h ad (fk ci k) i k))) := by
  have h7 : ci < 7 := Nat.lt_of_lt_of_le (List.getElem?_eq_some_iff.mp hc).1 hcl
  subst hk
  obtain ⟨C1, T1, e⟩ := hkd i h7
  rw [hc] at e
  cases e
  rw [aWd_at hi]
  unfold aEn
  rw [if_pos h7]
theorem aPut_sound (hx : p.tables.exec = Jvm.exec) (hb : c.code = cc) (hts : ∀ w ∈ Ts, w.before args s = true) (htab : aTab cl fk Ts) (hkd : ∀ i, (kd i).1 < 7 → ∃ C T, cl[(kd i).1]? = some (C, T, (kd i).2)) (hcl : cl.length ≤ 7)
    (hown : s.vm.findClass own = some m.cls) (hini : ini = true → meth.name = "<init>") (hK : va_K D cl tys s) {ad : Nat → Nat} {i ci b N pc z : Nat} {C : String} {T : u_T} {w : Value} {h h' : aH} {ls : aL} {r : List Value}
    (hlive : i < h.1) (hk1 : (kd i).1 = ci) (hcl1 : cl[ci]? = some (C, T, N)) (hb1 : b < N) (hw : Cond.fieldLink own z (T b).1 (T b).2.1 (T b).2.2.1 ∈ Ts) (hfin : (T b).2.2.2 = true → ini = true ∧ (T b).1 = own) (hdec : decode cc pc = .ok (.putfield z, 3))
    (hfit : ∀ ty : FieldType, ((fk ci b = 0 ∧ ty = .int) ∨ (fk ci b = 1 ∧ ty = .long) ∨ (fk ci b = 3 ∧ ty = .boolean) ∨ (fk ci b = 2 ∧ ((∃ n, ty = .object n) ∨ ∃ n, ty = .array n))) → narrow ty (aTr ad w) = aTr ad w ∧ fits ty (aTr ad w) = true)
    (hn : h'.1 = h.1) (hv : aFv h' ad (fk ci b) i b = aTr ad w) (ho1 : ∀ j, j ≠ b → aFv h' ad (fk ci j) i j = aFv h ad (fk ci j) i j) (ho2 : ∀ j, j ≠ i → aEn kd fk cy h' ad j = aEn kd fk cy h ad j)
    (k : aSW p l e R s m args below meth c Q D cl A nL nS kd fk cy zs ad (pc + 3, ls, r, h')) : aSW p l e R s m args below meth c Q D cl A nL nS kd fk cy zs ad (pc, ls, w :: .ref i :: r, h) := by
  intro H locs L hP hD hS hl
  obtain ⟨hin1, hnm1, ty, hty1, hty2⟩ := htab ci C T N hcl1
  have hat := aWd_obj (fk := fk) (cy := cy) (ad := ad) hkd hcl hlive hk1 hcl1
  obtain ⟨hf1, hf2⟩ := hfit (ty b) (hty2 b hb1)
  have hat' := aWd_obj (fk := fk) (cy := cy) (ad := ad) hkd hcl (h := h') (by rw [hn]; exact hlive) hk1 hcl1
  have hen : aEn kd fk cy h' ad i = .inr (ci, (List.range N).map (fun k => aFv h' ad (fk ci k) i k)) := by
    have h9 := aWd_at (kd := kd) (fk := fk) (cy := cy) (ad := ad) (h := h') (i := i) (by rw [hn]; exact hlive)
    rw [hat'] at h9
    exact (Prod.mk.inj (Option.some.inj h9)).2.symm
  have hset : (aWd kd fk cy ad h).set i (ad i, .inr (ci, ((List.range N).map (fun k => aFv h ad (fk ci k) i k)).set b (aTr ad w))) = aWd kd fk cy ad h' := by
    refine aWd_set hn ?_ ho2
    rw [hen, aSet_map (f := fun j => aFv h ad (fk ci j) i j) (g := fun j => aFv h' ad (fk ci j) i j) hv ho1]
  by_cases hfi : (T b).2.2.2 = true
  · obtain ⟨h1, h2⟩ := hfin hfi
    refine va_putF hx hb hts hin1 ty hty1 hnm1 hown hK hP hD hS i hat hcl1 b hb1 (hts _ hw) (fun _ h9 => h9) hfi (hini h1) h2 (hty1 b hb1) hf1 hf2 (by simp [hb1]) hdec (fun H1 locs1 hP1 hD1 hS1 => ?_)
    rw [hset] at hP1 hD1
    have k1 := k H1 locs1 L hP1 hD1 hS1 hl
    dsimp only at k1
    rw [hn] at k1
    exact k1
  · refine va_put hx hb hts hin1 ty hty1 hnm1 hown hK hP hD hS i hat hcl1 b hb1 (hts _ hw) (fun _ h9 => h9) (by simpa using hfi) (hty1 b hb1) hf1 hf2 (by simp [hb1]) hdec (fun H1 locs1 hP1 hD1 hS1 => ?_)
    rw [hset] at hP1 hD1
    have k1 := k H1 locs1 L hP1 hD1 hS1 hl
    dsimp only at k1
    rw [hn] at k1
    exact k1
theorem aVal_tr {h : aH} {ad : Nat → Nat} {t f i b : Nat} (hft : (t = 1 ∧ f = 1) ∨ (t = 2 ∧ f = 2) ∨ (t = 0 ∧ (f = 0 ∨ f = 3))) : aTr ad (aVal h t i b) = aFv h ad f i b := by
  rcases hft with ⟨rfl, rfl⟩ | ⟨rfl, rfl⟩ | ⟨rfl, rfl | rfl⟩
  · rfl
  · exact aTr_rf ad _
  · rfl
  · rfl
theorem aTys_at {cy : Nat → ClassId} {tys : List (ClassId × FieldType)} (hty : aTys cy tys) {q : Nat} (h7 : 7 ≤ q) (h12 : q ≤ 12) : ∃ (t0 : Nat) (ty : FieldType), tys[t0]? = some (cy q, ty) := by
  obtain ⟨a0, a1, a2, ⟨c3, a3⟩, ⟨c4, a4⟩, ⟨c5, a5⟩⟩ := hty
  have : q = 7 ∨ q = 8 ∨ q = 9 ∨ q = 10 ∨ q = 11 ∨ q = 12 := by omega
  rcases this with rfl | rfl | rfl | rfl | rfl | rfl
  · exact ⟨_, _, a0⟩
  · exact ⟨_, _, a1⟩
  · exact ⟨_, _, a2⟩
  · exact ⟨_, _, a3⟩
  · exact ⟨_, _, a4⟩
  · exact ⟨_, _, a5⟩
theorem aHok_up {h : aH} {i b j : Nat} (hk : aHok h) (hj : j < h.1) : aHok (h.1, h.2.1, h.2.2.1, up2 h.2.2.2 i b (some j)) := by
  intro x y z hx hz
  dsimp only at hx hz ⊢
  by_cases hxi : x = i
  · subst hxi
    rw [up2_at] at hz
    split at hz
    · cases hz; exact hj
    · exact hk x y z hx hz
  · rw [up2_ne hxi] at hz
    exact hk x y z hx hz
set_option maxHeartbeats 4000000 in
theorem aStp_h {n0 : Nat} {ai : aI} {x y : aC} (h : aStp kd n0 ai x = some y) : y.2.2.2.1 = x.2.2.2.1 ∧ (n0 ≤ x.2.2.2.1 → aHok x.2.2.2 → aHok y.2.2.2) := by
  obtain ⟨ins, nx, a, b, t, v⟩ := ai
  obtain ⟨pc, ls, st, hh⟩ := x
  cases ins with
  | putfield z =>
    dsimp only [aStp] at h
    split at h
    next x i r =>
      cases hc : ((Nat.blt i n0 || Nat.blt i hh.1) && Nat.beq (kd i).1 a && Nat.beq t 0) with
      | false => rw [hc] at h; cases h
      | true => rw [hc] at h; cases h; exact ⟨rfl, fun _ hk => hk⟩
    next x i r =>
      cases hc : ((Nat.blt i n0 || Nat.blt i hh.1) && Nat.beq (kd i).1 a && Nat.beq t 1) with
      | false => rw [hc] at h; cases h
      | true => rw [hc] at h; cases h; exact ⟨rfl, fun _ hk => hk⟩
    next j i r =>
      cases hc : ((Nat.blt i n0 || Nat.blt i hh.1) && Nat.beq (kd i).1 a && Nat.beq t 2 && (Nat.blt j n0 || Nat.blt j hh.1)) with
      | false => rw [hc] at h; cases h
      | true =>
        rw [hc] at h; cases h
        exact ⟨rfl, fun h0 hk => aHok_up hk (aLive h0 (Bool.and_eq_true_iff.mp hc).2)⟩
    next => cases h
  | getfield z =>
    dsimp only [aStp] at h
    split at h
    next i r =>
      cases hc : ((Nat.blt i n0 || Nat.blt i hh.1) && Nat.beq (kd i).1 a) with
      | false => rw [hc] at h; cases h
      | true => rw [hc] at h; cases h; exact ⟨rfl, fun _ hk => hk⟩
    next => cases h
  | arraylength =>
    dsimp only [aStp] at h
    split at h
    next i r =>
      cases hc : ((Nat.blt i n0 || Nat.blt i hh.1) && (Nat.ble 7 (kd i).1 && Nat.ble (kd i).1 12)) with
      | false => rw [hc] at h; cases h
      | true => rw [hc] at h; cases h; exact ⟨rfl, fun _ hk => hk⟩
    next => cases h
  | ifCond cnd off => cases cnd <;> dsimp only [aStp] at h <;> split at h <;> first | (cases h; exact ⟨rfl, fun _ hk => hk⟩) | cases h
  | if_icmp cnd off => cases cnd <;> dsimp only [aStp] at h <;> split at h <;> first | (cases h; exact ⟨rfl, fun _ hk => hk⟩) | cases h
  | _ => dsimp only [aStp] at h <;> first | (cases h; exact ⟨rfl, fun _ hk => hk⟩) | cases h | (split at h <;> first | (cases h; exact ⟨rfl, fun _ hk => hk⟩) | cases h)
set_option maxHeartbeats 4000000 in
theorem aStp_sound (hx : p.tables.exec = Jvm.exec) (hb : c.code = cc) (hts : ∀ w ∈ Ts, w.before args s = true) (htab : aTab cl fk Ts) (hkd : ∀ i, (kd i).1 < 7 → ∃ C T, cl[(kd i).1]? = some (C, T, (kd i).2)) (hcl : cl.length ≤ 7)
    (hown : s.vm.findClass own = some m.cls) (hini : ini = true → meth.name = "<init>") (hK : va_K D cl tys s) (hty : aTys cy tys) {ad : Nat → Nat} (hk50 : ∀ i, (kd i).1 < 50) (hSF : ∀ q ∈ SF, va_Z q.1 q.2.1 q.2.2.1 (aTr ad q.2.2.2) A s s.heap) (hSK : ∀ q ∈ SK, vk_R q.1 q.2.1 q.2.2.1 (ad q.2.2.2) s)
    {n0 pc len nx a b t : Nat} {v : Value} {ins : Instr} {ls : aL} {st : List Value} {h : aH} {c' : aC} (hn0 : n0 ≤ h.1) (hdec : decode cc pc = .ok (ins, len)) (hnx : nx = pc + len) (hsd : aSd cl fk Ts SF SK own nL ini pc len a b t v ins)
    (hstp : aStp kd n0 (ins, nx, a, b, t, v) (pc, ls, st, h) = some c') (k : aSW p l e R s m args below meth c Q D cl A nL nS kd fk cy zs ad c') : aSW p l e R s m args below meth c Q D cl A nL nS kd fk cy zs ad (pc, ls, st, h) := by
  cases ins with
  | iconst z =>
    dsimp only [aStp] at hstp
    obtain ⟨rfl, rfl⟩ := hsd
    subst hnx
    cases hstp
    intro H locs L hP hD hS hl
    exact lv_iconst hx hb hdec rfl (k H locs L hP hD hS hl)
  | bipush z =>
    dsimp only [aStp] at hstp
    obtain ⟨rfl, rfl⟩ := hsd
    subst hnx
    cases hstp
    intro H locs L hP hD hS hl
    exact lv_bipush hx hb hdec rfl (k H locs L hP hD hS hl)
  | sipush z =>
    dsimp only [aStp] at hstp
    obtain ⟨rfl, rfl⟩ := hsd
    subst hnx
    cases hstp
    intro H locs L hP hD hS hl
    exact lv_sipush hx hb hdec rfl (k H locs L hP hD hS hl)
  | lconst z =>
    dsimp only [aStp] at hstp
    obtain ⟨rfl, rfl⟩ := hsd
    subst hnx
    cases hstp
    intro H locs L hP hD hS hl
    exact lv_lconst hx hb hdec rfl (k H locs L hP hD hS hl)
  | ldc z =>
    dsimp only [aStp] at hstp
    obtain ⟨rfl, ⟨x, rfl, hw⟩ | ⟨tx, q, rfl, hw⟩⟩ := hsd
    · subst hnx
      cases hstp
      intro H locs L hP hD hS hl
      exact lv_ldc hx hb hown (hts _ hw) hdec (k H locs L hP hD hS hl)
    · subst hnx
      cases hstp
      intro H locs L hP hD hS hl
      exact va_ldcS hx hb hown (hSK _ hw) hdec (k H locs L hP hD hS hl)
  | ldc_w z =>
    dsimp only [aStp] at hstp
    obtain ⟨rfl, x, rfl, hw⟩ := hsd
    subst hnx
    cases hstp
    intro H locs L hP hD hS hl
    exact lv_ldcw hx hb hown (hts _ hw) hdec (k H locs L hP hD hS hl)
  | ldc2_w z =>
    dsimp only [aStp] at hstp
    obtain ⟨rfl, x, rfl, hw⟩ := hsd
    subst hnx
    cases hstp
    intro H locs L hP hD hS hl
    exact lv_ldc2 hx hb hown (hts _ hw) hdec (k H locs L hP hD hS hl)
  | getstatic z =>
    dsimp only [aStp] at hstp
    obtain ⟨rfl, q, hq, rfl, hw⟩ := hsd
    subst hnx
    cases hstp
    intro H locs L hP hD hS hl
    exact va_gets hx hb (hSF q hq) hS hown (hts _ hw) (fun _ h9 => h9) hdec (k H locs L hP hD hS hl)
  | aconst_null =>
    dsimp only [aStp] at hstp
    cases (show len = 1 from hsd)
    subst hnx
    cases hstp
    intro H locs L hP hD hS hl
    exact lv_null hx hb hdec (k H locs L hP hD hS hl)
  | iload_n z =>
    dsimp only [aStp] at hstp
    obtain ⟨rfl, hka⟩ := hsd
    subst hnx
    split at hstp
    next x hg =>
      cases hstp
      intro H locs L hP hD hS hl
      exact lv_iload_n hx hb hdec hka (aGet_lv hl hg) (k H locs L hP hD hS hl)
    next => cases hstp
  | iload z =>
    dsimp only [aStp] at hstp
    obtain ⟨rfl, rfl⟩ := hsd
    subst hnx
    split at hstp
    next x hg =>
      cases hstp
      intro H locs L hP hD hS hl
      exact lv_iload hx hb hdec (aGet_lv hl hg) (k H locs L hP hD hS hl)
    next => cases hstp
  | lload_n z =>
    dsimp only [aStp] at hstp
    obtain ⟨rfl, hka⟩ := hsd
    subst hnx
    split at hstp
    next x hg =>
      cases hstp
      intro H locs L hP hD hS hl
      exact lv_lload_n hx hb hdec hka (aGet_lv hl hg) (k H locs L hP hD hS hl)
    next => cases hstp
  | lload z =>
    dsimp only [aStp] at hstp
    obtain ⟨rfl, rfl⟩ := hsd
    subst hnx
    split at hstp
    next x hg =>
      cases hstp
      intro H locs L hP hD hS hl
      exact lv_lload hx hb hdec (aGet_lv hl hg) (k H locs L hP hD hS hl)
    next => cases hstp
  | aload_n z =>
    dsimp only [aStp] at hstp
    obtain ⟨rfl, hka⟩ := hsd
    subst hnx
    split at hstp
    next x hg =>
      cases hstp
      intro H locs L hP hD hS hl
      exact lv_aload_n hx hb hdec hka (aGet_lv hl hg) (k H locs L hP hD hS hl)
    next hg =>
      cases hstp
      intro H locs L hP hD hS hl
      exact lv_aload_nN hx hb hdec hka (aGet_lv hl hg) (k H locs L hP hD hS hl)
    next => cases hstp
  | aload z =>
    dsimp only [aStp] at hstp
    obtain ⟨rfl, rfl⟩ := hsd
    subst hnx
    split at hstp
    next x hg =>
      cases hstp
      intro H locs L hP hD hS hl
      exact lv_aload hx hb hdec (aGet_lv hl hg) (k H locs L hP hD hS hl)
    next hg =>
      cases hstp
      intro H locs L hP hD hS hl
      exact lv_aloadN hx hb hdec (aGet_lv hl hg) (k H locs L hP hD hS hl)
    next => cases hstp
  | istore_n z =>
    dsimp only [aStp] at hstp
    obtain ⟨rfl, hka, han⟩ := hsd
    subst hnx
    split at hstp
    next x r =>
      cases hstp
      intro H locs L hP hD hS hl
      exact lv_istore_n hx hb hdec hka hl han (aTl_put1 ad ls a (.int x)) (fun ls1 hl1 => k H locs ls1 hP hD hS hl1)
    next => cases hstp
  | istore z =>
    dsimp only [aStp] at hstp
    obtain ⟨rfl, rfl, han⟩ := hsd
    subst hnx
    split at hstp
    next x r =>
      cases hstp
      intro H locs L hP hD hS hl
      exact lv_istore hx hb hdec hl han (aTl_put1 ad ls z (.int x)) (fun ls1 hl1 => k H locs ls1 hP hD hS hl1)
    next => cases hstp
  | lstore_n z =>
    dsimp only [aStp] at hstp
    obtain ⟨rfl, hka, han⟩ := hsd
    subst hnx
    split at hstp
    next x r =>
      cases hstp
      intro H locs L hP hD hS hl
      exact lv_lstore_n hx hb hdec hka hl han (aTl_put2 ad ls a (.long x)) (fun ls1 hl1 => k H locs ls1 hP hD hS hl1)
    next => cases hstp
  | lstore z =>
    dsimp only [aStp] at hstp
    obtain ⟨rfl, rfl, han⟩ := hsd
    subst hnx
    split at hstp
    next x r =>
      cases hstp
      intro H locs L hP hD hS hl
      exact lv_lstore hx hb hdec hl han (aTl_put2 ad ls z (.long x)) (fun ls1 hl1 => k H locs ls1 hP hD hS hl1)
    next => cases hstp
  | astore_n z =>
    dsimp only [aStp] at hstp
    obtain ⟨rfl, hka, han⟩ := hsd
    subst hnx
    split at hstp
    next x r =>
      cases hstp
      intro H locs L hP hD hS hl
      exact lv_astore_n hx hb hdec hka hl han (aTl_put1 ad ls a (.ref x)) (fun ls1 hl1 => k H locs ls1 hP hD hS hl1)
    next r =>
      cases hstp
      intro H locs L hP hD hS hl
      exact lv_astore_nN hx hb hdec hka hl han (aTl_put1 ad ls a .null) (fun ls1 hl1 => k H locs ls1 hP hD hS hl1)
    next => cases hstp
  | astore z =>
    dsimp only [aStp] at hstp
    obtain ⟨rfl, rfl, han⟩ := hsd
    subst hnx
    split at hstp
    next x r =>
      cases hstp
      intro H locs L hP hD hS hl
      exact lv_astore hx hb hdec hl han (aTl_put1 ad ls z (.ref x)) (fun ls1 hl1 => k H locs ls1 hP hD hS hl1)
    next r =>
      cases hstp
      intro H locs L hP hD hS hl
      exact lv_astoreN hx hb hdec hl han (aTl_put1 ad ls z .null) (fun ls1 hl1 => k H locs ls1 hP hD hS hl1)
    next => cases hstp
  | iinc z y =>
    dsimp only [aStp] at hstp
    obtain ⟨rfl, rfl, han, rfl⟩ := hsd
    subst hnx
    split at hstp
    next y0 x hy hg =>
      cases hy
      cases hstp
      intro H locs L hP hD hS hl
      obtain ⟨kq, hkq⟩ := List.getElem?_of_mem (aTl_mem (ad := ad) (aGet_mem hg))
      exact lv_iinc hx hb hdec hl hkq rfl han (aTl_put1 ad ls z (.int _)) (fun ls1 hl1 => k H locs ls1 hP hD hS hl1)
    next => cases hstp
  | iadd =>
    dsimp only [aStp] at hstp
    cases (show len = 1 from hsd)
    subst hnx
    split at hstp
    next =>
      cases hstp
      intro H locs L hP hD hS hl
      exact lv_iadd hx hb hdec (k H locs L hP hD hS hl)
    next => cases hstp
  | isub =>
    dsimp only [aStp] at hstp
    cases (show len = 1 from hsd)
    subst hnx
    split at hstp
    next =>
      cases hstp
      intro H locs L hP hD hS hl
      exact lv_isub hx hb hdec (k H locs L hP hD hS hl)
    next => cases hstp
  | imul =>
    dsimp only [aStp] at hstp
    cases (show len = 1 from hsd)
    subst hnx
    split at hstp
    next =>
      cases hstp
      intro H locs L hP hD hS hl
      exact lv_imul hx hb hdec (k H locs L hP hD hS hl)
    next => cases hstp
  | iand =>
    dsimp only [aStp] at hstp
    cases (show len = 1 from hsd)
    subst hnx
    split at hstp
    next =>
      cases hstp
      intro H locs L hP hD hS hl
      exact lv_iand hx hb hdec (k H locs L hP hD hS hl)
    next => cases hstp
  | ior =>
    dsimp only [aStp] at hstp
    cases (show len = 1 from hsd)
    subst hnx
    split at hstp
    next =>
      cases hstp
      intro H locs L hP hD hS hl
      exact lv_ior hx hb hdec (k H locs L hP hD hS hl)
    next => cases hstp
  | ixor =>
    dsimp only [aStp] at hstp
    cases (show len = 1 from hsd)
    subst hnx
    split at hstp
    next =>
      cases hstp
      intro H locs L hP hD hS hl
      exact lv_ixor hx hb hdec (k H locs L hP hD hS hl)
    next => cases hstp
  | ishl =>
    dsimp only [aStp] at hstp
    cases (show len = 1 from hsd)
    subst hnx
    split at hstp
    next =>
      cases hstp
      intro H locs L hP hD hS hl
      exact lv_ishl hx hb hdec (k H locs L hP hD hS hl)
    next => cases hstp
  | ishr =>
    dsimp only [aStp] at hstp
    cases (show len = 1 from hsd)
    subst hnx
    split at hstp
    next =>
      cases hstp
      intro H locs L hP hD hS hl
      exact lv_ishr hx hb hdec (k H locs L hP hD hS hl)
    next => cases hstp
  | ladd =>
    dsimp only [aStp] at hstp
    cases (show len = 1 from hsd)
    subst hnx
    split at hstp
    next =>
      cases hstp
      intro H locs L hP hD hS hl
      exact lv_ladd hx hb hdec (k H locs L hP hD hS hl)
    next => cases hstp
  | lsub =>
    dsimp only [aStp] at hstp
    cases (show len = 1 from hsd)
    subst hnx
    split at hstp
    next =>
      cases hstp
      intro H locs L hP hD hS hl
      exact lv_lsub hx hb hdec (k H locs L hP hD hS hl)
    next => cases hstp
  | lmul =>
    dsimp only [aStp] at hstp
    cases (show len = 1 from hsd)
    subst hnx
    split at hstp
    next =>
      cases hstp
      intro H locs L hP hD hS hl
      exact lv_lmul hx hb hdec (k H locs L hP hD hS hl)
    next => cases hstp
  | land =>
    dsimp only [aStp] at hstp
    cases (show len = 1 from hsd)
    subst hnx
    split at hstp
    next =>
      cases hstp
      intro H locs L hP hD hS hl
      exact lv_land hx hb hdec (k H locs L hP hD hS hl)
    next => cases hstp
  | lor =>
    dsimp only [aStp] at hstp
    cases (show len = 1 from hsd)
    subst hnx
    split at hstp
    next =>
      cases hstp
      intro H locs L hP hD hS hl
      exact lv_lor hx hb hdec (k H locs L hP hD hS hl)
    next => cases hstp
  | ineg =>
    dsimp only [aStp] at hstp
    cases (show len = 1 from hsd)
    subst hnx
    split at hstp
    next =>
      cases hstp
      intro H locs L hP hD hS hl
      exact lv_ineg hx hb hdec (k H locs L hP hD hS hl)
    next => cases hstp
  | lneg =>
    dsimp only [aStp] at hstp
    cases (show len = 1 from hsd)
    subst hnx
    split at hstp
    next =>
      cases hstp
      intro H locs L hP hD hS hl
      exact lv_lneg hx hb hdec (k H locs L hP hD hS hl)
    next => cases hstp
  | iushr =>
    dsimp only [aStp] at hstp
    cases (show len = 1 from hsd)
    subst hnx
    split at hstp
    next =>
      cases hstp
      intro H locs L hP hD hS hl
      exact lv_iushr hx hb hdec rfl (k H locs L hP hD hS hl)
    next => cases hstp
  | lshl =>
    dsimp only [aStp] at hstp
    cases (show len = 1 from hsd)
    subst hnx
    split at hstp
    next =>
      cases hstp
      intro H locs L hP hD hS hl
      exact lv_lshl hx hb hdec rfl (k H locs L hP hD hS hl)
    next => cases hstp
  | i2l =>
    dsimp only [aStp] at hstp
    cases (show len = 1 from hsd)
    subst hnx
    split at hstp
    next =>
      cases hstp
      intro H locs L hP hD hS hl
      exact lv_i2l hx hb hdec rfl (k H locs L hP hD hS hl)
    next => cases hstp
  | l2i =>
    dsimp only [aStp] at hstp
    cases (show len = 1 from hsd)
    subst hnx
    split at hstp
    next =>
      cases hstp
      intro H locs L hP hD hS hl
      exact lv_l2i hx hb hdec rfl (k H locs L hP hD hS hl)
    next => cases hstp
  | i2b =>
    dsimp only [aStp] at hstp
    cases (show len = 1 from hsd)
    subst hnx
    split at hstp
    next =>
      cases hstp
      intro H locs L hP hD hS hl
      exact lv_i2b hx hb hdec rfl (k H locs L hP hD hS hl)
    next => cases hstp
  | i2s =>
    dsimp only [aStp] at hstp
    cases (show len = 1 from hsd)
    subst hnx
    split at hstp
    next =>
      cases hstp
      intro H locs L hP hD hS hl
      exact lv_i2s hx hb hdec rfl (k H locs L hP hD hS hl)
    next => cases hstp
  | i2c =>
    dsimp only [aStp] at hstp
    cases (show len = 1 from hsd)
    subst hnx
    split at hstp
    next =>
      cases hstp
      intro H locs L hP hD hS hl
      exact lv_i2c hx hb hdec rfl (k H locs L hP hD hS hl)
    next => cases hstp
  | lcmp =>
    dsimp only [aStp] at hstp
    cases (show len = 1 from hsd)
    subst hnx
    split at hstp
    next =>
      cases hstp
      intro H locs L hP hD hS hl
      exact W.lcmp hx hb hdec (k H locs L hP hD hS hl)
    next => cases hstp
  | dup =>
    dsimp only [aStp] at hstp
    cases (show len = 1 from hsd)
    subst hnx
    split at hstp
    next =>
      cases hstp
      intro H locs L hP hD hS hl
      exact lv_dup hx hb hdec rfl (k H locs L hP hD hS hl)
    next =>
      cases hstp
      intro H locs L hP hD hS hl
      exact lv_dup hx hb hdec rfl (k H locs L hP hD hS hl)
    next => cases hstp
  | dup2 =>
    dsimp only [aStp] at hstp
    cases (show len = 1 from hsd)
    subst hnx
    split at hstp
    next =>
      cases hstp
      intro H locs L hP hD hS hl
      exact lv_dup2_11 hx hb hdec rfl rfl (k H locs L hP hD hS hl)
    next => cases hstp
  | pop =>
    dsimp only [aStp] at hstp
    cases (show len = 1 from hsd)
    subst hnx
    split at hstp
    next =>
      cases hstp
      intro H locs L hP hD hS hl
      exact lv_pop hx hb hdec rfl (k H locs L hP hD hS hl)
    next => cases hstp
  | goto off =>
    dsimp only [aStp] at hstp
    obtain ⟨rfl, hoff⟩ := hsd
    subst hnx
    cases hstp
    intro H locs L hP hD hS hl
    exact lv_goto hx hb hdec hoff (k H locs L hP hD hS hl)
  | ifCond cnd off =>
    obtain ⟨rfl, hoff⟩ := hsd
    subst hnx
    cases cnd with
    | eq =>
      dsimp only [aStp] at hstp
      split at hstp
      next =>
        cases hstp
        intro H locs L hP hD hS hl
        have k1 := aBr (F := fun z => W p l e R s m args below meth c H locs (h.1 - nS) (zs h.1 - zs nS) Q (F0 m z L _)) (k H locs L hP hD hS hl)
        exact lv_if_eq hx hb hdec hoff (fun q => k1.1 q) (fun q => k1.2 q)
      next => cases hstp
    | ne =>
      dsimp only [aStp] at hstp
      split at hstp
      next =>
        cases hstp
        intro H locs L hP hD hS hl
        have k1 := aBr (F := fun z => W p l e R s m args below meth c H locs (h.1 - nS) (zs h.1 - zs nS) Q (F0 m z L _)) (k H locs L hP hD hS hl)
        exact lv_if_ne hx hb hdec hoff (fun q => k1.2 (by simpa using q)) (fun q => k1.1 (by simpa using q))
      next => cases hstp
    | lt =>
      dsimp only [aStp] at hstp
      split at hstp
      next =>
        cases hstp
        intro H locs L hP hD hS hl
        have k1 := aBr (F := fun z => W p l e R s m args below meth c H locs (h.1 - nS) (zs h.1 - zs nS) Q (F0 m z L _)) (k H locs L hP hD hS hl)
        exact lv_if_lt hx hb hdec hoff (fun q => k1.1 q) (fun q => k1.2 q)
      next => cases hstp
    | ge =>
      dsimp only [aStp] at hstp
      split at hstp
      next =>
        cases hstp
        intro H locs L hP hD hS hl
        have k1 := aBr (F := fun z => W p l e R s m args below meth c H locs (h.1 - nS) (zs h.1 - zs nS) Q (F0 m z L _)) (k H locs L hP hD hS hl)
        exact lv_if_ge hx hb hdec hoff (fun q => k1.1 q) (fun q => k1.2 q)
      next => cases hstp
    | gt =>
      dsimp only [aStp] at hstp
      split at hstp
      next =>
        cases hstp
        intro H locs L hP hD hS hl
        have k1 := aBr (F := fun z => W p l e R s m args below meth c H locs (h.1 - nS) (zs h.1 - zs nS) Q (F0 m z L _)) (k H locs L hP hD hS hl)
        exact lv_if_gt hx hb hdec hoff (fun q => k1.1 q) (fun q => k1.2 q)
      next => cases hstp
    | le =>
      dsimp only [aStp] at hstp
      split at hstp
      next =>
        cases hstp
        intro H locs L hP hD hS hl
        have k1 := aBr (F := fun z => W p l e R s m args below meth c H locs (h.1 - nS) (zs h.1 - zs nS) Q (F0 m z L _)) (k H locs L hP hD hS hl)
        exact lv_if_le hx hb hdec hoff (fun q => k1.1 q) (fun q => k1.2 q)
      next => cases hstp
  | if_icmp cnd off =>
    obtain ⟨rfl, hoff⟩ := hsd
    subst hnx
    cases cnd with
    | eq =>
      dsimp only [aStp] at hstp
      split at hstp
      next =>
        cases hstp
        intro H locs L hP hD hS hl
        have k1 := aBr (F := fun z => W p l e R s m args below meth c H locs (h.1 - nS) (zs h.1 - zs nS) Q (F0 m z L _)) (k H locs L hP hD hS hl)
        exact lv_icmp_eq hx hb hdec hoff (fun q => k1.1 q) (fun q => k1.2 q)
      next => cases hstp
    | ne =>
      dsimp only [aStp] at hstp
      split at hstp
      next =>
        cases hstp
        intro H locs L hP hD hS hl
        have k1 := aBr (F := fun z => W p l e R s m args below meth c H locs (h.1 - nS) (zs h.1 - zs nS) Q (F0 m z L _)) (k H locs L hP hD hS hl)
        exact lv_icmp_ne hx hb hdec hoff (fun q => k1.2 (by simpa using q)) (fun q => k1.1 (by simpa using q))
      next => cases hstp
    | lt =>
      dsimp only [aStp] at hstp
      split at hstp
      next =>
        cases hstp
        intro H locs L hP hD hS hl
        have k1 := aBr (F := fun z => W p l e R s m args below meth c H locs (h.1 - nS) (zs h.1 - zs nS) Q (F0 m z L _)) (k H locs L hP hD hS hl)
        exact lv_icmp_lt hx hb hdec hoff (fun q => k1.1 q) (fun q => k1.2 q)
      next => cases hstp
    | ge =>
      dsimp only [aStp] at hstp
      split at hstp
      next =>
        cases hstp
        intro H locs L hP hD hS hl
        have k1 := aBr (F := fun z => W p l e R s m args below meth c H locs (h.1 - nS) (zs h.1 - zs nS) Q (F0 m z L _)) (k H locs L hP hD hS hl)
        exact lv_icmp_ge hx hb hdec hoff (fun q => k1.1 q) (fun q => k1.2 q)
      next => cases hstp
    | gt =>
      dsimp only [aStp] at hstp
      split at hstp
      next =>
        cases hstp
        intro H locs L hP hD hS hl
        have k1 := aBr (F := fun z => W p l e R s m args below meth c H locs (h.1 - nS) (zs h.1 - zs nS) Q (F0 m z L _)) (k H locs L hP hD hS hl)
        exact lv_icmp_gt hx hb hdec hoff (fun q => k1.1 q) (fun q => k1.2 q)
      next => cases hstp
    | le =>
      dsimp only [aStp] at hstp
      split at hstp
      next =>
        cases hstp
        intro H locs L hP hD hS hl
        have k1 := aBr (F := fun z => W p l e R s m args below meth c H locs (h.1 - nS) (zs h.1 - zs nS) Q (F0 m z L _)) (k H locs L hP hD hS hl)
        exact lv_icmp_le hx hb hdec hoff (fun q => k1.1 q) (fun q => k1.2 q)
      next => cases hstp
  | ifnull off =>
    dsimp only [aStp] at hstp
    obtain ⟨rfl, hoff⟩ := hsd
    subst hnx
    split at hstp
    next =>
      cases hstp
      intro H locs L hP hD hS hl
      exact lv_ifnull hx hb hdec (k H locs L hP hD hS hl)
    next =>
      cases hstp
      intro H locs L hP hD hS hl
      exact lv_ifnullN hx hb hdec hoff (k H locs L hP hD hS hl)
    next => cases hstp
  | ifnonnull off =>
    dsimp only [aStp] at hstp
    obtain ⟨rfl, hoff⟩ := hsd
    subst hnx
    split at hstp
    next =>
      cases hstp
      intro H locs L hP hD hS hl
      exact lv_ifnonnull hx hb hdec hoff (k H locs L hP hD hS hl)
    next =>
      cases hstp
      intro H locs L hP hD hS hl
      exact lv_ifnonnullN hx hb hdec (k H locs L hP hD hS hl)
    next => cases hstp
  | arraylength =>
    dsimp only [aStp] at hstp
    cases (show len = 1 from hsd)
    subst hnx
    split at hstp
    next i r =>
      cases hcnd : ((Nat.blt i n0 || Nat.blt i h.1) && (Nat.ble 7 (kd i).1 && Nat.ble (kd i).1 12)) with
      | false => rw [hcnd] at hstp; cases hstp
      | true =>
        rw [hcnd] at hstp; cases hstp
        obtain ⟨h1, h2⟩ := Bool.and_eq_true_iff.mp hcnd
        have hlive := aLive hn0 h1
        obtain ⟨h2, h3⟩ := Bool.and_eq_true_iff.mp h2
        have h7 : 7 ≤ (kd i).1 := Nat.le_of_ble_eq_true h2
        have h12 : (kd i).1 ≤ 12 := Nat.le_of_ble_eq_true h3
        intro H locs L hP hD hS hl
        obtain ⟨x, hx2, hx3⟩ := aEn_arr (fk := fk) (cy := cy) (h := h) (ad := ad) h7
        have hat := aWd_at (kd := kd) (fk := fk) (cy := cy) (ad := ad) hlive
        rw [hx2] at hat
        obtain ⟨t0, ty0, ht0⟩ := aTys_at hty h7 h12
        exact va_alen hx hb hK hP i t0 hat ht0 (by rw [hx3]) hdec (k H locs L hP hD hS hl)
    next => cases hstp
  | getfield z =>
    dsimp only [aStp] at hstp
    obtain ⟨rfl, hsd⟩ := hsd
    subst hnx
    split at hstp
    next i r =>
      cases hcnd : ((Nat.blt i n0 || Nat.blt i h.1) && Nat.beq (kd i).1 a) with
      | false => rw [hcnd] at hstp; cases hstp
      | true =>
        rw [hcnd] at hstp; cases hstp
        obtain ⟨h1, h2⟩ := Bool.and_eq_true_iff.mp hcnd
        have hlive := aLive hn0 h1
        have hk1 : (kd i).1 = a := Nat.eq_of_beq_eq_true h2
        rcases hsd with ⟨h99, -⟩ | ⟨C, T, N, hcl1, hb1, hw, hft⟩
        · have := hk50 i; omega
        intro H locs L hP hD hS hl
        obtain ⟨hin1, -⟩ := htab a C T N hcl1
        have hat := aWd_obj (fk := fk) (cy := cy) (ad := ad) hkd hcl hlive hk1 hcl1
        refine va_get (v := aFv h ad (fk a b) i b) hx hb hts hin1 hown hK hP i hat hcl1 b hb1 (hts _ hw) (fun _ h9 => h9) (by simp [hb1]) hdec ?_
        have k1 := (k H locs L hP hD hS hl)
        have he : aTr ad (aVal h t i b) = aFv h ad (fk a b) i b := aVal_tr hft
        rw [← he]
        exact k1
    next => cases hstp
  | putfield z =>
    dsimp only [aStp] at hstp
    obtain ⟨rfl, C, T, N, hcl1, hb1, hw, hft, hfin⟩ := hsd
    subst hnx
    split at hstp
    next x i r =>
      cases hcnd : ((Nat.blt i n0 || Nat.blt i h.1) && Nat.beq (kd i).1 a && Nat.beq t 0) with
      | false => rw [hcnd] at hstp; cases hstp
      | true =>
        rw [hcnd] at hstp; cases hstp
        obtain ⟨h12, h3⟩ := Bool.and_eq_true_iff.mp hcnd
        obtain ⟨h1, h2⟩ := Bool.and_eq_true_iff.mp h12
        have ht : fk a b = 0 := hft.trans (Nat.eq_of_beq_eq_true h3)
        refine aPut_sound hx hb hts htab hkd hcl hown hini hK (aLive hn0 h1) (Nat.eq_of_beq_eq_true h2) hcl1 hb1 hw hfin hdec (fun ty hty1 => ?_) ?_ ?_ ?_ ?_ k
        · rw [ht] at hty1
          rcases hty1 with ⟨h4, rfl⟩ | ⟨h4, rfl⟩ | ⟨h4, rfl⟩ | ⟨h4, ⟨q, rfl⟩ | ⟨q, rfl⟩⟩ <;> first | exact ⟨rfl, rfl⟩ | exact absurd h4 (by decide)
        · rfl
        · rw [ht]; show _ = _; simp [aFv, up2_at, aTr, va_rf]
        · intro q hq; unfold aFv; split <;> simp [up2_at, hq]
        · intro q hq; exact aEn_eq (up2_ne hq) rfl rfl
    next x i r =>
      cases hcnd : ((Nat.blt i n0 || Nat.blt i h.1) && Nat.beq (kd i).1 a && Nat.beq t 1) with
      | false => rw [hcnd] at hstp; cases hstp
      | true =>
        rw [hcnd] at hstp; cases hstp
        obtain ⟨h12, h3⟩ := Bool.and_eq_true_iff.mp hcnd
        obtain ⟨h1, h2⟩ := Bool.and_eq_true_iff.mp h12
        have ht : fk a b = 1 := hft.trans (Nat.eq_of_beq_eq_true h3)
        refine aPut_sound hx hb hts htab hkd hcl hown hini hK (aLive hn0 h1) (Nat.eq_of_beq_eq_true h2) hcl1 hb1 hw hfin hdec (fun ty hty1 => ?_) ?_ ?_ ?_ ?_ k
        · rw [ht] at hty1
          rcases hty1 with ⟨h4, rfl⟩ | ⟨h4, rfl⟩ | ⟨h4, rfl⟩ | ⟨h4, ⟨q, rfl⟩ | ⟨q, rfl⟩⟩ <;> first | exact ⟨rfl, rfl⟩ | exact absurd h4 (by decide)
        · rfl
        · rw [ht]; show _ = _; simp [aFv, up2_at, aTr, va_rf]
        · intro q hq; unfold aFv; split <;> simp [up2_at, hq]
        · intro q hq; exact aEn_eq rfl (up2_ne hq) rfl
    next j i r =>
      cases hcnd : ((Nat.blt i n0 || Nat.blt i h.1) && Nat.beq (kd i).1 a && Nat.beq t 2 && (Nat.blt j n0 || Nat.blt j h.1)) with
      | false => rw [hcnd] at hstp; cases hstp
      | true =>
        rw [hcnd] at hstp; cases hstp
        obtain ⟨hcnd, hj⟩ := Bool.and_eq_true_iff.mp hcnd
        obtain ⟨h12, h3⟩ := Bool.and_eq_true_iff.mp hcnd
        obtain ⟨h1, h2⟩ := Bool.and_eq_true_iff.mp h12
        have ht : fk a b = 2 := hft.trans (Nat.eq_of_beq_eq_true h3)
        refine aPut_sound hx hb hts htab hkd hcl hown hini hK (aLive hn0 h1) (Nat.eq_of_beq_eq_true h2) hcl1 hb1 hw hfin hdec (fun ty hty1 => ?_) ?_ ?_ ?_ ?_ k
        · rw [ht] at hty1
          rcases hty1 with ⟨h4, rfl⟩ | ⟨h4, rfl⟩ | ⟨h4, rfl⟩ | ⟨h4, ⟨q, rfl⟩ | ⟨q, rfl⟩⟩ <;> first | exact ⟨rfl, rfl⟩ | exact absurd h4 (by decide)
        · rfl
        · rw [ht]; show _ = _; simp [aFv, up2_at, aTr, va_rf]
        · intro q hq; unfold aFv; split <;> simp [up2_at, hq]
        · intro q hq; exact aEn_eq rfl rfl (up2_ne hq)
    next => cases hstp
  | _ => exact nomatch hstp
end ST
end
section
section MO
variable {kd : Nat → Nat × Nat} {Z : aZ} {X : aX} {n0 : Nat}
/-- what a relation of calls keeps -/
def aXh (X : aX) : Prop := ∀ y vs h rv h1, X y vs h rv h1 → h.1 ≤ h1.1 ∧ (aHok h → aHok h1)
theorem aHok_new {h : aH} {I1 : Nat → Nat → Int32} {J1 : Nat → Nat → Int64} (hk : aHok h) : aHok (h.1 + 1, I1, J1, up1 h.2.2.2 h.1 (fun _ => none)) := by
  intro x y z hx hz
  dsimp only at hx hz ⊢
  by_cases hxi : x = h.1
  · subst hxi
    rw [up1_at] at hz
    cases hz
  · rw [up1_ne hxi] at hz
    have := hk x y z (by omega) hz
    omega
theorem aHok_up' {h : aH} {i b : Nat} {j : Nat} (hk : aHok h) (hj : j < h.1) : aHok (h.1, h.2.1, h.2.2.1, up2 h.2.2.2 i b (some j)) := aHok_up hk hj
theorem aSpc_h {K : aC → Prop} {ai : aI} {c : aC} {rv : Option Value} {hh : aH} (hX : aXh X) (h : aSpc kd Z X K ai c rv hh) : hh = c.2.2.2 ∨ ∃ c' : aC, K c' ∧ c.2.2.2.1 ≤ c'.2.2.2.1 ∧ (aHok c.2.2.2 → aHok c'.2.2.2) := by
  obtain ⟨ins, nx, a, b, t, v⟩ := ai
  obtain ⟨pc, ls, st, h0⟩ := c
  cases ins with
  | ireturn => dsimp only [aSpc] at h; split at h <;> first | exact Or.inl h.2.2 | exact h.elim
  | lreturn => dsimp only [aSpc] at h; split at h <;> first | exact Or.inl h.2 | exact h.elim
  | areturn => dsimp only [aSpc] at h; split at h <;> first | exact Or.inl h.2 | exact h.elim
  | return_ => dsimp only [aSpc] at h; split at h <;> first | exact Or.inl h.2 | exact h.elim
  | idiv => dsimp only [aSpc] at h; split at h <;> first | exact Or.inr ⟨_, h.2, Nat.le_refl _, id⟩ | exact h.elim
  | irem => dsimp only [aSpc] at h; split at h <;> first | exact Or.inr ⟨_, h.2, Nat.le_refl _, id⟩ | exact h.elim
  | ldiv => dsimp only [aSpc] at h; split at h <;> first | exact Or.inr ⟨_, h.2, Nat.le_refl _, id⟩ | exact h.elim
  | lrem => dsimp only [aSpc] at h; split at h <;> first | exact Or.inr ⟨_, h.2, Nat.le_refl _, id⟩ | exact h.elim
  | arraylength => dsimp only [aSpc] at h; split at h <;> first | exact Or.inr ⟨_, h.2, Nat.le_refl _, id⟩ | exact h.elim
  | iaload =>
    dsimp only [aSpc] at h; split at h
    next => obtain ⟨-, ⟨-, -, h⟩ | ⟨-, h⟩⟩ := h <;> exact Or.inr ⟨_, h, Nat.le_refl _, id⟩
    next => exact h.elim
  | laload =>
    dsimp only [aSpc] at h; split at h
    next => obtain ⟨-, ⟨-, -, h⟩ | ⟨-, h⟩⟩ := h <;> exact Or.inr ⟨_, h, Nat.le_refl _, id⟩
    next => exact h.elim
  | baload =>
    dsimp only [aSpc] at h; split at h
    next => obtain ⟨-, ⟨-, -, h⟩ | ⟨-, h⟩⟩ := h <;> exact Or.inr ⟨_, h, Nat.le_refl _, id⟩
    next => exact h.elim
  | getfield z =>
    dsimp only [aSpc] at h; split at h
    next => obtain ⟨-, ⟨-, h⟩ | ⟨-, h⟩⟩ := h <;> exact Or.inr ⟨_, h, Nat.le_refl _, id⟩
    next => exact h.elim
  | aaload => dsimp only [aSpc] at h; split at h <;> first | exact Or.inr ⟨_, h.2.2.2.2, Nat.le_refl _, id⟩ | exact h.elim
  | iastore => dsimp only [aSpc] at h; split at h <;> first | exact Or.inr ⟨_, h.2.2.2, Nat.le_refl _, id⟩ | exact h.elim
  | lastore => dsimp only [aSpc] at h; split at h <;> first | exact Or.inr ⟨_, h.2.2.2, Nat.le_refl _, id⟩ | exact h.elim
  | bastore => dsimp only [aSpc] at h; split at h <;> first | exact Or.inr ⟨_, h.2.2.2.2, Nat.le_refl _, id⟩ | exact h.elim
  | aastore =>
    dsimp only [aSpc] at h; split at h
    next => exact Or.inr ⟨_, h.2.2.2.2.2.2.2, Nat.le_refl _, fun hk => aHok_up hk h.2.2.2.2.1⟩
    next => exact h.elim
  | putfield z => dsimp only [aSpc] at h; split at h <;> first | exact Or.inr ⟨_, h.2.2.2.2, Nat.le_refl _, id⟩ | exact h.elim
  | new z => dsimp only [aSpc] at h; exact Or.inr ⟨_, h.2.2.2.2, Nat.le_succ _, aHok_new⟩
  | newarray z => dsimp only [aSpc] at h; split at h <;> first | exact Or.inr ⟨_, h.2.2.2.2.2.2, Nat.le_succ _, aHok_new⟩ | exact h.elim
  | anewarray z => dsimp only [aSpc] at h; split at h <;> first | exact Or.inr ⟨_, h.2.2.2.2.2.2, Nat.le_succ _, aHok_new⟩ | exact h.elim
  | tableswitch d lo hi offs =>
    dsimp only [aSpc] at h; split at h
    next => obtain ⟨-, h⟩ | ⟨off, -, -, -, h⟩ := h <;> exact Or.inr ⟨_, h, Nat.le_refl _, id⟩
    next => exact h.elim
  | lookupswitch d ps => dsimp only [aSpc] at h; split at h <;> first | exact Or.inr ⟨_, h, Nat.le_refl _, id⟩ | exact h.elim
  | invokestatic z =>
    dsimp only [aSpc] at h; split at h
    next =>
      split at h
      next => obtain ⟨-, -, -, -, -, -, -, -, ⟨-, -, h⟩ | ⟨-, -, h⟩⟩ := h <;> exact Or.inr ⟨_, h, Nat.le_refl _, id⟩
      next => exact h.elim
    next => obtain ⟨rv1, h1, -, -, hx, -, h⟩ := h; exact Or.inr ⟨_, h, (hX _ _ _ _ _ hx).1, (hX _ _ _ _ _ hx).2⟩
  | invokevirtual z => dsimp only [aSpc] at h; obtain ⟨rv1, h1, -, -, -, hx, -, h⟩ := h; exact Or.inr ⟨_, h, (hX _ _ _ _ _ hx).1, (hX _ _ _ _ _ hx).2⟩
  | invokespecial z =>
    dsimp only [aSpc] at h; split at h
    next => split at h <;> first | exact Or.inr ⟨_, h.2, Nat.le_refl _, id⟩ | exact h.elim
    next => obtain ⟨h1, -, -, -, hx, -, h⟩ := h; exact Or.inr ⟨_, h, (hX _ _ _ _ _ hx).1, (hX _ _ _ _ _ hx).2⟩
  | _ => exact h.elim
theorem aRun_h {cd : Nat → Option aI} {rv : Option Value} {hh : aH} (hX : aXh X) : ∀ (F : Nat) (c : aC), aRun kd Z n0 X cd F c rv hh → n0 ≤ c.2.2.2.1 → c.2.2.2.1 ≤ hh.1 ∧ (aHok c.2.2.2 → aHok hh)
  | 0, c, h, _ => h.elim
  | F + 1, c, h, h0 => by
    unfold aRun at h
    split at h
    next => exact h.elim
    next ai he =>
      split at h
      next c' hs =>
        obtain ⟨e1, e2⟩ := aStp_h hs
        obtain ⟨f1, f2⟩ := aRun_h hX F c' h (by rw [e1]; exact h0)
        exact ⟨by rw [← e1]; exact f1, fun hk => f2 (e2 h0 hk)⟩
      next =>
        rcases aSpc_h hX h with rfl | ⟨c', hk, e1, e2⟩
        · exact ⟨Nat.le_refl _, id⟩
        · obtain ⟨f1, f2⟩ := aRun_h hX F c' hk (Nat.le_trans h0 e1)
          exact ⟨Nat.le_trans e1 f1, fun q => f2 (e2 q)⟩
theorem aEx_h {ml : Nat → Nat} {cds : Nat → Nat → Option aI} : ∀ d : Nat, aXh (aEx kd Z n0 ml cds d)
  | 0 => fun _ _ _ _ _ h => h.elim
  | d + 1 => fun y vs h rv h1 hx => by
    obtain ⟨-, h0, F, hr⟩ := hx
    exact aRun_h (aEx_h d) F _ hr h0
end MO
end
section
abbrev aMt : Type := MethodName × ByteArray × Nat × Option FieldType
abbrev aNt : Type := String × Nat × MethodName × String
def aRoom (dd mc ms : Nat) : Room := { frames := dd, cells := mc, slots := ms, locals := 64 * dd }
/-- what the tables say of an instruction that has a side condition -/
def aSp (cl : List vw_C) (cy : Nat → ClassId) (tys : List (ClassId × FieldType)) (Ts : List Jvm.Cond) (NW : List aNt) (AO : List String) (mt : Nat → aMt) (own : String) (ret : Option FieldType) (pc len a b t : Nat) (ins : Instr) : Prop :=
  match ins with
  | .ireturn => (t = 0 ∧ ret = some .int) ∨ (t = 1 ∧ ret = some .boolean) ∨ (t = 2 ∧ ret = some .byte) ∨ (t = 3 ∧ ret = some .char)
  | .lreturn => ret = some .long
  | .areturn => ∃ rt, ret = some rt ∧ ((∃ n, rt = .object n) ∨ ∃ u, rt = .array u)
  | .return_ => ret = none
  | .aastore => ∃ r t0, cl[a]? = some r ∧ tys[(t0 : Nat)]? = some (cy b, .object r.1)
  | .new i => len = 3 ∧ ∃ C T, cl[a]? = some (C, T, b) ∧ Cond.classLink own i C ∈ Ts ∧ Cond.instantiable C b ∈ Ts ∧ Cond.initialized C ∈ Ts
  | .newarray at_ => len = 2 ∧ Cond.arrayClass (newarray.typeOf at_) ∈ Ts ∧ ((a = 7 ∧ newarray.typeOf at_ = .int) ∨ (a = 8 ∧ newarray.typeOf at_ = .long) ∨ (a = 9 ∧ newarray.typeOf at_ = .boolean))
  | .anewarray i => len = 3 ∧ 10 ≤ a ∧ a ≤ 12 ∧ ∃ C t0, Cond.classLink own i C ∈ Ts ∧ C ∈ AO ∧ tys[(t0 : Nat)]? = some (cy a, .object C)
  | .tableswitch d lo hi offs => 0 ≤ (pc : Int) + d ∧ ∀ off ∈ offs.toList, 0 ≤ (pc : Int) + off
  | .lookupswitch d ps => (ps.toList.zip (ps.toList.drop 1)).all (fun (x, next) => x.1 < next.1) = true ∧ 0 ≤ (pc : Int) + d ∧ ∀ q ∈ ps.toList, 0 ≤ (pc : Int) + q.2
  | .invokestatic i => len = 3 ∧ if t = 9 then Cond.methodLink own i arraycopyName ∈ Ts ∧ Cond.native arraycopyName ∈ Ts ∧ Cond.static arraycopyName ∈ Ts ∧ Cond.initialized "java/lang/System" ∈ Ts
      else Cond.code (mt a).1 (mt a).2.1 (mt a).2.2.1 (mt a).2.2.2 ∈ Ts ∧ Cond.static (mt a).1 ∈ Ts ∧ Cond.initialized (mt a).1.cls ∈ Ts ∧ (Cond.methodLink own i (mt a).1 ∈ Ts ∨ ∃ host, (own, i, (mt a).1, host) ∈ NW) ∧ ((mt a).1.cls ≠ "java/lang/invoke/MethodHandle" ∧ (mt a).1.cls ≠ "java/lang/invoke/VarHandle" ∧ (parseMethodDescriptor (mt a).1.desc).map (fun d => d.parameters.length) = some b) ∧ (mt a).2.2.1 ≤ 45
  | .invokevirtual i => len = 3 ∧ Cond.code (mt a).1 (mt a).2.1 (mt a).2.2.1 (mt a).2.2.2 ∈ Ts ∧ Cond.instanceMethod (mt a).1 ∈ Ts ∧ Cond.initialized (mt a).1.cls ∈ Ts ∧ Cond.methodLink own i (mt a).1 ∈ Ts ∧ Cond.selects (mt a).1.cls (mt a).1 (mt a).1 ∈ Ts ∧ 1 ≤ b ∧ ((mt a).1.cls ≠ "java/lang/invoke/MethodHandle" ∧ (mt a).1.cls ≠ "java/lang/invoke/VarHandle" ∧ (parseMethodDescriptor (mt a).1.desc).map (fun d => d.parameters.length) = some (b - 1)) ∧ (mt a).2.2.1 ≤ 45 ∧
      ((t = 20 ∧ (mt a).1.cls = "java/lang/String") ∨ ∃ T N, cl[t]? = some ((mt a).1.cls, T, N))
  | .invokespecial i => len = 3 ∧ if t = 8 then Cond.methodLink own i objectInit ∈ Ts ∧ Cond.instanceMethod objectInit ∈ Ts ∧ Cond.code objectInit ⟨#[0xb1]⟩ 1 none ∈ Ts
      else Cond.code (mt a).1 (mt a).2.1 (mt a).2.2.1 none ∈ Ts ∧ (mt a).2.2.2 = none ∧ (mt a).1.name = "<init>" ∧ Cond.instanceMethod (mt a).1 ∈ Ts ∧ Cond.initialized (mt a).1.cls ∈ Ts ∧ (Cond.methodLink own i (mt a).1 ∈ Ts ∨ ∃ host, (own, i, (mt a).1, host) ∈ NW) ∧ 1 ≤ b ∧ ((mt a).1.cls ≠ "java/lang/invoke/MethodHandle" ∧ (mt a).1.cls ≠ "java/lang/invoke/VarHandle" ∧ (parseMethodDescriptor (mt a).1.desc).map (fun d => d.parameters.length) = some (b - 1)) ∧ (mt a).2.2.1 ≤ 45
  | _ => True
/-- an instruction of a method's table is the bytecode's, and the tables link it -/
def aGood (cl : List vw_C) (fk : Nat → Nat → Nat) (cy : Nat → ClassId) (tys : List (ClassId × FieldType)) (Ts : List Jvm.Cond) (SF : List (String × String × String × Value)) (SK : List (String × Nat × String × Nat)) (NW : List aNt) (AO : List String) (mt : Nat → aMt) (own : String) (bytes : ByteArray) (nL : Nat) (ini : Bool) (ret : Option FieldType) (pc : Nat) (ai : aI) : Prop :=
  match ai with
  | (ins, nx, a, b, t, v) => ∃ len, decode bytes pc = .ok (ins, len) ∧ nx = pc + len ∧ aSd cl fk Ts SF SK own nL ini pc len a b t v ins ∧ aSp cl cy tys Ts NW AO mt own ret pc len a b t ins
/-- what holds of statics and of class tables, at a heap, for cells outside A -/
def aSt (kd : Nat → Nat × Nat) (Z : aZ) (SF : List (String × String × String × Value)) (SK : List (String × Nat × String × Nat)) (NW : List aNt) (AO : List String) (ad : Nat → Nat) (A : Nat → Prop) (U : State) (H : Heap) : Prop :=
  (∀ q ∈ SF, va_Z q.1 q.2.1 q.2.2.1 (aTr ad q.2.2.2) A U H) ∧
  (∀ i, (kd i).1 = 13 → va_T .int (ad i) (kd i).2 (fun j => .int (Z.1 i j)) A U H) ∧
  (∀ i, (kd i).1 = 14 → va_T .long (ad i) (kd i).2 (fun j => .long (Z.2 i j)) A U H) ∧
  (∀ q ∈ NW, va_Nw (.methodLinkNest q.1 q.2.1 q.2.2.1 q.2.2.2) U) ∧
  (∀ C ∈ AO, va_AO C U) ∧
  (∀ q ∈ SK, vk_R q.1 q.2.1 q.2.2.1 (ad q.2.2.2) U) ∧
  (∀ i, (kd i).1 = 15 → va_O "java/lang/String" (ad i) A U H ∧ va_OF "java/lang/String" "coder" "B" (.int 0) (ad i) A U H ∧ va_OF "java/lang/String" "value" "[B" (.ref (ad (i + 100))) (ad i) A U H) ∧
  (∀ i, (kd i).1 = 16 → va_T .byte (ad i) (kd i).2 (fun j => .int (Z.1 i j)) A U H)
section CT
variable {kd : Nat → Nat × Nat} {Z : aZ} {SF : List (String × String × String × Value)} {SK : List (String × Nat × String × Nat)} {NW : List aNt} {AO : List String}
theorem aSt_warm {ad : Nat → Nat} {A A1 : Nat → Prop} {s U : State} {H : Heap} {locs : List Loc} (h : aSt kd Z SF SK NW AO ad A s s.heap) (hS : va_S A s.heap H locs) (hW : s.WarmedH U.vm) (hA : ∀ q, A1 q → A q) : aSt kd Z SF SK NW AO ad A1 U H := by
  obtain ⟨g1, g2, g3, g4, g5, g6, g7, g8⟩ := h
  exact ⟨fun q hq => (((g1 q hq).kept hS.2.1).moved hW.alike).narrow hA, fun i hi => (((g2 i hi).kept hS.2.1).moved hW.alike).narrow hA, fun i hi => (((g3 i hi).kept hS.2.1).moved hW.alike).narrow hA, fun q hq => (g4 q hq).warmM hW, fun C hC => (g5 C hC).moved hW.alike, fun q hq => (g6 q hq).warm hW,
    fun i hi => ⟨(((g7 i hi).1.kept hS.2.1).moved hW.alike).narrow hA, (((g7 i hi).2.1.kept hS.2.1).moved hW.alike).narrow hA, (((g7 i hi).2.2.kept hS.2.1).moved hW.alike).narrow hA⟩, fun i hi => (((g8 i hi).kept hS.2.1).moved hW.alike).narrow hA⟩
theorem aSt_same {ad : Nat → Nat} {A : Nat → Prop} {u U : State} {H : Heap} (hv : u.vm = U.vm) (h : aSt kd Z SF SK NW AO ad A u H) : aSt kd Z SF SK NW AO ad A U H := by
  obtain ⟨g1, g2, g3, g4, g5, g6, g7, g8⟩ := h
  have hv1 : u.vm.Alike U.vm := by rw [hv]; exact Vm.Alike.refl _
  exact ⟨fun q hq => (g1 q hq).moved hv1, fun i hi => (g2 i hi).moved hv1, fun i hi => (g3 i hi).moved hv1, fun q hq => (g4 q hq).same rfl hv, fun C hC => (g5 C hC).moved hv1, fun q hq => (g6 q hq).same hv.symm,
    fun i hi => ⟨(g7 i hi).1.moved hv1, (g7 i hi).2.1.moved hv1, (g7 i hi).2.2.moved hv1⟩, fun i hi => (g8 i hi).moved hv1⟩
theorem aTr_far {ad ad' : Nat → Nat} (he : ∀ i, 1000 ≤ i → ad' i = ad i) {v : Value} (hv : ∀ i, v = .ref i → 1000 ≤ i) : aTr ad' v = aTr ad v := by
  cases v <;> first | rfl | exact congrArg Value.ref (he _ (hv _ rfl))
theorem aSt_ad {ad ad' : Nat → Nat} {A : Nat → Prop} {U : State} {H : Heap} (hsf : ∀ q ∈ SF, ∀ i, q.2.2.2 = .ref i → 1000 ≤ i) (hsk : ∀ q ∈ SK, 1000 ≤ q.2.2.2) (hk : ∀ i, 13 ≤ (kd i).1 → 1000 ≤ i) (he : ∀ i, 1000 ≤ i → ad' i = ad i) (h : aSt kd Z SF SK NW AO ad A U H) : aSt kd Z SF SK NW AO ad' A U H := by
  obtain ⟨g1, g2, g3, g4, g5, g6, g7, g8⟩ := h
  exact ⟨fun q hq => by rw [aTr_far he (hsf q hq)]; exact g1 q hq, fun i hi => by rw [he i (hk i (by omega))]; exact g2 i hi, fun i hi => by rw [he i (hk i (by omega))]; exact g3 i hi, g4, g5, fun q hq => by rw [he _ (hsk q hq)]; exact g6 q hq,
    fun i hi => by have := hk i (by omega); rw [he i this, he (i + 100) (by omega)]; exact g7 i hi, fun i hi => by rw [he i (hk i (by omega))]; exact g8 i hi⟩
end CT
/-- a method's start: the arguments vs, the heap h, read at the addresses ad -/
def aPc (D : va_G) (cl : List vw_C) (tys : List (ClassId × FieldType)) (kd : Nat → Nat × Nat) (fk : Nat → Nat → Nat) (cy : Nat → ClassId) (Z : aZ) (SF : List (String × String × String × Value)) (SK : List (String × Nat × String × Nat)) (NW : List aNt) (AO : List String) (ad : Nat → Nat) (vs : List Value) (h : aH) (sz : Nat) : Array Value → State → Prop :=
  va_Pc (vs.map (aTr ad)) (fun U => U.heap.size = sz ∧ va_P D cl (aWd kd fk cy ad h) U.heap ∧ va_K D cl tys U ∧ va_D (fun _ => True) (aWd kd fk cy ad h) ∧ aSt kd Z SF SK NW AO ad (va_A (aWd kd fk cy ad h) sz) U U.heap)
/-- a method's end: the answer rv, the heap hh, at addresses that go on those of the start -/
def aQc (D : va_G) (cl : List vw_C) (tys : List (ClassId × FieldType)) (kd : Nat → Nat × Nat) (fk : Nat → Nat → Nat) (cy : Nat → ClassId) (ad : Nat → Nat) (n : Nat) (A : Nat → Prop) (rv : Option Value) (hh : aH) : Array Value → State → Outcome → State → Prop := fun _ st oc t =>
  (∃ ad' : Nat → Nat, (∀ i, (i < n ∨ 1000 ≤ i) → ad' i = ad i) ∧ (hh.1 = n → ad' = ad) ∧ oc = .returned (rv.map (aTr ad')) ∧ va_P D cl (aWd kd fk cy ad' hh) t.heap ∧ va_D A (aWd kd fk cy ad' hh)) ∧ va_F A st t
/-- the cells' slots: of the first n -/
def aZs (kd : Nat → Nat × Nat) : Nat → Nat
  | 0 => 0
  | n + 1 => aZs kd n + (kd n).2
theorem aZs_le {kd : Nat → Nat × Nat} {n : Nat} : ∀ m, n ≤ m → aZs kd n ≤ aZs kd m
  | 0, h => by rw [Nat.le_zero.mp h]; exact Nat.le_refl _
  | m + 1, h => by
    rcases Nat.lt_or_ge n (m + 1) with q | q
    · exact Nat.le_trans (aZs_le m (by omega)) (Nat.le_add_right _ _)
    · have : n = m + 1 := by omega
      rw [this]; exact Nat.le_refl _
/-- the calls that X relates are contracts at the depth dd -/
def aXm (l : Launch) (D : va_G) (cl : List vw_C) (tys : List (ClassId × FieldType)) (kd : Nat → Nat × Nat) (fk : Nat → Nat → Nat) (cy : Nat → ClassId) (Z : aZ) (SF : List (String × String × String × Value)) (SK : List (String × Nat × String × Nat)) (NW : List aNt) (AO : List String) (Ts : List Jvm.Cond) (mt : Nat → aMt) (dd : Nat) (X : aX) : Prop :=
  ∀ (y : Nat) (vs : List Value) (h : aH) (rv : Option Value) (hh : aH), X y vs h rv hh → aHok h → ∀ (ad : Nat → Nat) (sz : Nat),
    Met l (mt y).1 (Cond.code (mt y).1 (mt y).2.1 (mt y).2.2.1 (mt y).2.2.2 :: Ts) (aRoom dd (hh.1 - h.1) (aZs kd hh.1 - aZs kd h.1)) (aPc D cl tys kd fk cy Z SF SK NW AO ad vs h sz) (aQc D cl tys kd fk cy ad h.1 (va_A (aWd kd fk cy ad h) sz) rv hh) (hh.1 - h.1) (aZs kd hh.1 - aZs kd h.1) (va_A (aWd kd fk cy ad h) sz)
end
section
theorem va_RA_inj {U : State} {c1 c2 : ClassId} {ty : FieldType} (h1 : va_RA U c1 ty) (h2 : va_RA U c2 ty) : c1 = c2 := by
  cases ty with
  | object C =>
    obtain ⟨_, _, _, _, _, e1⟩ := h1
    obtain ⟨_, _, _, _, _, e2⟩ := h2
    exact Option.some.inj (e1.symm.trans e2)
  | _ => exact Option.some.inj (Eq.trans (Eq.symm h1) h2)
theorem aTr_same {ad ad' : Nat → Nat} {n : Nat} (he : ∀ i, (i < n ∨ 1000 ≤ i) → ad' i = ad i) {l : List Value} (h : aOks n l) : l.map (aTr ad') = l.map (aTr ad) := by
  apply List.map_congr_left
  intro v hv
  have := h v hv
  cases v <;> first | rfl | exact congrArg Value.ref (he _ this)
theorem aTl_same {ad ad' : Nat → Nat} {n : Nat} (he : ∀ i, (i < n ∨ 1000 ≤ i) → ad' i = ad i) {l : aL} (h : aOks n (l.map (·.2))) : aTl ad' l = aTl ad l := by
  unfold aTl
  apply List.map_congr_left
  intro q hq
  have := h q.2 (List.mem_map.mpr ⟨q, hq, rfl⟩)
  obtain ⟨i, v⟩ := q
  cases v <;> first | rfl | exact congrArg (fun z => (i, Value.ref z)) (he _ this)
section HE
variable {kd : Nat → Nat × Nat} {fk : Nat → Nat → Nat} {cy : Nat → ClassId}
theorem aEn_7 {h : aH} {ad : Nat → Nat} {i : Nat} (hk : (kd i).1 = 7) : aEn kd fk cy h ad i = .inl (cy 7, (kd i).2, .inl (h.2.1 i)) := by
  unfold aEn; simp [hk]
theorem aEn_8 {h : aH} {ad : Nat → Nat} {i : Nat} (hk : (kd i).1 = 8) : aEn kd fk cy h ad i = .inl (cy 8, (kd i).2, .inr (.inl (h.2.2.1 i))) := by
  unfold aEn; simp [hk]
theorem aEn_9 {h : aH} {ad : Nat → Nat} {i : Nat} (hk : (kd i).1 = 9) : aEn kd fk cy h ad i = .inl (cy 9, (kd i).2, .inl (h.2.1 i)) := by
  unfold aEn; simp [hk]
theorem aEn_q {h : aH} {ad : Nat → Nat} {i : Nat} (hk : 10 ≤ (kd i).1) : aEn kd fk cy h ad i = .inl (cy (kd i).1, (kd i).2, .inr (.inr (.inr (.inr (fun k => (h.2.2.2 i k).map ad))))) := by
  unfold aEn; rw [if_neg (by omega), if_neg (by omega), if_pos hk]
theorem aEn_o {h : aH} {ad : Nat → Nat} {i : Nat} (hk : (kd i).1 < 7) : aEn kd fk cy h ad i = .inr ((kd i).1, (List.range (kd i).2).map (fun k => aFv h ad (fk (kd i).1 k) i k)) := by
  unfold aEn; rw [if_pos hk]
theorem aWd_new {h : aH} {ad : Nat → Nat} {q : Nat} (hk : aHok h) : aWd kd fk cy (va_up ad h.1 q) (h.1 + 1, up1 h.2.1 h.1 (fun _ => 0), up1 h.2.2.1 h.1 (fun _ => 0), up1 h.2.2.2 h.1 (fun _ => none)) =
    aWd kd fk cy ad h ++ [(q, aEn kd fk cy (h.1 + 1, up1 h.2.1 h.1 (fun _ => 0), up1 h.2.2.1 h.1 (fun _ => 0), up1 h.2.2.2 h.1 (fun _ => none)) (va_up ad h.1 q) h.1)] := by
  unfold aWd
  dsimp only
  rw [List.range_succ, List.map_append]
  congr 1
  · apply List.map_congr_left
    intro i hi
    have hi : i < h.1 := List.mem_range.mp hi
    have hne : i ≠ h.1 := by omega
    have e1 : va_up ad h.1 q i = ad i := by simp [va_up, hne]
    have e2 : aEn kd fk cy (h.1 + 1, up1 h.2.1 h.1 (fun _ => 0), up1 h.2.2.1 h.1 (fun _ => 0), up1 h.2.2.2 h.1 (fun _ => none)) (va_up ad h.1 q) i = aEn kd fk cy h (va_up ad h.1 q) i :=
      aEn_eq (up1_ne hne) (up1_ne hne) (up1_ne hne)
    have e3 : ∀ k, (h.2.2.2 i k).map (va_up ad h.1 q) = (h.2.2.2 i k).map ad := by
      intro k
      cases hr : h.2.2.2 i k with
      | none => rfl
      | some j =>
        have := hk i k j hi hr
        have hj : j ≠ h.1 := by omega
        simp [va_up, hj]
    rw [e1, e2]
    congr 1
    unfold aEn aFv
    simp only [e3]
  · simp [va_up]
end HE
section HG
variable {p : Program} {l : Launch} {e : Env} {R : Room} {s : State} {m : MethodId} {args : Array Value} {below : List Frame} {meth : Method} {c : Code} {Q : State → Prop}
variable {cc : ByteArray} {D : va_G} {cl : List vw_C} {A : Nat → Prop} {tys : List (ClassId × FieldType)} {nL nS : Nat}
variable {kd : Nat → Nat × Nat} {fk : Nat → Nat → Nat} {cy : Nat → ClassId} {zs : Nat → Nat}
/-- behind a call -/
theorem aCall_go {A1 : Nat → Prop} {ad : Nat → Nat} {pc b cells slots mc ms : Nat} {H : Heap} {locs : List Loc} {L : Array Slot} {ls : aL} {st st0 : List Value} {h h1 : aH} {rv1 : Option Value} {as : Array Value}
    (hr : va_Run p l e R s m args below meth c H locs cells slots mc ms (F0 m pc L st0) ((st.drop b).map (aTr ad)) (aQc D cl tys kd fk cy ad h.1 A1 rv1 h1 as) A1)
    (hS : va_S A s.heap H locs) (hA1 : ∀ q, A1 q → A q) (hl : lv_has L nL (aTl ad ls)) (hfr : h1.1 = h.1 ∨ (aOks h.1 (ls.map (·.2)) ∧ aOks h.1 (st.drop b)))
    (hcell : cells + mc = h1.1 - nS) (hslot : slots + ms = zs h1.1 - zs nS)
    (kk : ∀ ad' : Nat → Nat, (∀ i, (i < h.1 ∨ 1000 ≤ i) → ad' i = ad i) → (h1.1 = h.1 → ad' = ad) → aSW p l e R s m args below meth c Q D cl A nL nS kd fk cy zs ad' (pc + 3, ls, rv1.toList ++ st.drop b, h1)) :
    W p l e R s m args below meth c H locs cells slots Q (F0 m pc L st0) := by
  intro T hT X
  obtain ⟨v, st₀, t, T', L', h0, X', hL, e1, e2, ⟨⟨ad', hext, hsame, hv, hP1, hD1⟩, hz, hk1⟩, st'⟩ := hr T hT X
  have hv1 : v = rv1.map (aTr ad') := Outcome.returned.inj hv
  subst hv1
  rw [h0] at hz hk1
  have es : (st.drop b).map (aTr ad') = (st.drop b).map (aTr ad) := by
    rcases hfr with q | q
    · rw [hsame q]
    · exact aTr_same hext q.2
  have el : aTl ad' ls = aTl ad ls := by
    rcases hfr with q | q
    · rw [hsame q]
    · exact aTl_same hext q.1
  have k1 := kk ad' hext hsame T'.heap (locs ++ L') L (by rw [e1]; exact hP1) (hD1.weaken (fun _ _ _ h => hA1 _ h)) ⟨Nat.le_trans hS.1 (by rw [e1]; exact hz), fun q h1 h2 => by
      rw [e1, hk1 q (Nat.lt_of_lt_of_le h1 hS.1) (fun z => h2 (hA1 q z))]; exact hS.2.1 q h1 h2, fun q hq => by
      rcases List.mem_append.mp hq with h | h
      · exact hS.2.2 q h
      · exact hA1 _ (hL q h)⟩ (by rw [el]; exact hl)
  dsimp only at k1
  rw [← hcell, ← hslot, List.map_append, es] at k1
  have ev : rv1.toList.map (aTr ad') = (rv1.map (aTr ad')).toList := by cases rv1 <;> rfl
  rw [ev] at k1
  obtain ⟨t2, a1, b1⟩ := k1 T' rfl X'
  exact ⟨t2, st' t2 a1, b1⟩
end HG
theorem up2_upd {f : Nat → Nat → Int32} {i k : Nat} {x : Int32} : upd (f i) k x = up2 f i k x i := by
  funext q
  rw [up2_at]
  rfl
theorem up2_updL {f : Nat → Nat → Int64} {i k : Nat} {x : Int64} : vp_updL (f i) k x = up2 f i k x i := by
  funext q
  rw [up2_at]
  rfl
theorem up2_map {f : Nat → Nat → Option Nat} {ad : Nat → Nat} {i k w : Nat} : va_up (fun q => (f i q).map ad) k (some (ad w)) = fun q => (up2 f i k (some w) i q).map ad := by
  funext q
  rw [up2_at]
  unfold va_up
  split <;> rfl
theorem vp_nar01 {x : Int32} (h : x = 0 ∨ x = 1) : vp_nar .boolean x = x := by
  rcases h with rfl | rfl <;> rfl
theorem aTys_q {cy : Nat → ClassId} {tys : List (ClassId × FieldType)} (hty : aTys cy tys) {q : Nat} (h7 : 10 ≤ q) (h12 : q ≤ 12) : ∃ (t0 : Nat) (C : String), tys[t0]? = some (cy q, .object C) := by
  obtain ⟨a0, a1, a2, ⟨c3, a3⟩, ⟨c4, a4⟩, ⟨c5, a5⟩⟩ := hty
  have : q = 10 ∨ q = 11 ∨ q = 12 := by omega
  rcases this with rfl | rfl | rfl
  · exact ⟨_, _, a3⟩
  · exact ⟨_, _, a4⟩
  · exact ⟨_, _, a5⟩
theorem aLook {pc d z : Int} : ∀ {ps : List (Int × Int)}, 0 ≤ pc + d → (∀ q ∈ ps, 0 ≤ pc + q.2) → 0 ≤ pc + Op.lookupswitch.offset ps d z
  | [], h, _ => h
  | (a, o) :: r, h, h2 => by
    unfold Op.lookupswitch.offset
    split
    · exact h2 (a, o) List.mem_cons_self
    · exact aLook h (fun q hq => h2 q (List.mem_cons_of_mem _ hq))
theorem aTlen {p : Program} {l : Launch} {e : Env} {R : Room} {s : State} {m : MethodId} {args : Array Value} {below : List Frame} {meth : Method} {c : Code} {Q : State → Prop} {cc : ByteArray} {A : Nat → Prop} {H : Heap} {locs : List Loc} {cells slots pc t N : Nat} {ls : Array Slot} {rest : List Value} {f : Nat → Value} {ty : FieldType}
    (hx : p.tables.exec = Jvm.exec) (hb : c.code = cc) (hT : va_T ty t N f A s s.heap) (hS : va_S A s.heap H locs) (hdg : decode cc pc = .ok (.arraylength, 1))
    (kk : W p l e R s m args below meth c H locs cells slots Q (F0 m (pc + 1) ls (.int (Int32.ofNat N) :: rest))) : W p l e R s m args below meth c H locs cells slots Q (F0 m pc ls (.ref t :: rest)) := by
  obtain ⟨cell, h1, h2, h3, h4, h5, h6, h7⟩ := hT
  exact W.alen hx hb (by rw [hS.2.1 t (Array.getElem?_eq_some_iff.mp h1).1 h7]; exact h1) h2 h5 rfl rfl hdg kk
theorem aNfw : nativeFrameWords "java/lang/System" "arraycopy" 5 + 11 ≤ 40 := by decide +kernel
end
section
section RS
variable {p : Program} {l : Launch} {e : Env} {R : Room} {s : State} {m : MethodId} {args : Array Value} {below : List Frame} {meth : Method} {c : Code}
variable {cc : ByteArray} {D : va_G} {cl : List vw_C} {A : Nat → Prop} {tys : List (ClassId × FieldType)} {Ts : List Jvm.Cond} {SF : List (String × String × String × Value)} {SK : List (String × Nat × String × Nat)} {NW : List aNt} {AO : List String} {mt : Nat → aMt} {own : String} {nL nS dd n0 : Nat} {ini : Bool} {ret : Option FieldType}
variable {kd : Nat → Nat × Nat} {fk : Nat → Nat → Nat} {cy : Nat → ClassId} {Z : aZ} {X : aX}
theorem aBlind {ad : Nat → Nat} {vs : List Value} {h : aH} {sz : Nat} : FrameBlind (aPc D cl tys kd fk cy Z SF SK NW AO ad vs h sz) := fun a U g mk q => by
  obtain ⟨q0, q1, qP, qK, qD, qS⟩ := q
  exact ⟨q0, q1, qP, va_K.moved (u := U) (U := U.calling g mk a) (Vm.Alike.refl U.vm) qK, qD, aSt_same (u := U) (U := U.calling g mk a) rfl qS⟩
theorem aPre {ad : Nat → Nat} {vs : List Value} {h : aH} {H : Heap} {locs : List Loc} (hK : va_K D cl tys s) (hP : va_P D cl (aWd kd fk cy ad h) H) (hD : va_D A (aWd kd fk cy ad h)) (hS : va_S A s.heap H locs) (hSt : aSt kd Z SF SK NW AO ad A s s.heap) (hA1 : ∀ q, va_A (aWd kd fk cy ad h) H.size q → A q) {U : State} (hU : U.heap = H) (hW : s.WarmedH U.vm) :
    aPc D cl tys kd fk cy Z SF SK NW AO ad vs h H.size (vs.map (aTr ad)).toArray U :=
  ⟨rfl, by rw [hU], by rw [hU]; exact hP, va_K.moved hW.alike hK, hD.weaken (fun _ _ _ _ => trivial), by rw [hU]; exact aSt_warm hSt hS hW hA1⟩
theorem aFreeA {ad : Nat → Nat} {h : aH} {H : Heap} {locs : List Loc} (hD : va_D A (aWd kd fk cy ad h)) (hS : va_S A s.heap H locs) (hA : ∀ q, s.heap.size ≤ q → A q) : ∀ q, va_A (aWd kd fk cy ad h) H.size q → A q := by
  intro q hq
  rcases hq with ⟨k, e, hk⟩ | hq
  · exact hD.2 k _ hk
  · exact hA q (Nat.le_trans hS.1 hq)
theorem aGoodT {ws : List Jvm.Cond} (hg : ∀ w ∈ Ts, goodWord w = true) (h : ∀ w ∈ ws, w ∈ Ts) : GoodIn Ts ws := fun w hw => ⟨h w hw, good_of_word (hg w (h w hw))⟩
theorem aStack (ad : Nat → Nat) (st : List Value) (b : Nat) : st.map (aTr ad) = ((st.take b).reverse.map (aTr ad)).reverse ++ (st.drop b).map (aTr ad) := by
  rw [← List.map_reverse, List.reverse_reverse, ← List.map_append, List.take_append_drop]
theorem aCat (ad : Nat → Nat) (l : List Value) : ((l.map (aTr ad)).map fun v => v.category).sum = (l.map fun v => v.category).sum := by
  rw [List.map_map]
  congr 1
  apply List.map_congr_left
  intro v _
  exact aTr_cat ad v
theorem aHead {ad : Nat → Nat} {l : List Value} {i : Nat} (h : l.head? = some (.ref i)) : ∃ l', l = .ref i :: l' ∧ l.map (aTr ad) = .ref (ad i) :: l'.map (aTr ad) := by
  cases l with
  | nil => cases h
  | cons v l' =>
    cases (Option.some.inj h)
    exact ⟨l', rfl, rfl⟩
end RS
end
section
section RS
variable {p : Program} {l : Launch} {e : Env} {R : Room} {s : State} {m : MethodId} {args : Array Value} {below : List Frame} {meth : Method} {c : Code}
variable {cc : ByteArray} {D : va_G} {cl : List vw_C} {A : Nat → Prop} {tys : List (ClassId × FieldType)} {Ts : List Jvm.Cond} {SF : List (String × String × String × Value)} {SK : List (String × Nat × String × Nat)} {NW : List aNt} {AO : List String} {mt : Nat → aMt} {own : String} {nL nS dd n0 : Nat} {ini : Bool} {ret : Option FieldType}
variable {kd : Nat → Nat × Nat} {fk : Nat → Nat → Nat} {cy : Nat → ClassId} {Z : aZ} {X : aX}
set_option maxHeartbeats 8000000 in
theorem aRun_sound (hx : p.tables.exec = Jvm.exec) (hb : c.code = cc) (hml : c.maxLocals = nL) (hts : ∀ w ∈ Ts, w.before args s = true) (hgT : ∀ w ∈ Ts, goodWord w = true) (htab : aTab cl fk Ts) (hkd : ∀ i, (kd i).1 < 7 → ∃ C T, cl[(kd i).1]? = some (C, T, (kd i).2)) (hcl : cl.length ≤ 7)
    (hown : s.vm.findClass own = some m.cls) (hini : ini = true → meth.name = "<init>") (hK : va_K D cl tys s) (hty : aTys cy tys) (hlk : meth.locks = false) (hrt : meth.sig.returnType = ret)
    (hsf : ∀ q ∈ SF, ∀ i, q.2.2.2 = .ref i → 1000 ≤ i) (hsk : ∀ q ∈ SK, 1000 ≤ q.2.2.2) (hk20 : ∀ i, (kd i).1 < 20) (hk13 : ∀ i, 13 ≤ (kd i).1 → 1000 ≤ i) (hX : aXm l D cl tys kd fk cy Z SF SK NW AO Ts mt dd X) (hXh : aXh X) {cd : Nat → Option aI} (hgood : ∀ pc ai, cd pc = some ai → aGood cl fk cy tys Ts SF SK NW AO mt own cc nL ini ret pc ai)
    (hA : ∀ q, s.heap.size ≤ q → A q) {adS : Nat → Nat} (hSt0 : aSt kd Z SF SK NW AO adS A s s.heap) {rv : Option Value} {hh : aH} (hR : R = aRoom (dd + 1) (hh.1 - nS) (aZs kd hh.1 - aZs kd nS)) :
    ∀ (F : Nat) (x : aC) (ad : Nat → Nat), aRun kd Z n0 X cd F x rv hh → n0 ≤ x.2.2.2.1 → nS ≤ x.2.2.2.1 → aHok x.2.2.2 → (∀ i, (i < nS ∨ 1000 ≤ i) → ad i = adS i) → (x.2.2.2.1 = nS → ad = adS) →
      aSW p l e R s m args below meth c (MQ below (aQc D cl tys kd fk cy adS nS A rv hh) args s (hh.1 - nS) (aZs kd hh.1 - aZs kd nS) A) D cl A nL nS kd fk cy (aZs kd) ad x := by
  intro F
  induction F with
  | zero => intro x ad h; exact h.elim
  | succ F ih =>
    intro x ad h h0 hS0 hok hext hsame
    have hmon := aRun_h hXh (F + 1) x h h0
    unfold aRun at h
    split at h
    next => exact h.elim
    next ai hai =>
    have hg := hgood _ _ hai
    have hSt : aSt kd Z SF SK NW AO ad A s s.heap := aSt_ad hsf hsk hk13 (fun i hi => hext i (Or.inr hi)) hSt0
    obtain ⟨ins, nx, a, b, t, v⟩ := ai
    obtain ⟨pc, ls, st, h1⟩ := x
    dsimp only at h0 hS0 hok hsame hmon hai
    obtain ⟨len, hdec, hnx, hsd, hsp⟩ := hg
    split at h
    next x' hstp =>
      obtain ⟨e1, e2⟩ := aStp_h hstp
      dsimp only at e1 e2
      exact aStp_sound (n0 := n0) hx hb hts htab hkd hcl hown hini hK hty (fun i => Nat.lt_of_lt_of_le (hk20 i) (by decide)) hSt.1 hSt.2.2.2.2.2.1 h0 hdec hnx hsd hstp (ih x' ad h (by rw [e1]; exact h0) (by rw [e1]; exact hS0) (e2 h0 hok) hext (fun q => hsame (by rw [← e1]; exact q)))
    next hstp =>
    clear hstp
    have go : ∀ x' : aC, aRun kd Z n0 X cd F x' rv hh → x'.2.2.2.1 = h1.1 → aHok x'.2.2.2 → aSW p l e R s m args below meth c (MQ below (aQc D cl tys kd fk cy adS nS A rv hh) args s (hh.1 - nS) (aZs kd hh.1 - aZs kd nS) A) D cl A nL nS kd fk cy (aZs kd) ad x' :=
      fun x' hr hn hk => ih x' ad hr (by rw [hn]; exact h0) (by rw [hn]; exact hS0) hk hext (fun q => hsame (by rw [← hn]; exact q))
    have hq : ∀ (H : Heap) (locs : List Loc) (w : Option Value), rv = w → hh = h1 → va_P D cl (aWd kd fk cy ad h1) H → va_D A (aWd kd fk cy ad h1) → va_S A s.heap H locs → ∀ t : State, t.heap = H → s.WarmedH t.vm → aQc D cl tys kd fk cy adS nS A rv hh args s (.returned (w.map (aTr ad))) t := by
      intro H locs w e1 e2 hP hD hS t ht hW
      subst e1; subst e2
      exact ⟨⟨ad, hext, hsame, rfl, by rw [ht]; exact hP, hD⟩, hS.F ht⟩
    have zs1 : aZs kd (h1.1 + 1) = aZs kd h1.1 + (kd h1.1).2 := rfl
    have zs0 : aZs kd nS ≤ aZs kd h1.1 := aZs_le _ hS0
    have room : h1.1 + 1 ≤ hh.1 → h1.1 - nS + 1 ≤ R.cells ∧ aZs kd h1.1 - aZs kd nS + (kd h1.1).2 ≤ R.slots := by
      intro hle
      have := aZs_le (kd := kd) _ hle
      rw [hR]
      show _ ≤ hh.1 - nS ∧ _ ≤ aZs kd hh.1 - aZs kd nS
      omega
    have roomc : ∀ {h2 : aH}, h1.1 ≤ h2.1 → h2.1 ≤ hh.1 → h1.1 - nS + (h2.1 - h1.1) ≤ R.cells ∧ aZs kd h1.1 - aZs kd nS + (aZs kd h2.1 - aZs kd h1.1) ≤ R.slots ∧ h1.1 - nS + (h2.1 - h1.1) = h2.1 - nS ∧ aZs kd h1.1 - aZs kd nS + (aZs kd h2.1 - aZs kd h1.1) = aZs kd h2.1 - aZs kd nS := by
      intro h2 hle hle2
      have := aZs_le (kd := kd) _ hle
      have := aZs_le (kd := kd) _ hle2
      rw [hR]
      show _ ≤ hh.1 - nS ∧ _ ≤ aZs kd hh.1 - aZs kd nS ∧ _
      omega
    have alloc : ∀ (nx1 : Nat) (ls1 : aL) (st1 : List Value), aRun kd Z n0 X cd F (nx1, ls1, .ref h1.1 :: st1, h1.1 + 1, up1 h1.2.1 h1.1 (fun _ => 0), up1 h1.2.2.1 h1.1 (fun _ => 0), up1 h1.2.2.2 h1.1 (fun _ => none)) rv hh → h1.1 < 1000 → aOks h1.1 (ls1.map (·.2)) → aOks h1.1 st1 →
        ∀ (q N : Nat) (E : va_E) (H1 : Heap) (locs : List Loc) (L : Array Slot), (kd h1.1).2 = N → E = aEn kd fk cy (h1.1 + 1, up1 h1.2.1 h1.1 (fun _ => 0), up1 h1.2.2.1 h1.1 (fun _ => 0), up1 h1.2.2.2 h1.1 (fun _ => none)) (va_up ad h1.1 q) h1.1 →
          va_P D cl (aWd kd fk cy ad h1 ++ [(q, E)]) H1 → va_D A (aWd kd fk cy ad h1 ++ [(q, E)]) → va_S A s.heap H1 locs → lv_has L nL (aTl ad ls1) →
          W p l e R s m args below meth c H1 locs (h1.1 - nS + 1) (aZs kd h1.1 - aZs kd nS + N) (MQ below (aQc D cl tys kd fk cy adS nS A rv hh) args s (hh.1 - nS) (aZs kd hh.1 - aZs kd nS) A) (F0 m nx1 L (.ref q :: st1.map (aTr ad))) := by
      intro nx1 ls1 st1 hk h1000 hol hos q N E H1 locs L hN hE hP1 hD1 hS1 hl1
      subst hN; subst hE
      rw [← aWd_new hok] at hP1 hD1
      have he : ∀ i, (i < h1.1 ∨ 1000 ≤ i) → va_up ad h1.1 q i = ad i := fun i hi => by
        have : i ≠ h1.1 := by omega
        simp [va_up, this]
      have k1 := ih _ (va_up ad h1.1 q) hk (Nat.le_succ_of_le h0) (Nat.le_succ_of_le hS0) (aHok_new hok) (fun i hi => by rw [he i (by omega)]; exact hext i hi) (fun hz => absurd hz (by dsimp only; omega)) H1 locs L hP1 hD1 hS1 (by rw [aTl_same he hol]; exact hl1)
      dsimp only at k1
      rw [List.map_cons, aTr_same he hos, show aTr (va_up ad h1.1 q) (.ref h1.1) = .ref q by simp [aTr, va_up]] at k1
      rw [show h1.1 + 1 - nS = h1.1 - nS + 1 by omega, zs1, show aZs kd h1.1 + (kd h1.1).2 - aZs kd nS = aZs kd h1.1 - aZs kd nS + (kd h1.1).2 by omega] at k1
      exact k1
    have after : ∀ (x1 : aC) (h2 : aH), aRun kd Z n0 X cd F (x1.1, x1.2.1, x1.2.2.1, h2) rv hh → h1.1 ≤ h2.1 → aHok h2 → ∀ ad1 : Nat → Nat, (∀ i, (i < h1.1 ∨ 1000 ≤ i) → ad1 i = ad i) → (h2.1 = h1.1 → ad1 = ad) →
        aSW p l e R s m args below meth c (MQ below (aQc D cl tys kd fk cy adS nS A rv hh) args s (hh.1 - nS) (aZs kd hh.1 - aZs kd nS) A) D cl A nL nS kd fk cy (aZs kd) ad1 (x1.1, x1.2.1, x1.2.2.1, h2) := by
      intro x1 h2 hk hle hok2 ad1 he hs
      exact ih _ ad1 hk (Nat.le_trans h0 hle) (Nat.le_trans hS0 hle) hok2 (fun i hi => by rw [he i (by omega)]; exact hext i hi) (fun hz => by have hz1 : h2.1 = nS := hz; rw [hs (by omega)]; exact hsame (by omega))
    cases ins with
    | ireturn =>
      dsimp only [aSpc] at h
      subst hnx
      cases (show len = 1 from hsd)
      split at h
      next x =>
        obtain ⟨ht, e1, e2⟩ := h
        subst e1; subst e2
        intro H locs L hP hD hS hl; dsimp only at hP hD hl
        rcases hsp with ⟨ht0, hr0⟩ | ⟨ht1, hr1⟩ | ⟨ht1, hr1⟩ | ⟨ht1, hr1⟩
        · exact W.iret hx hb (hrt.trans hr0) (hq H locs (some (.int x)) rfl rfl hP hD hS) hS.2.2 hdec (hlocks := hlk)
        · refine W.zret hx hb (hrt.trans hr1) ?_ (hq H locs (some (.int x)) rfl rfl hP hD hS) hS.2.2 hdec (hlocks := hlk)
          rcases ht with h9 | ⟨-, rfl | rfl⟩ | ⟨h9, -⟩ | ⟨h9, -⟩ <;> first | rfl | omega
        · refine W.zret hx hb (hrt.trans hr1) ?_ (hq H locs (some (.int x)) rfl rfl hP hD hS) hS.2.2 hdec (hlocks := hlk)
          rcases ht with h9 | ⟨h9, -⟩ | ⟨-, rfl⟩ | ⟨h9, -⟩ <;> first | rfl | omega
        · refine W.zret hx hb (hrt.trans hr1) ?_ (hq H locs (some (.int x)) rfl rfl hP hD hS) hS.2.2 hdec (hlocks := hlk)
          rcases ht with h9 | ⟨h9, -⟩ | ⟨h9, -⟩ | ⟨-, h9⟩ <;> first | exact h9 | omega
      next => exact h.elim
    | lreturn =>
      dsimp only [aSpc] at h
      subst hnx
      cases (show len = 1 from hsd)
      split at h
      next x =>
        obtain ⟨e1, e2⟩ := h
        subst e1; subst e2
        intro H locs L hP hD hS hl; dsimp only at hP hD hl
        exact W.lret hx hb (hrt.trans hsp) (hq H locs (some (.long x)) rfl rfl hP hD hS) hS.2.2 hdec (hlocks := hlk)
      next => exact h.elim
    | areturn =>
      dsimp only [aSpc] at h
      subst hnx
      cases (show len = 1 from hsd)
      split at h
      next x =>
        obtain ⟨e1, e2⟩ := h
        subst e1; subst e2
        intro H locs L hP hD hS hl; dsimp only at hP hD hl
        obtain ⟨rt, hr0, hr1⟩ := hsp
        exact W.aret hx hb (hrt.trans hr0) hr1 (Or.inr ⟨_, rfl⟩) (hq H locs (some (.ref x)) rfl rfl hP hD hS) hS.2.2 hdec (hlocks := hlk)
      next =>
        obtain ⟨e1, e2⟩ := h
        subst e1; subst e2
        intro H locs L hP hD hS hl; dsimp only at hP hD hl
        obtain ⟨rt, hr0, hr1⟩ := hsp
        exact W.aret hx hb (hrt.trans hr0) hr1 (Or.inl rfl) (hq H locs (some .null) rfl rfl hP hD hS) hS.2.2 hdec (hlocks := hlk)
      next => exact h.elim
    | return_ =>
      dsimp only [aSpc] at h
      subst hnx
      cases (show len = 1 from hsd)
      split at h
      next =>
        obtain ⟨e1, e2⟩ := h
        subst e1; subst e2
        intro H locs L hP hD hS hl; dsimp only at hP hD hl
        exact W.vret hx hb (hrt.trans hsp) (hq H locs none rfl rfl hP hD hS) hS.2.2 hdec (hlocks := hlk)
      next => exact h.elim
    | idiv =>
      dsimp only [aSpc] at h
      subst hnx
      cases (show len = 1 from hsd)
      split at h
      next y x r =>
        obtain ⟨hne, hk⟩ := h
        intro H locs L hP hD hS hl; dsimp only at hP hD hl
        exact lv_idiv hx hb hdec hne (go _ hk rfl hok H locs L hP hD hS hl)
      next => exact h.elim
    | irem =>
      dsimp only [aSpc] at h
      subst hnx
      cases (show len = 1 from hsd)
      split at h
      next y x r =>
        obtain ⟨hne, hk⟩ := h
        intro H locs L hP hD hS hl; dsimp only at hP hD hl
        exact lv_irem hx hb hdec hne (go _ hk rfl hok H locs L hP hD hS hl)
      next => exact h.elim
    | ldiv =>
      dsimp only [aSpc] at h
      subst hnx
      cases (show len = 1 from hsd)
      split at h
      next y x r =>
        obtain ⟨hne, hk⟩ := h
        intro H locs L hP hD hS hl; dsimp only at hP hD hl
        exact lv_ldiv hx hb hdec hne (go _ hk rfl hok H locs L hP hD hS hl)
      next => exact h.elim
    | lrem =>
      dsimp only [aSpc] at h
      subst hnx
      cases (show len = 1 from hsd)
      split at h
      next y x r =>
        obtain ⟨hne, hk⟩ := h
        intro H locs L hP hD hS hl; dsimp only at hP hD hl
        exact lv_lrem hx hb hdec hne (go _ hk rfl hok H locs L hP hD hS hl)
      next => exact h.elim
    | arraylength =>
      dsimp only [aSpc] at h
      subst hnx
      cases (show len = 1 from hsd)
      split at h
      next i r =>
        obtain ⟨h13 | h13, hk⟩ := h
        · intro H locs L hP hD hS hl; dsimp only at hP hD hl
          exact aTlen hx hb (hSt.2.1 i h13) hS hdec (go _ hk rfl hok H locs L hP hD hS hl)
        · intro H locs L hP hD hS hl; dsimp only at hP hD hl
          exact aTlen hx hb (hSt.2.2.2.2.2.2.2 i h13) hS hdec (go _ hk rfl hok H locs L hP hD hS hl)
      next => exact h.elim
    | getfield z =>
      dsimp only [aSpc] at h
      obtain ⟨rfl, hsd⟩ := hsd
      subst hnx
      split at h
      next i r =>
        obtain ⟨h15, h⟩ := h
        obtain ⟨g1, g2, g3⟩ := hSt.2.2.2.2.2.2.1 i h15
        rcases hsd with ⟨-, hsd⟩ | ⟨C, T, N, hcl1, hb1, hw, hft⟩
        · rcases h with ⟨ht, hk⟩ | ⟨ht, hk⟩
          · rcases hsd with ⟨-, hw⟩ | ⟨ht2, -⟩
            · intro H locs L hP hD hS hl; dsimp only at hP hD hl
              exact vk_getf hx hb g3 hS hown (hts _ hw) (fun _ h9 => h9) hdec (go _ hk rfl hok H locs L hP hD hS hl)
            · omega
          · rcases hsd with ⟨ht2, -⟩ | ⟨-, hw⟩
            · omega
            · intro H locs L hP hD hS hl; dsimp only at hP hD hl
              exact vk_getf hx hb g2 hS hown (hts _ hw) (fun _ h9 => h9) hdec (go _ hk rfl hok H locs L hP hD hS hl)
        · rcases h with ⟨ht, hk⟩ | ⟨ht, hk⟩ <;> omega
      next => exact h.elim
    | iaload =>
      dsimp only [aSpc] at h
      subst hnx
      cases (show len = 1 from hsd)
      split at h
      next j i r =>
        obtain ⟨hin, ⟨hlv, h7, hk⟩ | ⟨h13, hk⟩⟩ := h
        · intro H locs L hP hD hS hl; dsimp only at hP hD hl
          exact va_iald hx hb hK hP i 0 (by rw [← aEn_7 h7]; exact aWd_at hlv) hty.1 hin hdec (go _ hk rfl hok H locs L hP hD hS hl)
        · intro H locs L hP hD hS hl; dsimp only at hP hD hl
          exact va_ti hx hb (hSt.2.1 i h13) hS hin rfl hdec (go _ hk rfl hok H locs L hP hD hS hl)
      next => exact h.elim
    | laload =>
      dsimp only [aSpc] at h
      subst hnx
      cases (show len = 1 from hsd)
      split at h
      next j i r =>
        obtain ⟨hin, ⟨hlv, h7, hk⟩ | ⟨h13, hk⟩⟩ := h
        · intro H locs L hP hD hS hl; dsimp only at hP hD hl
          exact va_lald hx hb hK hP i 1 (by rw [← aEn_8 h7]; exact aWd_at hlv) hty.2.1 hin hdec (go _ hk rfl hok H locs L hP hD hS hl)
        · intro H locs L hP hD hS hl; dsimp only at hP hD hl
          exact va_tl hx hb (hSt.2.2.1 i h13) hS hin rfl hdec (go _ hk rfl hok H locs L hP hD hS hl)
      next => exact h.elim
    | baload =>
      dsimp only [aSpc] at h
      subst hnx
      cases (show len = 1 from hsd)
      split at h
      next j i r =>
        obtain ⟨hin, ⟨hlv, h7, hk⟩ | ⟨h13, hk⟩⟩ := h
        · intro H locs L hP hD hS hl; dsimp only at hP hD hl
          exact va_zald hx hb hK hP i 2 (by rw [← aEn_9 h7]; exact aWd_at hlv) hty.2.2.1 hin hdec (go _ hk rfl hok H locs L hP hD hS hl)
        · intro H locs L hP hD hS hl; dsimp only at hP hD hl
          exact va_tb hx hb (hSt.2.2.2.2.2.2.2 i h13) hS hin rfl hdec (go _ hk rfl hok H locs L hP hD hS hl)
      next => exact h.elim
    | aaload =>
      dsimp only [aSpc] at h
      subst hnx
      cases (show len = 1 from hsd)
      split at h
      next j i r =>
        obtain ⟨hin, hlv, h7, h12, hk⟩ := h
        intro H locs L hP hD hS hl; dsimp only at hP hD hl
        obtain ⟨t0, C0, ht0⟩ := aTys_q hty h7 h12
        have k1 := go _ hk rfl hok H locs L hP hD hS hl
        dsimp only [List.map_cons] at k1
        rw [List.map_cons, aTr_rf] at k1
        exact va_aldq hx hb hK hP i t0 (by rw [← aEn_q h7]; exact aWd_at hlv) ht0 hin hdec k1
      next => exact h.elim
    | iastore =>
      dsimp only [aSpc] at h
      subst hnx
      cases (show len = 1 from hsd)
      split at h
      next x j i r =>
        obtain ⟨hin, hlv, h7, hk⟩ := h
        intro H locs L hP hD hS hl; dsimp only at hP hD hl
        refine va_iast hx hb hK hP hD hS i 0 (by rw [← aEn_7 h7]; exact aWd_at hlv) hty.1 hin hdec (fun H1 locs1 hP1 hD1 hS1 => ?_)
        rw [aWd_set (kd := kd) (fk := fk) (cy := cy) (ad := ad) (h := h1) (h' := (h1.1, up2 h1.2.1 i j.toNatClampNeg x, h1.2.2.1, h1.2.2.2)) rfl (by rw [aEn_7 h7]; dsimp only; rw [up2_upd]) (fun j hj => aEn_eq (up2_ne hj) rfl rfl)] at hP1 hD1
        exact go _ hk rfl hok H1 locs1 L hP1 hD1 hS1 hl
      next => exact h.elim
    | lastore =>
      dsimp only [aSpc] at h
      subst hnx
      cases (show len = 1 from hsd)
      split at h
      next x j i r =>
        obtain ⟨hin, hlv, h7, hk⟩ := h
        intro H locs L hP hD hS hl; dsimp only at hP hD hl
        refine va_last hx hb hK hP hD hS i 1 (by rw [← aEn_8 h7]; exact aWd_at hlv) hty.2.1 hin hdec (fun H1 locs1 hP1 hD1 hS1 => ?_)
        rw [aWd_set (kd := kd) (fk := fk) (cy := cy) (ad := ad) (h := h1) (h' := (h1.1, h1.2.1, up2 h1.2.2.1 i j.toNatClampNeg x, h1.2.2.2)) rfl (by rw [aEn_8 h7]; dsimp only; rw [up2_updL]) (fun j hj => aEn_eq rfl (up2_ne hj) rfl)] at hP1 hD1
        exact go _ hk rfl hok H1 locs1 L hP1 hD1 hS1 hl
      next => exact h.elim
    | bastore =>
      dsimp only [aSpc] at h
      subst hnx
      cases (show len = 1 from hsd)
      split at h
      next x j i r =>
        obtain ⟨hin, hlv, h7, hx01, hk⟩ := h
        intro H locs L hP hD hS hl; dsimp only at hP hD hl
        refine va_zast hx hb hK hP hD hS i 2 (by rw [← aEn_9 h7]; exact aWd_at hlv) hty.2.2.1 hin hdec (fun H1 locs1 hP1 hD1 hS1 => ?_)
        rw [aWd_set (kd := kd) (fk := fk) (cy := cy) (ad := ad) (h := h1) (h' := (h1.1, up2 h1.2.1 i j.toNatClampNeg x, h1.2.2.1, h1.2.2.2)) rfl (by rw [aEn_9 h7]; dsimp only; rw [vp_nar01 hx01, up2_upd]) (fun j hj => aEn_eq (up2_ne hj) rfl rfl)] at hP1 hD1
        exact go _ hk rfl hok H1 locs1 L hP1 hD1 hS1 hl
      next => exact h.elim
    | aastore =>
      dsimp only [aSpc] at h
      subst hnx
      cases (show len = 1 from hsd)
      split at h
      next w j i r =>
        obtain ⟨hin, hlv, h10, h12, hlw, hkw, hki, hk⟩ := h
        intro H locs L hP hD hS hl; dsimp only at hP hD hl
        obtain ⟨⟨C0, T0, N0⟩, t0, hr0, ht0⟩ := hsp
        refine va_astq (r := (C0, T0, N0)) (f := fun k => (h1.2.2.2 i k).map ad) hx hb hK hP hD hS i t0 w a (by rw [← aEn_q h10]; exact aWd_at hlv) (by rw [hki]; exact ht0) (aWd_obj hkd hcl hlw hkw hr0) hr0 hin hdec (fun H1 locs1 hP1 hD1 hS1 => ?_)
        rw [aWd_set (kd := kd) (fk := fk) (cy := cy) (ad := ad) (h := h1) (h' := (h1.1, h1.2.1, h1.2.2.1, up2 h1.2.2.2 i j.toNatClampNeg (some w))) rfl (by rw [aEn_q h10]; dsimp only; rw [up2_map]) (fun j hj => aEn_eq rfl rfl (up2_ne hj))] at hP1 hD1
        exact go _ hk rfl (aHok_up hok hlw) H1 locs1 L hP1 hD1 hS1 hl
      next => exact h.elim
    | putfield z =>
      dsimp only [aSpc] at h
      obtain ⟨rfl, C, T, N, hcl1, hb1, hw, hft, hfin⟩ := hsd
      subst hnx
      split at h
      next x i r =>
        obtain ⟨hlv, hki, ht, hx01, hk⟩ := h
        refine aPut_sound (h' := (h1.1, up2 h1.2.1 i b x, h1.2.2.1, h1.2.2.2)) hx hb hts htab hkd hcl hown hini hK hlv hki hcl1 hb1 hw hfin hdec (fun ty hty1 => ?_) rfl ?_ ?_ ?_ (go _ hk rfl hok)
        · rw [hft, ht] at hty1
          rcases hty1 with ⟨h4, rfl⟩ | ⟨h4, rfl⟩ | ⟨h4, rfl⟩ | ⟨h4, ⟨q, rfl⟩ | ⟨q, rfl⟩⟩ <;> first | exact absurd h4 (by decide) | (rcases hx01 with rfl | rfl <;> exact ⟨rfl, rfl⟩)
        · rw [hft, ht]; show _ = _; simp [aFv, up2_at, aTr]
        · intro q hq; unfold aFv; split <;> simp [up2_at, hq]
        · intro q hq; exact aEn_eq (up2_ne hq) rfl rfl
      next => exact h.elim
    | tableswitch d lo hi offs =>
      dsimp only [aSpc] at h
      subst hnx
      split at h
      next x r =>
        rcases h with ⟨ho, hk⟩ | ⟨off, ho, hlo, hhi, hk⟩
        · intro H locs L hP hD hS hl; dsimp only at hP hD hl
          exact lv_tableOut hx hb hdec ho (Int.toNat_of_nonneg hsp.1).symm (go _ hk rfl hok H locs L hP hD hS hl)
        · intro H locs L hP hD hS hl; dsimp only at hP hD hl
          exact lv_tableIn hx hb hdec hlo hhi ho (Int.toNat_of_nonneg (hsp.2 off (Array.mem_toList_iff.mpr (Array.mem_of_getElem? ho)))).symm (go _ hk rfl hok H locs L hP hD hS hl)
      next => exact h.elim
    | lookupswitch d ps =>
      dsimp only [aSpc] at h
      subst hnx
      split at h
      next x r =>
        intro H locs L hP hD hS hl; dsimp only at hP hD hl
        exact lv_lookup hx hb hdec hsp.1 rfl (Int.toNat_of_nonneg (aLook hsp.2.1 hsp.2.2)).symm (go _ h rfl hok H locs L hP hD hS hl)
      next => exact h.elim
    | new z =>
      dsimp only [aSpc] at h
      obtain ⟨hkn, h1000, hol, hos, hk⟩ := h
      obtain ⟨rfl, C, T, hcl1, w1, w2, w3⟩ := hsp
      subst hnx
      intro H locs L hP hD hS hl; dsimp only at hP hD hl
      obtain ⟨hin1, -, ty, hty1, hty2⟩ := htab a C T b hcl1
      have ha7 : a < 7 := Nat.lt_of_lt_of_le (List.getElem?_eq_some_iff.mp hcl1).1 hcl
      have hR2 := room (aRun_h hXh F _ hk (Nat.le_succ_of_le h0)).1
      rw [hkn] at hR2
      refine va_new (fs := (List.range b).map (fun k => aFv (h1.1 + 1, up1 h1.2.1 h1.1 (fun _ => 0), up1 h1.2.2.1 h1.1 (fun _ => 0), up1 h1.2.2.2 h1.1 (fun _ => none)) ad (fk a k) h1.1 k)) hx hb hts hin1 ty hty1 hown (hts _ w1) (hts _ w2) (hts _ w3) hK hP hD hS hA hcl1 (fun j hj => ?_) hR2.1 hR2.2 hdec (fun q H1 hP1 hD1 hS1 => ?_)
      · rw [show vp_V ((List.range b).map (fun k => aFv (h1.1 + 1, up1 h1.2.1 h1.1 (fun _ => 0), up1 h1.2.2.1 h1.1 (fun _ => 0), up1 h1.2.2.2 h1.1 (fun _ => none)) ad (fk a k) h1.1 k)) j = aFv (h1.1 + 1, up1 h1.2.1 h1.1 (fun _ => 0), up1 h1.2.2.1 h1.1 (fun _ => 0), up1 h1.2.2.2 h1.1 (fun _ => none)) ad (fk a j) h1.1 j by simp [vp_V, hj]]
        rcases hty2 j hj with ⟨e1, e2⟩ | ⟨e1, e2⟩ | ⟨e1, e2⟩ | ⟨e1, ⟨z1, e2⟩ | ⟨z1, e2⟩⟩ <;> rw [e1, e2] <;> simp [aFv, up1_at, defaultValue, va_rf]
      · exact alloc _ _ _ hk h1000 hol hos q b _ H1 locs L (by rw [hkn]) (by
          rw [aEn_o (by rw [hkn]; exact ha7), hkn]
          dsimp only
          congr 2
          apply List.map_congr_left
          intro k _
          unfold aFv
          split <;> simp [up1_at]) hP1 hD1 hS1 hl
    | newarray z =>
      dsimp only [aSpc] at h
      obtain ⟨rfl, w1, hca⟩ := hsp
      subst hnx
      split at h
      next x r =>
        obtain ⟨hneg, hkn, hle, h1000, hol, hos, hk⟩ := h
        intro H locs L hP hD hS hl; dsimp only at hP hD hl
        have hR2 := room (aRun_h hXh F _ hk (Nat.le_succ_of_le h0)).1
        rw [hkn] at hR2
        rcases hca with ⟨rfl, et⟩ | ⟨rfl, et⟩ | ⟨rfl, et⟩
        · refine va_newa (a0 := (x.toNatClampNeg, .inl (fun _ => 0))) hx hb (hts _ w1) et hK hP hD hS hA (fun _ => rfl) hneg rfl (by show x.toNatClampNeg * 4 ≤ 536870912; omega) hR2.1 hR2.2 hdec (fun q cA H1 hK1 hP1 hD1 hS1 => ?_)
          have ec : cA = cy 7 := va_RA_inj (hK1.2 tys.length (cA, .int) (by simp)).2 (hK.2 0 _ hty.1).2
          subst ec
          exact alloc _ _ _ hk h1000 hol hos q _ _ H1 locs L (by rw [hkn]) (by rw [aEn_7 (by rw [hkn]), hkn]; dsimp only; rw [up1_at]) hP1 hD1 hS1 hl
        · refine va_newa (a0 := (x.toNatClampNeg, .inr (.inl (fun _ => 0)))) hx hb (hts _ w1) et hK hP hD hS hA (fun _ => rfl) hneg rfl (by show x.toNatClampNeg * 8 ≤ 536870912; omega) hR2.1 hR2.2 hdec (fun q cA H1 hK1 hP1 hD1 hS1 => ?_)
          have ec : cA = cy 8 := va_RA_inj (hK1.2 tys.length (cA, .long) (by simp)).2 (hK.2 1 _ hty.2.1).2
          subst ec
          exact alloc _ _ _ hk h1000 hol hos q _ _ H1 locs L (by rw [hkn]) (by rw [aEn_8 (by rw [hkn]), hkn]; dsimp only; rw [up1_at]) hP1 hD1 hS1 hl
        · refine va_newa (a0 := (x.toNatClampNeg, .inl (fun _ => 0))) hx hb (hts _ w1) et hK hP hD hS hA (fun _ => rfl) hneg rfl (by show x.toNatClampNeg * 1 ≤ 536870912; omega) hR2.1 hR2.2 hdec (fun q cA H1 hK1 hP1 hD1 hS1 => ?_)
          have ec : cA = cy 9 := va_RA_inj (hK1.2 tys.length (cA, .boolean) (by simp)).2 (hK.2 2 _ hty.2.2.1).2
          subst ec
          exact alloc _ _ _ hk h1000 hol hos q _ _ H1 locs L (by rw [hkn]) (by rw [aEn_9 (by rw [hkn]), hkn]; dsimp only; rw [up1_at]) hP1 hD1 hS1 hl
      next => exact h.elim
    | anewarray z =>
      dsimp only [aSpc] at h
      obtain ⟨rfl, ha10, ha12, C, t0, w1, wO, ht0⟩ := hsp
      subst hnx
      split at h
      next x r =>
        obtain ⟨hneg, hkn, hle, h1000, hol, hos, hk⟩ := h
        intro H locs L hP hD hS hl; dsimp only at hP hD hl
        have hR2 := room (aRun_h hXh F _ hk (Nat.le_succ_of_le h0)).1
        rw [hkn] at hR2
        refine va_newq hx hb hown (hts _ w1) (hSt.2.2.2.2.1 C wO) hK hP hD hS hA hneg rfl (by omega) hR2.1 hR2.2 hdec (fun q cA H1 hK1 hP1 hD1 hS1 => ?_)
        have ec : cA = cy a := va_RA_inj (hK1.2 tys.length (cA, .object C) (by simp)).2 (hK.2 t0 _ ht0).2
        subst ec
        exact alloc _ _ _ hk h1000 hol hos q _ _ H1 locs L (by rw [hkn]) (by rw [aEn_q (by rw [hkn]; exact ha10), hkn]; dsimp only; rw [up1_at]; rfl) hP1 hD1 hS1 hl
      next => exact h.elim
    | invokestatic z =>
      dsimp only [aSpc] at h
      obtain ⟨rfl, hsp⟩ := hsp
      subst hnx
      split at h
      next ht9 =>
        rw [if_pos ht9] at hsp
        obtain ⟨w1, w2, w3, w4⟩ := hsp
        split at h
        next n dp i1 sp i0 r =>
          obtain ⟨hsp, hdp, hn, hl0, hl1, hle0, hle1, hcat, ⟨hk0, hk1, hk⟩ | ⟨hk0, hk1, hk⟩⟩ := h
          · intro H locs L hP hD hS hl; dsimp only at hP hD hl
            refine va_copyi hx hb (hml.trans hl.1.symm) hown (hts _ w1) (hts _ w2) (hts _ w3) (hts _ w4) hK hP hD hS i0 i1 0 0 (by rw [← aEn_7 hk0]; exact aWd_at hl0) (by rw [← aEn_7 hk1]; exact aWd_at hl1) hty.1 hty.1 rfl hsp hdp hn hle0 hle1 (fun _ _ => rfl) (by rw [hR]; exact Nat.succ_le_succ (Nat.zero_le _)) (by rw [aCat, hR]; show _ ≤ 64 * (dd + 1); have := aNfw; omega) hdec (fun H1 locs1 hP1 hD1 hS1 => ?_)
            rw [aWd_set (kd := kd) (fk := fk) (cy := cy) (ad := ad) (h := h1) (h' := (h1.1, up1 h1.2.1 i1 (va_cpy (h1.2.1 i0) (h1.2.1 i1) sp.toNatClampNeg dp.toNatClampNeg n.toNatClampNeg), h1.2.2.1, h1.2.2.2)) rfl (by rw [aEn_7 hk1]; dsimp only; rw [up1_at]) (fun j hj => aEn_eq (up1_ne hj) rfl rfl)] at hP1 hD1
            exact go _ hk rfl hok H1 locs1 L hP1 hD1 hS1 hl
          · intro H locs L hP hD hS hl; dsimp only at hP hD hl
            refine va_copyl hx hb (hml.trans hl.1.symm) hown (hts _ w1) (hts _ w2) (hts _ w3) (hts _ w4) hK hP hD hS i0 i1 1 1 (by rw [← aEn_8 hk0]; exact aWd_at hl0) (by rw [← aEn_8 hk1]; exact aWd_at hl1) hty.2.1 hty.2.1 rfl hsp hdp hn hle0 hle1 (fun _ _ => rfl) (by rw [hR]; exact Nat.succ_le_succ (Nat.zero_le _)) (by rw [aCat, hR]; show _ ≤ 64 * (dd + 1); have := aNfw; omega) hdec (fun H1 locs1 hP1 hD1 hS1 => ?_)
            rw [aWd_set (kd := kd) (fk := fk) (cy := cy) (ad := ad) (h := h1) (h' := (h1.1, h1.2.1, up1 h1.2.2.1 i1 (va_cpy (h1.2.2.1 i0) (h1.2.2.1 i1) sp.toNatClampNeg dp.toNatClampNeg n.toNatClampNeg), h1.2.2.2)) rfl (by rw [aEn_8 hk1]; dsimp only; rw [up1_at]) (fun j hj => aEn_eq rfl (up1_ne hj) rfl)] at hP1 hD1
            exact go _ hk rfl hok H1 locs1 L hP1 hD1 hS1 hl
        next => exact h.elim
      next ht9 =>
        rw [if_neg ht9] at hsp
        obtain ⟨wc, ws, wi, wl, hd, hm45⟩ := hsp
        obtain ⟨rv1, h2, hbl, hcat, hx1, hfr, hk⟩ := h
        intro H locs L hP hD hS hl; dsimp only at hP hD hl
        have hR2 := roomc (hXh _ _ _ _ _ hx1).1 (aRun_h hXh F _ hk (Nat.le_trans h0 (hXh _ _ _ _ _ hx1).1)).1
        have hA1 := aFreeA (H := H) hD hS hA
        have hM := hX _ _ _ _ _ hx1 hok ad H.size
        have hG : GoodIn Ts (Cond.code (mt a).1 (mt a).2.1 (mt a).2.2.1 (mt a).2.2.2 :: Ts) := aGoodT hgT (fun w hw => (List.mem_cons.mp hw).elim (fun e => by rw [e]; exact wc) id)
        have hlen : ∀ sig, parseMethodDescriptor (mt a).1.desc = some sig → b = sig.parameters.length := fun sig hs => by have := hd.2.2; rw [hs] at this; exact (Option.some.inj this).symm
        have hRf : (aRoom dd (h2.1 - h1.1) (aZs kd h2.1 - aZs kd h1.1)).frames + 1 ≤ R.frames := by rw [hR]; exact Nat.le_refl _
        have hRl : 8 + ((mt a).2.2.1 + 11) + (aRoom dd (h2.1 - h1.1) (aZs kd h2.1 - aZs kd h1.1)).locals ≤ R.locals := by rw [hR]; show 8 + ((mt a).2.2.1 + 11) + 64 * dd ≤ 64 * (dd + 1); omega
        have hn1 : ((st.take b).reverse.map (aTr ad)).length = b := by simp [hbl]
        have hp1 : PreS s H (aPc D cl tys kd fk cy Z SF SK NW AO ad (st.take b).reverse h1 H.size) ((st.take b).reverse.map (aTr ad)) := ⟨aBlind, fun U hU hW => aPre hK hP hD hS hSt hA1 hU hW⟩
        refine aCall_go (tys := tys) (as := ((st.take b).reverse.map (aTr ad)).toArray) (ls := ls) (h1 := h2) (rv1 := rv1) (A1 := va_A (aWd kd fk cy ad h1) H.size) (mc := h2.1 - h1.1) (ms := aZs kd h2.1 - aZs kd h1.1) ?_ hS hA1 hl hfr hR2.2.2.1 hR2.2.2.2 (fun ad1 he hs => after (_, _, _, h1) _ hk (hXh _ _ _ _ _ hx1).1 ((hXh _ _ _ _ _ hx1).2 hok) ad1 he hs)
        rcases wl with wl | ⟨host, wl⟩
        · exact va_runS ⟨hx, hb, hml, hown, hts⟩ hM ⟨⟨rfl, rfl, hRf, hRl, pay_in hts hG, List.mem_cons_self, hts _ wc, hts _ wi, ⟨hd.1, hd.2.1⟩, hlen, hts _ wl⟩, hts _ ws⟩ hp1 rfl hn1 hl.1 (aStack ad st b) (lv_room (by rw [aCat]; exact hcat)) hdec ⟨hR2.1, hR2.2.1⟩
        · exact va_runSN ⟨hx, hb, hml, hown, hts⟩ hM ⟨⟨⟨rfl, rfl, hRf, hRl, pay_in hts hG, List.mem_cons_self⟩, hts _ wc, hts _ wi, ⟨hd.1, hd.2.1⟩, hlen, (hSt.2.2.2.1 _ wl).use rfl⟩, hts _ ws, trivial⟩ hp1 rfl hn1 hl.1 (aStack ad st b) (lv_room (by rw [aCat]; exact hcat)) hdec ⟨hR2.1, hR2.2.1⟩
    | invokevirtual z =>
      dsimp only [aSpc] at h
      obtain ⟨rfl, wc, wm, wi, wl, wsel, hb1, hd, hm45, hrc⟩ := hsp
      subst hnx
      obtain ⟨rv1, h2, hbl, hcat, hrcv, hx1, hfr, hk⟩ := h
      intro H locs L hP hD hS hl; dsimp only at hP hD hl
      have hG : GoodIn Ts (Cond.code (mt a).1 (mt a).2.1 (mt a).2.2.1 (mt a).2.2.2 :: Ts) := aGoodT hgT (fun w hw => (List.mem_cons.mp hw).elim (fun e => by rw [e]; exact wc) id)
      have hcv : ∃ i, (st.take b).reverse.head? = some (.ref i) ∧ ∃ cellB : Cell, H[ad i]? = some cellB ∧ cellB.vm.isStatics = false ∧ s.vm.findClass (mt a).1.cls = some cellB.cls := by
        obtain ⟨i, hhd, ⟨h15, h20⟩ | ⟨hlv, hki⟩⟩ := hrcv
        · rcases hrc with ⟨-, hstr⟩ | ⟨T0, N0, hc0⟩
          · obtain ⟨g1, g2, g3⟩ := hSt.2.2.2.2.2.2.1 i h15
            obtain ⟨cell, q1, q2, q3, -⟩ := g1.kept hS.2.1
            exact ⟨i, hhd, cell, q1, q2, by rw [hstr]; exact q3⟩
          · have := (List.getElem?_eq_some_iff.mp hc0).1; omega
        · rcases hrc with ⟨h20, hstr⟩ | ⟨T0, N0, hc0⟩
          · exact absurd hki (by have := hk20 i; omega)
          · exact ⟨i, hhd, va_recv (q0 := i) hK hP hc0 (aWd_obj hkd hcl hlv hki hc0)⟩
      obtain ⟨i, hhd, hcell⟩ := hcv
      obtain ⟨as, has, has2⟩ := aHead (ad := ad) hhd
      have hR2 := roomc (hXh _ _ _ _ _ hx1).1 (aRun_h hXh F _ hk (Nat.le_trans h0 (hXh _ _ _ _ _ hx1).1)).1
      have hA1 := aFreeA (H := H) hD hS hA
      have hM := hX _ _ _ _ _ hx1 hok ad H.size
      have hlen : ∀ sig, parseMethodDescriptor (mt a).1.desc = some sig → b - 1 = sig.parameters.length := fun sig hs => by have := hd.2.2; rw [hs] at this; exact (Option.some.inj this).symm
      have hRf : (aRoom dd (h2.1 - h1.1) (aZs kd h2.1 - aZs kd h1.1)).frames + 1 ≤ R.frames := by rw [hR]; exact Nat.le_refl _
      have hRl : 8 + ((mt a).2.2.1 + 11) + (aRoom dd (h2.1 - h1.1) (aZs kd h2.1 - aZs kd h1.1)).locals ≤ R.locals := by rw [hR]; show 8 + ((mt a).2.2.1 + 11) + 64 * dd ≤ 64 * (dd + 1); omega
      have hn1 : (as.map (aTr ad)).length = b - 1 := by have h9 := congrArg List.length has; simp at h9; simp; omega
      have hstk : st.map (aTr ad) = (as.map (aTr ad)).reverse ++ .ref (ad i) :: (st.drop b).map (aTr ad) := by rw [aStack ad st b, has2, List.reverse_cons, List.append_assoc]; rfl
      have hp1 : PreV s H (mt a).1.cls (ad i) (aPc D cl tys kd fk cy Z SF SK NW AO ad (st.take b).reverse h1 H.size) (as.map (aTr ad)) := ⟨aBlind, hcell, fun U hU hW => by have h9 := aPre (Z := Z) (SF := SF) (SK := SK) (NW := NW) (AO := AO) (vs := (st.take b).reverse) hK hP hD hS hSt hA1 hU hW; rw [has2] at h9; exact h9⟩
      refine aCall_go (tys := tys) (as := (Value.ref (ad i) :: as.map (aTr ad)).toArray) (ls := ls) (h1 := h2) (rv1 := rv1) (A1 := va_A (aWd kd fk cy ad h1) H.size) (mc := h2.1 - h1.1) (ms := aZs kd h2.1 - aZs kd h1.1) ?_ hS hA1 hl hfr hR2.2.2.1 hR2.2.2.2 (fun ad1 he hs => after (_, _, _, h1) _ hk (hXh _ _ _ _ _ hx1).1 ((hXh _ _ _ _ _ hx1).2 hok) ad1 he hs)
      exact va_runV ⟨hx, hb, hml, hown, hts⟩ hM ⟨⟨rfl, rfl, hRf, hRl, pay_in hts hG, List.mem_cons_self, hts _ wc, hts _ wi, ⟨hd.1, hd.2.1⟩, hlen, hts _ wl⟩, hts _ wm, hts _ wsel⟩ hp1 rfl hn1 hl.1 hstk (lv_room (by rw [aCat]; exact hcat)) hdec ⟨hR2.1, hR2.2.1⟩
    | invokespecial z =>
      dsimp only [aSpc] at h
      obtain ⟨rfl, hsp⟩ := hsp
      subst hnx
      split at h
      next ht8 =>
        rw [if_pos ht8] at hsp
        obtain ⟨w1, w2, w3⟩ := hsp
        split at h
        next i r =>
          obtain ⟨hcat, hk⟩ := h
          intro H locs L hP hD hS hl; dsimp only at hP hD hl
          refine W.objInit hx hb hown (hts _ w1) (hts _ w2) (hts _ w3) rfl (hl.1.trans hml.symm) rfl hdec (by rw [hR]; exact Nat.succ_le_succ (Nat.zero_le _)) (Nat.le_trans (Nat.add_le_add_right (lv_room (m := m) (pc := pc) (ls := L) (rest := (.ref (ad i) :: r.map (aTr ad))) (st := r.map (aTr ad)) (by rw [aCat]; exact hcat)) 12) (by rw [hR]; show 8 + 12 ≤ 64 * (dd + 1); omega)) ?_
          exact W.eq rfl (go _ hk rfl hok H locs L hP hD hS hl)
        next => exact h.elim
      next ht8 =>
        rw [if_neg ht8] at hsp
        obtain ⟨wc, hret, hini1, wm, wi, wl, hb1, hd, hm45⟩ := hsp
        obtain ⟨h2, hbl, hcat, ⟨i, hhd⟩, hx1, hfr, hk⟩ := h
        intro H locs L hP hD hS hl; dsimp only at hP hD hl
        obtain ⟨as, has, has2⟩ := aHead (ad := ad) hhd
        have hR2 := roomc (hXh _ _ _ _ _ hx1).1 (aRun_h hXh F _ hk (Nat.le_trans h0 (hXh _ _ _ _ _ hx1).1)).1
        have hA1 := aFreeA (H := H) hD hS hA
        have hM := hX _ _ _ _ _ hx1 hok ad H.size
        have hlen : ∀ sig, parseMethodDescriptor (mt a).1.desc = some sig → b - 1 = sig.parameters.length := fun sig hs => by have := hd.2.2; rw [hs] at this; exact (Option.some.inj this).symm
        have hRf : (aRoom dd (h2.1 - h1.1) (aZs kd h2.1 - aZs kd h1.1)).frames + 1 ≤ R.frames := by rw [hR]; exact Nat.le_refl _
        have hRl : 8 + ((mt a).2.2.1 + 11) + (aRoom dd (h2.1 - h1.1) (aZs kd h2.1 - aZs kd h1.1)).locals ≤ R.locals := by rw [hR]; show 8 + ((mt a).2.2.1 + 11) + 64 * dd ≤ 64 * (dd + 1); omega
        have hn1 : (as.map (aTr ad)).length = b - 1 := by have h9 := congrArg List.length has; simp at h9; simp; omega
        have hstk : st.map (aTr ad) = (as.map (aTr ad)).reverse ++ .ref (ad i) :: (st.drop b).map (aTr ad) := by rw [aStack ad st b, has2, List.reverse_cons, List.append_assoc]; rfl
        rw [hret] at hM
        have hG : GoodIn Ts (Cond.code (mt a).1 (mt a).2.1 (mt a).2.2.1 none :: Ts) := aGoodT hgT (fun w hw => (List.mem_cons.mp hw).elim (fun e => by rw [e]; exact wc) id)
        have hp1 : PreS s H (aPc D cl tys kd fk cy Z SF SK NW AO ad (st.take b).reverse h1 H.size) (.ref (ad i) :: as.map (aTr ad)) := ⟨aBlind, fun U hU hW => by have h9 := aPre (Z := Z) (SF := SF) (SK := SK) (NW := NW) (AO := AO) (vs := (st.take b).reverse) hK hP hD hS hSt hA1 hU hW; rw [has2] at h9; exact h9⟩
        refine aCall_go (tys := tys) (as := (Value.ref (ad i) :: as.map (aTr ad)).toArray) (ls := ls) (h1 := h2) (rv1 := none) (A1 := va_A (aWd kd fk cy ad h1) H.size) (mc := h2.1 - h1.1) (ms := aZs kd h2.1 - aZs kd h1.1) ?_ hS hA1 hl hfr hR2.2.2.1 hR2.2.2.2 (fun ad1 he hs => after (_, _, _, h1) _ hk (hXh _ _ _ _ _ hx1).1 ((hXh _ _ _ _ _ hx1).2 hok) ad1 he hs)
        rcases wl with wl | ⟨host, wl⟩
        · exact va_runI ⟨hx, hb, hml, hown, hts⟩ hM ⟨⟨rfl, rfl, hRf, hRl, pay_in hts hG, List.mem_cons_self, hts _ wc, hts _ wi, ⟨hd.1, hd.2.1⟩, hlen, hts _ wl⟩, hini1, hts _ wm⟩ hp1 rfl hn1 hl.1 hstk (lv_room (by rw [aCat]; exact hcat)) hdec ⟨hR2.1, hR2.2.1⟩
        · exact va_runIN ⟨hx, hb, hml, hown, hts⟩ hM ⟨⟨⟨rfl, rfl, hRf, hRl, pay_in hts hG, List.mem_cons_self⟩, hts _ wc, hts _ wi, ⟨hd.1, hd.2.1⟩, hlen, (hSt.2.2.2.1 _ wl).use rfl⟩, hini1, hts _ wm⟩ hp1 rfl hn1 hl.1 hstk (lv_room (by rw [aCat]; exact hcat)) hdec ⟨hR2.1, hR2.2.1⟩
    | _ => exact h.elim
end RS
end
section
section ME
variable {l : Launch} {D : va_G} {cl : List vw_C} {tys : List (ClassId × FieldType)} {Ts : List Jvm.Cond} {SF : List (String × String × String × Value)} {SK : List (String × Nat × String × Nat)} {NW : List aNt} {AO : List String} {mt : Nat → aMt} {n0 : Nat}
variable {kd : Nat → Nat × Nat} {fk : Nat → Nat → Nat} {cy : Nat → ClassId} {Z : aZ} {cds : Nat → Nat → Option aI}
/-- the numbered methods' tables are their bytecode's -/
def aAll (cl : List vw_C) (fk : Nat → Nat → Nat) (cy : Nat → ClassId) (tys : List (ClassId × FieldType)) (Ts : List Jvm.Cond) (SF : List (String × String × String × Value)) (SK : List (String × Nat × String × Nat)) (NW : List aNt) (AO : List String) (mt : Nat → aMt) (cds : Nat → Nat → Option aI) : Prop :=
  ∀ (y pc : Nat) (ai : aI), cds y pc = some ai → plainName (mt y).1.cls = true ∧ aGood cl fk cy tys Ts SF SK NW AO mt (mt y).1.cls (mt y).2.1 (mt y).2.2.1 ((mt y).1.name == "<init>") (mt y).2.2.2 pc ai
theorem aArgs_len : ∀ vs : List Value, (lg_sl vs).length = (vs.map fun v => v.category).sum
  | [] => rfl
  | v :: vs => by
    have ih := aArgs_len vs
    unfold lg_sl at ih ⊢
    rw [List.flatMap_cons, List.length_append, ih, List.map_cons, List.sum_cons]
    rcases lv_cat v with h | h <;> simp [h]
/-- every call of the abstract machine, no deeper than d, is a contract -/
theorem aMet (hgT : ∀ w ∈ Ts, goodWord w = true) (htab : aTab cl fk Ts) (hkd : ∀ i, (kd i).1 < 7 → ∃ C T, cl[(kd i).1]? = some (C, T, (kd i).2)) (hcl : cl.length ≤ 7) (hty : aTys cy tys)
    (hsf : ∀ q ∈ SF, ∀ i, q.2.2.2 = .ref i → 1000 ≤ i) (hsk : ∀ q ∈ SK, 1000 ≤ q.2.2.2) (hk20 : ∀ i, (kd i).1 < 20) (hk13 : ∀ i, 13 ≤ (kd i).1 → 1000 ≤ i)
    {ml : Nat → Nat} (hml0 : ∀ y, ml y = (mt y).2.2.1) (hall : aAll cl fk cy tys Ts SF SK NW AO mt cds) : ∀ d : Nat, aXm l D cl tys kd fk cy Z SF SK NW AO Ts mt d (aEx kd Z n0 ml cds d)
  | 0 => fun _ _ _ _ _ h => h.elim
  | d + 1 => by
    intro y vs h rv hh hx hok ad sz
    have hXh : aXh (aEx kd Z n0 ml cds d) := aEx_h d
    obtain ⟨hle, h0, F, hr⟩ := hx
    have hmon := aRun_h hXh F _ hr h0
    have hpl : plainName (mt y).1.cls = true ∧ (vs.map fun v => v.category).sum ≤ (mt y).2.2.1 := by
      refine ⟨?_, by rw [← hml0]; exact Nat.le_of_ble_eq_true hle⟩
      cases F with
      | zero => exact hr.elim
      | succ F =>
        unfold aRun at hr
        split at hr
        next => exact hr.elim
        next ai hai => exact (hall y _ ai hai).1
    refine Met.ofW (cc := (mt y).2.1) (maxL := (mt y).2.2.1) (ret := (mt y).2.2.2) hpl.1 rfl ?_
    intro p e s m args below meth c s₁ B hml hv
    obtain ⟨rfl, hsz, hP, hK, hD0, hSt⟩ := hv
    have hx := B.exec
    have hb := B.bytes
    have hr1 := B.returns
    have hts0 := atoms_spec (ws := Cond.code (mt y).1 (mt y).2.1 (mt y).2.2.1 (mt y).2.2.2 :: Ts) B.pre
    have hts : ∀ w ∈ Ts, w.before (vs.map (aTr ad)).toArray s = true := fun w hw => hts0 w (List.mem_cons_of_mem _ hw)
    have hown : s.vm.findClass (mt y).1.cls = some m.cls := findClass_of_methodNamed B.named
    have hlocks := B.notSynchronized
    have hin : meth.name = (mt y).1.name := (name_of_methodNamed B.named B.method).1
    subst hsz
    have hD := hD0.self (sz := s.heap.size)
    have hA : ∀ q : Nat, s.heap.size ≤ q → va_A (aWd kd fk cy ad h) s.heap.size q := fun q h => Or.inr h
    have hS : va_S (va_A (aWd kd fk cy ad h) s.heap.size) s.heap s.heap [] := va_S.rf
    rw [lg_entry_eq]
    have hl := lv_entry (vs.map (aTr ad)) (n := (mt y).2.2.1) (by rw [aArgs_len, aCat]; exact hpl.2)
    rw [aTr_args] at hl
    have k := aRun_sound (p := p) (l := l) (e := e) (R := aRoom (d + 1) (hh.1 - h.1) (aZs kd hh.1 - aZs kd h.1)) (below := below) (n0 := n0) hx hb hml hts hgT htab hkd hcl hown (fun q => hin.trans (eq_of_beq q)) hK hty hlocks hr1 hsf hsk hk20 hk13 (aMet hgT htab hkd hcl hty hsf hsk hk20 hk13 hml0 hall d) hXh (fun pc ai hc => (hall y pc ai hc).2) hA hSt rfl F _ ad hr h0 (Nat.le_refl _) hok (fun _ _ => rfl) (fun _ => rfl)
    have k1 := k s.heap [] _ hP hD hS hl
    dsimp only at k1
    rw [Nat.sub_self, Nat.sub_self] at k1
    exact k1
end ME
end
section
-- ===== PART A: goes FIRST, ahead of the names: the tables' words, and 'selects' of the private methods out of them =====
/-- a private method of a class that the tables say can be made, by its rows of tables_1 -/
def lw_okq (q : MethodName × Nat) : Prop := (q.1.cls ≠ "java/lang/invoke/MethodHandle" ∧ q.1.cls ≠ "java/lang/invoke/VarHandle") ∧ Cond.instantiable q.1.cls q.2 ∈ tables_1 ∧ Cond.privateMethod q.1 ∈ tables_1 ∧ Cond.instanceMethod q.1 ∈ tables_1
theorem lw_p0 : lw_okq (⟨"NineSails", "isSail", "(I)Z"⟩, 19) := ⟨⟨by decide +kernel, by decide +kernel⟩, List.mem_of_getElem? (i := 17) (by decide +kernel), List.mem_of_getElem? (i := 267) (by decide +kernel), List.mem_of_getElem? (i := 268) (by decide +kernel)⟩
theorem lw_p1 : lw_okq (⟨"NineSails", "may", "(LNineSails$Scene;I)Z"⟩, 19) := ⟨⟨by decide +kernel, by decide +kernel⟩, List.mem_of_getElem? (i := 17) (by decide +kernel), List.mem_of_getElem? (i := 275) (by decide +kernel), List.mem_of_getElem? (i := 276) (by decide +kernel)⟩
theorem lw_p2 : lw_okq (⟨"NineSails$Reader", "readClause", "()Z"⟩, 5) := ⟨⟨by decide +kernel, by decide +kernel⟩, List.mem_of_getElem? (i := 77) (by decide +kernel), List.mem_of_getElem? (i := 314) (by decide +kernel), List.mem_of_getElem? (i := 315) (by decide +kernel)⟩
theorem lw_p3 : lw_okq (⟨"NineSails$Reader", "wordBegun", "()I"⟩, 5) := ⟨⟨by decide +kernel, by decide +kernel⟩, List.mem_of_getElem? (i := 77) (by decide +kernel), List.mem_of_getElem? (i := 318) (by decide +kernel), List.mem_of_getElem? (i := 319) (by decide +kernel)⟩
theorem lw_p4 : lw_okq (⟨"NineSails$Reader", "sign", "()I"⟩, 5) := ⟨⟨by decide +kernel, by decide +kernel⟩, List.mem_of_getElem? (i := 77) (by decide +kernel), List.mem_of_getElem? (i := 322) (by decide +kernel), List.mem_of_getElem? (i := 323) (by decide +kernel)⟩
theorem lw_p5 : lw_okq (⟨"NineSails$Reader", "passWord", "(Ljava/lang/String;)Z"⟩, 5) := ⟨⟨by decide +kernel, by decide +kernel⟩, List.mem_of_getElem? (i := 77) (by decide +kernel), List.mem_of_getElem? (i := 333) (by decide +kernel), List.mem_of_getElem? (i := 334) (by decide +kernel)⟩
theorem lw_p6 : lw_okq (⟨"NineSails$Reader", "pass", "(I)Z"⟩, 5) := ⟨⟨by decide +kernel, by decide +kernel⟩, List.mem_of_getElem? (i := 77) (by decide +kernel), List.mem_of_getElem? (i := 385) (by decide +kernel), List.mem_of_getElem? (i := 386) (by decide +kernel)⟩
theorem lw_p7 : lw_okq (⟨"NineSails$Reader", "passWindFigure", "()Z"⟩, 5) := ⟨⟨by decide +kernel, by decide +kernel⟩, List.mem_of_getElem? (i := 77) (by decide +kernel), List.mem_of_getElem? (i := 389) (by decide +kernel), List.mem_of_getElem? (i := 390) (by decide +kernel)⟩
theorem lw_p8 : lw_okq (⟨"NineSails$Reader", "passNumber", "()Z"⟩, 5) := ⟨⟨by decide +kernel, by decide +kernel⟩, List.mem_of_getElem? (i := 77) (by decide +kernel), List.mem_of_getElem? (i := 396) (by decide +kernel), List.mem_of_getElem? (i := 397) (by decide +kernel)⟩
theorem lw_p9 : lw_okq (⟨"NineSails$Reader", "readEither", "(I)Z"⟩, 5) := ⟨⟨by decide +kernel, by decide +kernel⟩, List.mem_of_getElem? (i := 77) (by decide +kernel), List.mem_of_getElem? (i := 400) (by decide +kernel), List.mem_of_getElem? (i := 401) (by decide +kernel)⟩
theorem lw_p10 : lw_okq (⟨"NineSails$Reader", "readFactor", "(I)Z"⟩, 5) := ⟨⟨by decide +kernel, by decide +kernel⟩, List.mem_of_getElem? (i := 77) (by decide +kernel), List.mem_of_getElem? (i := 404) (by decide +kernel), List.mem_of_getElem? (i := 405) (by decide +kernel)⟩
theorem lw_p11 : lw_okq (⟨"NineSails$Reader", "readTest", "()Z"⟩, 5) := ⟨⟨by decide +kernel, by decide +kernel⟩, List.mem_of_getElem? (i := 77) (by decide +kernel), List.mem_of_getElem? (i := 412) (by decide +kernel), List.mem_of_getElem? (i := 413) (by decide +kernel)⟩
theorem lw_p12 : lw_okq (⟨"NineSails", "pace", "(IIII)I"⟩, 19) := ⟨⟨by decide +kernel, by decide +kernel⟩, List.mem_of_getElem? (i := 17) (by decide +kernel), List.mem_of_getElem? (i := 430) (by decide +kernel), List.mem_of_getElem? (i := 431) (by decide +kernel)⟩
theorem lw_p13 : lw_okq (⟨"NineSails", "holding", "()LNineSails$Race;"⟩, 19) := ⟨⟨by decide +kernel, by decide +kernel⟩, List.mem_of_getElem? (i := 17) (by decide +kernel), List.mem_of_getElem? (i := 434) (by decide +kernel), List.mem_of_getElem? (i := 435) (by decide +kernel)⟩
theorem lw_p14 : lw_okq (⟨"NineSails", "ruleOf", "(I)LNineSails$Rule;"⟩, 19) := ⟨⟨by decide +kernel, by decide +kernel⟩, List.mem_of_getElem? (i := 17) (by decide +kernel), List.mem_of_getElem? (i := 455) (by decide +kernel), List.mem_of_getElem? (i := 456) (by decide +kernel)⟩
theorem lw_p15 : lw_okq (⟨"NineSails", "choice", "(LNineSails$Rule;LNineSails$Scene;)I"⟩, 19) := ⟨⟨by decide +kernel, by decide +kernel⟩, List.mem_of_getElem? (i := 17) (by decide +kernel), List.mem_of_getElem? (i := 470) (by decide +kernel), List.mem_of_getElem? (i := 471) (by decide +kernel)⟩
def lw_privs_1 : List (MethodName × Nat) := [(⟨"NineSails", "isSail", "(I)Z"⟩, 19), (⟨"NineSails", "may", "(LNineSails$Scene;I)Z"⟩, 19), (⟨"NineSails$Reader", "readClause", "()Z"⟩, 5), (⟨"NineSails$Reader", "wordBegun", "()I"⟩, 5), (⟨"NineSails$Reader", "sign", "()I"⟩, 5), (⟨"NineSails$Reader", "passWord", "(Ljava/lang/String;)Z"⟩, 5), (⟨"NineSails$Reader", "pass", "(I)Z"⟩, 5), (⟨"NineSails$Reader", "passWindFigure", "()Z"⟩, 5), (⟨"NineSails$Reader", "passNumber", "()Z"⟩, 5), (⟨"NineSails$Reader", "readEither", "(I)Z"⟩, 5), (⟨"NineSails$Reader", "readFactor", "(I)Z"⟩, 5), (⟨"NineSails$Reader", "readTest", "()Z"⟩, 5), (⟨"NineSails", "pace", "(IIII)I"⟩, 19), (⟨"NineSails", "holding", "()LNineSails$Race;"⟩, 19), (⟨"NineSails", "ruleOf", "(I)LNineSails$Rule;"⟩, 19), (⟨"NineSails", "choice", "(LNineSails$Rule;LNineSails$Scene;)I"⟩, 19)]
theorem lw_r1 : ∀ q ∈ lw_privs_1, lw_okq q := List.forall_mem_cons.mpr ⟨lw_p0, List.forall_mem_cons.mpr ⟨lw_p1, List.forall_mem_cons.mpr ⟨lw_p2, List.forall_mem_cons.mpr ⟨lw_p3, List.forall_mem_cons.mpr ⟨lw_p4, List.forall_mem_cons.mpr ⟨lw_p5, List.forall_mem_cons.mpr ⟨lw_p6, List.forall_mem_cons.mpr ⟨lw_p7, List.forall_mem_cons.mpr ⟨lw_p8, List.forall_mem_cons.mpr ⟨lw_p9, List.forall_mem_cons.mpr ⟨lw_p10, List.forall_mem_cons.mpr ⟨lw_p11, List.forall_mem_cons.mpr ⟨lw_p12, List.forall_mem_cons.mpr ⟨lw_p13, List.forall_mem_cons.mpr ⟨lw_p14, List.forall_mem_cons.mpr ⟨lw_p15, fun _ h => absurd h List.not_mem_nil⟩⟩⟩⟩⟩⟩⟩⟩⟩⟩⟩⟩⟩⟩⟩⟩
theorem lw_p16 : lw_okq (⟨"NineSails", "fastest", "(LNineSails$Scene;I)I"⟩, 19) := ⟨⟨by decide +kernel, by decide +kernel⟩, List.mem_of_getElem? (i := 17) (by decide +kernel), List.mem_of_getElem? (i := 474) (by decide +kernel), List.mem_of_getElem? (i := 475) (by decide +kernel)⟩
theorem lw_p17 : lw_okq (⟨"NineSails", "asUp", "(LNineSails$Scene;)I"⟩, 19) := ⟨⟨by decide +kernel, by decide +kernel⟩, List.mem_of_getElem? (i := 17) (by decide +kernel), List.mem_of_getElem? (i := 478) (by decide +kernel), List.mem_of_getElem? (i := 479) (by decide +kernel)⟩
theorem lw_p18 : lw_okq (⟨"NineSails", "worthiest", "(LNineSails$Rule;LNineSails$Scene;)I"⟩, 19) := ⟨⟨by decide +kernel, by decide +kernel⟩, List.mem_of_getElem? (i := 17) (by decide +kernel), List.mem_of_getElem? (i := 482) (by decide +kernel), List.mem_of_getElem? (i := 483) (by decide +kernel)⟩
theorem lw_p19 : lw_okq (⟨"NineSails", "asTold", "(LNineSails$Rule;LNineSails$Scene;I)I"⟩, 19) := ⟨⟨by decide +kernel, by decide +kernel⟩, List.mem_of_getElem? (i := 17) (by decide +kernel), List.mem_of_getElem? (i := 486) (by decide +kernel), List.mem_of_getElem? (i := 487) (by decide +kernel)⟩
theorem lw_p20 : lw_okq (⟨"NineSails", "milesBy", "(LNineSails$Scene;I)I"⟩, 19) := ⟨⟨by decide +kernel, by decide +kernel⟩, List.mem_of_getElem? (i := 17) (by decide +kernel), List.mem_of_getElem? (i := 497) (by decide +kernel), List.mem_of_getElem? (i := 498) (by decide +kernel)⟩
theorem lw_p21 : lw_okq (⟨"NineSails", "ahead", "(ILNineSails$Rule;II)J"⟩, 19) := ⟨⟨by decide +kernel, by decide +kernel⟩, List.mem_of_getElem? (i := 17) (by decide +kernel), List.mem_of_getElem? (i := 519) (by decide +kernel), List.mem_of_getElem? (i := 520) (by decide +kernel)⟩
theorem lw_p22 : lw_okq (⟨"NineSails", "usefulSails", "()I"⟩, 19) := ⟨⟨by decide +kernel, by decide +kernel⟩, List.mem_of_getElem? (i := 17) (by decide +kernel), List.mem_of_getElem? (i := 547) (by decide +kernel), List.mem_of_getElem? (i := 548) (by decide +kernel)⟩
theorem lw_p23 : lw_okq (⟨"NineSails", "bestWith", "(II)J"⟩, 19) := ⟨⟨by decide +kernel, by decide +kernel⟩, List.mem_of_getElem? (i := 17) (by decide +kernel), List.mem_of_getElem? (i := 572) (by decide +kernel), List.mem_of_getElem? (i := 573) (by decide +kernel)⟩
theorem lw_p24 : lw_okq (⟨"NineSails", "tapeOf", "(I)LNineSails$Tape;"⟩, 19) := ⟨⟨by decide +kernel, by decide +kernel⟩, List.mem_of_getElem? (i := 17) (by decide +kernel), List.mem_of_getElem? (i := 596) (by decide +kernel), List.mem_of_getElem? (i := 597) (by decide +kernel)⟩
theorem lw_p25 : lw_okq (⟨"NineSails", "perform", "(LNineSails$Rule;IIII)I"⟩, 19) := ⟨⟨by decide +kernel, by decide +kernel⟩, List.mem_of_getElem? (i := 17) (by decide +kernel), List.mem_of_getElem? (i := 613) (by decide +kernel), List.mem_of_getElem? (i := 614) (by decide +kernel)⟩
theorem lw_p26 : lw_okq (⟨"NineSailsModel", "in", "(III)Z"⟩, 69) := ⟨⟨by decide +kernel, by decide +kernel⟩, List.mem_of_getElem? (i := 664) (by decide +kernel), List.mem_of_getElem? (i := 883) (by decide +kernel), List.mem_of_getElem? (i := 884) (by decide +kernel)⟩
theorem lw_p27 : lw_okq (⟨"NineSailsModel", "isSail", "(I)Z"⟩, 69) := ⟨⟨by decide +kernel, by decide +kernel⟩, List.mem_of_getElem? (i := 664) (by decide +kernel), List.mem_of_getElem? (i := 891) (by decide +kernel), List.mem_of_getElem? (i := 892) (by decide +kernel)⟩
theorem lw_p28 : lw_okq (⟨"NineSailsModel", "has", "(II)Z"⟩, 69) := ⟨⟨by decide +kernel, by decide +kernel⟩, List.mem_of_getElem? (i := 664) (by decide +kernel), List.mem_of_getElem? (i := 895) (by decide +kernel), List.mem_of_getElem? (i := 896) (by decide +kernel)⟩
theorem lw_p29 : lw_okq (⟨"NineSailsModel", "mayBe", "(IIIII)Z"⟩, 69) := ⟨⟨by decide +kernel, by decide +kernel⟩, List.mem_of_getElem? (i := 664) (by decide +kernel), List.mem_of_getElem? (i := 903) (by decide +kernel), List.mem_of_getElem? (i := 904) (by decide +kernel)⟩
theorem lw_p30 : lw_okq (⟨"NineSailsModel", "goesText", "(I)Z"⟩, 69) := ⟨⟨by decide +kernel, by decide +kernel⟩, List.mem_of_getElem? (i := 664) (by decide +kernel), List.mem_of_getElem? (i := 927) (by decide +kernel), List.mem_of_getElem? (i := 928) (by decide +kernel)⟩
theorem lw_p31 : lw_okq (⟨"NineSailsModel", "takesClause", "(I)Z"⟩, 69) := ⟨⟨by decide +kernel, by decide +kernel⟩, List.mem_of_getElem? (i := 664) (by decide +kernel), List.mem_of_getElem? (i := 931) (by decide +kernel), List.mem_of_getElem? (i := 932) (by decide +kernel)⟩
def lw_privs_2 : List (MethodName × Nat) := [(⟨"NineSails", "fastest", "(LNineSails$Scene;I)I"⟩, 19), (⟨"NineSails", "asUp", "(LNineSails$Scene;)I"⟩, 19), (⟨"NineSails", "worthiest", "(LNineSails$Rule;LNineSails$Scene;)I"⟩, 19), (⟨"NineSails", "asTold", "(LNineSails$Rule;LNineSails$Scene;I)I"⟩, 19), (⟨"NineSails", "milesBy", "(LNineSails$Scene;I)I"⟩, 19), (⟨"NineSails", "ahead", "(ILNineSails$Rule;II)J"⟩, 19), (⟨"NineSails", "usefulSails", "()I"⟩, 19), (⟨"NineSails", "bestWith", "(II)J"⟩, 19), (⟨"NineSails", "tapeOf", "(I)LNineSails$Tape;"⟩, 19), (⟨"NineSails", "perform", "(LNineSails$Rule;IIII)I"⟩, 19), (⟨"NineSailsModel", "in", "(III)Z"⟩, 69), (⟨"NineSailsModel", "isSail", "(I)Z"⟩, 69), (⟨"NineSailsModel", "has", "(II)Z"⟩, 69), (⟨"NineSailsModel", "mayBe", "(IIIII)Z"⟩, 69), (⟨"NineSailsModel", "goesText", "(I)Z"⟩, 69), (⟨"NineSailsModel", "takesClause", "(I)Z"⟩, 69)]
theorem lw_r2 : ∀ q ∈ lw_privs_2, lw_okq q := List.forall_mem_cons.mpr ⟨lw_p16, List.forall_mem_cons.mpr ⟨lw_p17, List.forall_mem_cons.mpr ⟨lw_p18, List.forall_mem_cons.mpr ⟨lw_p19, List.forall_mem_cons.mpr ⟨lw_p20, List.forall_mem_cons.mpr ⟨lw_p21, List.forall_mem_cons.mpr ⟨lw_p22, List.forall_mem_cons.mpr ⟨lw_p23, List.forall_mem_cons.mpr ⟨lw_p24, List.forall_mem_cons.mpr ⟨lw_p25, List.forall_mem_cons.mpr ⟨lw_p26, List.forall_mem_cons.mpr ⟨lw_p27, List.forall_mem_cons.mpr ⟨lw_p28, List.forall_mem_cons.mpr ⟨lw_p29, List.forall_mem_cons.mpr ⟨lw_p30, List.forall_mem_cons.mpr ⟨lw_p31, fun _ h => absurd h List.not_mem_nil⟩⟩⟩⟩⟩⟩⟩⟩⟩⟩⟩⟩⟩⟩⟩⟩
theorem lw_p32 : lw_okq (⟨"NineSailsModel", "takesHead", "(I)Z"⟩, 69) := ⟨⟨by decide +kernel, by decide +kernel⟩, List.mem_of_getElem? (i := 664) (by decide +kernel), List.mem_of_getElem? (i := 935) (by decide +kernel), List.mem_of_getElem? (i := 936) (by decide +kernel)⟩
theorem lw_p33 : lw_okq (⟨"NineSailsModel", "next", "()I"⟩, 69) := ⟨⟨by decide +kernel, by decide +kernel⟩, List.mem_of_getElem? (i := 664) (by decide +kernel), List.mem_of_getElem? (i := 939) (by decide +kernel), List.mem_of_getElem? (i := 940) (by decide +kernel)⟩
theorem lw_p34 : lw_okq (⟨"NineSailsModel", "takesWord", "(II)Z"⟩, 69) := ⟨⟨by decide +kernel, by decide +kernel⟩, List.mem_of_getElem? (i := 664) (by decide +kernel), List.mem_of_getElem? (i := 943) (by decide +kernel), List.mem_of_getElem? (i := 944) (by decide +kernel)⟩
theorem lw_p35 : lw_okq (⟨"NineSailsModel", "takesSign", "(I)Z"⟩, 69) := ⟨⟨by decide +kernel, by decide +kernel⟩, List.mem_of_getElem? (i := 664) (by decide +kernel), List.mem_of_getElem? (i := 947) (by decide +kernel), List.mem_of_getElem? (i := 948) (by decide +kernel)⟩
theorem lw_p36 : lw_okq (⟨"NineSailsModel", "takesFigure", "(I)Z"⟩, 69) := ⟨⟨by decide +kernel, by decide +kernel⟩, List.mem_of_getElem? (i := 664) (by decide +kernel), List.mem_of_getElem? (i := 954) (by decide +kernel), List.mem_of_getElem? (i := 955) (by decide +kernel)⟩
theorem lw_p37 : lw_okq (⟨"NineSailsModel", "takesNumber", "()Z"⟩, 69) := ⟨⟨by decide +kernel, by decide +kernel⟩, List.mem_of_getElem? (i := 664) (by decide +kernel), List.mem_of_getElem? (i := 958) (by decide +kernel), List.mem_of_getElem? (i := 959) (by decide +kernel)⟩
theorem lw_p38 : lw_okq (⟨"NineSailsModel", "isDigit", "()Z"⟩, 69) := ⟨⟨by decide +kernel, by decide +kernel⟩, List.mem_of_getElem? (i := 664) (by decide +kernel), List.mem_of_getElem? (i := 962) (by decide +kernel), List.mem_of_getElem? (i := 963) (by decide +kernel)⟩
theorem lw_p39 : lw_okq (⟨"NineSailsModel", "takesE", "(I)Z"⟩, 69) := ⟨⟨by decide +kernel, by decide +kernel⟩, List.mem_of_getElem? (i := 664) (by decide +kernel), List.mem_of_getElem? (i := 966) (by decide +kernel), List.mem_of_getElem? (i := 967) (by decide +kernel)⟩
theorem lw_p40 : lw_okq (⟨"NineSailsModel", "takesTest", "()Z"⟩, 69) := ⟨⟨by decide +kernel, by decide +kernel⟩, List.mem_of_getElem? (i := 664) (by decide +kernel), List.mem_of_getElem? (i := 970) (by decide +kernel), List.mem_of_getElem? (i := 971) (by decide +kernel)⟩
theorem lw_p41 : lw_okq (⟨"NineSailsModel", "place", "(I)I"⟩, 69) := ⟨⟨by decide +kernel, by decide +kernel⟩, List.mem_of_getElem? (i := 664) (by decide +kernel), List.mem_of_getElem? (i := 974) (by decide +kernel), List.mem_of_getElem? (i := 975) (by decide +kernel)⟩
theorem lw_p42 : lw_okq (⟨"NineSailsModel", "put", "(I)V"⟩, 69) := ⟨⟨by decide +kernel, by decide +kernel⟩, List.mem_of_getElem? (i := 664) (by decide +kernel), List.mem_of_getElem? (i := 978) (by decide +kernel), List.mem_of_getElem? (i := 979) (by decide +kernel)⟩
theorem lw_p43 : lw_okq (⟨"NineSailsModel", "settleNots", "()V"⟩, 69) := ⟨⟨by decide +kernel, by decide +kernel⟩, List.mem_of_getElem? (i := 664) (by decide +kernel), List.mem_of_getElem? (i := 982) (by decide +kernel), List.mem_of_getElem? (i := 983) (by decide +kernel)⟩
theorem lw_p44 : lw_okq (⟨"NineSailsModel", "settle", "(I)V"⟩, 69) := ⟨⟨by decide +kernel, by decide +kernel⟩, List.mem_of_getElem? (i := 664) (by decide +kernel), List.mem_of_getElem? (i := 986) (by decide +kernel), List.mem_of_getElem? (i := 987) (by decide +kernel)⟩
theorem lw_p45 : lw_okq (⟨"NineSailsModel", "isWind", "(I)Z"⟩, 69) := ⟨⟨by decide +kernel, by decide +kernel⟩, List.mem_of_getElem? (i := 664) (by decide +kernel), List.mem_of_getElem? (i := 994) (by decide +kernel), List.mem_of_getElem? (i := 995) (by decide +kernel)⟩
theorem lw_p46 : lw_okq (⟨"NineSailsModel", "sumOf", "(IIII)I"⟩, 69) := ⟨⟨by decide +kernel, by decide +kernel⟩, List.mem_of_getElem? (i := 664) (by decide +kernel), List.mem_of_getElem? (i := 998) (by decide +kernel), List.mem_of_getElem? (i := 999) (by decide +kernel)⟩
theorem lw_p47 : lw_okq (⟨"NineSailsModel", "first", "()I"⟩, 69) := ⟨⟨by decide +kernel, by decide +kernel⟩, List.mem_of_getElem? (i := 664) (by decide +kernel), List.mem_of_getElem? (i := 1002) (by decide +kernel), List.mem_of_getElem? (i := 1003) (by decide +kernel)⟩
def lw_privs_3 : List (MethodName × Nat) := [(⟨"NineSailsModel", "takesHead", "(I)Z"⟩, 69), (⟨"NineSailsModel", "next", "()I"⟩, 69), (⟨"NineSailsModel", "takesWord", "(II)Z"⟩, 69), (⟨"NineSailsModel", "takesSign", "(I)Z"⟩, 69), (⟨"NineSailsModel", "takesFigure", "(I)Z"⟩, 69), (⟨"NineSailsModel", "takesNumber", "()Z"⟩, 69), (⟨"NineSailsModel", "isDigit", "()Z"⟩, 69), (⟨"NineSailsModel", "takesE", "(I)Z"⟩, 69), (⟨"NineSailsModel", "takesTest", "()Z"⟩, 69), (⟨"NineSailsModel", "place", "(I)I"⟩, 69), (⟨"NineSailsModel", "put", "(I)V"⟩, 69), (⟨"NineSailsModel", "settleNots", "()V"⟩, 69), (⟨"NineSailsModel", "settle", "(I)V"⟩, 69), (⟨"NineSailsModel", "isWind", "(I)Z"⟩, 69), (⟨"NineSailsModel", "sumOf", "(IIII)I"⟩, 69), (⟨"NineSailsModel", "first", "()I"⟩, 69)]
theorem lw_r3 : ∀ q ∈ lw_privs_3, lw_okq q := List.forall_mem_cons.mpr ⟨lw_p32, List.forall_mem_cons.mpr ⟨lw_p33, List.forall_mem_cons.mpr ⟨lw_p34, List.forall_mem_cons.mpr ⟨lw_p35, List.forall_mem_cons.mpr ⟨lw_p36, List.forall_mem_cons.mpr ⟨lw_p37, List.forall_mem_cons.mpr ⟨lw_p38, List.forall_mem_cons.mpr ⟨lw_p39, List.forall_mem_cons.mpr ⟨lw_p40, List.forall_mem_cons.mpr ⟨lw_p41, List.forall_mem_cons.mpr ⟨lw_p42, List.forall_mem_cons.mpr ⟨lw_p43, List.forall_mem_cons.mpr ⟨lw_p44, List.forall_mem_cons.mpr ⟨lw_p45, List.forall_mem_cons.mpr ⟨lw_p46, List.forall_mem_cons.mpr ⟨lw_p47, fun _ h => absurd h List.not_mem_nil⟩⟩⟩⟩⟩⟩⟩⟩⟩⟩⟩⟩⟩⟩⟩⟩
theorem lw_p48 : lw_okq (⟨"NineSailsModel", "behind", "()I"⟩, 69) := ⟨⟨by decide +kernel, by decide +kernel⟩, List.mem_of_getElem? (i := 664) (by decide +kernel), List.mem_of_getElem? (i := 1006) (by decide +kernel), List.mem_of_getElem? (i := 1007) (by decide +kernel)⟩
theorem lw_p49 : lw_okq (⟨"NineSailsModel", "holds", "(IIII)Z"⟩, 69) := ⟨⟨by decide +kernel, by decide +kernel⟩, List.mem_of_getElem? (i := 664) (by decide +kernel), List.mem_of_getElem? (i := 1010) (by decide +kernel), List.mem_of_getElem? (i := 1011) (by decide +kernel)⟩
theorem lw_p50 : lw_okq (⟨"NineSailsModel", "layFollows", "()V"⟩, 69) := ⟨⟨by decide +kernel, by decide +kernel⟩, List.mem_of_getElem? (i := 664) (by decide +kernel), List.mem_of_getElem? (i := 1018) (by decide +kernel), List.mem_of_getElem? (i := 1019) (by decide +kernel)⟩
theorem lw_p51 : lw_okq (⟨"NineSailsModel", "last", "(II)I"⟩, 69) := ⟨⟨by decide +kernel, by decide +kernel⟩, List.mem_of_getElem? (i := 664) (by decide +kernel), List.mem_of_getElem? (i := 1022) (by decide +kernel), List.mem_of_getElem? (i := 1023) (by decide +kernel)⟩
theorem lw_p52 : lw_okq (⟨"NineSailsModel", "isRule", "(I)Z"⟩, 69) := ⟨⟨by decide +kernel, by decide +kernel⟩, List.mem_of_getElem? (i := 664) (by decide +kernel), List.mem_of_getElem? (i := 1034) (by decide +kernel), List.mem_of_getElem? (i := 1035) (by decide +kernel)⟩
theorem lw_p53 : lw_okq (⟨"NineSailsModel", "asIs", "()V"⟩, 69) := ⟨⟨by decide +kernel, by decide +kernel⟩, List.mem_of_getElem? (i := 664) (by decide +kernel), List.mem_of_getElem? (i := 1046) (by decide +kernel), List.mem_of_getElem? (i := 1047) (by decide +kernel)⟩
theorem lw_p54 : lw_okq (⟨"NineSailsModel", "pickOf", "(IIIII)I"⟩, 69) := ⟨⟨by decide +kernel, by decide +kernel⟩, List.mem_of_getElem? (i := 664) (by decide +kernel), List.mem_of_getElem? (i := 1050) (by decide +kernel), List.mem_of_getElem? (i := 1051) (by decide +kernel)⟩
theorem lw_p55 : lw_okq (⟨"NineSailsModel", "plain", "(II)I"⟩, 69) := ⟨⟨by decide +kernel, by decide +kernel⟩, List.mem_of_getElem? (i := 664) (by decide +kernel), List.mem_of_getElem? (i := 1054) (by decide +kernel), List.mem_of_getElem? (i := 1055) (by decide +kernel)⟩
theorem lw_p56 : lw_okq (⟨"NineSailsModel", "may", "(III)Z"⟩, 69) := ⟨⟨by decide +kernel, by decide +kernel⟩, List.mem_of_getElem? (i := 664) (by decide +kernel), List.mem_of_getElem? (i := 1058) (by decide +kernel), List.mem_of_getElem? (i := 1059) (by decide +kernel)⟩
theorem lw_p57 : lw_okq (⟨"NineSailsModel", "fastest", "(IIII)I"⟩, 69) := ⟨⟨by decide +kernel, by decide +kernel⟩, List.mem_of_getElem? (i := 664) (by decide +kernel), List.mem_of_getElem? (i := 1062) (by decide +kernel), List.mem_of_getElem? (i := 1063) (by decide +kernel)⟩
theorem lw_p58 : lw_okq (⟨"NineSailsModel", "dearest", "(IIIII)I"⟩, 69) := ⟨⟨by decide +kernel, by decide +kernel⟩, List.mem_of_getElem? (i := 664) (by decide +kernel), List.mem_of_getElem? (i := 1066) (by decide +kernel), List.mem_of_getElem? (i := 1067) (by decide +kernel)⟩
theorem lw_p59 : lw_okq (⟨"NineSailsModel", "milesOf", "(IIII)I"⟩, 69) := ⟨⟨by decide +kernel, by decide +kernel⟩, List.mem_of_getElem? (i := 664) (by decide +kernel), List.mem_of_getElem? (i := 1074) (by decide +kernel), List.mem_of_getElem? (i := 1075) (by decide +kernel)⟩
theorem lw_p60 : lw_okq (⟨"NineSailsModel", "isHours", "(I)Z"⟩, 69) := ⟨⟨by decide +kernel, by decide +kernel⟩, List.mem_of_getElem? (i := 664) (by decide +kernel), List.mem_of_getElem? (i := 1082) (by decide +kernel), List.mem_of_getElem? (i := 1083) (by decide +kernel)⟩
theorem lw_p61 : lw_okq (⟨"NineSailsModel", "goAll", "(IIIII)V"⟩, 69) := ⟨⟨by decide +kernel, by decide +kernel⟩, List.mem_of_getElem? (i := 664) (by decide +kernel), List.mem_of_getElem? (i := 1087) (by decide +kernel), List.mem_of_getElem? (i := 1088) (by decide +kernel)⟩
theorem lw_p62 : lw_okq (⟨"NineSailsModel", "enter", "(III)V"⟩, 69) := ⟨⟨by decide +kernel, by decide +kernel⟩, List.mem_of_getElem? (i := 664) (by decide +kernel), List.mem_of_getElem? (i := 1093) (by decide +kernel), List.mem_of_getElem? (i := 1094) (by decide +kernel)⟩
theorem lw_p63 : lw_okq (⟨"NineSailsModel", "lowest", "(JI)J"⟩, 69) := ⟨⟨by decide +kernel, by decide +kernel⟩, List.mem_of_getElem? (i := 664) (by decide +kernel), List.mem_of_getElem? (i := 1097) (by decide +kernel), List.mem_of_getElem? (i := 1098) (by decide +kernel)⟩
def lw_privs_4 : List (MethodName × Nat) := [(⟨"NineSailsModel", "behind", "()I"⟩, 69), (⟨"NineSailsModel", "holds", "(IIII)Z"⟩, 69), (⟨"NineSailsModel", "layFollows", "()V"⟩, 69), (⟨"NineSailsModel", "last", "(II)I"⟩, 69), (⟨"NineSailsModel", "isRule", "(I)Z"⟩, 69), (⟨"NineSailsModel", "asIs", "()V"⟩, 69), (⟨"NineSailsModel", "pickOf", "(IIIII)I"⟩, 69), (⟨"NineSailsModel", "plain", "(II)I"⟩, 69), (⟨"NineSailsModel", "may", "(III)Z"⟩, 69), (⟨"NineSailsModel", "fastest", "(IIII)I"⟩, 69), (⟨"NineSailsModel", "dearest", "(IIIII)I"⟩, 69), (⟨"NineSailsModel", "milesOf", "(IIII)I"⟩, 69), (⟨"NineSailsModel", "isHours", "(I)Z"⟩, 69), (⟨"NineSailsModel", "goAll", "(IIIII)V"⟩, 69), (⟨"NineSailsModel", "enter", "(III)V"⟩, 69), (⟨"NineSailsModel", "lowest", "(JI)J"⟩, 69)]
theorem lw_r4 : ∀ q ∈ lw_privs_4, lw_okq q := List.forall_mem_cons.mpr ⟨lw_p48, List.forall_mem_cons.mpr ⟨lw_p49, List.forall_mem_cons.mpr ⟨lw_p50, List.forall_mem_cons.mpr ⟨lw_p51, List.forall_mem_cons.mpr ⟨lw_p52, List.forall_mem_cons.mpr ⟨lw_p53, List.forall_mem_cons.mpr ⟨lw_p54, List.forall_mem_cons.mpr ⟨lw_p55, List.forall_mem_cons.mpr ⟨lw_p56, List.forall_mem_cons.mpr ⟨lw_p57, List.forall_mem_cons.mpr ⟨lw_p58, List.forall_mem_cons.mpr ⟨lw_p59, List.forall_mem_cons.mpr ⟨lw_p60, List.forall_mem_cons.mpr ⟨lw_p61, List.forall_mem_cons.mpr ⟨lw_p62, List.forall_mem_cons.mpr ⟨lw_p63, fun _ h => absurd h List.not_mem_nil⟩⟩⟩⟩⟩⟩⟩⟩⟩⟩⟩⟩⟩⟩⟩⟩
theorem lw_p64 : lw_okq (⟨"NineSailsModel", "divisor", "(JJ)J"⟩, 69) := ⟨⟨by decide +kernel, by decide +kernel⟩, List.mem_of_getElem? (i := 664) (by decide +kernel), List.mem_of_getElem? (i := 1101) (by decide +kernel), List.mem_of_getElem? (i := 1102) (by decide +kernel)⟩
theorem lw_p65 : lw_okq (⟨"NineSailsModel", "ones", "(I)I"⟩, 69) := ⟨⟨by decide +kernel, by decide +kernel⟩, List.mem_of_getElem? (i := 664) (by decide +kernel), List.mem_of_getElem? (i := 1117) (by decide +kernel), List.mem_of_getElem? (i := 1118) (by decide +kernel)⟩
theorem lw_p66 : lw_okq (⟨"NineSailsModel", "isTape", "(I)Z"⟩, 69) := ⟨⟨by decide +kernel, by decide +kernel⟩, List.mem_of_getElem? (i := 664) (by decide +kernel), List.mem_of_getElem? (i := 1149) (by decide +kernel), List.mem_of_getElem? (i := 1150) (by decide +kernel)⟩
theorem lw_p67 : lw_okq (⟨"NineSailsModel", "picksAct", "(II)I"⟩, 69) := ⟨⟨by decide +kernel, by decide +kernel⟩, List.mem_of_getElem? (i := 664) (by decide +kernel), List.mem_of_getElem? (i := 1165) (by decide +kernel), List.mem_of_getElem? (i := 1166) (by decide +kernel)⟩
theorem lw_p68 : lw_okq (⟨"NineSailsModel", "body", "(I)V"⟩, 69) := ⟨⟨by decide +kernel, by decide +kernel⟩, List.mem_of_getElem? (i := 664) (by decide +kernel), List.mem_of_getElem? (i := 1169) (by decide +kernel), List.mem_of_getElem? (i := 1170) (by decide +kernel)⟩
theorem lw_p69 : lw_okq (⟨"NineSailsModel", "plainPicks", "(II)I"⟩, 69) := ⟨⟨by decide +kernel, by decide +kernel⟩, List.mem_of_getElem? (i := 664) (by decide +kernel), List.mem_of_getElem? (i := 1173) (by decide +kernel), List.mem_of_getElem? (i := 1174) (by decide +kernel)⟩
theorem lw_p70 : lw_okq (⟨"NineSailsModel", "reefsAct", "(II)I"⟩, 69) := ⟨⟨by decide +kernel, by decide +kernel⟩, List.mem_of_getElem? (i := 664) (by decide +kernel), List.mem_of_getElem? (i := 1177) (by decide +kernel), List.mem_of_getElem? (i := 1178) (by decide +kernel)⟩
theorem lw_p71 : lw_okq (⟨"NineSailsModel", "tableReefs", "(II)I"⟩, 69) := ⟨⟨by decide +kernel, by decide +kernel⟩, List.mem_of_getElem? (i := 664) (by decide +kernel), List.mem_of_getElem? (i := 1181) (by decide +kernel), List.mem_of_getElem? (i := 1182) (by decide +kernel)⟩
theorem lw_p72 : lw_okq (⟨"NineSailsModel", "plainReefs", "(II)I"⟩, 69) := ⟨⟨by decide +kernel, by decide +kernel⟩, List.mem_of_getElem? (i := 664) (by decide +kernel), List.mem_of_getElem? (i := 1185) (by decide +kernel), List.mem_of_getElem? (i := 1186) (by decide +kernel)⟩
theorem lw_p73 : lw_okq (⟨"NineSailsModel", "tellsAct", "(II)I"⟩, 69) := ⟨⟨by decide +kernel, by decide +kernel⟩, List.mem_of_getElem? (i := 664) (by decide +kernel), List.mem_of_getElem? (i := 1189) (by decide +kernel), List.mem_of_getElem? (i := 1190) (by decide +kernel)⟩
theorem lw_p74 : lw_okq (⟨"NineSailsModel", "plainTells", "(II)I"⟩, 69) := ⟨⟨by decide +kernel, by decide +kernel⟩, List.mem_of_getElem? (i := 664) (by decide +kernel), List.mem_of_getElem? (i := 1193) (by decide +kernel), List.mem_of_getElem? (i := 1194) (by decide +kernel)⟩
theorem lw_p75 : lw_okq (⟨"NineSailsModel", "narrow", "(IJ)J"⟩, 69) := ⟨⟨by decide +kernel, by decide +kernel⟩, List.mem_of_getElem? (i := 664) (by decide +kernel), List.mem_of_getElem? (i := 1217) (by decide +kernel), List.mem_of_getElem? (i := 1218) (by decide +kernel)⟩
def lw_privs_5 : List (MethodName × Nat) := [(⟨"NineSailsModel", "divisor", "(JJ)J"⟩, 69), (⟨"NineSailsModel", "ones", "(I)I"⟩, 69), (⟨"NineSailsModel", "isTape", "(I)Z"⟩, 69), (⟨"NineSailsModel", "picksAct", "(II)I"⟩, 69), (⟨"NineSailsModel", "body", "(I)V"⟩, 69), (⟨"NineSailsModel", "plainPicks", "(II)I"⟩, 69), (⟨"NineSailsModel", "reefsAct", "(II)I"⟩, 69), (⟨"NineSailsModel", "tableReefs", "(II)I"⟩, 69), (⟨"NineSailsModel", "plainReefs", "(II)I"⟩, 69), (⟨"NineSailsModel", "tellsAct", "(II)I"⟩, 69), (⟨"NineSailsModel", "plainTells", "(II)I"⟩, 69), (⟨"NineSailsModel", "narrow", "(IJ)J"⟩, 69)]
theorem lw_r5 : ∀ q ∈ lw_privs_5, lw_okq q := List.forall_mem_cons.mpr ⟨lw_p64, List.forall_mem_cons.mpr ⟨lw_p65, List.forall_mem_cons.mpr ⟨lw_p66, List.forall_mem_cons.mpr ⟨lw_p67, List.forall_mem_cons.mpr ⟨lw_p68, List.forall_mem_cons.mpr ⟨lw_p69, List.forall_mem_cons.mpr ⟨lw_p70, List.forall_mem_cons.mpr ⟨lw_p71, List.forall_mem_cons.mpr ⟨lw_p72, List.forall_mem_cons.mpr ⟨lw_p73, List.forall_mem_cons.mpr ⟨lw_p74, List.forall_mem_cons.mpr ⟨lw_p75, fun _ h => absurd h List.not_mem_nil⟩⟩⟩⟩⟩⟩⟩⟩⟩⟩⟩⟩
def lw_privs : List (MethodName × Nat) := lw_privs_1 ++ (lw_privs_2 ++ (lw_privs_3 ++ (lw_privs_4 ++ (lw_privs_5))))
def lw_tbl : List Cond := k2_sels lw_privs ++ tables_1
theorem lw_privs_ok : ∀ q ∈ lw_privs, lw_okq q := by
  show ∀ q ∈ lw_privs_1 ++ (lw_privs_2 ++ (lw_privs_3 ++ (lw_privs_4 ++ (lw_privs_5)))), lw_okq q
  exact List.forall_mem_append.mpr ⟨lw_r1, List.forall_mem_append.mpr ⟨lw_r2, List.forall_mem_append.mpr ⟨lw_r3, List.forall_mem_append.mpr ⟨lw_r4, lw_r5⟩⟩⟩⟩
def RX0 : String := "NineSails$Race"
def TX0 : u_T := fun k => match k with
  | 0 => ("NineSails$Race", "clauses", "I", false)
  | 1 => ("NineSails$Race", "words", "[I", true)
  | 2 => ("NineSails$Race", "numbers", "[I", true)
  | 3 => ("NineSails$Race", "pairs", "[I", true)
  | 4 => ("NineSails$Race", "ends", "[I", true)
  | 5 => ("NineSails$Race", "codes", "[I", true)
  | 6 => ("NineSails$Race", "codeCount", "I", false)
  | 7 => ("NineSails$Race", "loss", "I", false)
  | _ => ("NineSails$Race", "odds", "[I", true)
def tyX0 : Nat → FieldType := fun k => match k with
  | 0 => .int
  | 1 => .array .int
  | 2 => .array .int
  | 3 => .array .int
  | 4 => .array .int
  | 5 => .array .int
  | 6 => .int
  | 7 => .int
  | _ => .array .int
abbrev wsX00 : List Cond := u_ws RX0 TX0 9
theorem nmX0 : ∀ a, a < 9 → ∀ b, b < 9 → a ≠ b → (TX0 a).2.1 ≠ (TX0 b).2.1 := by decide +kernel
theorem tyX0_ok : ∀ k, k < 9 → parseFieldDescriptor (TX0 k).2.2.1 = some (tyX0 k) := by decide +kernel
abbrev cX0_init : ByteArray := prog_2_method_1_code
def yX0_init : MethodName := ⟨RX0, "<init>", "()V"⟩
abbrev cX0_clear : ByteArray := prog_2_method_2_code
def yX0_clear : MethodName := ⟨RX0, "clear", "()V"⟩
abbrev cX0_put : ByteArray := prog_2_method_3_code
def yX0_put : MethodName := ⟨RX0, "put", "(I)V"⟩
abbrev cX0_close : ByteArray := prog_2_method_4_code
def yX0_close : MethodName := ⟨RX0, "close", "(III)V"⟩
abbrev cX0_settle : ByteArray := prog_2_method_5_code
def yX0_settle : MethodName := ⟨RX0, "settle", "()V"⟩
abbrev cX0_last : ByteArray := prog_2_method_6_code
def yX0_last : MethodName := ⟨RX0, "last", "(II)I"⟩
abbrev cX0_total : ByteArray := prog_2_method_7_code
def yX0_total : MethodName := ⟨RX0, "total", "(IIIII)I"⟩
def RX1 : String := "NineSails$Reader"
def TX1 : u_T := fun k => match k with
  | 0 => ("NineSails$Reader", "text", "[I", true)
  | 1 => ("NineSails$Reader", "length", "I", false)
  | 2 => ("NineSails$Reader", "place", "I", false)
  | 3 => ("NineSails$Reader", "number", "I", false)
  | _ => ("NineSails$Reader", "race", "LNineSails$Race;", false)
def tyX1 : Nat → FieldType := fun k => match k with
  | 0 => .array .int
  | 1 => .int
  | 2 => .int
  | 3 => .int
  | _ => .object "NineSails$Race"
abbrev wsX10 : List Cond := u_ws RX1 TX1 5
theorem nmX1 : ∀ a, a < 5 → ∀ b, b < 5 → a ≠ b → (TX1 a).2.1 ≠ (TX1 b).2.1 := by decide +kernel
theorem tyX1_ok : ∀ k, k < 5 → parseFieldDescriptor (TX1 k).2.2.1 = some (tyX1 k) := by decide +kernel
abbrev cX1_init : ByteArray := prog_3_method_1_code
def yX1_init : MethodName := ⟨RX1, "<init>", "()V"⟩
abbrev cX1_take : ByteArray := prog_3_method_2_code
def yX1_take : MethodName := ⟨RX1, "take", "(I)V"⟩
abbrev cX1_fault : ByteArray := prog_3_method_3_code
def yX1_fault : MethodName := ⟨RX1, "fault", "(LNineSails$Race;)I"⟩
abbrev cX1_readClause : ByteArray := prog_3_method_4_code
def yX1_readClause : MethodName := ⟨RX1, "readClause", "()Z"⟩
abbrev cX1_wordBegun : ByteArray := prog_3_method_5_code
def yX1_wordBegun : MethodName := ⟨RX1, "wordBegun", "()I"⟩
abbrev cX1_wordOf : ByteArray := prog_3_method_6_code
def yX1_wordOf : MethodName := ⟨RX1, "wordOf", "(I)Ljava/lang/String;"⟩
abbrev cX1_readEither : ByteArray := prog_3_method_7_code
def yX1_readEither : MethodName := ⟨RX1, "readEither", "(I)Z"⟩
abbrev cX1_readFactor : ByteArray := prog_3_method_8_code
def yX1_readFactor : MethodName := ⟨RX1, "readFactor", "(I)Z"⟩
abbrev cX1_readTest : ByteArray := prog_3_method_9_code
def yX1_readTest : MethodName := ⟨RX1, "readTest", "()Z"⟩
abbrev cX1_sign : ByteArray := prog_3_method_10_code
def yX1_sign : MethodName := ⟨RX1, "sign", "()I"⟩
abbrev cX1_pass : ByteArray := prog_3_method_11_code
def yX1_pass : MethodName := ⟨RX1, "pass", "(I)Z"⟩
abbrev cX1_passWord : ByteArray := prog_3_method_12_code
def yX1_passWord : MethodName := ⟨RX1, "passWord", "(Ljava/lang/String;)Z"⟩
abbrev cX1_whichOf : ByteArray := prog_3_method_13_code
def yX1_whichOf : MethodName := ⟨RX1, "whichOf", "(IIIII)I"⟩
abbrev cX1_passWindFigure : ByteArray := prog_3_method_14_code
def yX1_passWindFigure : MethodName := ⟨RX1, "passWindFigure", "()Z"⟩
abbrev cX1_passNumber : ByteArray := prog_3_method_15_code
def yX1_passNumber : MethodName := ⟨RX1, "passNumber", "()Z"⟩
def RX2 : String := "NineSails$Rule"
def TX2 : u_T := fun k => match k with
  | 0 => ("NineSails$Rule", "number", "I", true)
  | 1 => ("NineSails$Rule", "kind", "I", true)
  | 2 => ("NineSails$Rule", "v", "I", false)
  | 3 => ("NineSails$Rule", "lines", "[I", true)
  | _ => ("NineSails$Rule", "row", "[I", true)
def tyX2 : Nat → FieldType := fun k => match k with
  | 0 => .int
  | 1 => .int
  | 2 => .int
  | 3 => .array .int
  | _ => .array .int
abbrev wsX20 : List Cond := u_ws RX2 TX2 5
theorem nmX2 : ∀ a, a < 5 → ∀ b, b < 5 → a ≠ b → (TX2 a).2.1 ≠ (TX2 b).2.1 := by decide +kernel
theorem tyX2_ok : ∀ k, k < 5 → parseFieldDescriptor (TX2 k).2.2.1 = some (tyX2 k) := by decide +kernel
abbrev cX2_init : ByteArray := prog_4_method_1_code
def yX2_init : MethodName := ⟨RX2, "<init>", "(III)V"⟩
def RX3 : String := "NineSails$Scene"
def TX3 : u_T := fun k => match k with
  | 0 => ("NineSails$Scene", "up", "I", false)
  | 1 => ("NineSails$Scene", "wind", "I", false)
  | 2 => ("NineSails$Scene", "hour", "I", false)
  | 3 => ("NineSails$Scene", "miles", "I", false)
  | 4 => ("NineSails$Scene", "hands", "I", false)
  | 5 => ("NineSails$Scene", "sails", "I", false)
  | 6 => ("NineSails$Scene", "whole", "I", false)
  | 7 => ("NineSails$Scene", "aboard", "I", false)
  | 8 => ("NineSails$Scene", "race", "I", false)
  | 9 => ("NineSails$Scene", "gusts", "I", false)
  | _ => ("NineSails$Scene", "squall", "[I", true)
def tyX3 : Nat → FieldType := fun k => match k with
  | 0 => .int
  | 1 => .int
  | 2 => .int
  | 3 => .int
  | 4 => .int
  | 5 => .int
  | 6 => .int
  | 7 => .int
  | 8 => .int
  | 9 => .int
  | _ => .array .int
abbrev wsX30 : List Cond := u_ws RX3 TX3 11
theorem nmX3 : ∀ a, a < 11 → ∀ b, b < 11 → a ≠ b → (TX3 a).2.1 ≠ (TX3 b).2.1 := by decide +kernel
theorem tyX3_ok : ∀ k, k < 11 → parseFieldDescriptor (TX3 k).2.2.1 = some (tyX3 k) := by decide +kernel
abbrev cX3_init : ByteArray := prog_5_method_1_code
def yX3_init : MethodName := ⟨RX3, "<init>", "()V"⟩
abbrev cX3_become : ByteArray := prog_5_method_2_code
def yX3_become : MethodName := ⟨RX3, "become", "(LNineSails$Scene;)V"⟩
def RX4 : String := "NineSails$Tape"
def TX4 : u_T := fun k => match k with
  | 0 => ("NineSails$Tape", "sort", "I", false)
  | 1 => ("NineSails$Tape", "length", "I", false)
  | _ => ("NineSails$Tape", "items", "[J", true)
def tyX4 : Nat → FieldType := fun k => match k with
  | 0 => .int
  | 1 => .int
  | _ => .array .long
abbrev wsX40 : List Cond := u_ws RX4 TX4 3
theorem nmX4 : ∀ a, a < 3 → ∀ b, b < 3 → a ≠ b → (TX4 a).2.1 ≠ (TX4 b).2.1 := by decide +kernel
theorem tyX4_ok : ∀ k, k < 3 → parseFieldDescriptor (TX4 k).2.2.1 = some (tyX4 k) := by decide +kernel
abbrev cX4_init : ByteArray := prog_6_method_1_code
def yX4_init : MethodName := ⟨RX4, "<init>", "()V"⟩
abbrev cX4_begin : ByteArray := prog_6_method_2_code
def yX4_begin : MethodName := ⟨RX4, "begin", "(II)V"⟩
abbrev cX4_fitted : ByteArray := prog_6_method_3_code
def yX4_fitted : MethodName := ⟨RX4, "fitted", "(J)J"⟩
abbrev cX4_reaches : ByteArray := prog_6_method_4_code
def yX4_reaches : MethodName := ⟨RX4, "reaches", "(II)Z"⟩
def RX5 : String := "NineSails"
def TX5 : u_T := fun k => match k with
  | 0 => ("NineSails", "now", "LNineSails$Scene;", true)
  | 1 => ("NineSails", "kept", "LNineSails$Scene;", true)
  | 2 => ("NineSails", "trial", "LNineSails$Scene;", true)
  | 3 => ("NineSails", "imaged", "Z", false)
  | 4 => ("NineSails", "weights", "[I", true)
  | 5 => ("NineSails", "needs", "[I", true)
  | 6 => ("NineSails", "reader", "LNineSails$Reader;", true)
  | 7 => ("NineSails", "races", "[LNineSails$Race;", true)
  | 8 => ("NineSails", "calm", "LNineSails$Race;", true)
  | 9 => ("NineSails", "raceCount", "I", false)
  | 10 => ("NineSails", "paces", "[I", true)
  | 11 => ("NineSails", "rules", "[LNineSails$Rule;", true)
  | 12 => ("NineSails", "ruleCount", "I", false)
  | 13 => ("NineSails", "anyHold", "LNineSails$Rule;", true)
  | 14 => ("NineSails", "anyWatch", "LNineSails$Rule;", true)
  | 15 => ("NineSails", "bestRow", "[I", true)
  | 16 => ("NineSails", "tapes", "[LNineSails$Tape;", true)
  | 17 => ("NineSails", "bodies", "[I", true)
  | _ => ("NineSails", "bodyCount", "I", false)
def tyX5 : Nat → FieldType := fun k => match k with
  | 0 => .object "NineSails$Scene"
  | 1 => .object "NineSails$Scene"
  | 2 => .object "NineSails$Scene"
  | 3 => .boolean
  | 4 => .array .int
  | 5 => .array .int
  | 6 => .object "NineSails$Reader"
  | 7 => .array (.object "NineSails$Race")
  | 8 => .object "NineSails$Race"
  | 9 => .int
  | 10 => .array .int
  | 11 => .array (.object "NineSails$Rule")
  | 12 => .int
  | 13 => .object "NineSails$Rule"
  | 14 => .object "NineSails$Rule"
  | 15 => .array .int
  | 16 => .array (.object "NineSails$Tape")
  | 17 => .array .int
  | _ => .int
abbrev wsX50 : List Cond := u_ws RX5 TX5 19
theorem nmX5 : ∀ a, a < 19 → ∀ b, b < 19 → a ≠ b → (TX5 a).2.1 ≠ (TX5 b).2.1 := by decide +kernel
theorem tyX5_ok : ∀ k, k < 19 → parseFieldDescriptor (TX5 k).2.2.1 = some (tyX5 k) := by decide +kernel
abbrev cX5_init : ByteArray := prog_1_method_1_code
def yX5_init : MethodName := ⟨RX5, "<init>", "()V"⟩
abbrev cX5_sail : ByteArray := prog_1_method_2_code
def yX5_sail : MethodName := ⟨RX5, "sail", "(II)I"⟩
abbrev cX5_make : ByteArray := prog_1_method_3_code
def yX5_make : MethodName := ⟨RX5, "make", "(IIZ)I"⟩
abbrev cX5_of : ByteArray := prog_1_method_4_code
def yX5_of : MethodName := ⟨RX5, "of", "(II)I"⟩
abbrev cX5_set : ByteArray := prog_1_method_5_code
def yX5_set : MethodName := ⟨RX5, "set", "(II)I"⟩
abbrev cX5_hoist : ByteArray := prog_1_method_6_code
def yX5_hoist : MethodName := ⟨RX5, "hoist", "(I)I"⟩
abbrev cX5_ship : ByteArray := prog_1_method_7_code
def yX5_ship : MethodName := ⟨RX5, "ship", "(I)I"⟩
abbrev cX5_feed : ByteArray := prog_1_method_8_code
def yX5_feed : MethodName := ⟨RX5, "feed", "(II)I"⟩
abbrev cX5_race : ByteArray := prog_1_method_9_code
def yX5_race : MethodName := ⟨RX5, "race", "()I"⟩
abbrev cX5_speed : ByteArray := prog_1_method_10_code
def yX5_speed : MethodName := ⟨RX5, "speed", "(IIII)I"⟩
abbrev cX5_follows : ByteArray := prog_1_method_11_code
def yX5_follows : MethodName := ⟨RX5, "follows", "(II)I"⟩
abbrev cX5_rule : ByteArray := prog_1_method_12_code
def yX5_rule : MethodName := ⟨RX5, "rule", "(II)I"⟩
abbrev cX5_line : ByteArray := prog_1_method_13_code
def yX5_line : MethodName := ⟨RX5, "line", "(III)I"⟩
abbrev cX5_told : ByteArray := prog_1_method_14_code
def yX5_told : MethodName := ⟨RX5, "told", "(III)I"⟩
abbrev cX5_picks : ByteArray := prog_1_method_15_code
def yX5_picks : MethodName := ⟨RX5, "picks", "(I)I"⟩
abbrev cX5_go : ByteArray := prog_1_method_16_code
def yX5_go : MethodName := ⟨RX5, "go", "(IZI)I"⟩
abbrev cX5_mean : ByteArray := prog_1_method_17_code
def yX5_mean : MethodName := ⟨RX5, "mean", "(III)J"⟩
abbrev cX5_sure : ByteArray := prog_1_method_18_code
def yX5_sure : MethodName := ⟨RX5, "sure", "(IIII)J"⟩
abbrev cX5_edge : ByteArray := prog_1_method_19_code
def yX5_edge : MethodName := ⟨RX5, "edge", "(I)I"⟩
abbrev cX5_few : ByteArray := prog_1_method_20_code
def yX5_few : MethodName := ⟨RX5, "few", "(III)I"⟩
abbrev cX5_torn : ByteArray := prog_1_method_21_code
def yX5_torn : MethodName := ⟨RX5, "torn", "(IIII)J"⟩
abbrev cX5_sleep : ByteArray := prog_1_method_22_code
def yX5_sleep : MethodName := ⟨RX5, "sleep", "(III)J"⟩
abbrev cX5_lines : ByteArray := prog_1_method_23_code
def yX5_lines : MethodName := ⟨RX5, "lines", "(II)I"⟩
abbrev cX5_squall : ByteArray := prog_1_method_24_code
def yX5_squall : MethodName := ⟨RX5, "squall", "(I)I"⟩
abbrev cX5_made : ByteArray := prog_1_method_25_code
def yX5_made : MethodName := ⟨RX5, "made", "(I)I"⟩
abbrev cX5_worst : ByteArray := prog_1_method_26_code
def yX5_worst : MethodName := ⟨RX5, "worst", "(II)I"⟩
abbrev cX5_judge : ByteArray := prog_1_method_27_code
def yX5_judge : MethodName := ⟨RX5, "judge", "(II)I"⟩
abbrev cX5_image : ByteArray := prog_1_method_28_code
def yX5_image : MethodName := ⟨RX5, "image", "()I"⟩
abbrev cX5_undo : ByteArray := prog_1_method_29_code
def yX5_undo : MethodName := ⟨RX5, "undo", "()I"⟩
abbrev cX5_act : ByteArray := prog_1_method_30_code
def yX5_act : MethodName := ⟨RX5, "act", "(III)I"⟩
abbrev cX5_trace : ByteArray := prog_1_method_31_code
def yX5_trace : MethodName := ⟨RX5, "trace", "(I)I"⟩
abbrev cX5_taken : ByteArray := prog_1_method_32_code
def yX5_taken : MethodName := ⟨RX5, "taken", "(II)I"⟩
abbrev cX5_count : ByteArray := prog_1_method_33_code
def yX5_count : MethodName := ⟨RX5, "count", "(I)I"⟩
abbrev cX5_tape : ByteArray := prog_1_method_34_code
def yX5_tape : MethodName := ⟨RX5, "tape", "(III)I"⟩
abbrev cX5_item : ByteArray := prog_1_method_35_code
def yX5_item : MethodName := ⟨RX5, "item", "(IIJ)I"⟩
abbrev cX5_read : ByteArray := prog_1_method_36_code
def yX5_read : MethodName := ⟨RX5, "read", "(II)J"⟩
abbrev cX5_shift : ByteArray := prog_1_method_37_code
def yX5_shift : MethodName := ⟨RX5, "shift", "(IIIII)I"⟩
abbrev cX5_isSail : ByteArray := prog_1_method_38_code
def yX5_isSail : MethodName := ⟨RX5, "isSail", "(I)Z"⟩
abbrev cX5_isWind : ByteArray := prog_1_method_39_code
def yX5_isWind : MethodName := ⟨RX5, "isWind", "(I)Z"⟩
abbrev cX5_isTellable : ByteArray := prog_1_method_40_code
def yX5_isTellable : MethodName := ⟨RX5, "isTellable", "(I)Z"⟩
abbrev cX5_isHours : ByteArray := prog_1_method_41_code
def yX5_isHours : MethodName := ⟨RX5, "isHours", "(I)Z"⟩
abbrev cX5_isPart : ByteArray := prog_1_method_42_code
def yX5_isPart : MethodName := ⟨RX5, "isPart", "(I)Z"⟩
abbrev cX5_shown : ByteArray := prog_1_method_43_code
def yX5_shown : MethodName := ⟨RX5, "shown", "(I)I"⟩
abbrev cX5_ruleOf : ByteArray := prog_1_method_44_code
def yX5_ruleOf : MethodName := ⟨RX5, "ruleOf", "(I)LNineSails$Rule;"⟩
abbrev cX5_tapeOf : ByteArray := prog_1_method_45_code
def yX5_tapeOf : MethodName := ⟨RX5, "tapeOf", "(I)LNineSails$Tape;"⟩
abbrev cX5_holding : ByteArray := prog_1_method_46_code
def yX5_holding : MethodName := ⟨RX5, "holding", "()LNineSails$Race;"⟩
abbrev cX5_pace : ByteArray := prog_1_method_47_code
def yX5_pace : MethodName := ⟨RX5, "pace", "(IIII)I"⟩
abbrev cX5_may : ByteArray := prog_1_method_48_code
def yX5_may : MethodName := ⟨RX5, "may", "(LNineSails$Scene;I)Z"⟩
abbrev cX5_usefulSails : ByteArray := prog_1_method_49_code
def yX5_usefulSails : MethodName := ⟨RX5, "usefulSails", "()I"⟩
abbrev cX5_milesBy : ByteArray := prog_1_method_50_code
def yX5_milesBy : MethodName := ⟨RX5, "milesBy", "(LNineSails$Scene;I)I"⟩
abbrev cX5_choice : ByteArray := prog_1_method_51_code
def yX5_choice : MethodName := ⟨RX5, "choice", "(LNineSails$Rule;LNineSails$Scene;)I"⟩
abbrev cX5_rowAt : ByteArray := prog_1_method_52_code
def yX5_rowAt : MethodName := ⟨RX5, "rowAt", "(LNineSails$Rule;I)I"⟩
abbrev cX5_asUp : ByteArray := prog_1_method_53_code
def yX5_asUp : MethodName := ⟨RX5, "asUp", "(LNineSails$Scene;)I"⟩
abbrev cX5_fastest : ByteArray := prog_1_method_54_code
def yX5_fastest : MethodName := ⟨RX5, "fastest", "(LNineSails$Scene;I)I"⟩
abbrev cX5_worthiest : ByteArray := prog_1_method_55_code
def yX5_worthiest : MethodName := ⟨RX5, "worthiest", "(LNineSails$Rule;LNineSails$Scene;)I"⟩
abbrev cX5_asTold : ByteArray := prog_1_method_56_code
def yX5_asTold : MethodName := ⟨RX5, "asTold", "(LNineSails$Rule;LNineSails$Scene;I)I"⟩
abbrev cX5_ahead : ByteArray := prog_1_method_57_code
def yX5_ahead : MethodName := ⟨RX5, "ahead", "(ILNineSails$Rule;II)J"⟩
abbrev cX5_bestWith : ByteArray := prog_1_method_58_code
def yX5_bestWith : MethodName := ⟨RX5, "bestWith", "(II)J"⟩
abbrev cX5_isEarlierRow : ByteArray := prog_1_method_59_code
def yX5_isEarlierRow : MethodName := ⟨RX5, "isEarlierRow", "([I[I)Z"⟩
abbrev cX5_lowest : ByteArray := prog_1_method_60_code
def yX5_lowest : MethodName := ⟨RX5, "lowest", "(JJI)J"⟩
abbrev cX5_perform : ByteArray := prog_1_method_61_code
def yX5_perform : MethodName := ⟨RX5, "perform", "(LNineSails$Rule;IIII)I"⟩
def RX6 : String := "NineSailsModel"
def TX6 : u_T := fun k => match k with
  | 0 => ("NineSailsModel", "sails", "I", false)
  | 1 => ("NineSailsModel", "whole", "I", false)
  | 2 => ("NineSailsModel", "aboard", "I", false)
  | 3 => ("NineSailsModel", "awake", "I", false)
  | 4 => ("NineSailsModel", "up", "I", false)
  | 5 => ("NineSailsModel", "wind", "I", false)
  | 6 => ("NineSailsModel", "hour", "I", false)
  | 7 => ("NineSailsModel", "miles", "I", false)
  | 8 => ("NineSailsModel", "weight", "[I", true)
  | 9 => ("NineSailsModel", "hands", "[I", true)
  | 10 => ("NineSailsModel", "races", "I", false)
  | 11 => ("NineSailsModel", "the", "I", false)
  | 12 => ("NineSailsModel", "fed", "I", false)
  | 13 => ("NineSailsModel", "at", "I", false)
  | 14 => ("NineSailsModel", "digits", "I", false)
  | 15 => ("NineSailsModel", "text", "[I", true)
  | 16 => ("NineSailsModel", "clauses", "[I", true)
  | 17 => ("NineSailsModel", "word", "[I", true)
  | 18 => ("NineSailsModel", "number", "[I", true)
  | 19 => ("NineSailsModel", "both", "[I", true)
  | 20 => ("NineSailsModel", "from", "[I", true)
  | 21 => ("NineSailsModel", "to", "[I", true)
  | 22 => ("NineSailsModel", "sign", "[I", true)
  | 23 => ("NineSailsModel", "waits", "[I", true)
  | 24 => ("NineSailsModel", "signs", "I", false)
  | 25 => ("NineSailsModel", "waiting", "I", false)
  | 26 => ("NineSailsModel", "open", "I", false)
  | 27 => ("NineSailsModel", "pile", "[Z", true)
  | 28 => ("NineSailsModel", "follow", "[I", true)
  | 29 => ("NineSailsModel", "rules", "I", false)
  | 30 => ("NineSailsModel", "kind", "[I", true)
  | 31 => ("NineSailsModel", "v", "[I", true)
  | 32 => ("NineSailsModel", "line", "[I", true)
  | 33 => ("NineSailsModel", "rowOf", "[I", true)
  | 34 => ("NineSailsModel", "onBoard", "I", false)
  | 35 => ("NineSailsModel", "manyAwake", "I", false)
  | 36 => ("NineSailsModel", "upAt", "[I", true)
  | 37 => ("NineSailsModel", "windAt", "[I", true)
  | 38 => ("NineSailsModel", "wholeAt", "[I", true)
  | 39 => ("NineSailsModel", "milesAt", "[I", true)
  | 40 => ("NineSailsModel", "pickAt", "[I", true)
  | 41 => ("NineSailsModel", "tearAt", "[I", true)
  | 42 => ("NineSailsModel", "branch", "[I", true)
  | 43 => ("NineSailsModel", "weightAt", "[J", true)
  | 44 => ("NineSailsModel", "sum", "J", false)
  | 45 => ("NineSailsModel", "atLeast", "J", false)
  | 46 => ("NineSailsModel", "below", "J", false)
  | 47 => ("NineSailsModel", "least", "I", false)
  | 48 => ("NineSailsModel", "bestLine", "[I", true)
  | 49 => ("NineSailsModel", "winds", "I", false)
  | 50 => ("NineSailsModel", "squall", "[I", true)
  | 51 => ("NineSailsModel", "hasImage", "Z", false)
  | 52 => ("NineSailsModel", "imageThe", "I", false)
  | 53 => ("NineSailsModel", "imageSails", "I", false)
  | 54 => ("NineSailsModel", "imageWhole", "I", false)
  | 55 => ("NineSailsModel", "imageAboard", "I", false)
  | 56 => ("NineSailsModel", "imageAwake", "I", false)
  | 57 => ("NineSailsModel", "imageUp", "I", false)
  | 58 => ("NineSailsModel", "imageWind", "I", false)
  | 59 => ("NineSailsModel", "imageHour", "I", false)
  | 60 => ("NineSailsModel", "imageMiles", "I", false)
  | 61 => ("NineSailsModel", "imageWinds", "I", false)
  | 62 => ("NineSailsModel", "imageSquall", "[I", true)
  | 63 => ("NineSailsModel", "ran", "I", false)
  | 64 => ("NineSailsModel", "bodies", "[I", true)
  | 65 => ("NineSailsModel", "sort", "[I", true)
  | 66 => ("NineSailsModel", "length", "[I", true)
  | 67 => ("NineSailsModel", "item", "[J", true)
  | _ => ("NineSailsModel", "aside", "[J", true)
def tyX6 : Nat → FieldType := fun k => match k with
  | 0 => .int
  | 1 => .int
  | 2 => .int
  | 3 => .int
  | 4 => .int
  | 5 => .int
  | 6 => .int
  | 7 => .int
  | 8 => .array .int
  | 9 => .array .int
  | 10 => .int
  | 11 => .int
  | 12 => .int
  | 13 => .int
  | 14 => .int
  | 15 => .array .int
  | 16 => .array .int
  | 17 => .array .int
  | 18 => .array .int
  | 19 => .array .int
  | 20 => .array .int
  | 21 => .array .int
  | 22 => .array .int
  | 23 => .array .int
  | 24 => .int
  | 25 => .int
  | 26 => .int
  | 27 => .array .boolean
  | 28 => .array .int
  | 29 => .int
  | 30 => .array .int
  | 31 => .array .int
  | 32 => .array .int
  | 33 => .array .int
  | 34 => .int
  | 35 => .int
  | 36 => .array .int
  | 37 => .array .int
  | 38 => .array .int
  | 39 => .array .int
  | 40 => .array .int
  | 41 => .array .int
  | 42 => .array .int
  | 43 => .array .long
  | 44 => .long
  | 45 => .long
  | 46 => .long
  | 47 => .int
  | 48 => .array .int
  | 49 => .int
  | 50 => .array .int
  | 51 => .boolean
  | 52 => .int
  | 53 => .int
  | 54 => .int
  | 55 => .int
  | 56 => .int
  | 57 => .int
  | 58 => .int
  | 59 => .int
  | 60 => .int
  | 61 => .int
  | 62 => .array .int
  | 63 => .int
  | 64 => .array .int
  | 65 => .array .int
  | 66 => .array .int
  | 67 => .array .long
  | _ => .array .long
abbrev wsX60 : List Cond := u_ws RX6 TX6 69
theorem nmX6 : ∀ a, a < 69 → ∀ b, b < 69 → a ≠ b → (TX6 a).2.1 ≠ (TX6 b).2.1 := by decide +kernel
theorem tyX6_ok : ∀ k, k < 69 → parseFieldDescriptor (TX6 k).2.2.1 = some (tyX6 k) := by decide +kernel
abbrev cX6_init : ByteArray := prog_8_method_1_code
def yX6_init : MethodName := ⟨RX6, "<init>", "()V"⟩
abbrev cX6_in : ByteArray := prog_8_method_2_code
def yX6_in : MethodName := ⟨RX6, "in", "(III)Z"⟩
abbrev cX6_has : ByteArray := prog_8_method_3_code
def yX6_has : MethodName := ⟨RX6, "has", "(II)Z"⟩
abbrev cX6_isSail : ByteArray := prog_8_method_4_code
def yX6_isSail : MethodName := ⟨RX6, "isSail", "(I)Z"⟩
abbrev cX6_isWind : ByteArray := prog_8_method_5_code
def yX6_isWind : MethodName := ⟨RX6, "isWind", "(I)Z"⟩
abbrev cX6_sail : ByteArray := prog_8_method_6_code
def yX6_sail : MethodName := ⟨RX6, "sail", "(II)I"⟩
abbrev cX6_make : ByteArray := prog_8_method_7_code
def yX6_make : MethodName := ⟨RX6, "make", "(IIZ)I"⟩
abbrev cX6_mayBe : ByteArray := prog_8_method_8_code
def yX6_mayBe : MethodName := ⟨RX6, "mayBe", "(IIIII)Z"⟩
abbrev cX6_of : ByteArray := prog_8_method_9_code
def yX6_of : MethodName := ⟨RX6, "of", "(II)I"⟩
abbrev cX6_set : ByteArray := prog_8_method_10_code
def yX6_set : MethodName := ⟨RX6, "set", "(II)I"⟩
abbrev cX6_hoist : ByteArray := prog_8_method_11_code
def yX6_hoist : MethodName := ⟨RX6, "hoist", "(I)I"⟩
abbrev cX6_ship : ByteArray := prog_8_method_12_code
def yX6_ship : MethodName := ⟨RX6, "ship", "(I)I"⟩
abbrev cX6_feed : ByteArray := prog_8_method_13_code
def yX6_feed : MethodName := ⟨RX6, "feed", "(II)I"⟩
abbrev cX6_next : ByteArray := prog_8_method_14_code
def yX6_next : MethodName := ⟨RX6, "next", "()I"⟩
abbrev cX6_takesSign : ByteArray := prog_8_method_15_code
def yX6_takesSign : MethodName := ⟨RX6, "takesSign", "(I)Z"⟩
abbrev cX6_takesWord : ByteArray := prog_8_method_16_code
def yX6_takesWord : MethodName := ⟨RX6, "takesWord", "(II)Z"⟩
abbrev cX6_isDigit : ByteArray := prog_8_method_17_code
def yX6_isDigit : MethodName := ⟨RX6, "isDigit", "()Z"⟩
abbrev cX6_takesNumber : ByteArray := prog_8_method_18_code
def yX6_takesNumber : MethodName := ⟨RX6, "takesNumber", "()Z"⟩
abbrev cX6_put : ByteArray := prog_8_method_19_code
def yX6_put : MethodName := ⟨RX6, "put", "(I)V"⟩
abbrev cX6_settleNots : ByteArray := prog_8_method_20_code
def yX6_settleNots : MethodName := ⟨RX6, "settleNots", "()V"⟩
abbrev cX6_settle : ByteArray := prog_8_method_21_code
def yX6_settle : MethodName := ⟨RX6, "settle", "(I)V"⟩
abbrev cX6_place : ByteArray := prog_8_method_22_code
def yX6_place : MethodName := ⟨RX6, "place", "(I)I"⟩
abbrev cX6_takesTest : ByteArray := prog_8_method_23_code
def yX6_takesTest : MethodName := ⟨RX6, "takesTest", "()Z"⟩
abbrev cX6_takesE : ByteArray := prog_8_method_24_code
def yX6_takesE : MethodName := ⟨RX6, "takesE", "(I)Z"⟩
abbrev cX6_takesFigure : ByteArray := prog_8_method_25_code
def yX6_takesFigure : MethodName := ⟨RX6, "takesFigure", "(I)Z"⟩
abbrev cX6_takesHead : ByteArray := prog_8_method_26_code
def yX6_takesHead : MethodName := ⟨RX6, "takesHead", "(I)Z"⟩
abbrev cX6_takesClause : ByteArray := prog_8_method_27_code
def yX6_takesClause : MethodName := ⟨RX6, "takesClause", "(I)Z"⟩
abbrev cX6_goesText : ByteArray := prog_8_method_28_code
def yX6_goesText : MethodName := ⟨RX6, "goesText", "(I)Z"⟩
abbrev cX6_race : ByteArray := prog_8_method_29_code
def yX6_race : MethodName := ⟨RX6, "race", "()I"⟩
abbrev cX6_first : ByteArray := prog_8_method_30_code
def yX6_first : MethodName := ⟨RX6, "first", "()I"⟩
abbrev cX6_behind : ByteArray := prog_8_method_31_code
def yX6_behind : MethodName := ⟨RX6, "behind", "()I"⟩
abbrev cX6_last : ByteArray := prog_8_method_32_code
def yX6_last : MethodName := ⟨RX6, "last", "(II)I"⟩
abbrev cX6_holds : ByteArray := prog_8_method_33_code
def yX6_holds : MethodName := ⟨RX6, "holds", "(IIII)Z"⟩
abbrev cX6_sumOf : ByteArray := prog_8_method_34_code
def yX6_sumOf : MethodName := ⟨RX6, "sumOf", "(IIII)I"⟩
abbrev cX6_speed : ByteArray := prog_8_method_35_code
def yX6_speed : MethodName := ⟨RX6, "speed", "(IIII)I"⟩
abbrev cX6_layFollows : ByteArray := prog_8_method_36_code
def yX6_layFollows : MethodName := ⟨RX6, "layFollows", "()V"⟩
abbrev cX6_follows : ByteArray := prog_8_method_37_code
def yX6_follows : MethodName := ⟨RX6, "follows", "(II)I"⟩
abbrev cX6_isRule : ByteArray := prog_8_method_38_code
def yX6_isRule : MethodName := ⟨RX6, "isRule", "(I)Z"⟩
abbrev cX6_rule : ByteArray := prog_8_method_39_code
def yX6_rule : MethodName := ⟨RX6, "rule", "(II)I"⟩
abbrev cX6_line : ByteArray := prog_8_method_40_code
def yX6_line : MethodName := ⟨RX6, "line", "(III)I"⟩
abbrev cX6_told : ByteArray := prog_8_method_41_code
def yX6_told : MethodName := ⟨RX6, "told", "(III)I"⟩
abbrev cX6_may : ByteArray := prog_8_method_42_code
def yX6_may : MethodName := ⟨RX6, "may", "(III)Z"⟩
abbrev cX6_plain : ByteArray := prog_8_method_43_code
def yX6_plain : MethodName := ⟨RX6, "plain", "(II)I"⟩
abbrev cX6_fastest : ByteArray := prog_8_method_44_code
def yX6_fastest : MethodName := ⟨RX6, "fastest", "(IIII)I"⟩
abbrev cX6_dearest : ByteArray := prog_8_method_45_code
def yX6_dearest : MethodName := ⟨RX6, "dearest", "(IIIII)I"⟩
abbrev cX6_pickOf : ByteArray := prog_8_method_46_code
def yX6_pickOf : MethodName := ⟨RX6, "pickOf", "(IIIII)I"⟩
abbrev cX6_asIs : ByteArray := prog_8_method_47_code
def yX6_asIs : MethodName := ⟨RX6, "asIs", "()V"⟩
abbrev cX6_picks : ByteArray := prog_8_method_48_code
def yX6_picks : MethodName := ⟨RX6, "picks", "(I)I"⟩
abbrev cX6_milesOf : ByteArray := prog_8_method_49_code
def yX6_milesOf : MethodName := ⟨RX6, "milesOf", "(IIII)I"⟩
abbrev cX6_go : ByteArray := prog_8_method_50_code
def yX6_go : MethodName := ⟨RX6, "go", "(IZI)I"⟩
abbrev cX6_enter : ByteArray := prog_8_method_51_code
def yX6_enter : MethodName := ⟨RX6, "enter", "(III)V"⟩
abbrev cX6_goAll : ByteArray := prog_8_method_52_code
def yX6_goAll : MethodName := ⟨RX6, "goAll", "(IIIII)V"⟩
abbrev cX6_divisor : ByteArray := prog_8_method_53_code
def yX6_divisor : MethodName := ⟨RX6, "divisor", "(JJ)J"⟩
abbrev cX6_lowest : ByteArray := prog_8_method_54_code
def yX6_lowest : MethodName := ⟨RX6, "lowest", "(JI)J"⟩
abbrev cX6_isHours : ByteArray := prog_8_method_55_code
def yX6_isHours : MethodName := ⟨RX6, "isHours", "(I)Z"⟩
abbrev cX6_mean : ByteArray := prog_8_method_56_code
def yX6_mean : MethodName := ⟨RX6, "mean", "(III)J"⟩
abbrev cX6_sure : ByteArray := prog_8_method_57_code
def yX6_sure : MethodName := ⟨RX6, "sure", "(IIII)J"⟩
abbrev cX6_edge : ByteArray := prog_8_method_58_code
def yX6_edge : MethodName := ⟨RX6, "edge", "(I)I"⟩
abbrev cX6_ones : ByteArray := prog_8_method_59_code
def yX6_ones : MethodName := ⟨RX6, "ones", "(I)I"⟩
abbrev cX6_few : ByteArray := prog_8_method_60_code
def yX6_few : MethodName := ⟨RX6, "few", "(III)I"⟩
abbrev cX6_torn : ByteArray := prog_8_method_61_code
def yX6_torn : MethodName := ⟨RX6, "torn", "(IIII)J"⟩
abbrev cX6_sleep : ByteArray := prog_8_method_62_code
def yX6_sleep : MethodName := ⟨RX6, "sleep", "(III)J"⟩
abbrev cX6_lines : ByteArray := prog_8_method_63_code
def yX6_lines : MethodName := ⟨RX6, "lines", "(II)I"⟩
abbrev cX6_squall : ByteArray := prog_8_method_64_code
def yX6_squall : MethodName := ⟨RX6, "squall", "(I)I"⟩
abbrev cX6_made : ByteArray := prog_8_method_65_code
def yX6_made : MethodName := ⟨RX6, "made", "(I)I"⟩
abbrev cX6_worst : ByteArray := prog_8_method_66_code
def yX6_worst : MethodName := ⟨RX6, "worst", "(II)I"⟩
abbrev cX6_judge : ByteArray := prog_8_method_67_code
def yX6_judge : MethodName := ⟨RX6, "judge", "(II)I"⟩
abbrev cX6_image : ByteArray := prog_8_method_68_code
def yX6_image : MethodName := ⟨RX6, "image", "()I"⟩
abbrev cX6_undo : ByteArray := prog_8_method_69_code
def yX6_undo : MethodName := ⟨RX6, "undo", "()I"⟩
abbrev cX6_body : ByteArray := prog_8_method_70_code
def yX6_body : MethodName := ⟨RX6, "body", "(I)V"⟩
abbrev cX6_plainPicks : ByteArray := prog_8_method_71_code
def yX6_plainPicks : MethodName := ⟨RX6, "plainPicks", "(II)I"⟩
abbrev cX6_picksAct : ByteArray := prog_8_method_72_code
def yX6_picksAct : MethodName := ⟨RX6, "picksAct", "(II)I"⟩
abbrev cX6_plainReefs : ByteArray := prog_8_method_73_code
def yX6_plainReefs : MethodName := ⟨RX6, "plainReefs", "(II)I"⟩
abbrev cX6_tableReefs : ByteArray := prog_8_method_74_code
def yX6_tableReefs : MethodName := ⟨RX6, "tableReefs", "(II)I"⟩
abbrev cX6_reefsAct : ByteArray := prog_8_method_75_code
def yX6_reefsAct : MethodName := ⟨RX6, "reefsAct", "(II)I"⟩
abbrev cX6_plainTells : ByteArray := prog_8_method_76_code
def yX6_plainTells : MethodName := ⟨RX6, "plainTells", "(II)I"⟩
abbrev cX6_tellsAct : ByteArray := prog_8_method_77_code
def yX6_tellsAct : MethodName := ⟨RX6, "tellsAct", "(II)I"⟩
abbrev cX6_act : ByteArray := prog_8_method_78_code
def yX6_act : MethodName := ⟨RX6, "act", "(III)I"⟩
abbrev cX6_trace : ByteArray := prog_8_method_79_code
def yX6_trace : MethodName := ⟨RX6, "trace", "(I)I"⟩
abbrev cX6_taken : ByteArray := prog_8_method_80_code
def yX6_taken : MethodName := ⟨RX6, "taken", "(II)I"⟩
abbrev cX6_count : ByteArray := prog_8_method_81_code
def yX6_count : MethodName := ⟨RX6, "count", "(I)I"⟩
abbrev cX6_isTape : ByteArray := prog_8_method_82_code
def yX6_isTape : MethodName := ⟨RX6, "isTape", "(I)Z"⟩
abbrev cX6_tape : ByteArray := prog_8_method_83_code
def yX6_tape : MethodName := ⟨RX6, "tape", "(III)I"⟩
abbrev cX6_narrow : ByteArray := prog_8_method_84_code
def yX6_narrow : MethodName := ⟨RX6, "narrow", "(IJ)J"⟩
abbrev cX6_item : ByteArray := prog_8_method_85_code
def yX6_item : MethodName := ⟨RX6, "item", "(IIJ)I"⟩
abbrev cX6_read : ByteArray := prog_8_method_86_code
def yX6_read : MethodName := ⟨RX6, "read", "(II)J"⟩
abbrev cX6_shift : ByteArray := prog_8_method_87_code
def yX6_shift : MethodName := ⟨RX6, "shift", "(IIIII)I"⟩
def RJ6 : String := "java/lang/Integer"
abbrev cJ6_bitCount_0f7a4 : ByteArray := prog_9_method_49_code
def yJ6_bitCount_0f7a4 : MethodName := ⟨RJ6, "bitCount", "(I)I"⟩
def RJ9 : String := "java/lang/Math"
abbrev cJ9_abs_067f4 : ByteArray := prog_10_method_61_code
def yJ9_abs_067f4 : MethodName := ⟨RJ9, "abs", "(J)J"⟩
abbrev cJ9_max_7cf53 : ByteArray := prog_10_method_65_code
def yJ9_max_7cf53 : MethodName := ⟨RJ9, "max", "(II)I"⟩
abbrev cJ9_min_7cf53 : ByteArray := prog_10_method_69_code
def yJ9_min_7cf53 : MethodName := ⟨RJ9, "min", "(II)I"⟩
abbrev cJ9_min_f86c9 : ByteArray := prog_10_method_70_code
def yJ9_min_f86c9 : MethodName := ⟨RJ9, "min", "(JJ)J"⟩
def RJ0 : String := "java/lang/String"
abbrev cJ0_length_8abf5 : ByteArray := prog_11_method_54_code
def yJ0_length_8abf5 : MethodName := ⟨RJ0, "length", "()I"⟩
abbrev cJ0_charAt_5068e : ByteArray := prog_11_method_56_code
def yJ0_charAt_5068e : MethodName := ⟨RJ0, "charAt", "(I)C"⟩
abbrev cJ0_coder_7d493 : ByteArray := prog_11_method_152_code
def yJ0_coder_7d493 : MethodName := ⟨RJ0, "coder", "()B"⟩
abbrev cJ0_isLatin1_aae02 : ByteArray := prog_11_method_154_code
def yJ0_isLatin1_aae02 : MethodName := ⟨RJ0, "isLatin1", "()Z"⟩
abbrev cJ0_checkIndex_df160 : ByteArray := prog_11_method_155_code
def yJ0_checkIndex_df160 : MethodName := ⟨RJ0, "checkIndex", "(II)V"⟩
def RJ1 : String := "java/lang/StringLatin1"
abbrev cJ1_charAt_3b067 : ByteArray := prog_12_method_2_code
def yJ1_charAt_3b067 : MethodName := ⟨RJ1, "charAt", "([BI)C"⟩
def RJ2 : String := "java/lang/StringUTF16"
abbrev cJ2_getChar_3b067 : ByteArray := prog_13_method_5_code
def yJ2_getChar_3b067 : MethodName := ⟨RJ2, "getChar", "([BI)C"⟩
abbrev cJ2_length_9d52b : ByteArray := prog_13_method_6_code
def yJ2_length_9d52b : MethodName := ⟨RJ2, "length", "([B)I"⟩
abbrev cJ2_charAt_3b067 : ByteArray := prog_13_method_83_code
def yJ2_charAt_3b067 : MethodName := ⟨RJ2, "charAt", "([BI)C"⟩
abbrev cJ2_checkIndex_2214a : ByteArray := prog_13_method_91_code
def yJ2_checkIndex_2214a : MethodName := ⟨RJ2, "checkIndex", "(I[B)V"⟩
def RJ10 : String := "java/lang/System"
def RJ7 : String := "java/util/Arrays"
abbrev cJ7_fill_d0a16 : ByteArray := prog_15_method_101_code
def yJ7_fill_d0a16 : MethodName := ⟨RJ7, "fill", "([JJ)V"⟩
abbrev cJ7_fill_53178 : ByteArray := prog_15_method_103_code
def yJ7_fill_53178 : MethodName := ⟨RJ7, "fill", "([II)V"⟩
def RJ3 : String := "jdk/internal/util/Preconditions"
abbrev cJ3_checkIndex_8e157 : ByteArray := prog_16_method_11_code
def yJ3_checkIndex_8e157 : MethodName := ⟨RJ3, "checkIndex", "(IILjava/util/function/BiFunction;)I"⟩
def RL : String := "NineSailsLaw"
abbrev cL_law : ByteArray := code
def yL_law : MethodName := ⟨RL, "law", "([I)Z"⟩

abbrev vwCl : List vw_C := [(RX0, TX0, 9), (RX1, TX1, 5), (RX2, TX2, 5), (RX3, TX3, 11), (RX4, TX4, 3), (RX5, TX5, 19), (RX6, TX6, 69)]
/-- the tables' words that hold on and on -/
def aTs : List Jvm.Cond := lw_tbl.filter goodWord
theorem aTs_good : ∀ w ∈ aTs, goodWord w = true := fun w h => (List.mem_filter.mp h).2
theorem aTs_tbl : ∀ w ∈ aTs, w ∈ lw_tbl := fun w h => (List.mem_filter.mp h).1
theorem aTs_of {w : Jvm.Cond} (h : w ∈ lw_tbl) (g : goodWord w = true) : w ∈ aTs := List.mem_filter.mpr ⟨h, g⟩
theorem aInT {w : Jvm.Cond} (h : w ∈ tables_1) : w ∈ lw_tbl := List.mem_append_right _ h
theorem aLt1 {w : Jvm.Cond} (h : w ∈ tables_1_1) : w ∈ lw_tbl := aInT (List.mem_append_left _ h)
theorem aLt2 {w : Jvm.Cond} (h : w ∈ tables_1_2) : w ∈ lw_tbl := aInT (List.mem_append_right _ (List.mem_append_left _ h))
theorem aLt3 {w : Jvm.Cond} (h : w ∈ tables_1_3) : w ∈ lw_tbl := aInT (List.mem_append_right _ (List.mem_append_right _ (List.mem_append_left _ h)))
theorem aLt4 {w : Jvm.Cond} (h : w ∈ tables_1_4) : w ∈ lw_tbl := aInT (List.mem_append_right _ (List.mem_append_right _ (List.mem_append_right _ (List.mem_append_left _ h))))
theorem aLt5 {w : Jvm.Cond} (h : w ∈ tables_1_5) : w ∈ lw_tbl := aInT (List.mem_append_right _ (List.mem_append_right _ (List.mem_append_right _ (List.mem_append_right _ (List.mem_append_left _ h)))))
theorem aLt6 {w : Jvm.Cond} (h : w ∈ tables_1_6) : w ∈ lw_tbl := aInT (List.mem_append_right _ (List.mem_append_right _ (List.mem_append_right _ (List.mem_append_right _ (List.mem_append_right _ h)))))
theorem aIn1 (i : Nat) {w : Jvm.Cond} (h : tables_1_1[i]? = some w) (g : goodWord w = true) : w ∈ aTs := aTs_of (aLt1 (List.mem_of_getElem? h)) g
theorem aIn2 (i : Nat) {w : Jvm.Cond} (h : tables_1_2[i]? = some w) (g : goodWord w = true) : w ∈ aTs := aTs_of (aLt2 (List.mem_of_getElem? h)) g
theorem aIn3 (i : Nat) {w : Jvm.Cond} (h : tables_1_3[i]? = some w) (g : goodWord w = true) : w ∈ aTs := aTs_of (aLt3 (List.mem_of_getElem? h)) g
theorem aIn4 (i : Nat) {w : Jvm.Cond} (h : tables_1_4[i]? = some w) (g : goodWord w = true) : w ∈ aTs := aTs_of (aLt4 (List.mem_of_getElem? h)) g
theorem aIn5 (i : Nat) {w : Jvm.Cond} (h : tables_1_5[i]? = some w) (g : goodWord w = true) : w ∈ aTs := aTs_of (aLt5 (List.mem_of_getElem? h)) g
theorem aIn6 (i : Nat) {w : Jvm.Cond} (h : tables_1_6[i]? = some w) (g : goodWord w = true) : w ∈ aTs := aTs_of (aLt6 (List.mem_of_getElem? h)) g
theorem aInS (i : Nat) {q : MethodName × Nat} (h : lw_privs[i]? = some q) : Cond.selects q.1.cls q.1 q.1 ∈ aTs := aTs_of (List.mem_append_left _ (List.mem_map.mpr ⟨q, List.mem_of_getElem? h, rfl⟩)) rfl
end
