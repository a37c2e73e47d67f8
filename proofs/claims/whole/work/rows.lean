section
/-! an abstract machine over numbered objects, whose runs the law's bytecode follows -/
abbrev aI : Type := Instr × Nat × Nat × Nat × Nat × Value
abbrev aL : Type := List (Nat × Value)
abbrev aH : Type := Nat × (Nat → Nat → Int32) × (Nat → Nat → Int64) × (Nat → Nat → Option Nat)
abbrev aC : Type := Nat × aL × List Value × aH
def up2 {α : Type} (f : Nat → Nat → α) (i k : Nat) (v : α) : Nat → Nat → α := fun j q => bif Nat.beq j i && Nat.beq q k then v else f j q
def up1 {α : Type} (f : Nat → Nat → α) (i : Nat) (g : Nat → α) : Nat → Nat → α := fun j => bif Nat.beq j i then g else f j
def aGet : aL → Nat → Option Value
  | [], _ => none
  | q :: l, i => bif Nat.beq q.1 i then some q.2 else aGet l i
def aPut1 (l : aL) (i : Nat) (v : Value) : aL := (i, v) :: l.filter (fun q => !(q.1 == i) && !(q.1 + 1 == i && q.2.category == 2))
def aPut2 (l : aL) (i : Nat) (v : Value) : aL := (i, v) :: l.filter (fun q => !(q.1 == i) && (!(q.1 == i + 1) && !(q.1 + 1 == i && q.2.category == 2)))
/-- one instruction without a side condition: the next place, locals, stack, heap -/
def aStp (kd : Nat → Nat × Nat) (n0 : Nat) (ai : aI) (c : aC) : Option aC :=
  match ai, c with
  | (ins, nx, a, b, t, v), (_, ls, st, h) =>
    match ins with
    | .iconst _ => some (nx, ls, v :: st, h)
    | .bipush _ => some (nx, ls, v :: st, h)
    | .sipush _ => some (nx, ls, v :: st, h)
    | .lconst _ => some (nx, ls, v :: st, h)
    | .ldc _ => some (nx, ls, v :: st, h)
    | .ldc_w _ => some (nx, ls, v :: st, h)
    | .ldc2_w _ => some (nx, ls, v :: st, h)
    | .getstatic _ => some (nx, ls, v :: st, h)
    | .aconst_null => some (nx, ls, .null :: st, h)
    | .iload_n _ => match aGet ls a with | some (.int x) => some (nx, ls, .int x :: st, h) | _ => none
    | .iload _ => match aGet ls a with | some (.int x) => some (nx, ls, .int x :: st, h) | _ => none
    | .lload_n _ => match aGet ls a with | some (.long x) => some (nx, ls, .long x :: st, h) | _ => none
    | .lload _ => match aGet ls a with | some (.long x) => some (nx, ls, .long x :: st, h) | _ => none
    | .aload_n _ => match aGet ls a with | some (.ref x) => some (nx, ls, .ref x :: st, h) | some .null => some (nx, ls, .null :: st, h) | _ => none
    | .aload _ => match aGet ls a with | some (.ref x) => some (nx, ls, .ref x :: st, h) | some .null => some (nx, ls, .null :: st, h) | _ => none
    | .istore_n _ => match st with | .int x :: r => some (nx, aPut1 ls a (.int x), r, h) | _ => none
    | .istore _ => match st with | .int x :: r => some (nx, aPut1 ls a (.int x), r, h) | _ => none
    | .lstore_n _ => match st with | .long x :: r => some (nx, aPut2 ls a (.long x), r, h) | _ => none
    | .lstore _ => match st with | .long x :: r => some (nx, aPut2 ls a (.long x), r, h) | _ => none
    | .astore_n _ => match st with | .ref x :: r => some (nx, aPut1 ls a (.ref x), r, h) | .null :: r => some (nx, aPut1 ls a .null, r, h) | _ => none
    | .astore _ => match st with | .ref x :: r => some (nx, aPut1 ls a (.ref x), r, h) | .null :: r => some (nx, aPut1 ls a .null, r, h) | _ => none
    | .iinc _ _ => match v, aGet ls a with | .int y, some (.int x) => some (nx, aPut1 ls a (.int (x + y)), st, h) | _, _ => none
    | .iadd => match st with | .int y :: .int x :: r => some (nx, ls, .int (x + y) :: r, h) | _ => none
    | .isub => match st with | .int y :: .int x :: r => some (nx, ls, .int (x - y) :: r, h) | _ => none
    | .imul => match st with | .int y :: .int x :: r => some (nx, ls, .int (x * y) :: r, h) | _ => none
    | .iand => match st with | .int y :: .int x :: r => some (nx, ls, .int (x &&& y) :: r, h) | _ => none
    | .ior => match st with | .int y :: .int x :: r => some (nx, ls, .int (x ||| y) :: r, h) | _ => none
    | .ixor => match st with | .int y :: .int x :: r => some (nx, ls, .int (x ^^^ y) :: r, h) | _ => none
    | .ishl => match st with | .int y :: .int x :: r => some (nx, ls, .int (x <<< (y &&& 31)) :: r, h) | _ => none
    | .ishr => match st with | .int y :: .int x :: r => some (nx, ls, .int (x >>> (y &&& 31)) :: r, h) | _ => none
    | .iushr => match st with | .int y :: .int x :: r => some (nx, ls, .int (x.toUInt32 >>> (y.toUInt32 &&& Int32.toUInt32 31)).toInt32 :: r, h) | _ => none
    | .ineg => match st with | .int x :: r => some (nx, ls, .int (-x) :: r, h) | _ => none
    | .ladd => match st with | .long y :: .long x :: r => some (nx, ls, .long (x + y) :: r, h) | _ => none
    | .lsub => match st with | .long y :: .long x :: r => some (nx, ls, .long (x - y) :: r, h) | _ => none
    | .lmul => match st with | .long y :: .long x :: r => some (nx, ls, .long (x * y) :: r, h) | _ => none
    | .land => match st with | .long y :: .long x :: r => some (nx, ls, .long (x &&& y) :: r, h) | _ => none
    | .lor => match st with | .long y :: .long x :: r => some (nx, ls, .long (x ||| y) :: r, h) | _ => none
    | .lshl => match st with | .int y :: .long x :: r => some (nx, ls, .long (x <<< (y.toInt64 &&& 63)) :: r, h) | _ => none
    | .lneg => match st with | .long x :: r => some (nx, ls, .long (-x) :: r, h) | _ => none
    | .lcmp => match st with | .long y :: .long x :: r => some (nx, ls, .int (lg_cmp x y) :: r, h) | _ => none
    | .i2l => match st with | .int x :: r => some (nx, ls, .long x.toInt64 :: r, h) | _ => none
    | .l2i => match st with | .long x :: r => some (nx, ls, .int x.toInt32 :: r, h) | _ => none
    | .i2b => match st with | .int x :: r => some (nx, ls, .int x.toInt8.toInt32 :: r, h) | _ => none
    | .i2s => match st with | .int x :: r => some (nx, ls, .int x.toInt16.toInt32 :: r, h) | _ => none
    | .i2c => match st with | .int x :: r => some (nx, ls, .int (x.toUInt32 % 65536).toInt32 :: r, h) | _ => none
    | .dup => match st with | .int x :: r => some (nx, ls, .int x :: .int x :: r, h) | .ref x :: r => some (nx, ls, .ref x :: .ref x :: r, h) | _ => none
    | .dup2 => match st with | .int y :: .ref x :: r => some (nx, ls, .int y :: .ref x :: .int y :: .ref x :: r, h) | _ => none
    | .pop => match st with | .int _ :: r => some (nx, ls, r, h) | _ => none
    | .goto _ => some (a, ls, st, h)
    | .ifCond .eq _ => match st with | .int x :: r => some (if x = 0 then a else nx, ls, r, h) | _ => none
    | .ifCond .ne _ => match st with | .int x :: r => some (if x = 0 then nx else a, ls, r, h) | _ => none
    | .ifCond .lt _ => match st with | .int x :: r => some (if x < 0 then a else nx, ls, r, h) | _ => none
    | .ifCond .ge _ => match st with | .int x :: r => some (if 0 ≤ x then a else nx, ls, r, h) | _ => none
    | .ifCond .gt _ => match st with | .int x :: r => some (if 0 < x then a else nx, ls, r, h) | _ => none
    | .ifCond .le _ => match st with | .int x :: r => some (if x ≤ 0 then a else nx, ls, r, h) | _ => none
    | .if_icmp .eq _ => match st with | .int y :: .int x :: r => some (if x = y then a else nx, ls, r, h) | _ => none
    | .if_icmp .ne _ => match st with | .int y :: .int x :: r => some (if x = y then nx else a, ls, r, h) | _ => none
    | .if_icmp .lt _ => match st with | .int y :: .int x :: r => some (if x < y then a else nx, ls, r, h) | _ => none
    | .if_icmp .ge _ => match st with | .int y :: .int x :: r => some (if y ≤ x then a else nx, ls, r, h) | _ => none
    | .if_icmp .gt _ => match st with | .int y :: .int x :: r => some (if y < x then a else nx, ls, r, h) | _ => none
    | .if_icmp .le _ => match st with | .int y :: .int x :: r => some (if x ≤ y then a else nx, ls, r, h) | _ => none
    | .ifnull _ => match st with | .ref _ :: r => some (nx, ls, r, h) | .null :: r => some (a, ls, r, h) | _ => none
    | .ifnonnull _ => match st with | .ref _ :: r => some (a, ls, r, h) | .null :: r => some (nx, ls, r, h) | _ => none
    | .arraylength => match st with | .ref i :: r => (bif (Nat.blt i n0 || Nat.blt i h.1) && Nat.ble 7 (kd i).1 then some (nx, ls, .int (Int32.ofNat (kd i).2) :: r, h) else none) | _ => none
    | .getfield _ => match st with
      | .ref i :: r => (bif (Nat.blt i n0 || Nat.blt i h.1) && Nat.beq (kd i).1 a then some (nx, ls, (match t with | 1 => .long (h.2.2.1 i b) | 2 => va_rf (h.2.2.2 i b) | _ => .int (h.2.1 i b)) :: r, h) else none)
      | _ => none
    | .putfield _ => match st with
      | .int x :: .ref i :: r => (bif (Nat.blt i n0 || Nat.blt i h.1) && Nat.beq (kd i).1 a && Nat.beq t 0 then some (nx, ls, r, h.1, up2 h.2.1 i b x, h.2.2.1, h.2.2.2) else none)
      | .long x :: .ref i :: r => (bif (Nat.blt i n0 || Nat.blt i h.1) && Nat.beq (kd i).1 a && Nat.beq t 1 then some (nx, ls, r, h.1, h.2.1, up2 h.2.2.1 i b x, h.2.2.2) else none)
      | .ref j :: .ref i :: r => (bif (Nat.blt i n0 || Nat.blt i h.1) && Nat.beq (kd i).1 a && Nat.beq t 2 && (Nat.blt j n0 || Nat.blt j h.1) then some (nx, ls, r, h.1, h.2.1, h.2.2.1, up2 h.2.2.2 i b (some j)) else none)
      | _ => none
    | _ => none
end
section
/-- a value names nothing that is younger than n -/
def aOk (n : Nat) : Value → Prop
  | .ref i => i < n ∨ 1000 ≤ i
  | _ => True
def aOks (n : Nat) (l : List Value) : Prop := ∀ v ∈ l, aOk n v
/-- the cells that exist hold no name of a younger one -/
def aHok (h : aH) : Prop := ∀ i k j, i < h.1 → h.2.2.2 i k = some j → j < h.1
abbrev aX : Type := Nat → List Value → aH → Option Value → aH → Prop
/-- what static arrays hold -/
abbrev aZ : Type := (Nat → Nat → Int32) × (Nat → Nat → Int64)
def aLv (h : aH) (i : Nat) : Prop := i < h.1
/-- an instruction with a side condition, a call, an end: K is what goes on -/
def aSpc (kd : Nat → Nat × Nat) (Z : aZ) (X : aX) (K : aC → Prop) (ai : aI) (c : aC) (rv : Option Value) (hh : aH) : Prop :=
  match ai, c with
  | (ins, nx, a, b, t, v), (pc, ls, st, h) =>
    match ins with
    | .ireturn => match st with | [.int x] => (t = 0 ∨ x = 0 ∨ x = 1) ∧ rv = some (.int x) ∧ hh = h | _ => False
    | .lreturn => match st with | [.long x] => rv = some (.long x) ∧ hh = h | _ => False
    | .areturn => match st with | [.ref x] => rv = some (.ref x) ∧ hh = h | [.null] => rv = some .null ∧ hh = h | _ => False
    | .return_ => match st with | [] => rv = none ∧ hh = h | _ => False
    | .idiv => match st with | .int y :: .int x :: r => ¬ y = 0 ∧ K (nx, ls, .int (x / y) :: r, h) | _ => False
    | .irem => match st with | .int y :: .int x :: r => ¬ y = 0 ∧ K (nx, ls, .int (x - x / y * y) :: r, h) | _ => False
    | .ldiv => match st with | .long y :: .long x :: r => ¬ y = 0 ∧ K (nx, ls, .long (x / y) :: r, h) | _ => False
    | .lrem => match st with | .long y :: .long x :: r => ¬ y = 0 ∧ K (nx, ls, .long (x - x / y * y) :: r, h) | _ => False
    | .arraylength => match st with | .ref i :: r => (kd i).1 = 13 ∧ K (nx, ls, .int (Int32.ofNat (kd i).2) :: r, h) | _ => False
    | .iaload => match st with
      | .int j :: .ref i :: r => vp_in j (kd i).2 ∧ ((aLv h i ∧ (kd i).1 = 7 ∧ K (nx, ls, .int (h.2.1 i j.toNatClampNeg) :: r, h)) ∨ ((kd i).1 = 13 ∧ K (nx, ls, .int (Z.1 i j.toNatClampNeg) :: r, h)))
      | _ => False
    | .laload => match st with
      | .int j :: .ref i :: r => vp_in j (kd i).2 ∧ ((aLv h i ∧ (kd i).1 = 8 ∧ K (nx, ls, .long (h.2.2.1 i j.toNatClampNeg) :: r, h)) ∨ ((kd i).1 = 14 ∧ K (nx, ls, .long (Z.2 i j.toNatClampNeg) :: r, h)))
      | _ => False
    | .baload => match st with
      | .int j :: .ref i :: r => vp_in j (kd i).2 ∧ aLv h i ∧ (kd i).1 = 9 ∧ K (nx, ls, .int (h.2.1 i j.toNatClampNeg) :: r, h)
      | _ => False
    | .aaload => match st with
      | .int j :: .ref i :: r => vp_in j (kd i).2 ∧ aLv h i ∧ 10 ≤ (kd i).1 ∧ (kd i).1 ≤ 12 ∧ K (nx, ls, va_rf (h.2.2.2 i j.toNatClampNeg) :: r, h)
      | _ => False
    | .iastore => match st with
      | .int x :: .int j :: .ref i :: r => vp_in j (kd i).2 ∧ aLv h i ∧ (kd i).1 = 7 ∧ K (nx, ls, r, h.1, up2 h.2.1 i j.toNatClampNeg x, h.2.2.1, h.2.2.2)
      | _ => False
    | .lastore => match st with
      | .long x :: .int j :: .ref i :: r => vp_in j (kd i).2 ∧ aLv h i ∧ (kd i).1 = 8 ∧ K (nx, ls, r, h.1, h.2.1, up2 h.2.2.1 i j.toNatClampNeg x, h.2.2.2)
      | _ => False
    | .bastore => match st with
      | .int x :: .int j :: .ref i :: r => vp_in j (kd i).2 ∧ aLv h i ∧ (kd i).1 = 9 ∧ (x = 0 ∨ x = 1) ∧ K (nx, ls, r, h.1, up2 h.2.1 i j.toNatClampNeg x, h.2.2.1, h.2.2.2)
      | _ => False
    | .aastore => match st with
      | .ref q :: .int j :: .ref i :: r => vp_in j (kd i).2 ∧ aLv h i ∧ 10 ≤ (kd i).1 ∧ (kd i).1 ≤ 12 ∧ aLv h q ∧ (kd q).1 = a ∧ (kd i).1 = b ∧ K (nx, ls, r, h.1, h.2.1, h.2.2.1, up2 h.2.2.2 i j.toNatClampNeg (some q))
      | _ => False
    | .putfield _ => match st with
      | .int x :: .ref i :: r => aLv h i ∧ (kd i).1 = a ∧ t = 3 ∧ (x = 0 ∨ x = 1) ∧ K (nx, ls, r, h.1, up2 h.2.1 i b x, h.2.2.1, h.2.2.2)
      | _ => False
    | .new _ => (kd h.1) = (a, b) ∧ h.1 < 1000 ∧ aOks h.1 (ls.map (·.2)) ∧ aOks h.1 st ∧ K (nx, ls, .ref h.1 :: st, h.1 + 1, up1 h.2.1 h.1 (fun _ => 0), up1 h.2.2.1 h.1 (fun _ => 0), up1 h.2.2.2 h.1 (fun _ => none))
    | .newarray _ => match st with
      | .int x :: r => (¬ x < 0) ∧ kd h.1 = (a, x.toNatClampNeg) ∧ x.toNatClampNeg ≤ 10000 ∧ h.1 < 1000 ∧ aOks h.1 (ls.map (·.2)) ∧ aOks h.1 r ∧ K (nx, ls, .ref h.1 :: r, h.1 + 1, up1 h.2.1 h.1 (fun _ => 0), up1 h.2.2.1 h.1 (fun _ => 0), up1 h.2.2.2 h.1 (fun _ => none))
      | _ => False
    | .anewarray _ => match st with
      | .int x :: r => (¬ x < 0) ∧ kd h.1 = (a, x.toNatClampNeg) ∧ x.toNatClampNeg ≤ 10000 ∧ h.1 < 1000 ∧ aOks h.1 (ls.map (·.2)) ∧ aOks h.1 r ∧ K (nx, ls, .ref h.1 :: r, h.1 + 1, up1 h.2.1 h.1 (fun _ => 0), up1 h.2.2.1 h.1 (fun _ => 0), up1 h.2.2.2 h.1 (fun _ => none))
      | _ => False
    | .tableswitch dflt lo hi offs => match st with
      | .int x :: r => ((x.toInt < lo ∨ hi < x.toInt) → K (((pc : Int) + dflt).toNat, ls, r, h)) ∧ (∀ off, offs[(x.toInt - lo).toNat]? = some off → ¬ x.toInt < lo → ¬ hi < x.toInt → K (((pc : Int) + off).toNat, ls, r, h))
      | _ => False
    | .lookupswitch dflt ps => match st with
      | .int x :: r => K (((pc : Int) + Op.lookupswitch.offset ps.toList dflt x.toInt).toNat, ls, r, h)
      | _ => False
    | .invokestatic _ => if t = 9 then (match st with
        | .int n :: .int dp :: .ref i1 :: .int sp :: .ref i0 :: r => ¬ sp < 0 ∧ ¬ dp < 0 ∧ ¬ n < 0 ∧ aLv h i0 ∧ aLv h i1 ∧ sp.toNatClampNeg + n.toNatClampNeg ≤ (kd i0).2 ∧ dp.toNatClampNeg + n.toNatClampNeg ≤ (kd i1).2 ∧ (r.map fun v => v.category).sum ≤ 8 ∧
            (((kd i0).1 = 7 ∧ (kd i1).1 = 7 ∧ K (nx, ls, r, h.1, up1 h.2.1 i1 (va_cpy (h.2.1 i0) (h.2.1 i1) sp.toNatClampNeg dp.toNatClampNeg n.toNatClampNeg), h.2.2.1, h.2.2.2)) ∨
             ((kd i0).1 = 8 ∧ (kd i1).1 = 8 ∧ K (nx, ls, r, h.1, h.2.1, up1 h.2.2.1 i1 (va_cpy (h.2.2.1 i0) (h.2.2.1 i1) sp.toNatClampNeg dp.toNatClampNeg n.toNatClampNeg), h.2.2.2)))
        | _ => False)
      else ∃ rv1 h1, b ≤ st.length ∧ ((st.drop b).map fun v => v.category).sum ≤ 8 ∧ X a (st.take b).reverse h rv1 h1 ∧ (h1.1 = h.1 ∨ (aOks h.1 (ls.map (·.2)) ∧ aOks h.1 (st.drop b))) ∧ K (nx, ls, rv1.toList ++ st.drop b, h1)
    | .invokevirtual _ => ∃ rv1 h1, b ≤ st.length ∧ ((st.drop b).map fun v => v.category).sum ≤ 8 ∧ (t = 20 ∨ ∃ i, (st.take b).reverse.head? = some (.ref i) ∧ aLv h i ∧ (kd i).1 = t) ∧ X a (st.take b).reverse h rv1 h1 ∧ (h1.1 = h.1 ∨ (aOks h.1 (ls.map (·.2)) ∧ aOks h.1 (st.drop b))) ∧ K (nx, ls, rv1.toList ++ st.drop b, h1)
    | .invokespecial _ => if t = 8 then (match st with
        | .ref _ :: r => (r.map fun v => v.category).sum ≤ 8 ∧ K (nx, ls, r, h)
        | _ => False)
      else ∃ h1, b ≤ st.length ∧ ((st.drop b).map fun v => v.category).sum ≤ 8 ∧ (∃ i, (st.take b).reverse.head? = some (.ref i)) ∧ X a (st.take b).reverse h none h1 ∧ (h1.1 = h.1 ∨ (aOks h.1 (ls.map (·.2)) ∧ aOks h.1 (st.drop b))) ∧ K (nx, ls, st.drop b, h1)
    | _ => False
def aRun (kd : Nat → Nat × Nat) (Z : aZ) (n0 : Nat) (X : aX) (cd : Nat → Option aI) : Nat → aC → Option Value → aH → Prop
  | 0, _, _, _ => False
  | F + 1, c, rv, hh => match cd c.1 with
    | none => False
    | some ai => match aStp kd n0 ai c with
      | some c' => aRun kd Z n0 X cd F c' rv hh
      | none => aSpc kd Z X (fun c' => aRun kd Z n0 X cd F c' rv hh) ai c rv hh
/-- calls no deeper than d: the numbered methods' codes are cds; Bx: the methods that are known without their code -/
def aEx (kd : Nat → Nat × Nat) (Z : aZ) (n0 : Nat) (Bx : aX) (cds : Nat → Nat → Option aI) : Nat → aX
  | 0 => fun _ _ _ _ _ => False
  | d + 1 => fun y vs h rv hh => n0 ≤ h.1 ∧ ((Bx y vs h rv hh ∧ hh = h) ∨ ∃ F, aRun kd Z n0 (aEx kd Z n0 Bx cds d) (cds y) F (0, lv_args 0 vs, [], h) rv hh)
end
section
/-! values, locals and cells of the abstract machine, read at addresses -/
def aTr (ad : Nat → Nat) : Value → Value
  | .ref i => .ref (ad i)
  | v => v
def aTl (ad : Nat → Nat) (l : aL) : aL := l.map (fun q => (q.1, aTr ad q.2))
theorem aTr_cat (ad : Nat → Nat) (v : Value) : (aTr ad v).category = v.category := by cases v <;> rfl
theorem aTr_rf (ad : Nat → Nat) (r : Option Nat) : aTr ad (va_rf r) = va_rf (r.map ad) := by cases r <;> rfl
theorem aGet_mem : ∀ {l : aL} {i : Nat} {v : Value}, aGet l i = some v → (i, v) ∈ l
  | [], i, v, h => by cases h
  | q :: l, i, v, h => by
    unfold aGet at h
    cases hq : Nat.beq q.1 i with
    | true =>
      rw [hq] at h
      have h1 : q.2 = v := Option.some.inj h
      have h2 : q.1 = i := Nat.eq_of_beq_eq_true hq
      rw [← h1, ← h2]
      exact List.mem_cons_self
    | false =>
      rw [hq] at h
      exact List.mem_cons_of_mem _ (aGet_mem h)
theorem aTl_mem {ad : Nat → Nat} {l : aL} {i : Nat} {v : Value} (h : (i, v) ∈ l) : (i, aTr ad v) ∈ aTl ad l := List.mem_map.mpr ⟨(i, v), h, rfl⟩
theorem aGet_lv {ad : Nat → Nat} {l : aL} {i nL : Nat} {v : Value} {ls : Array Slot} (hl : lv_has ls nL (aTl ad l)) (h : aGet l i = some v) : ls[i]? = some (.val (aTr ad v)) := hl.2.2 (i, aTr ad v) (aTl_mem (aGet_mem h))
theorem aTl_put1 (ad : Nat → Nat) (l : aL) (i : Nat) (v : Value) : (i, aTr ad v) :: (aTl ad l).filter (fun q => !(q.1 == i) && !(q.1 + 1 == i && q.2.category == 2)) = aTl ad (aPut1 l i v) := by
  unfold aPut1 aTl
  rw [List.map_cons, List.filter_map]
  congr 2
  apply List.filter_congr
  intro q _
  simp [aTr_cat]
theorem aTl_put2 (ad : Nat → Nat) (l : aL) (i : Nat) (v : Value) : (i, aTr ad v) :: (aTl ad l).filter (fun q => !(q.1 == i) && (!(q.1 == i + 1) && !(q.1 + 1 == i && q.2.category == 2))) = aTl ad (aPut2 l i v) := by
  unfold aPut2 aTl
  rw [List.map_cons, List.filter_map]
  congr 2
  apply List.filter_congr
  intro q _
  simp [aTr_cat]
theorem aTr_args (ad : Nat → Nat) : ∀ (vs : List Value) (i : Nat), lv_args i (vs.map (aTr ad)) = aTl ad (lv_args i vs)
  | [], _ => rfl
  | v :: vs, i => by
    show (i, aTr ad v) :: lv_args (if (aTr ad v).category = 2 then i + 2 else i + 1) (vs.map (aTr ad)) = (i, aTr ad v) :: aTl ad (lv_args (if v.category = 2 then i + 2 else i + 1) vs)
    rw [aTr_cat, aTr_args ad vs]
/-- what a field holds, by its type's number: 1 long, 2 a reference, else int or boolean -/
def aFv (h : aH) (ad : Nat → Nat) (t i k : Nat) : Value := match t with
  | 1 => .long (h.2.2.1 i k)
  | 2 => va_rf ((h.2.2.2 i k).map ad)
  | _ => .int (h.2.1 i k)
def aEn (kd : Nat → Nat × Nat) (fk : Nat → Nat → Nat) (cy : Nat → ClassId) (h : aH) (ad : Nat → Nat) (i : Nat) : va_E :=
  if (kd i).1 < 7 then .inr ((kd i).1, (List.range (kd i).2).map (fun k => aFv h ad (fk (kd i).1 k) i k))
  else if (kd i).1 = 8 then .inl (cy 8, (kd i).2, .inr (.inl (h.2.2.1 i)))
  else if 10 ≤ (kd i).1 then .inl (cy (kd i).1, (kd i).2, .inr (.inr (.inr (.inr (fun k => (h.2.2.2 i k).map ad)))))
  else .inl (cy (kd i).1, (kd i).2, .inl (h.2.1 i))
def aWd (kd : Nat → Nat × Nat) (fk : Nat → Nat → Nat) (cy : Nat → ClassId) (ad : Nat → Nat) (h : aH) : va_W := (List.range h.1).map (fun i => (ad i, aEn kd fk cy h ad i))
section AW
variable {kd : Nat → Nat × Nat} {fk : Nat → Nat → Nat} {cy : Nat → ClassId} {ad : Nat → Nat} {h : aH}
theorem aWd_at {i : Nat} (hi : i < h.1) : (aWd kd fk cy ad h)[i]? = some (ad i, aEn kd fk cy h ad i) := by
  simp [aWd, hi]
theorem aWd_set {h' : aH} {i : Nat} {e : va_E} (hn : h'.1 = h.1) (he : e = aEn kd fk cy h' ad i) (ho : ∀ j, j ≠ i → aEn kd fk cy h' ad j = aEn kd fk cy h ad j) : (aWd kd fk cy ad h).set i (ad i, e) = aWd kd fk cy ad h' := by
  apply List.ext_getElem?
  intro j
  rw [List.getElem?_set]
  by_cases hj : i = j
  · subst hj
    by_cases hi : i < h.1
    · have h2 : i < h'.1 := by rw [hn]; exact hi
      rw [if_pos rfl, if_pos (by simp [aWd, hi]), aWd_at h2, he]
    · rw [if_pos rfl, if_neg (by simp [aWd, hi])]
      simp [aWd, hn, hi]
  · rw [if_neg hj]
    by_cases hi : j < h.1
    · have h2 : j < h'.1 := by rw [hn]; exact hi
      rw [aWd_at hi, aWd_at h2, ho j (fun e => hj e.symm)]
    · simp [aWd, hn, hi]
theorem up2_ne {α : Type} {f : Nat → Nat → α} {i k j : Nat} {v : α} (hj : j ≠ i) : up2 f i k v j = f j := by
  funext q
  have h1 : Nat.beq j i = false := by
    cases hb : Nat.beq j i with
    | false => rfl
    | true => exact absurd (Nat.eq_of_beq_eq_true hb) hj
  simp [up2, h1]
theorem up2_at {α : Type} {f : Nat → Nat → α} {i k q : Nat} {v : α} : up2 f i k v i q = if q = k then v else f i q := by
  by_cases hq : q = k
  · subst hq
    simp [up2]
  · have h1 : Nat.beq q k = false := by
      cases hb : Nat.beq q k with
      | false => rfl
      | true => exact absurd (Nat.eq_of_beq_eq_true hb) hq
    simp [up2, h1, hq]
theorem up1_ne {α : Type} {f : Nat → Nat → α} {i j : Nat} {g : Nat → α} (hj : j ≠ i) : up1 f i g j = f j := by
  have h1 : Nat.beq j i = false := by
    cases hb : Nat.beq j i with
    | false => rfl
    | true => exact absurd (Nat.eq_of_beq_eq_true hb) hj
  simp [up1, h1]
theorem up1_at {α : Type} {f : Nat → Nat → α} {i : Nat} {g : Nat → α} : up1 f i g i = g := by simp [up1]
theorem aSet_map {n k : Nat} {f g : Nat → Value} {v : Value} (hk : g k = v) (ho : ∀ j, j ≠ k → g j = f j) : ((List.range n).map f).set k v = (List.range n).map g := by
  apply List.ext_getElem?
  intro j
  rw [List.getElem?_set]
  by_cases hj : k = j
  · subst hj
    by_cases hi : k < n
    · rw [if_pos rfl, if_pos (by simp [hi])]
      simp [hi, hk]
    · rw [if_pos rfl, if_neg (by simp [hi])]
      simp [hi]
  · rw [if_neg hj]
    by_cases hi : j < n
    · simp [hi, ho j (fun e => hj e.symm)]
    · simp [hi]
end AW
end
