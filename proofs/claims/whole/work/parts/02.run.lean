/-- a value names nothing that is younger than n -/
def aOk (n : Nat) : Value → Prop
  | .ref i => i < n ∨ 1000 ≤ i
  | _ => True
def aOks (n : Nat) (l : List Value) : Prop := ∀ v ∈ l, aOk n v
/-- the cells that exist hold no name of a younger one -/
def aHok (h : aH) : Prop := ∀ i k j, i < h.1 → h.2.2.2 i k = some j → j < h.1
abbrev aX : Type := Nat → List Value → aH → Option Value → aH → Prop
/-- what static arrays hold -/
abbrev aZ : Type := (Nat → Nat → Int32) × (Nat → Nat → Int64)
def aLv (h : aH) (i : Nat) : Prop := i < h.1
/-- an instruction with a side condition, a call, an end: K is what goes on -/
def aSpc (kd : Nat → Nat × Nat) (Z : aZ) (X : aX) (K : aC → Prop) (ai : aI) (c : aC) (rv : Option Value) (hh : aH) : Prop :=
  match ai, c with
  | (ins, nx, a, b, t, v), (pc, ls, st, h) =>
    match ins with
    | .ireturn => match st with | [.int x] => (t = 0 ∨ (t = 1 ∧ (x = 0 ∨ x = 1)) ∨ (t = 2 ∧ x = 0) ∨ (t = 3 ∧ narrow .char (.int x) = .int x)) ∧ rv = some (.int x) ∧ hh = h | _ => False
    | .lreturn => match st with | [.long x] => rv = some (.long x) ∧ hh = h | _ => False
    | .areturn => match st with | [.ref x] => rv = some (.ref x) ∧ hh = h | [.null] => rv = some .null ∧ hh = h | _ => False
    | .return_ => match st with | [] => rv = none ∧ hh = h | _ => False
    | .idiv => match st with | .int y :: .int x :: r => ¬ y = 0 ∧ K (nx, ls, .int (x / y) :: r, h) | _ => False
    | .irem => match st with | .int y :: .int x :: r => ¬ y = 0 ∧ K (nx, ls, .int (x - x / y * y) :: r, h) | _ => False
    | .ldiv => match st with | .long y :: .long x :: r => ¬ y = 0 ∧ K (nx, ls, .long (x / y) :: r, h) | _ => False
    | .lrem => match st with | .long y :: .long x :: r => ¬ y = 0 ∧ K (nx, ls, .long (x - x / y * y) :: r, h) | _ => False
    | .arraylength => match st with | .ref i :: r => ((kd i).1 = 13 ∨ (kd i).1 = 16) ∧ K (nx, ls, .int (Int32.ofNat (kd i).2) :: r, h) | _ => False
    | .getfield _ => match st with | .ref i :: r => (kd i).1 = 15 ∧ ((t = 15 ∧ K (nx, ls, .ref (i + 100) :: r, h)) ∨ (t = 16 ∧ K (nx, ls, .int 0 :: r, h))) | _ => False
    | .iaload => match st with
      | .int j :: .ref i :: r => vp_in j (kd i).2 ∧ ((aLv h i ∧ (kd i).1 = 7 ∧ K (nx, ls, .int (h.2.1 i j.toNatClampNeg) :: r, h)) ∨ ((kd i).1 = 13 ∧ K (nx, ls, .int (Z.1 i j.toNatClampNeg) :: r, h)))
      | _ => False
    | .laload => match st with
      | .int j :: .ref i :: r => vp_in j (kd i).2 ∧ ((aLv h i ∧ (kd i).1 = 8 ∧ K (nx, ls, .long (h.2.2.1 i j.toNatClampNeg) :: r, h)) ∨ ((kd i).1 = 14 ∧ K (nx, ls, .long (Z.2 i j.toNatClampNeg) :: r, h)))
      | _ => False
    | .baload => match st with
      | .int j :: .ref i :: r => vp_in j (kd i).2 ∧ ((aLv h i ∧ (kd i).1 = 9 ∧ K (nx, ls, .int (h.2.1 i j.toNatClampNeg) :: r, h)) ∨ ((kd i).1 = 16 ∧ K (nx, ls, .int (Z.1 i j.toNatClampNeg) :: r, h)))
      | _ => False
    | .aaload => match st with
      | .int j :: .ref i :: r => vp_in j (kd i).2 ∧ aLv h i ∧ 10 ≤ (kd i).1 ∧ (kd i).1 ≤ 12 ∧ K (nx, ls, va_rf (h.2.2.2 i j.toNatClampNeg) :: r, h)
      | _ => False
    | .iastore => match st with
      | .int x :: .int j :: .ref i :: r => vp_in j (kd i).2 ∧ aLv h i ∧ (kd i).1 = 7 ∧ K (nx, ls, r, h.1, up2 h.2.1 i j.toNatClampNeg x, h.2.2.1, h.2.2.2)
      | _ => False
    | .lastore => match st with
      | .long x :: .int j :: .ref i :: r => vp_in j (kd i).2 ∧ aLv h i ∧ (kd i).1 = 8 ∧ K (nx, ls, r, h.1, h.2.1, up2 h.2.2.1 i j.toNatClampNeg x, h.2.2.2)
      | _ => False
    | .bastore => match st with
      | .int x :: .int j :: .ref i :: r => vp_in j (kd i).2 ∧ aLv h i ∧ (kd i).1 = 9 ∧ (x = 0 ∨ x = 1) ∧ K (nx, ls, r, h.1, up2 h.2.1 i j.toNatClampNeg x, h.2.2.1, h.2.2.2)
      | _ => False
    | .aastore => match st with
      | .ref q :: .int j :: .ref i :: r => vp_in j (kd i).2 ∧ aLv h i ∧ 10 ≤ (kd i).1 ∧ (kd i).1 ≤ 12 ∧ aLv h q ∧ (kd q).1 = a ∧ (kd i).1 = b ∧ K (nx, ls, r, h.1, h.2.1, h.2.2.1, up2 h.2.2.2 i j.toNatClampNeg (some q))
      | _ => False
    | .putfield _ => match st with
      | .int x :: .ref i :: r => aLv h i ∧ (kd i).1 = a ∧ t = 3 ∧ (x = 0 ∨ x = 1) ∧ K (nx, ls, r, h.1, up2 h.2.1 i b x, h.2.2.1, h.2.2.2)
      | _ => False
    | .new _ => (kd h.1) = (a, b) ∧ h.1 < 1000 ∧ aOks h.1 (ls.map (·.2)) ∧ aOks h.1 st ∧ K (nx, ls, .ref h.1 :: st, h.1 + 1, up1 h.2.1 h.1 (fun _ => 0), up1 h.2.2.1 h.1 (fun _ => 0), up1 h.2.2.2 h.1 (fun _ => none))
    | .newarray _ => match st with
      | .int x :: r => (¬ x < 0) ∧ kd h.1 = (a, x.toNatClampNeg) ∧ x.toNatClampNeg ≤ 10000 ∧ h.1 < 1000 ∧ aOks h.1 (ls.map (·.2)) ∧ aOks h.1 r ∧ K (nx, ls, .ref h.1 :: r, h.1 + 1, up1 h.2.1 h.1 (fun _ => 0), up1 h.2.2.1 h.1 (fun _ => 0), up1 h.2.2.2 h.1 (fun _ => none))
      | _ => False
    | .anewarray _ => match st with
      | .int x :: r => (¬ x < 0) ∧ kd h.1 = (a, x.toNatClampNeg) ∧ x.toNatClampNeg ≤ 10000 ∧ h.1 < 1000 ∧ aOks h.1 (ls.map (·.2)) ∧ aOks h.1 r ∧ K (nx, ls, .ref h.1 :: r, h.1 + 1, up1 h.2.1 h.1 (fun _ => 0), up1 h.2.2.1 h.1 (fun _ => 0), up1 h.2.2.2 h.1 (fun _ => none))
      | _ => False
    | .tableswitch dflt lo hi offs => match st with
      | .int x :: r => ((x.toInt < lo ∨ hi < x.toInt) ∧ K (((pc : Int) + dflt).toNat, ls, r, h)) ∨ (∃ off, offs[(x.toInt - lo).toNat]? = some off ∧ (¬ x.toInt < lo) ∧ (¬ hi < x.toInt) ∧ K (((pc : Int) + off).toNat, ls, r, h))
      | _ => False
    | .lookupswitch dflt ps => match st with
      | .int x :: r => K (((pc : Int) + Op.lookupswitch.offset ps.toList dflt x.toInt).toNat, ls, r, h)
      | _ => False
    | .invokestatic _ => if t = 9 then (match st with
        | .int n :: .int dp :: .ref i1 :: .int sp :: .ref i0 :: r => ¬ sp < 0 ∧ ¬ dp < 0 ∧ ¬ n < 0 ∧ aLv h i0 ∧ aLv h i1 ∧ sp.toNatClampNeg + n.toNatClampNeg ≤ (kd i0).2 ∧ dp.toNatClampNeg + n.toNatClampNeg ≤ (kd i1).2 ∧ (r.map fun v => v.category).sum ≤ 8 ∧
            (((kd i0).1 = 7 ∧ (kd i1).1 = 7 ∧ K (nx, ls, r, h.1, up1 h.2.1 i1 (va_cpy (h.2.1 i0) (h.2.1 i1) sp.toNatClampNeg dp.toNatClampNeg n.toNatClampNeg), h.2.2.1, h.2.2.2)) ∨
             ((kd i0).1 = 8 ∧ (kd i1).1 = 8 ∧ K (nx, ls, r, h.1, h.2.1, up1 h.2.2.1 i1 (va_cpy (h.2.2.1 i0) (h.2.2.1 i1) sp.toNatClampNeg dp.toNatClampNeg n.toNatClampNeg), h.2.2.2)))
        | _ => False)
      else if t = 10 then (match st with | .int y :: .int x :: r => (r.map fun v => v.category).sum ≤ 8 ∧ K (nx, ls, .int (if y < x then y else x) :: r, h) | _ => False)
      else if t = 11 then (match st with | .int y :: .int x :: r => (r.map fun v => v.category).sum ≤ 8 ∧ K (nx, ls, .int (if x < y then y else x) :: r, h) | _ => False)
      else if t = 12 then (match st with | .long y :: .long x :: r => (r.map fun v => v.category).sum ≤ 8 ∧ K (nx, ls, .long (if y < x then y else x) :: r, h) | _ => False)
      else if t = 13 then (match st with | .long x :: r => (r.map fun v => v.category).sum ≤ 8 ∧ K (nx, ls, .long (if 0 < x then x else -x) :: r, h) | _ => False)
      else ∃ rv1 h1, b ≤ st.length ∧ ((st.drop b).map fun v => v.category).sum ≤ 8 ∧ X a (st.take b).reverse h rv1 h1 ∧ (h1.1 = h.1 ∨ (aOks h.1 (ls.map (·.2)) ∧ aOks h.1 (st.drop b))) ∧ K (nx, ls, rv1.toList ++ st.drop b, h1)
    | .invokevirtual _ => ∃ rv1 h1, b ≤ st.length ∧ ((st.drop b).map fun v => v.category).sum ≤ 8 ∧ (∃ i, (st.take b).reverse.head? = some (.ref i) ∧ (((kd i).1 = 15 ∧ t = 20) ∨ (aLv h i ∧ (kd i).1 = t))) ∧ X a (st.take b).reverse h rv1 h1 ∧ (h1.1 = h.1 ∨ (aOks h.1 (ls.map (·.2)) ∧ aOks h.1 (st.drop b))) ∧ K (nx, ls, rv1.toList ++ st.drop b, h1)
    | .invokespecial _ => if t = 8 then (match st with
        | .ref _ :: r => (r.map fun v => v.category).sum ≤ 8 ∧ K (nx, ls, r, h)
        | _ => False)
      else ∃ h1, b ≤ st.length ∧ ((st.drop b).map fun v => v.category).sum ≤ 8 ∧ (∃ i, (st.take b).reverse.head? = some (.ref i)) ∧ X a (st.take b).reverse h none h1 ∧ (h1.1 = h.1 ∨ (aOks h.1 (ls.map (·.2)) ∧ aOks h.1 (st.drop b))) ∧ K (nx, ls, st.drop b, h1)
    | _ => False
def aRun (kd : Nat → Nat × Nat) (Z : aZ) (n0 : Nat) (X : aX) (cd : Nat → Option aI) : Nat → aC → Option Value → aH → Prop
  | 0, _, _, _ => False
  | F + 1, c, rv, hh => match cd c.1 with
    | none => False
    | some ai => match aStp kd n0 ai c with
      | some c' => aRun kd Z n0 X cd F c' rv hh
      | none => aSpc kd Z X (fun c' => aRun kd Z n0 X cd F c' rv hh) ai c rv hh
/-- calls no deeper than d: the numbered methods' codes are cds -/
def aEx (kd : Nat → Nat × Nat) (Z : aZ) (n0 : Nat) (ml : Nat → Nat) (cds : Nat → Nat → Option aI) : Nat → aX
  | 0 => fun _ _ _ _ _ => False
  | d + 1 => fun y vs h rv hh => Nat.ble (vs.map fun v => v.category).sum (ml y) = true ∧ n0 ≤ h.1 ∧ ∃ F, aRun kd Z n0 (aEx kd Z n0 ml cds d) (cds y) F (0, lv_args 0 vs, [], h) rv hh
