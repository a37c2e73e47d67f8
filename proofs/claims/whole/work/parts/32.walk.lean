/-- which cell names which: r rules are made, the reader last read into rr -/
def aRf (r : Nat) (rr : Option Nat) (i k : Nat) : Option Nat := bif Nat.blt i 111 then (bif Nat.blt i 55 then (bif Nat.blt i 27 then (bif Nat.blt i 13 then (bif Nat.blt i 6 then (bif Nat.blt i 3 then (bif Nat.blt i 1 then (bif Nat.blt k 19 then (bif Nat.blt k 9 then (bif Nat.blt k 4 then (bif Nat.blt k 2 then (bif Nat.blt k 1 then some 1 else some 3) else (bif Nat.blt k 3 then some 5 else none)) else (bif Nat.blt k 6 then (bif Nat.blt k 5 then some 7 else some 8) else (bif Nat.blt k 7 then some 9 else (bif Nat.blt k 8 then some 11 else some 12)))) else (bif Nat.blt k 14 then (bif Nat.blt k 11 then (bif Nat.blt k 10 then none else some 19) else (bif Nat.blt k 12 then some 20 else (bif Nat.blt k 13 then none else some 21))) else (bif Nat.blt k 16 then (bif Nat.blt k 15 then some 24 else some 27) else (bif Nat.blt k 17 then some 28 else (bif Nat.blt k 18 then some 29 else none))))) else none) else (bif Nat.blt i 2 then (bif Nat.blt k 11 then (bif Nat.blt k 5 then none else (bif Nat.blt k 8 then none else (bif Nat.blt k 9 then none else (bif Nat.blt k 10 then none else some 2)))) else none) else none)) else (bif Nat.blt i 4 then (bif Nat.blt k 11 then (bif Nat.blt k 5 then none else (bif Nat.blt k 8 then none else (bif Nat.blt k 9 then none else (bif Nat.blt k 10 then none else some 4)))) else none) else (bif Nat.blt i 5 then none else (bif Nat.blt k 11 then (bif Nat.blt k 5 then none else (bif Nat.blt k 8 then none else (bif Nat.blt k 9 then none else (bif Nat.blt k 10 then none else some 6)))) else none)))) else (bif Nat.blt i 9 then none else (bif Nat.blt i 11 then (bif Nat.blt i 10 then (bif Nat.blt k 5 then (bif Nat.blt k 2 then (bif Nat.blt k 1 then some 10 else none) else (bif Nat.blt k 3 then none else (bif Nat.blt k 4 then none else rr))) else none) else none) else (bif Nat.blt i 12 then (bif Nat.blt k 5 then (bif Nat.blt k 2 then (bif Nat.blt k 1 then some 30 else some 37) else (bif Nat.blt k 3 then some 44 else (bif Nat.blt k 4 then some 51 else some 58))) else none) else (bif Nat.blt k 9 then (bif Nat.blt k 4 then (bif Nat.blt k 2 then (bif Nat.blt k 1 then none else some 13) else (bif Nat.blt k 3 then some 14 else some 15)) else (bif Nat.blt k 6 then (bif Nat.blt k 5 then some 16 else some 17) else (bif Nat.blt k 7 then none else (bif Nat.blt k 8 then none else some 18)))) else none))))) else (bif Nat.blt i 20 then none else (bif Nat.blt i 23 then (bif Nat.blt i 21 then (bif Nat.blt k r then some (111 + 3 * k) else none) else (bif Nat.blt i 22 then (bif Nat.blt k 5 then (bif Nat.blt k 2 then none else (bif Nat.blt k 3 then none else (bif Nat.blt k 4 then some 22 else some 23))) else none) else none)) else (bif Nat.blt i 25 then (bif Nat.blt i 24 then none else (bif Nat.blt k 5 then (bif Nat.blt k 2 then none else (bif Nat.blt k 3 then none else (bif Nat.blt k 4 then some 25 else some 26))) else none)) else none)))) else (bif Nat.blt i 41 then (bif Nat.blt i 34 then (bif Nat.blt i 30 then (bif Nat.blt i 28 then none else (bif Nat.blt i 29 then (bif Nat.blt k 6 then (bif Nat.blt k 3 then (bif Nat.blt k 1 then some 65 else (bif Nat.blt k 2 then some 67 else some 69)) else (bif Nat.blt k 4 then some 71 else (bif Nat.blt k 5 then some 73 else some 75))) else none) else none)) else (bif Nat.blt i 32 then (bif Nat.blt i 31 then (bif Nat.blt k 9 then (bif Nat.blt k 4 then (bif Nat.blt k 2 then (bif Nat.blt k 1 then none else some 31) else (bif Nat.blt k 3 then some 32 else some 33)) else (bif Nat.blt k 6 then (bif Nat.blt k 5 then some 34 else some 35) else (bif Nat.blt k 7 then none else (bif Nat.blt k 8 then none else some 36)))) else none) else none) else none)) else (bif Nat.blt i 37 then none else (bif Nat.blt i 39 then (bif Nat.blt i 38 then (bif Nat.blt k 9 then (bif Nat.blt k 4 then (bif Nat.blt k 2 then (bif Nat.blt k 1 then none else some 38) else (bif Nat.blt k 3 then some 39 else some 40)) else (bif Nat.blt k 6 then (bif Nat.blt k 5 then some 41 else some 42) else (bif Nat.blt k 7 then none else (bif Nat.blt k 8 then none else some 43)))) else none) else none) else none))) else (bif Nat.blt i 48 then (bif Nat.blt i 44 then none else (bif Nat.blt i 46 then (bif Nat.blt i 45 then (bif Nat.blt k 9 then (bif Nat.blt k 4 then (bif Nat.blt k 2 then (bif Nat.blt k 1 then none else some 45) else (bif Nat.blt k 3 then some 46 else some 47)) else (bif Nat.blt k 6 then (bif Nat.blt k 5 then some 48 else some 49) else (bif Nat.blt k 7 then none else (bif Nat.blt k 8 then none else some 50)))) else none) else none) else none)) else (bif Nat.blt i 51 then none else (bif Nat.blt i 53 then (bif Nat.blt i 52 then (bif Nat.blt k 9 then (bif Nat.blt k 4 then (bif Nat.blt k 2 then (bif Nat.blt k 1 then none else some 52) else (bif Nat.blt k 3 then some 53 else some 54)) else (bif Nat.blt k 6 then (bif Nat.blt k 5 then some 55 else some 56) else (bif Nat.blt k 7 then none else (bif Nat.blt k 8 then none else some 57)))) else none) else none) else none))))) else (bif Nat.blt i 83 then (bif Nat.blt i 69 then (bif Nat.blt i 62 then (bif Nat.blt i 58 then none else (bif Nat.blt i 60 then (bif Nat.blt i 59 then (bif Nat.blt k 9 then (bif Nat.blt k 4 then (bif Nat.blt k 2 then (bif Nat.blt k 1 then none else some 59) else (bif Nat.blt k 3 then some 60 else some 61)) else (bif Nat.blt k 6 then (bif Nat.blt k 5 then some 62 else some 63) else (bif Nat.blt k 7 then none else (bif Nat.blt k 8 then none else some 64)))) else none) else none) else none)) else (bif Nat.blt i 65 then none else (bif Nat.blt i 67 then (bif Nat.blt i 66 then (bif Nat.blt k 3 then (bif Nat.blt k 1 then none else (bif Nat.blt k 2 then none else some 66)) else none) else none) else (bif Nat.blt i 68 then (bif Nat.blt k 3 then (bif Nat.blt k 1 then none else (bif Nat.blt k 2 then none else some 68)) else none) else none)))) else (bif Nat.blt i 76 then (bif Nat.blt i 72 then (bif Nat.blt i 70 then (bif Nat.blt k 3 then (bif Nat.blt k 1 then none else (bif Nat.blt k 2 then none else some 70)) else none) else (bif Nat.blt i 71 then none else (bif Nat.blt k 3 then (bif Nat.blt k 1 then none else (bif Nat.blt k 2 then none else some 72)) else none))) else (bif Nat.blt i 74 then (bif Nat.blt i 73 then none else (bif Nat.blt k 3 then (bif Nat.blt k 1 then none else (bif Nat.blt k 2 then none else some 74)) else none)) else (bif Nat.blt i 75 then none else (bif Nat.blt k 3 then (bif Nat.blt k 1 then none else (bif Nat.blt k 2 then none else some 76)) else none)))) else (bif Nat.blt i 79 then (bif Nat.blt i 77 then none else (bif Nat.blt i 78 then (bif Nat.blt k 69 then (bif Nat.blt k 34 then (bif Nat.blt k 17 then (bif Nat.blt k 8 then none else (bif Nat.blt k 12 then (bif Nat.blt k 10 then (bif Nat.blt k 9 then some 78 else some 79) else none) else (bif Nat.blt k 14 then none else (bif Nat.blt k 15 then none else (bif Nat.blt k 16 then some 80 else some 81))))) else (bif Nat.blt k 25 then (bif Nat.blt k 21 then (bif Nat.blt k 19 then (bif Nat.blt k 18 then some 82 else some 83) else (bif Nat.blt k 20 then some 84 else some 85)) else (bif Nat.blt k 23 then (bif Nat.blt k 22 then some 86 else some 87) else (bif Nat.blt k 24 then some 88 else none))) else (bif Nat.blt k 29 then (bif Nat.blt k 27 then none else (bif Nat.blt k 28 then some 89 else some 90)) else (bif Nat.blt k 31 then (bif Nat.blt k 30 then none else some 91) else (bif Nat.blt k 32 then some 92 else (bif Nat.blt k 33 then some 93 else some 94)))))) else (bif Nat.blt k 51 then (bif Nat.blt k 42 then (bif Nat.blt k 38 then (bif Nat.blt k 36 then none else (bif Nat.blt k 37 then some 95 else some 96)) else (bif Nat.blt k 40 then (bif Nat.blt k 39 then some 97 else some 98) else (bif Nat.blt k 41 then some 99 else some 100))) else (bif Nat.blt k 46 then (bif Nat.blt k 44 then (bif Nat.blt k 43 then some 101 else some 102) else none) else (bif Nat.blt k 48 then none else (bif Nat.blt k 49 then some 103 else (bif Nat.blt k 50 then none else some 104))))) else (bif Nat.blt k 60 then none else (bif Nat.blt k 64 then (bif Nat.blt k 62 then none else (bif Nat.blt k 63 then some 105 else none)) else (bif Nat.blt k 66 then (bif Nat.blt k 65 then some 106 else some 107) else (bif Nat.blt k 67 then some 108 else (bif Nat.blt k 68 then some 109 else some 110))))))) else none) else none)) else none))) else none)) else bif Nat.blt i (111 + 3 * r) && Nat.beq ((i - 111) % 3) 0 then (bif Nat.beq k 3 then some (i + 1) else bif Nat.beq k 4 then some (i + 2) else none) else none
abbrev aHp (r : Nat) (rr : Option Nat) (I : Nat → Nat → Int32) (J : Nat → Nat → Int64) : aH := (111 + 3 * r, I, J, aRf r rr)
def aBrk : Instr → Bool
  | .ifCond _ _ => true
  | .if_icmp _ _ => true
  | _ => false
/-- on and on, up to a branch or an instruction with a side condition -/
def aStW (kd : Nat → Nat × Nat) (n0 : Nat) (cd : Nat → Option aI) : Nat → aC → Option aC
  | 0, c => some c
  | k + 1, c => match cd c.1 with
    | none => some c
    | some ai => match aBrk ai.1 with
      | true => some c
      | false => match aStp kd n0 ai c with
        | none => some c
        | some c' => aStW kd n0 cd k c'
def aStP (kd : Nat → Nat × Nat) (n0 : Nat) (cd : Nat → Option aI) (k : Nat) (c : aC) : Option aC :=
  match cd c.1 with
  | none => none
  | some ai => match aBrk ai.1 with
    | true => none
    | false => match aStp kd n0 ai c with
      | none => none
      | some c' => aStW kd n0 cd k c'
section GW
variable {L : Nat} {xs : Nat → Int32} {fv : Value} {n0 d : Nat} {cd : Nat → Option aI} {P : Option Value → aH → Prop}
theorem go_w0 {c c' : aC} (k : Nat) (hs : aStW (akd L) n0 cd k c = some c') (h : aTo L xs fv n0 d cd c' P) : aTo L xs fv n0 d cd c P := by
  induction k generalizing c with
  | zero => cases hs; exact h
  | succ k ih =>
    unfold aStW at hs
    split at hs
    next => cases hs; exact h
    next ai hai =>
      split at hs
      next => cases hs; exact h
      next =>
        split at hs
        next => cases hs; exact h
        next c1 h1 => exact go_st 1 (by unfold aStN; rw [hai]; dsimp only; rw [h1]; rfl) (ih hs)
theorem go_w {c c' : aC} (k : Nat) (hs : aStP (akd L) n0 cd k c = some c') (h : aTo L xs fv n0 d cd c' P) : aTo L xs fv n0 d cd c P := by
  unfold aStP at hs
  split at hs
  next => cases hs
  next ai hai =>
    split at hs
    next => cases hs
    next =>
      split at hs
      next => cases hs
      next c1 h1 => exact go_st 1 (by unfold aStN; rw [hai]; dsimp only; rw [h1]; rfl) (go_w0 k hs h)
end GW
