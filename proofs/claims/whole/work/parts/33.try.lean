section TRY
variable {L : Nat} {xs : Nat → Int32} {fv : Value} {d r : Nat} {rr : Option Nat} {I : Nat → Nat → Int32} {J : Nat → Nat → Int64} {P : Option Value → aH → Prop}
theorem cl_sail {w q : Int32} (k : P none aH0) : aCl L xs fv 111 (d + 1) 30 [.ref 0, .int w, .int q] (aHp r rr I J) P := by
  refine cl_of rfl (Nat.le_add_right _ _) ?_
  repeat' (first
    | refine go_w (cd := cd30) 200 rfl ?_
    | refine go_st (cd := cd30) 1 rfl (go_if (fun _ => ?_) (fun _ => ?_))
    | refine go_ireturn (cd := cd30) rfl ?_)
end TRY
