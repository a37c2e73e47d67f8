section TRY
variable {L : Nat} {xs : Nat → Int32} {fv : Value} {d : Nat} {P : Option Value → aH → Prop}
theorem cl_isWind {w : Int32} {h : aH} (hn : 111 ≤ h.1) (k : P (some (.int (if 0 ≤ w ∧ w < 4 then 1 else 0))) h) : aCl L xs fv 111 (d + 1) 67 [.int w] h P := by
  refine cl_of rfl hn ?_
  refine go_st (cd := cd67) 2 rfl ?_
  refine go_if (fun c1 => ?_) (fun c1 => ?_)
  · refine go_st (cd := cd67) 1 rfl ?_
    refine go_zreturn rfl (Or.inl rfl) ?_
    have e : ¬ (0 ≤ w ∧ w < 4) := fun q => absurd c1 (Int32.not_lt.mpr q.1)
    rw [if_neg e] at k
    exact k
  · refine go_st (cd := cd67) 3 rfl ?_
    refine go_if (fun c2 => ?_) (fun c2 => ?_)
    · refine go_st (cd := cd67) 1 rfl ?_
      refine go_zreturn rfl (Or.inl rfl) ?_
      have e : ¬ (0 ≤ w ∧ w < 4) := fun q => absurd q.2 (Int32.not_lt.mpr c2)
      rw [if_neg e] at k
      exact k
    · refine go_st (cd := cd67) 2 rfl ?_
      refine go_zreturn rfl (Or.inr rfl) ?_
      rw [if_pos ⟨Int32.not_lt.mp c1, Int32.not_le.mp c2⟩] at k
      exact k
end TRY
