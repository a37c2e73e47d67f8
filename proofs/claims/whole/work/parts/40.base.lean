section PR
variable {L : Nat} {xs : Nat → Int32} {fv : Value} {d : Nat}
theorem mayQ_eq {I : Nat → Nat → Int32} (hS : iS I) (hR : iR I) (hW : iW I) (s : Int32) : mayQ (I 8) (I 1 5) s (I 1 0) (I 1 6) (I 1 7) (I 1 4) ↔ mayQ (I 79) (I 77 0) s (I 77 4) (I 77 1) (I 77 2) (I 77 3) := by
  obtain ⟨s0, s1, s2, s3, s4, s5, s6, s7, s8, s9⟩ := hS
  have r1 := hR.2.1
  unfold mayQ
  rw [s0, s4, s5, s6, s7]
  refine and_congr_right fun h => ?_
  have hw := hW s.toNatClampNeg (vlt (vin 6 rfl h.1 (by grind)))
  rw [hw.2.1]
theorem and01 (y : Int32) : y &&& 1 = 0 ∨ y &&& 1 = 1 := by
  by_cases h : y &&& 1 = 1
  · exact Or.inr h
  · refine Or.inl (Int32.toBitVec_inj.mp ?_)
    rw [bt_and1] at h
    apply BitVec.eq_of_getLsbD_eq
    intro i hi
    have e1 : (1 : Int32).toBitVec = 1#32 := rfl
    have e0 : (0 : Int32).toBitVec = 0#32 := rfl
    rw [Int32.toBitVec_and, e1, e0, BitVec.getLsbD_and, BitVec.getLsbD_one]
    by_cases h0 : i = 0
    · subst h0; simpa using h
    · simp [h0]
theorem cl_shown {r : Nat} {rr : Option Nat} {I : Nat → Nat → Int32} {J : Nat → Nat → Int64} {P : Option Value → aH → Prop} {s : Int32} (k1 : s = -1 → P (some (.int (-5))) (aHp r rr I J)) (k0 : ¬ s = -1 → P (some (.int s)) (aHp r rr I J)) : aCl L xs fv 111 (d + 1) 71 [.int s] (aHp r rr I J) P := by
  refine cl_of rfl (Nat.le_add_right _ _) ?_
  repeat' (first
      | (refine go_v (cd := cd71) [] 300 rfl ?_; try simp (disch := decide) only [av0, av1, av3, up2_e, up2_s, up2_o, up1_e, up1_o])
      | refine go_st (cd := cd71) 1 rfl (go_ifT (by decide) ?_)
      | refine go_st (cd := cd71) 1 rfl (go_ifF (by decide) ?_)
      | refine go_st (cd := cd71) 1 rfl (go_ifT (by assumption) ?_)
      | refine go_st (cd := cd71) 1 rfl (go_ifF (by assumption) ?_)
      | (refine go_st (cd := cd71) 1 rfl (go_if (fun hq => ?_) (fun hq => ?_)))
      | refine go_ireturn (cd := cd71) rfl ?_
      | refine go_zreturn (cd := cd71) rfl (Or.inl rfl) ?_
      | refine go_zreturn (cd := cd71) rfl (Or.inr rfl) ?_
      | refine go_lreturn (cd := cd71) rfl ?_
      | refine go_areturn (cd := cd71) rfl ?_
      | refine go_areturnN (cd := cd71) rfl ?_
      | refine go_return (cd := cd71) rfl ?_)
  all_goals first | exact k1 (by grind) | exact k0 (by grind)
end PR
