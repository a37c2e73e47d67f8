section PR
variable {L : Nat} {xs : Nat → Int32} {fv : Value} {d : Nat}
theorem pr_set {w : Int32} {g : Int32} {h : aH} (hi : aIn h) : aPair L xs fv (d + 3) 33 99 [.int w, .int g] h := by
  obtain ⟨r, rr, A, I, J, rfl, hv0⟩ := hi
  have hv1 : aIn (111 + 3 * r, I, J, aRf r rr) := ⟨r, rr, A, I, J, rfl, hv0⟩
  obtain ⟨hS, hR, hQ, hK, hW, hT, hG, hP, hB, hA, hU, hC, hX⟩ := hv0
  have hS0 := hS
  have hR0 := hR
  obtain ⟨s0, s1, s2, s3, s4, s5, s6, s7, s8, s9⟩ := hS0
  obtain ⟨r0, r1, r2, r3, r4, r5, r6, r7, r8, r9, rA, rB, rC, rD, rE, rF⟩ := hR0
  refine cl_of rfl (Nat.le_add_right _ _) ?_
  repeat' (first
      | (refine go_v (cd := cd33) [] 300 rfl ?_; try simp (disch := decide) only [av0, av1, av3, up2_e, up2_s, up2_o, up1_e, up1_o])
      | refine go_st (cd := cd33) 1 rfl (go_ifT (by decide) ?_)
      | refine go_st (cd := cd33) 1 rfl (go_ifF (by decide) ?_)
      | refine go_st (cd := cd33) 1 rfl (go_ifT (by assumption) ?_)
      | refine go_st (cd := cd33) 1 rfl (go_ifF (by assumption) ?_)
      | (refine go_st (cd := cd33) 1 rfl (go_if (fun hq => ?_) (fun hq => ?_)))
      | refine go_ireturn (cd := cd33) rfl ?_
      | refine go_zreturn (cd := cd33) rfl (Or.inl rfl) ?_
      | refine go_zreturn (cd := cd33) rfl (Or.inr rfl) ?_
      | refine go_lreturn (cd := cd33) rfl ?_
      | refine go_areturn (cd := cd33) rfl ?_
      | refine go_areturnN (cd := cd33) rfl ?_
      | refine go_return (cd := cd33) rfl ?_)
  all_goals refine ⟨Or.inl rfl, _, rfl, cl_of rfl (Nat.le_add_right _ _) ?_⟩
  all_goals (repeat' (first
      | (refine go_v (cd := cd99) [] 300 rfl ?_; try simp (disch := decide) only [av0, av1, av3, up2_e, up2_s, up2_o, up1_e, up1_o])
      | refine go_st (cd := cd99) 1 rfl (go_ifT (by decide) ?_)
      | refine go_st (cd := cd99) 1 rfl (go_ifF (by decide) ?_)
      | refine go_st (cd := cd99) 1 rfl (go_ifT (by assumption) ?_)
      | refine go_st (cd := cd99) 1 rfl (go_ifF (by assumption) ?_)
      | (refine go_st (cd := cd99) 1 rfl (go_if (fun hq => ?_) (fun hq => ?_)) <;> (try simp (disch := decide) only [av0, av1, av3, up2_e, up2_s, up2_o, up1_e, up1_o] at hq) <;> (try (exfalso; clear hv1 hS hR hQ hK hW hT hG hP hB hA hU hC hX s0 s3 s5 s6 s7 s8 s9 r0 r1 r2 r3 r4 r5 r6 r7 r8 r9 rA rB rC rD rE rF; grind)))
      | refine go_ireturn (cd := cd99) rfl ?_
      | refine go_zreturn (cd := cd99) rfl (Or.inl rfl) ?_
      | refine go_zreturn (cd := cd99) rfl (Or.inr rfl) ?_
      | refine go_lreturn (cd := cd99) rfl ?_
      | refine go_areturn (cd := cd99) rfl ?_
      | refine go_areturnN (cd := cd99) rfl ?_
      | refine go_return (cd := cd99) rfl ?_
      | (refine go_callv (cd := cd99) rfl rfl rfl rfl rfl (lv3 rfl) rfl (cl_in (fun hq => ⟨rfl, ?_⟩) (fun hq => ⟨rfl, ?_⟩)) <;> (try simp (disch := decide) only [av0, av1, av3, up2_e, up2_s, up2_o, up1_e, up1_o] at hq) <;> (try (exfalso; clear hv1 hS hR hQ hK hW hT hG hP hB hA hU hC hX s0 s3 s5 s6 s7 s8 s9 r0 r1 r2 r3 r4 r5 r6 r7 r8 r9 rA rB rC rD rE rF; grind)))
      | (refine go_calls (cd := cd99) rfl rfl rfl rfl rfl (cl_in (fun hq => ⟨rfl, ?_⟩) (fun hq => ⟨rfl, ?_⟩)) <;> (try simp (disch := decide) only [av0, av1, av3, up2_e, up2_s, up2_o, up1_e, up1_o] at hq) <;> (try (exfalso; clear hv1 hS hR hQ hK hW hT hG hP hB hA hU hC hX s0 s3 s5 s6 s7 s8 s9 r0 r1 r2 r3 r4 r5 r6 r7 r8 r9 rA rB rC rD rE rF; grind)))))
  all_goals first
    | exact ⟨rfl, congrArg (fun q => some (Value.int q)) (by rfl), hv1⟩
    | (exfalso; clear hv1 hS hR hQ hK hW hT hG hP hB hA hU hC hX s0 s3 s5 s6 s7 s8 s9 r0 r1 r2 r3 r4 r5 r6 r7 r8 r9 rA rB rC rD rE rF; grind)
    | exact ⟨rfl, congrArg (fun q => some (Value.int q)) (by first | rfl | (clear hv1 hS hR hQ hK hW hT hG hP hB hA hU hC hX s0 s3 s5 s6 s7 s8 s9 r0 r1 r2 r3 r4 r5 r6 r7 r8 r9 rA rB rC rD rE rF; grind)), hv1⟩
    | exact ⟨rfl, congrArg (fun q => some (Value.int q)) (by first | rfl | (clear hv1 hS hR hQ hK hW hT hG hP hB hA hU hC hX s0 s3 s5 s6 s7 s8 s9 r0 r1 r2 r3 r4 r5 r6 r7 r8 r9 rA rB rC rD rE rF; grind)), aIn_mk (by simp (disch := decide) only [iS, av0, av1, av3, up2_e, up2_s, up2_o, up1_e, up1_o]; first | (simp only [s0, s1, s2, s3, s4, s5, s6, s7, s8, s9, and_self]; done) | grind) (by simp (disch := decide) only [iR, av0, av1, av3, up2_e, up2_s, up2_o, up1_e, up1_o]; refine ⟨?_, ?_, ?_, ?_, ?_, ?_, ?_, ?_, ?_, ?_, ?_, ?_, ?_, ?_, ?_, ?_⟩ <;> first | assumption | (clear hv1 hS hR hQ hK hW hT hG hP hB hA hU hC hX s0 s1 s2 s3 s4 s6 s7 s8 s9; grind)) hQ hK hW hT (iG_c (I := I) rfl rfl rfl rfl rfl rfl (by intro j hj; simp (disch := first | assumption | decide) only [up2_f, up1_f]) hG) (iP_c (I := I) rfl rfl (by intro j hj; simp (disch := first | exact hj | decide) only [up2_b (a := 65) (b := 77), up1_b (a := 65) (b := 77)]) hP) hB hA hU (iC_c (I := I) rfl rfl rfl rfl rfl rfl rfl rfl (by intro j hj; have hj : bw 12 19 j := hj; simp (disch := first | exact hj | decide) only [up2_b (a := 12) (b := 19), up1_b (a := 12) (b := 19)]) (by intro j hj; have hj : bw 30 65 j := hj; simp (disch := first | exact hj | decide) only [up2_b (a := 30) (b := 65), up1_b (a := 30) (b := 65)]) hC) hX⟩
theorem pr_squall {w : Int32} {h : aH} (hi : aIn h) : aPair L xs fv (d + 3) 52 153 [.int w] h := by
  obtain ⟨r, rr, A, I, J, rfl, hv0⟩ := hi
  have hv1 : aIn (111 + 3 * r, I, J, aRf r rr) := ⟨r, rr, A, I, J, rfl, hv0⟩
  obtain ⟨hS, hR, hQ, hK, hW, hT, hG, hP, hB, hA, hU, hC, hX⟩ := hv0
  have hS0 := hS
  have hR0 := hR
  obtain ⟨s0, s1, s2, s3, s4, s5, s6, s7, s8, s9⟩ := hS0
  obtain ⟨r0, r1, r2, r3, r4, r5, r6, r7, r8, r9, rA, rB, rC, rD, rE, rF⟩ := hR0
  refine cl_of rfl (Nat.le_add_right _ _) ?_
  repeat' (first
      | (refine go_v (cd := cd52) [] 300 rfl ?_; try simp (disch := decide) only [av0, av1, av3, up2_e, up2_s, up2_o, up1_e, up1_o])
      | refine go_st (cd := cd52) 1 rfl (go_ifT (by decide) ?_)
      | refine go_st (cd := cd52) 1 rfl (go_ifF (by decide) ?_)
      | refine go_st (cd := cd52) 1 rfl (go_ifT (by assumption) ?_)
      | refine go_st (cd := cd52) 1 rfl (go_ifF (by assumption) ?_)
      | (refine go_st (cd := cd52) 1 rfl (go_if (fun hq => ?_) (fun hq => ?_)))
      | refine go_ireturn (cd := cd52) rfl ?_
      | refine go_zreturn (cd := cd52) rfl (Or.inl rfl) ?_
      | refine go_zreturn (cd := cd52) rfl (Or.inr rfl) ?_
      | refine go_lreturn (cd := cd52) rfl ?_
      | refine go_areturn (cd := cd52) rfl ?_
      | refine go_areturnN (cd := cd52) rfl ?_
      | refine go_return (cd := cd52) rfl ?_
      | (refine go_callv (cd := cd52) rfl rfl rfl rfl rfl (lv3 rfl) rfl (cl_isWind (fun hq => ⟨rfl, ?_⟩) (fun hq => ⟨rfl, ?_⟩)) <;> (try simp (disch := decide) only [av0, av1, av3, up2_e, up2_s, up2_o, up1_e, up1_o] at hq))
      | (refine go_calls (cd := cd52) rfl rfl rfl rfl rfl (cl_isWind (fun hq => ⟨rfl, ?_⟩) (fun hq => ⟨rfl, ?_⟩)) <;> (try simp (disch := decide) only [av0, av1, av3, up2_e, up2_s, up2_o, up1_e, up1_o] at hq))
      | refine go_iast (cd := cd52) rfl (vin 6 rfl (by grind) (by grind)) (lv3 rfl) rfl ?_)
  all_goals refine ⟨Or.inl rfl, _, rfl, cl_of rfl (Nat.le_add_right _ _) ?_⟩
  all_goals (repeat' (first
      | (refine go_v (cd := cd153) [] 300 rfl ?_; try simp (disch := decide) only [av0, av1, av3, up2_e, up2_s, up2_o, up1_e, up1_o])
      | refine go_st (cd := cd153) 1 rfl (go_ifT (by decide) ?_)
      | refine go_st (cd := cd153) 1 rfl (go_ifF (by decide) ?_)
      | refine go_st (cd := cd153) 1 rfl (go_ifT (by assumption) ?_)
      | refine go_st (cd := cd153) 1 rfl (go_ifF (by assumption) ?_)
      | (refine go_st (cd := cd153) 1 rfl (go_if (fun hq => ?_) (fun hq => ?_)) <;> (try simp (disch := decide) only [av0, av1, av3, up2_e, up2_s, up2_o, up1_e, up1_o] at hq) <;> (try (exfalso; clear hv1 hS hR hQ hK hW hT hG hP hB hA hU hC hX s0 s1 s2 s3 s4 s5 s6 s7 s8 r0 r1 r2 r3 r4 r5 r6 r7 r8 r9 rA rB rC rF; grind)))
      | refine go_ireturn (cd := cd153) rfl ?_
      | refine go_zreturn (cd := cd153) rfl (Or.inl rfl) ?_
      | refine go_zreturn (cd := cd153) rfl (Or.inr rfl) ?_
      | refine go_lreturn (cd := cd153) rfl ?_
      | refine go_areturn (cd := cd153) rfl ?_
      | refine go_areturnN (cd := cd153) rfl ?_
      | refine go_return (cd := cd153) rfl ?_
      | (refine go_callv (cd := cd153) rfl rfl rfl rfl rfl (lv3 rfl) rfl (cl_misWind (fun hq => ⟨rfl, ?_⟩) (fun hq => ⟨rfl, ?_⟩)) <;> (try simp (disch := decide) only [av0, av1, av3, up2_e, up2_s, up2_o, up1_e, up1_o] at hq) <;> (try (exfalso; clear hv1 hS hR hQ hK hW hT hG hP hB hA hU hC hX s0 s1 s2 s3 s4 s5 s6 s7 s8 r0 r1 r2 r3 r4 r5 r6 r7 r8 r9 rA rB rC rF; grind)))
      | (refine go_calls (cd := cd153) rfl rfl rfl rfl rfl (cl_misWind (fun hq => ⟨rfl, ?_⟩) (fun hq => ⟨rfl, ?_⟩)) <;> (try simp (disch := decide) only [av0, av1, av3, up2_e, up2_s, up2_o, up1_e, up1_o] at hq) <;> (try (exfalso; clear hv1 hS hR hQ hK hW hT hG hP hB hA hU hC hX s0 s1 s2 s3 s4 s5 s6 s7 s8 r0 r1 r2 r3 r4 r5 r6 r7 r8 r9 rA rB rC rF; grind)))
      | refine go_iast (cd := cd153) rfl (vin 6 rfl (by grind) (by grind)) (lv3 rfl) rfl ?_))
  all_goals first
    | exact ⟨rfl, congrArg (fun q => some (Value.int q)) (by rfl), hv1⟩
    | (exfalso; clear hv1 hS hR hQ hK hW hT hG hP hB hA hU hC hX s0 s1 s2 s3 s4 s5 s6 s7 s8 r0 r1 r2 r3 r4 r5 r6 r7 r8 r9 rA rB rC rF; grind)
    | exact ⟨rfl, congrArg (fun q => some (Value.int q)) (by first | rfl | (clear hv1 hS hR hQ hK hW hT hG hP hB hA hU hC hX s0 s1 s2 s3 s4 s5 s6 s7 s8 r0 r1 r2 r3 r4 r5 r6 r7 r8 r9 rA rB rC rF; grind)), hv1⟩
    | exact ⟨rfl, congrArg (fun q => some (Value.int q)) (by first | rfl | (clear hv1 hS hR hQ hK hW hT hG hP hB hA hU hC hX s0 s1 s2 s3 s4 s5 s6 s7 s8 r0 r1 r2 r3 r4 r5 r6 r7 r8 r9 rA rB rC rF; grind)), aIn_mk (by simp (disch := decide) only [iS, av0, av1, av3, up2_e, up2_s, up2_o, up1_e, up1_o]; first | (simp only [s0, s1, s2, s3, s4, s5, s6, s7, s8, s9, and_self]; done) | grind) (by simp (disch := decide) only [iR, av0, av1, av3, up2_e, up2_s, up2_o, up1_e, up1_o]; refine ⟨?_, ?_, ?_, ?_, ?_, ?_, ?_, ?_, ?_, ?_, ?_, ?_, ?_, ?_, ?_, ?_⟩ <;> first | assumption | (clear hv1 hS hR hQ hK hW hT hG hP hB hA hU hC hX s0 s1 s2 s3 s4 s6 s7 s8 s9; grind)) (by intro k hk; have hw := hQ k hk; simp (disch := decide) only [av0, av1, av3, up2_e, up2_s, up2_o, up1_e, up1_o, up2_at]; grind) hK hW hT (iG_c (I := I) rfl rfl rfl rfl rfl rfl (by intro j hj; simp (disch := first | assumption | decide) only [up2_f, up1_f]) hG) (iP_c (I := I) rfl rfl (by intro j hj; simp (disch := first | exact hj | decide) only [up2_b (a := 65) (b := 77), up1_b (a := 65) (b := 77)]) hP) hB hA hU (iC_c (I := I) rfl rfl rfl rfl rfl rfl rfl rfl (by intro j hj; have hj : bw 12 19 j := hj; simp (disch := first | exact hj | decide) only [up2_b (a := 12) (b := 19), up1_b (a := 12) (b := 19)]) (by intro j hj; have hj : bw 30 65 j := hj; simp (disch := first | exact hj | decide) only [up2_b (a := 30) (b := 65), up1_b (a := 30) (b := 65)]) hC) hX⟩
end PR
