section PR
variable {L : Nat} {xs : Nat → Int32} {fv : Value} {d : Nat}
theorem pr_ship {w : Int32} {h : aH} (hi : aIn h) : aPair L xs fv (d + 3) 35 101 [.int w] h := by
  obtain ⟨r, rr, A, I, J, rfl, hv0⟩ := hi
  have hv1 : aIn (111 + 3 * r, I, J, aRf r rr) := ⟨r, rr, A, I, J, rfl, hv0⟩
  obtain ⟨hS, hR, hQ, hK, hW, hT, hG, hP, hB, hA, hU, hC, hX⟩ := hv0
  have hS0 := hS
  have hR0 := hR
  obtain ⟨s0, s1, s2, s3, s4, s5, s6, s7, s8, s9⟩ := hS0
  obtain ⟨r0, r1, r2, r3, r4, r5, r6, r7, r8, r9, rA, rB, rC, rD, rE, rF⟩ := hR0
  refine cl_of rfl (Nat.le_add_right _ _) ?_
  repeat' (first
      | (refine go_v (cd := cd35) [] 300 rfl ?_; try simp (disch := decide) only [av0, av1, av3, up2_e, up2_s, up2_o, up1_e, up1_o])
      | refine go_st (cd := cd35) 1 rfl (go_ifT (by decide) ?_)
      | refine go_st (cd := cd35) 1 rfl (go_ifF (by decide) ?_)
      | refine go_st (cd := cd35) 1 rfl (go_ifT (by assumption) ?_)
      | refine go_st (cd := cd35) 1 rfl (go_ifF (by assumption) ?_)
      | (refine go_st (cd := cd35) 1 rfl (go_if (fun hq => ?_) (fun hq => ?_)))
      | refine go_ireturn (cd := cd35) rfl ?_
      | refine go_zreturn (cd := cd35) rfl (Or.inl rfl) ?_
      | refine go_zreturn (cd := cd35) rfl (Or.inr rfl) ?_
      | refine go_lreturn (cd := cd35) rfl ?_
      | refine go_areturn (cd := cd35) rfl ?_
      | refine go_areturnN (cd := cd35) rfl ?_
      | refine go_return (cd := cd35) rfl ?_
      | (refine go_callv (cd := cd35) rfl rfl rfl rfl rfl (lv3 rfl) rfl (cl_shown (fun hq => ⟨rfl, ?_⟩) (fun hq => ⟨rfl, ?_⟩)) <;> (try simp (disch := decide) only [av0, av1, av3, up2_e, up2_s, up2_o, up1_e, up1_o] at hq))
      | (refine go_calls (cd := cd35) rfl rfl rfl rfl rfl (cl_shown (fun hq => ⟨rfl, ?_⟩) (fun hq => ⟨rfl, ?_⟩)) <;> (try simp (disch := decide) only [av0, av1, av3, up2_e, up2_s, up2_o, up1_e, up1_o] at hq))
      | refine go_tsw (cd := cd35) 0 4 rfl rfl rfl rfl (fun hq => ?_) ⟨fun hq => ?_, fun hq => ?_, fun hq => ?_, fun hq => ?_, fun hq => ?_, trivial⟩)
  all_goals refine ⟨Or.inl rfl, _, rfl, cl_of rfl (Nat.le_add_right _ _) ?_⟩
  all_goals (repeat' (first
      | (refine go_v (cd := cd101) [] 300 rfl ?_; try simp (disch := decide) only [av0, av1, av3, up2_e, up2_s, up2_o, up1_e, up1_o])
      | refine go_st (cd := cd101) 1 rfl (go_ifT (by decide) ?_)
      | refine go_st (cd := cd101) 1 rfl (go_ifF (by decide) ?_)
      | refine go_st (cd := cd101) 1 rfl (go_ifT (by assumption) ?_)
      | refine go_st (cd := cd101) 1 rfl (go_ifF (by assumption) ?_)
      | (refine go_st (cd := cd101) 1 rfl (go_if (fun hq => ?_) (fun hq => ?_)) <;> (try simp (disch := decide) only [av0, av1, av3, up2_e, up2_s, up2_o, up1_e, up1_o] at hq) <;> (try (exfalso; clear hv1 hS hR hQ hK hW hT hG hP hB hA hU hC hX s5 s6 s7 s8 s9 r0 r1 r3 r4 r5 r6 r7 r8 r9 rA rB rC rD rE rF; grind)))
      | refine go_ireturn (cd := cd101) rfl ?_
      | refine go_zreturn (cd := cd101) rfl (Or.inl rfl) ?_
      | refine go_zreturn (cd := cd101) rfl (Or.inr rfl) ?_
      | refine go_lreturn (cd := cd101) rfl ?_
      | refine go_areturn (cd := cd101) rfl ?_
      | refine go_areturnN (cd := cd101) rfl ?_
      | refine go_return (cd := cd101) rfl ?_
      | (refine go_tsw (cd := cd101) 0 4 rfl rfl rfl rfl (fun hq => ?_) ⟨fun hq => ?_, fun hq => ?_, fun hq => ?_, fun hq => ?_, fun hq => ?_, trivial⟩ <;> (try simp (disch := decide) only [av0, av1, av3, up2_e, up2_s, up2_o, up1_e, up1_o] at hq) <;> (try (exfalso; clear hv1 hS hR hQ hK hW hT hG hP hB hA hU hC hX s5 s6 s7 s8 s9 r0 r1 r3 r4 r5 r6 r7 r8 r9 rA rB rC rD rE rF; grind)))))
  all_goals first
    | exact ⟨rfl, congrArg (fun q => some (Value.int q)) (by rfl), hv1⟩
    | (exfalso; clear hv1 hS hR hQ hK hW hT hG hP hB hA hU hC hX s5 s6 s7 s8 s9 r0 r1 r3 r4 r5 r6 r7 r8 r9 rA rB rC rD rE rF; grind)
    | exact ⟨rfl, congrArg (fun q => some (Value.int q)) (by first | rfl | (clear hv1 hS hR hQ hK hW hT hG hP hB hA hU hC hX s5 s6 s7 s8 s9 r0 r1 r3 r4 r5 r6 r7 r8 r9 rA rB rC rD rE rF; grind)), hv1⟩
theorem pr_trace {w : Int32} {h : aH} (hi : aIn h) : aPair L xs fv (d + 3) 59 168 [.int w] h := by
  obtain ⟨r, rr, A, I, J, rfl, hv0⟩ := hi
  have hv1 : aIn (111 + 3 * r, I, J, aRf r rr) := ⟨r, rr, A, I, J, rfl, hv0⟩
  obtain ⟨hS, hR, hQ, hK, hW, hT, hG, hP, hB, hA, hU, hC, hX⟩ := hv0
  have hS0 := hS
  have hR0 := hR
  obtain ⟨s0, s1, s2, s3, s4, s5, s6, s7, s8, s9⟩ := hS0
  obtain ⟨r0, r1, r2, r3, r4, r5, r6, r7, r8, r9, rA, rB, rC, rD, rE, rF⟩ := hR0
  have b1 := hB.1
  have b2 := hB.2.2.2
  refine cl_of rfl (Nat.le_add_right _ _) ?_
  repeat' (first
      | (refine go_v (cd := cd59) [] 300 rfl ?_; try simp (disch := decide) only [av0, av1, av3, up2_e, up2_s, up2_o, up1_e, up1_o])
      | refine go_st (cd := cd59) 1 rfl (go_ifT (by decide) ?_)
      | refine go_st (cd := cd59) 1 rfl (go_ifF (by decide) ?_)
      | refine go_st (cd := cd59) 1 rfl (go_ifT (by assumption) ?_)
      | refine go_st (cd := cd59) 1 rfl (go_ifF (by assumption) ?_)
      | (refine go_st (cd := cd59) 1 rfl (go_if (fun hq => ?_) (fun hq => ?_)))
      | refine go_ireturn (cd := cd59) rfl ?_
      | refine go_zreturn (cd := cd59) rfl (Or.inl rfl) ?_
      | refine go_zreturn (cd := cd59) rfl (Or.inr rfl) ?_
      | refine go_lreturn (cd := cd59) rfl ?_
      | refine go_areturn (cd := cd59) rfl ?_
      | refine go_areturnN (cd := cd59) rfl ?_
      | refine go_return (cd := cd59) rfl ?_
      | refine go_iald (cd := cd59) rfl (vin 20 rfl (by grind) (by grind)) (lv3 rfl) rfl ?_)
  all_goals refine ⟨Or.inl rfl, _, rfl, cl_of rfl (Nat.le_add_right _ _) ?_⟩
  all_goals (repeat' (first
      | (refine go_v (cd := cd168) [] 300 rfl ?_; try simp (disch := decide) only [av0, av1, av3, up2_e, up2_s, up2_o, up1_e, up1_o])
      | refine go_st (cd := cd168) 1 rfl (go_ifT (by decide) ?_)
      | refine go_st (cd := cd168) 1 rfl (go_ifF (by decide) ?_)
      | refine go_st (cd := cd168) 1 rfl (go_ifT (by assumption) ?_)
      | refine go_st (cd := cd168) 1 rfl (go_ifF (by assumption) ?_)
      | (refine go_st (cd := cd168) 1 rfl (go_if (fun hq => ?_) (fun hq => ?_)) <;> (try simp (disch := decide) only [av0, av1, av3, up2_e, up2_s, up2_o, up1_e, up1_o] at hq) <;> (try (exfalso; clear hv1 hS hR hQ hK hW hT hG hP hB hA hU hC hX s0 s1 s2 s3 s4 s5 s6 s7 s8 s9 r0 r1 r2 r3 r4 r5 r6 r7 r8 r9 rA rB rC rD rE rF; grind)))
      | refine go_ireturn (cd := cd168) rfl ?_
      | refine go_zreturn (cd := cd168) rfl (Or.inl rfl) ?_
      | refine go_zreturn (cd := cd168) rfl (Or.inr rfl) ?_
      | refine go_lreturn (cd := cd168) rfl ?_
      | refine go_areturn (cd := cd168) rfl ?_
      | refine go_areturnN (cd := cd168) rfl ?_
      | refine go_return (cd := cd168) rfl ?_
      | (refine go_callv (cd := cd168) rfl rfl rfl rfl rfl (lv3 rfl) rfl (cl_in (fun hq => ⟨rfl, ?_⟩) (fun hq => ⟨rfl, ?_⟩)) <;> (try simp (disch := decide) only [av0, av1, av3, up2_e, up2_s, up2_o, up1_e, up1_o] at hq) <;> (try (exfalso; clear hv1 hS hR hQ hK hW hT hG hP hB hA hU hC hX s0 s1 s2 s3 s4 s5 s6 s7 s8 s9 r0 r1 r2 r3 r4 r5 r6 r7 r8 r9 rA rB rC rD rE rF; grind)))
      | (refine go_calls (cd := cd168) rfl rfl rfl rfl rfl (cl_in (fun hq => ⟨rfl, ?_⟩) (fun hq => ⟨rfl, ?_⟩)) <;> (try simp (disch := decide) only [av0, av1, av3, up2_e, up2_s, up2_o, up1_e, up1_o] at hq) <;> (try (exfalso; clear hv1 hS hR hQ hK hW hT hG hP hB hA hU hC hX s0 s1 s2 s3 s4 s5 s6 s7 s8 s9 r0 r1 r2 r3 r4 r5 r6 r7 r8 r9 rA rB rC rD rE rF; grind)))
      | refine go_iald (cd := cd168) rfl (vin 20 rfl (by grind) (by grind)) (lv3 rfl) rfl ?_))
  all_goals first
    | exact ⟨rfl, congrArg (fun q => some (Value.int q)) (by rfl), hv1⟩
    | (exfalso; clear hv1 hS hR hQ hK hW hT hG hP hB hA hU hC hX s0 s1 s2 s3 s4 s5 s6 s7 s8 s9 r0 r1 r2 r3 r4 r5 r6 r7 r8 r9 rA rB rC rD rE rF; grind)
    | exact ⟨rfl, congrArg (fun q => some (Value.int q)) (Eq.symm (b2 w.toNatClampNeg (vlt (vin 20 rfl (by grind) (by grind))))), hv1⟩
theorem pr_count {w : Int32} {h : aH} (hi : aIn h) : aPair L xs fv (d + 3) 61 170 [.int w] h := by
  obtain ⟨r, rr, A, I, J, rfl, hv0⟩ := hi
  have hv1 : aIn (111 + 3 * r, I, J, aRf r rr) := ⟨r, rr, A, I, J, rfl, hv0⟩
  obtain ⟨hS, hR, hQ, hK, hW, hT, hG, hP, hB, hA, hU, hC, hX⟩ := hv0
  have hS0 := hS
  have hR0 := hR
  obtain ⟨s0, s1, s2, s3, s4, s5, s6, s7, s8, s9⟩ := hS0
  obtain ⟨r0, r1, r2, r3, r4, r5, r6, r7, r8, r9, rA, rB, rC, rD, rE, rF⟩ := hR0
  have t1 := hT.1
  have g1 := hG.1
  have g2 := hG.2.1
  have b1 := hB.1
  refine cl_of rfl (Nat.le_add_right _ _) ?_
  repeat' (first
      | (refine go_v (cd := cd61) [] 300 rfl ?_; try simp (disch := decide) only [av0, av1, av3, up2_e, up2_s, up2_o, up1_e, up1_o])
      | refine go_st (cd := cd61) 1 rfl (go_ifT (by decide) ?_)
      | refine go_st (cd := cd61) 1 rfl (go_ifF (by decide) ?_)
      | refine go_st (cd := cd61) 1 rfl (go_ifT (by assumption) ?_)
      | refine go_st (cd := cd61) 1 rfl (go_ifF (by assumption) ?_)
      | (refine go_st (cd := cd61) 1 rfl (go_if (fun hq => ?_) (fun hq => ?_)))
      | refine go_ireturn (cd := cd61) rfl ?_
      | refine go_zreturn (cd := cd61) rfl (Or.inl rfl) ?_
      | refine go_zreturn (cd := cd61) rfl (Or.inr rfl) ?_
      | refine go_lreturn (cd := cd61) rfl ?_
      | refine go_areturn (cd := cd61) rfl ?_
      | refine go_areturnN (cd := cd61) rfl ?_
      | refine go_return (cd := cd61) rfl ?_
      | refine go_tsw (cd := cd61) 0 5 rfl rfl rfl rfl (fun hq => ?_) ⟨fun hq => ?_, fun hq => ?_, fun hq => ?_, fun hq => ?_, fun hq => ?_, fun hq => ?_, trivial⟩)
  all_goals refine ⟨Or.inl rfl, _, rfl, cl_of rfl (Nat.le_add_right _ _) ?_⟩
  all_goals (repeat' (first
      | (refine go_v (cd := cd170) [] 300 rfl ?_; try simp (disch := decide) only [av0, av1, av3, up2_e, up2_s, up2_o, up1_e, up1_o])
      | refine go_st (cd := cd170) 1 rfl (go_ifT (by decide) ?_)
      | refine go_st (cd := cd170) 1 rfl (go_ifF (by decide) ?_)
      | refine go_st (cd := cd170) 1 rfl (go_ifT (by assumption) ?_)
      | refine go_st (cd := cd170) 1 rfl (go_ifF (by assumption) ?_)
      | (refine go_st (cd := cd170) 1 rfl (go_if (fun hq => ?_) (fun hq => ?_)) <;> (try simp (disch := decide) only [av0, av1, av3, up2_e, up2_s, up2_o, up1_e, up1_o] at hq) <;> (try (exfalso; clear hv1 hS hR hQ hK hW hT hG hP hB hA hU hC hX s0 s1 s2 s3 s4 s6 s7 s8 r0 r1 r2 r3 r4 r5 r6 r7 r8 r9 rA rB rC rD rE; grind)))
      | refine go_ireturn (cd := cd170) rfl ?_
      | refine go_zreturn (cd := cd170) rfl (Or.inl rfl) ?_
      | refine go_zreturn (cd := cd170) rfl (Or.inr rfl) ?_
      | refine go_lreturn (cd := cd170) rfl ?_
      | refine go_areturn (cd := cd170) rfl ?_
      | refine go_areturnN (cd := cd170) rfl ?_
      | refine go_return (cd := cd170) rfl ?_
      | (refine go_tsw (cd := cd170) 0 5 rfl rfl rfl rfl (fun hq => ?_) ⟨fun hq => ?_, fun hq => ?_, fun hq => ?_, fun hq => ?_, fun hq => ?_, fun hq => ?_, trivial⟩ <;> (try simp (disch := decide) only [av0, av1, av3, up2_e, up2_s, up2_o, up1_e, up1_o] at hq) <;> (try (exfalso; clear hv1 hS hR hQ hK hW hT hG hP hB hA hU hC hX s0 s1 s2 s3 s4 s6 s7 s8 r0 r1 r2 r3 r4 r5 r6 r7 r8 r9 rA rB rC rD rE; grind)))))
  all_goals first
    | exact ⟨rfl, congrArg (fun q => some (Value.int q)) (by rfl), hv1⟩
    | (exfalso; clear hv1 hS hR hQ hK hW hT hG hP hB hA hU hC hX s0 s1 s2 s3 s4 s6 s7 s8 r0 r1 r2 r3 r4 r5 r6 r7 r8 r9 rA rB rC rD rE; grind)
    | exact ⟨rfl, congrArg (fun q => some (Value.int q)) (by first | rfl | (clear hv1 hS hR hQ hK hW hT hG hP hB hA hU hC hX s0 s1 s2 s3 s4 s6 s7 s8 r0 r1 r2 r3 r4 r5 r6 r7 r8 r9 rA rB rC rD rE; grind)), hv1⟩
theorem pr_of {w : Int32} {g : Int32} {h : aH} (hi : aIn h) : aPair L xs fv (d + 5) 32 98 [.int w, .int g] h := by
  obtain ⟨r, rr, A, I, J, rfl, hv0⟩ := hi
  have hv1 : aIn (111 + 3 * r, I, J, aRf r rr) := ⟨r, rr, A, I, J, rfl, hv0⟩
  obtain ⟨hS, hR, hQ, hK, hW, hT, hG, hP, hB, hA, hU, hC, hX⟩ := hv0
  have hS0 := hS
  have hR0 := hR
  obtain ⟨s0, s1, s2, s3, s4, s5, s6, s7, s8, s9⟩ := hS0
  obtain ⟨r0, r1, r2, r3, r4, r5, r6, r7, r8, r9, rA, rB, rC, rD, rE, rF⟩ := hR0
  have z1 := and01 (I 77 1 >>> (w &&& 31))
  have z2 := and01 (I 77 2 >>> (w &&& 31))
  have mq := mayQ_eq hS hR hW w
  refine cl_of rfl (Nat.le_add_right _ _) ?_
  repeat' (first
      | (refine go_v (cd := cd32) [] 300 rfl ?_; try simp (disch := decide) only [av0, av1, av3, up2_e, up2_s, up2_o, up1_e, up1_o])
      | refine go_st (cd := cd32) 1 rfl (go_ifT (by decide) ?_)
      | refine go_st (cd := cd32) 1 rfl (go_ifF (by decide) ?_)
      | refine go_st (cd := cd32) 1 rfl (go_ifT (by assumption) ?_)
      | refine go_st (cd := cd32) 1 rfl (go_ifF (by assumption) ?_)
      | (refine go_st (cd := cd32) 1 rfl (go_if (fun hq => ?_) (fun hq => ?_)))
      | refine go_ireturn (cd := cd32) rfl ?_
      | refine go_zreturn (cd := cd32) rfl (Or.inl rfl) ?_
      | refine go_zreturn (cd := cd32) rfl (Or.inr rfl) ?_
      | refine go_lreturn (cd := cd32) rfl ?_
      | refine go_areturn (cd := cd32) rfl ?_
      | refine go_areturnN (cd := cd32) rfl ?_
      | refine go_return (cd := cd32) rfl ?_
      | (refine go_callv (cd := cd32) rfl rfl rfl rfl rfl (lv3 rfl) rfl (cl_isSail (fun hq => ⟨rfl, ?_⟩) (fun hq => ⟨rfl, ?_⟩)) <;> (try simp (disch := decide) only [av0, av1, av3, up2_e, up2_s, up2_o, up1_e, up1_o] at hq))
      | (refine go_calls (cd := cd32) rfl rfl rfl rfl rfl (cl_isSail (fun hq => ⟨rfl, ?_⟩) (fun hq => ⟨rfl, ?_⟩)) <;> (try simp (disch := decide) only [av0, av1, av3, up2_e, up2_s, up2_o, up1_e, up1_o] at hq))
      | (refine go_callv (cd := cd32) rfl rfl rfl rfl rfl (lv3 rfl) rfl (cl_may1 (by grind) (fun hq => ⟨rfl, ?_⟩) (fun hq => ⟨rfl, ?_⟩)) <;> (try simp (disch := decide) only [av0, av1, av3, up2_e, up2_s, up2_o, up1_e, up1_o] at hq))
      | (refine go_calls (cd := cd32) rfl rfl rfl rfl rfl (cl_may1 (by grind) (fun hq => ⟨rfl, ?_⟩) (fun hq => ⟨rfl, ?_⟩)) <;> (try simp (disch := decide) only [av0, av1, av3, up2_e, up2_s, up2_o, up1_e, up1_o] at hq))
      | refine go_tsw (cd := cd32) 0 4 rfl rfl rfl rfl (fun hq => ?_) ⟨fun hq => ?_, fun hq => ?_, fun hq => ?_, fun hq => ?_, fun hq => ?_, trivial⟩
      | refine go_iald (cd := cd32) rfl (vin 6 rfl (by grind) (by grind)) (lv3 rfl) rfl ?_)
  all_goals refine ⟨Or.inl rfl, _, rfl, cl_of rfl (Nat.le_add_right _ _) ?_⟩
  all_goals (repeat' (first
      | (refine go_v (cd := cd98) [] 300 rfl ?_; try simp (disch := decide) only [av0, av1, av3, up2_e, up2_s, up2_o, up1_e, up1_o])
      | refine go_st (cd := cd98) 1 rfl (go_ifT (by decide) ?_)
      | refine go_st (cd := cd98) 1 rfl (go_ifF (by decide) ?_)
      | refine go_st (cd := cd98) 1 rfl (go_ifT (by assumption) ?_)
      | refine go_st (cd := cd98) 1 rfl (go_ifF (by assumption) ?_)
      | (refine go_st (cd := cd98) 1 rfl (go_if (fun hq => ?_) (fun hq => ?_)) <;> (try simp (disch := decide) only [av0, av1, av3, up2_e, up2_s, up2_o, up1_e, up1_o] at hq) <;> (try (exfalso; clear hv1 hS hR hQ hK hW hT hG hP hB hA hU hC hX s0 s1 s2 s3 s4 s8 s9 r2 r3 r4 r5 r6 r7 r8 r9 rA rB rC rD rE rF; grind)))
      | refine go_ireturn (cd := cd98) rfl ?_
      | refine go_zreturn (cd := cd98) rfl (Or.inl rfl) ?_
      | refine go_zreturn (cd := cd98) rfl (Or.inr rfl) ?_
      | refine go_lreturn (cd := cd98) rfl ?_
      | refine go_areturn (cd := cd98) rfl ?_
      | refine go_areturnN (cd := cd98) rfl ?_
      | refine go_return (cd := cd98) rfl ?_
      | (refine go_callv (cd := cd98) rfl rfl rfl rfl rfl (lv3 rfl) rfl (cl_misSail (fun hq => ⟨rfl, ?_⟩) (fun hq => ⟨rfl, ?_⟩)) <;> (try simp (disch := decide) only [av0, av1, av3, up2_e, up2_s, up2_o, up1_e, up1_o] at hq) <;> (try (exfalso; clear hv1 hS hR hQ hK hW hT hG hP hB hA hU hC hX s0 s1 s2 s3 s4 s8 s9 r2 r3 r4 r5 r6 r7 r8 r9 rA rB rC rD rE rF; grind)))
      | (refine go_calls (cd := cd98) rfl rfl rfl rfl rfl (cl_misSail (fun hq => ⟨rfl, ?_⟩) (fun hq => ⟨rfl, ?_⟩)) <;> (try simp (disch := decide) only [av0, av1, av3, up2_e, up2_s, up2_o, up1_e, up1_o] at hq) <;> (try (exfalso; clear hv1 hS hR hQ hK hW hT hG hP hB hA hU hC hX s0 s1 s2 s3 s4 s8 s9 r2 r3 r4 r5 r6 r7 r8 r9 rA rB rC rD rE rF; grind)))
      | (refine go_callv (cd := cd98) rfl rfl rfl rfl rfl (lv3 rfl) rfl (cl_has (fun hq => ⟨rfl, ?_⟩) (fun hq => ⟨rfl, ?_⟩)) <;> (try simp (disch := decide) only [av0, av1, av3, up2_e, up2_s, up2_o, up1_e, up1_o] at hq) <;> (try (exfalso; clear hv1 hS hR hQ hK hW hT hG hP hB hA hU hC hX s0 s1 s2 s3 s4 s8 s9 r2 r3 r4 r5 r6 r7 r8 r9 rA rB rC rD rE rF; grind)))
      | (refine go_calls (cd := cd98) rfl rfl rfl rfl rfl (cl_has (fun hq => ⟨rfl, ?_⟩) (fun hq => ⟨rfl, ?_⟩)) <;> (try simp (disch := decide) only [av0, av1, av3, up2_e, up2_s, up2_o, up1_e, up1_o] at hq) <;> (try (exfalso; clear hv1 hS hR hQ hK hW hT hG hP hB hA hU hC hX s0 s1 s2 s3 s4 s8 s9 r2 r3 r4 r5 r6 r7 r8 r9 rA rB rC rD rE rF; grind)))
      | (refine go_callv (cd := cd98) rfl rfl rfl rfl rfl (lv3 rfl) rfl (cl_mayBe r0 r1 (fun hq => ⟨rfl, ?_⟩) (fun hq => ⟨rfl, ?_⟩)) <;> (try simp (disch := decide) only [av0, av1, av3, up2_e, up2_s, up2_o, up1_e, up1_o] at hq) <;> (try (exfalso; clear hv1 hS hR hQ hK hW hT hG hP hB hA hU hC hX s0 s1 s2 s3 s4 s8 s9 r2 r3 r4 r5 r6 r7 r8 r9 rA rB rC rD rE rF; grind)))
      | (refine go_calls (cd := cd98) rfl rfl rfl rfl rfl (cl_mayBe r0 r1 (fun hq => ⟨rfl, ?_⟩) (fun hq => ⟨rfl, ?_⟩)) <;> (try simp (disch := decide) only [av0, av1, av3, up2_e, up2_s, up2_o, up1_e, up1_o] at hq) <;> (try (exfalso; clear hv1 hS hR hQ hK hW hT hG hP hB hA hU hC hX s0 s1 s2 s3 s4 s8 s9 r2 r3 r4 r5 r6 r7 r8 r9 rA rB rC rD rE rF; grind)))
      | (refine go_tsw (cd := cd98) 0 4 rfl rfl rfl rfl (fun hq => ?_) ⟨fun hq => ?_, fun hq => ?_, fun hq => ?_, fun hq => ?_, fun hq => ?_, trivial⟩ <;> (try simp (disch := decide) only [av0, av1, av3, up2_e, up2_s, up2_o, up1_e, up1_o] at hq) <;> (try (exfalso; clear hv1 hS hR hQ hK hW hT hG hP hB hA hU hC hX s0 s1 s2 s3 s4 s8 s9 r2 r3 r4 r5 r6 r7 r8 r9 rA rB rC rD rE rF; grind)))
      | refine go_iald (cd := cd98) rfl (vin 6 rfl (by grind) (by grind)) (lv3 rfl) rfl ?_))
  all_goals first
    | exact ⟨rfl, congrArg (fun q => some (Value.int q)) (by rfl), hv1⟩
    | (exfalso; clear hv1 hS hR hQ hK hW hT hG hP hB hA hU hC hX s0 s1 s2 s3 s4 s8 s9 r2 r3 r4 r5 r6 r7 r8 r9 rA rB rC rD rE rF; grind)
    | exact ⟨rfl, congrArg (fun q => some (Value.int q)) (by first | rfl | (clear hv1 hS hR hQ hK hW hT hG hP hB hA hU hC hX s0 s1 s2 s3 s4 s8 s9 r2 r3 r4 r5 r6 r7 r8 r9 rA rB rC rD rE rF; grind)), hv1⟩
    | exact ⟨rfl, congrArg (fun q => some (Value.int q)) (by have hw := hW w.toNatClampNeg (vlt (vin 6 rfl (by grind) (by grind))); first | exact hw.1.symm | exact hw.2.1.symm), hv1⟩
end PR
