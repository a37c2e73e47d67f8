section PR
variable {L : Nat} {xs : Nat → Int32} {fv : Value} {d : Nat}
theorem pr_hoist {w : Int32} {h : aH} (hi : aIn h) : aPair L xs fv (d + 5) 34 100 [.int w] h := by
  obtain ⟨r, rr, A, I, J, rfl, hv0⟩ := hi
  have hv1 : aIn (111 + 3 * r, I, J, aRf r rr) := ⟨r, rr, A, I, J, rfl, hv0⟩
  obtain ⟨hS, hR, hQ, hK, hW, hT, hG, hP, hB, hA, hU, hC, hX⟩ := hv0
  have hS0 := hS
  have hR0 := hR
  obtain ⟨s0, s1, s2, s3, s4, s5, s6, s7, s8, s9⟩ := hS0
  obtain ⟨r0, r1, r2, r3, r4, r5, r6, r7, r8, r9, rA, rB, rC, rD, rE, rF⟩ := hR0
  have mq := mayQ_eq hS hR hW w
  have mb : mayQ (I 79) (I 77 0) w (I 77 4) (I 77 1) (I 77 2) (I 77 3) → 0 ≤ w ∧ w < I 77 0 := fun h => h.1
  refine cl_of rfl (Nat.le_add_right _ _) ?_
  repeat' (first
      | (refine go_v (cd := cd34) [] 300 rfl ?_; try simp (disch := decide) only [av0, av1, av3, up2_e, up2_s, up2_o, up1_e, up1_o])
      | refine go_st (cd := cd34) 1 rfl (go_ifT (by decide) ?_)
      | refine go_st (cd := cd34) 1 rfl (go_ifF (by decide) ?_)
      | refine go_st (cd := cd34) 1 rfl (go_ifT (by assumption) ?_)
      | refine go_st (cd := cd34) 1 rfl (go_ifF (by assumption) ?_)
      | (refine go_st (cd := cd34) 1 rfl (go_if (fun hq => ?_) (fun hq => ?_)))
      | refine go_ireturn (cd := cd34) rfl ?_
      | refine go_zreturn (cd := cd34) rfl (Or.inl rfl) ?_
      | refine go_zreturn (cd := cd34) rfl (Or.inr rfl) ?_
      | refine go_lreturn (cd := cd34) rfl ?_
      | refine go_areturn (cd := cd34) rfl ?_
      | refine go_areturnN (cd := cd34) rfl ?_
      | refine go_return (cd := cd34) rfl ?_
      | (refine go_callv (cd := cd34) rfl rfl rfl rfl rfl (lv3 rfl) rfl (cl_isSail (fun hq => ⟨rfl, ?_⟩) (fun hq => ⟨rfl, ?_⟩)) <;> (try simp (disch := decide) only [av0, av1, av3, up2_e, up2_s, up2_o, up1_e, up1_o] at hq))
      | (refine go_calls (cd := cd34) rfl rfl rfl rfl rfl (cl_isSail (fun hq => ⟨rfl, ?_⟩) (fun hq => ⟨rfl, ?_⟩)) <;> (try simp (disch := decide) only [av0, av1, av3, up2_e, up2_s, up2_o, up1_e, up1_o] at hq))
      | (refine go_callv (cd := cd34) rfl rfl rfl rfl rfl (lv3 rfl) rfl (cl_may1 (by grind) (fun hq => ⟨rfl, ?_⟩) (fun hq => ⟨rfl, ?_⟩)) <;> (try simp (disch := decide) only [av0, av1, av3, up2_e, up2_s, up2_o, up1_e, up1_o] at hq))
      | (refine go_calls (cd := cd34) rfl rfl rfl rfl rfl (cl_may1 (by grind) (fun hq => ⟨rfl, ?_⟩) (fun hq => ⟨rfl, ?_⟩)) <;> (try simp (disch := decide) only [av0, av1, av3, up2_e, up2_s, up2_o, up1_e, up1_o] at hq))
      | (refine go_callv (cd := cd34) rfl rfl rfl rfl rfl (lv3 rfl) rfl (cl_shown (fun hq => ⟨rfl, ?_⟩) (fun hq => ⟨rfl, ?_⟩)) <;> (try simp (disch := decide) only [av0, av1, av3, up2_e, up2_s, up2_o, up1_e, up1_o] at hq))
      | (refine go_calls (cd := cd34) rfl rfl rfl rfl rfl (cl_shown (fun hq => ⟨rfl, ?_⟩) (fun hq => ⟨rfl, ?_⟩)) <;> (try simp (disch := decide) only [av0, av1, av3, up2_e, up2_s, up2_o, up1_e, up1_o] at hq)))
  all_goals refine ⟨Or.inl rfl, _, rfl, cl_of rfl (Nat.le_add_right _ _) ?_⟩
  all_goals (repeat' (first
      | (refine go_v (cd := cd100) [] 300 rfl ?_; try simp (disch := decide) only [av0, av1, av3, up2_e, up2_s, up2_o, up1_e, up1_o])
      | refine go_st (cd := cd100) 1 rfl (go_ifT (by decide) ?_)
      | refine go_st (cd := cd100) 1 rfl (go_ifF (by decide) ?_)
      | refine go_st (cd := cd100) 1 rfl (go_ifT (by assumption) ?_)
      | refine go_st (cd := cd100) 1 rfl (go_ifF (by assumption) ?_)
      | (refine go_st (cd := cd100) 1 rfl (go_if (fun hq => ?_) (fun hq => ?_)) <;> (try simp (disch := decide) only [av0, av1, av3, up2_e, up2_s, up2_o, up1_e, up1_o] at hq) <;> (try (exfalso; clear hv1 hS hR hQ hK hW hT hG hP hB hA hU hC hX s1 s2 s3 s4 s6 s7 s8 s9 r4 r5 r6 r7 r8 r9 rA rB rC rD rE rF; grind)))
      | refine go_ireturn (cd := cd100) rfl ?_
      | refine go_zreturn (cd := cd100) rfl (Or.inl rfl) ?_
      | refine go_zreturn (cd := cd100) rfl (Or.inr rfl) ?_
      | refine go_lreturn (cd := cd100) rfl ?_
      | refine go_areturn (cd := cd100) rfl ?_
      | refine go_areturnN (cd := cd100) rfl ?_
      | refine go_return (cd := cd100) rfl ?_
      | (refine go_callv (cd := cd100) rfl rfl rfl rfl rfl (lv3 rfl) rfl (cl_misSail (fun hq => ⟨rfl, ?_⟩) (fun hq => ⟨rfl, ?_⟩)) <;> (try simp (disch := decide) only [av0, av1, av3, up2_e, up2_s, up2_o, up1_e, up1_o] at hq) <;> (try (exfalso; clear hv1 hS hR hQ hK hW hT hG hP hB hA hU hC hX s1 s2 s3 s4 s6 s7 s8 s9 r4 r5 r6 r7 r8 r9 rA rB rC rD rE rF; grind)))
      | (refine go_calls (cd := cd100) rfl rfl rfl rfl rfl (cl_misSail (fun hq => ⟨rfl, ?_⟩) (fun hq => ⟨rfl, ?_⟩)) <;> (try simp (disch := decide) only [av0, av1, av3, up2_e, up2_s, up2_o, up1_e, up1_o] at hq) <;> (try (exfalso; clear hv1 hS hR hQ hK hW hT hG hP hB hA hU hC hX s1 s2 s3 s4 s6 s7 s8 s9 r4 r5 r6 r7 r8 r9 rA rB rC rD rE rF; grind)))
      | (refine go_callv (cd := cd100) rfl rfl rfl rfl rfl (lv3 rfl) rfl (cl_mayBe r0 r1 (fun hq => ⟨rfl, ?_⟩) (fun hq => ⟨rfl, ?_⟩)) <;> (try simp (disch := decide) only [av0, av1, av3, up2_e, up2_s, up2_o, up1_e, up1_o] at hq) <;> (try (exfalso; clear hv1 hS hR hQ hK hW hT hG hP hB hA hU hC hX s1 s2 s3 s4 s6 s7 s8 s9 r4 r5 r6 r7 r8 r9 rA rB rC rD rE rF; grind)))
      | (refine go_calls (cd := cd100) rfl rfl rfl rfl rfl (cl_mayBe r0 r1 (fun hq => ⟨rfl, ?_⟩) (fun hq => ⟨rfl, ?_⟩)) <;> (try simp (disch := decide) only [av0, av1, av3, up2_e, up2_s, up2_o, up1_e, up1_o] at hq) <;> (try (exfalso; clear hv1 hS hR hQ hK hW hT hG hP hB hA hU hC hX s1 s2 s3 s4 s6 s7 s8 s9 r4 r5 r6 r7 r8 r9 rA rB rC rD rE rF; grind)))))
  all_goals first
    | exact ⟨rfl, congrArg (fun q => some (Value.int q)) (by rfl), hv1⟩
    | (exfalso; clear hv1 hS hR hQ hK hW hT hG hP hB hA hU hC hX s1 s2 s3 s4 s6 s7 s8 s9 r4 r5 r6 r7 r8 r9 rA rB rC rD rE rF; grind)
    | exact ⟨rfl, congrArg (fun q => some (Value.int q)) (by first | rfl | (clear hv1 hS hR hQ hK hW hT hG hP hB hA hU hC hX s1 s2 s3 s4 s6 s7 s8 s9 r4 r5 r6 r7 r8 r9 rA rB rC rD rE rF; grind)), hv1⟩
    | exact ⟨rfl, congrArg (fun q => some (Value.int q)) (by first | rfl | (clear hv1 hS hR hQ hK hW hT hG hP hB hA hU hC hX s1 s2 s3 s4 s6 s7 s8 s9 r4 r5 r6 r7 r8 r9 rA rB rC rD rE rF; grind)), aIn_mk (by simp (disch := decide) only [iS, av0, av1, av3, up2_e, up2_s, up2_o, up1_e, up1_o]; first | (simp only [s0, s1, s2, s3, s4, s5, s6, s7, s8, s9, and_self]; done) | grind) (by simp (disch := decide) only [iR, av0, av1, av3, up2_e, up2_s, up2_o, up1_e, up1_o]; refine ⟨?_, ?_, ?_, ?_, ?_, ?_, ?_, ?_, ?_, ?_, ?_, ?_, ?_, ?_, ?_, ?_⟩ <;> first | assumption | (clear hv1 hS hR hQ hK hW hT hG hP hB hA hU hC hX s0 s1 s2 s3 s4 s6 s7 s8 s9; grind)) hQ hK hW hT (iG_c (I := I) rfl rfl rfl rfl rfl rfl (by intro j hj; simp (disch := first | assumption | decide) only [up2_f, up1_f]) hG) (iP_c (I := I) rfl rfl (by intro j hj; simp (disch := first | exact hj | decide) only [up2_b (a := 65) (b := 77), up1_b (a := 65) (b := 77)]) hP) hB hA (by refine ⟨fun h => ?_, hU.2⟩; simp (disch := decide) only [av0, av1, av3, up2_e, up2_s, up2_o, up1_e, up1_o] at h ⊢; first | (exfalso; clear hv1 hS hR hQ hK hW hT hG hP hB hA hU hC hX mq mb; grind) | (have hm : mayQ (I 79) (I 77 0) w (I 77 4) (I 77 1) (I 77 2) (I 77 3) := (by assumption); exact ⟨hm.2.1, hm.2.2.1⟩)) (iC_c (I := I) rfl rfl rfl rfl rfl rfl rfl rfl (by intro j hj; have hj : bw 12 19 j := hj; simp (disch := first | exact hj | decide) only [up2_b (a := 12) (b := 19), up1_b (a := 12) (b := 19)]) (by intro j hj; have hj : bw 30 65 j := hj; simp (disch := first | exact hj | decide) only [up2_b (a := 30) (b := 65), up1_b (a := 30) (b := 65)]) hC) hX⟩
theorem pr_make {w : Int32} {g : Int32} {b : Int32} (hzb : b = 0 ∨ b = 1) {h : aH} (hi : aIn h) : aPair L xs fv (d + 3) 31 96 [.int w, .int g, .int b] h := by
  obtain ⟨r, rr, A, I, J, rfl, hv0⟩ := hi
  have hv1 : aIn (111 + 3 * r, I, J, aRf r rr) := ⟨r, rr, A, I, J, rfl, hv0⟩
  obtain ⟨hS, hR, hQ, hK, hW, hT, hG, hP, hB, hA, hU, hC, hX⟩ := hv0
  have hS0 := hS
  have hR0 := hR
  obtain ⟨s0, s1, s2, s3, s4, s5, s6, s7, s8, s9⟩ := hS0
  obtain ⟨r0, r1, r2, r3, r4, r5, r6, r7, r8, r9, rA, rB, rC, rD, rE, rF⟩ := hR0
  have z1 := and01 (I 77 1 >>> (w &&& 31))
  have z2 := and01 (I 77 2 >>> (w &&& 31))
  refine cl_of rfl (Nat.le_add_right _ _) ?_
  repeat' (first
      | (refine go_v (cd := cd31) [] 300 rfl ?_; try simp (disch := decide) only [av0, av1, av3, up2_e, up2_s, up2_o, up1_e, up1_o])
      | refine go_st (cd := cd31) 1 rfl (go_ifT (by decide) ?_)
      | refine go_st (cd := cd31) 1 rfl (go_ifF (by decide) ?_)
      | refine go_st (cd := cd31) 1 rfl (go_ifT (by assumption) ?_)
      | refine go_st (cd := cd31) 1 rfl (go_ifF (by assumption) ?_)
      | (refine go_st (cd := cd31) 1 rfl (go_if (fun hq => ?_) (fun hq => ?_)))
      | refine go_ireturn (cd := cd31) rfl ?_
      | refine go_zreturn (cd := cd31) rfl (Or.inl rfl) ?_
      | refine go_zreturn (cd := cd31) rfl (Or.inr rfl) ?_
      | refine go_lreturn (cd := cd31) rfl ?_
      | refine go_areturn (cd := cd31) rfl ?_
      | refine go_areturnN (cd := cd31) rfl ?_
      | refine go_return (cd := cd31) rfl ?_
      | (refine go_callv (cd := cd31) rfl rfl rfl rfl rfl (lv3 rfl) rfl (cl_isSail (fun hq => ⟨rfl, ?_⟩) (fun hq => ⟨rfl, ?_⟩)) <;> (try simp (disch := decide) only [av0, av1, av3, up2_e, up2_s, up2_o, up1_e, up1_o] at hq))
      | (refine go_calls (cd := cd31) rfl rfl rfl rfl rfl (cl_isSail (fun hq => ⟨rfl, ?_⟩) (fun hq => ⟨rfl, ?_⟩)) <;> (try simp (disch := decide) only [av0, av1, av3, up2_e, up2_s, up2_o, up1_e, up1_o] at hq)))
  all_goals refine ⟨Or.inl rfl, _, rfl, cl_of rfl (Nat.le_add_right _ _) ?_⟩
  all_goals (repeat' (first
      | (refine go_v (cd := cd96) [] 300 rfl ?_; try simp (disch := decide) only [av0, av1, av3, up2_e, up2_s, up2_o, up1_e, up1_o])
      | refine go_st (cd := cd96) 1 rfl (go_ifT (by decide) ?_)
      | refine go_st (cd := cd96) 1 rfl (go_ifF (by decide) ?_)
      | refine go_st (cd := cd96) 1 rfl (go_ifT (by assumption) ?_)
      | refine go_st (cd := cd96) 1 rfl (go_ifF (by assumption) ?_)
      | (refine go_st (cd := cd96) 1 rfl (go_if (fun hq => ?_) (fun hq => ?_)) <;> (try simp (disch := decide) only [av0, av1, av3, up2_e, up2_s, up2_o, up1_e, up1_o] at hq) <;> (try (exfalso; clear hv1 hS hR hQ hK hW hT hG hP hB hA hU hC hX s1 s2 s3 s4 s8 s9 r3 r4 r5 r6 r7 r8 r9 rA rB rC rD rE rF; grind)))
      | refine go_ireturn (cd := cd96) rfl ?_
      | refine go_zreturn (cd := cd96) rfl (Or.inl rfl) ?_
      | refine go_zreturn (cd := cd96) rfl (Or.inr rfl) ?_
      | refine go_lreturn (cd := cd96) rfl ?_
      | refine go_areturn (cd := cd96) rfl ?_
      | refine go_areturnN (cd := cd96) rfl ?_
      | refine go_return (cd := cd96) rfl ?_
      | (refine go_callv (cd := cd96) rfl rfl rfl rfl rfl (lv3 rfl) rfl (cl_misSail (fun hq => ⟨rfl, ?_⟩) (fun hq => ⟨rfl, ?_⟩)) <;> (try simp (disch := decide) only [av0, av1, av3, up2_e, up2_s, up2_o, up1_e, up1_o] at hq) <;> (try (exfalso; clear hv1 hS hR hQ hK hW hT hG hP hB hA hU hC hX s1 s2 s3 s4 s8 s9 r3 r4 r5 r6 r7 r8 r9 rA rB rC rD rE rF; grind)))
      | (refine go_calls (cd := cd96) rfl rfl rfl rfl rfl (cl_misSail (fun hq => ⟨rfl, ?_⟩) (fun hq => ⟨rfl, ?_⟩)) <;> (try simp (disch := decide) only [av0, av1, av3, up2_e, up2_s, up2_o, up1_e, up1_o] at hq) <;> (try (exfalso; clear hv1 hS hR hQ hK hW hT hG hP hB hA hU hC hX s1 s2 s3 s4 s8 s9 r3 r4 r5 r6 r7 r8 r9 rA rB rC rD rE rF; grind)))
      | (refine go_callv (cd := cd96) rfl rfl rfl rfl rfl (lv3 rfl) rfl (cl_in (fun hq => ⟨rfl, ?_⟩) (fun hq => ⟨rfl, ?_⟩)) <;> (try simp (disch := decide) only [av0, av1, av3, up2_e, up2_s, up2_o, up1_e, up1_o] at hq) <;> (try (exfalso; clear hv1 hS hR hQ hK hW hT hG hP hB hA hU hC hX s1 s2 s3 s4 s8 s9 r3 r4 r5 r6 r7 r8 r9 rA rB rC rD rE rF; grind)))
      | (refine go_calls (cd := cd96) rfl rfl rfl rfl rfl (cl_in (fun hq => ⟨rfl, ?_⟩) (fun hq => ⟨rfl, ?_⟩)) <;> (try simp (disch := decide) only [av0, av1, av3, up2_e, up2_s, up2_o, up1_e, up1_o] at hq) <;> (try (exfalso; clear hv1 hS hR hQ hK hW hT hG hP hB hA hU hC hX s1 s2 s3 s4 s8 s9 r3 r4 r5 r6 r7 r8 r9 rA rB rC rD rE rF; grind)))
      | (refine go_callv (cd := cd96) rfl rfl rfl rfl rfl (lv3 rfl) rfl (cl_has (fun hq => ⟨rfl, ?_⟩) (fun hq => ⟨rfl, ?_⟩)) <;> (try simp (disch := decide) only [av0, av1, av3, up2_e, up2_s, up2_o, up1_e, up1_o] at hq) <;> (try (exfalso; clear hv1 hS hR hQ hK hW hT hG hP hB hA hU hC hX s1 s2 s3 s4 s8 s9 r3 r4 r5 r6 r7 r8 r9 rA rB rC rD rE rF; grind)))
      | (refine go_calls (cd := cd96) rfl rfl rfl rfl rfl (cl_has (fun hq => ⟨rfl, ?_⟩) (fun hq => ⟨rfl, ?_⟩)) <;> (try simp (disch := decide) only [av0, av1, av3, up2_e, up2_s, up2_o, up1_e, up1_o] at hq) <;> (try (exfalso; clear hv1 hS hR hQ hK hW hT hG hP hB hA hU hC hX s1 s2 s3 s4 s8 s9 r3 r4 r5 r6 r7 r8 r9 rA rB rC rD rE rF; grind)))))
  all_goals first
    | exact ⟨rfl, congrArg (fun q => some (Value.int q)) (by rfl), hv1⟩
    | (exfalso; clear hv1 hS hR hQ hK hW hT hG hP hB hA hU hC hX s1 s2 s3 s4 s8 s9 r3 r4 r5 r6 r7 r8 r9 rA rB rC rD rE rF; grind)
    | exact ⟨rfl, congrArg (fun q => some (Value.int q)) (by first | rfl | (clear hv1 hS hR hQ hK hW hT hG hP hB hA hU hC hX s1 s2 s3 s4 s8 s9 r3 r4 r5 r6 r7 r8 r9 rA rB rC rD rE rF; grind)), hv1⟩
    | exact ⟨rfl, congrArg (fun q => some (Value.int q)) (by first | rfl | (clear hv1 hS hR hQ hK hW hT hG hP hB hA hU hC hX s1 s2 s3 s4 s8 s9 r3 r4 r5 r6 r7 r8 r9 rA rB rC rD rE rF; grind)), aIn_mk (by simp (disch := decide) only [iS, av0, av1, av3, up2_e, up2_s, up2_o, up1_e, up1_o]; first | (simp only [s0, s1, s2, s3, s4, s5, s6, s7, s8, s9, and_self]; done) | grind) hR hQ hK hW hT (iG_c (I := I) rfl rfl rfl rfl rfl rfl (by intro j hj; simp (disch := first | assumption | decide) only [up2_f, up1_f]) hG) (iP_c (I := I) rfl rfl (by intro j hj; simp (disch := first | exact hj | decide) only [up2_b (a := 65) (b := 77), up1_b (a := 65) (b := 77)]) hP) hB hA (by refine ⟨fun h => ?_, hU.2⟩; have h : 0 ≤ I 77 4 := h; have h1 := (hU.1 h).1; have h2 := (hU.1 h).2; simp (disch := decide) only [av0, av1, av3, up2_e, up2_s, up2_o, up1_e, up1_o]; first | exact ⟨by rw [bt_or, h1]; rfl, h2⟩ | exact ⟨h1, by rw [bt_or, h2]; rfl⟩ | (have hk : (I 77 4).toNatClampNeg < 6 := vlt (vin 6 rfl h (by grind)); have hne : (I 77 4).toNatClampNeg ≠ w.toNatClampNeg := (by intro e; have e2 := tnc_inj h (by grind) e; clear hv1 hS hR hQ hK hW hT hG hP hB hA hU hC hX; grind); first | exact ⟨by rw [bt_clr (by grind) (by grind) hk hne]; exact h1, h2⟩ | exact ⟨h1, by rw [bt_clr (by grind) (by grind) hk hne]; exact h2⟩)) (iC_c (I := I) rfl rfl rfl rfl rfl rfl rfl rfl (by intro j hj; have hj : bw 12 19 j := hj; simp (disch := first | exact hj | decide) only [up2_b (a := 12) (b := 19), up1_b (a := 12) (b := 19)]) (by intro j hj; have hj : bw 30 65 j := hj; simp (disch := first | exact hj | decide) only [up2_b (a := 30) (b := 65), up1_b (a := 30) (b := 65)]) hC) hX⟩
theorem pr_sail {w : Int32} {g : Int32} {h : aH} (hi : aIn h) : aPair L xs fv (d + 3) 30 95 [.int w, .int g] h := by
  obtain ⟨r, rr, A, I, J, rfl, hv0⟩ := hi
  have hv1 : aIn (111 + 3 * r, I, J, aRf r rr) := ⟨r, rr, A, I, J, rfl, hv0⟩
  obtain ⟨hS, hR, hQ, hK, hW, hT, hG, hP, hB, hA, hU, hC, hX⟩ := hv0
  have hS0 := hS
  have hR0 := hR
  obtain ⟨s0, s1, s2, s3, s4, s5, s6, s7, s8, s9⟩ := hS0
  obtain ⟨r0, r1, r2, r3, r4, r5, r6, r7, r8, r9, rA, rB, rC, rD, rE, rF⟩ := hR0
  refine cl_of rfl (Nat.le_add_right _ _) ?_
  repeat' (first
      | (refine go_v (cd := cd30) [] 300 rfl ?_; try simp (disch := decide) only [av0, av1, av3, up2_e, up2_s, up2_o, up1_e, up1_o])
      | refine go_st (cd := cd30) 1 rfl (go_ifT (by decide) ?_)
      | refine go_st (cd := cd30) 1 rfl (go_ifF (by decide) ?_)
      | refine go_st (cd := cd30) 1 rfl (go_ifT (by assumption) ?_)
      | refine go_st (cd := cd30) 1 rfl (go_ifF (by assumption) ?_)
      | (refine go_st (cd := cd30) 1 rfl (go_if (fun hq => ?_) (fun hq => ?_)))
      | refine go_ireturn (cd := cd30) rfl ?_
      | refine go_zreturn (cd := cd30) rfl (Or.inl rfl) ?_
      | refine go_zreturn (cd := cd30) rfl (Or.inr rfl) ?_
      | refine go_lreturn (cd := cd30) rfl ?_
      | refine go_areturn (cd := cd30) rfl ?_
      | refine go_areturnN (cd := cd30) rfl ?_
      | refine go_return (cd := cd30) rfl ?_
      | refine go_iast (cd := cd30) rfl (vin 6 rfl (by grind) (by grind)) (lv3 rfl) rfl ?_)
  all_goals refine ⟨Or.inl rfl, _, rfl, cl_of rfl (Nat.le_add_right _ _) ?_⟩
  all_goals (repeat' (first
      | (refine go_v (cd := cd95) [] 300 rfl ?_; try simp (disch := decide) only [av0, av1, av3, up2_e, up2_s, up2_o, up1_e, up1_o])
      | refine go_st (cd := cd95) 1 rfl (go_ifT (by decide) ?_)
      | refine go_st (cd := cd95) 1 rfl (go_ifF (by decide) ?_)
      | refine go_st (cd := cd95) 1 rfl (go_ifT (by assumption) ?_)
      | refine go_st (cd := cd95) 1 rfl (go_ifF (by assumption) ?_)
      | (refine go_st (cd := cd95) 1 rfl (go_if (fun hq => ?_) (fun hq => ?_)) <;> (try simp (disch := decide) only [av0, av1, av3, up2_e, up2_s, up2_o, up1_e, up1_o] at hq) <;> (try (exfalso; clear hv1 hS hR hQ hK hW hT hG hP hB hA hU hC hX s0 s1 s2 s3 s4 s6 s7 s8 s9 r2 r3 r4 r5 r6 r7 r8 r9 rA rB rC rD rE rF; grind)))
      | refine go_ireturn (cd := cd95) rfl ?_
      | refine go_zreturn (cd := cd95) rfl (Or.inl rfl) ?_
      | refine go_zreturn (cd := cd95) rfl (Or.inr rfl) ?_
      | refine go_lreturn (cd := cd95) rfl ?_
      | refine go_areturn (cd := cd95) rfl ?_
      | refine go_areturnN (cd := cd95) rfl ?_
      | refine go_return (cd := cd95) rfl ?_
      | (refine go_callv (cd := cd95) rfl rfl rfl rfl rfl (lv3 rfl) rfl (cl_in (fun hq => ⟨rfl, ?_⟩) (fun hq => ⟨rfl, ?_⟩)) <;> (try simp (disch := decide) only [av0, av1, av3, up2_e, up2_s, up2_o, up1_e, up1_o] at hq) <;> (try (exfalso; clear hv1 hS hR hQ hK hW hT hG hP hB hA hU hC hX s0 s1 s2 s3 s4 s6 s7 s8 s9 r2 r3 r4 r5 r6 r7 r8 r9 rA rB rC rD rE rF; grind)))
      | (refine go_calls (cd := cd95) rfl rfl rfl rfl rfl (cl_in (fun hq => ⟨rfl, ?_⟩) (fun hq => ⟨rfl, ?_⟩)) <;> (try simp (disch := decide) only [av0, av1, av3, up2_e, up2_s, up2_o, up1_e, up1_o] at hq) <;> (try (exfalso; clear hv1 hS hR hQ hK hW hT hG hP hB hA hU hC hX s0 s1 s2 s3 s4 s6 s7 s8 s9 r2 r3 r4 r5 r6 r7 r8 r9 rA rB rC rD rE rF; grind)))
      | (refine go_callv (cd := cd95) rfl rfl rfl rfl rfl (lv3 rfl) rfl (cl_isSail (fun hq => ⟨rfl, ?_⟩) (fun hq => ⟨rfl, ?_⟩)) <;> (try simp (disch := decide) only [av0, av1, av3, up2_e, up2_s, up2_o, up1_e, up1_o] at hq) <;> (try (exfalso; clear hv1 hS hR hQ hK hW hT hG hP hB hA hU hC hX s0 s1 s2 s3 s4 s6 s7 s8 s9 r2 r3 r4 r5 r6 r7 r8 r9 rA rB rC rD rE rF; grind)))
      | (refine go_calls (cd := cd95) rfl rfl rfl rfl rfl (cl_isSail (fun hq => ⟨rfl, ?_⟩) (fun hq => ⟨rfl, ?_⟩)) <;> (try simp (disch := decide) only [av0, av1, av3, up2_e, up2_s, up2_o, up1_e, up1_o] at hq) <;> (try (exfalso; clear hv1 hS hR hQ hK hW hT hG hP hB hA hU hC hX s0 s1 s2 s3 s4 s6 s7 s8 s9 r2 r3 r4 r5 r6 r7 r8 r9 rA rB rC rD rE rF; grind)))
      | refine go_iast (cd := cd95) rfl (vin 6 rfl (by grind) (by grind)) (lv3 rfl) rfl ?_))
  all_goals first
    | exact ⟨rfl, congrArg (fun q => some (Value.int q)) (by rfl), hv1⟩
    | (exfalso; clear hv1 hS hR hQ hK hW hT hG hP hB hA hU hC hX s0 s1 s2 s3 s4 s6 s7 s8 s9 r2 r3 r4 r5 r6 r7 r8 r9 rA rB rC rD rE rF; grind)
    | exact ⟨rfl, congrArg (fun q => some (Value.int q)) (by first | rfl | (clear hv1 hS hR hQ hK hW hT hG hP hB hA hU hC hX s0 s1 s2 s3 s4 s6 s7 s8 s9 r2 r3 r4 r5 r6 r7 r8 r9 rA rB rC rD rE rF; grind)), hv1⟩
    | exact ⟨rfl, congrArg (fun q => some (Value.int q)) (by first | rfl | (clear hv1 hS hR hQ hK hW hT hG hP hB hA hU hC hX s0 s1 s2 s3 s4 s6 s7 s8 s9 r2 r3 r4 r5 r6 r7 r8 r9 rA rB rC rD rE rF; grind)), aIn_mk (by simp (disch := decide) only [iS, av0, av1, av3, up2_e, up2_s, up2_o, up1_e, up1_o]; first | (simp only [s0, s1, s2, s3, s4, s5, s6, s7, s8, s9, and_self]; done) | grind) (by simp (disch := decide) only [iR, av0, av1, av3, up2_e, up2_s, up2_o, up1_e, up1_o]; refine ⟨?_, ?_, ?_, ?_, ?_, ?_, ?_, ?_, ?_, ?_, ?_, ?_, ?_, ?_, ?_, ?_⟩ <;> first | assumption | (clear hv1 hS hR hQ hK hW hT hG hP hB hA hU hC hX s0 s1 s2 s3 s4 s6 s7 s8 s9; grind)) hQ (by refine ⟨hK.1, hK.2.1, fun h => ⟨(hK.2.2 h).1, ?_, (hK.2.2 h).2.2⟩⟩; have hb := (hK.2.2 h).2.1; simp (disch := decide) only [av0, av1, av3, up2_e, up2_s, up2_o, up1_e, up1_o]; grind) (by intro k hk; have hw := hW k hk; simp (disch := decide) only [av0, av1, av3, up2_e, up2_s, up2_o, up1_e, up1_o, up2_at]; grind) hT (iG_c (I := I) rfl rfl rfl rfl rfl rfl (by intro j hj; simp (disch := first | assumption | decide) only [up2_f, up1_f]) hG) (iP_c (I := I) rfl rfl (by intro j hj; simp (disch := first | exact hj | decide) only [up2_b (a := 65) (b := 77), up1_b (a := 65) (b := 77)]) hP) hB hA (by refine ⟨fun h => ⟨?_, ?_⟩, hU.2⟩; (exact (by have h2 := (hU.1 h).1; simp (disch := decide) only [av0, av1, av3, up2_e, up2_s, up2_o, up1_e, up1_o]; rw [bt_or, h2]; rfl)); (exact (by have h2 := (hU.1 h).2; simp (disch := decide) only [av0, av1, av3, up2_e, up2_s, up2_o, up1_e, up1_o]; rw [bt_or, h2]; rfl))) (iC_c (I := I) rfl rfl rfl rfl rfl rfl rfl rfl (by intro j hj; have hj : bw 12 19 j := hj; simp (disch := first | exact hj | decide) only [up2_b (a := 12) (b := 19), up1_b (a := 12) (b := 19)]) (by intro j hj; have hj : bw 30 65 j := hj; simp (disch := first | exact hj | decide) only [up2_b (a := 30) (b := 65), up1_b (a := 30) (b := 65)]) hC) (by refine iX_sail (I := I) r0 (by grind) rfl rfl rfl (fun s hs => ?_) hX; simp (disch := decide) only [up2_o]; rw [up2_at, if_neg hs]; simp (disch := decide) only [up2_o])⟩
end PR
