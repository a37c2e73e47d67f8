section PR
variable {L : Nat} {xs : Nat → Int32} {fv : Value} {d : Nat}
theorem and01 (y : Int32) : y &&& 1 = 0 ∨ y &&& 1 = 1 := by
  by_cases h : y &&& 1 = 1
  · exact Or.inr h
  · refine Or.inl (Int32.toBitVec_inj.mp ?_)
    rw [bt_and1] at h
    apply BitVec.eq_of_getLsbD_eq
    intro i hi
    have e1 : (1 : Int32).toBitVec = 1#32 := rfl
    have e0 : (0 : Int32).toBitVec = 0#32 := rfl
    rw [Int32.toBitVec_and, e1, e0, BitVec.getLsbD_and, BitVec.getLsbD_one]
    by_cases h0 : i = 0
    · subst h0; simpa using h
    · simp [h0]
theorem cl_shown {r : Nat} {rr : Option Nat} {I : Nat → Nat → Int32} {J : Nat → Nat → Int64} {P : Option Value → aH → Prop} {s : Int32} (k1 : s = -1 → P (some (.int (-5))) (aHp r rr I J)) (k0 : ¬ s = -1 → P (some (.int s)) (aHp r rr I J)) : aCl L xs fv 111 (d + 1) 71 [.int s] (aHp r rr I J) P := by
  refine cl_of rfl (Nat.le_add_right _ _) ?_
  repeat' (first
      | (refine go_v (cd := cd71) [] 300 rfl ?_; try simp (disch := decide) only [av0, av1, av3, up2_e, up2_s, up2_o, up1_e, up1_o])
      | refine go_st (cd := cd71) 1 rfl (go_ifT (by decide) ?_)
      | refine go_st (cd := cd71) 1 rfl (go_ifF (by decide) ?_)
      | refine go_st (cd := cd71) 1 rfl (go_ifT (by assumption) ?_)
      | refine go_st (cd := cd71) 1 rfl (go_ifF (by assumption) ?_)
      | refine go_st (cd := cd71) 1 rfl (go_if (fun _ => ?_) (fun _ => ?_))
      | refine go_ireturn (cd := cd71) rfl ?_
      | refine go_zreturn (cd := cd71) rfl (Or.inl rfl) ?_
      | refine go_zreturn (cd := cd71) rfl (Or.inr rfl) ?_
      | refine go_lreturn (cd := cd71) rfl ?_
      | refine go_areturn (cd := cd71) rfl ?_
      | refine go_areturnN (cd := cd71) rfl ?_
      | refine go_return (cd := cd71) rfl ?_)
  all_goals first | exact k1 (by grind) | exact k0 (by grind)
theorem pr_ship {w : Int32} {h : aH} (hi : aIn h) : aPair L xs fv (d + 3) 35 101 [.int w] h := by
  obtain ⟨r, rr, I, J, rfl, hv0⟩ := hi
  have hv1 : aIn (111 + 3 * r, I, J, aRf r rr) := ⟨r, rr, I, J, rfl, hv0⟩
  obtain ⟨hS, hR, hQ, hK, hW, hT, hG, hP, hB, hA, hF⟩ := hv0
  have hS0 := hS
  have hR0 := hR
  obtain ⟨s0, s1, s2, s3, s4, s5, s6, s7, s8, s9⟩ := hS0
  obtain ⟨r0, r1, r2, r3, r4, r5, r6, r7, r8, r9, rA, rB, rC, rD, rE, rF⟩ := hR0
  refine cl_of rfl (Nat.le_add_right _ _) ?_
  repeat' (first
      | (refine go_v (cd := cd35) [] 300 rfl ?_; try simp (disch := decide) only [av0, av1, av3, up2_e, up2_s, up2_o, up1_e, up1_o])
      | refine go_st (cd := cd35) 1 rfl (go_ifT (by decide) ?_)
      | refine go_st (cd := cd35) 1 rfl (go_ifF (by decide) ?_)
      | refine go_st (cd := cd35) 1 rfl (go_ifT (by assumption) ?_)
      | refine go_st (cd := cd35) 1 rfl (go_ifF (by assumption) ?_)
      | refine go_st (cd := cd35) 1 rfl (go_if (fun _ => ?_) (fun _ => ?_))
      | refine go_ireturn (cd := cd35) rfl ?_
      | refine go_zreturn (cd := cd35) rfl (Or.inl rfl) ?_
      | refine go_zreturn (cd := cd35) rfl (Or.inr rfl) ?_
      | refine go_lreturn (cd := cd35) rfl ?_
      | refine go_areturn (cd := cd35) rfl ?_
      | refine go_areturnN (cd := cd35) rfl ?_
      | refine go_return (cd := cd35) rfl ?_
      | refine go_callv (cd := cd35) rfl rfl rfl rfl rfl (lv3 rfl) rfl (cl_shown (fun _ => ⟨rfl, ?_⟩) (fun _ => ⟨rfl, ?_⟩))
      | refine go_calls (cd := cd35) rfl rfl rfl rfl rfl (cl_shown (fun _ => ⟨rfl, ?_⟩) (fun _ => ⟨rfl, ?_⟩))
      | refine go_tsw (cd := cd35) 0 4 rfl rfl rfl rfl (fun _ => ?_) ⟨fun _ => ?_, fun _ => ?_, fun _ => ?_, fun _ => ?_, fun _ => ?_, trivial⟩)
  all_goals refine ⟨Or.inl rfl, _, rfl, cl_of rfl (Nat.le_add_right _ _) ?_⟩
  all_goals (repeat' (first
      | (refine go_v (cd := cd101) [] 300 rfl ?_; try simp (disch := decide) only [av0, av1, av3, up2_e, up2_s, up2_o, up1_e, up1_o])
      | refine go_st (cd := cd101) 1 rfl (go_ifT (by decide) ?_)
      | refine go_st (cd := cd101) 1 rfl (go_ifF (by decide) ?_)
      | refine go_st (cd := cd101) 1 rfl (go_ifT (by assumption) ?_)
      | refine go_st (cd := cd101) 1 rfl (go_ifF (by assumption) ?_)
      | refine go_st (cd := cd101) 1 rfl (go_if (fun _ => ?_) (fun _ => ?_))
      | refine go_ireturn (cd := cd101) rfl ?_
      | refine go_zreturn (cd := cd101) rfl (Or.inl rfl) ?_
      | refine go_zreturn (cd := cd101) rfl (Or.inr rfl) ?_
      | refine go_lreturn (cd := cd101) rfl ?_
      | refine go_areturn (cd := cd101) rfl ?_
      | refine go_areturnN (cd := cd101) rfl ?_
      | refine go_return (cd := cd101) rfl ?_
      | refine go_tsw (cd := cd101) 0 4 rfl rfl rfl rfl (fun _ => ?_) ⟨fun _ => ?_, fun _ => ?_, fun _ => ?_, fun _ => ?_, fun _ => ?_, trivial⟩))
  all_goals first
    | exact ⟨rfl, congrArg (fun q => some (Value.int q)) (by rfl), hv1⟩
    | (exfalso; clear hv1 hS hR hQ hK hW hT hG hP hB hA hF s5 s6 s7 s8 s9 r0 r1 r3 r4 r5 r6 r7 r8 r9 rA rB rC rD rE rF; grind)
    | exact ⟨rfl, congrArg (fun q => some (Value.int q)) (by first | rfl | (clear hv1 hS hR hQ hK hW hT hG hP hB hA hF s5 s6 s7 s8 s9 r0 r1 r3 r4 r5 r6 r7 r8 r9 rA rB rC rD rE rF; grind)), hv1⟩
theorem pr_sail {w : Int32} {g : Int32} {h : aH} (hi : aIn h) : aPair L xs fv (d + 3) 30 95 [.int w, .int g] h := by
  obtain ⟨r, rr, I, J, rfl, hv0⟩ := hi
  have hv1 : aIn (111 + 3 * r, I, J, aRf r rr) := ⟨r, rr, I, J, rfl, hv0⟩
  obtain ⟨hS, hR, hQ, hK, hW, hT, hG, hP, hB, hA, hF⟩ := hv0
  have hS0 := hS
  have hR0 := hR
  obtain ⟨s0, s1, s2, s3, s4, s5, s6, s7, s8, s9⟩ := hS0
  obtain ⟨r0, r1, r2, r3, r4, r5, r6, r7, r8, r9, rA, rB, rC, rD, rE, rF⟩ := hR0
  refine cl_of rfl (Nat.le_add_right _ _) ?_
  repeat' (first
      | (refine go_v (cd := cd30) [] 300 rfl ?_; try simp (disch := decide) only [av0, av1, av3, up2_e, up2_s, up2_o, up1_e, up1_o])
      | refine go_st (cd := cd30) 1 rfl (go_ifT (by decide) ?_)
      | refine go_st (cd := cd30) 1 rfl (go_ifF (by decide) ?_)
      | refine go_st (cd := cd30) 1 rfl (go_ifT (by assumption) ?_)
      | refine go_st (cd := cd30) 1 rfl (go_ifF (by assumption) ?_)
      | refine go_st (cd := cd30) 1 rfl (go_if (fun _ => ?_) (fun _ => ?_))
      | refine go_ireturn (cd := cd30) rfl ?_
      | refine go_zreturn (cd := cd30) rfl (Or.inl rfl) ?_
      | refine go_zreturn (cd := cd30) rfl (Or.inr rfl) ?_
      | refine go_lreturn (cd := cd30) rfl ?_
      | refine go_areturn (cd := cd30) rfl ?_
      | refine go_areturnN (cd := cd30) rfl ?_
      | refine go_return (cd := cd30) rfl ?_
      | refine go_iast (cd := cd30) rfl (vin 6 rfl (by grind) (by grind)) (lv3 rfl) rfl ?_)
  all_goals refine ⟨Or.inl rfl, _, rfl, cl_of rfl (Nat.le_add_right _ _) ?_⟩
  all_goals (repeat' (first
      | (refine go_v (cd := cd95) [] 300 rfl ?_; try simp (disch := decide) only [av0, av1, av3, up2_e, up2_s, up2_o, up1_e, up1_o])
      | refine go_st (cd := cd95) 1 rfl (go_ifT (by decide) ?_)
      | refine go_st (cd := cd95) 1 rfl (go_ifF (by decide) ?_)
      | refine go_st (cd := cd95) 1 rfl (go_ifT (by assumption) ?_)
      | refine go_st (cd := cd95) 1 rfl (go_ifF (by assumption) ?_)
      | refine go_st (cd := cd95) 1 rfl (go_if (fun _ => ?_) (fun _ => ?_))
      | refine go_ireturn (cd := cd95) rfl ?_
      | refine go_zreturn (cd := cd95) rfl (Or.inl rfl) ?_
      | refine go_zreturn (cd := cd95) rfl (Or.inr rfl) ?_
      | refine go_lreturn (cd := cd95) rfl ?_
      | refine go_areturn (cd := cd95) rfl ?_
      | refine go_areturnN (cd := cd95) rfl ?_
      | refine go_return (cd := cd95) rfl ?_
      | refine go_callv (cd := cd95) rfl rfl rfl rfl rfl (lv3 rfl) rfl (cl_in (fun _ => ⟨rfl, ?_⟩) (fun _ => ⟨rfl, ?_⟩))
      | refine go_calls (cd := cd95) rfl rfl rfl rfl rfl (cl_in (fun _ => ⟨rfl, ?_⟩) (fun _ => ⟨rfl, ?_⟩))
      | refine go_callv (cd := cd95) rfl rfl rfl rfl rfl (lv3 rfl) rfl (cl_isSail (fun _ => ⟨rfl, ?_⟩) (fun _ => ⟨rfl, ?_⟩))
      | refine go_calls (cd := cd95) rfl rfl rfl rfl rfl (cl_isSail (fun _ => ⟨rfl, ?_⟩) (fun _ => ⟨rfl, ?_⟩))
      | refine go_iast (cd := cd95) rfl (vin 6 rfl (by grind) (by grind)) (lv3 rfl) rfl ?_))
  all_goals first
    | exact ⟨rfl, congrArg (fun q => some (Value.int q)) (by rfl), hv1⟩
    | (exfalso; clear hv1 hS hR hQ hK hW hT hG hP hB hA hF s0 s1 s2 s3 s4 s6 s7 s8 s9 r2 r3 r4 r5 r6 r7 r8 r9 rA rB rC rD rE rF; grind)
    | exact ⟨rfl, congrArg (fun q => some (Value.int q)) (by first | rfl | (clear hv1 hS hR hQ hK hW hT hG hP hB hA hF s0 s1 s2 s3 s4 s6 s7 s8 s9 r2 r3 r4 r5 r6 r7 r8 r9 rA rB rC rD rE rF; grind)), hv1⟩
    | exact ⟨rfl, congrArg (fun q => some (Value.int q)) (by first | rfl | (clear hv1 hS hR hQ hK hW hT hG hP hB hA hF s0 s1 s2 s3 s4 s6 s7 s8 s9 r2 r3 r4 r5 r6 r7 r8 r9 rA rB rC rD rE rF; grind)), aIn_mk (by simp (disch := decide) only [iS, av0, av1, av3, up2_e, up2_s, up2_o, up1_e, up1_o]; first | (simp only [s0, s1, s2, s3, s4, s5, s6, s7, s8, s9, and_self]; done) | grind) (by simp (disch := decide) only [iR, av0, av1, av3, up2_e, up2_s, up2_o, up1_e, up1_o]; refine ⟨?_, ?_, ?_, ?_, ?_, ?_, ?_, ?_, ?_, ?_, ?_, ?_, ?_, ?_, ?_, ?_⟩ <;> first | assumption | (clear hv1 hS hR hQ hK hW hT hG hP hB hA hF s0 s1 s2 s3 s4 s6 s7 s8 s9; grind)) hQ (by refine ⟨hK.1, hK.2.1, fun h => ⟨(hK.2.2 h).1, ?_, (hK.2.2 h).2.2⟩⟩; have hb := (hK.2.2 h).2.1; simp (disch := decide) only [av0, av1, av3, up2_e, up2_s, up2_o, up1_e, up1_o]; grind) (by intro k hk; have hw := hW k hk; simp (disch := decide) only [av0, av1, av3, up2_e, up2_s, up2_o, up1_e, up1_o, up2_at]; grind) hT (iG_c (I := I) rfl rfl rfl rfl rfl rfl (by intro j hj; simp (disch := first | assumption | decide) only [up2_f, up1_f]) hG) (iP_c (I := I) rfl rfl (by intro j hj; simp (disch := first | exact hj | decide) only [up2_b (a := 65) (b := 77), up1_b (a := 65) (b := 77)]) hP) hB hA hF⟩
theorem pr_set {w : Int32} {g : Int32} {h : aH} (hi : aIn h) : aPair L xs fv (d + 3) 33 99 [.int w, .int g] h := by
  obtain ⟨r, rr, I, J, rfl, hv0⟩ := hi
  have hv1 : aIn (111 + 3 * r, I, J, aRf r rr) := ⟨r, rr, I, J, rfl, hv0⟩
  obtain ⟨hS, hR, hQ, hK, hW, hT, hG, hP, hB, hA, hF⟩ := hv0
  have hS0 := hS
  have hR0 := hR
  obtain ⟨s0, s1, s2, s3, s4, s5, s6, s7, s8, s9⟩ := hS0
  obtain ⟨r0, r1, r2, r3, r4, r5, r6, r7, r8, r9, rA, rB, rC, rD, rE, rF⟩ := hR0
  refine cl_of rfl (Nat.le_add_right _ _) ?_
  repeat' (first
      | (refine go_v (cd := cd33) [] 300 rfl ?_; try simp (disch := decide) only [av0, av1, av3, up2_e, up2_s, up2_o, up1_e, up1_o])
      | refine go_st (cd := cd33) 1 rfl (go_ifT (by decide) ?_)
      | refine go_st (cd := cd33) 1 rfl (go_ifF (by decide) ?_)
      | refine go_st (cd := cd33) 1 rfl (go_ifT (by assumption) ?_)
      | refine go_st (cd := cd33) 1 rfl (go_ifF (by assumption) ?_)
      | refine go_st (cd := cd33) 1 rfl (go_if (fun _ => ?_) (fun _ => ?_))
      | refine go_ireturn (cd := cd33) rfl ?_
      | refine go_zreturn (cd := cd33) rfl (Or.inl rfl) ?_
      | refine go_zreturn (cd := cd33) rfl (Or.inr rfl) ?_
      | refine go_lreturn (cd := cd33) rfl ?_
      | refine go_areturn (cd := cd33) rfl ?_
      | refine go_areturnN (cd := cd33) rfl ?_
      | refine go_return (cd := cd33) rfl ?_)
  all_goals refine ⟨Or.inl rfl, _, rfl, cl_of rfl (Nat.le_add_right _ _) ?_⟩
  all_goals (repeat' (first
      | (refine go_v (cd := cd99) [] 300 rfl ?_; try simp (disch := decide) only [av0, av1, av3, up2_e, up2_s, up2_o, up1_e, up1_o])
      | refine go_st (cd := cd99) 1 rfl (go_ifT (by decide) ?_)
      | refine go_st (cd := cd99) 1 rfl (go_ifF (by decide) ?_)
      | refine go_st (cd := cd99) 1 rfl (go_ifT (by assumption) ?_)
      | refine go_st (cd := cd99) 1 rfl (go_ifF (by assumption) ?_)
      | refine go_st (cd := cd99) 1 rfl (go_if (fun _ => ?_) (fun _ => ?_))
      | refine go_ireturn (cd := cd99) rfl ?_
      | refine go_zreturn (cd := cd99) rfl (Or.inl rfl) ?_
      | refine go_zreturn (cd := cd99) rfl (Or.inr rfl) ?_
      | refine go_lreturn (cd := cd99) rfl ?_
      | refine go_areturn (cd := cd99) rfl ?_
      | refine go_areturnN (cd := cd99) rfl ?_
      | refine go_return (cd := cd99) rfl ?_
      | refine go_callv (cd := cd99) rfl rfl rfl rfl rfl (lv3 rfl) rfl (cl_in (fun _ => ⟨rfl, ?_⟩) (fun _ => ⟨rfl, ?_⟩))
      | refine go_calls (cd := cd99) rfl rfl rfl rfl rfl (cl_in (fun _ => ⟨rfl, ?_⟩) (fun _ => ⟨rfl, ?_⟩))))
  all_goals first
    | exact ⟨rfl, congrArg (fun q => some (Value.int q)) (by rfl), hv1⟩
    | (exfalso; clear hv1 hS hR hQ hK hW hT hG hP hB hA hF s0 s3 s5 s6 s7 s8 s9 r0 r1 r2 r3 r4 r5 r6 r7 r8 r9 rA rB rC rD rE rF; grind)
    | exact ⟨rfl, congrArg (fun q => some (Value.int q)) (by first | rfl | (clear hv1 hS hR hQ hK hW hT hG hP hB hA hF s0 s3 s5 s6 s7 s8 s9 r0 r1 r2 r3 r4 r5 r6 r7 r8 r9 rA rB rC rD rE rF; grind)), hv1⟩
    | exact ⟨rfl, congrArg (fun q => some (Value.int q)) (by first | rfl | (clear hv1 hS hR hQ hK hW hT hG hP hB hA hF s0 s3 s5 s6 s7 s8 s9 r0 r1 r2 r3 r4 r5 r6 r7 r8 r9 rA rB rC rD rE rF; grind)), aIn_mk (by simp (disch := decide) only [iS, av0, av1, av3, up2_e, up2_s, up2_o, up1_e, up1_o]; first | (simp only [s0, s1, s2, s3, s4, s5, s6, s7, s8, s9, and_self]; done) | grind) (by simp (disch := decide) only [iR, av0, av1, av3, up2_e, up2_s, up2_o, up1_e, up1_o]; refine ⟨?_, ?_, ?_, ?_, ?_, ?_, ?_, ?_, ?_, ?_, ?_, ?_, ?_, ?_, ?_, ?_⟩ <;> first | assumption | (clear hv1 hS hR hQ hK hW hT hG hP hB hA hF s0 s1 s2 s3 s4 s6 s7 s8 s9; grind)) hQ hK hW hT (iG_c (I := I) rfl rfl rfl rfl rfl rfl (by intro j hj; simp (disch := first | assumption | decide) only [up2_f, up1_f]) hG) (iP_c (I := I) rfl rfl (by intro j hj; simp (disch := first | exact hj | decide) only [up2_b (a := 65) (b := 77), up1_b (a := 65) (b := 77)]) hP) hB hA hF⟩
theorem pr_squall {w : Int32} {h : aH} (hi : aIn h) : aPair L xs fv (d + 3) 52 153 [.int w] h := by
  obtain ⟨r, rr, I, J, rfl, hv0⟩ := hi
  have hv1 : aIn (111 + 3 * r, I, J, aRf r rr) := ⟨r, rr, I, J, rfl, hv0⟩
  obtain ⟨hS, hR, hQ, hK, hW, hT, hG, hP, hB, hA, hF⟩ := hv0
  have hS0 := hS
  have hR0 := hR
  obtain ⟨s0, s1, s2, s3, s4, s5, s6, s7, s8, s9⟩ := hS0
  obtain ⟨r0, r1, r2, r3, r4, r5, r6, r7, r8, r9, rA, rB, rC, rD, rE, rF⟩ := hR0
  refine cl_of rfl (Nat.le_add_right _ _) ?_
  repeat' (first
      | (refine go_v (cd := cd52) [] 300 rfl ?_; try simp (disch := decide) only [av0, av1, av3, up2_e, up2_s, up2_o, up1_e, up1_o])
      | refine go_st (cd := cd52) 1 rfl (go_ifT (by decide) ?_)
      | refine go_st (cd := cd52) 1 rfl (go_ifF (by decide) ?_)
      | refine go_st (cd := cd52) 1 rfl (go_ifT (by assumption) ?_)
      | refine go_st (cd := cd52) 1 rfl (go_ifF (by assumption) ?_)
      | refine go_st (cd := cd52) 1 rfl (go_if (fun _ => ?_) (fun _ => ?_))
      | refine go_ireturn (cd := cd52) rfl ?_
      | refine go_zreturn (cd := cd52) rfl (Or.inl rfl) ?_
      | refine go_zreturn (cd := cd52) rfl (Or.inr rfl) ?_
      | refine go_lreturn (cd := cd52) rfl ?_
      | refine go_areturn (cd := cd52) rfl ?_
      | refine go_areturnN (cd := cd52) rfl ?_
      | refine go_return (cd := cd52) rfl ?_
      | refine go_callv (cd := cd52) rfl rfl rfl rfl rfl (lv3 rfl) rfl (cl_isWind (fun _ => ⟨rfl, ?_⟩) (fun _ => ⟨rfl, ?_⟩))
      | refine go_calls (cd := cd52) rfl rfl rfl rfl rfl (cl_isWind (fun _ => ⟨rfl, ?_⟩) (fun _ => ⟨rfl, ?_⟩))
      | refine go_iast (cd := cd52) rfl (vin 6 rfl (by grind) (by grind)) (lv3 rfl) rfl ?_)
  all_goals refine ⟨Or.inl rfl, _, rfl, cl_of rfl (Nat.le_add_right _ _) ?_⟩
  all_goals (repeat' (first
      | (refine go_v (cd := cd153) [] 300 rfl ?_; try simp (disch := decide) only [av0, av1, av3, up2_e, up2_s, up2_o, up1_e, up1_o])
      | refine go_st (cd := cd153) 1 rfl (go_ifT (by decide) ?_)
      | refine go_st (cd := cd153) 1 rfl (go_ifF (by decide) ?_)
      | refine go_st (cd := cd153) 1 rfl (go_ifT (by assumption) ?_)
      | refine go_st (cd := cd153) 1 rfl (go_ifF (by assumption) ?_)
      | refine go_st (cd := cd153) 1 rfl (go_if (fun _ => ?_) (fun _ => ?_))
      | refine go_ireturn (cd := cd153) rfl ?_
      | refine go_zreturn (cd := cd153) rfl (Or.inl rfl) ?_
      | refine go_zreturn (cd := cd153) rfl (Or.inr rfl) ?_
      | refine go_lreturn (cd := cd153) rfl ?_
      | refine go_areturn (cd := cd153) rfl ?_
      | refine go_areturnN (cd := cd153) rfl ?_
      | refine go_return (cd := cd153) rfl ?_
      | refine go_callv (cd := cd153) rfl rfl rfl rfl rfl (lv3 rfl) rfl (cl_misWind (fun _ => ⟨rfl, ?_⟩) (fun _ => ⟨rfl, ?_⟩))
      | refine go_calls (cd := cd153) rfl rfl rfl rfl rfl (cl_misWind (fun _ => ⟨rfl, ?_⟩) (fun _ => ⟨rfl, ?_⟩))
      | refine go_iast (cd := cd153) rfl (vin 6 rfl (by grind) (by grind)) (lv3 rfl) rfl ?_))
  all_goals first
    | exact ⟨rfl, congrArg (fun q => some (Value.int q)) (by rfl), hv1⟩
    | (exfalso; clear hv1 hS hR hQ hK hW hT hG hP hB hA hF s0 s1 s2 s3 s4 s5 s6 s7 s8 r0 r1 r2 r3 r4 r5 r6 r7 r8 r9 rA rB rC rF; grind)
    | exact ⟨rfl, congrArg (fun q => some (Value.int q)) (by first | rfl | (clear hv1 hS hR hQ hK hW hT hG hP hB hA hF s0 s1 s2 s3 s4 s5 s6 s7 s8 r0 r1 r2 r3 r4 r5 r6 r7 r8 r9 rA rB rC rF; grind)), hv1⟩
    | exact ⟨rfl, congrArg (fun q => some (Value.int q)) (by first | rfl | (clear hv1 hS hR hQ hK hW hT hG hP hB hA hF s0 s1 s2 s3 s4 s5 s6 s7 s8 r0 r1 r2 r3 r4 r5 r6 r7 r8 r9 rA rB rC rF; grind)), aIn_mk (by simp (disch := decide) only [iS, av0, av1, av3, up2_e, up2_s, up2_o, up1_e, up1_o]; first | (simp only [s0, s1, s2, s3, s4, s5, s6, s7, s8, s9, and_self]; done) | grind) (by simp (disch := decide) only [iR, av0, av1, av3, up2_e, up2_s, up2_o, up1_e, up1_o]; refine ⟨?_, ?_, ?_, ?_, ?_, ?_, ?_, ?_, ?_, ?_, ?_, ?_, ?_, ?_, ?_, ?_⟩ <;> first | assumption | (clear hv1 hS hR hQ hK hW hT hG hP hB hA hF s0 s1 s2 s3 s4 s6 s7 s8 s9; grind)) (by intro k hk; have hw := hQ k hk; simp (disch := decide) only [av0, av1, av3, up2_e, up2_s, up2_o, up1_e, up1_o, up2_at]; grind) hK hW hT (iG_c (I := I) rfl rfl rfl rfl rfl rfl (by intro j hj; simp (disch := first | assumption | decide) only [up2_f, up1_f]) hG) (iP_c (I := I) rfl rfl (by intro j hj; simp (disch := first | exact hj | decide) only [up2_b (a := 65) (b := 77), up1_b (a := 65) (b := 77)]) hP) hB hA hF⟩
end PR
