section PR
variable {L : Nat} {xs : Nat → Int32} {fv : Value} {d : Nat}
set_option maxHeartbeats 16000000 in
theorem pr_read {w : Int32} {g : Int32} {h : aH} (hi : aIn h) : aPair L xs fv (d + 4) 64 175 [.int w, .int g] h := by
  obtain ⟨r, rr, A, I, J, rfl, hv0⟩ := hi
  have hv1 : aIn (111 + 3 * r, I, J, aRf r rr) := ⟨r, rr, A, I, J, rfl, hv0⟩
  obtain ⟨hS, hR, hQ, hK, hW, hT, hG, hP, hB, hA, hU, hC, hX⟩ := hv0
  have hS0 := hS
  have hR0 := hR
  obtain ⟨s0, s1, s2, s3, s4, s5, s6, s7, s8, s9⟩ := hS0
  obtain ⟨r0, r1, r2, r3, r4, r5, r6, r7, r8, r9, rA, rB, rC, rD, rE, rF⟩ := hR0
  refine cl_of rfl (Nat.le_add_right _ _) ?_
  repeat' (first
      | (refine go_v (cd := cd64) [11, 24, 35, 39] 300 rfl ?_; try simp (disch := decide) only [av0, av1, av3, up2_e, up2_s, up2_o, up1_e, up1_o])
      | refine go_st (cd := cd64) 1 rfl (go_ifT (by decide) ?_)
      | refine go_st (cd := cd64) 1 rfl (go_ifF (by decide) ?_)
      | refine go_st (cd := cd64) 1 rfl (go_ifT (by assumption) ?_)
      | refine go_st (cd := cd64) 1 rfl (go_ifF (by assumption) ?_)
      | (refine go_st (cd := cd64) 1 rfl (go_if (fun hq => ?_) (fun hq => ?_)))
      | refine go_ireturn (cd := cd64) rfl ?_
      | refine go_zreturn (cd := cd64) rfl (Or.inl rfl) ?_
      | refine go_zreturn (cd := cd64) rfl (Or.inr rfl) ?_
      | refine go_lreturn (cd := cd64) rfl ?_
      | refine go_areturn (cd := cd64) rfl ?_
      | refine go_areturnN (cd := cd64) rfl ?_
      | refine go_return (cd := cd64) rfl ?_
      | (refine go_callv (cd := cd64) rfl rfl rfl rfl rfl (lv3 rfl) rfl (cl_tapeOf hP (fun hq => ⟨rfl, ?_⟩) (fun hq => ⟨rfl, ?_⟩)) <;> first | (have ht := hq.2.1; have hu := hq.1; unfold tpq at hq) | skip)
      | refine go_getR (cd := cd64) rfl (tp_lt (by assumption)) (tp_k (by assumption)) (aRf_tp (by assumption)).1 ?_
      | (refine go_get (cd := cd64) rfl (tp_lt (by assumption)) (tp_k (by assumption)) ?_; try simp (disch := decide) only [av0, av1, av3, up2_e, up2_s, up2_o, up1_e, up1_o])
      | refine go_lald (cd := cd64) rfl (tp_in (by assumption) (by grind) (by grind)) (tp_lt1 (by assumption)) (tp_k1 (by assumption)) ?_)
  all_goals first | refine ⟨Or.inl rfl, _, rfl, cl_of rfl (Nat.le_add_right _ _) ?_⟩ | skip
  all_goals (repeat' (first
      | (refine go_v (cd := cd175) [] 300 rfl ?_; try simp (disch := decide) only [av0, av1, av3, up2_e, up2_s, up2_o, up1_e, up1_o])
      | refine go_st (cd := cd175) 1 rfl (go_ifT (by decide) ?_)
      | refine go_st (cd := cd175) 1 rfl (go_ifF (by decide) ?_)
      | refine go_st (cd := cd175) 1 rfl (go_ifT (by assumption) ?_)
      | refine go_st (cd := cd175) 1 rfl (go_ifF (by assumption) ?_)
      | (refine go_st (cd := cd175) 1 rfl (go_if (fun hq => ?_) (fun hq => ?_)) <;> (try simp (disch := decide) only [av0, av1, av3, up2_e, up2_s, up2_o, up1_e, up1_o] at hq) <;> (try (exfalso; clear hv1 hS hR hQ hK hW hT hG hP hB hA hU hC hX s0 s1 s2 s3 s4 s5 s6 s7 s8 s9 r0 r1 r2 r3 r4 r5 r6 r7 r8 r9 rA rB rC rD rE rF; grind)))
      | refine go_ireturn (cd := cd175) rfl ?_
      | refine go_zreturn (cd := cd175) rfl (Or.inl rfl) ?_
      | refine go_zreturn (cd := cd175) rfl (Or.inr rfl) ?_
      | refine go_lreturn (cd := cd175) rfl ?_
      | refine go_areturn (cd := cd175) rfl ?_
      | refine go_areturnN (cd := cd175) rfl ?_
      | refine go_return (cd := cd175) rfl ?_
      | (refine go_callv (cd := cd175) rfl rfl rfl rfl rfl (lv3 rfl) rfl (cl_isTape (fun hq => ⟨rfl, ?_⟩) (fun hq => ⟨rfl, ?_⟩)) <;> (try simp (disch := decide) only [av0, av1, av3, up2_e, up2_s, up2_o, up1_e, up1_o] at hq) <;> (try (exfalso; clear hv1 hS hR hQ hK hW hT hG hP hB hA hU hC hX s0 s1 s2 s3 s4 s5 s6 s7 s8 s9 r0 r1 r2 r3 r4 r5 r6 r7 r8 r9 rA rB rC rD rE rF; grind)))
      | (refine go_calls (cd := cd175) rfl rfl rfl rfl rfl (cl_isTape (fun hq => ⟨rfl, ?_⟩) (fun hq => ⟨rfl, ?_⟩)) <;> (try simp (disch := decide) only [av0, av1, av3, up2_e, up2_s, up2_o, up1_e, up1_o] at hq) <;> (try (exfalso; clear hv1 hS hR hQ hK hW hT hG hP hB hA hU hC hX s0 s1 s2 s3 s4 s5 s6 s7 s8 s9 r0 r1 r2 r3 r4 r5 r6 r7 r8 r9 rA rB rC rD rE rF; grind)))
      | (refine go_callv (cd := cd175) rfl rfl rfl rfl rfl (lv3 rfl) rfl (cl_in (fun hq => ⟨rfl, ?_⟩) (fun hq => ⟨rfl, ?_⟩)) <;> (try simp (disch := decide) only [av0, av1, av3, up2_e, up2_s, up2_o, up1_e, up1_o] at hq) <;> (try (exfalso; clear hv1 hS hR hQ hK hW hT hG hP hB hA hU hC hX s0 s1 s2 s3 s4 s5 s6 s7 s8 s9 r0 r1 r2 r3 r4 r5 r6 r7 r8 r9 rA rB rC rD rE rF; grind)))
      | (refine go_calls (cd := cd175) rfl rfl rfl rfl rfl (cl_in (fun hq => ⟨rfl, ?_⟩) (fun hq => ⟨rfl, ?_⟩)) <;> (try simp (disch := decide) only [av0, av1, av3, up2_e, up2_s, up2_o, up1_e, up1_o] at hq) <;> (try (exfalso; clear hv1 hS hR hQ hK hW hT hG hP hB hA hU hC hX s0 s1 s2 s3 s4 s5 s6 s7 s8 s9 r0 r1 r2 r3 r4 r5 r6 r7 r8 r9 rA rB rC rD rE rF; grind)))
      | refine go_iald (cd := cd175) rfl (vin 6 rfl (by grind) (by grind)) (lv3 rfl) rfl ?_
      | refine go_lald (cd := cd175) rfl (tp_ix (by grind) (by grind) (by grind) (by grind)).2 (lv3 rfl) rfl ?_))
  all_goals first
    | exact ⟨rfl, congrArg (fun q => some (Value.long q)) (by rfl), hv1⟩
    | (exfalso; clear hv1 hS hR hQ hK hW hT hG hP hB hA hU hC hX s0 s1 s2 s3 s4 s5 s6 s7 s8 s9 r0 r1 r2 r3 r4 r5 r6 r7 r8 r9 rA rB rC rD rE rF; grind)
    | exact ⟨rfl, congrArg (fun q => some (Value.long q)) (by rw [(tp_ix (by grind) (by grind) (by grind) (by grind)).1]; exact ((hP _ (by assumption)).2.2.2.2.2.2 _ (vlt (vin 60 rfl (by grind) (by grind)))).1.symm), hv1⟩
set_option maxHeartbeats 16000000 in
theorem pr_item {w : Int32} {g : Int32} {z : Int64} {h : aH} (hi : aIn h) : aPair L xs fv (d + 4) 63 174 [.int w, .int g, .long z] h := by
  obtain ⟨r, rr, A, I, J, rfl, hv0⟩ := hi
  have hv1 : aIn (111 + 3 * r, I, J, aRf r rr) := ⟨r, rr, A, I, J, rfl, hv0⟩
  obtain ⟨hS, hR, hQ, hK, hW, hT, hG, hP, hB, hA, hU, hC, hX⟩ := hv0
  have hS0 := hS
  have hR0 := hR
  obtain ⟨s0, s1, s2, s3, s4, s5, s6, s7, s8, s9⟩ := hS0
  obtain ⟨r0, r1, r2, r3, r4, r5, r6, r7, r8, r9, rA, rB, rC, rD, rE, rF⟩ := hR0
  refine cl_of rfl (Nat.le_add_right _ _) ?_
  repeat' (first
      | (refine go_v (cd := cd63) [16, 33, 44, 51, 54] 300 rfl ?_; try simp (disch := decide) only [av0, av1, av3, up2_e, up2_s, up2_o, up1_e, up1_o])
      | refine go_st (cd := cd63) 1 rfl (go_ifT (by decide) ?_)
      | refine go_st (cd := cd63) 1 rfl (go_ifF (by decide) ?_)
      | refine go_st (cd := cd63) 1 rfl (go_ifT (by assumption) ?_)
      | refine go_st (cd := cd63) 1 rfl (go_ifF (by assumption) ?_)
      | (refine go_st (cd := cd63) 1 rfl (go_if (fun hq => ?_) (fun hq => ?_)))
      | refine go_ireturn (cd := cd63) rfl ?_
      | refine go_zreturn (cd := cd63) rfl (Or.inl rfl) ?_
      | refine go_zreturn (cd := cd63) rfl (Or.inr rfl) ?_
      | refine go_lreturn (cd := cd63) rfl ?_
      | refine go_areturn (cd := cd63) rfl ?_
      | refine go_areturnN (cd := cd63) rfl ?_
      | refine go_return (cd := cd63) rfl ?_
      | (refine go_callv (cd := cd63) rfl rfl rfl rfl rfl (lv3 rfl) rfl (cl_tapeOf hP (fun hq => ⟨rfl, ?_⟩) (fun hq => ⟨rfl, ?_⟩)) <;> first | (have ht := hq.2.1; have hu := hq.1; unfold tpq at hq) | skip)
      | refine go_getR (cd := cd63) rfl (tp_lt (by assumption)) (tp_k (by assumption)) (aRf_tp (by assumption)).1 ?_
      | (refine go_get (cd := cd63) rfl (tp_lt (by assumption)) (tp_k (by assumption)) ?_; try simp (disch := decide) only [av0, av1, av3, up2_e, up2_s, up2_o, up1_e, up1_o])
      | refine go_callv (cd := cd63) rfl rfl rfl rfl rfl (tp_lt (by assumption)) (tp_k (by assumption)) (cl_fitted (by assumption) ⟨rfl, ?_⟩)
      | refine go_last (cd := cd63) rfl (tp_in (by assumption) (by grind) (by grind)) (tp_lt1 (by assumption)) (tp_k1 (by assumption)) ?_)
  all_goals first | refine ⟨Or.inl rfl, _, rfl, cl_of rfl (Nat.le_add_right _ _) ?_⟩ | skip
  all_goals (repeat' (first
      | (refine go_v (cd := cd174) [] 300 rfl ?_; try simp (disch := decide) only [av0, av1, av3, up2_e, up2_s, up2_o, up1_e, up1_o])
      | refine go_st (cd := cd174) 1 rfl (go_ifT (by decide) ?_)
      | refine go_st (cd := cd174) 1 rfl (go_ifF (by decide) ?_)
      | refine go_st (cd := cd174) 1 rfl (go_ifT (by assumption) ?_)
      | refine go_st (cd := cd174) 1 rfl (go_ifF (by assumption) ?_)
      | (refine go_st (cd := cd174) 1 rfl (go_if (fun hq => ?_) (fun hq => ?_)) <;> (try simp (disch := decide) only [av0, av1, av3, up2_e, up2_s, up2_o, up1_e, up1_o] at hq) <;> (try (exfalso; clear hv1 hS hR hQ hK hW hT hG hP hB hA hU hC hX s0 s1 s2 s3 s4 s5 s6 s7 s8 s9 r0 r1 r2 r3 r4 r5 r6 r7 r8 r9 rA rB rC rD rE rF; grind)))
      | refine go_ireturn (cd := cd174) rfl ?_
      | refine go_zreturn (cd := cd174) rfl (Or.inl rfl) ?_
      | refine go_zreturn (cd := cd174) rfl (Or.inr rfl) ?_
      | refine go_lreturn (cd := cd174) rfl ?_
      | refine go_areturn (cd := cd174) rfl ?_
      | refine go_areturnN (cd := cd174) rfl ?_
      | refine go_return (cd := cd174) rfl ?_
      | (refine go_callv (cd := cd174) rfl rfl rfl rfl rfl (lv3 rfl) rfl (cl_isTape (fun hq => ⟨rfl, ?_⟩) (fun hq => ⟨rfl, ?_⟩)) <;> (try simp (disch := decide) only [av0, av1, av3, up2_e, up2_s, up2_o, up1_e, up1_o] at hq) <;> (try (exfalso; clear hv1 hS hR hQ hK hW hT hG hP hB hA hU hC hX s0 s1 s2 s3 s4 s5 s6 s7 s8 s9 r0 r1 r2 r3 r4 r5 r6 r7 r8 r9 rA rB rC rD rE rF; grind)))
      | (refine go_calls (cd := cd174) rfl rfl rfl rfl rfl (cl_isTape (fun hq => ⟨rfl, ?_⟩) (fun hq => ⟨rfl, ?_⟩)) <;> (try simp (disch := decide) only [av0, av1, av3, up2_e, up2_s, up2_o, up1_e, up1_o] at hq) <;> (try (exfalso; clear hv1 hS hR hQ hK hW hT hG hP hB hA hU hC hX s0 s1 s2 s3 s4 s5 s6 s7 s8 s9 r0 r1 r2 r3 r4 r5 r6 r7 r8 r9 rA rB rC rD rE rF; grind)))
      | (refine go_callv (cd := cd174) rfl rfl rfl rfl rfl (lv3 rfl) rfl (cl_in (fun hq => ⟨rfl, ?_⟩) (fun hq => ⟨rfl, ?_⟩)) <;> (try simp (disch := decide) only [av0, av1, av3, up2_e, up2_s, up2_o, up1_e, up1_o] at hq) <;> (try (exfalso; clear hv1 hS hR hQ hK hW hT hG hP hB hA hU hC hX s0 s1 s2 s3 s4 s5 s6 s7 s8 s9 r0 r1 r2 r3 r4 r5 r6 r7 r8 r9 rA rB rC rD rE rF; grind)))
      | (refine go_calls (cd := cd174) rfl rfl rfl rfl rfl (cl_in (fun hq => ⟨rfl, ?_⟩) (fun hq => ⟨rfl, ?_⟩)) <;> (try simp (disch := decide) only [av0, av1, av3, up2_e, up2_s, up2_o, up1_e, up1_o] at hq) <;> (try (exfalso; clear hv1 hS hR hQ hK hW hT hG hP hB hA hU hC hX s0 s1 s2 s3 s4 s5 s6 s7 s8 s9 r0 r1 r2 r3 r4 r5 r6 r7 r8 r9 rA rB rC rD rE rF; grind)))
      | (refine go_callv (cd := cd174) rfl rfl rfl rfl rfl (lv3 rfl) rfl (cl_narrow (by grind) (by grind) ⟨rfl, ?_⟩))
      | (refine go_calls (cd := cd174) rfl rfl rfl rfl rfl (cl_narrow (by grind) (by grind) ⟨rfl, ?_⟩))
      | refine go_iald (cd := cd174) rfl (vin 6 rfl (by grind) (by grind)) (lv3 rfl) rfl ?_
      | refine go_last (cd := cd174) rfl (tp_ix (by grind) (by grind) (by grind) (by grind)).2 (lv3 rfl) rfl ?_))
  all_goals first
    | exact ⟨rfl, congrArg (fun q => some (Value.int q)) (by rfl), hv1⟩
    | (exfalso; clear hv1 hS hR hQ hK hW hT hG hP hB hA hU hC hX s0 s1 s2 s3 s4 s5 s6 s7 s8 s9 r0 r1 r2 r3 r4 r5 r6 r7 r8 r9 rA rB rC rD rE rF; grind)
    | (refine ⟨rfl, rfl, aIn_mk hS hR hQ hK hW hT hG ?_ hB hA hU hC hX⟩
       have ht : w.toNatClampNeg < 6 := by assumption
       have hg : g.toNatClampNeg < 60 := vlt (vin (j := g) 60 rfl (by grind) (by grind))
       have e1 := (tp_ix (w := w) (g := g) (by grind) (by grind) (by grind) (by grind)).1
       obtain ⟨c1, c2, c3, c4, c5, c6, c7⟩ := hP _ ht
       rw [e1, c1]
       refine iP_mk hP w.toNatClampNeg (fun t _ _ => ⟨rfl, rfl, rfl⟩) (fun t h6 hne => ⟨?_, fun k hk => ?_⟩) ⟨c1, c2, c3, c4, c5, c6, fun k hk => ?_⟩
       · rw [up2_ne (by omega), up2_ne (by omega)]
       · rw [up2_at, if_neg (by omega), up2_ne (by omega)]
       · rw [up2_ne (show 66 + 2 * w.toNatClampNeg ≠ 109 by omega), up2_at, up2_at]
         by_cases hke : k = g.toNatClampNeg
         · rw [if_pos hke, if_pos (by omega)]
           exact ⟨rfl, fun h0 => by rw [h0]; exact fit_byte z, (c7 k hk).2.2⟩
         · rw [if_neg hke, if_neg (by omega), up2_ne (by omega)]
           exact c7 k hk)
end PR
