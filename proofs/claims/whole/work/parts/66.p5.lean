section PR
variable {L : Nat} {xs : Nat → Int32} {fv : Value} {d : Nat}
set_option maxHeartbeats 16000000 in
theorem pr_line {w : Int32} {g : Int32} {s : Int32} {h : aH} (hi : aIn h) : aPair L xs fv (d + 4) 41 129 [.int w, .int g, .int s] h := by
  obtain ⟨r, rr, A, I, J, rfl, hv0⟩ := hi
  have hv1 : aIn (111 + 3 * r, I, J, aRf r rr) := ⟨r, rr, A, I, J, rfl, hv0⟩
  obtain ⟨hS, hR, hQ, hK, hW, hT, hG, hP, hB, hA, hU, hC, hX⟩ := hv0
  have hS0 := hS
  have hR0 := hR
  obtain ⟨s0, s1, s2, s3, s4, s5, s6, s7, s8, s9⟩ := hS0
  obtain ⟨r0, r1, r2, r3, r4, r5, r6, r7, r8, r9, rA, rB, rC, rD, rE, rF⟩ := hR0
  refine cl_of rfl (Nat.le_add_right _ _) ?_
  repeat' (first
      | (refine go_v (cd := cd41) [30, 39, 52, 61] 300 rfl ?_; try simp (disch := decide) only [av0, av1, av3, up2_e, up2_s, up2_o, up1_e, up1_o])
      | refine go_st (cd := cd41) 1 rfl (go_ifT (by decide) ?_)
      | refine go_st (cd := cd41) 1 rfl (go_ifF (by decide) ?_)
      | refine go_st (cd := cd41) 1 rfl (go_ifT (by assumption) ?_)
      | refine go_st (cd := cd41) 1 rfl (go_ifF (by assumption) ?_)
      | (refine go_st (cd := cd41) 1 rfl (go_if (fun hq => ?_) (fun hq => ?_)))
      | refine go_ireturn (cd := cd41) rfl ?_
      | refine go_zreturn (cd := cd41) rfl (Or.inl rfl) ?_
      | refine go_zreturn (cd := cd41) rfl (Or.inr rfl) ?_
      | refine go_lreturn (cd := cd41) rfl ?_
      | refine go_areturn (cd := cd41) rfl ?_
      | refine go_areturnN (cd := cd41) rfl ?_
      | refine go_return (cd := cd41) rfl ?_
      | (refine go_callv (cd := cd41) rfl rfl rfl rfl rfl (lv3 rfl) rfl (cl_isWind (fun hq => ⟨rfl, ?_⟩) (fun hq => ⟨rfl, ?_⟩)) <;> (try simp (disch := decide) only [av0, av1, av3, up2_e, up2_s, up2_o, up1_e, up1_o] at hq))
      | (refine go_calls (cd := cd41) rfl rfl rfl rfl rfl (cl_isWind (fun hq => ⟨rfl, ?_⟩) (fun hq => ⟨rfl, ?_⟩)) <;> (try simp (disch := decide) only [av0, av1, av3, up2_e, up2_s, up2_o, up1_e, up1_o] at hq))
      | (refine go_callv (cd := cd41) rfl rfl rfl rfl rfl (lv3 rfl) rfl (cl_isTellable (fun hq => ⟨rfl, ?_⟩) (fun hq => ⟨rfl, ?_⟩)) <;> (try simp (disch := decide) only [av0, av1, av3, up2_e, up2_s, up2_o, up1_e, up1_o] at hq))
      | (refine go_calls (cd := cd41) rfl rfl rfl rfl rfl (cl_isTellable (fun hq => ⟨rfl, ?_⟩) (fun hq => ⟨rfl, ?_⟩)) <;> (try simp (disch := decide) only [av0, av1, av3, up2_e, up2_s, up2_o, up1_e, up1_o] at hq))
      | (refine go_callv (cd := cd41) rfl rfl rfl rfl rfl (lv3 rfl) rfl (cl_shown (fun hq => ⟨rfl, ?_⟩) (fun hq => ⟨rfl, ?_⟩)) <;> (try simp (disch := decide) only [av0, av1, av3, up2_e, up2_s, up2_o, up1_e, up1_o] at hq))
      | (refine go_calls (cd := cd41) rfl rfl rfl rfl rfl (cl_shown (fun hq => ⟨rfl, ?_⟩) (fun hq => ⟨rfl, ?_⟩)) <;> (try simp (disch := decide) only [av0, av1, av3, up2_e, up2_s, up2_o, up1_e, up1_o] at hq))
      | (refine go_callv (cd := cd41) rfl rfl rfl rfl rfl (lv3 rfl) rfl (cl_ruleOf hG (fun k hk he => ⟨rfl, ?_⟩) (fun hq => ⟨rfl, ?_⟩)) <;> first | (subst he; have hl := rlq_of hG hk; have hk10 := hl.1; have hkc := hl.2.1; have hk1 := hl.2.2.2.1; have hk2 := hl.2.2.2.2.1; have hk3 := hl.2.2.2.2.2.1) | skip)
      | refine go_getR (cd := cd41) rfl (ru_lt (by assumption)) (ru_k (by assumption)) (aRf_ru (by assumption)).1 ?_
      | refine go_getR (cd := cd41) rfl (ru_lt (by assumption)) (ru_k (by assumption)) (aRf_ru (by assumption)).2 ?_
      | (refine go_get (cd := cd41) rfl (ru_lt (by assumption)) (ru_k (by assumption)) ?_; try simp (disch := decide) only [av0, av1, av3, up2_e, up2_s, up2_o, up1_e, up1_o])
      | refine go_iald (cd := cd41) rfl (ru_in1 (by assumption) (by grind) (by grind)) (ru_lt1 (by assumption)) (ru_k1 (by assumption)) ?_
      | refine go_iast (cd := cd41) rfl (ru_in1 (by assumption) (by grind) (by grind)) (ru_lt1 (by assumption)) (ru_k1 (by assumption)) ?_)
  all_goals first | refine ⟨Or.inl rfl, _, rfl, cl_of rfl (Nat.le_add_right _ _) ?_⟩ | skip
  all_goals (repeat' (first
      | (refine go_v (cd := cd129) [] 300 rfl ?_; try simp (disch := decide) only [av0, av1, av3, up2_e, up2_s, up2_o, up1_e, up1_o])
      | refine go_st (cd := cd129) 1 rfl (go_ifT (by decide) ?_)
      | refine go_st (cd := cd129) 1 rfl (go_ifF (by decide) ?_)
      | refine go_st (cd := cd129) 1 rfl (go_ifT (by assumption) ?_)
      | refine go_st (cd := cd129) 1 rfl (go_ifF (by assumption) ?_)
      | (refine go_st (cd := cd129) 1 rfl (go_if (fun hq => ?_) (fun hq => ?_)) <;> (try simp (disch := decide) only [av0, av1, av3, up2_e, up2_s, up2_o, up1_e, up1_o] at hq) <;> (try (exfalso; clear hv1 hS hR hQ hK hW hT hG hP hB hA hU hC hX s0 s1 s2 s3 s4 s5 s6 s7 s8 s9 r0 r1 r2 r3 r4 r5 r6 r7 r8 r9 rA rB rC rD rE rF; grind)))
      | refine go_ireturn (cd := cd129) rfl ?_
      | refine go_zreturn (cd := cd129) rfl (Or.inl rfl) ?_
      | refine go_zreturn (cd := cd129) rfl (Or.inr rfl) ?_
      | refine go_lreturn (cd := cd129) rfl ?_
      | refine go_areturn (cd := cd129) rfl ?_
      | refine go_areturnN (cd := cd129) rfl ?_
      | refine go_return (cd := cd129) rfl ?_
      | (refine go_callv (cd := cd129) rfl rfl rfl rfl rfl (lv3 rfl) rfl (cl_isRuleT hG (by assumption) ⟨rfl, ?_⟩))
      | (refine go_calls (cd := cd129) rfl rfl rfl rfl rfl (cl_isRuleT hG (by assumption) ⟨rfl, ?_⟩))
      | (refine go_callv (cd := cd129) rfl rfl rfl rfl rfl (lv3 rfl) rfl (cl_isRuleF hG (by assumption) ⟨rfl, ?_⟩))
      | (refine go_calls (cd := cd129) rfl rfl rfl rfl rfl (cl_isRuleF hG (by assumption) ⟨rfl, ?_⟩))
      | (refine go_callv (cd := cd129) rfl rfl rfl rfl rfl (lv3 rfl) rfl (cl_misWind (fun hq => ⟨rfl, ?_⟩) (fun hq => ⟨rfl, ?_⟩)) <;> (try simp (disch := decide) only [av0, av1, av3, up2_e, up2_s, up2_o, up1_e, up1_o] at hq) <;> (try (exfalso; clear hv1 hS hR hQ hK hW hT hG hP hB hA hU hC hX s0 s1 s2 s3 s4 s5 s6 s7 s8 s9 r0 r1 r2 r3 r4 r5 r6 r7 r8 r9 rA rB rC rD rE rF; grind)))
      | (refine go_calls (cd := cd129) rfl rfl rfl rfl rfl (cl_misWind (fun hq => ⟨rfl, ?_⟩) (fun hq => ⟨rfl, ?_⟩)) <;> (try simp (disch := decide) only [av0, av1, av3, up2_e, up2_s, up2_o, up1_e, up1_o] at hq) <;> (try (exfalso; clear hv1 hS hR hQ hK hW hT hG hP hB hA hU hC hX s0 s1 s2 s3 s4 s5 s6 s7 s8 s9 r0 r1 r2 r3 r4 r5 r6 r7 r8 r9 rA rB rC rD rE rF; grind)))
      | (refine go_callv (cd := cd129) rfl rfl rfl rfl rfl (lv3 rfl) rfl (cl_in (fun hq => ⟨rfl, ?_⟩) (fun hq => ⟨rfl, ?_⟩)) <;> (try simp (disch := decide) only [av0, av1, av3, up2_e, up2_s, up2_o, up1_e, up1_o] at hq) <;> (try (exfalso; clear hv1 hS hR hQ hK hW hT hG hP hB hA hU hC hX s0 s1 s2 s3 s4 s5 s6 s7 s8 s9 r0 r1 r2 r3 r4 r5 r6 r7 r8 r9 rA rB rC rD rE rF; grind)))
      | (refine go_calls (cd := cd129) rfl rfl rfl rfl rfl (cl_in (fun hq => ⟨rfl, ?_⟩) (fun hq => ⟨rfl, ?_⟩)) <;> (try simp (disch := decide) only [av0, av1, av3, up2_e, up2_s, up2_o, up1_e, up1_o] at hq) <;> (try (exfalso; clear hv1 hS hR hQ hK hW hT hG hP hB hA hU hC hX s0 s1 s2 s3 s4 s5 s6 s7 s8 s9 r0 r1 r2 r3 r4 r5 r6 r7 r8 r9 rA rB rC rD rE rF; grind)))
      | (refine go_iald (cd := cd129) rfl (nI_vin (n := 11) (by omega) (by decide)) (lv3 rfl) rfl ?_; simp only [hkc])
      | (refine go_iald (cd := cd129) rfl (ix_row (b := 4) (M := 4) (N := 44) rfl rfl (by omega) (by decide) (by grind) (by grind) (by omega) (by decide)).2 (lv3 rfl) rfl ?_)
      | (refine go_iast (cd := cd129) rfl (ix_row (b := 4) (M := 4) (N := 44) rfl rfl (by omega) (by decide) (by grind) (by grind) (by omega) (by decide)).2 (lv3 rfl) rfl ?_)))
  all_goals first
    | exact ⟨rfl, rfl, hv1⟩
    | (exfalso; clear hv1 hS hR hQ hK hW hT hG hP hB hA hU hC hX s0 s1 s2 s3 s4 s5 s6 s7 s8 s9 r0 r1 r2 r3 r4 r5 r6 r7 r8 r9 rA rB rC rD rE rF; first | grind | (have := hl.2.2; grind))
    | (have hb := (hG.2.2.2 _ hk).2.2.2.2.2.2.2.1 g.toNatClampNeg (vlt (vin 4 rfl (by grind) (by grind)))
       refine ⟨rfl, congrArg (fun q => some (Value.int q)) ?_, ?_⟩
       · have e1 := (ix_row (k := k) (b := 4) (M := 4) (N := 44) (j := g) rfl rfl (by omega) (by decide) (by grind) (by grind) (by omega) (by decide)).1
         rw [← e1] at hb
         have u93 : ∀ v, up2 I (112 + 3 * k) g.toNatClampNeg v 93 = I 93 := fun v => up2_ne (by omega)
         (try simp only [u93] at *)
         clear hv1 hS hR hQ hK hW hT hG hP hB hA hU hC hX s0 s1 s2 s3 s4 s5 s6 s7 s8 s9 r0 r1 r2 r3 r4 r5 r6 r7 r8 r9 rA rB rC rD rE rF
         grind
       · rw [(ix_row (k := k) (b := 4) (M := 4) (N := 44) (j := g) rfl rfl (by omega) (by decide) (by grind) (by grind) (by omega) (by decide)).1]
         refine aIn_G ⟨hS, hR, hQ, hK, hW, hT, hG, hP, hB, hA, hU, hC, hX⟩ (fun j hj => by rw [up2_ne (by omega), up2_ne (by omega)]) (iG_line hG (vlt (vin 4 rfl (by grind) (by grind))) (by grind) (by grind)))
set_option maxHeartbeats 16000000 in
theorem pr_told {w : Int32} {g : Int32} {s : Int32} {h : aH} (hi : aIn h) : aPair L xs fv (d + 4) 42 130 [.int w, .int g, .int s] h := by
  obtain ⟨r, rr, A, I, J, rfl, hv0⟩ := hi
  have hv1 : aIn (111 + 3 * r, I, J, aRf r rr) := ⟨r, rr, A, I, J, rfl, hv0⟩
  obtain ⟨hS, hR, hQ, hK, hW, hT, hG, hP, hB, hA, hU, hC, hX⟩ := hv0
  have hS0 := hS
  have hR0 := hR
  obtain ⟨s0, s1, s2, s3, s4, s5, s6, s7, s8, s9⟩ := hS0
  obtain ⟨r0, r1, r2, r3, r4, r5, r6, r7, r8, r9, rA, rB, rC, rD, rE, rF⟩ := hR0
  refine cl_of rfl (Nat.le_add_right _ _) ?_
  repeat' (first
      | (refine go_v (cd := cd42) [32, 45, 54] 300 rfl ?_; try simp (disch := decide) only [av0, av1, av3, up2_e, up2_s, up2_o, up1_e, up1_o])
      | refine go_st (cd := cd42) 1 rfl (go_ifT (by decide) ?_)
      | refine go_st (cd := cd42) 1 rfl (go_ifF (by decide) ?_)
      | refine go_st (cd := cd42) 1 rfl (go_ifT (by assumption) ?_)
      | refine go_st (cd := cd42) 1 rfl (go_ifF (by assumption) ?_)
      | (refine go_st (cd := cd42) 1 rfl (go_if (fun hq => ?_) (fun hq => ?_)))
      | refine go_ireturn (cd := cd42) rfl ?_
      | refine go_zreturn (cd := cd42) rfl (Or.inl rfl) ?_
      | refine go_zreturn (cd := cd42) rfl (Or.inr rfl) ?_
      | refine go_lreturn (cd := cd42) rfl ?_
      | refine go_areturn (cd := cd42) rfl ?_
      | refine go_areturnN (cd := cd42) rfl ?_
      | refine go_return (cd := cd42) rfl ?_
      | (refine go_callv (cd := cd42) rfl rfl rfl rfl rfl (lv3 rfl) rfl (cl_isTellable (fun hq => ⟨rfl, ?_⟩) (fun hq => ⟨rfl, ?_⟩)) <;> (try simp (disch := decide) only [av0, av1, av3, up2_e, up2_s, up2_o, up1_e, up1_o] at hq))
      | (refine go_calls (cd := cd42) rfl rfl rfl rfl rfl (cl_isTellable (fun hq => ⟨rfl, ?_⟩) (fun hq => ⟨rfl, ?_⟩)) <;> (try simp (disch := decide) only [av0, av1, av3, up2_e, up2_s, up2_o, up1_e, up1_o] at hq))
      | (refine go_callv (cd := cd42) rfl rfl rfl rfl rfl (lv3 rfl) rfl (cl_shown (fun hq => ⟨rfl, ?_⟩) (fun hq => ⟨rfl, ?_⟩)) <;> (try simp (disch := decide) only [av0, av1, av3, up2_e, up2_s, up2_o, up1_e, up1_o] at hq))
      | (refine go_calls (cd := cd42) rfl rfl rfl rfl rfl (cl_shown (fun hq => ⟨rfl, ?_⟩) (fun hq => ⟨rfl, ?_⟩)) <;> (try simp (disch := decide) only [av0, av1, av3, up2_e, up2_s, up2_o, up1_e, up1_o] at hq))
      | (refine go_callv (cd := cd42) rfl rfl rfl rfl rfl (lv3 rfl) rfl (cl_ruleOf hG (fun k hk he => ⟨rfl, ?_⟩) (fun hq => ⟨rfl, ?_⟩)) <;> first | (subst he; have hl := rlq_of hG hk; have hk10 := hl.1; have hkc := hl.2.1; have hk1 := hl.2.2.2.1; have hk2 := hl.2.2.2.2.1; have hk3 := hl.2.2.2.2.2.1) | skip)
      | refine go_getR (cd := cd42) rfl (ru_lt (by assumption)) (ru_k (by assumption)) (aRf_ru (by assumption)).1 ?_
      | refine go_getR (cd := cd42) rfl (ru_lt (by assumption)) (ru_k (by assumption)) (aRf_ru (by assumption)).2 ?_
      | (refine go_get (cd := cd42) rfl (ru_lt (by assumption)) (ru_k (by assumption)) ?_; try simp (disch := decide) only [av0, av1, av3, up2_e, up2_s, up2_o, up1_e, up1_o])
      | refine go_iald (cd := cd42) rfl (ru_in2 (by assumption) (by grind) (by grind)) (ru_lt2 (by assumption)) (ru_k2 (by assumption)) ?_
      | refine go_iast (cd := cd42) rfl (ru_in2 (by assumption) (by grind) (by grind)) (ru_lt2 (by assumption)) (ru_k2 (by assumption)) ?_)
  all_goals first | refine ⟨Or.inl rfl, _, rfl, cl_of rfl (Nat.le_add_right _ _) ?_⟩ | skip
  all_goals (repeat' (first
      | (refine go_v (cd := cd130) [] 300 rfl ?_; try simp (disch := decide) only [av0, av1, av3, up2_e, up2_s, up2_o, up1_e, up1_o])
      | refine go_st (cd := cd130) 1 rfl (go_ifT (by decide) ?_)
      | refine go_st (cd := cd130) 1 rfl (go_ifF (by decide) ?_)
      | refine go_st (cd := cd130) 1 rfl (go_ifT (by assumption) ?_)
      | refine go_st (cd := cd130) 1 rfl (go_ifF (by assumption) ?_)
      | (refine go_st (cd := cd130) 1 rfl (go_if (fun hq => ?_) (fun hq => ?_)) <;> (try simp (disch := decide) only [av0, av1, av3, up2_e, up2_s, up2_o, up1_e, up1_o] at hq) <;> (try (exfalso; clear hv1 hS hR hQ hK hW hT hG hP hB hA hU hC hX s0 s1 s2 s3 s4 s5 s6 s7 s8 s9 r0 r1 r2 r3 r4 r5 r6 r7 r8 r9 rA rB rC rD rE rF; grind)))
      | refine go_ireturn (cd := cd130) rfl ?_
      | refine go_zreturn (cd := cd130) rfl (Or.inl rfl) ?_
      | refine go_zreturn (cd := cd130) rfl (Or.inr rfl) ?_
      | refine go_lreturn (cd := cd130) rfl ?_
      | refine go_areturn (cd := cd130) rfl ?_
      | refine go_areturnN (cd := cd130) rfl ?_
      | refine go_return (cd := cd130) rfl ?_
      | (refine go_callv (cd := cd130) rfl rfl rfl rfl rfl (lv3 rfl) rfl (cl_isRuleT hG (by assumption) ⟨rfl, ?_⟩))
      | (refine go_calls (cd := cd130) rfl rfl rfl rfl rfl (cl_isRuleT hG (by assumption) ⟨rfl, ?_⟩))
      | (refine go_callv (cd := cd130) rfl rfl rfl rfl rfl (lv3 rfl) rfl (cl_isRuleF hG (by assumption) ⟨rfl, ?_⟩))
      | (refine go_calls (cd := cd130) rfl rfl rfl rfl rfl (cl_isRuleF hG (by assumption) ⟨rfl, ?_⟩))
      | (refine go_callv (cd := cd130) rfl rfl rfl rfl rfl (lv3 rfl) rfl (cl_misWind (fun hq => ⟨rfl, ?_⟩) (fun hq => ⟨rfl, ?_⟩)) <;> (try simp (disch := decide) only [av0, av1, av3, up2_e, up2_s, up2_o, up1_e, up1_o] at hq) <;> (try (exfalso; clear hv1 hS hR hQ hK hW hT hG hP hB hA hU hC hX s0 s1 s2 s3 s4 s5 s6 s7 s8 s9 r0 r1 r2 r3 r4 r5 r6 r7 r8 r9 rA rB rC rD rE rF; grind)))
      | (refine go_calls (cd := cd130) rfl rfl rfl rfl rfl (cl_misWind (fun hq => ⟨rfl, ?_⟩) (fun hq => ⟨rfl, ?_⟩)) <;> (try simp (disch := decide) only [av0, av1, av3, up2_e, up2_s, up2_o, up1_e, up1_o] at hq) <;> (try (exfalso; clear hv1 hS hR hQ hK hW hT hG hP hB hA hU hC hX s0 s1 s2 s3 s4 s5 s6 s7 s8 s9 r0 r1 r2 r3 r4 r5 r6 r7 r8 r9 rA rB rC rD rE rF; grind)))
      | (refine go_callv (cd := cd130) rfl rfl rfl rfl rfl (lv3 rfl) rfl (cl_in (fun hq => ⟨rfl, ?_⟩) (fun hq => ⟨rfl, ?_⟩)) <;> (try simp (disch := decide) only [av0, av1, av3, up2_e, up2_s, up2_o, up1_e, up1_o] at hq) <;> (try (exfalso; clear hv1 hS hR hQ hK hW hT hG hP hB hA hU hC hX s0 s1 s2 s3 s4 s5 s6 s7 s8 s9 r0 r1 r2 r3 r4 r5 r6 r7 r8 r9 rA rB rC rD rE rF; grind)))
      | (refine go_calls (cd := cd130) rfl rfl rfl rfl rfl (cl_in (fun hq => ⟨rfl, ?_⟩) (fun hq => ⟨rfl, ?_⟩)) <;> (try simp (disch := decide) only [av0, av1, av3, up2_e, up2_s, up2_o, up1_e, up1_o] at hq) <;> (try (exfalso; clear hv1 hS hR hQ hK hW hT hG hP hB hA hU hC hX s0 s1 s2 s3 s4 s5 s6 s7 s8 s9 r0 r1 r2 r3 r4 r5 r6 r7 r8 r9 rA rB rC rD rE rF; grind)))
      | (refine go_iald (cd := cd130) rfl (nI_vin (n := 11) (by omega) (by decide)) (lv3 rfl) rfl ?_; simp only [hkc])
      | (refine go_iald (cd := cd130) rfl (ix_row (b := 5) (M := 5) (N := 55) rfl rfl (by omega) (by decide) (by grind) (by grind) (by omega) (by decide)).2 (lv3 rfl) rfl ?_)
      | (refine go_iast (cd := cd130) rfl (ix_row (b := 5) (M := 5) (N := 55) rfl rfl (by omega) (by decide) (by grind) (by grind) (by omega) (by decide)).2 (lv3 rfl) rfl ?_)))
  all_goals first
    | exact ⟨rfl, rfl, hv1⟩
    | (exfalso; clear hv1 hS hR hQ hK hW hT hG hP hB hA hU hC hX s0 s1 s2 s3 s4 s5 s6 s7 s8 s9 r0 r1 r2 r3 r4 r5 r6 r7 r8 r9 rA rB rC rD rE rF; first | grind | (have := hl.2.2; grind))
    | (have hb := (hG.2.2.2 _ hk).2.2.2.2.2.2.2.2 g.toNatClampNeg (vlt (vin 5 rfl (by grind) (by grind)))
       refine ⟨rfl, congrArg (fun q => some (Value.int q)) ?_, ?_⟩
       · have e1 := (ix_row (k := k) (b := 5) (M := 5) (N := 55) (j := g) rfl rfl (by omega) (by decide) (by grind) (by grind) (by omega) (by decide)).1
         rw [← e1] at hb
         have u93 : ∀ v, up2 I (113 + 3 * k) g.toNatClampNeg v 94 = I 94 := fun v => up2_ne (by omega)
         (try simp only [u93] at *)
         clear hv1 hS hR hQ hK hW hT hG hP hB hA hU hC hX s0 s1 s2 s3 s4 s5 s6 s7 s8 s9 r0 r1 r2 r3 r4 r5 r6 r7 r8 r9 rA rB rC rD rE rF
         grind
       · rw [(ix_row (k := k) (b := 5) (M := 5) (N := 55) (j := g) rfl rfl (by omega) (by decide) (by grind) (by grind) (by omega) (by decide)).1]
         refine aIn_G ⟨hS, hR, hQ, hK, hW, hT, hG, hP, hB, hA, hU, hC, hX⟩ (fun j hj => by rw [up2_ne (by omega), up2_ne (by omega)]) (iG_told hG (vlt (vin 5 rfl (by grind) (by grind))) (by grind) (by grind)))
end PR
