theorem SV_k {W : Wd} (hW : rcWf W.1) (R : Ru) (S : Sc) {n h : Nat} {now : Option Nat} {w : Nat} {fit : Nat → Bool} {m : Int} (hw : w < 4) (hn : n ≤ 3) : -1000000000000000 ≤ 1000 * SV W R S n h now w fit m ∧ 1000 * SV W R S n h now w fit m ≤ 1000000000000000 := by
  have h1 : -1000000000000 ≤ SV W R S n h now w fit m ∧ SV W R S n h now w fit m ≤ 1000000000000 := AV_abs (t := 1) hW R S hw hn
  omega
theorem l2i_Z {x : Int} (h1 : -100000 ≤ x) (h2 : x ≤ 100000) : (lZ x).toInt32 = iZ x := by
  rw [← iZ_l h1 h2, Int32.toInt32_toInt64]
section PR
variable {L : Nat} {xs : Nat → Int32} {fv : Value} {d : Nat}
theorem rf_sure {r : Nat} {rr : Option Nat} {A : Nat → List Cl} {I : Nat → Nat → Int32} {J : Nat → Nat → Int64} {w : Int32} {g : Int32} {m : Int32} {p : Int32} (hv : aInv r A I J) (hbad : ¬ ((∃ k, k < r ∧ w = nI k) ∧ ((1 ≤ g ∧ g ≤ 4) ∧ (-400 ≤ m ∧ m ≤ 400)) ∧ (p = 0 ∨ p = 1))) : aCl L xs fv 111 (d + 9) 146 [.ref 77, .int w, .int g, .int m, .int p] (aHp r rr I J) (fun rv2 h2 => h2.1 = 111 + 3 * r ∧ rv2 = some (.long (-9223372036854775808)) ∧ aIn h2) := by
  have hG := hv.2.2.2.2.2.2.1
  refine cl_of rfl (Nat.le_add_right _ _) ?_
  by_cases hw : ∃ k, k < r ∧ w = nI k
  · obtain ⟨k, hk, he⟩ := hw
    subst he
    repeat' (first
      | (refine go_v (cd := cd146) [45] 300 rfl ?_; try simp (disch := decide) only [av0, av1, av3, up2_e, up2_s, up2_o, up1_e, up1_o])
      | refine go_st (cd := cd146) 1 rfl (go_ifT (by decide) ?_)
      | refine go_st (cd := cd146) 1 rfl (go_ifF (by decide) ?_)
      | refine go_st (cd := cd146) 1 rfl (go_ifT (by assumption) ?_)
      | refine go_st (cd := cd146) 1 rfl (go_ifF (by assumption) ?_)
      | (refine go_st (cd := cd146) 1 rfl (go_if (fun hq => ?_) (fun hq => ?_)))
      | refine go_ireturn (cd := cd146) rfl ?_
      | refine go_zreturn (cd := cd146) rfl (Or.inl rfl) ?_
      | refine go_zreturn (cd := cd146) rfl (Or.inr rfl) ?_
      | refine go_lreturn (cd := cd146) rfl ?_
      | refine go_areturn (cd := cd146) rfl ?_
      | refine go_areturnN (cd := cd146) rfl ?_
      | refine go_return (cd := cd146) rfl ?_
      | (refine go_callv (cd := cd146) rfl rfl rfl rfl rfl (lv3 rfl) rfl (cl_isRuleT hG (by assumption) ⟨rfl, ?_⟩))
      | (refine go_calls (cd := cd146) rfl rfl rfl rfl rfl (cl_isRuleT hG (by assumption) ⟨rfl, ?_⟩))
      | (refine go_callv (cd := cd146) rfl rfl rfl rfl rfl (lv3 rfl) rfl (cl_misHours (fun hq => ⟨rfl, ?_⟩) (fun hq => ⟨rfl, ?_⟩)) <;> (try simp (disch := decide) only [av0, av1, av3, up2_e, up2_s, up2_o, up1_e, up1_o] at hq))
      | (refine go_calls (cd := cd146) rfl rfl rfl rfl rfl (cl_misHours (fun hq => ⟨rfl, ?_⟩) (fun hq => ⟨rfl, ?_⟩)) <;> (try simp (disch := decide) only [av0, av1, av3, up2_e, up2_s, up2_o, up1_e, up1_o] at hq))
      | (refine go_callv (cd := cd146) rfl rfl rfl rfl rfl (lv3 rfl) rfl (cl_in (fun hq => ⟨rfl, ?_⟩) (fun hq => ⟨rfl, ?_⟩)) <;> (try simp (disch := decide) only [av0, av1, av3, up2_e, up2_s, up2_o, up1_e, up1_o] at hq))
      | (refine go_calls (cd := cd146) rfl rfl rfl rfl rfl (cl_in (fun hq => ⟨rfl, ?_⟩) (fun hq => ⟨rfl, ?_⟩)) <;> (try simp (disch := decide) only [av0, av1, av3, up2_e, up2_s, up2_o, up1_e, up1_o] at hq)))
    all_goals first
      | exact ⟨rfl, rfl, aIn_of hv rr⟩
      | (exfalso; exact hbad ⟨⟨k, hk, rfl⟩, by grind⟩)
  · have hn : ¬ (0 ≤ w ∧ w < nI r) := fun h => hw (by
      have := hG.2.2.1
      obtain ⟨j, hj, e, -⟩ := nI_ex (nI r) (nI_toInt (by omega)) h.1 h.2
      exact ⟨j, hj, e⟩)
    repeat' (first
      | (refine go_v (cd := cd146) [45] 300 rfl ?_; try simp (disch := decide) only [av0, av1, av3, up2_e, up2_s, up2_o, up1_e, up1_o])
      | refine go_st (cd := cd146) 1 rfl (go_ifT (by decide) ?_)
      | refine go_st (cd := cd146) 1 rfl (go_ifF (by decide) ?_)
      | refine go_st (cd := cd146) 1 rfl (go_ifT (by assumption) ?_)
      | refine go_st (cd := cd146) 1 rfl (go_ifF (by assumption) ?_)
      | (refine go_st (cd := cd146) 1 rfl (go_if (fun hq => ?_) (fun hq => ?_)))
      | refine go_ireturn (cd := cd146) rfl ?_
      | refine go_zreturn (cd := cd146) rfl (Or.inl rfl) ?_
      | refine go_zreturn (cd := cd146) rfl (Or.inr rfl) ?_
      | refine go_lreturn (cd := cd146) rfl ?_
      | refine go_areturn (cd := cd146) rfl ?_
      | refine go_areturnN (cd := cd146) rfl ?_
      | refine go_return (cd := cd146) rfl ?_
      | (refine go_callv (cd := cd146) rfl rfl rfl rfl rfl (lv3 rfl) rfl (cl_isRuleF hG (by assumption) ⟨rfl, ?_⟩))
      | (refine go_calls (cd := cd146) rfl rfl rfl rfl rfl (cl_isRuleF hG (by assumption) ⟨rfl, ?_⟩))
      | (refine go_callv (cd := cd146) rfl rfl rfl rfl rfl (lv3 rfl) rfl (cl_misHours (fun hq => ⟨rfl, ?_⟩) (fun hq => ⟨rfl, ?_⟩)) <;> (try simp (disch := decide) only [av0, av1, av3, up2_e, up2_s, up2_o, up1_e, up1_o] at hq))
      | (refine go_calls (cd := cd146) rfl rfl rfl rfl rfl (cl_misHours (fun hq => ⟨rfl, ?_⟩) (fun hq => ⟨rfl, ?_⟩)) <;> (try simp (disch := decide) only [av0, av1, av3, up2_e, up2_s, up2_o, up1_e, up1_o] at hq))
      | (refine go_callv (cd := cd146) rfl rfl rfl rfl rfl (lv3 rfl) rfl (cl_in (fun hq => ⟨rfl, ?_⟩) (fun hq => ⟨rfl, ?_⟩)) <;> (try simp (disch := decide) only [av0, av1, av3, up2_e, up2_s, up2_o, up1_e, up1_o] at hq))
      | (refine go_calls (cd := cd146) rfl rfl rfl rfl rfl (cl_in (fun hq => ⟨rfl, ?_⟩) (fun hq => ⟨rfl, ?_⟩)) <;> (try simp (disch := decide) only [av0, av1, av3, up2_e, up2_s, up2_o, up1_e, up1_o] at hq)))
    all_goals exact ⟨rfl, rfl, aIn_of hv rr⟩
set_option maxHeartbeats 4000000 in
theorem pr_sure {w g m p : Int32} {h : aH} (hi : aIn h) : aPair L xs fv (d + 9) 46 146 [.int w, .int g, .int m, .int p] h := by
  obtain ⟨r, rr, A, I, J, rfl, hv⟩ := hi
  have hG := hv.2.2.2.2.2.2.1
  refine cl_of rfl (Nat.le_add_right _ _) ?_
  repeat' (first
      | (refine go_v (cd := cd46) [45] 300 rfl ?_; try simp (disch := decide) only [av0, av1, av3, up2_e, up2_s, up2_o, up1_e, up1_o])
      | refine go_st (cd := cd46) 1 rfl (go_ifT (by decide) ?_)
      | refine go_st (cd := cd46) 1 rfl (go_ifF (by decide) ?_)
      | refine go_st (cd := cd46) 1 rfl (go_ifT (by assumption) ?_)
      | refine go_st (cd := cd46) 1 rfl (go_ifF (by assumption) ?_)
      | (refine go_st (cd := cd46) 1 rfl (go_if (fun hq => ?_) (fun hq => ?_)))
      | refine go_ireturn (cd := cd46) rfl ?_
      | refine go_zreturn (cd := cd46) rfl (Or.inl rfl) ?_
      | refine go_zreturn (cd := cd46) rfl (Or.inr rfl) ?_
      | refine go_lreturn (cd := cd46) rfl ?_
      | refine go_areturn (cd := cd46) rfl ?_
      | refine go_areturnN (cd := cd46) rfl ?_
      | refine go_return (cd := cd46) rfl ?_
      | (refine go_callv (cd := cd46) rfl rfl rfl rfl rfl (lv3 rfl) rfl (cl_isHours (fun hq => ⟨rfl, ?_⟩) (fun hq => ⟨rfl, ?_⟩)) <;> (try simp (disch := decide) only [av0, av1, av3, up2_e, up2_s, up2_o, up1_e, up1_o] at hq))
      | (refine go_calls (cd := cd46) rfl rfl rfl rfl rfl (cl_isHours (fun hq => ⟨rfl, ?_⟩) (fun hq => ⟨rfl, ?_⟩)) <;> (try simp (disch := decide) only [av0, av1, av3, up2_e, up2_s, up2_o, up1_e, up1_o] at hq))
      | (refine go_callv (cd := cd46) rfl rfl rfl rfl rfl (lv3 rfl) rfl (cl_isPart (fun hq => ⟨rfl, ?_⟩) (fun hq => ⟨rfl, ?_⟩)) <;> (try simp (disch := decide) only [av0, av1, av3, up2_e, up2_s, up2_o, up1_e, up1_o] at hq))
      | (refine go_calls (cd := cd46) rfl rfl rfl rfl rfl (cl_isPart (fun hq => ⟨rfl, ?_⟩) (fun hq => ⟨rfl, ?_⟩)) <;> (try simp (disch := decide) only [av0, av1, av3, up2_e, up2_s, up2_o, up1_e, up1_o] at hq))
      | (refine go_callv (cd := cd46) rfl rfl rfl rfl rfl (lv3 rfl) rfl (cl_ruleOf hG (fun k hk he => ⟨rfl, ?_⟩) (fun hq => ⟨rfl, ?_⟩)) <;> first | (subst he; have hl := rlq_of hG hk; have hk10 := hl.1; have hkc := hl.2.1; have hk1 := hl.2.2.2.1; have hk2 := hl.2.2.2.2.1; have hk3 := hl.2.2.2.2.2.1) | skip))
  all_goals first
    | exact ⟨Or.inl rfl, _, rfl, rf_sure hv (fun h => by first | exact hq h.2.1.1 | exact hq h.2.2 | exact hq (in_of hv h.1))⟩
    | (exact ⟨Or.inl rfl, _, rfl, rf_sure hv (fun h => by grind)⟩)
    | skip
  have hpart : p = 0 ∨ p = 1 := by grind
  have hhours : 1 ≤ g ∧ g ≤ 4 := by grind
  have hm1 : -400 ≤ m := by grind
  have hm2 : m ≤ 400 := by grind
  obtain ⟨n, hn3, rfl⟩ := hours_ex hhours
  obtain ⟨q, hq2, rfl⟩ := part_ex hpart
  have hmz : m = iZ m.toInt := (Int32.ofInt_toInt m).symm
  have hz1 : -400 ≤ m.toInt := Int32.le_iff_toInt_le.mp hm1
  have hz2 : m.toInt ≤ 400 := Int32.le_iff_toInt_le.mp hm2
  obtain ⟨hb, hR, -⟩ := rul_of hv hk
  have hwf := (wld_of hv).2.2.2.2.1
  have h99 := (nums_of hv).2.2.2.1
  have hw4 := (nums_of hv).2.1
  refine go_v (cd := cd46) [] 9 rfl ?_
  refine go_callv (cd := cd46) rfl rfl rfl rfl rfl (lv3 rfl) rfl (cl_become51 ⟨rfl, ?_⟩)
  rw [tr_heap]
  refine go_v (cd := cd46) [] 9 rfl ?_
  refine go_callv (cd := cd46) rfl rfl rfl rfl rfl (lv3 rfl) rfl (cl_aheadX (t := 1) (n := n) (m := m.toInt) (wld_6 (wld_of hv)) hb (rul_6 hb hR) (fun g => rul_tr hb hR) (by decide) rfl hn3 (by omega) ⟨hz1, hz2⟩ rfl hmz (scn_tr (scn_of hv)) (iX_tr hv) (fun c hX => ⟨rfl, ?_⟩))
  refine go_v (cd := cd46) [] 9 rfl ?_
  refine go_laldS (cd := cd46) rfl (odds_of (L := L) (xs := xs) hn3).1 rfl ?_
  rw [(odds_of (L := L) (xs := xs) hn3).2]
  refine go_v (cd := cd46) [] 9 rfl ?_
  have hab2 := AV_abs (t := 1) hwf (rlI I k) (scI I) (n := n) (h := (I 77 6).toNatClampNeg) (now := upN (I 77 4)) (w := (I 77 5).toNatClampNeg) (fit := bt (I 77 1)) (m := m.toInt) hw4 hn3
  have hp3 : (1000 : Nat) ^ n ≤ 1000 ^ 3 := Nat.pow_le_pow_right (by decide) hn3
  have hp0 : 0 < (1000 : Nat) ^ n := Nat.pow_pos (by decide)
  refine go_calls (cd := cd46) rfl rfl rfl rfl rfl (cl_clow (b := 1000 ^ n) (part := q) rfl rfl rfl (by omega) (by omega) hp0 (by omega) hq2 ⟨rfl, ?_⟩)
  refine go_lreturn (cd := cd46) rfl ⟨Or.inl rfl, _, rfl, ?_⟩
  have hv' := tr_inv hv hX
  obtain ⟨n1, n2, n3, n4, n5, n6⟩ := nums_of hv'
  obtain ⟨u1, u2⟩ := now_of hv'
  refine cl_of rfl (Nat.le_add_right _ _) ?_
  refine go_v (cd := cd146) [] 9 rfl ?_
  refine go_callv (cd := cd146) rfl rfl rfl rfl rfl (lv3 rfl) rfl (cl_isRuleT hv'.2.2.2.2.2.2.1 hk ⟨rfl, ?_⟩)
  refine go_st (cd := cd146) 1 rfl (go_ifF (by decide) ?_)
  refine go_v (cd := cd146) [] 9 rfl ?_
  refine go_callv (cd := cd146) rfl rfl rfl rfl rfl (lv3 rfl) rfl (cl_misHours (fun _ => ⟨rfl, ?_⟩) (fun hx => absurd hhours hx))
  refine go_st (cd := cd146) 1 rfl (go_ifF (by decide) ?_)
  refine go_v (cd := cd146) [] 9 rfl ?_
  refine go_callv (cd := cd146) rfl rfl rfl rfl rfl (lv3 rfl) rfl (cl_in (fun _ => ⟨rfl, ?_⟩) (fun hx => absurd ⟨hm1, hm2⟩ hx))
  refine go_st (cd := cd146) 1 rfl (go_ifF (by decide) ?_)
  refine go_v (cd := cd146) [] 9 rfl ?_
  refine go_callv (cd := cd146) rfl rfl rfl rfl rfl (lv3 rfl) rfl (cl_in (fun _ => ⟨rfl, ?_⟩) (fun hx => absurd (by rcases hpart with e | e <;> rw [e] <;> decide) hx))
  refine go_st (cd := cd146) 1 rfl (go_ifF (by decide) ?_)
  refine go_v (cd := cd146) [] 9 rfl ?_
  refine go_callv (cd := cd146) rfl rfl rfl rfl rfl (lv3 rfl) rfl (cl_asIs (rwl_of hv').1 (fun c2 hc2 => ⟨rfl, ?_⟩))
  refine go_v (cd := cd146) [] 20 rfl ?_
  refine go_callv (cd := cd146) rfl rfl rfl rfl rfl (lv3 rfl) rfl (cl_goR (n := n) (due := m.toInt) (as_rwl hv') (as_rsc hv') (rul_of hv' hk).2.2 n3 (by omega) n1 (as_fol hv' hc2) hn3 ⟨hz1, hz2⟩ n2 u2 rfl rfl u1 rfl hmz (fun I2 J2 hf2 hJ2 k44 k45 k46 k47 => ⟨rfl, ?_⟩))
  refine go_v (cd := cd146) [] 20 rfl ?_
  rw [show aVal (aHp r rr I2 J2) 1 77 45 = _ from congrArg Value.long k45]
  refine go_callv (cd := cd146) rfl rfl rfl rfl rfl (lv3 rfl) rfl (cl_rlow (b := 1000 * 1000 ^ n) (part := q) rfl k46 rfl (SV_k (wld_of hv').2.2.2.2.1 _ _ n2 hn3).1 (SV_k (wld_of hv').2.2.2.2.1 _ _ n2 hn3).2 (by omega) (by omega) hq2 ⟨rfl, ?_⟩)
  refine go_lreturn (cd := cd146) rfl ⟨rfl, ?_, gd_done hv' hf2 hJ2⟩
  rw [lowZ_scale hp0]
  rfl
set_option maxHeartbeats 4000000 in
theorem pr_worst {w g : Int32} {h : aH} (hi : aIn h) : aPair L xs fv (d + 9) 54 155 [.int w, .int g] h := by
  obtain ⟨r, rr, A, I, J, rfl, hv⟩ := hi
  have hG := hv.2.2.2.2.2.2.1
  refine cl_of rfl (Nat.le_add_right _ _) ?_
  repeat' (first
      | (refine go_v (cd := cd54) [25] 300 rfl ?_; try simp (disch := decide) only [av0, av1, av3, up2_e, up2_s, up2_o, up1_e, up1_o])
      | refine go_st (cd := cd54) 1 rfl (go_ifT (by decide) ?_)
      | refine go_st (cd := cd54) 1 rfl (go_ifF (by decide) ?_)
      | refine go_st (cd := cd54) 1 rfl (go_ifT (by assumption) ?_)
      | refine go_st (cd := cd54) 1 rfl (go_ifF (by assumption) ?_)
      | (refine go_st (cd := cd54) 1 rfl (go_if (fun hq => ?_) (fun hq => ?_)))
      | refine go_ireturn (cd := cd54) rfl ?_
      | refine go_zreturn (cd := cd54) rfl (Or.inl rfl) ?_
      | refine go_zreturn (cd := cd54) rfl (Or.inr rfl) ?_
      | refine go_lreturn (cd := cd54) rfl ?_
      | refine go_areturn (cd := cd54) rfl ?_
      | refine go_areturnN (cd := cd54) rfl ?_
      | refine go_return (cd := cd54) rfl ?_
      | (refine go_callv (cd := cd54) rfl rfl rfl rfl rfl (lv3 rfl) rfl (cl_isHours (fun hq => ⟨rfl, ?_⟩) (fun hq => ⟨rfl, ?_⟩)) <;> (try simp (disch := decide) only [av0, av1, av3, up2_e, up2_s, up2_o, up1_e, up1_o] at hq))
      | (refine go_calls (cd := cd54) rfl rfl rfl rfl rfl (cl_isHours (fun hq => ⟨rfl, ?_⟩) (fun hq => ⟨rfl, ?_⟩)) <;> (try simp (disch := decide) only [av0, av1, av3, up2_e, up2_s, up2_o, up1_e, up1_o] at hq))
      | (refine go_callv (cd := cd54) rfl rfl rfl rfl rfl (lv3 rfl) rfl (cl_ruleOf hG (fun k hk he => ⟨rfl, ?_⟩) (fun hq => ⟨rfl, ?_⟩)) <;> first | (subst he; have hl := rlq_of hG hk; have hk10 := hl.1; have hkc := hl.2.1; have hk1 := hl.2.2.2.1; have hk2 := hl.2.2.2.2.1; have hk3 := hl.2.2.2.2.2.1) | skip))
  · have hhours : 1 ≤ g ∧ g ≤ 4 := by grind
    obtain ⟨n, hn3, rfl⟩ := hours_ex hhours
    obtain ⟨hb, hR, -⟩ := rul_of hv hk
    have hwf := (wld_of hv).2.2.2.2.1
    have h99 := (nums_of hv).2.2.2.1
    have hw4 := (nums_of hv).2.1
    refine go_v (cd := cd54) [] 9 rfl ?_
    refine go_callv (cd := cd54) rfl rfl rfl rfl rfl (lv3 rfl) rfl (cl_become51 ⟨rfl, ?_⟩)
    rw [tr_heap]
    refine go_v (cd := cd54) [] 9 rfl ?_
    refine go_callv (cd := cd54) rfl rfl rfl rfl rfl (lv3 rfl) rfl (cl_aheadX (t := 2) (n := n) (m := 0) (wld_6 (wld_of hv)) hb (rul_6 hb hR) (fun g => rul_tr hb hR) (by decide) rfl hn3 (by omega) (by omega) rfl rfl (scn_tr (scn_of hv)) (iX_tr hv) (fun c hX => ⟨rfl, ?_⟩))
    refine go_v (cd := cd54) [] 9 rfl ?_
    have hlv := LV_abs hwf (rlI I k) (scI I) n (I 77 6).toNatClampNeg (upN (I 77 4)) (I 77 5).toNatClampNeg (bt (I 77 1))
    have hl2 : (lZ (AV 2 (wdI A I) (rlI I k) (scI I) n (I 77 6).toNatClampNeg (upN (I 77 4)) (I 77 5).toNatClampNeg (bt (I 77 1)) 0)).toInt32 = iZ (LV (wdI A I) (rlI I k) (scI I) n (I 77 6).toNatClampNeg (upN (I 77 4)) (I 77 5).toNatClampNeg (bt (I 77 1))) := l2i_Z (x := LV (wdI A I) (rlI I k) (scI I) n (I 77 6).toNatClampNeg (upN (I 77 4)) (I 77 5).toNatClampNeg (bt (I 77 1))) (by omega) (by omega)
    rw [hl2]
    refine go_ireturn (cd := cd54) rfl ⟨Or.inl rfl, _, rfl, ?_⟩
    have hv' := tr_inv hv hX
    obtain ⟨n1, n2, n3, n4, n5, n6⟩ := nums_of hv'
    obtain ⟨u1, u2⟩ := now_of hv'
    refine cl_of rfl (Nat.le_add_right _ _) ?_
    refine go_v (cd := cd155) [] 9 rfl ?_
    refine go_callv (cd := cd155) rfl rfl rfl rfl rfl (lv3 rfl) rfl (cl_isRuleT hv'.2.2.2.2.2.2.1 hk ⟨rfl, ?_⟩)
    refine go_st (cd := cd155) 1 rfl (go_ifF (by decide) ?_)
    refine go_v (cd := cd155) [] 9 rfl ?_
    refine go_callv (cd := cd155) rfl rfl rfl rfl rfl (lv3 rfl) rfl (cl_misHours (fun _ => ⟨rfl, ?_⟩) (fun hx => absurd hhours hx))
    refine go_st (cd := cd155) 1 rfl (go_ifF (by decide) ?_)
    refine go_v (cd := cd155) [] 9 rfl ?_
    refine go_callv (cd := cd155) rfl rfl rfl rfl rfl (lv3 rfl) rfl (cl_asIs (rwl_of hv').1 (fun c2 hc2 => ⟨rfl, ?_⟩))
    refine go_v (cd := cd155) [] 20 rfl ?_
    refine go_callv (cd := cd155) rfl rfl rfl rfl rfl (lv3 rfl) rfl (cl_goR (n := n) (due := 0) (as_rwl hv') (as_rsc hv') (rul_of hv' hk).2.2 n3 (by omega) n1 (as_fol hv' hc2) hn3 (by omega) n2 u2 rfl rfl u1 rfl rfl (fun I2 J2 hf2 hJ2 k44 k45 k46 k47 => ⟨rfl, ?_⟩))
    refine go_v (cd := cd155) [] 20 rfl ?_
    rw [show aVal (aHp r rr I2 J2) 0 77 47 = _ from congrArg Value.int k47]
    refine go_ireturn (cd := cd155) rfl ⟨rfl, rfl, gd_done hv' hf2 hJ2⟩
  · exact ⟨Or.inl rfl, _, rfl, by
      refine cl_of rfl (Nat.le_add_right _ _) ?_
      repeat' (first
      | (refine go_v (cd := cd155) [24] 300 rfl ?_; try simp (disch := decide) only [av0, av1, av3, up2_e, up2_s, up2_o, up1_e, up1_o])
      | refine go_st (cd := cd155) 1 rfl (go_ifT (by decide) ?_)
      | refine go_st (cd := cd155) 1 rfl (go_ifF (by decide) ?_)
      | refine go_st (cd := cd155) 1 rfl (go_ifT (by assumption) ?_)
      | refine go_st (cd := cd155) 1 rfl (go_ifF (by assumption) ?_)
      | (refine go_st (cd := cd155) 1 rfl (go_if (fun hq => ?_) (fun hq => ?_)))
      | refine go_ireturn (cd := cd155) rfl ?_
      | refine go_zreturn (cd := cd155) rfl (Or.inl rfl) ?_
      | refine go_zreturn (cd := cd155) rfl (Or.inr rfl) ?_
      | refine go_lreturn (cd := cd155) rfl ?_
      | refine go_areturn (cd := cd155) rfl ?_
      | refine go_areturnN (cd := cd155) rfl ?_
      | refine go_return (cd := cd155) rfl ?_
      | (refine go_callv (cd := cd155) rfl rfl rfl rfl rfl (lv3 rfl) rfl (cl_isRuleT hG (by assumption) ⟨rfl, ?_⟩))
      | (refine go_calls (cd := cd155) rfl rfl rfl rfl rfl (cl_isRuleT hG (by assumption) ⟨rfl, ?_⟩))
      | (refine go_callv (cd := cd155) rfl rfl rfl rfl rfl (lv3 rfl) rfl (cl_misHours (fun hq => ⟨rfl, ?_⟩) (fun hq => ⟨rfl, ?_⟩)) <;> (try simp (disch := decide) only [av0, av1, av3, up2_e, up2_s, up2_o, up1_e, up1_o] at hq))
      | (refine go_calls (cd := cd155) rfl rfl rfl rfl rfl (cl_misHours (fun hq => ⟨rfl, ?_⟩) (fun hq => ⟨rfl, ?_⟩)) <;> (try simp (disch := decide) only [av0, av1, av3, up2_e, up2_s, up2_o, up1_e, up1_o] at hq)))
      all_goals first
        | exact ⟨rfl, rfl, aIn_of hv rr⟩
        | (exfalso; exact absurd ‹1 ≤ g ∧ g ≤ 4› ‹¬ (1 ≤ g ∧ g ≤ 4)›)⟩
  · exact ⟨Or.inl rfl, _, rfl, by
      refine cl_of rfl (Nat.le_add_right _ _) ?_
      repeat' (first
      | (refine go_v (cd := cd155) [24] 300 rfl ?_; try simp (disch := decide) only [av0, av1, av3, up2_e, up2_s, up2_o, up1_e, up1_o])
      | refine go_st (cd := cd155) 1 rfl (go_ifT (by decide) ?_)
      | refine go_st (cd := cd155) 1 rfl (go_ifF (by decide) ?_)
      | refine go_st (cd := cd155) 1 rfl (go_ifT (by assumption) ?_)
      | refine go_st (cd := cd155) 1 rfl (go_ifF (by assumption) ?_)
      | (refine go_st (cd := cd155) 1 rfl (go_if (fun hq => ?_) (fun hq => ?_)))
      | refine go_ireturn (cd := cd155) rfl ?_
      | refine go_zreturn (cd := cd155) rfl (Or.inl rfl) ?_
      | refine go_zreturn (cd := cd155) rfl (Or.inr rfl) ?_
      | refine go_lreturn (cd := cd155) rfl ?_
      | refine go_areturn (cd := cd155) rfl ?_
      | refine go_areturnN (cd := cd155) rfl ?_
      | refine go_return (cd := cd155) rfl ?_
      | (refine go_callv (cd := cd155) rfl rfl rfl rfl rfl (lv3 rfl) rfl (cl_isRuleF hG (by assumption) ⟨rfl, ?_⟩))
      | (refine go_calls (cd := cd155) rfl rfl rfl rfl rfl (cl_isRuleF hG (by assumption) ⟨rfl, ?_⟩))
      | (refine go_callv (cd := cd155) rfl rfl rfl rfl rfl (lv3 rfl) rfl (cl_misHours (fun hq => ⟨rfl, ?_⟩) (fun hq => ⟨rfl, ?_⟩)) <;> (try simp (disch := decide) only [av0, av1, av3, up2_e, up2_s, up2_o, up1_e, up1_o] at hq))
      | (refine go_calls (cd := cd155) rfl rfl rfl rfl rfl (cl_misHours (fun hq => ⟨rfl, ?_⟩) (fun hq => ⟨rfl, ?_⟩)) <;> (try simp (disch := decide) only [av0, av1, av3, up2_e, up2_s, up2_o, up1_e, up1_o] at hq)))
      all_goals exact ⟨rfl, rfl, aIn_of hv rr⟩⟩
end PR
