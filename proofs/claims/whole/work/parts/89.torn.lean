theorem gd_done3 {r : Nat} {rr : Option Nat} {A : Nat → List Cl} {I : Nat → Nat → Int32} {J : Nat → Nat → Int64} {c : Nat → Int32} {I2 I' : Nat → Nat → Int32} {J' : Nat → Nat → Int64} (hv : aInv r A I J) (hf : fr (asH I c) I2) (hf2 : fr I2 I') (hJ : ∀ j, j ≠ 77 → j ≠ 102 → J' j = J j) : aIn (aHp r rr I' J') := by
  refine aIn_of (inv_rel hv (relI_fr (relI_fr as_rel hf) hf2) (fun j hj => hJ j (by omega) (by omega)) (iX_c (I := I) ?_ ?_ ?_ ?_ hv.2.2.2.2.2.2.2.2.2.2.2.2)) rr
  · rw [hf2.2 0 (by decide), hf.2 0 (by decide)]; rfl
  · rw [hf2.2 11 (by decide), hf.2 11 (by decide)]; rfl
  · rw [hf2.1 19 (by decide) (by decide) (by decide), hf.1 19 (by decide) (by decide) (by decide)]; rfl
  · rw [hf2.1 78 (by decide) (by decide) (by decide), hf.1 78 (by decide) (by decide) (by decide)]; rfl
section PR
variable {L : Nat} {xs : Nat → Int32} {fv : Value} {d : Nat}
theorem rf_torn {r : Nat} {rr : Option Nat} {A : Nat → List Cl} {I : Nat → Nat → Int32} {J : Nat → Nat → Int64} {w : Int32} {s : Int32} {g : Int32} {p : Int32} (hv : aInv r A I J) (hbad : ¬ ((∃ k, k < r ∧ w = nI k) ∧ ((0 ≤ s ∧ s < I 77 0) ∧ (I 77 1 >>> (s &&& 31)) &&& 1 = 1 ∧ (1 ≤ g ∧ g ≤ 4)) ∧ (p = 0 ∨ p = 1))) : aCl L xs fv 111 (d + 9) 150 [.ref 77, .int w, .int s, .int g, .int p] (aHp r rr I J) (fun rv2 h2 => h2.1 = 111 + 3 * r ∧ rv2 = some (.long (-9223372036854775808)) ∧ aIn h2) := by
  have hG := hv.2.2.2.2.2.2.1
  have r0 := hv.2.1.1
  have r1 := hv.2.1.2.1
  refine cl_of rfl (Nat.le_add_right _ _) ?_
  by_cases hw : ∃ k, k < r ∧ w = nI k
  · obtain ⟨k, hk, he⟩ := hw
    subst he
    repeat' (first
      | (refine go_v (cd := cd150) [51] 300 rfl ?_; try simp (disch := decide) only [av0, av1, av3, up2_e, up2_s, up2_o, up1_e, up1_o])
      | refine go_st (cd := cd150) 1 rfl (go_ifT (by decide) ?_)
      | refine go_st (cd := cd150) 1 rfl (go_ifF (by decide) ?_)
      | refine go_st (cd := cd150) 1 rfl (go_ifT (by assumption) ?_)
      | refine go_st (cd := cd150) 1 rfl (go_ifF (by assumption) ?_)
      | (refine go_st (cd := cd150) 1 rfl (go_if (fun hq => ?_) (fun hq => ?_)))
      | refine go_ireturn (cd := cd150) rfl ?_
      | refine go_zreturn (cd := cd150) rfl (Or.inl rfl) ?_
      | refine go_zreturn (cd := cd150) rfl (Or.inr rfl) ?_
      | refine go_lreturn (cd := cd150) rfl ?_
      | refine go_areturn (cd := cd150) rfl ?_
      | refine go_areturnN (cd := cd150) rfl ?_
      | refine go_return (cd := cd150) rfl ?_
      | (refine go_callv (cd := cd150) rfl rfl rfl rfl rfl (lv3 rfl) rfl (cl_isRuleT hG (by assumption) ⟨rfl, ?_⟩))
      | (refine go_calls (cd := cd150) rfl rfl rfl rfl rfl (cl_isRuleT hG (by assumption) ⟨rfl, ?_⟩))
      | (refine go_callv (cd := cd150) rfl rfl rfl rfl rfl (lv3 rfl) rfl (cl_misSail (fun hq => ⟨rfl, ?_⟩) (fun hq => ⟨rfl, ?_⟩)) <;> (try simp (disch := decide) only [av0, av1, av3, up2_e, up2_s, up2_o, up1_e, up1_o] at hq))
      | (refine go_calls (cd := cd150) rfl rfl rfl rfl rfl (cl_misSail (fun hq => ⟨rfl, ?_⟩) (fun hq => ⟨rfl, ?_⟩)) <;> (try simp (disch := decide) only [av0, av1, av3, up2_e, up2_s, up2_o, up1_e, up1_o] at hq))
      | (refine go_callv (cd := cd150) rfl rfl rfl rfl rfl (lv3 rfl) rfl (cl_has (fun hq => ⟨rfl, ?_⟩) (fun hq => ⟨rfl, ?_⟩)) <;> (try simp (disch := decide) only [av0, av1, av3, up2_e, up2_s, up2_o, up1_e, up1_o] at hq))
      | (refine go_calls (cd := cd150) rfl rfl rfl rfl rfl (cl_has (fun hq => ⟨rfl, ?_⟩) (fun hq => ⟨rfl, ?_⟩)) <;> (try simp (disch := decide) only [av0, av1, av3, up2_e, up2_s, up2_o, up1_e, up1_o] at hq))
      | (refine go_callv (cd := cd150) rfl rfl rfl rfl rfl (lv3 rfl) rfl (cl_misHours (fun hq => ⟨rfl, ?_⟩) (fun hq => ⟨rfl, ?_⟩)) <;> (try simp (disch := decide) only [av0, av1, av3, up2_e, up2_s, up2_o, up1_e, up1_o] at hq))
      | (refine go_calls (cd := cd150) rfl rfl rfl rfl rfl (cl_misHours (fun hq => ⟨rfl, ?_⟩) (fun hq => ⟨rfl, ?_⟩)) <;> (try simp (disch := decide) only [av0, av1, av3, up2_e, up2_s, up2_o, up1_e, up1_o] at hq))
      | (refine go_callv (cd := cd150) rfl rfl rfl rfl rfl (lv3 rfl) rfl (cl_in (fun hq => ⟨rfl, ?_⟩) (fun hq => ⟨rfl, ?_⟩)) <;> (try simp (disch := decide) only [av0, av1, av3, up2_e, up2_s, up2_o, up1_e, up1_o] at hq))
      | (refine go_calls (cd := cd150) rfl rfl rfl rfl rfl (cl_in (fun hq => ⟨rfl, ?_⟩) (fun hq => ⟨rfl, ?_⟩)) <;> (try simp (disch := decide) only [av0, av1, av3, up2_e, up2_s, up2_o, up1_e, up1_o] at hq)))
    all_goals first
      | exact ⟨rfl, rfl, aIn_of hv rr⟩
      | (exfalso; exact hbad ⟨⟨k, hk, rfl⟩, by grind⟩)
  · have hn : ¬ (0 ≤ w ∧ w < nI r) := fun h => hw (by
      have := hG.2.2.1
      obtain ⟨j, hj, e, -⟩ := nI_ex (nI r) (nI_toInt (by omega)) h.1 h.2
      exact ⟨j, hj, e⟩)
    repeat' (first
      | (refine go_v (cd := cd150) [51] 300 rfl ?_; try simp (disch := decide) only [av0, av1, av3, up2_e, up2_s, up2_o, up1_e, up1_o])
      | refine go_st (cd := cd150) 1 rfl (go_ifT (by decide) ?_)
      | refine go_st (cd := cd150) 1 rfl (go_ifF (by decide) ?_)
      | refine go_st (cd := cd150) 1 rfl (go_ifT (by assumption) ?_)
      | refine go_st (cd := cd150) 1 rfl (go_ifF (by assumption) ?_)
      | (refine go_st (cd := cd150) 1 rfl (go_if (fun hq => ?_) (fun hq => ?_)))
      | refine go_ireturn (cd := cd150) rfl ?_
      | refine go_zreturn (cd := cd150) rfl (Or.inl rfl) ?_
      | refine go_zreturn (cd := cd150) rfl (Or.inr rfl) ?_
      | refine go_lreturn (cd := cd150) rfl ?_
      | refine go_areturn (cd := cd150) rfl ?_
      | refine go_areturnN (cd := cd150) rfl ?_
      | refine go_return (cd := cd150) rfl ?_
      | (refine go_callv (cd := cd150) rfl rfl rfl rfl rfl (lv3 rfl) rfl (cl_isRuleF hG (by assumption) ⟨rfl, ?_⟩))
      | (refine go_calls (cd := cd150) rfl rfl rfl rfl rfl (cl_isRuleF hG (by assumption) ⟨rfl, ?_⟩))
      | (refine go_callv (cd := cd150) rfl rfl rfl rfl rfl (lv3 rfl) rfl (cl_misSail (fun hq => ⟨rfl, ?_⟩) (fun hq => ⟨rfl, ?_⟩)) <;> (try simp (disch := decide) only [av0, av1, av3, up2_e, up2_s, up2_o, up1_e, up1_o] at hq))
      | (refine go_calls (cd := cd150) rfl rfl rfl rfl rfl (cl_misSail (fun hq => ⟨rfl, ?_⟩) (fun hq => ⟨rfl, ?_⟩)) <;> (try simp (disch := decide) only [av0, av1, av3, up2_e, up2_s, up2_o, up1_e, up1_o] at hq))
      | (refine go_callv (cd := cd150) rfl rfl rfl rfl rfl (lv3 rfl) rfl (cl_has (fun hq => ⟨rfl, ?_⟩) (fun hq => ⟨rfl, ?_⟩)) <;> (try simp (disch := decide) only [av0, av1, av3, up2_e, up2_s, up2_o, up1_e, up1_o] at hq))
      | (refine go_calls (cd := cd150) rfl rfl rfl rfl rfl (cl_has (fun hq => ⟨rfl, ?_⟩) (fun hq => ⟨rfl, ?_⟩)) <;> (try simp (disch := decide) only [av0, av1, av3, up2_e, up2_s, up2_o, up1_e, up1_o] at hq))
      | (refine go_callv (cd := cd150) rfl rfl rfl rfl rfl (lv3 rfl) rfl (cl_misHours (fun hq => ⟨rfl, ?_⟩) (fun hq => ⟨rfl, ?_⟩)) <;> (try simp (disch := decide) only [av0, av1, av3, up2_e, up2_s, up2_o, up1_e, up1_o] at hq))
      | (refine go_calls (cd := cd150) rfl rfl rfl rfl rfl (cl_misHours (fun hq => ⟨rfl, ?_⟩) (fun hq => ⟨rfl, ?_⟩)) <;> (try simp (disch := decide) only [av0, av1, av3, up2_e, up2_s, up2_o, up1_e, up1_o] at hq))
      | (refine go_callv (cd := cd150) rfl rfl rfl rfl rfl (lv3 rfl) rfl (cl_in (fun hq => ⟨rfl, ?_⟩) (fun hq => ⟨rfl, ?_⟩)) <;> (try simp (disch := decide) only [av0, av1, av3, up2_e, up2_s, up2_o, up1_e, up1_o] at hq))
      | (refine go_calls (cd := cd150) rfl rfl rfl rfl rfl (cl_in (fun hq => ⟨rfl, ?_⟩) (fun hq => ⟨rfl, ?_⟩)) <;> (try simp (disch := decide) only [av0, av1, av3, up2_e, up2_s, up2_o, up1_e, up1_o] at hq)))
    all_goals exact ⟨rfl, rfl, aIn_of hv rr⟩
set_option maxHeartbeats 8000000 in
theorem pr_torn {w s g p : Int32} {h : aH} (hi : aIn h) : aPair L xs fv (d + 9) 49 150 [.int w, .int s, .int g, .int p] h := by
  obtain ⟨r, rr, A, I, J, rfl, hv⟩ := hi
  have hG := hv.2.2.2.2.2.2.1
  have s5 := hv.1.2.2.2.2.2.1
  have s6 := hv.1.2.2.2.2.2.2.1
  have z1 := and01 (I 77 1 >>> (s &&& 31))
  refine cl_of rfl (Nat.le_add_right _ _) ?_
  repeat' (first
      | (refine go_v (cd := cd49) [53] 300 rfl ?_; try simp (disch := decide) only [av0, av1, av3, up2_e, up2_s, up2_o, up1_e, up1_o])
      | refine go_st (cd := cd49) 1 rfl (go_ifT (by decide) ?_)
      | refine go_st (cd := cd49) 1 rfl (go_ifF (by decide) ?_)
      | refine go_st (cd := cd49) 1 rfl (go_ifT (by assumption) ?_)
      | refine go_st (cd := cd49) 1 rfl (go_ifF (by assumption) ?_)
      | (refine go_st (cd := cd49) 1 rfl (go_if (fun hq => ?_) (fun hq => ?_)))
      | refine go_ireturn (cd := cd49) rfl ?_
      | refine go_zreturn (cd := cd49) rfl (Or.inl rfl) ?_
      | refine go_zreturn (cd := cd49) rfl (Or.inr rfl) ?_
      | refine go_lreturn (cd := cd49) rfl ?_
      | refine go_areturn (cd := cd49) rfl ?_
      | refine go_areturnN (cd := cd49) rfl ?_
      | refine go_return (cd := cd49) rfl ?_
      | (refine go_callv (cd := cd49) rfl rfl rfl rfl rfl (lv3 rfl) rfl (cl_isSail (fun hq => ⟨rfl, ?_⟩) (fun hq => ⟨rfl, ?_⟩)) <;> (try simp (disch := decide) only [av0, av1, av3, up2_e, up2_s, up2_o, up1_e, up1_o] at hq))
      | (refine go_calls (cd := cd49) rfl rfl rfl rfl rfl (cl_isSail (fun hq => ⟨rfl, ?_⟩) (fun hq => ⟨rfl, ?_⟩)) <;> (try simp (disch := decide) only [av0, av1, av3, up2_e, up2_s, up2_o, up1_e, up1_o] at hq))
      | (refine go_callv (cd := cd49) rfl rfl rfl rfl rfl (lv3 rfl) rfl (cl_isHours (fun hq => ⟨rfl, ?_⟩) (fun hq => ⟨rfl, ?_⟩)) <;> (try simp (disch := decide) only [av0, av1, av3, up2_e, up2_s, up2_o, up1_e, up1_o] at hq))
      | (refine go_calls (cd := cd49) rfl rfl rfl rfl rfl (cl_isHours (fun hq => ⟨rfl, ?_⟩) (fun hq => ⟨rfl, ?_⟩)) <;> (try simp (disch := decide) only [av0, av1, av3, up2_e, up2_s, up2_o, up1_e, up1_o] at hq))
      | (refine go_callv (cd := cd49) rfl rfl rfl rfl rfl (lv3 rfl) rfl (cl_isPart (fun hq => ⟨rfl, ?_⟩) (fun hq => ⟨rfl, ?_⟩)) <;> (try simp (disch := decide) only [av0, av1, av3, up2_e, up2_s, up2_o, up1_e, up1_o] at hq))
      | (refine go_calls (cd := cd49) rfl rfl rfl rfl rfl (cl_isPart (fun hq => ⟨rfl, ?_⟩) (fun hq => ⟨rfl, ?_⟩)) <;> (try simp (disch := decide) only [av0, av1, av3, up2_e, up2_s, up2_o, up1_e, up1_o] at hq))
      | (refine go_callv (cd := cd49) rfl rfl rfl rfl rfl (lv3 rfl) rfl (cl_ruleOf hG (fun k hk he => ⟨rfl, ?_⟩) (fun hq => ⟨rfl, ?_⟩)) <;> first | (subst he; have hl := rlq_of hG hk; have hk10 := hl.1; have hkc := hl.2.1; have hk1 := hl.2.2.2.1; have hk2 := hl.2.2.2.2.1; have hk3 := hl.2.2.2.2.2.1) | skip))
  all_goals first
    | exact ⟨Or.inl rfl, _, rfl, rf_torn hv (fun h => by first | exact hq h.2.2 | exact hq h.2.1.2.2 | exact hq (in_of hv h.1) | (have h1 := h.2.1.1; have h2 := h.2.1.2.1; rw [← s5] at h1; rw [← s6] at h2; first | exact hq h1 | (rw [hq] at h2; exact absurd h2 (by decide))))⟩
    | skip
  have hpart : p = 0 ∨ p = 1 := by assumption
  have hhours : 1 ≤ g ∧ g ≤ 4 := by assumption
  have hsail1 : 0 ≤ s ∧ s < I 1 5 := by assumption
  have hwh1 : ¬ I 1 6 >>> (s &&& 31) &&& 1 = 0 := by assumption
  have hsail : 0 ≤ s ∧ s < I 77 0 := by rw [← s5]; exact hsail1
  have hwh : I 77 1 >>> (s &&& 31) &&& 1 = 1 := by rw [s6] at hwh1; exact z1.resolve_left hwh1
  obtain ⟨n, hn3, rfl⟩ := hours_ex hhours
  obtain ⟨q, hq2, rfl⟩ := part_ex hpart
  have hc6 := (wld_of hv).1
  have hcn := (wld_of hv).2.1
  obtain ⟨z, hz, hsz, hzc⟩ : ∃ z, z < (wdI A I).2.2.2 ∧ s = nI z ∧ s.toNatClampNeg = z := nI_ex (nI (wdI A I).2.2.2) (nI_toInt (by omega)) hsail.1 (by rw [← hcn]; exact hsail.2)
  subst hsz
  obtain ⟨hb, hR, -⟩ := rul_of hv hk
  have hwf := (wld_of hv).2.2.2.2.1
  have h99 := (nums_of hv).2.2.2.1
  have hw4 := (nums_of hv).2.1
  obtain ⟨hu1, hu2⟩ := now_of hv
  have s0 := hv.1.1
  refine go_v (cd := cd49) [] 9 rfl ?_
  refine go_callv (cd := cd49) rfl rfl rfl rfl rfl (lv3 rfl) rfl (cl_become51 ⟨rfl, ?_⟩)
  rw [tr_heap]
  refine go_v (cd := cd49) [] 9 rfl ?_
  refine go_callv (cd := cd49) rfl rfl rfl rfl rfl (lv3 rfl) rfl (cl_aheadX (t := 0) (n := n) (m := 0) (wld_6 (wld_of hv)) hb (rul_6 hb hR) (fun g => rul_tr hb hR) (by decide) rfl hn3 (by omega) (by omega) rfl rfl (scn_tr (scn_of hv)) (iX_tr hv) (fun c hX => ⟨rfl, ?_⟩))
  refine go_v (cd := cd49) [92] 30 rfl ?_
  rw [show ((111 + 3 * r, up1 (up1 (up1 I 6 (cpN 6 (I 2) (I 6))) 5 (cpN 10 (I 1) (I 5))) 19 c, J, aRf r rr) : aH).2.1 5 6 = I 77 1 from s6, hp_put]
  refine go_sub (l' := [(6, .long (lZ (VV (wdI A I) (rlI I k) (scI I) n (I 77 6).toNatClampNeg (upN (I 77 4)) (I 77 5).toNatClampNeg (bt (I 77 1))))), (5, .ref (111 + 3 * k)), (0, .ref 0), (1, .int (nI k)), (2, .int (nI z)), (3, .int (nI (n + 1))), (4, .int (nI q))]) ⟨rfl, rfl, rfl, rfl, rfl, rfl, rfl, trivial⟩ rfl rfl rfl ?_
  -- the scene with the sail torn
  generalize hnow2 : (if upN (I 77 4) = some z then none else upN (I 77 4)) = now2
  have hn2 : ∀ u, now2 = some u → u < (wdI A I).2.2.2 := fun u hu => by
    rw [← hnow2] at hu
    split at hu
    next => cases hu
    next => exact hu2 u hu
  have hbt2 : bt (I 77 1 &&& ((1 <<< (nI z &&& 31)) ^^^ -1)) = fun k => bt (I 77 1) k && !(decide (k = z)) := bt_clr_all (by omega) _
  have h111 : ∀ gg : Nat → Int32, gg 6 = I 77 1 &&& ((1 <<< (nI z &&& 31)) ^^^ -1) → gg 0 = oI now2 → (∀ q, q ≠ 0 → q ≠ 6 → gg q = cpN 10 (I 1) (I 5) q) → aTo L xs fv 111 (d + 8) cd49 (111, [(6, .long (lZ (VV (wdI A I) (rlI I k) (scI I) n (I 77 6).toNatClampNeg (upN (I 77 4)) (I 77 5).toNatClampNeg (bt (I 77 1))))), (5, .ref (111 + 3 * k)), (0, .ref 0), (1, .int (nI k)), (2, .int (nI z)), (3, .int (nI (n + 1))), (4, .int (nI q))], [], aHp r rr (hpT (up1 I 6 (cpN 6 (I 2) (I 6))) gg c) J) (fun rv h1 => (h1.1 = 111 + 3 * r ∨ 49 = 41) ∧ ∃ v, rv = some v ∧ aCl L xs fv 111 (d + 9) 150 [.ref 77, .int (nI k), .int (nI z), .int (nI (n + 1)), .int (nI q)] h1 (fun rv2 h2 => h2.1 = h1.1 ∧ rv2 = some v ∧ aIn h2)) := fun gg g6 g0 go => by
    have hsc : scn (wdI A I) (scI I) (I 77 6).toNatClampNeg now2 (I 77 5).toNatClampNeg (bt (I 77 1 &&& ((1 <<< (nI z &&& 31)) ^^^ -1))) 5 (up1 (up1 I 6 (cpN 6 (I 2) (I 6))) 5 gg) := by
      obtain ⟨e0, e1, e2, e4, e5, e6, e7, e8, e9, eA, eB⟩ := scn_of hv
      refine ⟨by rw [up1_e]; exact g0, ?_, ?_, ?_, ?_, by rw [up1_e, g6], ?_, e8, e9, eA, hn2⟩
      · rw [up1_e, go 1 (by decide) (by decide)]; exact e1
      · rw [up1_e, go 2 (by decide) (by decide)]; exact e2
      · rw [up1_e, go 4 (by decide) (by decide)]; exact e4
      · rw [up1_e, go 5 (by decide) (by decide)]; exact e5
      · rw [up1_e, go 7 (by decide) (by decide)]; exact e7
    refine go_v (cd := cd49) [] 9 rfl ?_
    refine go_callv (cd := cd49) rfl rfl rfl rfl rfl (lv3 rfl) rfl (cl_aheadX (t := 0) (n := n) (m := 0) (wld_6 (wld_of hv)) hb (rul_6 hb hR) (fun g => rul_tr hb hR) (by decide) rfl hn3 (by omega) (by omega) rfl rfl hsc (iX_5 hX) (fun c hX => ⟨rfl, ?_⟩))
    refine go_v (cd := cd49) [] 9 rfl ?_
    refine go_laldS (cd := cd49) rfl (odds_of (L := L) (xs := xs) hn3).1 rfl ?_
    rw [(odds_of (L := L) (xs := xs) hn3).2, lZ_sub]
    refine go_v (cd := cd49) [] 9 rfl ?_
    have hp3 : (1000 : Nat) ^ n ≤ 1000 ^ 3 := Nat.pow_le_pow_right (by decide) hn3
    have hp0 : 0 < (1000 : Nat) ^ n := Nat.pow_pos (by decide)
    have hd := VV_d hwf (rlI I k) (rlI I k) (scI I) (scI I) (h := (I 77 6).toNatClampNeg) (h' := (I 77 6).toNatClampNeg) (now := upN (I 77 4)) (now' := now2) (fit := bt (I 77 1)) (fit' := bt (I 77 1 &&& ((1 <<< (nI z &&& 31)) ^^^ -1))) hw4 hw4 hn3
    refine go_calls (cd := cd49) rfl rfl rfl rfl rfl (cl_clow (a := VV (wdI A I) (rlI I k) (scI I) n (I 77 6).toNatClampNeg (upN (I 77 4)) (I 77 5).toNatClampNeg (bt (I 77 1)) - VV (wdI A I) (rlI I k) (scI I) n (I 77 6).toNatClampNeg now2 (I 77 5).toNatClampNeg (bt (I 77 1 &&& ((1 <<< (nI z &&& 31)) ^^^ -1)))) (b := 1000 ^ n) (part := q) rfl rfl rfl (by omega) (by omega) hp0 (by omega) hq2 ⟨rfl, ?_⟩)
    refine go_lreturn (cd := cd49) rfl ⟨Or.inl rfl, _, rfl, ?_⟩
    have hv' := tr_inv hv hX
    generalize hI0 : hpT (up1 I 6 (cpN 6 (I 2) (I 6))) gg c = I0 at *
    have hW0 : VV (wdI A I) (rlI I k) (scI I) n (I 77 6).toNatClampNeg (upN (I 77 4)) (I 77 5).toNatClampNeg (bt (I 77 1)) - VV (wdI A I) (rlI I k) (scI I) n (I 77 6).toNatClampNeg now2 (I 77 5).toNatClampNeg (bt (I 77 1 &&& ((1 <<< (nI z &&& 31)) ^^^ -1))) = VV (wdI A I0) (rlI I0 k) (scI I0) n (I0 77 6).toNatClampNeg (upN (I0 77 4)) (I0 77 5).toNatClampNeg (bt (I0 77 1)) - VV (wdI A I0) (rlI I0 k) (scI I0) n (I0 77 6).toNatClampNeg now2 (I0 77 5).toNatClampNeg (bt (I0 77 1 &&& ((1 <<< (nI z &&& 31)) ^^^ -1))) := by rw [← hI0]; rfl
    have hk77 : I0 77 = I 77 := by rw [← hI0]; rfl
    rw [hW0]
    obtain ⟨n1, n2, n3, n4, n5, n6⟩ := nums_of hv'
    obtain ⟨u1, u2⟩ := now_of hv'
    have hn2' : ∀ u, now2 = some u → u < (wdI A I0).2.2.2 := fun u hu => by
      have := hn2 u hu
      show u < (I0 77 0).toNatClampNeg
      rw [hk77]; exact this
    refine cl_of rfl (Nat.le_add_right _ _) ?_
    refine go_v (cd := cd150) [] 9 rfl ?_
    refine go_callv (cd := cd150) rfl rfl rfl rfl rfl (lv3 rfl) rfl (cl_isRuleT hv'.2.2.2.2.2.2.1 hk ⟨rfl, ?_⟩)
    refine go_st (cd := cd150) 1 rfl (go_ifF (by decide) ?_)
    refine go_v (cd := cd150) [] 9 rfl ?_
    refine go_callv (cd := cd150) rfl rfl rfl rfl rfl (lv3 rfl) rfl (cl_misSail (fun _ => ⟨rfl, ?_⟩) (fun hx => absurd (by rw [hk77]; exact ⟨hsail.1, by have := hsail.2; have := hv.2.1.1; have := hv.2.1.2.1; grind⟩) hx))
    refine go_st (cd := cd150) 1 rfl (go_ifF (by decide) ?_)
    refine go_v (cd := cd150) [] 9 rfl ?_
    rw [show aVal (111 + 3 * r, I0, J, aRf r rr) 0 77 1 = .int (I 77 1) from congrArg Value.int (by show I0 77 1 = _; rw [hk77])]
    refine go_callv (cd := cd150) rfl rfl rfl rfl rfl (lv3 rfl) rfl (cl_has (fun _ => ⟨rfl, ?_⟩) (fun hx => absurd hwh hx))
    refine go_st (cd := cd150) 1 rfl (go_ifF (by decide) ?_)
    refine go_v (cd := cd150) [] 9 rfl ?_
    refine go_callv (cd := cd150) rfl rfl rfl rfl rfl (lv3 rfl) rfl (cl_misHours (fun _ => ⟨rfl, ?_⟩) (fun hx => absurd hhours hx))
    refine go_st (cd := cd150) 1 rfl (go_ifF (by decide) ?_)
    refine go_v (cd := cd150) [] 9 rfl ?_
    refine go_callv (cd := cd150) rfl rfl rfl rfl rfl (lv3 rfl) rfl (cl_in (fun _ => ⟨rfl, ?_⟩) (fun hx => absurd (by rcases hpart with e | e <;> rw [e] <;> decide) hx))
    refine go_st (cd := cd150) 1 rfl (go_ifF (by decide) ?_)
    refine go_v (cd := cd150) [] 9 rfl ?_
    refine go_callv (cd := cd150) rfl rfl rfl rfl rfl (lv3 rfl) rfl (cl_asIs (rwl_of hv').1 (fun c2 hc2 => ⟨rfl, ?_⟩))
    refine go_v (cd := cd150) [] 20 rfl ?_
    refine go_callv (cd := cd150) rfl rfl rfl rfl rfl (lv3 rfl) rfl (cl_goR (n := n) (due := 0) (as_rwl hv') (as_rsc hv') (rul_of hv' hk).2.2 n3 (by omega) n1 (as_fol hv' hc2) hn3 (by omega) n2 u2 rfl rfl u1 rfl rfl (fun I2 J2 hf2 hJ2 k44 k45 k46 k47 => ⟨rfl, ?_⟩))
    refine go_v (cd := cd150) [76] 20 rfl ?_
    rw [show ((111 + 3 * r, I2, J2, aRf r rr) : aH).2.2.1 77 44 = _ from k44]
    have i4 : I2 77 4 = oI (upN (I0 77 4)) := (hf2.2 4 (by decide)).trans u1
    have i1 : I2 77 1 = I0 77 1 := hf2.2 1 (by decide)
    have h95 : ∀ v, v = oI now2 → aTo L xs fv 111 (d + 8) cd150 (95, [(5, .long (lZ (1000 * VV (wdI A I0) (rlI I0 k) (scI I0) n (I0 77 6).toNatClampNeg (upN (I0 77 4)) (I0 77 5).toNatClampNeg (bt (I0 77 1))))), (0, .ref 77), (1, .int (nI k)), (2, .int (nI z)), (3, .int (nI (n + 1))), (4, .int (nI q))], [.int v, .int (nI (n + 1)), .int (nI k), .ref 77], aHp r rr I2 J2) (fun rv2 h2 => h2.1 = 111 + 3 * r ∧ rv2 = some (.long (lZ (lowZ (VV (wdI A I0) (rlI I0 k) (scI I0) n (I0 77 6).toNatClampNeg (upN (I0 77 4)) (I0 77 5).toNatClampNeg (bt (I0 77 1)) - VV (wdI A I0) (rlI I0 k) (scI I0) n (I0 77 6).toNatClampNeg now2 (I0 77 5).toNatClampNeg (bt (I0 77 1 &&& ((1 <<< (nI z &&& 31)) ^^^ -1)))) (1000 ^ n) q))) ∧ aIn h2) := fun v hvv => by
      refine go_v (cd := cd150) [] 20 rfl ?_
      refine go_callv (cd := cd150) rfl rfl rfl rfl rfl (lv3 rfl) rfl (cl_goR (n := n) (due := 0) (x := I0 77 1 &&& ((1 <<< (nI z &&& 31)) ^^^ -1)) (rwl_fr hf2 (as_rwl hv')) (rsc_fr hf2 (as_rsc hv')) (rrl_fr hf2 (rul_of hv' hk).2.2) (hr := (I0 77 6).toNatClampNeg) (by rw [hf2.2 6 (by decide)]; exact n3) (by omega) (w := (I0 77 5).toNatClampNeg) (by rw [hf2.2 5 (by decide)]; exact n1) (fun a b ha hb => by rw [hf2.1 90 (by decide) (by decide) (by decide)]; exact as_fol hv' hc2 a b ha hb) hn3 (by omega) n2 (now := now2) hn2' rfl rfl hvv (by show I2 77 1 &&& _ = _; rw [i1]) rfl (fun I3 J3 hf3 hJ3 j44 j45 j46 j47 => ⟨rfl, ?_⟩))
      refine go_v (cd := cd150) [] 20 rfl ?_
      rw [show ((111 + 3 * r, I3, J3, aRf r rr) : aH).2.2.1 77 44 = _ from j44, lZ_sub, ← Int.mul_sub]
      have hdd2 := VV_d (wld_of hv').2.2.2.2.1 (rlI I0 k) (rlI I0 k) (scI I0) (scI I0) (h := (I0 77 6).toNatClampNeg) (h' := (I0 77 6).toNatClampNeg) (now := upN (I0 77 4)) (now' := now2) (fit := bt (I0 77 1)) (fit' := bt (I0 77 1 &&& ((1 <<< (nI z &&& 31)) ^^^ -1))) n2 n2 hn3
      refine go_callv (cd := cd150) rfl rfl rfl rfl rfl (lv3 rfl) rfl (cl_rlow (b := 1000 * 1000 ^ n) (part := q) rfl j46 rfl (by omega) (by omega) (by omega) (by omega) hq2 ⟨rfl, ?_⟩)
      refine go_lreturn (cd := cd150) rfl ⟨rfl, ?_, gd_done3 hv' hf2 hf3 (fun j a b => (hJ3 j a b).trans (hJ2 j a b))⟩
      rw [lowZ_scale hp0]
    refine go_sub (l' := [(5, .long (lZ (1000 * VV (wdI A I0) (rlI I0 k) (scI I0) n (I0 77 6).toNatClampNeg (upN (I0 77 4)) (I0 77 5).toNatClampNeg (bt (I0 77 1))))), (0, .ref 77), (1, .int (nI k)), (2, .int (nI z)), (3, .int (nI (n + 1))), (4, .int (nI q))]) ⟨rfl, rfl, rfl, rfl, rfl, rfl, trivial⟩ rfl rfl rfl ?_
    refine go_v (cd := cd150) [] 9 rfl ?_
    rw [show aVal (111 + 3 * r, I2, J2, aRf r rr) 0 77 4 = .int (oI (upN (I0 77 4))) from congrArg Value.int i4]
    have hup0 : upN (I0 77 4) = upN (I 77 4) := by rw [hk77]
    have hcmp : oI (upN (I0 77 4)) = nI z ↔ upN (I 77 4) = some z := by
      rw [hup0]
      exact oI_inj (fun u hu => by have := hu2 u hu; omega) (by omega)
    by_cases hnz : upN (I 77 4) = some z
    · refine go_st (cd := cd150) 1 rfl (go_ifT (hcmp.mpr hnz) ?_)
      refine go_v (cd := cd150) [95] 9 rfl ?_
      exact h95 _ (by rw [← hnow2, if_pos hnz]; rfl)
    · refine go_st (cd := cd150) 1 rfl (go_ifF (fun h => hnz (hcmp.mp h)) ?_)
      refine go_v (cd := cd150) [95] 9 rfl ?_
      exact h95 _ (by show I2 77 4 = _; rw [i4, hup0, ← hnow2, if_neg hnz])
  refine go_v (cd := cd49) [] 9 rfl ?_
  rw [av0, hp_5]
  have hcm2 : (if (0 : Nat) = 6 then I 77 1 &&& ((1 <<< (nI z &&& 31)) ^^^ -1) else cpN 10 (I 1) (I 5) 0) = oI (upN (I 77 4)) := s0.trans hu1
  rw [hcm2]
  have hcmp2 : oI (upN (I 77 4)) = nI z ↔ upN (I 77 4) = some z := oI_inj (fun u hu => by have := hu2 u hu; omega) (by omega)
  by_cases hnz : upN (I 77 4) = some z
  · refine go_st (cd := cd49) 1 rfl (go_ifT (hcmp2.mpr hnz) ?_)
    refine go_v (cd := cd49) [111] 9 rfl ?_
    rw [hp_put]
    exact h111 _ rfl (by rw [← hnow2, if_pos hnz]; rfl) (fun q h0 h6 => by
      show (if q = 0 then _ else if q = 6 then _ else cpN 10 (I 1) (I 5) q) = _
      rw [if_neg h0, if_neg h6])
  · refine go_st (cd := cd49) 1 rfl (go_ifF (fun h => hnz (hcmp2.mp h)) ?_)
    exact h111 _ rfl (by rw [← hnow2, if_neg hnz]; exact hcm2) (fun q h0 h6 => by
      show (if q = 6 then _ else cpN 10 (I 1) (I 5) q) = _
      rw [if_neg h6])
end PR
