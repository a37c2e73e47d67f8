section PR
variable {L : Nat} {xs : Nat → Int32} {fv : Value} {d : Nat}
theorem cnt_ex {r : Nat} {A : Nat → List Cl} {I : Nat → Nat → Int32} {J : Nat → Nat → Int64} {s : Int32} (hv : aInv r A I J) (h0 : 0 ≤ s) (h1 : s < I 77 0) : ∃ z, z < (wdI A I).2.2.2 ∧ s = nI z ∧ z < 6 := by
  have hc6 := (wld_of hv).1
  have hcn := (wld_of hv).2.1
  obtain ⟨z, hz, hsz, -⟩ : ∃ z, z < (wdI A I).2.2.2 ∧ s = nI z ∧ s.toNatClampNeg = z := nI_ex (nI (wdI A I).2.2.2) (nI_toInt (by omega)) h0 (by rw [← hcn]; exact h1)
  exact ⟨z, hz, hsz, by omega⟩
set_option maxHeartbeats 4000000 in
theorem pr_speed {s w g p : Int32} {h : aH} (hi : aIn h) : aPair L xs fv (d + 9) 38 124 [.int s, .int w, .int g, .int p] h := by
  obtain ⟨r, rr, A, I, J, rfl, hv⟩ := hi
  have s5 := hv.1.2.2.2.2.2.1
  have r0 := hv.2.1.1
  have r1 := hv.2.1.2.1
  refine cl_of rfl (Nat.le_add_right _ _) ?_
  repeat' (first
      | (refine go_v (cd := cd38) [] 300 rfl ?_; try simp (disch := decide) only [av0, av1, av3, up2_e, up2_s, up2_o, up1_e, up1_o])
      | refine go_st (cd := cd38) 1 rfl (go_ifT (by decide) ?_)
      | refine go_st (cd := cd38) 1 rfl (go_ifF (by decide) ?_)
      | refine go_st (cd := cd38) 1 rfl (go_ifT (by assumption) ?_)
      | refine go_st (cd := cd38) 1 rfl (go_ifF (by assumption) ?_)
      | (refine go_st (cd := cd38) 1 rfl (go_if (fun hq => ?_) (fun hq => ?_)))
      | refine go_ireturn (cd := cd38) rfl ?_
      | refine go_zreturn (cd := cd38) rfl (Or.inl rfl) ?_
      | refine go_zreturn (cd := cd38) rfl (Or.inr rfl) ?_
      | refine go_lreturn (cd := cd38) rfl ?_
      | refine go_areturn (cd := cd38) rfl ?_
      | refine go_areturnN (cd := cd38) rfl ?_
      | refine go_return (cd := cd38) rfl ?_
      | (refine go_callv (cd := cd38) rfl rfl rfl rfl rfl (lv3 rfl) rfl (cl_isSail (fun hq => ⟨rfl, ?_⟩) (fun hq => ⟨rfl, ?_⟩)) <;> (try simp (disch := decide) only [av0, av1, av3, up2_e, up2_s, up2_o, up1_e, up1_o] at hq))
      | (refine go_calls (cd := cd38) rfl rfl rfl rfl rfl (cl_isSail (fun hq => ⟨rfl, ?_⟩) (fun hq => ⟨rfl, ?_⟩)) <;> (try simp (disch := decide) only [av0, av1, av3, up2_e, up2_s, up2_o, up1_e, up1_o] at hq))
      | (refine go_callv (cd := cd38) rfl rfl rfl rfl rfl (lv3 rfl) rfl (cl_isWind (fun hq => ⟨rfl, ?_⟩) (fun hq => ⟨rfl, ?_⟩)) <;> (try simp (disch := decide) only [av0, av1, av3, up2_e, up2_s, up2_o, up1_e, up1_o] at hq))
      | (refine go_calls (cd := cd38) rfl rfl rfl rfl rfl (cl_isWind (fun hq => ⟨rfl, ?_⟩) (fun hq => ⟨rfl, ?_⟩)) <;> (try simp (disch := decide) only [av0, av1, av3, up2_e, up2_s, up2_o, up1_e, up1_o] at hq)))
  all_goals first
    | (refine ⟨Or.inl rfl, _, rfl, ?_⟩
       refine cl_of rfl (Nat.le_add_right _ _) ?_
       repeat' (first
           | (refine go_v (cd := cd124) [] 300 rfl ?_; try simp (disch := decide) only [av0, av1, av3, up2_e, up2_s, up2_o, up1_e, up1_o])
           | refine go_st (cd := cd124) 1 rfl (go_ifT (by decide) ?_)
           | refine go_st (cd := cd124) 1 rfl (go_ifF (by decide) ?_)
           | refine go_st (cd := cd124) 1 rfl (go_ifT (by assumption) ?_)
           | refine go_st (cd := cd124) 1 rfl (go_ifF (by assumption) ?_)
           | (refine go_st (cd := cd124) 1 rfl (go_if (fun hq => ?_) (fun hq => ?_)))
           | refine go_ireturn (cd := cd124) rfl ?_
           | refine go_zreturn (cd := cd124) rfl (Or.inl rfl) ?_
           | refine go_zreturn (cd := cd124) rfl (Or.inr rfl) ?_
           | refine go_lreturn (cd := cd124) rfl ?_
           | refine go_areturn (cd := cd124) rfl ?_
           | refine go_areturnN (cd := cd124) rfl ?_
           | refine go_return (cd := cd124) rfl ?_
           | (refine go_callv (cd := cd124) rfl rfl rfl rfl rfl (lv3 rfl) rfl (cl_misSail (fun hq => ⟨rfl, ?_⟩) (fun hq => ⟨rfl, ?_⟩)) <;> (try simp (disch := decide) only [av0, av1, av3, up2_e, up2_s, up2_o, up1_e, up1_o] at hq))
           | (refine go_calls (cd := cd124) rfl rfl rfl rfl rfl (cl_misSail (fun hq => ⟨rfl, ?_⟩) (fun hq => ⟨rfl, ?_⟩)) <;> (try simp (disch := decide) only [av0, av1, av3, up2_e, up2_s, up2_o, up1_e, up1_o] at hq))
           | (refine go_callv (cd := cd124) rfl rfl rfl rfl rfl (lv3 rfl) rfl (cl_misWind (fun hq => ⟨rfl, ?_⟩) (fun hq => ⟨rfl, ?_⟩)) <;> (try simp (disch := decide) only [av0, av1, av3, up2_e, up2_s, up2_o, up1_e, up1_o] at hq))
           | (refine go_calls (cd := cd124) rfl rfl rfl rfl rfl (cl_misWind (fun hq => ⟨rfl, ?_⟩) (fun hq => ⟨rfl, ?_⟩)) <;> (try simp (disch := decide) only [av0, av1, av3, up2_e, up2_s, up2_o, up1_e, up1_o] at hq))
           | (refine go_callv (cd := cd124) rfl rfl rfl rfl rfl (lv3 rfl) rfl (cl_in (fun hq => ⟨rfl, ?_⟩) (fun hq => ⟨rfl, ?_⟩)) <;> (try simp (disch := decide) only [av0, av1, av3, up2_e, up2_s, up2_o, up1_e, up1_o] at hq))
           | (refine go_calls (cd := cd124) rfl rfl rfl rfl rfl (cl_in (fun hq => ⟨rfl, ?_⟩) (fun hq => ⟨rfl, ?_⟩)) <;> (try simp (disch := decide) only [av0, av1, av3, up2_e, up2_s, up2_o, up1_e, up1_o] at hq)))
       all_goals first
         | exact ⟨rfl, rfl, aIn_of hv rr⟩
         | (exfalso; grind))
    | skip
  have hsail1 : 0 ≤ s ∧ s < I 1 5 := by assumption
  have hwind : 0 ≤ w ∧ w < 4 := by assumption
  have hpart : 0 ≤ p ∧ p ≤ 1 := by grind
  have hhour : 0 ≤ g ∧ g ≤ 99 := by grind
  have hsail : 0 ≤ s ∧ s < I 77 0 := by rw [← s5]; exact hsail1
  obtain ⟨z, hz, rfl, hz6⟩ := cnt_ex hv hsail.1 hsail.2
  obtain ⟨w, hw4, rfl, -⟩ := nI_ex (s := w) (n := 4) 4 rfl hwind.1 hwind.2
  obtain ⟨g, hg, rfl, -⟩ := nI_ex (s := g) (n := 100) 100 rfl hhour.1 (by grind)
  obtain ⟨p, hp, rfl, -⟩ := nI_ex (s := p) (n := 2) 2 rfl hpart.1 (by grind)
  rw [show ((111 + 3 * r, I, J, aRf r rr) : aH) = (111 + 3 * r, up1 I 19 (I 19), J, aRf r rr) from by rw [up1_id]]
  refine go_callv (cd := cd38) rfl rfl rfl rfl rfl (lv3 rfl) rfl (cl_pace (z := p) (w := w) (h := g) (o := some z) (wld_of hv) rfl rfl rfl rfl hp (fun s hs => by cases hs; exact hz) hw4 (by omega) _ (by rw [up1_id]; exact hv.2.2.2.2.2.2.2.2.2.2.2.2) (fun c hX => ⟨rfl, ?_⟩))
  refine go_ireturn (cd := cd38) rfl ⟨Or.inl rfl, _, rfl, ?_⟩
  have hv' : aInv r A (up1 I 19 c) J := inv_rel hv (relI_up1 relI_refl (by omega)) (fun _ _ => rfl) hX
  have hs2 : 0 ≤ nI z ∧ nI z ≤ up1 I 19 c 77 0 - 1 := by
    show 0 ≤ nI z ∧ nI z ≤ I 77 0 - 1
    exact ⟨hsail.1, by have := hsail.2; have := hv.2.1.1; have := hv.2.1.2.1; grind⟩
  have hv0 := hv
  generalize hI0 : up1 I 19 c = I0 at *
  have hW := rwl_of hv'
  refine cl_of rfl (Nat.le_add_right _ _) ?_
  refine go_v (cd := cd124) [] 9 rfl ?_
  refine go_callv (cd := cd124) rfl rfl rfl rfl rfl (lv3 rfl) rfl (cl_misSail (fun _ => ⟨rfl, ?_⟩) (fun hx => absurd hs2 hx))
  refine go_st (cd := cd124) 1 rfl (go_ifF (by decide) ?_)
  refine go_v (cd := cd124) [] 9 rfl ?_
  refine go_callv (cd := cd124) rfl rfl rfl rfl rfl (lv3 rfl) rfl (cl_misWind (fun _ => ⟨rfl, ?_⟩) (fun hx => absurd ⟨hwind.1, by have := hwind.2; grind⟩ hx))
  refine go_st (cd := cd124) 1 rfl (go_ifF (by decide) ?_)
  refine go_v (cd := cd124) [] 9 rfl ?_
  refine go_callv (cd := cd124) rfl rfl rfl rfl rfl (lv3 rfl) rfl (cl_in (fun _ => ⟨rfl, ?_⟩) (fun hx => absurd hpart hx))
  refine go_st (cd := cd124) 1 rfl (go_ifF (by decide) ?_)
  refine go_v (cd := cd124) [] 9 rfl ?_
  refine go_callv (cd := cd124) rfl rfl rfl rfl rfl (lv3 rfl) rfl (cl_in (fun _ => ⟨rfl, ?_⟩) (fun hx => absurd hhour hx))
  refine go_st (cd := cd124) 1 rfl (go_ifF (by decide) ?_)
  refine go_v (cd := cd124) [] 9 rfl ?_
  rw [show ((111 + 3 * r, I0, J, aRf r rr) : aH) = (111 + 3 * r, up1 I0 89 (I0 89), J, aRf r rr) from by rw [up1_id]]
  refine go_callv (cd := cd124) rfl rfl rfl rfl rfl (lv3 rfl) rfl (cl_rsum (z := p) (w := w) (h := g) (o := some z) (wt := (wdI A I0).2.1) hW.1 rfl rfl rfl rfl hp (fun s hs => by cases hs; exact hz6) hw4 (by omega) (fun s hs => ⟨(hW.2.2.2 s hs).1, (hW.2.2.2 s hs).2.1⟩) _ (fun c2 => ⟨rfl, ?_⟩))
  refine go_ireturn (cd := cd124) rfl ⟨rfl, ?_, aIn_of (inv_rel hv' (relI_up1 relI_refl (by omega)) (fun _ _ => rfl) (iX_c (I := I0) rfl rfl rfl rfl hv'.2.2.2.2.2.2.2.2.2.2.2.2)) rr⟩
  rw [← hI0]
  rfl
set_option maxHeartbeats 4000000 in
theorem pr_follows {a b : Int32} {h : aH} (hi : aIn h) : aPair L xs fv (d + 9) 39 126 [.int a, .int b] h := by
  obtain ⟨r, rr, A, I, J, rfl, hv⟩ := hi
  refine cl_of rfl (Nat.le_add_right _ _) ?_
  repeat' (first
      | (refine go_v (cd := cd39) [] 300 rfl ?_; try simp (disch := decide) only [av0, av1, av3, up2_e, up2_s, up2_o, up1_e, up1_o])
      | refine go_st (cd := cd39) 1 rfl (go_ifT (by decide) ?_)
      | refine go_st (cd := cd39) 1 rfl (go_ifF (by decide) ?_)
      | refine go_st (cd := cd39) 1 rfl (go_ifT (by assumption) ?_)
      | refine go_st (cd := cd39) 1 rfl (go_ifF (by assumption) ?_)
      | (refine go_st (cd := cd39) 1 rfl (go_if (fun hq => ?_) (fun hq => ?_)))
      | refine go_ireturn (cd := cd39) rfl ?_
      | refine go_zreturn (cd := cd39) rfl (Or.inl rfl) ?_
      | refine go_zreturn (cd := cd39) rfl (Or.inr rfl) ?_
      | refine go_lreturn (cd := cd39) rfl ?_
      | refine go_areturn (cd := cd39) rfl ?_
      | refine go_areturnN (cd := cd39) rfl ?_
      | refine go_return (cd := cd39) rfl ?_
      | (refine go_callv (cd := cd39) rfl rfl rfl rfl rfl (lv3 rfl) rfl (cl_isWind (fun hq => ⟨rfl, ?_⟩) (fun hq => ⟨rfl, ?_⟩)) <;> (try simp (disch := decide) only [av0, av1, av3, up2_e, up2_s, up2_o, up1_e, up1_o] at hq))
      | (refine go_calls (cd := cd39) rfl rfl rfl rfl rfl (cl_isWind (fun hq => ⟨rfl, ?_⟩) (fun hq => ⟨rfl, ?_⟩)) <;> (try simp (disch := decide) only [av0, av1, av3, up2_e, up2_s, up2_o, up1_e, up1_o] at hq)))
  all_goals first
    | (refine ⟨Or.inl rfl, _, rfl, ?_⟩
       refine cl_of rfl (Nat.le_add_right _ _) ?_
       repeat' (first
           | (refine go_v (cd := cd126) [] 300 rfl ?_; try simp (disch := decide) only [av0, av1, av3, up2_e, up2_s, up2_o, up1_e, up1_o])
           | refine go_st (cd := cd126) 1 rfl (go_ifT (by decide) ?_)
           | refine go_st (cd := cd126) 1 rfl (go_ifF (by decide) ?_)
           | refine go_st (cd := cd126) 1 rfl (go_ifT (by assumption) ?_)
           | refine go_st (cd := cd126) 1 rfl (go_ifF (by assumption) ?_)
           | (refine go_st (cd := cd126) 1 rfl (go_if (fun hq => ?_) (fun hq => ?_)))
           | refine go_ireturn (cd := cd126) rfl ?_
           | refine go_zreturn (cd := cd126) rfl (Or.inl rfl) ?_
           | refine go_zreturn (cd := cd126) rfl (Or.inr rfl) ?_
           | refine go_lreturn (cd := cd126) rfl ?_
           | refine go_areturn (cd := cd126) rfl ?_
           | refine go_areturnN (cd := cd126) rfl ?_
           | refine go_return (cd := cd126) rfl ?_
           | (refine go_callv (cd := cd126) rfl rfl rfl rfl rfl (lv3 rfl) rfl (cl_misWind (fun hq => ⟨rfl, ?_⟩) (fun hq => ⟨rfl, ?_⟩)) <;> (try simp (disch := decide) only [av0, av1, av3, up2_e, up2_s, up2_o, up1_e, up1_o] at hq))
           | (refine go_calls (cd := cd126) rfl rfl rfl rfl rfl (cl_misWind (fun hq => ⟨rfl, ?_⟩) (fun hq => ⟨rfl, ?_⟩)) <;> (try simp (disch := decide) only [av0, av1, av3, up2_e, up2_s, up2_o, up1_e, up1_o] at hq)))
       all_goals first
         | exact ⟨rfl, rfl, aIn_of hv rr⟩
         | (exfalso; grind))
    | skip
  have hb : 0 ≤ b ∧ b < 4 := by assumption
  have ha : 0 ≤ a ∧ a < 4 := by grind
  obtain ⟨a, ha4, rfl, -⟩ := nI_ex (s := a) (n := 4) 4 rfl ha.1 ha.2
  obtain ⟨b, hb4, rfl, -⟩ := nI_ex (s := b) (n := 4) 4 rfl hb.1 hb.2
  obtain ⟨hB1, hB2, hB3⟩ := hbR_ok (wld_of hv)
  refine go_callv (cd := cd39) rfl rfl rfl rfl rfl (lv3 rfl) rfl (cl_holding (wld_of hv) ⟨rfl, ?_⟩)
  refine go_getR (cd := cd39) rfl (isB_lt hB1) (isB_k hB1) (isB_R hB1).2.2.2.2.2 ?_
  refine go_v (cd := cd39) [] 20 rfl ?_
  have hix : nI a * 4 + nI b = nI (4 * a + b) := by
    rw [show (4 : Int32) = nI 4 from rfl, nI_mul, nI_add]; congr 1; omega
  have hix2 : 4 * nI a + nI b = nI (4 * a + b) := by
    rw [show (4 : Int32) = nI 4 from rfl, nI_mul, nI_add]
  rw [hix]
  refine go_iald (cd := cd39) rfl (isB_i6 hB1 (by omega)) (isB_lt7 hB1 (by decide)) (isB_k1 hB1).2.2.2.2.2 ?_
  rw [nI_clamp (by omega), hB3.2 a b ha4 hb4]
  refine go_ireturn (cd := cd39) rfl ⟨Or.inl rfl, _, rfl, ?_⟩
  refine cl_of rfl (Nat.le_add_right _ _) ?_
  refine go_v (cd := cd126) [] 9 rfl ?_
  refine go_callv (cd := cd126) rfl rfl rfl rfl rfl (lv3 rfl) rfl (cl_misWind (fun _ => ⟨rfl, ?_⟩) (fun hx => absurd ⟨ha.1, by have := ha.2; grind⟩ hx))
  refine go_st (cd := cd126) 1 rfl (go_ifF (by decide) ?_)
  refine go_v (cd := cd126) [] 9 rfl ?_
  refine go_callv (cd := cd126) rfl rfl rfl rfl rfl (lv3 rfl) rfl (cl_misWind (fun _ => ⟨rfl, ?_⟩) (fun hx => absurd ⟨hb.1, by have := hb.2; grind⟩ hx))
  refine go_st (cd := cd126) 1 rfl (go_ifF (by decide) ?_)
  refine go_v (cd := cd126) [] 9 rfl ?_
  refine go_callv (cd := cd126) rfl rfl rfl rfl rfl (lv3 rfl) rfl (cl_lay (rwl_of hv).1 (fun c hc => ⟨rfl, ?_⟩))
  refine go_v (cd := cd126) [] 20 rfl ?_
  rw [hix2]
  refine go_iald (cd := cd126) rfl (nI_vin (n := 16) (by omega) (by decide)) (lv3 rfl) rfl ?_
  rw [nI_clamp (by omega), up1_e, hc a b ha4 hb4]
  exact go_ireturn (cd := cd126) rfl ⟨rfl, rfl, aIn_of (inv_rel hv (relI_up1 relI_refl (by omega)) (fun _ _ => rfl) (iX_c (I := I) rfl rfl rfl rfl hv.2.2.2.2.2.2.2.2.2.2.2.2)) rr⟩
end PR
