theorem c1_back {I X : Nat → Nat → Int32} {s : Nat → Int32} (h1 : I 1 = s) (h : ∀ j, j ≠ 1 → X j = I j) : up1 X 1 s = I := by
  funext j
  by_cases hj : j = 1
  · subst hj; rw [up1_e, h1]
  · rw [up1_ne hj, h j hj]
section PR
variable {L : Nat} {xs : Nat → Int32} {fv : Value} {d : Nat}
set_option maxHeartbeats 4000000 in
theorem pr_go {w t y : Int32} {h : aH} (hi : aIn h) : aPair L xs fv (d + 9) 44 139 [.int w, .int t, .int y] h := by
  obtain ⟨r, rr, A, I, J, rfl, hv⟩ := hi
  have hG := hv.2.2.2.2.2.2.1
  obtain ⟨s0, s1, s2, s3, s4, s5, s6, s7, s8, s9⟩ := hv.1
  refine cl_of rfl (Nat.le_add_right _ _) ?_
  refine go_v (cd := cd44) [] 9 rfl ?_
  refine go_callv (cd := cd44) rfl rfl rfl rfl rfl (lv3 rfl) rfl (cl_ruleOf hG (fun k hk he => ⟨rfl, ?_⟩) (fun hq => ⟨rfl, ?_⟩))
  · subst he
    refine go_v (cd := cd44) [] 20 rfl ?_
    refine go_calls (cd := cd44) rfl rfl rfl rfl rfl (cl_isWind (fun hq => ⟨rfl, ?_⟩) (fun hq => ⟨rfl, ?_⟩))
    · refine go_st (cd := cd44) 1 rfl (go_ifF (by decide) ?_)
      obtain ⟨y, hy4, rfl, -⟩ := nI_ex (s := y) (n := 4) 4 rfl hq.1 hq.2
      refine go_v (cd := cd44) [] 20 rfl ?_
      by_cases h99 : I 77 6 < 99
      case neg =>
        refine go_st (cd := cd44) 1 rfl (go_ifF (by show ¬ I 1 2 < 99; rw [s2]; exact h99) ?_)
        refine go_v (cd := cd44) [] 9 rfl ?_
        exact go_ireturn (cd := cd44) rfl ⟨Or.inl rfl, _, rfl, gor0 hv hk hy4 (Or.inl h99)⟩
      refine go_st (cd := cd44) 1 rfl (go_ifT (by show I 1 2 < 99; rw [s2]; exact h99) ?_)
      refine go_sb ?_ (l' := [(4, .ref (111 + 3 * k)), (0, .ref 0), (1, .int (nI k)), (2, .int t), (3, .int (nI y))]) ⟨rfl, rfl, rfl, rfl, rfl, trivial⟩ rfl rfl rfl
      refine goc hv hk hy4 (fun c hX => ?_)
      have htr := trW_le (wdI A I) (I 77 6).toNatClampNeg (I 77 5).toNatClampNeg (pkW (wdI A I) (rlI I k) (scI I) (I 77 6).toNatClampNeg (upN (I 77 4)) (I 77 5).toNatClampNeg (bt (I 77 1)))
      have hf10 := fol_le (hol A I) (nums_of hv).2.1 hy4
      have hb : ((if t = 0 then 100 - (trW (wdI A I) (I 77 6).toNatClampNeg (I 77 5).toNatClampNeg (pkW (wdI A I) (rlI I k) (scI I) (I 77 6).toNatClampNeg (upN (I 77 4)) (I 77 5).toNatClampNeg (bt (I 77 1)))) else (trW (wdI A I) (I 77 6).toNatClampNeg (I 77 5).toNatClampNeg (pkW (wdI A I) (rlI I k) (scI I) (I 77 6).toNatClampNeg (upN (I 77 4)) (I 77 5).toNatClampNeg (bt (I 77 1))))) * folA (hol A I) (I 77 5).toNatClampNeg y) < 1000000 := by
        have h1 : (if t = 0 then 100 - (trW (wdI A I) (I 77 6).toNatClampNeg (I 77 5).toNatClampNeg (pkW (wdI A I) (rlI I k) (scI I) (I 77 6).toNatClampNeg (upN (I 77 4)) (I 77 5).toNatClampNeg (bt (I 77 1)))) else (trW (wdI A I) (I 77 6).toNatClampNeg (I 77 5).toNatClampNeg (pkW (wdI A I) (rlI I k) (scI I) (I 77 6).toNatClampNeg (upN (I 77 4)) (I 77 5).toNatClampNeg (bt (I 77 1))))) ≤ 100 := by split <;> omega
        have h2 := Nat.mul_le_mul h1 hf10
        omega
      have hv1 : aInv r A (up1 I 19 c) J := inv_rel hv (relI_up1 relI_refl (by omega)) (fun _ _ => rfl) hX
      refine go_v (cd := cd44) [] 9 rfl ?_
      by_cases hm : ((if t = 0 then 100 - (trW (wdI A I) (I 77 6).toNatClampNeg (I 77 5).toNatClampNeg (pkW (wdI A I) (rlI I k) (scI I) (I 77 6).toNatClampNeg (upN (I 77 4)) (I 77 5).toNatClampNeg (bt (I 77 1)))) else (trW (wdI A I) (I 77 6).toNatClampNeg (I 77 5).toNatClampNeg (pkW (wdI A I) (rlI I k) (scI I) (I 77 6).toNatClampNeg (upN (I 77 4)) (I 77 5).toNatClampNeg (bt (I 77 1))))) * folA (hol A I) (I 77 5).toNatClampNeg y) = 0
      case pos =>
        refine go_st (cd := cd44) 1 rfl (go_ifT ((nI_z hb).mpr hm) ?_)
        refine go_v (cd := cd44) [] 9 rfl ?_
        exact go_ireturn (cd := cd44) rfl ⟨Or.inl rfl, _, rfl, gor0 hv1 hk hy4 (Or.inr hm)⟩
      refine go_st (cd := cd44) 1 rfl (go_ifF (fun h => hm ((nI_z hb).mp h)) ?_)
      refine go_v (cd := cd44) [] 9 rfl ?_
      refine go_callv (cd := cd44) rfl rfl rfl rfl rfl (lv3 rfl) rfl (cl_miles1 (p := (pkW (wdI A I) (rlI I k) (scI I) (I 77 6).toNatClampNeg (upN (I 77 4)) (I 77 5).toNatClampNeg (bt (I 77 1)))) (wld_of hv) (scn_of hv) rfl (fun s hs => pkW_lt s hs) c hX (fun c2 hX2 => ⟨rfl, ?_⟩))
      have hv2 : aInv r A (up1 I 19 c2) J := inv_rel hv (relI_up1 relI_refl (by omega)) (fun _ _ => rfl) hX2
      refine go_v (cd := cd44) [] 40 rfl ?_
      by_cases ht : t = 0
      case neg =>
        refine go_st (cd := cd44) 1 rfl (go_ifF ht ?_)
        refine go_v (cd := cd44) [] 40 rfl ?_
        refine go_st (cd := cd44) 1 rfl (go_ifF ht ?_)
        refine go_v (cd := cd44) [] 40 rfl ?_
        refine go_ireturn (cd := cd44) rfl ⟨Or.inl rfl, _, rfl, ?_⟩
        show aCl L xs fv 111 (d + 9) 139 [.ref 77, .int (nI k), .int t, .int (nI y)] (aHp r rr (up2 (up2 (up2 (up2 (up2 (up1 I 19 c2) 1 3 _) 1 0 _) 1 6 _) 1 1 _) 1 2 _) J) _
        refine gorF (s0 := I 1) ?_ hk hy4 h99 hm ?_ ?_ ?_ ?_ ?_ (fun q hq => ?_)
        · rw [c1_back (I := up1 I 19 c2) (s := I 1) rfl (fun j hj => by rw [up2_ne hj, up2_ne hj, up2_ne hj, up2_ne hj, up2_ne hj])]
          exact hv2
        · rw [if_neg ht]; rfl
        · rfl
        · show I 1 2 + 1 = I 77 6 + 1
          rw [s2]
        · show I 1 3 + _ = I 77 7 + _
          rw [s3]; rfl
        · rw [if_neg ht]
          show I 1 6 &&& _ = I 77 1 &&& _
          rw [s6]; rfl
        · show (up2 (up2 (up2 (up2 (up2 (up1 I 19 c2) 1 3 _) 1 0 _) 1 6 _) 1 1 _) 1 2 _) 1 q = I 1 q
          rw [up2_42 (by omega), up2_42 (by omega), up2_42 (by omega), up2_42 (by omega), up2_42 (by omega)]; rfl
      refine go_st (cd := cd44) 1 rfl (go_ifT ht ?_)
      refine go_v (cd := cd44) [] 40 rfl ?_
      refine go_st (cd := cd44) 1 rfl (go_ifT ht ?_)
      refine go_v (cd := cd44) [] 40 rfl ?_
      refine go_ireturn (cd := cd44) rfl ⟨Or.inl rfl, _, rfl, ?_⟩
      show aCl L xs fv 111 (d + 9) 139 [.ref 77, .int (nI k), .int t, .int (nI y)] (aHp r rr (up2 (up2 (up2 (up2 (up1 I 19 c2) 1 3 _) 1 0 _) 1 1 _) 1 2 _) J) _
      refine gorF (s0 := I 1) ?_ hk hy4 h99 hm ?_ ?_ ?_ ?_ ?_ (fun q hq => ?_)
      · rw [c1_back (I := up1 I 19 c2) (s := I 1) rfl (fun j hj => by rw [up2_ne hj, up2_ne hj, up2_ne hj, up2_ne hj])]
        exact hv2
      · rw [if_pos ht]; rfl
      · rfl
      · show I 1 2 + 1 = I 77 6 + 1
        rw [s2]
      · show I 1 3 + _ = I 77 7 + _
        rw [s3]; rfl
      · rw [if_pos ht]
        show I 1 6 = I 77 1
        rw [s6]
      · show (up2 (up2 (up2 (up2 (up1 I 19 c2) 1 3 _) 1 0 _) 1 1 _) 1 2 _) 1 q = I 1 q
        rw [up2_42 (by omega), up2_42 (by omega), up2_42 (by omega), up2_42 (by omega)]; rfl
    · refine go_st (cd := cd44) 1 rfl (go_ifT rfl ?_)
      refine go_v (cd := cd44) [] 9 rfl ?_
      refine go_ireturn (cd := cd44) rfl ⟨Or.inl rfl, _, rfl, ?_⟩
      refine cl_of rfl (Nat.le_add_right _ _) ?_
      refine go_v (cd := cd139) [] 9 rfl ?_
      refine go_callv (cd := cd139) rfl rfl rfl rfl rfl (lv3 rfl) rfl (cl_isRuleT hG hk ⟨rfl, ?_⟩)
      refine go_st (cd := cd139) 1 rfl (go_ifF (by decide) ?_)
      refine go_v (cd := cd139) [] 9 rfl ?_
      refine go_callv (cd := cd139) rfl rfl rfl rfl rfl (lv3 rfl) rfl (cl_misWind (fun hx => absurd ⟨hx.1, by have := hx.2; grind⟩ hq) (fun _ => ⟨rfl, ?_⟩))
      refine go_st (cd := cd139) 1 rfl (go_ifT rfl ?_)
      refine go_v (cd := cd139) [] 9 rfl ?_
      exact go_ireturn (cd := cd139) rfl ⟨rfl, rfl, aIn_of hv rr⟩
  · refine go_v (cd := cd44) [] 20 rfl ?_
    refine go_ireturn (cd := cd44) rfl ⟨Or.inl rfl, _, rfl, ?_⟩
    refine cl_of rfl (Nat.le_add_right _ _) ?_
    refine go_v (cd := cd139) [] 9 rfl ?_
    refine go_callv (cd := cd139) rfl rfl rfl rfl rfl (lv3 rfl) rfl (cl_isRuleF hG hq ⟨rfl, ?_⟩)
    refine go_st (cd := cd139) 1 rfl (go_ifT rfl ?_)
    refine go_v (cd := cd139) [] 9 rfl ?_
    exact go_ireturn (cd := cd139) rfl ⟨rfl, rfl, aIn_of hv rr⟩
end PR
