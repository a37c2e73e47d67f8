section FQ
variable {L : Nat} {xs : Nat → Int32} {fv : Value} {d : Nat}
set_option maxHeartbeats 4000000 in
theorem pr_few {w k n : Int32} {h : aH} (hi : aIn h) : aPair L xs fv (d + 9) 48 149 [.int w, .int k, .int n] h := by
  obtain ⟨r, rr, A, I, J, rfl, hv⟩ := hi
  have hdone := aIn_of hv rr
  have hG := hv.2.2.2.2.2.2.1
  refine cl_of rfl (Nat.le_add_right _ _) ?_
  refine go_v (cd := cd48) [] 20 rfl ?_
  refine go_callv (cd := cd48) rfl rfl rfl rfl rfl (lv3 rfl) rfl (cl_ruleOf hG (fun q hq he => ⟨rfl, ?_⟩) (fun hq => ⟨rfl, ?_⟩))
  case refine_2 =>
    refine go_v (cd := cd48) [] 20 rfl ?_
    exact go_ireturn (cd := cd48) rfl ⟨Or.inl rfl, _, rfl, rf_few0 hG ⟨rfl, rfl, hdone⟩ (Or.inl ⟨hq, rfl⟩)⟩
  subst he
  have hin := in_of hv ⟨q, hq, rfl⟩
  have hr10 := hG.2.2.1
  have hbad : ¬ ((0 ≤ k ∧ k ≤ 6) ∧ 1 ≤ n ∧ n ≤ 3) → aTo L xs fv 111 (d + 8) cd48 (34, [(4, .ref (111 + 3 * q)), (0, .ref 0), (1, .int (nI q)), (2, .int k), (3, .int n)], [], aHp r rr I J) (fun rv h1 => (h1.1 = (aHp r rr I J).1 ∨ 48 = 41) ∧ ∃ v, rv = some v ∧ aCl L xs fv 111 (d + 9) 149 (.ref 77 :: [.int (nI q), .int k, .int n]) h1 (fun rv2 h2 => h2.1 = h1.1 ∧ rv2 = some v ∧ aIn h2)) := fun hb => by
    refine go_v (cd := cd48) [] 20 rfl ?_
    exact go_ireturn (cd := cd48) rfl ⟨Or.inl rfl, _, rfl, rf_few0 hG ⟨rfl, rfl, hdone⟩ (Or.inr ⟨hin, hb, rfl⟩)⟩
  refine go_v (cd := cd48) [14] 20 rfl ?_
  refine go_sb ?_ (l' := [(4, .ref (111 + 3 * q)), (0, .ref 0), (1, .int (nI q)), (2, .int k), (3, .int n)]) ⟨rfl, rfl, rfl, rfl, rfl, trivial⟩ rfl rfl rfl
  refine go_v (cd := cd48) [] 20 rfl ?_
  by_cases hk0 : k < 0
  · exact go_st (cd := cd48) 1 rfl (go_ifT hk0 (hbad (by grind)))
  refine go_st (cd := cd48) 1 rfl (go_ifF hk0 ?_)
  refine go_v (cd := cd48) [] 20 rfl ?_
  by_cases hk6 : 6 < k
  · exact go_st (cd := cd48) 1 rfl (go_ifT hk6 (hbad (by grind)))
  refine go_st (cd := cd48) 1 rfl (go_ifF hk6 ?_)
  refine go_v (cd := cd48) [] 20 rfl ?_
  by_cases hn1 : n < 1
  · exact go_st (cd := cd48) 1 rfl (go_ifT hn1 (hbad (by grind)))
  refine go_st (cd := cd48) 1 rfl (go_ifF hn1 ?_)
  refine go_v (cd := cd48) [] 20 rfl ?_
  by_cases hn3 : n ≤ 3
  case neg => exact go_st (cd := cd48) 1 rfl (go_ifF hn3 (hbad (by grind)))
  refine go_st (cd := cd48) 1 rfl (go_ifT hn3 ?_)
  have hkk : 0 ≤ k ∧ k ≤ 6 := by grind
  have hnn : 1 ≤ n ∧ n ≤ 3 := by grind
  obtain ⟨k, hk66, rfl⟩ := nI_of2 (M := 6) (n := 6) (x := k) rfl hk0 (by grind)
  obtain ⟨n, hn4, rfl⟩ := hours_ex (g := n) ⟨hnn.1, by grind⟩
  have hwf := (wld_of hv).2.2.2.2.1
  obtain ⟨n1, n2, n3, n4, n5, n6⟩ := nums_of hv
  obtain ⟨u1, u2⟩ := now_of hv
  obtain ⟨hb, hR, hRR⟩ := rul_of hv hq
  have hs0 := hv.1.1
  have hcnt := (wld_of hv).1
  refine go_v (cd := cd48) [] 20 rfl ?_
  refine go_callv (cd := cd48) rfl rfl rfl rfl rfl (lv3 rfl) rfl (cl_become51 ⟨rfl, ?_⟩)
  rw [tr_heap]
  obtain ⟨f, hfd⟩ : ∃ f : Nat → Int, f = fun B => VV (wdI A I) (rlI I q) (bt (nI B), (I 77 3).toNatClampNeg) n (I 77 6).toNatClampNeg (upB (upN (I 77 4)) B) (I 77 5).toNatClampNeg (bt (I 77 1)) := ⟨_, rfl⟩
  have hf : ∀ B, -1000000000000 ≤ f B ∧ f B ≤ 1000000000000 := fun B => by
    rw [hfd]
    exact AV_abs (t := 0) hwf (rlI I q) (bt (nI B), (I 77 3).toNatClampNeg) (n := n) (h := (I 77 6).toNatClampNeg) (now := upB (upN (I 77 4)) B) (w := (I 77 5).toNatClampNeg) (fit := bt (I 77 1)) (m := 0) n2 (by omega)
  have hS1 := scn_of hv
  have hW6 : wld A (wdI A I) (up1 I 6 (cpN 6 (I 2) (I 6))) := wld_6 (wld_of hv)
  have hX6 : iX A (hpT (up1 I 6 (cpN 6 (I 2) (I 6))) (cpN 10 (I 1) (I 5)) (I 19)) := iX_tr hv
  refine go_v (cd := cd48) [] 20 rfl ?_
  refine go_callv (cd := cd48) rfl rfl rfl rfl rfl (lv3 rfl) rfl (cl_useful (d := d + 6) (W := wdI A I) (S := scI I) (h := (I 77 6).toNatClampNeg) (w := (I 77 5).toNatClampNeg) (now := upN (I 77 4)) (fit := bt (I 77 1)) (wld_19 (wld_5 hW6)) hS1 ⟨rfl, ?_⟩)
  generalize hUd : uN (mayW (wdI A I).2.2.1 (wdI A I).2.2.2 (upN (I 77 4)) (bt (I 77 1)) (scI I).1 (scI I).2) (wdI A I).2.2.2 = U
  have hU64 : U < 64 := by rw [← hUd]; exact uN_64 _ hcnt
  refine go_v (cd := cd48) [63] 20 rfl ?_
  have hgk : gok (wdI A I) (I 77 3).toNatClampNeg (I 77 6).toNatClampNeg (I 77 5).toNatClampNeg (bt (I 77 1)) (cpN 10 (I 1) (I 5)) := ⟨hS1.2.1, hS1.2.2.1, hS1.2.2.2.1, hS1.2.2.2.2.1, hS1.2.2.2.2.2.1⟩
  refine go_sb (few_cl (d := d) (U := U) (k := k) (m := (I 77 3).toNatClampNeg) (b := 111 + 3 * q) (R := rlI I q) (fun B => by rw [hfd]) hf hW6 hb (rul_6 hb hR) (fun g => rul_tr hb hR) (by omega) (by omega) n2 n6 hU64 hk66 (show I 1 0 = oI (upN (I 77 4)) from by rw [hs0]; exact u1) u2 (fun g c hX => ?_) (U + 1) 0 (cpN 10 (I 1) (I 5)) (I 19) (by omega) hgk hX6) ⟨rfl, by show some (Value.long 0) = some (Value.long (lZ 0)); rw [lZ_0], rfl, rfl, rfl, rfl, rfl, rfl, trivial⟩ rfl rfl rfl
  refine ⟨Or.inl rfl, _, rfl, ?_⟩
  have hv' := tr_inv hv hX
  have hup6 : ∀ u, upN (I 77 4) = some u → u < (wdI A I).2.2.2 ∧ bt (I 77 1) u = true ∧ bt (I 77 2) u = true := fun u hu => by
    have hU := hv.2.2.2.2.2.2.2.2.2.2.1.1
    unfold upN at hu
    by_cases h0 : I 77 4 < 0
    · rw [if_pos h0] at hu; cases hu
    · rw [if_neg h0] at hu
      have hh := hU (Int32.not_lt.mp h0)
      cases hu
      exact ⟨u2 _ (by unfold upN; rw [if_neg h0]), hh⟩
  have hsame := few_same (k := k) (fun B => by rw [hfd]) hcnt hup6 (f := f) (R := rlI I q) (n := n) (h := (I 77 6).toNatClampNeg) (w := (I 77 5).toNatClampNeg) (m := (I 77 3).toNatClampNeg) (x := I 77 1) (ab := I 77 2) (now := upN (I 77 4))
  have hUd' : uN (mayW (wdI A I).2.2.1 (wdI A I).2.2.2 (upN (I 77 4)) (bt (I 77 1)) (bt (I 77 2)) (I 77 3).toNatClampNeg) (wdI A I).2.2.2 = U := hUd
  rw [hUd'] at hsame
  have hfd' : ∀ B, f B = VV (wdI A (hpT (up1 I 6 (cpN 6 (I 2) (I 6))) g c)) (rlI (hpT (up1 I 6 (cpN 6 (I 2) (I 6))) g c) q) (bt (nI B), (hpT (up1 I 6 (cpN 6 (I 2) (I 6))) g c 77 3).toNatClampNeg) n (hpT (up1 I 6 (cpN 6 (I 2) (I 6))) g c 77 6).toNatClampNeg (upB (upN (hpT (up1 I 6 (cpN 6 (I 2) (I 6))) g c 77 4)) B) (hpT (up1 I 6 (cpN 6 (I 2) (I 6))) g c 77 5).toNatClampNeg (bt (hpT (up1 I 6 (cpN 6 (I 2) (I 6))) g c 77 1)) := fun B => by rw [hfd]; rfl
  have hsame' : feB (fewW f pcN (okS (uN (bt (hpT (up1 I 6 (cpN 6 (I 2) (I 6))) g c 77 2)) 6) k) (2 ^ (wdI A (hpT (up1 I 6 (cpN 6 (I 2) (I 6))) g c)).2.2.2)) = nI (feN (fewW f pcN (okS U k) (U + 1))) := hsame
  clear hsame hUd' hfd hS1 hW6 hX6 hgk hX
  generalize hI0 : hpT (up1 I 6 (cpN 6 (I 2) (I 6))) g c = I0 at *
  obtain ⟨m1, m2, m3, m4, m5, m6⟩ := nums_of hv'
  obtain ⟨v1, v2⟩ := now_of hv'
  refine cl_of rfl (Nat.le_add_right _ _) ?_
  refine go_v (cd := cd149) [] 20 rfl ?_
  refine go_callv (cd := cd149) rfl rfl rfl rfl rfl (lv3 rfl) rfl (cl_isRuleT hv'.2.2.2.2.2.2.1 hq ⟨rfl, ?_⟩)
  refine go_st (cd := cd149) 1 rfl (go_ifF (by decide) ?_)
  refine go_v (cd := cd149) [] 20 rfl ?_
  refine go_callv (cd := cd149) rfl rfl rfl rfl rfl (lv3 rfl) rfl (cl_in (fun _ => ⟨rfl, ?_⟩) (fun hx => absurd hkk hx))
  refine go_st (cd := cd149) 1 rfl (go_ifF (by decide) ?_)
  refine go_v (cd := cd149) [] 20 rfl ?_
  refine go_callv (cd := cd149) rfl rfl rfl rfl rfl (lv3 rfl) rfl (cl_in (fun _ => ⟨rfl, ?_⟩) (fun hx => absurd hnn hx))
  refine go_st (cd := cd149) 1 rfl (go_ifF (by decide) ?_)
  refine go_v (cd := cd149) [] 20 rfl ?_
  refine go_callv (cd := cd149) rfl rfl rfl rfl rfl (lv3 rfl) rfl (cl_asIs (rwl_of hv').1 (fun c2 hc2 => ⟨rfl, ?_⟩))
  have hE : fwI (wdI A I0) (fI I0) (I0 77 3).toNatClampNeg (I0 77 6).toNatClampNeg (I0 77 5).toNatClampNeg q (rlI I0 q) (upN (I0 77 4)) (I0 77 1) (I0 77 2) I0 (asH I0 c2) := ⟨as_rwl hv' (c := c2), m5, (rul_of hv' hq).2.2, m3, m1, v1, rfl, rfl, as_fol hv' hc2, as_rel, rfl, rfl, rfl, rfl⟩
  refine go_v (cd := cd149) [47] 20 rfl ?_
  refine go_sb (few_rf (d := d) (I0 := I0) (J0 := J) (k := k) hfd' hf (by omega) (by omega) m2 m6 hk66 v2 (wld_of hv').1 (fun I2 J2 hE2 hJ2 => ?_) (2 ^ (wdI A I0).2.2.2) 0 _ _ (by omega) hE (fun _ _ _ => rfl)) ⟨rfl, by show some (Value.long 0) = some (Value.long (lZ 0)); rw [lZ_0], rfl, rfl, rfl, rfl, rfl, trivial⟩ rfl rfl rfl
  obtain ⟨-, -, -, -, -, -, -, -, -, e9, eA, eB, eC, eD⟩ := hE2
  refine ⟨rfl, by rw [hsame'], aIn_of (inv_rel hv' e9 (fun j hj => hJ2 j (by omega) (by omega)) (iX_c (I := I0) eA eB eC eD hv'.2.2.2.2.2.2.2.2.2.2.2.2)) rr⟩
end FQ
