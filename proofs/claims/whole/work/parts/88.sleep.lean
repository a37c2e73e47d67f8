section SL
variable {L : Nat} {xs : Nat → Int32} {fv : Value} {d : Nat} {r : Nat} {rr : Option Nat} {I : Nat → Nat → Int32} {J : Nat → Nat → Int64} {P : Option Value → aH → Prop}
variable {A : Nat → List Cl} {W : Wd} {F : Nat} {S : Sc} {R : Ru} {q : Nat}
theorem rwl_s {v : Int32} {k : Nat} (h : rwl W F I) (hk : k = 34 ∨ k = 35) : rwl W F (up2 I 77 k v) := by
  have o : ∀ j, j ≠ 77 → up2 I 77 k v j = I j := fun j hj => up2_ne hj
  refine ⟨rH_c (I := I) (up2_42 (by omega)) (o 81 (by decide)) (o 82 (by decide)) (o 83 (by decide)) (o 84 (by decide)) (o 85 (by decide)) (o 86 (by decide)) (o 87 (by decide)) h.1, h.2.1, ?_, ?_⟩
  · rw [up2_42 (by omega)]; exact h.2.2.1
  · rw [o 78 (by decide), o 79 (by decide)]; exact h.2.2.2
theorem rrl_s {v : Int32} {k : Nat} (h : rrl R q I) : rrl R q (up2 I 77 k v) := by
  unfold rrl at h ⊢
  rw [up2_ne (by decide), up2_ne (by decide), up2_ne (by decide), up2_ne (by decide)]; exact h
theorem gd_done2 {c : Nat → Int32} {I2 I' : Nat → Nat → Int32} {J' : Nat → Nat → Int64} {v : Int32} (hv : aInv r A I J) (hf : fr (asH I c) I2) (hf2 : fr (up2 I2 77 35 v) I') (hJ : ∀ j, j ≠ 77 → j ≠ 102 → J' j = J j) : aIn (aHp r rr I' J') := by
  have h1 : relI I (up2 I2 77 35 v) := relI_77 (relI_fr as_rel hf) (by omega)
  refine aIn_of (inv_rel hv (relI_fr h1 hf2) (fun j hj => hJ j (by omega) (by omega)) (iX_c (I := I) ?_ ?_ ?_ ?_ hv.2.2.2.2.2.2.2.2.2.2.2.2)) rr
  · rw [hf2.2 0 (by decide), up2_42 (by decide), hf.2 0 (by decide)]; rfl
  · rw [hf2.2 11 (by decide), up2_42 (by decide), hf.2 11 (by decide)]; rfl
  · rw [hf2.1 19 (by decide) (by decide) (by decide), up2_ne (by decide), hf.1 19 (by decide) (by decide) (by decide)]; rfl
  · rw [hf2.1 78 (by decide) (by decide) (by decide), up2_ne (by decide), hf.1 78 (by decide) (by decide) (by decide)]; rfl
theorem awake_m {m : Nat} (hm : m ≤ 9) : (if 0 < nI m - 1 then nI m - 1 else 0) = nI (m - 1) := by
  have : ∀ m : Fin 10, (if 0 < nI m.val - 1 then nI m.val - 1 else 0) = nI (m.val - 1) := by decide
  exact this ⟨m, by omega⟩
theorem VV_d {W : Wd} (hW : rcWf W.1) (R R' : Ru) (S S' : Sc) {n h h' : Nat} {now now' : Option Nat} {w w' : Nat} {fit fit' : Nat → Bool} (hw : w < 4) (hw' : w' < 4) (hn : n ≤ 3) : -1000000000000 ≤ VV W R S n h now w fit - VV W R' S' n h' now' w' fit' ∧ VV W R S n h now w fit - VV W R' S' n h' now' w' fit' ≤ 1000000000000 := by
  have h1 := VV_abs hW R S n h now w fit hw
  have h2 := VV_abs hW R' S' n h' now' w' fit' hw'
  match n, hn with
  | 0, _ => simp at h1 h2; omega
  | 1, _ => simp at h1 h2; omega
  | 2, _ => simp at h1 h2; omega
  | 3, _ => simp at h1 h2; omega
end SL
section PR
variable {L : Nat} {xs : Nat → Int32} {fv : Value} {d : Nat}
theorem rf_sleep {r : Nat} {rr : Option Nat} {A : Nat → List Cl} {I : Nat → Nat → Int32} {J : Nat → Nat → Int64} {w : Int32} {g : Int32} {p : Int32} (hv : aInv r A I J) (hbad : ¬ ((∃ k, k < r ∧ w = nI k) ∧ (1 ≤ g ∧ g ≤ 4) ∧ (p = 0 ∨ p = 1))) : aCl L xs fv 111 (d + 9) 151 [.ref 77, .int w, .int g, .int p] (aHp r rr I J) (fun rv2 h2 => h2.1 = 111 + 3 * r ∧ rv2 = some (.long (-9223372036854775808)) ∧ aIn h2) := by
  have hG := hv.2.2.2.2.2.2.1
  refine cl_of rfl (Nat.le_add_right _ _) ?_
  by_cases hw : ∃ k, k < r ∧ w = nI k
  · obtain ⟨k, hk, he⟩ := hw
    subst he
    repeat' (first
      | (refine go_v (cd := cd151) [30] 300 rfl ?_; try simp (disch := decide) only [av0, av1, av3, up2_e, up2_s, up2_o, up1_e, up1_o])
      | refine go_st (cd := cd151) 1 rfl (go_ifT (by decide) ?_)
      | refine go_st (cd := cd151) 1 rfl (go_ifF (by decide) ?_)
      | refine go_st (cd := cd151) 1 rfl (go_ifT (by assumption) ?_)
      | refine go_st (cd := cd151) 1 rfl (go_ifF (by assumption) ?_)
      | (refine go_st (cd := cd151) 1 rfl (go_if (fun hq => ?_) (fun hq => ?_)))
      | refine go_ireturn (cd := cd151) rfl ?_
      | refine go_zreturn (cd := cd151) rfl (Or.inl rfl) ?_
      | refine go_zreturn (cd := cd151) rfl (Or.inr rfl) ?_
      | refine go_lreturn (cd := cd151) rfl ?_
      | refine go_areturn (cd := cd151) rfl ?_
      | refine go_areturnN (cd := cd151) rfl ?_
      | refine go_return (cd := cd151) rfl ?_
      | (refine go_callv (cd := cd151) rfl rfl rfl rfl rfl (lv3 rfl) rfl (cl_isRuleT hG (by assumption) ⟨rfl, ?_⟩))
      | (refine go_calls (cd := cd151) rfl rfl rfl rfl rfl (cl_isRuleT hG (by assumption) ⟨rfl, ?_⟩))
      | (refine go_callv (cd := cd151) rfl rfl rfl rfl rfl (lv3 rfl) rfl (cl_misHours (fun hq => ⟨rfl, ?_⟩) (fun hq => ⟨rfl, ?_⟩)) <;> (try simp (disch := decide) only [av0, av1, av3, up2_e, up2_s, up2_o, up1_e, up1_o] at hq))
      | (refine go_calls (cd := cd151) rfl rfl rfl rfl rfl (cl_misHours (fun hq => ⟨rfl, ?_⟩) (fun hq => ⟨rfl, ?_⟩)) <;> (try simp (disch := decide) only [av0, av1, av3, up2_e, up2_s, up2_o, up1_e, up1_o] at hq))
      | (refine go_callv (cd := cd151) rfl rfl rfl rfl rfl (lv3 rfl) rfl (cl_in (fun hq => ⟨rfl, ?_⟩) (fun hq => ⟨rfl, ?_⟩)) <;> (try simp (disch := decide) only [av0, av1, av3, up2_e, up2_s, up2_o, up1_e, up1_o] at hq))
      | (refine go_calls (cd := cd151) rfl rfl rfl rfl rfl (cl_in (fun hq => ⟨rfl, ?_⟩) (fun hq => ⟨rfl, ?_⟩)) <;> (try simp (disch := decide) only [av0, av1, av3, up2_e, up2_s, up2_o, up1_e, up1_o] at hq)))
    all_goals first
      | exact ⟨rfl, rfl, aIn_of hv rr⟩
      | (exfalso; exact hbad ⟨⟨k, hk, rfl⟩, by grind⟩)
  · have hn : ¬ (0 ≤ w ∧ w < nI r) := fun h => hw (by
      have := hG.2.2.1
      obtain ⟨j, hj, e, -⟩ := nI_ex (nI r) (nI_toInt (by omega)) h.1 h.2
      exact ⟨j, hj, e⟩)
    repeat' (first
      | (refine go_v (cd := cd151) [30] 300 rfl ?_; try simp (disch := decide) only [av0, av1, av3, up2_e, up2_s, up2_o, up1_e, up1_o])
      | refine go_st (cd := cd151) 1 rfl (go_ifT (by decide) ?_)
      | refine go_st (cd := cd151) 1 rfl (go_ifF (by decide) ?_)
      | refine go_st (cd := cd151) 1 rfl (go_ifT (by assumption) ?_)
      | refine go_st (cd := cd151) 1 rfl (go_ifF (by assumption) ?_)
      | (refine go_st (cd := cd151) 1 rfl (go_if (fun hq => ?_) (fun hq => ?_)))
      | refine go_ireturn (cd := cd151) rfl ?_
      | refine go_zreturn (cd := cd151) rfl (Or.inl rfl) ?_
      | refine go_zreturn (cd := cd151) rfl (Or.inr rfl) ?_
      | refine go_lreturn (cd := cd151) rfl ?_
      | refine go_areturn (cd := cd151) rfl ?_
      | refine go_areturnN (cd := cd151) rfl ?_
      | refine go_return (cd := cd151) rfl ?_
      | (refine go_callv (cd := cd151) rfl rfl rfl rfl rfl (lv3 rfl) rfl (cl_isRuleF hG (by assumption) ⟨rfl, ?_⟩))
      | (refine go_calls (cd := cd151) rfl rfl rfl rfl rfl (cl_isRuleF hG (by assumption) ⟨rfl, ?_⟩))
      | (refine go_callv (cd := cd151) rfl rfl rfl rfl rfl (lv3 rfl) rfl (cl_misHours (fun hq => ⟨rfl, ?_⟩) (fun hq => ⟨rfl, ?_⟩)) <;> (try simp (disch := decide) only [av0, av1, av3, up2_e, up2_s, up2_o, up1_e, up1_o] at hq))
      | (refine go_calls (cd := cd151) rfl rfl rfl rfl rfl (cl_misHours (fun hq => ⟨rfl, ?_⟩) (fun hq => ⟨rfl, ?_⟩)) <;> (try simp (disch := decide) only [av0, av1, av3, up2_e, up2_s, up2_o, up1_e, up1_o] at hq))
      | (refine go_callv (cd := cd151) rfl rfl rfl rfl rfl (lv3 rfl) rfl (cl_in (fun hq => ⟨rfl, ?_⟩) (fun hq => ⟨rfl, ?_⟩)) <;> (try simp (disch := decide) only [av0, av1, av3, up2_e, up2_s, up2_o, up1_e, up1_o] at hq))
      | (refine go_calls (cd := cd151) rfl rfl rfl rfl rfl (cl_in (fun hq => ⟨rfl, ?_⟩) (fun hq => ⟨rfl, ?_⟩)) <;> (try simp (disch := decide) only [av0, av1, av3, up2_e, up2_s, up2_o, up1_e, up1_o] at hq)))
    all_goals exact ⟨rfl, rfl, aIn_of hv rr⟩
set_option maxHeartbeats 8000000 in
theorem pr_sleep {w g p : Int32} {h : aH} (hi : aIn h) : aPair L xs fv (d + 9) 50 151 [.int w, .int g, .int p] h := by
  obtain ⟨r, rr, A, I, J, rfl, hv⟩ := hi
  have hG := hv.2.2.2.2.2.2.1
  refine cl_of rfl (Nat.le_add_right _ _) ?_
  repeat' (first
      | (refine go_v (cd := cd50) [30] 300 rfl ?_; try simp (disch := decide) only [av0, av1, av3, up2_e, up2_s, up2_o, up1_e, up1_o])
      | refine go_st (cd := cd50) 1 rfl (go_ifT (by decide) ?_)
      | refine go_st (cd := cd50) 1 rfl (go_ifF (by decide) ?_)
      | refine go_st (cd := cd50) 1 rfl (go_ifT (by assumption) ?_)
      | refine go_st (cd := cd50) 1 rfl (go_ifF (by assumption) ?_)
      | (refine go_st (cd := cd50) 1 rfl (go_if (fun hq => ?_) (fun hq => ?_)))
      | refine go_ireturn (cd := cd50) rfl ?_
      | refine go_zreturn (cd := cd50) rfl (Or.inl rfl) ?_
      | refine go_zreturn (cd := cd50) rfl (Or.inr rfl) ?_
      | refine go_lreturn (cd := cd50) rfl ?_
      | refine go_areturn (cd := cd50) rfl ?_
      | refine go_areturnN (cd := cd50) rfl ?_
      | refine go_return (cd := cd50) rfl ?_
      | (refine go_callv (cd := cd50) rfl rfl rfl rfl rfl (lv3 rfl) rfl (cl_isHours (fun hq => ⟨rfl, ?_⟩) (fun hq => ⟨rfl, ?_⟩)) <;> (try simp (disch := decide) only [av0, av1, av3, up2_e, up2_s, up2_o, up1_e, up1_o] at hq))
      | (refine go_calls (cd := cd50) rfl rfl rfl rfl rfl (cl_isHours (fun hq => ⟨rfl, ?_⟩) (fun hq => ⟨rfl, ?_⟩)) <;> (try simp (disch := decide) only [av0, av1, av3, up2_e, up2_s, up2_o, up1_e, up1_o] at hq))
      | (refine go_callv (cd := cd50) rfl rfl rfl rfl rfl (lv3 rfl) rfl (cl_isPart (fun hq => ⟨rfl, ?_⟩) (fun hq => ⟨rfl, ?_⟩)) <;> (try simp (disch := decide) only [av0, av1, av3, up2_e, up2_s, up2_o, up1_e, up1_o] at hq))
      | (refine go_calls (cd := cd50) rfl rfl rfl rfl rfl (cl_isPart (fun hq => ⟨rfl, ?_⟩) (fun hq => ⟨rfl, ?_⟩)) <;> (try simp (disch := decide) only [av0, av1, av3, up2_e, up2_s, up2_o, up1_e, up1_o] at hq))
      | (refine go_callv (cd := cd50) rfl rfl rfl rfl rfl (lv3 rfl) rfl (cl_ruleOf hG (fun k hk he => ⟨rfl, ?_⟩) (fun hq => ⟨rfl, ?_⟩)) <;> first | (subst he; have hl := rlq_of hG hk; have hk10 := hl.1; have hkc := hl.2.1; have hk1 := hl.2.2.2.1; have hk2 := hl.2.2.2.2.1; have hk3 := hl.2.2.2.2.2.1) | skip))
  all_goals first
    | exact ⟨Or.inl rfl, _, rfl, rf_sleep hv (fun h => by first | exact hq h.2.1 | exact hq h.2.2 | exact hq (in_of hv h.1))⟩
    | skip
  have hpart : p = 0 ∨ p = 1 := by grind
  have hhours : 1 ≤ g ∧ g ≤ 4 := by grind
  obtain ⟨n, hn3, rfl⟩ := hours_ex hhours
  obtain ⟨q, hq2, rfl⟩ := part_ex hpart
  obtain ⟨hb, hR, -⟩ := rul_of hv hk
  have hwf := (wld_of hv).2.2.2.2.1
  have h99 := (nums_of hv).2.2.2.1
  have hw4 := (nums_of hv).2.1
  have hm5 := (nums_of hv).2.2.2.2.1
  have hm9 := (nums_of hv).2.2.2.2.2
  have s4 := hv.1.2.2.2.2.1
  refine go_v (cd := cd50) [] 9 rfl ?_
  refine go_callv (cd := cd50) rfl rfl rfl rfl rfl (lv3 rfl) rfl (cl_become51 ⟨rfl, ?_⟩)
  rw [tr_heap]
  refine go_v (cd := cd50) [] 9 rfl ?_
  refine go_callv (cd := cd50) rfl rfl rfl rfl rfl (lv3 rfl) rfl (cl_aheadX (t := 0) (n := n) (m := 0) (wld_6 (wld_of hv)) hb (rul_6 hb hR) (fun g => rul_tr hb hR) (by decide) rfl hn3 (by omega) (by omega) rfl rfl (scn_tr (scn_of hv)) (iX_tr hv) (fun c hX => ⟨rfl, ?_⟩))
  refine go_v (cd := cd50) [] 20 rfl ?_
  rw [show ((111 + 3 * r, up1 (up1 (up1 I 6 (cpN 6 (I 2) (I 6))) 5 (cpN 10 (I 1) (I 5))) 19 c, J, aRf r rr) : aH).2.1 5 4 = nI (I 77 3).toNatClampNeg from s4.trans hm5]
  refine go_max (cd := cd50) rfl rfl ?_
  rw [awake_m hm9]
  refine go_v (cd := cd50) [72] 9 rfl ?_
  rw [hp_put]
  refine go_v (cd := cd50) [] 9 rfl ?_
  have hsc : scn (wdI A I) ((scI I).1, (I 77 3).toNatClampNeg - 1) (I 77 6).toNatClampNeg (upN (I 77 4)) (I 77 5).toNatClampNeg (bt (I 77 1)) 5 (up1 (up1 I 6 (cpN 6 (I 2) (I 6))) 5 (fun q => if q = 4 then nI ((I 77 3).toNatClampNeg - 1) else cpN 10 (I 1) (I 5) q)) := by
    obtain ⟨e0, e1, e2, e4, e5, e6, e7, e8, e9, eA, eB⟩ := scn_of hv
    refine ⟨?_, ?_, ?_, ?_, ?_, ?_, ?_, e8, e9, by dsimp only; omega, eB⟩ <;> rw [up1_e] <;> first | assumption | rfl
  refine go_callv (cd := cd50) rfl rfl rfl rfl rfl (lv3 rfl) rfl (cl_aheadX (t := 0) (n := n) (m := 0) (wld_6 (wld_of hv)) hb (rul_6 hb hR) (fun g => rul_tr hb hR) (by decide) rfl hn3 (by omega) (by omega) rfl rfl hsc (iX_5 hX) (fun c hX => ⟨rfl, ?_⟩))
  refine go_v (cd := cd50) [] 9 rfl ?_
  refine go_laldS (cd := cd50) rfl (odds_of (L := L) (xs := xs) hn3).1 rfl ?_
  rw [(odds_of (L := L) (xs := xs) hn3).2, lZ_sub]
  refine go_v (cd := cd50) [] 9 rfl ?_
  have hp3 : (1000 : Nat) ^ n ≤ 1000 ^ 3 := Nat.pow_le_pow_right (by decide) hn3
  have hp0 : 0 < (1000 : Nat) ^ n := Nat.pow_pos (by decide)
  have hd := VV_d hwf (rlI I k) (rlI I k) (scI I) ((scI I).1, (I 77 3).toNatClampNeg - 1) (h := (I 77 6).toNatClampNeg) (h' := (I 77 6).toNatClampNeg) (now := upN (I 77 4)) (now' := upN (I 77 4)) (fit := bt (I 77 1)) (fit' := bt (I 77 1)) hw4 hw4 hn3
  refine go_calls (cd := cd50) rfl rfl rfl rfl rfl (cl_clow (a := VV (wdI A I) (rlI I k) (scI I) n (I 77 6).toNatClampNeg (upN (I 77 4)) (I 77 5).toNatClampNeg (bt (I 77 1)) - VV (wdI A I) (rlI I k) ((scI I).1, (I 77 3).toNatClampNeg - 1) n (I 77 6).toNatClampNeg (upN (I 77 4)) (I 77 5).toNatClampNeg (bt (I 77 1))) (b := 1000 ^ n) (part := q) rfl rfl rfl (by omega) (by omega) hp0 (by omega) hq2 ⟨rfl, ?_⟩)
  refine go_lreturn (cd := cd50) rfl ⟨Or.inl rfl, _, rfl, ?_⟩
  have hv' := tr_inv hv hX
  obtain ⟨n1, n2, n3, n4, n5, n6⟩ := nums_of hv'
  obtain ⟨u1, u2⟩ := now_of hv'
  refine cl_of rfl (Nat.le_add_right _ _) ?_
  refine go_v (cd := cd151) [] 9 rfl ?_
  refine go_callv (cd := cd151) rfl rfl rfl rfl rfl (lv3 rfl) rfl (cl_isRuleT hv'.2.2.2.2.2.2.1 hk ⟨rfl, ?_⟩)
  refine go_st (cd := cd151) 1 rfl (go_ifF (by decide) ?_)
  refine go_v (cd := cd151) [] 9 rfl ?_
  refine go_callv (cd := cd151) rfl rfl rfl rfl rfl (lv3 rfl) rfl (cl_misHours (fun _ => ⟨rfl, ?_⟩) (fun hx => absurd hhours hx))
  refine go_st (cd := cd151) 1 rfl (go_ifF (by decide) ?_)
  refine go_v (cd := cd151) [] 9 rfl ?_
  refine go_callv (cd := cd151) rfl rfl rfl rfl rfl (lv3 rfl) rfl (cl_in (fun _ => ⟨rfl, ?_⟩) (fun hx => absurd (by rcases hpart with e | e <;> rw [e] <;> decide) hx))
  refine go_st (cd := cd151) 1 rfl (go_ifF (by decide) ?_)
  generalize hI0 : hpT (up1 I 6 (cpN 6 (I 2) (I 6))) (fun q => if q = 4 then nI ((I 77 3).toNatClampNeg - 1) else cpN 10 (I 1) (I 5) q) c = I0 at *
  have hdd : ∀ x : Int, x = VV (wdI A I0) (rlI I0 k) (scI I0) n (I0 77 6).toNatClampNeg (upN (I0 77 4)) (I0 77 5).toNatClampNeg (bt (I0 77 1)) - VV (wdI A I0) (rlI I0 k) ((scI I0).1, (I0 77 3).toNatClampNeg - 1) n (I0 77 6).toNatClampNeg (upN (I0 77 4)) (I0 77 5).toNatClampNeg (bt (I0 77 1)) → x = VV (wdI A I) (rlI I k) (scI I) n (I 77 6).toNatClampNeg (upN (I 77 4)) (I 77 5).toNatClampNeg (bt (I 77 1)) - VV (wdI A I) (rlI I k) ((scI I).1, (I 77 3).toNatClampNeg - 1) n (I 77 6).toNatClampNeg (upN (I 77 4)) (I 77 5).toNatClampNeg (bt (I 77 1)) := fun x hx => by
    rw [← hI0] at hx; exact hx
  refine go_v (cd := cd151) [] 9 rfl ?_
  refine go_callv (cd := cd151) rfl rfl rfl rfl rfl (lv3 rfl) rfl (cl_asIs (rwl_of hv').1 (fun c2 hc2 => ⟨rfl, ?_⟩))
  refine go_v (cd := cd151) [] 20 rfl ?_
  refine go_callv (cd := cd151) rfl rfl rfl rfl rfl (lv3 rfl) rfl (cl_goR (n := n) (due := 0) (as_rwl hv') (as_rsc hv') (rul_of hv' hk).2.2 n3 (by omega) n1 (as_fol hv' hc2) hn3 (by omega) n2 u2 rfl rfl u1 rfl rfl (fun I2 J2 hf2 hJ2 k44 k45 k46 k47 => ⟨rfl, ?_⟩))
  refine go_v (cd := cd151) [55] 20 rfl ?_
  rw [show ((111 + 3 * r, I2, J2, aRf r rr) : aH).2.2.1 77 44 = _ from k44]
  have hI23 : I2 77 3 = nI (I0 77 3).toNatClampNeg := (hf2.2 3 (by decide)).trans n5
  have h76 : ∀ v, v = nI ((I0 77 3).toNatClampNeg - 1) → aTo L xs fv 111 (d + 8) cd151 (73, [(4, .long (lZ (1000 * VV (wdI A I0) (rlI I0 k) (scI I0) n (I0 77 6).toNatClampNeg (upN (I0 77 4)) (I0 77 5).toNatClampNeg (bt (I0 77 1))))), (0, .ref 77), (1, .int (nI k)), (2, .int (nI (n + 1))), (3, .int (nI q))], [.int v, .ref 77], aHp r rr I2 J2) (fun rv2 h2 => h2.1 = 111 + 3 * r ∧ rv2 = some (.long (lZ (lowZ (VV (wdI A I) (rlI I k) (scI I) n (I 77 6).toNatClampNeg (upN (I 77 4)) (I 77 5).toNatClampNeg (bt (I 77 1)) - VV (wdI A I) (rlI I k) ((scI I).1, (I 77 3).toNatClampNeg - 1) n (I 77 6).toNatClampNeg (upN (I 77 4)) (I 77 5).toNatClampNeg (bt (I 77 1))) (1000 ^ n) q))) ∧ aIn h2) := fun v hvv => by
    refine go_v (cd := cd151) [76] 9 rfl ?_
    show aTo L xs fv 111 (d + 8) cd151 (76, _, _, aHp r rr (up2 I2 77 35 v) J2) _
    refine go_v (cd := cd151) [] 20 rfl ?_
    have hsc3 : rsc ((scI I0).1, (I0 77 3).toNatClampNeg - 1) (up2 I2 77 35 v) := by
      have h1 := rsc_fr hf2 (as_rsc hv')
      exact ⟨by rw [up2_42 (by decide)]; exact h1.1, by rw [up2_e, hvv], by dsimp only; omega⟩
    refine go_callv (cd := cd151) rfl rfl rfl rfl rfl (lv3 rfl) rfl (cl_goR (n := n) (due := 0) (x := I0 77 1) (rwl_s (rwl_fr hf2 (as_rwl hv')) (Or.inr rfl)) hsc3 (rrl_s (rrl_fr hf2 (rul_of hv' hk).2.2)) (hr := (I0 77 6).toNatClampNeg) (by rw [up2_42 (by decide), hf2.2 6 (by decide)]; exact n3) (by omega) (w := (I0 77 5).toNatClampNeg) (by rw [up2_42 (by decide), hf2.2 5 (by decide)]; exact n1) (fun a b ha hb => by rw [up2_o rfl, hf2.1 90 (by decide) (by decide) (by decide)]; exact as_fol hv' hc2 a b ha hb) hn3 (by omega) n2 (now := upN (I0 77 4)) u2 rfl rfl (by show up2 I2 77 35 v 77 4 = _; rw [up2_42 (by decide), hf2.2 4 (by decide)]; exact u1) (by show up2 I2 77 35 v 77 1 = _; rw [up2_42 (by decide), hf2.2 1 (by decide)]; rfl) rfl (fun I3 J3 hf3 hJ3 j44 j45 j46 j47 => ⟨rfl, ?_⟩))
    refine go_v (cd := cd151) [] 20 rfl ?_
    rw [show ((111 + 3 * r, I3, J3, aRf r rr) : aH).2.2.1 77 44 = _ from j44, lZ_sub, ← Int.mul_sub]
    have hdd2 := VV_d (wld_of hv').2.2.2.2.1 (rlI I0 k) (rlI I0 k) (scI I0) ((scI I0).1, (I0 77 3).toNatClampNeg - 1) (h := (I0 77 6).toNatClampNeg) (h' := (I0 77 6).toNatClampNeg) (now := upN (I0 77 4)) (now' := upN (I0 77 4)) (fit := bt (I0 77 1)) (fit' := bt (I0 77 1)) n2 n2 hn3
    refine go_callv (cd := cd151) rfl rfl rfl rfl rfl (lv3 rfl) rfl (cl_rlow (b := 1000 * 1000 ^ n) (part := q) rfl j46 rfl (by omega) (by omega) (by omega) (by omega) hq2 ⟨rfl, ?_⟩)
    refine go_lreturn (cd := cd151) rfl ⟨rfl, ?_, gd_done2 hv' hf2 hf3 (fun j a b => (hJ3 j a b).trans (hJ2 j a b))⟩
    rw [lowZ_scale hp0, hdd _ rfl]
  refine go_sub (l' := [(4, .long (lZ (1000 * VV (wdI A I0) (rlI I0 k) (scI I0) n (I0 77 6).toNatClampNeg (upN (I0 77 4)) (I0 77 5).toNatClampNeg (bt (I0 77 1))))), (0, .ref 77), (1, .int (nI k)), (2, .int (nI (n + 1))), (3, .int (nI q))]) ⟨rfl, rfl, rfl, rfl, rfl, trivial⟩ rfl rfl rfl ?_
  refine go_v (cd := cd151) [] 9 rfl ?_
  rw [show aVal (111 + 3 * r, I2, J2, aRf r rr) 0 77 3 = .int (nI (I0 77 3).toNatClampNeg) from congrArg Value.int hI23]
  by_cases h0 : (I0 77 3).toNatClampNeg = 0
  · refine go_st (cd := cd151) 1 rfl (go_ifT (by rw [h0]; decide) ?_)
    refine go_v (cd := cd151) [73] 9 rfl ?_
    exact h76 _ (by rw [h0]; rfl)
  · refine go_st (cd := cd151) 1 rfl (go_ifF (nI_nle (by omega) (by omega)) ?_)
    refine go_v (cd := cd151) [73] 9 rfl ?_
    rw [show ((111 + 3 * r, I2, J2, aRf r rr) : aH).2.1 77 3 = nI (I0 77 3).toNatClampNeg from hI23]
    exact h76 _ (nI_sub (a := (I0 77 3).toNatClampNeg) (b := 1) (by omega))
end PR
