section GO
variable {L : Nat} {xs : Nat → Int32} {fv : Value} {d : Nat} {r : Nat} {rr : Option Nat} {I : Nat → Nat → Int32} {J : Nat → Nat → Int64} {P : Option Value → aH → Prop}
variable {A : Nat → List Cl}
/-- the reference's one hour, up to its refusals -/
theorem gorW {k y : Nat} {t : Int32} (hN : I 77 5 = nI (I 77 5).toNatClampNeg ∧ (I 77 5).toNatClampNeg < 4 ∧ I 77 6 = nI (I 77 6).toNatClampNeg ∧ (I 77 6).toNatClampNeg ≤ 99 ∧ I 77 3 = nI (I 77 3).toNatClampNeg ∧ (I 77 3).toNatClampNeg ≤ 9) (hU : I 77 4 = oI (upN (I 77 4)) ∧ ∀ u, upN (I 77 4) = some u → u < (wdI A I).2.2.2) (hG : iG r I) (hW0 : rwl (wdI A I) (fI I) I) (hRR : rrl (rlI I k) k I) (hk : k < r) (hy : y < 4)
    (K : ∀ c c2, (∀ a b, a < 4 → b < 4 → c (4 * a + b) = nI (folA (hol A I) a b)) → aTo L xs fv 111 (d + 8) cd139 (64, [(5, .int (nI (trW (wdI A I) (I 77 6).toNatClampNeg (I 77 5).toNatClampNeg (pkW (wdI A I) (rlI I k) (scI I) (I 77 6).toNatClampNeg (upN (I 77 4)) (I 77 5).toNatClampNeg (bt (I 77 1)))))), (4, .int (oI (pkW (wdI A I) (rlI I k) (scI I) (I 77 6).toNatClampNeg (upN (I 77 4)) (I 77 5).toNatClampNeg (bt (I 77 1))))), (0, .ref 77), (1, .int (nI k)), (2, .int t), (3, .int (nI y))], [], aHp r rr (up1 (asH I c) 89 c2) J) P) : aCl L xs fv 111 (d + 9) 139 [.ref 77, .int (nI k), .int t, .int (nI y)] (aHp r rr I J) P := by
  obtain ⟨n1, n2, n3, n4, n5, n6⟩ := (id hN)
  obtain ⟨u1, u2⟩ := hU
  have hyw : 0 ≤ nI y ∧ nI y ≤ 3 := by
    have : ∀ y : Fin 4, 0 ≤ nI y.val ∧ nI y.val ≤ 3 := by decide
    exact this ⟨y, hy⟩
  refine cl_of rfl (Nat.le_add_right _ _) ?_
  refine go_v (cd := cd139) [] 9 rfl ?_
  refine go_callv (cd := cd139) rfl rfl rfl rfl rfl (lv3 rfl) rfl (cl_isRuleT hG hk ⟨rfl, ?_⟩)
  refine go_st (cd := cd139) 1 rfl (go_ifF (by decide) ?_)
  refine go_v (cd := cd139) [] 9 rfl ?_
  refine go_callv (cd := cd139) rfl rfl rfl rfl rfl (lv3 rfl) rfl (cl_misWind (fun _ => ⟨rfl, ?_⟩) (fun hx => absurd hyw hx))
  refine go_st (cd := cd139) 1 rfl (go_ifF (by decide) ?_)
  refine go_v (cd := cd139) [] 9 rfl ?_
  refine go_callv (cd := cd139) rfl rfl rfl rfl rfl (lv3 rfl) rfl (cl_asIs (F := fI I) (A := hol A I) hW0.1 (fun c hc => ⟨rfl, ?_⟩))
  have hW : rwl (wdI A I) (fI I) (asH I c) := ⟨rH_c (I := I) rfl rfl rfl rfl rfl rfl rfl rfl hW0.1, hW0.2.1, hW0.2.2.1, hW0.2.2.2⟩
  have hSc : rsc (scI I) (asH I c) := ⟨rfl, n5, n6⟩
  have hpick : ∀ {P : Option Value → aH → Prop}, (∀ c2, P (some (.int (oI (pkW (wdI A I) (rlI I k) (scI I) (I 77 6).toNatClampNeg (upN (I 77 4)) (I 77 5).toNatClampNeg (bt (I 77 1)))))) (aHp r rr (up1 (asH I c) 89 c2) J)) → aCl L xs fv 111 (d + 8) 135 [.ref 77, .int (nI k), .int (I 77 4), .int (I 77 5), .int (I 77 6), .int (I 77 1)] (aHp r rr (asH I c) J) P := fun {P} K => by
    have hI : up1 (asH I c) 89 (asH I c 89) = asH I c := up1_id
    have h := cl_pickOf (L := L) (xs := xs) (fv := fv) (d := d + 2) (rr := rr) (r := r) (J := J) (P := P) (x := I 77 1) hW hSc (R := rlI I k) (q := k) hRR (q' := nI k) (n' := I 77 4) (w' := I 77 5) (h' := I 77 6) rfl u1 n1 n3 n2 (by omega) u2 (asH I c 89) K
    rw [hI] at h
    exact h
  refine go_v (cd := cd139) [] 20 rfl ?_
  refine go_callv (cd := cd139) rfl rfl rfl rfl rfl (lv3 rfl) rfl (hpick (fun c2 => ⟨rfl, ?_⟩))
  refine go_v (cd := cd139) [] 20 rfl ?_
  refine go_callv (cd := cd139) rfl rfl rfl rfl rfl (lv3 rfl) rfl (cl_rsum (z := 1) (w := (I 77 5).toNatClampNeg) (h := (I 77 6).toNatClampNeg) (o := (pkW (wdI A I) (rlI I k) (scI I) (I 77 6).toNatClampNeg (upN (I 77 4)) (I 77 5).toNatClampNeg (bt (I 77 1)))) (wt := (wdI A I).2.1) hW.1 rfl rfl n1 n3 (by decide) (fun s hs => by have := pkW_lt s hs; have := hW.2.1; omega) n2 (by omega) (fun s hs => ⟨(hW.2.2.2 s hs).1, (hW.2.2.2 s hs).2.1⟩) c2 (fun c3 => ⟨rfl, ?_⟩))
  rw [spA_tr rfl]
  refine go_v (cd := cd139) [64] 20 rfl ?_
  refine go_sb ?_ (l' := [(5, .int (nI (trW (wdI A I) (I 77 6).toNatClampNeg (I 77 5).toNatClampNeg (pkW (wdI A I) (rlI I k) (scI I) (I 77 6).toNatClampNeg (upN (I 77 4)) (I 77 5).toNatClampNeg (bt (I 77 1)))))), (4, .int (oI (pkW (wdI A I) (rlI I k) (scI I) (I 77 6).toNatClampNeg (upN (I 77 4)) (I 77 5).toNatClampNeg (bt (I 77 1))))), (0, .ref 77), (1, .int (nI k)), (2, .int t), (3, .int (nI y))]) ⟨rfl, rfl, rfl, rfl, rfl, rfl, trivial⟩ rfl rfl rfl
  exact K c c3 hc
theorem gor1W {k y : Nat} {t : Int32} (hN : I 77 5 = nI (I 77 5).toNatClampNeg ∧ (I 77 5).toNatClampNeg < 4 ∧ I 77 6 = nI (I 77 6).toNatClampNeg ∧ (I 77 6).toNatClampNeg ≤ 99 ∧ I 77 3 = nI (I 77 3).toNatClampNeg ∧ (I 77 3).toNatClampNeg ≤ 9) (hU : I 77 4 = oI (upN (I 77 4)) ∧ ∀ u, upN (I 77 4) = some u → u < (wdI A I).2.2.2) (hG : iG r I) (hW0 : rwl (wdI A I) (fI I) I) (hRR : rrl (rlI I k) k I) (hk : k < r) (hy : y < 4) (h99 : I 77 6 < 99) (hm : ((if t = 0 then 100 - (trW (wdI A I) (I 77 6).toNatClampNeg (I 77 5).toNatClampNeg (pkW (wdI A I) (rlI I k) (scI I) (I 77 6).toNatClampNeg (upN (I 77 4)) (I 77 5).toNatClampNeg (bt (I 77 1)))) else (trW (wdI A I) (I 77 6).toNatClampNeg (I 77 5).toNatClampNeg (pkW (wdI A I) (rlI I k) (scI I) (I 77 6).toNatClampNeg (upN (I 77 4)) (I 77 5).toNatClampNeg (bt (I 77 1))))) * folA (hol A I) (I 77 5).toNatClampNeg y) ≠ 0)
    (K : ∀ c c2, (∀ a b, a < 4 → b < 4 → c (4 * a + b) = nI (folA (hol A I) a b)) → aTo L xs fv 111 (d + 8) cd139 (113, [(5, .int (nI (trW (wdI A I) (I 77 6).toNatClampNeg (I 77 5).toNatClampNeg (pkW (wdI A I) (rlI I k) (scI I) (I 77 6).toNatClampNeg (upN (I 77 4)) (I 77 5).toNatClampNeg (bt (I 77 1)))))), (4, .int (oI (pkW (wdI A I) (rlI I k) (scI I) (I 77 6).toNatClampNeg (upN (I 77 4)) (I 77 5).toNatClampNeg (bt (I 77 1))))), (0, .ref 77), (1, .int (nI k)), (2, .int t), (3, .int (nI y))], [], aHp r rr (up1 (asH I c) 89 c2) J) P) : aCl L xs fv 111 (d + 9) 139 [.ref 77, .int (nI k), .int t, .int (nI y)] (aHp r rr I J) P := by
  obtain ⟨n1, n2, n3, n4, n5, n6⟩ := (id hN)
  have htr := trW_le (wdI A I) (I 77 6).toNatClampNeg (I 77 5).toNatClampNeg (pkW (wdI A I) (rlI I k) (scI I) (I 77 6).toNatClampNeg (upN (I 77 4)) (I 77 5).toNatClampNeg (bt (I 77 1)))
  have hf10 := fol_le (hol A I) n2 hy
  have hix2 : 4 * I 77 5 + nI y = nI (4 * (I 77 5).toNatClampNeg + y) := by
    rw [n1, show (4 : Int32) = nI 4 from rfl, nI_mul, nI_add, ← n1]
  refine gorW hN hU hG hW0 hRR hk hy (fun c c2 hc => ?_)
  have K' := K c c2 hc
  generalize (trW (wdI A I) (I 77 6).toNatClampNeg (I 77 5).toNatClampNeg (pkW (wdI A I) (rlI I k) (scI I) (I 77 6).toNatClampNeg (upN (I 77 4)) (I 77 5).toNatClampNeg (bt (I 77 1)))) = tr at *
  have hfol : folA (hol A I) (I 77 5).toNatClampNeg y ≠ 0 := fun h => hm (by rw [h, Nat.mul_zero])
  have hpt : (if t = 0 then 100 - tr else tr) ≠ 0 := fun h => hm (by rw [h, Nat.zero_mul])
  refine go_v (cd := cd139) [] 20 rfl ?_
  refine go_st (cd := cd139) 1 rfl (go_ifF (by show ¬ I 77 6 = 99; grind) ?_)
  refine go_v (cd := cd139) [] 20 rfl ?_
  rw [show ((111 + 3 * r, up1 (asH I c) 89 c2, J, aRf r rr) : aH).2.1 77 5 = I 77 5 from rfl, hix2]
  refine go_iald (cd := cd139) rfl (nI_vin (n := 16) (by omega) (by decide)) (lv3 rfl) rfl ?_
  rw [nI_clamp (by omega), show up1 (asH I c) 89 c2 90 (4 * (I 77 5).toNatClampNeg + y) = nI (folA (hol A I) (I 77 5).toNatClampNeg y) from hc _ y n2 hy]
  refine go_st (cd := cd139) 1 rfl (go_ifF (fun h => hfol ((nI_z (by omega)).mp h)) ?_)
  refine go_v (cd := cd139) [] 20 rfl ?_
  by_cases ht : t = 0
  · rw [if_pos ht] at hpt
    refine go_st (cd := cd139) 1 rfl (go_ifT ht ?_)
    refine go_v (cd := cd139) [] 20 rfl ?_
    refine go_st (cd := cd139) 1 rfl (go_ifT ht ?_)
    refine go_v (cd := cd139) [] 20 rfl ?_
    exact go_st (cd := cd139) 1 rfl (go_ifF (fun h => hpt (by have := (nI_c (by omega)).mp h; omega)) K')
  · rw [if_neg ht] at hpt
    refine go_st (cd := cd139) 1 rfl (go_ifF ht ?_)
    refine go_v (cd := cd139) [] 20 rfl ?_
    refine go_st (cd := cd139) 1 rfl (go_ifF (fun h => hpt ((nI_z (by omega)).mp h)) ?_)
    refine go_v (cd := cd139) [] 20 rfl ?_
    exact go_st (cd := cd139) 1 rfl (go_ifF ht K')
end GO
