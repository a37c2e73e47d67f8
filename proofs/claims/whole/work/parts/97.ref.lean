section GO
variable {L : Nat} {xs : Nat → Int32} {fv : Value} {d : Nat} {r : Nat} {rr : Option Nat} {I : Nat → Nat → Int32} {J : Nat → Nat → Int64} {P : Option Value → aH → Prop}
variable {A : Nat → List Cl}
set_option maxHeartbeats 4000000 in
theorem gorF {k y : Nat} {t : Int32} {s0 : Nat → Int32} (hv : aInv r A (up1 I 1 s0) J) (hk : k < r) (hy : y < 4) (h99 : I 77 6 < 99) (hm : ((if t = 0 then 100 - (trW (wdI A I) (I 77 6).toNatClampNeg (I 77 5).toNatClampNeg (pkW (wdI A I) (rlI I k) (scI I) (I 77 6).toNatClampNeg (upN (I 77 4)) (I 77 5).toNatClampNeg (bt (I 77 1)))) else (trW (wdI A I) (I 77 6).toNatClampNeg (I 77 5).toNatClampNeg (pkW (wdI A I) (rlI I k) (scI I) (I 77 6).toNatClampNeg (upN (I 77 4)) (I 77 5).toNatClampNeg (bt (I 77 1))))) * folA (hol A I) (I 77 5).toNatClampNeg y) ≠ 0)
    (q0 : I 1 0 = if t = 0 then oI (pkW (wdI A I) (rlI I k) (scI I) (I 77 6).toNatClampNeg (upN (I 77 4)) (I 77 5).toNatClampNeg (bt (I 77 1))) else -1) (q1 : I 1 1 = nI y) (q2 : I 1 2 = I 77 6 + 1) (q3 : I 1 3 = I 77 7 + iZ (mlW (wdI A I) (I 77 6).toNatClampNeg (upN (I 77 4)) (I 77 5).toNatClampNeg (pkW (wdI A I) (rlI I k) (scI I) (I 77 6).toNatClampNeg (upN (I 77 4)) (I 77 5).toNatClampNeg (bt (I 77 1))))) (q6 : I 1 6 = if t = 0 then I 77 1 else I 77 1 &&& ((1 <<< (oI (pkW (wdI A I) (rlI I k) (scI I) (I 77 6).toNatClampNeg (upN (I 77 4)) (I 77 5).toNatClampNeg (bt (I 77 1))) &&& 31)) ^^^ -1)) (qo : ∀ q, q = 4 ∨ q = 5 ∨ q = 7 ∨ q = 8 ∨ q = 9 → I 1 q = s0 q) : aCl L xs fv 111 (d + 9) 139 [.ref 77, .int (nI k), .int t, .int (nI y)] (aHp r rr I J) (fun rv2 h2 => h2.1 = 111 + 3 * r ∧ rv2 = some (.int (iZ (mlW (wdI A I) (I 77 6).toNatClampNeg (upN (I 77 4)) (I 77 5).toNatClampNeg (pkW (wdI A I) (rlI I k) (scI I) (I 77 6).toNatClampNeg (upN (I 77 4)) (I 77 5).toNatClampNeg (bt (I 77 1)))))) ∧ aIn h2) := by
  have hN : I 77 5 = nI (I 77 5).toNatClampNeg ∧ (I 77 5).toNatClampNeg < 4 ∧ I 77 6 = nI (I 77 6).toNatClampNeg ∧ (I 77 6).toNatClampNeg ≤ 99 ∧ I 77 3 = nI (I 77 3).toNatClampNeg ∧ (I 77 3).toNatClampNeg ≤ 9 := by
    have h := nums_of hv
    exact h
  have hU : I 77 4 = oI (upN (I 77 4)) ∧ ∀ u, upN (I 77 4) = some u → u < (wdI A I).2.2.2 := by
    have h := now_of hv
    exact h
  have hG : iG r I := by
    obtain ⟨c1, c2, c3, c4⟩ := hv.2.2.2.2.2.2.1
    refine ⟨c1, c2, c3, fun p hp => ?_⟩
    have h := c4 p hp
    rw [up1_ne (show 111 + 3 * p ≠ 1 by omega), up1_ne (show 112 + 3 * p ≠ 1 by omega), up1_ne (show 113 + 3 * p ≠ 1 by omega)] at h
    exact h
  have hr1 := rwl_of hv
  have hW0 : rwl (wdI A I) (fI I) I := ⟨rH_c (I := up1 I 1 s0) rfl rfl rfl rfl rfl rfl rfl rfl hr1.1, hr1.2.1, hr1.2.2.1, hr1.2.2.2⟩
  have hRR : rrl (rlI I k) k I := by
    have h := (rul_of hv hk).2.2
    exact h
  have hy3 : 0 ≤ nI y ∧ nI y ≤ 3 := by
    have : ∀ y : Fin 4, 0 ≤ nI y.val ∧ nI y.val ≤ 3 := by decide
    exact this ⟨y, hy⟩
  obtain ⟨n1, n2, n3, n4, n5, n6⟩ := id hN
  obtain ⟨u1, u2⟩ := id hU
  have hc6 := hW0.2.1
  have hcn : I 77 0 = nI (wdI A I).2.2.2 := hW0.2.2.1
  refine gor1W hN hU hG hW0 hRR hk hy h99 hm (fun c c2 hc => ?_)
  have hW : rwl (wdI A I) (fI I) (asH I c) := ⟨rH_c (I := I) rfl rfl rfl rfl rfl rfl rfl rfl hW0.1, hW0.2.1, hW0.2.2.1, hW0.2.2.2⟩
  have hfit := pkW_fit (W := wdI A I) (R := rlI I k) (S := scI I) (h := (I 77 6).toNatClampNeg) (now := upN (I 77 4)) (w := (I 77 5).toNatClampNeg) (fit := bt (I 77 1))
  refine go_v (cd := cd139) [] 20 rfl ?_
  refine go_callv (cd := cd139) rfl rfl rfl rfl rfl (lv3 rfl) rfl (cl_rmiles (p := (pkW (wdI A I) (rlI I k) (scI I) (I 77 6).toNatClampNeg (upN (I 77 4)) (I 77 5).toNatClampNeg (bt (I 77 1)))) (now := upN (I 77 4)) (w := (I 77 5).toNatClampNeg) (h := (I 77 6).toNatClampNeg) hW rfl u1 n1 n3 n2 (by omega) (fun u hu => by have := u2 u hu; omega) (fun u hu => by have := (hfit u hu).1; omega) c2 (fun c5 => ⟨rfl, ?_⟩))
  have hvB : aInv r A (up1 (up1 (asH I c) 89 c5) 1 s0) J := by
    refine inv_rel hv ⟨fun j hj => ?_, fun q a1 a2 a3 a4 a5 a6 a7 a8 => ?_, fun _ _ => ⟨rfl, rfl⟩, fun _ _ => rfl, rfl, rfl, fun h => h⟩ (fun _ _ => rfl) (iX_c (I := up1 I 1 s0) rfl rfl rfl rfl hv.2.2.2.2.2.2.2.2.2.2.2.2)
    · by_cases h1 : j = 1
      · subst h1; rw [up1_e, up1_e]
      · rw [up1_ne h1, up1_ne h1, up1_ne (by omega)]
        show up1 _ 90 c j = _
        rw [up1_ne (by omega), up2_ne (by omega), up2_ne (by omega)]
    · show up2 (up2 I 77 34 (I 77 2)) 77 35 (I 77 3) 77 q = I 77 q
      rw [up2_42 a7, up2_42 a6]
  refine go_v (cd := cd139) [144] 20 rfl ?_
  refine go_sb ?_ (l' := (6, .int (iZ (mlW (wdI A I) (I 77 6).toNatClampNeg (upN (I 77 4)) (I 77 5).toNatClampNeg (pkW (wdI A I) (rlI I k) (scI I) (I 77 6).toNatClampNeg (upN (I 77 4)) (I 77 5).toNatClampNeg (bt (I 77 1)))))) :: [(5, .int (nI (trW (wdI A I) (I 77 6).toNatClampNeg (I 77 5).toNatClampNeg (pkW (wdI A I) (rlI I k) (scI I) (I 77 6).toNatClampNeg (upN (I 77 4)) (I 77 5).toNatClampNeg (bt (I 77 1)))))), (4, .int (oI (pkW (wdI A I) (rlI I k) (scI I) (I 77 6).toNatClampNeg (upN (I 77 4)) (I 77 5).toNatClampNeg (bt (I 77 1))))), (0, .ref 77), (1, .int (nI k)), (2, .int t), (3, .int (nI y))]) ⟨rfl, rfl, rfl, rfl, rfl, rfl, rfl, trivial⟩ rfl rfl rfl
  refine go_v (cd := cd139) [] 20 rfl ?_
  by_cases ht : t = 0
  · refine go_st (cd := cd139) 1 rfl (go_ifT ht ?_)
    refine go_v (cd := cd139) [] 20 rfl ?_
    refine go_st (cd := cd139) 1 rfl (go_ifT ht ?_)
    refine go_v (cd := cd139) [] 40 rfl ?_
    refine go_ireturn (cd := cd139) rfl ⟨rfl, rfl, aIn_of (inv_sc (I := up1 (up1 (asH I c) 89 c5) 1 s0) hvB (fun j a b => ?_) (fun q a b e f g => ?_) (fun q hq => ?_) ?_ ?_ ?_ ?_ ?_ ?_ ?_ ?_ ?_) rr⟩
    · show (up2 (up2 (up2 (up2 (up2 (up1 (asH I c) 89 c5) 77 7 _) 77 4 _) 77 1 _) 77 5 _) 77 6 _) j = _
      rw [up2_ne b, up2_ne b, up2_ne b, up2_ne b, up2_ne b, up1_ne a]
    · show (up2 (up2 (up2 (up2 (up2 (up1 (asH I c) 89 c5) 77 7 _) 77 4 _) 77 1 _) 77 5 _) 77 6 _) 77 q = _
      rw [up2_42 f, up2_42 e, up2_42 a, up2_42 b, up2_42 g]; rfl
    · exact qo q hq
    · show I 1 0 = _
      rw [q0, if_pos ht]; rfl
    · exact q1
    · exact q2
    · exact q3
    · show I 1 6 = _
      rw [q6, if_pos ht]; rfl
    · show -1 ≤ oI (pkW (wdI A I) (rlI I k) (scI I) (I 77 6).toNatClampNeg (upN (I 77 4)) (I 77 5).toNatClampNeg (bt (I 77 1))) ∧ oI (pkW (wdI A I) (rlI I k) (scI I) (I 77 6).toNatClampNeg (upN (I 77 4)) (I 77 5).toNatClampNeg (bt (I 77 1))) < I 77 0
      cases hp : (pkW (wdI A I) (rlI I k) (scI I) (I 77 6).toNatClampNeg (upN (I 77 4)) (I 77 5).toNatClampNeg (bt (I 77 1))) with
      | none => exact ⟨by decide, by show (-1 : Int32) < I 77 0; have := hv.2.1.1; have h0 : 0 ≤ I 77 0 := hv.2.1.1; grind⟩
      | some s =>
        have hs := (hfit s hp).1
        refine ⟨?_, by rw [hcn]; exact nI_lt hs (by omega)⟩
        have h0 : (0 : Int32) ≤ nI s := nI_pos' (by omega)
        show -1 ≤ nI s
        grind
    · exact hy3
    · show 0 ≤ I 77 6 + 1 ∧ I 77 6 + 1 ≤ 99
      have h0 : 0 ≤ I 77 6 := hv.2.1.2.2.2.2.2.2.1
      grind
    · intro h0
      show bt (I 77 1) (oI (pkW (wdI A I) (rlI I k) (scI I) (I 77 6).toNatClampNeg (upN (I 77 4)) (I 77 5).toNatClampNeg (bt (I 77 1)))).toNatClampNeg = true ∧ bt (I 77 2) (oI (pkW (wdI A I) (rlI I k) (scI I) (I 77 6).toNatClampNeg (upN (I 77 4)) (I 77 5).toNatClampNeg (bt (I 77 1)))).toNatClampNeg = true
      cases hp : (pkW (wdI A I) (rlI I k) (scI I) (I 77 6).toNatClampNeg (upN (I 77 4)) (I 77 5).toNatClampNeg (bt (I 77 1))) with
      | none =>
        have h1 : (0 : Int32) ≤ oI (pkW (wdI A I) (rlI I k) (scI I) (I 77 6).toNatClampNeg (upN (I 77 4)) (I 77 5).toNatClampNeg (bt (I 77 1))) := h0
        rw [hp] at h1
        exact absurd h1 (by decide)
      | some s =>
        have hs := hfit s hp
        show bt (I 77 1) (nI s).toNatClampNeg = true ∧ bt (I 77 2) (nI s).toNatClampNeg = true
        rw [nI_clamp (by omega)]
        exact hs.2
  · refine go_st (cd := cd139) 1 rfl (go_ifF ht ?_)
    refine go_v (cd := cd139) [] 20 rfl ?_
    refine go_st (cd := cd139) 1 rfl (go_ifF ht ?_)
    refine go_v (cd := cd139) [] 40 rfl ?_
    refine go_ireturn (cd := cd139) rfl ⟨rfl, rfl, aIn_of (inv_sc (I := up1 (up1 (asH I c) 89 c5) 1 s0) hvB (fun j a b => ?_) (fun q a b e f g => ?_) (fun q hq => ?_) ?_ ?_ ?_ ?_ ?_ ?_ ?_ ?_ ?_) rr⟩
    · show (up2 (up2 (up2 (up2 (up2 (up1 (asH I c) 89 c5) 77 7 _) 77 4 _) 77 1 _) 77 5 _) 77 6 _) j = _
      rw [up2_ne b, up2_ne b, up2_ne b, up2_ne b, up2_ne b, up1_ne a]
    · show (up2 (up2 (up2 (up2 (up2 (up1 (asH I c) 89 c5) 77 7 _) 77 4 _) 77 1 _) 77 5 _) 77 6 _) 77 q = _
      rw [up2_42 f, up2_42 e, up2_42 a, up2_42 b, up2_42 g]; rfl
    · exact qo q hq
    · show I 1 0 = _
      rw [q0, if_neg ht]; rfl
    · exact q1
    · exact q2
    · exact q3
    · show I 1 6 = _
      rw [q6, if_neg ht]; rfl
    · show -1 ≤ (-1 : Int32) ∧ (-1 : Int32) < I 77 0
      have h0 : 0 ≤ I 77 0 := hv.2.1.1
      exact ⟨by decide, by grind⟩
    · exact hy3
    · show 0 ≤ I 77 6 + 1 ∧ I 77 6 + 1 ≤ 99
      have h0 : 0 ≤ I 77 6 := hv.2.1.2.2.2.2.2.2.1
      grind
    · intro h0
      exact absurd (show (0 : Int32) ≤ -1 from h0) (by decide)
end GO
