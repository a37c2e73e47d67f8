section GO
variable {L : Nat} {xs : Nat → Int32} {fv : Value} {d : Nat} {r : Nat} {rr : Option Nat} {I : Nat → Nat → Int32} {J : Nat → Nat → Int64} {P : Option Value → aH → Prop}
variable {A : Nat → List Cl}
theorem spA_tr {A : List Cl} {W : Wd} (hA : A = W.1) {o : Option Nat} {w h : Nat} : spA A W.2.1 1 o w h = trW W h w o := by
  subst hA
  cases o <;> rfl
/-- the reference's one hour, up to its refusals -/
theorem gor {k y : Nat} {t : Int32} (hv : aInv r A I J) (hk : k < r) (hy : y < 4)
    (K : ∀ c c2, (∀ a b, a < 4 → b < 4 → c (4 * a + b) = nI (folA (hol A I) a b)) → aTo L xs fv 111 (d + 8) cd139 (64, [(5, .int (nI (trW (wdI A I) (I 77 6).toNatClampNeg (I 77 5).toNatClampNeg (pkW (wdI A I) (rlI I k) (scI I) (I 77 6).toNatClampNeg (upN (I 77 4)) (I 77 5).toNatClampNeg (bt (I 77 1)))))), (4, .int (oI (pkW (wdI A I) (rlI I k) (scI I) (I 77 6).toNatClampNeg (upN (I 77 4)) (I 77 5).toNatClampNeg (bt (I 77 1))))), (0, .ref 77), (1, .int (nI k)), (2, .int t), (3, .int (nI y))], [], aHp r rr (up1 (asH I c) 89 c2) J) P) : aCl L xs fv 111 (d + 9) 139 [.ref 77, .int (nI k), .int t, .int (nI y)] (aHp r rr I J) P := by
  obtain ⟨n1, n2, n3, n4, n5, n6⟩ := nums_of hv
  obtain ⟨u1, u2⟩ := now_of hv
  have hyw : 0 ≤ nI y ∧ nI y ≤ 3 := by
    have : ∀ y : Fin 4, 0 ≤ nI y.val ∧ nI y.val ≤ 3 := by decide
    exact this ⟨y, hy⟩
  refine cl_of rfl (Nat.le_add_right _ _) ?_
  refine go_v (cd := cd139) [] 9 rfl ?_
  refine go_callv (cd := cd139) rfl rfl rfl rfl rfl (lv3 rfl) rfl (cl_isRuleT hv.2.2.2.2.2.2.1 hk ⟨rfl, ?_⟩)
  refine go_st (cd := cd139) 1 rfl (go_ifF (by decide) ?_)
  refine go_v (cd := cd139) [] 9 rfl ?_
  refine go_callv (cd := cd139) rfl rfl rfl rfl rfl (lv3 rfl) rfl (cl_misWind (fun _ => ⟨rfl, ?_⟩) (fun hx => absurd hyw hx))
  refine go_st (cd := cd139) 1 rfl (go_ifF (by decide) ?_)
  refine go_v (cd := cd139) [] 9 rfl ?_
  refine go_callv (cd := cd139) rfl rfl rfl rfl rfl (lv3 rfl) rfl (cl_asIs (F := fI I) (A := hol A I) (rwl_of hv).1 (fun c hc => ⟨rfl, ?_⟩))
  refine go_v (cd := cd139) [] 20 rfl ?_
  refine go_callv (cd := cd139) rfl rfl rfl rfl rfl (lv3 rfl) rfl (cl_pickR hv hk (fun c2 => ⟨rfl, ?_⟩))
  refine go_v (cd := cd139) [] 20 rfl ?_
  have hW := as_rwl hv (c := c)
  refine go_callv (cd := cd139) rfl rfl rfl rfl rfl (lv3 rfl) rfl (cl_rsum (z := 1) (w := (I 77 5).toNatClampNeg) (h := (I 77 6).toNatClampNeg) (o := (pkW (wdI A I) (rlI I k) (scI I) (I 77 6).toNatClampNeg (upN (I 77 4)) (I 77 5).toNatClampNeg (bt (I 77 1)))) (wt := (wdI A I).2.1) hW.1 rfl rfl n1 n3 (by decide) (fun s hs => by have := pkW_lt s hs; have := hW.2.1; omega) n2 (by omega) (fun s hs => ⟨(hW.2.2.2 s hs).1, (hW.2.2.2 s hs).2.1⟩) c2 (fun c3 => ⟨rfl, ?_⟩))
  rw [spA_tr rfl]
  refine go_v (cd := cd139) [64] 20 rfl ?_
  refine go_sb ?_ (l' := [(5, .int (nI (trW (wdI A I) (I 77 6).toNatClampNeg (I 77 5).toNatClampNeg (pkW (wdI A I) (rlI I k) (scI I) (I 77 6).toNatClampNeg (upN (I 77 4)) (I 77 5).toNatClampNeg (bt (I 77 1)))))), (4, .int (oI (pkW (wdI A I) (rlI I k) (scI I) (I 77 6).toNatClampNeg (upN (I 77 4)) (I 77 5).toNatClampNeg (bt (I 77 1))))), (0, .ref 77), (1, .int (nI k)), (2, .int t), (3, .int (nI y))]) ⟨rfl, rfl, rfl, rfl, rfl, rfl, trivial⟩ rfl rfl rfl
  exact K c c3 hc
/-- the class's one hour, up to what its odds say -/
theorem goc {k y : Nat} {t : Int32} (hv : aInv r A I J) (hk : k < r) (hy : y < 4)
    (K : ∀ c, iX A (up1 I 19 c) → aTo L xs fv 111 (d + 8) cd44 (110, [(7, .int (nI ((if t = 0 then 100 - (trW (wdI A I) (I 77 6).toNatClampNeg (I 77 5).toNatClampNeg (pkW (wdI A I) (rlI I k) (scI I) (I 77 6).toNatClampNeg (upN (I 77 4)) (I 77 5).toNatClampNeg (bt (I 77 1)))) else (trW (wdI A I) (I 77 6).toNatClampNeg (I 77 5).toNatClampNeg (pkW (wdI A I) (rlI I k) (scI I) (I 77 6).toNatClampNeg (upN (I 77 4)) (I 77 5).toNatClampNeg (bt (I 77 1))))) * folA (hol A I) (I 77 5).toNatClampNeg y))), (6, .int (nI (trW (wdI A I) (I 77 6).toNatClampNeg (I 77 5).toNatClampNeg (pkW (wdI A I) (rlI I k) (scI I) (I 77 6).toNatClampNeg (upN (I 77 4)) (I 77 5).toNatClampNeg (bt (I 77 1)))))), (5, .int (oI (pkW (wdI A I) (rlI I k) (scI I) (I 77 6).toNatClampNeg (upN (I 77 4)) (I 77 5).toNatClampNeg (bt (I 77 1))))), (4, .ref (111 + 3 * k)), (0, .ref 0), (1, .int (nI k)), (2, .int t), (3, .int (nI y))], [], aHp r rr (up1 I 19 c) J) P) : aTo L xs fv 111 (d + 8) cd44 (39, [(4, .ref (111 + 3 * k)), (0, .ref 0), (1, .int (nI k)), (2, .int t), (3, .int (nI y))], [], aHp r rr I J) P := by
  obtain ⟨n1, n2, n3, n4, n5, n6⟩ := nums_of hv
  obtain ⟨u1, u2⟩ := now_of hv
  obtain ⟨s0, s1, s2, s3, s4, s5, s6, s7, s8, s9⟩ := hv.1
  have hwf := (wld_of hv).2.2.2.2.1
  refine go_v (cd := cd44) [] 9 rfl ?_
  refine go_callv (cd := cd44) rfl rfl rfl rfl rfl (lv3 rfl) rfl (cl_pickX hv hk (fun c hv1 => ⟨rfl, ?_⟩))
  refine go_v (cd := cd44) [] 20 rfl ?_
  refine go_callv (cd := cd44) rfl rfl rfl rfl rfl (lv3 rfl) rfl (cl_pace (z := 1) (w := (I 77 5).toNatClampNeg) (h := (I 77 6).toNatClampNeg) (o := (pkW (wdI A I) (rlI I k) (scI I) (I 77 6).toNatClampNeg (upN (I 77 4)) (I 77 5).toNatClampNeg (bt (I 77 1)))) (wld_of hv) rfl rfl (s1.trans n1) (s2.trans n3) (by decide) (fun s hs => pkW_lt s hs) n2 (by omega) c hv1.2.2.2.2.2.2.2.2.2.2.2.2 (fun c2 hX => ⟨rfl, ?_⟩))
  rw [show spO (fun s => SPw (wdI A I) 1 s (I 77 5).toNatClampNeg (I 77 6).toNatClampNeg) (pkW (wdI A I) (rlI I k) (scI I) (I 77 6).toNatClampNeg (upN (I 77 4)) (I 77 5).toNatClampNeg (bt (I 77 1))) = (trW (wdI A I) (I 77 6).toNatClampNeg (I 77 5).toNatClampNeg (pkW (wdI A I) (rlI I k) (scI I) (I 77 6).toNatClampNeg (upN (I 77 4)) (I 77 5).toNatClampNeg (bt (I 77 1)))) from rfl]
  obtain ⟨hB1, hB2, hB3⟩ := hbR_ok (wld_of hv)
  have htr := trW_le (wdI A I) (I 77 6).toNatClampNeg (I 77 5).toNatClampNeg (pkW (wdI A I) (rlI I k) (scI I) (I 77 6).toNatClampNeg (upN (I 77 4)) (I 77 5).toNatClampNeg (bt (I 77 1)))
  have h88 : ∀ X : Nat, X = (if t = 0 then 100 - (trW (wdI A I) (I 77 6).toNatClampNeg (I 77 5).toNatClampNeg (pkW (wdI A I) (rlI I k) (scI I) (I 77 6).toNatClampNeg (upN (I 77 4)) (I 77 5).toNatClampNeg (bt (I 77 1)))) else (trW (wdI A I) (I 77 6).toNatClampNeg (I 77 5).toNatClampNeg (pkW (wdI A I) (rlI I k) (scI I) (I 77 6).toNatClampNeg (upN (I 77 4)) (I 77 5).toNatClampNeg (bt (I 77 1))))) → aTo L xs fv 111 (d + 8) cd44 (88, [(6, .int (nI (trW (wdI A I) (I 77 6).toNatClampNeg (I 77 5).toNatClampNeg (pkW (wdI A I) (rlI I k) (scI I) (I 77 6).toNatClampNeg (upN (I 77 4)) (I 77 5).toNatClampNeg (bt (I 77 1)))))), (5, .int (oI (pkW (wdI A I) (rlI I k) (scI I) (I 77 6).toNatClampNeg (upN (I 77 4)) (I 77 5).toNatClampNeg (bt (I 77 1))))), (4, .ref (111 + 3 * k)), (0, .ref 0), (1, .int (nI k)), (2, .int t), (3, .int (nI y))], [.int (nI X)], aHp r rr (up1 I 19 c2) J) P := fun X hX0 => by
    refine go_v (cd := cd44) [] 9 rfl ?_
    refine go_callv (cd := cd44) rfl rfl rfl rfl rfl (lv3 rfl) rfl (cl_holding (wld_19 (wld_of hv)) ⟨rfl, ?_⟩)
    rw [show up1 I 19 c2 77 = I 77 from rfl]
    refine go_getR (cd := cd44) rfl (isB_lt hB1) (isB_k hB1) (isB_R hB1).2.2.2.2.2 ?_
    refine go_v (cd := cd44) [] 20 rfl ?_
    have hix : I 1 1 * 4 + nI y = nI (4 * (I 77 5).toNatClampNeg + y) := by
      rw [s1.trans n1, show (4 : Int32) = nI 4 from rfl, nI_mul, nI_add]; congr 1; omega
    rw [show ((111 + 3 * r, up1 I 19 c2, J, aRf r rr) : aH).2.1 1 1 = I 1 1 from rfl, hix]
    refine go_iald (cd := cd44) rfl (isB_i6 hB1 (by omega)) (isB_lt7 hB1 (by decide)) (isB_k1 hB1).2.2.2.2.2 ?_
    rw [nI_clamp (by omega), up1_ne (isB_19 hB1 (by decide)), hB3.2 _ y n2 hy]
    refine go_v (cd := cd44) [110] 20 rfl ?_
    rw [nI_mul, hX0]
    refine go_sb ?_ (l' := [(7, .int (nI ((if t = 0 then 100 - (trW (wdI A I) (I 77 6).toNatClampNeg (I 77 5).toNatClampNeg (pkW (wdI A I) (rlI I k) (scI I) (I 77 6).toNatClampNeg (upN (I 77 4)) (I 77 5).toNatClampNeg (bt (I 77 1)))) else (trW (wdI A I) (I 77 6).toNatClampNeg (I 77 5).toNatClampNeg (pkW (wdI A I) (rlI I k) (scI I) (I 77 6).toNatClampNeg (upN (I 77 4)) (I 77 5).toNatClampNeg (bt (I 77 1))))) * folA (hol A I) (I 77 5).toNatClampNeg y))), (6, .int (nI (trW (wdI A I) (I 77 6).toNatClampNeg (I 77 5).toNatClampNeg (pkW (wdI A I) (rlI I k) (scI I) (I 77 6).toNatClampNeg (upN (I 77 4)) (I 77 5).toNatClampNeg (bt (I 77 1)))))), (5, .int (oI (pkW (wdI A I) (rlI I k) (scI I) (I 77 6).toNatClampNeg (upN (I 77 4)) (I 77 5).toNatClampNeg (bt (I 77 1))))), (4, .ref (111 + 3 * k)), (0, .ref 0), (1, .int (nI k)), (2, .int t), (3, .int (nI y))]) ⟨rfl, rfl, rfl, rfl, rfl, rfl, rfl, rfl, trivial⟩ rfl rfl rfl
    exact K c2 hX
  refine go_v (cd := cd44) [] 20 rfl ?_
  refine go_sb ?_ (l' := [(6, .int (nI (trW (wdI A I) (I 77 6).toNatClampNeg (I 77 5).toNatClampNeg (pkW (wdI A I) (rlI I k) (scI I) (I 77 6).toNatClampNeg (upN (I 77 4)) (I 77 5).toNatClampNeg (bt (I 77 1)))))), (5, .int (oI (pkW (wdI A I) (rlI I k) (scI I) (I 77 6).toNatClampNeg (upN (I 77 4)) (I 77 5).toNatClampNeg (bt (I 77 1))))), (4, .ref (111 + 3 * k)), (0, .ref 0), (1, .int (nI k)), (2, .int t), (3, .int (nI y))]) ⟨rfl, rfl, rfl, rfl, rfl, rfl, rfl, trivial⟩ rfl rfl rfl
  by_cases ht : t = 0
  · refine go_st (cd := cd44) 1 rfl (go_ifT ht ?_)
    refine go_v (cd := cd44) [88] 9 rfl ?_
    rw [show (100 : Int32) = nI 100 from rfl, nI_sub htr]
    exact h88 _ (by rw [if_pos ht])
  · refine go_st (cd := cd44) 1 rfl (go_ifF ht ?_)
    refine go_v (cd := cd44) [88] 9 rfl ?_
    exact h88 _ (by rw [if_neg ht])
end GO
