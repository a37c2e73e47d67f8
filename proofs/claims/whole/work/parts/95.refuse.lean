theorem fol_le (A : List Cl) {a b : Nat} (ha : a < 4) (hb : b < 4) : folA A a b ≤ 10 := by
  have h := fol_ten A ha
  have h4 : b = 0 ∨ b = 1 ∨ b = 2 ∨ b = 3 := by omega
  rcases h4 with rfl | rfl | rfl | rfl <;> omega
theorem nI_z {m : Nat} (h : m < 1000000) : nI m = 0 ↔ m = 0 := by
  constructor
  · intro e
    have h1 := congrArg Int32.toNatClampNeg e
    rw [nI_clamp (by omega)] at h1
    exact h1
  · rintro rfl; rfl
theorem nI_c {m : Nat} (h : m < 1000000) : nI m = 100 ↔ m = 100 := by
  constructor
  · intro e
    have h1 := congrArg Int32.toNatClampNeg e
    rw [nI_clamp (by omega)] at h1
    exact h1
  · rintro rfl; rfl
section GO
variable {L : Nat} {xs : Nat → Int32} {fv : Value} {d : Nat} {r : Nat} {rr : Option Nat} {I : Nat → Nat → Int32} {J : Nat → Nat → Int64} {P : Option Value → aH → Prop}
variable {A : Nat → List Cl}
theorem gor1 {k y : Nat} {t : Int32} (hv : aInv r A I J) (hk : k < r) (hy : y < 4) (h99 : I 77 6 < 99) (hm : ((if t = 0 then 100 - (trW (wdI A I) (I 77 6).toNatClampNeg (I 77 5).toNatClampNeg (pkW (wdI A I) (rlI I k) (scI I) (I 77 6).toNatClampNeg (upN (I 77 4)) (I 77 5).toNatClampNeg (bt (I 77 1)))) else (trW (wdI A I) (I 77 6).toNatClampNeg (I 77 5).toNatClampNeg (pkW (wdI A I) (rlI I k) (scI I) (I 77 6).toNatClampNeg (upN (I 77 4)) (I 77 5).toNatClampNeg (bt (I 77 1))))) * folA (hol A I) (I 77 5).toNatClampNeg y) ≠ 0)
    (K : ∀ c c2, (∀ a b, a < 4 → b < 4 → c (4 * a + b) = nI (folA (hol A I) a b)) → aTo L xs fv 111 (d + 8) cd139 (113, [(5, .int (nI (trW (wdI A I) (I 77 6).toNatClampNeg (I 77 5).toNatClampNeg (pkW (wdI A I) (rlI I k) (scI I) (I 77 6).toNatClampNeg (upN (I 77 4)) (I 77 5).toNatClampNeg (bt (I 77 1)))))), (4, .int (oI (pkW (wdI A I) (rlI I k) (scI I) (I 77 6).toNatClampNeg (upN (I 77 4)) (I 77 5).toNatClampNeg (bt (I 77 1))))), (0, .ref 77), (1, .int (nI k)), (2, .int t), (3, .int (nI y))], [], aHp r rr (up1 (asH I c) 89 c2) J) P) : aCl L xs fv 111 (d + 9) 139 [.ref 77, .int (nI k), .int t, .int (nI y)] (aHp r rr I J) P := by
  obtain ⟨n1, n2, n3, n4, n5, n6⟩ := nums_of hv
  have r7 := hv.2.1.2.2.2.2.2.2.2.1
  have htr := trW_le (wdI A I) (I 77 6).toNatClampNeg (I 77 5).toNatClampNeg (pkW (wdI A I) (rlI I k) (scI I) (I 77 6).toNatClampNeg (upN (I 77 4)) (I 77 5).toNatClampNeg (bt (I 77 1)))
  have hf10 := fol_le (hol A I) n2 hy
  have hix2 : 4 * I 77 5 + nI y = nI (4 * (I 77 5).toNatClampNeg + y) := by
    rw [n1, show (4 : Int32) = nI 4 from rfl, nI_mul, nI_add, ← n1]
  refine gor hv hk hy (fun c c2 hc => ?_)
  have K' := K c c2 hc
  generalize (trW (wdI A I) (I 77 6).toNatClampNeg (I 77 5).toNatClampNeg (pkW (wdI A I) (rlI I k) (scI I) (I 77 6).toNatClampNeg (upN (I 77 4)) (I 77 5).toNatClampNeg (bt (I 77 1)))) = tr at *
  have hfol : folA (hol A I) (I 77 5).toNatClampNeg y ≠ 0 := fun h => hm (by rw [h, Nat.mul_zero])
  have hpt : (if t = 0 then 100 - tr else tr) ≠ 0 := fun h => hm (by rw [h, Nat.zero_mul])
  refine go_v (cd := cd139) [] 20 rfl ?_
  refine go_st (cd := cd139) 1 rfl (go_ifF (by show ¬ I 77 6 = 99; grind) ?_)
  refine go_v (cd := cd139) [] 20 rfl ?_
  rw [show ((111 + 3 * r, up1 (asH I c) 89 c2, J, aRf r rr) : aH).2.1 77 5 = I 77 5 from rfl, hix2]
  refine go_iald (cd := cd139) rfl (nI_vin (n := 16) (by omega) (by decide)) (lv3 rfl) rfl ?_
  rw [nI_clamp (by omega), show up1 (asH I c) 89 c2 90 (4 * (I 77 5).toNatClampNeg + y) = nI (folA (hol A I) (I 77 5).toNatClampNeg y) from hc _ y n2 hy]
  refine go_st (cd := cd139) 1 rfl (go_ifF (fun h => hfol ((nI_z (by omega)).mp h)) ?_)
  refine go_v (cd := cd139) [] 20 rfl ?_
  by_cases ht : t = 0
  · rw [if_pos ht] at hpt
    refine go_st (cd := cd139) 1 rfl (go_ifT ht ?_)
    refine go_v (cd := cd139) [] 20 rfl ?_
    refine go_st (cd := cd139) 1 rfl (go_ifT ht ?_)
    refine go_v (cd := cd139) [] 20 rfl ?_
    exact go_st (cd := cd139) 1 rfl (go_ifF (fun h => hpt (by have := (nI_c (by omega)).mp h; omega)) K')
  · rw [if_neg ht] at hpt
    refine go_st (cd := cd139) 1 rfl (go_ifF ht ?_)
    refine go_v (cd := cd139) [] 20 rfl ?_
    refine go_st (cd := cd139) 1 rfl (go_ifF (fun h => hpt ((nI_z (by omega)).mp h)) ?_)
    refine go_v (cd := cd139) [] 20 rfl ?_
    exact go_st (cd := cd139) 1 rfl (go_ifF ht K')
theorem gor0 {k y : Nat} {t : Int32} (hv : aInv r A I J) (hk : k < r) (hy : y < 4) (h : ¬ I 77 6 < 99 ∨ ((if t = 0 then 100 - (trW (wdI A I) (I 77 6).toNatClampNeg (I 77 5).toNatClampNeg (pkW (wdI A I) (rlI I k) (scI I) (I 77 6).toNatClampNeg (upN (I 77 4)) (I 77 5).toNatClampNeg (bt (I 77 1)))) else (trW (wdI A I) (I 77 6).toNatClampNeg (I 77 5).toNatClampNeg (pkW (wdI A I) (rlI I k) (scI I) (I 77 6).toNatClampNeg (upN (I 77 4)) (I 77 5).toNatClampNeg (bt (I 77 1))))) * folA (hol A I) (I 77 5).toNatClampNeg y) = 0) : aCl L xs fv 111 (d + 9) 139 [.ref 77, .int (nI k), .int t, .int (nI y)] (aHp r rr I J) (fun rv2 h2 => h2.1 = 111 + 3 * r ∧ rv2 = some (.int (-1002)) ∧ aIn h2) := by
  obtain ⟨n1, n2, n3, n4, n5, n6⟩ := nums_of hv
  have r7 := hv.2.1.2.2.2.2.2.2.2.1
  have htr := trW_le (wdI A I) (I 77 6).toNatClampNeg (I 77 5).toNatClampNeg (pkW (wdI A I) (rlI I k) (scI I) (I 77 6).toNatClampNeg (upN (I 77 4)) (I 77 5).toNatClampNeg (bt (I 77 1)))
  have hf10 := fol_le (hol A I) n2 hy
  have hix2 : 4 * I 77 5 + nI y = nI (4 * (I 77 5).toNatClampNeg + y) := by
    rw [n1, show (4 : Int32) = nI 4 from rfl, nI_mul, nI_add, ← n1]
  refine gor hv hk hy (fun c c2 hc => ?_)
  have hd := as_done (rr := rr) (c := c) (c2 := c2) hv
  generalize (trW (wdI A I) (I 77 6).toNatClampNeg (I 77 5).toNatClampNeg (pkW (wdI A I) (rlI I k) (scI I) (I 77 6).toNatClampNeg (upN (I 77 4)) (I 77 5).toNatClampNeg (bt (I 77 1)))) = tr at *
  have h109 : ∀ ls, ls = ([(5, .int (nI tr)), (4, .int (oI (pkW (wdI A I) (rlI I k) (scI I) (I 77 6).toNatClampNeg (upN (I 77 4)) (I 77 5).toNatClampNeg (bt (I 77 1))))), (0, .ref 77), (1, .int (nI k)), (2, .int t), (3, .int (nI y))] : aL) → aTo L xs fv 111 (d + 8) cd139 (109, ls, [], aHp r rr (up1 (asH I c) 89 c2) J) (fun rv2 h2 => h2.1 = 111 + 3 * r ∧ rv2 = some (.int (-1002)) ∧ aIn h2) := fun ls hls => by
    subst hls
    refine go_v (cd := cd139) [] 20 rfl ?_
    exact go_ireturn (cd := cd139) rfl ⟨rfl, rfl, hd⟩
  refine go_v (cd := cd139) [] 20 rfl ?_
  by_cases h99 : I 77 6 = 99
  · exact go_st (cd := cd139) 1 rfl (go_ifT h99 (h109 _ rfl))
  refine go_st (cd := cd139) 1 rfl (go_ifF h99 ?_)
  have hm : (if t = 0 then 100 - tr else tr) * folA (hol A I) (I 77 5).toNatClampNeg y = 0 := by
    rcases h with h | h
    · exfalso; grind
    · exact h
  refine go_v (cd := cd139) [] 20 rfl ?_
  rw [show ((111 + 3 * r, up1 (asH I c) 89 c2, J, aRf r rr) : aH).2.1 77 5 = I 77 5 from rfl, hix2]
  refine go_iald (cd := cd139) rfl (nI_vin (n := 16) (by omega) (by decide)) (lv3 rfl) rfl ?_
  rw [nI_clamp (by omega), show up1 (asH I c) 89 c2 90 (4 * (I 77 5).toNatClampNeg + y) = nI (folA (hol A I) (I 77 5).toNatClampNeg y) from hc _ y n2 hy]
  by_cases hf : folA (hol A I) (I 77 5).toNatClampNeg y = 0
  · exact go_st (cd := cd139) 1 rfl (go_ifT ((nI_z (by omega)).mpr hf) (h109 _ rfl))
  refine go_st (cd := cd139) 1 rfl (go_ifF (fun h => hf ((nI_z (by omega)).mp h)) ?_)
  have hpt : (if t = 0 then 100 - tr else tr) = 0 := (Nat.mul_eq_zero.mp hm).resolve_right hf
  refine go_v (cd := cd139) [] 20 rfl ?_
  by_cases ht : t = 0
  · rw [if_pos ht] at hpt
    refine go_st (cd := cd139) 1 rfl (go_ifT ht ?_)
    refine go_v (cd := cd139) [] 20 rfl ?_
    refine go_st (cd := cd139) 1 rfl (go_ifT ht ?_)
    refine go_v (cd := cd139) [] 20 rfl ?_
    exact go_st (cd := cd139) 1 rfl (go_ifT ((nI_c (by omega)).mpr (by omega)) (h109 _ rfl))
  · rw [if_neg ht] at hpt
    refine go_st (cd := cd139) 1 rfl (go_ifF ht ?_)
    refine go_v (cd := cd139) [] 20 rfl ?_
    exact go_st (cd := cd139) 1 rfl (go_ifT ((nI_z (by omega)).mpr hpt) (h109 _ rfl))
end GO
