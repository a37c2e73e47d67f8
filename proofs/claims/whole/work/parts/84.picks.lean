/-! picks, speed, follows -/
section PP
variable {L : Nat} {xs : Nat → Int32} {fv : Value} {d : Nat} {r : Nat} {rr : Option Nat} {I : Nat → Nat → Int32} {J : Nat → Nat → Int64} {P : Option Value → aH → Prop}
variable {A : Nat → List Cl}
def shO : Option Nat → Int32
  | none => -5
  | some s => nI s
/-- the class's choice now, as a call asks for it -/
theorem cl_pickX {k : Nat} (hv : aInv r A I J) (hk : k < r) (K : ∀ c, aInv r A (up1 I 19 c) J → P (some (.int (oI (pkW (wdI A I) (rlI I k) (scI I) (I 77 6).toNatClampNeg (upN (I 77 4)) (I 77 5).toNatClampNeg (bt (I 77 1)))))) (aHp r rr (up1 I 19 c) J)) : aCl L xs fv 111 (d + 4) 79 [.ref 0, .ref (111 + 3 * k), .ref 1] (aHp r rr I J) P := by
  obtain ⟨hb, hR, -⟩ := rul_of hv hk
  have hX := hv.2.2.2.2.2.2.2.2.2.2.2.2
  have hI : up1 I 19 (I 19) = I := up1_id
  have h := cl_choice1 (L := L) (xs := xs) (fv := fv) (d := d) (rr := rr) (J := J) (P := P) (wld_of hv) (scn_of hv) hb hR (I 19) (by rw [hI]; exact hX) (fun c hX' => K c (inv_rel hv (relI_up1 relI_refl (by omega)) (fun _ _ => rfl) hX'))
  rw [hI] at h
  exact h
/-- the reference behind asIs: its choice now -/
theorem cl_pickR {k : Nat} {c : Nat → Int32} (hv : aInv r A I J) (hk : k < r) (K : ∀ c2, P (some (.int (oI (pkW (wdI A I) (rlI I k) (scI I) (I 77 6).toNatClampNeg (upN (I 77 4)) (I 77 5).toNatClampNeg (bt (I 77 1)))))) (aHp r rr (up1 (asH I c) 89 c2) J)) : aCl L xs fv 111 (d + 6) 135 [.ref 77, .int (nI k), .int (I 77 4), .int (I 77 5), .int (I 77 6), .int (I 77 1)] (aHp r rr (asH I c) J) P := by
  obtain ⟨-, -, hR⟩ := rul_of hv hk
  obtain ⟨n1, n2, n3, n4, n5, n6⟩ := nums_of hv
  obtain ⟨u1, u2⟩ := now_of hv
  have hI : up1 (asH I c) 89 (asH I c 89) = asH I c := up1_id
  have h := cl_pickOf (L := L) (xs := xs) (fv := fv) (d := d) (rr := rr) (r := r) (J := J) (P := P) (x := I 77 1) (as_rwl hv (c := c)) (as_rsc hv) (R := rlI I k) (q := k) hR (q' := nI k) (n' := I 77 4) (w' := I 77 5) (h' := I 77 6) rfl u1 n1 n3 n2 (by omega) u2 (asH I c 89) K
  rw [hI] at h
  exact h
theorem as_done {c c2 : Nat → Int32} (hv : aInv r A I J) : aIn (aHp r rr (up1 (asH I c) 89 c2) J) := aIn_of (inv_rel hv (relI_up1 as_rel (by omega)) (fun _ _ => rfl) (iX_c (I := I) rfl rfl rfl rfl hv.2.2.2.2.2.2.2.2.2.2.2.2)) rr
theorem pr_picks {w : Int32} {h : aH} (hi : aIn h) : aPair L xs fv (d + 9) 43 137 [.int w] h := by
  obtain ⟨r, rr, A, I, J, rfl, hv⟩ := hi
  have hG := hv.2.2.2.2.2.2.1
  refine cl_of rfl (Nat.le_add_right _ _) ?_
  refine go_v (cd := cd43) [] 9 rfl ?_
  refine go_callv (cd := cd43) rfl rfl rfl rfl rfl (lv3 rfl) rfl (cl_ruleOf hG (fun k hk he => ⟨rfl, ?_⟩) (fun hq => ⟨rfl, ?_⟩))
  · subst he
    refine go_v (cd := cd43) [] 9 rfl ?_
    refine go_callv (cd := cd43) rfl rfl rfl rfl rfl (lv3 rfl) rfl (cl_pickX hv hk (fun c hv' => ⟨rfl, ?_⟩))
    have hfin : ∀ v, v = shO (pkW (wdI A I) (rlI I k) (scI I) (I 77 6).toNatClampNeg (upN (I 77 4)) (I 77 5).toNatClampNeg (bt (I 77 1))) → aCl L xs fv 111 (d + 9) 137 [.ref 77, .int (nI k)] (aHp r rr (up1 I 19 c) J) (fun rv2 h2 => h2.1 = 111 + 3 * r ∧ rv2 = some (.int v) ∧ aIn h2) := fun v hvv => by
      refine cl_of rfl (Nat.le_add_right _ _) ?_
      refine go_v (cd := cd137) [] 9 rfl ?_
      refine go_callv (cd := cd137) rfl rfl rfl rfl rfl (lv3 rfl) rfl (cl_isRuleT hv'.2.2.2.2.2.2.1 hk ⟨rfl, ?_⟩)
      refine go_st (cd := cd137) 1 rfl (go_ifF (by decide) ?_)
      refine go_v (cd := cd137) [] 9 rfl ?_
      refine go_callv (cd := cd137) rfl rfl rfl rfl rfl (lv3 rfl) rfl (cl_asIs (F := fI (up1 I 19 c)) (A := hol A (up1 I 19 c)) (rwl_of hv').1 (fun c2 hc2 => ⟨rfl, ?_⟩))
      refine go_v (cd := cd137) [] 20 rfl ?_
      refine go_callv (cd := cd137) rfl rfl rfl rfl rfl (lv3 rfl) rfl (cl_pickR hv' hk (fun c3 => ⟨rfl, ?_⟩))
      refine go_v (cd := cd137) [] 9 rfl ?_
      have hp := pkW_lt (W := wdI A (up1 I 19 c)) (R := rlI (up1 I 19 c) k) (S := scI (up1 I 19 c)) (h := (up1 I 19 c 77 6).toNatClampNeg) (w := (up1 I 19 c 77 5).toNatClampNeg) (now := upN (up1 I 19 c 77 4)) (fit := bt (up1 I 19 c 77 1))
      have h6 := (wld_of hv').1
      have hsame : v = shO (pkW (wdI A (up1 I 19 c)) (rlI (up1 I 19 c) k) (scI (up1 I 19 c)) (up1 I 19 c 77 6).toNatClampNeg (upN (up1 I 19 c 77 4)) (up1 I 19 c 77 5).toNatClampNeg (bt (up1 I 19 c 77 1))) := hvv
      cases hpk : pkW (wdI A (up1 I 19 c)) (rlI (up1 I 19 c) k) (scI (up1 I 19 c)) (up1 I 19 c 77 6).toNatClampNeg (upN (up1 I 19 c 77 4)) (up1 I 19 c 77 5).toNatClampNeg (bt (up1 I 19 c 77 1)) with
      | none =>
        rw [hpk] at hsame
        refine go_st (cd := cd137) 1 rfl (go_ifF (by decide) ?_)
        refine go_v (cd := cd137) [] 9 rfl ?_
        exact go_ireturn (cd := cd137) rfl ⟨rfl, by rw [hsame]; rfl, as_done hv'⟩
      | some s =>
        rw [hpk] at hsame
        have hs := hp s hpk
        refine go_st (cd := cd137) 1 rfl (go_ifT (nI_pos' (n := s) (by omega)) ?_)
        refine go_v (cd := cd137) [] 9 rfl ?_
        exact go_ireturn (cd := cd137) rfl ⟨rfl, by rw [hsame]; rfl, as_done hv'⟩
    have hp := pkW_lt (W := wdI A I) (R := rlI I k) (S := scI I) (h := (I 77 6).toNatClampNeg) (w := (I 77 5).toNatClampNeg) (now := upN (I 77 4)) (fit := bt (I 77 1))
    have h6 := (wld_of hv).1
    cases hpk : pkW (wdI A I) (rlI I k) (scI I) (I 77 6).toNatClampNeg (upN (I 77 4)) (I 77 5).toNatClampNeg (bt (I 77 1)) with
    | none =>
      rw [hpk] at hfin
      refine go_calls (cd := cd43) rfl rfl rfl rfl rfl (cl_shown (s := oI none) (fun hq => ⟨rfl, ?_⟩) (fun hq => absurd rfl hq))
      exact go_ireturn (cd := cd43) rfl ⟨Or.inl rfl, _, rfl, hfin _ rfl⟩
    | some s =>
      rw [hpk] at hfin
      have hs := hp s hpk
      refine go_calls (cd := cd43) rfl rfl rfl rfl rfl (cl_shown (s := oI (some s)) (fun hq => ?_) (fun hq => ⟨rfl, ?_⟩))
      · have h0 : (0 : Int32) ≤ nI s := nI_pos' (by omega)
        rw [show nI s = -1 from hq] at h0
        exact absurd h0 (by decide)
      · exact go_ireturn (cd := cd43) rfl ⟨Or.inl rfl, _, rfl, hfin _ rfl⟩
  · refine go_v (cd := cd43) [] 9 rfl ?_
    refine go_ireturn (cd := cd43) rfl ⟨Or.inl rfl, _, rfl, ?_⟩
    refine cl_of rfl (Nat.le_add_right _ _) ?_
    refine go_v (cd := cd137) [] 9 rfl ?_
    refine go_callv (cd := cd137) rfl rfl rfl rfl rfl (lv3 rfl) rfl (cl_isRuleF hG hq ⟨rfl, ?_⟩)
    refine go_st (cd := cd137) 1 rfl (go_ifT rfl ?_)
    refine go_v (cd := cd137) [] 9 rfl ?_
    exact go_ireturn (cd := cd137) rfl ⟨rfl, rfl, aIn_of hv rr⟩
end PP
