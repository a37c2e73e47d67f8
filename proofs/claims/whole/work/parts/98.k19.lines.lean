/-! lines: the pair -/
section LP
variable {L : Nat} {xs : Nat → Int32} {fv : Value} {d : Nat} {r : Nat} {rr : Option Nat} {I : Nat → Nat → Int32} {J : Nat → Nat → Int64} {P : Option Value → aH → Prop}
variable {A : Nat → List Cl}
theorem relI_25 {I I' : Nat → Nat → Int32} {c : Nat → Int32} (h : relI I I') : relI I (up1 I' 25 c) := by
  obtain ⟨h0, h77, h91, h93, h21, h24, h92⟩ := h
  exact ⟨fun j hj => by rw [up1_ne (by omega)]; exact h0 j hj, fun q => by rw [up1_ne (by omega)]; exact h77 q, fun p hp => by rw [up1_ne (by omega), up1_ne (by omega)]; exact h91 p hp, fun p hp => by rw [up1_ne (by omega)]; exact h93 p hp, by rw [up1_ne (by omega)]; exact h21, by rw [up1_ne (by omega)]; exact h24, fun h => by rw [up1_ne (by omega)]; exact h92 h⟩
theorem lrI_0 {c : Nat → Int32} (hv : aInv r A I J) (hc : ∀ a b, a < 4 → b < 4 → c (4 * a + b) = nI (folA (hol A I) a b)) : lrI (wdI A I) (fI I) (scI I) (I 77 6).toNatClampNeg (I 77 5).toNatClampNeg (upN (I 77 4)) (I 77 1) I (up2 (asH I c) 91 10 5) := by
  obtain ⟨n1, n2, n3, n4, n5, n6⟩ := nums_of hv
  obtain ⟨u1, u2⟩ := now_of hv
  have e1 := as_rwl hv (c := c)
  exact ⟨⟨rH_c (I := asH I c) rfl rfl rfl rfl rfl rfl rfl rfl e1.1, e1.2.1, e1.2.2.1, e1.2.2.2⟩, as_rsc hv (c := c), up2_e, hv.2.2.2.2.2.2.2.2.2.1.2.2.2, n3, n1, u1, rfl, as_fol hv hc, relI_91 as_rel, rfl, rfl, rfl, rfl⟩
theorem rf_lines0 {w g v : Int32} (K : P (some (.int v)) (aHp r rr I J)) (h : (¬ (0 ≤ g ∧ g ≤ 3) ∧ v = -1) ∨ ((0 ≤ g ∧ g ≤ 3) ∧ ¬ (1 ≤ w ∧ w ≤ 2) ∧ v = -2)) : aCl L xs fv 111 (d + 10) 152 [.ref 77, .int w, .int g] (aHp r rr I J) P := by
  refine cl_of rfl (Nat.le_add_right _ _) ?_
  refine go_v (cd := cd152) [] 20 rfl ?_
  refine go_callv (cd := cd152) rfl rfl rfl rfl rfl (lv3 rfl) rfl (cl_misWind (fun hg => ⟨rfl, ?_⟩) (fun hg => ⟨rfl, ?_⟩))
  · obtain ⟨-, h2, h3⟩ := h.resolve_left (fun h => h.1 hg)
    subst h3
    refine go_st (cd := cd152) 1 rfl (go_ifF (by decide) ?_)
    refine go_v (cd := cd152) [] 20 rfl ?_
    refine go_callv (cd := cd152) rfl rfl rfl rfl rfl (lv3 rfl) rfl (cl_in (fun hw => absurd hw h2) (fun hw => ⟨rfl, ?_⟩))
    refine go_st (cd := cd152) 1 rfl (go_ifT rfl ?_)
    refine go_v (cd := cd152) [] 20 rfl ?_
    exact go_ireturn (cd := cd152) rfl K
  · rcases h with ⟨-, rfl⟩ | ⟨h, -⟩
    · refine go_st (cd := cd152) 1 rfl (go_ifT rfl ?_)
      refine go_v (cd := cd152) [] 20 rfl ?_
      exact go_ireturn (cd := cd152) rfl K
    · exact absurd h hg
end LP
section LL
variable {L : Nat} {xs : Nat → Int32} {fv : Value} {d : Nat}
set_option maxHeartbeats 4000000 in
theorem pr_lines {w g : Int32} {h : aH} (hi : aIn h) : aPair L xs fv (d + 10) 51 152 [.int w, .int g] h := by
  obtain ⟨r, rr, A, I, J, rfl, hv⟩ := hi
  have hdone := aIn_of hv rr
  refine cl_of rfl (Nat.le_add_right _ _) ?_
  refine go_v (cd := cd51) [] 20 rfl ?_
  refine go_calls (cd := cd51) rfl rfl rfl rfl rfl (cl_isWind (fun hg => ⟨rfl, ?_⟩) (fun hg => ⟨rfl, ?_⟩))
  case refine_2 =>
    refine go_st (cd := cd51) 1 rfl (go_ifT rfl ?_)
    refine go_v (cd := cd51) [] 20 rfl ?_
    exact go_ireturn (cd := cd51) rfl ⟨Or.inl rfl, _, rfl, rf_lines0 ⟨rfl, rfl, hdone⟩ (Or.inl ⟨by grind, rfl⟩)⟩
  refine go_st (cd := cd51) 1 rfl (go_ifF (by decide) ?_)
  have hg3 : 0 ≤ g ∧ g ≤ 3 := by grind
  have hbad : ¬ (1 ≤ w ∧ w ≤ 2) → aTo L xs fv 111 (d + 9) cd51 (19, [(0, .ref 0), (1, .int w), (2, .int g)], [], aHp r rr I J) (fun rv h1 => (h1.1 = (aHp r rr I J).1 ∨ 51 = 41) ∧ ∃ v, rv = some v ∧ aCl L xs fv 111 (d + 10) 152 (.ref 77 :: [.int w, .int g]) h1 (fun rv2 h2 => h2.1 = h1.1 ∧ rv2 = some v ∧ aIn h2)) := fun hb => by
    refine go_v (cd := cd51) [] 20 rfl ?_
    exact go_ireturn (cd := cd51) rfl ⟨Or.inl rfl, _, rfl, rf_lines0 ⟨rfl, rfl, hdone⟩ (Or.inr ⟨hg3, hb, rfl⟩)⟩
  refine go_v (cd := cd51) [] 20 rfl ?_
  by_cases hw1 : w < 1
  · exact go_st (cd := cd51) 1 rfl (go_ifT hw1 (hbad (by grind)))
  refine go_st (cd := cd51) 1 rfl (go_ifF hw1 ?_)
  refine go_v (cd := cd51) [] 20 rfl ?_
  by_cases hw2 : w ≤ 2
  case neg => exact go_st (cd := cd51) 1 rfl (go_ifF hw2 (hbad (by grind)))
  refine go_st (cd := cd51) 1 rfl (go_ifT hw2 ?_)
  have hww : 1 ≤ w ∧ w ≤ 2 := by grind
  obtain ⟨j, hj, rfl, -⟩ := nI_ex (s := g) (n := 4) 4 rfl hg.1 hg.2
  obtain ⟨n, hn3, rfl⟩ := hours_ex (g := w) ⟨hww.1, by grind⟩
  have hn1 : n ≤ 1 := by
    have := (nI_leI (a := n + 1) (b := 2) (by omega) (by decide)).mp hww.2
    omega
  have hwf := (wld_of hv).2.2.2.2.1
  obtain ⟨n1, n2, n3, n4, n5, n6⟩ := nums_of hv
  obtain ⟨u1, u2⟩ := now_of hv
  have hcnt := (wld_of hv).1
  refine go_v (cd := cd51) [] 20 rfl ?_
  refine go_callv (cd := cd51) rfl rfl rfl rfl rfl (lv3 rfl) rfl (cl_become51 ⟨rfl, ?_⟩)
  have e27 : hpT (up1 (up1 (up1 I 6 (cpN 6 (I 2) (I 6))) 27 (up1 I 6 (cpN 6 (I 2) (I 6)) 27)) 25 (up1 I 6 (cpN 6 (I 2) (I 6)) 25)) (cpN 10 (I 1) (I 5)) (I 19) = hpT (up1 I 6 (cpN 6 (I 2) (I 6))) (cpN 10 (I 1) (I 5)) (I 19) := by
    rw [show up1 (up1 I 6 (cpN 6 (I 2) (I 6))) 27 (up1 I 6 (cpN 6 (I 2) (I 6)) 27) = up1 I 6 (cpN 6 (I 2) (I 6)) from up1_id, show up1 (up1 I 6 (cpN 6 (I 2) (I 6))) 25 (up1 I 6 (cpN 6 (I 2) (I 6)) 25) = up1 I 6 (cpN 6 (I 2) (I 6)) from up1_id]
  have hX6 : iX A (hpT (up1 I 6 (cpN 6 (I 2) (I 6))) (cpN 10 (I 1) (I 5)) (I 19)) := iX_tr hv
  rw [tr_heap, ← e27]
  rw [← e27] at hX6
  have hW6 : wld A (wdI A I) (up1 I 6 (cpN 6 (I 2) (I 6))) := wld_6 (wld_of hv)
  have hS1 := scn_of hv
  have hS5 : scn (wdI A I) (scI I) (I 77 6).toNatClampNeg (upN (I 77 4)) (I 77 5).toNatClampNeg (bt (I 77 1)) 5 (up1 (up1 I 6 (cpN 6 (I 2) (I 6))) 5 (cpN 10 (I 1) (I 5))) := scn_tr hS1
  obtain ⟨C, hC⟩ : ∃ C, C = lnC (wdI A I) (scI I) (I 77 6).toNatClampNeg (upN (I 77 4)) (I 77 5).toNatClampNeg (bt (I 77 1)) n := ⟨_, rfl⟩
  obtain ⟨T, hT⟩ : ∃ T, T = lnT (wdI A I) (scI I) (I 77 6).toNatClampNeg (upN (I 77 4)) (I 77 5).toNatClampNeg (bt (I 77 1)) n := ⟨_, rfl⟩
  have hV : ∀ (v : Nat) (p : Nat → Nat), VV (wdI A I) (5, v, fun y => dO (p y), fun _ => none) (scI I) n (I 77 6).toNatClampNeg (upN (I 77 4)) (I 77 5).toNatClampNeg (bt (I 77 1)) = lnV C T (I 77 5).toNatClampNeg p := fun v p => by
    rw [hC, hT]
    exact VV_sep hn1
  have hf : ∀ p, -1000000000000 ≤ lnV C T (I 77 5).toNatClampNeg p ∧ lnV C T (I 77 5).toNatClampNeg p ≤ 1000000000000 := fun p => by
    rw [hC, hT]
    exact lnV_abs hwf n2 hn1 p
  have hT0 : n = 0 → ∀ e x y, T e x y = 0 := fun h0 e x y => by
    rw [hT, h0]
    rfl
  have hbC : ∀ e, goodD (mayW (wdI A I).2.2.1 (wdI A I).2.2.2 (upN (I 77 4)) (bt (I 77 1)) (scI I).1 (scI I).2) e = false → C e = C 0 ∧ ∀ x y, T e x y = T 0 x y := fun e he => by
    rw [hC, hT]
    exact ln_badC he
  have hbT : ∀ s x e, goodD (mayW (wdI A I).2.2.1 (wdI A I).2.2.2 (upN (I 77 4)) (bt (I 77 1)) (scI I).1 (scI I).2) e = false → T s x e = T s x 0 := fun s x e he => by
    rw [hT]
    exact ln_badT he
  clear hC hT
  refine go_v (cd := cd51) [38] 20 rfl ?_
  refine go_sb (ln_cl (d := d) (I := up1 I 6 (cpN 6 (I 2) (I 6))) (f := fun s => lnV C T (I 77 5).toNatClampNeg (gRow T (goodD (mayW (wdI A I).2.2.1 (wdI A I).2.2.2 (upN (I 77 4)) (bt (I 77 1)) (scI I).1 (scI I).2)) (I 77 5).toNatClampNeg (wdI A I).2.2.2 s)) (pc := fun s => rowN ((wdI A I).2.2.2 + 1) (gRow T (goodD (mayW (wdI A I).2.2.1 (wdI A I).2.2.2 (upN (I 77 4)) (bt (I 77 1)) (scI I).1 (scI I).2)) (I 77 5).toNatClampNeg (wdI A I).2.2.2 s)) (fun _ => rfl) (fun _ => rfl) (hV 0) hf hT0 hW6 hv.2.2.2.2.2.2.2.2.2.1.2.1 hv.2.2.2.2.2.2.2.2.2.1.2.2.1 hn1 (by omega) hS1 hS5 hj (fun a b c q hX hq => ?_) ((wdI A I).2.2.2 + 1) 0 _ _ _ (by omega) (fun q hq => by cases hq) hX6) ⟨rfl, by show some (Value.long 0) = some (Value.long (lZ 0)); rw [lZ_0], rfl, rfl, rfl, trivial⟩ rfl rfl rfl
  refine ⟨Or.inl rfl, _, rfl, ?_⟩
  have hbest := best_uniq (cl_best n2 rfl hbC hbT hq) (rf_best (C := C) (T := T) (N := (wdI A I).2.2.2 + 1) n2 (Nat.succ_pos _)) j hj
  rw [hbest]
  clear hbest hq hbC hbT
  have hrel : relI I (hpT (up1 (up1 (up1 I 6 (cpN 6 (I 2) (I 6))) 27 b) 25 a) (cpN 10 (I 1) (I 5)) c) := relI_up1 (relI_up1 (relI_25 (relI_up1 (relI_up1 relI_refl (by omega)) (by omega))) (by omega)) (by omega)
  have hv' := inv_rel hv hrel (fun _ _ => rfl) hX
  obtain ⟨N, hN⟩ : ∃ N, N = (wdI A I).2.2.2 + 1 := ⟨_, rfl⟩
  have hN7 : N ≤ 7 := by omega
  rw [← hN]
  have hN0 : N = (wdI A (hpT (up1 (up1 (up1 I 6 (cpN 6 (I 2) (I 6))) 27 b) 25 a) (cpN 10 (I 1) (I 5)) c)).2.2.2 + 1 := hN
  have hV0 : ∀ (v : Nat) (p : Nat → Nat), VV (wdI A (hpT (up1 (up1 (up1 I 6 (cpN 6 (I 2) (I 6))) 27 b) 25 a) (cpN 10 (I 1) (I 5)) c)) (5, v, fun y => dO (p y), fun _ => none) (scI (hpT (up1 (up1 (up1 I 6 (cpN 6 (I 2) (I 6))) 27 b) 25 a) (cpN 10 (I 1) (I 5)) c)) n (hpT (up1 (up1 (up1 I 6 (cpN 6 (I 2) (I 6))) 27 b) 25 a) (cpN 10 (I 1) (I 5)) c 77 6).toNatClampNeg (upN (hpT (up1 (up1 (up1 I 6 (cpN 6 (I 2) (I 6))) 27 b) 25 a) (cpN 10 (I 1) (I 5)) c 77 4)) (hpT (up1 (up1 (up1 I 6 (cpN 6 (I 2) (I 6))) 27 b) 25 a) (cpN 10 (I 1) (I 5)) c 77 5).toNatClampNeg (bt (hpT (up1 (up1 (up1 I 6 (cpN 6 (I 2) (I 6))) 27 b) 25 a) (cpN 10 (I 1) (I 5)) c 77 1)) = lnV C T (hpT (up1 (up1 (up1 I 6 (cpN 6 (I 2) (I 6))) 27 b) 25 a) (cpN 10 (I 1) (I 5)) c 77 5).toNatClampNeg p := hV
  have hw0 : (I 77 5).toNatClampNeg = (hpT (up1 (up1 (up1 I 6 (cpN 6 (I 2) (I 6))) 27 b) 25 a) (cpN 10 (I 1) (I 5)) c 77 5).toNatClampNeg := rfl
  rw [hw0] at hf ⊢
  clear hrel hX hX6 e27 hS5 hS1 hW6 hV hw0
  generalize hpT (up1 (up1 (up1 I 6 (cpN 6 (I 2) (I 6))) 27 b) 25 a) (cpN 10 (I 1) (I 5)) c = I0 at *
  obtain ⟨m1, m2, m3, m4, m5, m6⟩ := nums_of hv'
  obtain ⟨v1, v2⟩ := now_of hv'
  have h77 : I0 77 0 + 1 = nI N := by rw [(wld_of hv').2.1, hN0, nI_succ]
  refine cl_of rfl (Nat.le_add_right _ _) ?_
  refine go_v (cd := cd152) [] 20 rfl ?_
  refine go_callv (cd := cd152) rfl rfl rfl rfl rfl (lv3 rfl) rfl (cl_misWind (fun _ => ⟨rfl, ?_⟩) (fun hx => absurd hg3 hx))
  refine go_st (cd := cd152) 1 rfl (go_ifF (by decide) ?_)
  refine go_v (cd := cd152) [] 20 rfl ?_
  refine go_callv (cd := cd152) rfl rfl rfl rfl rfl (lv3 rfl) rfl (cl_in (fun _ => ⟨rfl, ?_⟩) (fun hx => absurd hww hx))
  refine go_st (cd := cd152) 1 rfl (go_ifF (by decide) ?_)
  refine go_v (cd := cd152) [] 20 rfl ?_
  refine go_callv (cd := cd152) rfl rfl rfl rfl rfl (lv3 rfl) rfl (cl_asIs (rwl_of hv').1 (fun c2 hc2 => ⟨rfl, ?_⟩))
  refine go_v (cd := cd152) [] 20 rfl ?_
  refine go_iast (cd := cd152) rfl (nI_vin (j := 10) (n := 11) (by omega) (by decide)) (lv3 rfl) rfl ?_
  rw [show (10 : Int32).toNatClampNeg = 10 from by decide]
  have hE := lrI_0 hv' hc2
  refine go_v (cd := cd152) [72] 60 rfl ?_
  refine go_sb (ln_rf (d := d) (I0 := I0) (J0 := J) (N := N) (M := N * N * N * N) (C := C) (T := T) (f := fun c => lnV C T (I0 77 5).toNatClampNeg (roN N c)) hN0 hN7 rfl (four_7 hN7) (fun _ => rfl) hV0 hf hn1 (by omega) m2 hj v2 (fun I2 J2 hE2 hJ2 => ?_) (N * N * N * N) 0 _ _ (by omega) hE (fun _ _ _ => rfl) (fun h => absurd rfl h)) (l' := [(7, .int (nI 0)), (5, .long (lZ 0)), (4, .int (soI 0)), (3, .int (nI (N * N * N * N))), (0, .ref 77), (1, .int (nI (n + 1))), (2, .int (nI j))]) ⟨rfl, by show some (Value.long 0) = some (Value.long (lZ 0)); rw [lZ_0], rfl, ?_, rfl, rfl, rfl, trivial⟩ rfl rfl rfl
  · obtain ⟨-, -, -, -, -, -, -, -, -, eA, eB, eC, eD, eE⟩ := hE2
    exact ⟨rfl, rfl, aIn_of (inv_rel hv' eA (fun j hj => hJ2 j (by omega) (by omega)) (iX_c (I := I0) eB eC eD eE hv'.2.2.2.2.2.2.2.2.2.2.2.2)) rr⟩
  · show some (Value.int ((I0 77 0 + 1) * (I0 77 0 + 1) * (I0 77 0 + 1) * (I0 77 0 + 1))) = some (Value.int (nI (N * N * N * N)))
    rw [h77, nI_mul, nI_mul, nI_mul]
end LL
