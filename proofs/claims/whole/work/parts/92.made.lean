/-- what the coming gusts bring -/
def mdW (W : Wd) (R : Ru) (S : Sc) (q : Nat → Nat) (fit : Nat → Bool) (h0 : Nat) (now0 : Option Nat) : Nat → Option Nat × Int
  | 0 => (now0, 0)
  | j + 1 => (pkW W R S (h0 + j) (mdW W R S q fit h0 now0 j).1 (q j) fit, (mdW W R S q fit h0 now0 j).2 + mlW W (h0 + j) (mdW W R S q fit h0 now0 j).1 (q j) (pkW W R S (h0 + j) (mdW W R S q fit h0 now0 j).1 (q j) fit))
theorem mdW_lt {W : Wd} {R : Ru} {S : Sc} {q : Nat → Nat} {fit : Nat → Bool} {h0 : Nat} {now0 : Option Nat} (hn : ∀ u, now0 = some u → u < W.2.2.2) : ∀ j u, (mdW W R S q fit h0 now0 j).1 = some u → u < W.2.2.2
  | 0, u, h => hn u h
  | j + 1, u, h => pkW_lt u h
section MD
variable {L : Nat} {xs : Nat → Int32} {fv : Value} {d : Nat} {r : Nat} {rr : Option Nat} {I : Nat → Nat → Int32} {J : Nat → Nat → Int64} {P : Option Value → aH → Prop}
variable {A : Nat → List Cl} {W : Wd} {F : Nat} {S : Sc} {R : Ru}
set_option maxHeartbeats 4000000 in
theorem mdc_loop {b G h0 : Nat} {q : Nat → Nat} {fit : Nat → Bool} {now0 : Option Nat} {gg : Nat → Int32} {w1 : Int32} (hW : wld A W I) (hb : isR r b) (hR : ∀ g, rul R b (up1 I 5 g)) (h19 : I 1 9 = nI G) (hG : G ≤ 6) (h2 : ∀ j, j < 6 → I 2 j = nI (q j) ∧ q j < 4) (hh : h0 ≤ 100) (hn0 : ∀ u, now0 = some u → u < W.2.2.2)
    (g4 : gg 4 = nI S.2) (g5 : gg 5 = nI W.2.2.2) (g6 : bt (gg 6) = fit) (g7 : bt (gg 7) = S.1) (hS9 : S.2 ≤ 9)
    (K : ∀ g c, iX A (hpT I g c) → P (some (.int (iZ (mdW W R S q fit h0 now0 G).2))) (aHp r rr (hpT I g c) J)) : ∀ m j g c, j + m = G → g 0 = oI (mdW W R S q fit h0 now0 j).1 → g 2 = nI (h0 + j) → (∀ p, p ≠ 0 → p ≠ 1 → p ≠ 2 → g p = gg p) → iX A (hpT I g c) → aTo L xs fv 111 (d + 8) cd53 (30, [(4, .int (nI j)), (3, .int (iZ (mdW W R S q fit h0 now0 j).2)), (2, .ref b), (0, .ref 0), (1, .int w1)], [], aHp r rr (hpT I g c) J) P
  | 0, j, g, c, hj, hg0, hg2, hgo, hX => by
    have hj : j = G := hj
    subst hj
    refine go_v (cd := cd53) [] 9 rfl ?_
    refine go_st (cd := cd53) 1 rfl (go_ifT (by show I 1 9 ≤ nI j; rw [h19]; exact nI_le (Nat.le_refl _) (by omega)) ?_)
    refine go_v (cd := cd53) [] 9 rfl ?_
    exact go_ireturn (cd := cd53) rfl (K g c hX)
  | m + 1, j, g, c, hj, hg0, hg2, hgo, hX => by
    have ih := fun g c => mdc_loop (w1 := w1) hW hb hR h19 hG h2 hh hn0 g4 g5 g6 g7 hS9 K m (j + 1) g c (by omega)
    obtain ⟨q1, q2⟩ := h2 j (by omega)
    refine go_v (cd := cd53) [] 9 rfl ?_
    refine go_st (cd := cd53) 1 rfl (go_ifF (by show ¬ I 1 9 ≤ nI j; rw [h19]; exact nI_ge (by omega) (by omega)) ?_)
    refine go_v (cd := cd53) [] 20 rfl ?_
    refine go_iald (cd := cd53) rfl (nI_vin (n := 6) (by omega) (by decide)) (lv3 rfl) rfl ?_
    rw [nI_clamp (by omega), show hpT I g c 2 = I 2 from rfl, q1]
    refine go_v (cd := cd53) [59] 9 rfl ?_
    rw [hp_put]
    generalize hn : (mdW W R S q fit h0 now0 j).1 = now at *
    have hnl : ∀ u, now = some u → u < W.2.2.2 := fun u hu => mdW_lt hn0 j u (hn.trans hu)
    generalize hg1 : (fun p => if p = 1 then nI (q j) else g p) = g1
    have k0 : g1 0 = oI now := by rw [← hg1]; exact hg0
    have k1 : g1 1 = nI (q j) := by rw [← hg1]; rfl
    have k2 : g1 2 = nI (h0 + j) := by rw [← hg1]; exact hg2
    have ko : ∀ p, p ≠ 0 → p ≠ 1 → p ≠ 2 → g1 p = gg p := fun p a b c => by
      rw [← hg1]
      show (if p = 1 then nI (q j) else g p) = _
      rw [if_neg b]; exact hgo p a b c
    have hS1 : scn W S (h0 + j) now (q j) fit 5 (up1 I 5 g1) := by
      refine ⟨by rw [up1_e]; exact k0, by rw [up1_e]; exact k1, by rw [up1_e]; exact k2, ?_, ?_, ?_, ?_, q2, by omega, hS9, hnl⟩
      · rw [up1_e, ko 4 (by decide) (by decide) (by decide)]; exact g4
      · rw [up1_e, ko 5 (by decide) (by decide) (by decide)]; exact g5
      · rw [up1_e, ko 6 (by decide) (by decide) (by decide)]; exact g6
      · rw [up1_e, ko 7 (by decide) (by decide) (by decide)]; exact g7
    have hX1 : iX A (hpT I g1 c) := iX_5 hX
    have e1 : (mdW W R S q fit h0 now0 (j + 1)).1 = pkW W R S (h0 + j) now (q j) fit := by rw [← hn]; rfl
    have e2 : (mdW W R S q fit h0 now0 (j + 1)).2 = (mdW W R S q fit h0 now0 j).2 + mlW W (h0 + j) now (q j) (pkW W R S (h0 + j) now (q j) fit) := by rw [← hn]; rfl
    refine go_v (cd := cd53) [] 9 rfl ?_
    refine go_callv (cd := cd53) rfl rfl rfl rfl rfl (lv3 rfl) rfl (cl_choice5 (wld_5 hW) hS1 hb (hR g1) c hX1 (fun c1 hX2 => ⟨rfl, ?_⟩))
    refine go_v (cd := cd53) [] 20 rfl ?_
    refine go_callv (cd := cd53) rfl rfl rfl rfl rfl (lv3 rfl) rfl (cl_miles5 (p := pkW W R S (h0 + j) now (q j) fit) (wld_5 hW) hS1 rfl (fun s hs => pkW_lt s hs) c1 hX2 (fun c2 hX3 => ⟨rfl, ?_⟩))
    refine go_v (cd := cd53) [92] 20 rfl ?_
    rw [iZ_add, ← e2, ← e1, hp_put]
    refine go_sb ?_ (l' := (5, .int (oI (mdW W R S q fit h0 now0 (j + 1)).1)) :: [(4, .int (nI j)), (3, .int (iZ (mdW W R S q fit h0 now0 (j + 1)).2)), (2, .ref b), (0, .ref 0), (1, .int w1)]) ⟨rfl, rfl, rfl, rfl, rfl, rfl, trivial⟩ rfl rfl rfl
    refine go_v (cd := cd53) [105] 20 rfl ?_
    rw [hp_put]
    refine go_v (cd := cd53) [30] 20 rfl ?_
    refine go_sb ?_ (l' := [(4, .int (nI (j + 1))), (3, .int (iZ (mdW W R S q fit h0 now0 (j + 1)).2)), (2, .ref b), (0, .ref 0), (1, .int w1)]) ⟨by rw [← nI_1 j]; rfl, rfl, rfl, rfl, rfl, trivial⟩ rfl rfl rfl
    refine ih _ c2 rfl ?_ (fun p a b c => ?_) (iX_5 hX3)
    · show g1 2 + 1 = _
      rw [k2, nI_1, Nat.add_assoc]
    · show (if p = 2 then _ else if p = 0 then _ else g1 p) = _
      rw [if_neg c, if_neg a]; exact ko p a b c
set_option maxHeartbeats 4000000 in
theorem mdr_loop {k G h0 : Nat} {q : Nat → Nat} {x : Int32} {fit : Nat → Bool} {now0 : Option Nat} (hfit : fit = bt x) (hW : rwl W F I) (hS : rsc S I) (hR : rrl R k I) (h49 : I 77 49 = nI G) (hG : G ≤ 6) (h104 : ∀ j, j < 6 → I 104 j = nI (q j) ∧ q j < 4) (h6 : I 77 6 = nI h0) (hh : h0 ≤ 100) (hx : I 77 1 = x) (hn0 : ∀ u, now0 = some u → u < W.2.2.2)
    (K : ∀ c, P (some (.int (iZ (mdW W R S q fit h0 now0 G).2))) (aHp r rr (up1 I 89 c) J)) : ∀ m j c, j + m = G → aTo L xs fv 111 (d + 8) cd154 (26, [(4, .int (nI j)), (3, .int (iZ (mdW W R S q fit h0 now0 j).2)), (2, .int (oI (mdW W R S q fit h0 now0 j).1)), (0, .ref 77), (1, .int (nI k))], [], aHp r rr (up1 I 89 c) J) P
  | 0, j, c, hj => by
    have hj : j = G := hj
    subst hj
    refine go_v (cd := cd154) [] 9 rfl ?_
    refine go_st (cd := cd154) 1 rfl (go_ifT (by show I 77 49 ≤ nI j; rw [h49]; exact nI_le (Nat.le_refl _) (by omega)) ?_)
    refine go_v (cd := cd154) [] 9 rfl ?_
    exact go_ireturn (cd := cd154) rfl (K c)
  | m + 1, j, c, hj => by
    have ih := fun c => mdr_loop hfit hW hS hR h49 hG h104 h6 hh hx hn0 K m (j + 1) c (by omega)
    obtain ⟨q1, q2⟩ := h104 j (by omega)
    have h6' : I 77 6 + nI j = nI (h0 + j) := by rw [h6, nI_add]
    have hnl : ∀ u, (mdW W R S q fit h0 now0 j).1 = some u → u < W.2.2.2 := mdW_lt hn0 j
    have e1 : (mdW W R S q fit h0 now0 (j + 1)).1 = pkW W R S (h0 + j) (mdW W R S q fit h0 now0 j).1 (q j) fit := rfl
    have e2 : (mdW W R S q fit h0 now0 (j + 1)).2 = (mdW W R S q fit h0 now0 j).2 + mlW W (h0 + j) (mdW W R S q fit h0 now0 j).1 (q j) (pkW W R S (h0 + j) (mdW W R S q fit h0 now0 j).1 (q j) fit) := rfl
    refine go_v (cd := cd154) [] 9 rfl ?_
    refine go_st (cd := cd154) 1 rfl (go_ifF (by show ¬ I 77 49 ≤ nI j; rw [h49]; exact nI_ge (by omega) (by omega)) ?_)
    refine go_v (cd := cd154) [] 20 rfl ?_
    refine go_iald (cd := cd154) rfl (nI_vin (n := 6) (by omega) (by decide)) (lv3 rfl) rfl ?_
    rw [nI_clamp (by omega), show up1 I 89 c 104 = I 104 from rfl, q1]
    refine go_v (cd := cd154) [] 20 rfl ?_
    refine go_callv (cd := cd154) rfl rfl rfl rfl rfl (lv3 rfl) rfl (cl_pickOf (now := (mdW W R S q fit h0 now0 j).1) (w := q j) (h := h0 + j) (x := I 77 1) hW hS hR rfl rfl rfl h6' q2 (by omega) hnl c (fun c1 => ⟨rfl, ?_⟩))
    rw [hx, ← hfit, ← e1]
    refine go_v (cd := cd154) [] 20 rfl ?_
    refine go_iald (cd := cd154) rfl (nI_vin (n := 6) (by omega) (by decide)) (lv3 rfl) rfl ?_
    rw [nI_clamp (by omega), show up1 I 89 c1 104 = I 104 from rfl, q1]
    refine go_v (cd := cd154) [] 20 rfl ?_
    refine go_callv (cd := cd154) rfl rfl rfl rfl rfl (lv3 rfl) rfl (cl_rmiles (p := (mdW W R S q fit h0 now0 (j + 1)).1) (now := (mdW W R S q fit h0 now0 j).1) (w := q j) (h := h0 + j) hW rfl rfl rfl h6' q2 (by omega) (fun u hu => by have := hnl u hu; have := hW.2.1; omega) (fun u hu => by have := mdW_lt hn0 (j + 1) u hu; have := hW.2.1; omega) c1 (fun c2 => ⟨rfl, ?_⟩))
    rw [e1]
    refine go_v (cd := cd154) [26] 20 rfl ?_
    rw [iZ_add, ← e2, ← e1]
    refine go_sb ?_ (l' := [(4, .int (nI (j + 1))), (3, .int (iZ (mdW W R S q fit h0 now0 (j + 1)).2)), (2, .int (oI (mdW W R S q fit h0 now0 (j + 1)).1)), (0, .ref 77), (1, .int (nI k))]) ⟨by rw [← nI_1 j]; rfl, rfl, rfl, rfl, rfl, trivial⟩ rfl rfl rfl
    exact ih c2
end MD
section PR
variable {L : Nat} {xs : Nat → Int32} {fv : Value} {d : Nat}
set_option maxHeartbeats 4000000 in
theorem pr_made {w : Int32} {h : aH} (hi : aIn h) : aPair L xs fv (d + 9) 53 154 [.int w] h := by
  obtain ⟨r, rr, A, I, J, rfl, hv⟩ := hi
  have hG := hv.2.2.2.2.2.2.1
  refine cl_of rfl (Nat.le_add_right _ _) ?_
  refine go_v (cd := cd53) [] 9 rfl ?_
  refine go_callv (cd := cd53) rfl rfl rfl rfl rfl (lv3 rfl) rfl (cl_ruleOf hG (fun k hk he => ⟨rfl, ?_⟩) (fun hq => ⟨rfl, ?_⟩))
  · subst he
    refine go_v (cd := cd53) [] 20 rfl ?_
    refine go_callv (cd := cd53) rfl rfl rfl rfl rfl (lv3 rfl) rfl (cl_become51 ⟨rfl, ?_⟩)
    rw [tr_heap]
    obtain ⟨hb, hR, -⟩ := rul_of hv hk
    obtain ⟨n1, n2, n3, n4, n5, n6⟩ := nums_of hv
    obtain ⟨u1, u2⟩ := now_of hv
    obtain ⟨r0, r1, r2, r3, r4, r5, r6, r7, r8, r9, rA, rB, rC, rD, rE, rF⟩ := hv.2.1
    have hg := tnc_nI rD
    have hg6 : (I 77 49).toNatClampNeg ≤ 6 := tnc_le rD (by decide) (show I 77 49 ≤ nI 6 from rE)
    have s9 := hv.1.2.2.2.2.2.2.2.2.2
    have hQ := hv.2.2.1
    have hq4 : ∀ j, j < 6 → I 104 j = nI (I 104 j).toNatClampNeg ∧ (I 104 j).toNatClampNeg < 4 := fun j hj => by
      obtain ⟨a1, a2, a3⟩ := hQ j hj
      exact ⟨tnc_nI a2, Nat.lt_succ_of_le (tnc_le (n := 3) a2 (by decide) (show I 104 j ≤ nI 3 from a3))⟩
    obtain ⟨e0, e1, e2, e4, e5, e6, e7, e8, e9, eA, eB⟩ := scn_tr (I1 := up1 I 6 (cpN 6 (I 2) (I 6))) (y := I 5) (scn_of hv)
    refine go_v (cd := cd53) [30] 20 rfl ?_
    refine go_sb ?_ (l' := [(4, .int (nI 0)), (3, .int (iZ 0)), (2, .ref (111 + 3 * k)), (0, .ref 0), (1, .int (nI k))]) ⟨rfl, by show some (Value.int 0) = some (Value.int (iZ 0)); rw [show iZ 0 = 0 from by decide], rfl, rfl, rfl, trivial⟩ rfl rfl rfl
    refine mdc_loop (W := wdI A I) (R := rlI I k) (S := scI I) (q := fun j => (I 104 j).toNatClampNeg) (G := (I 77 49).toNatClampNeg) (h0 := (I 77 6).toNatClampNeg) (now0 := upN (I 77 4)) (fit := bt (I 77 1)) (gg := cpN 10 (I 1) (I 5)) (wld_6 (wld_of hv)) hb (fun g => rul_tr hb hR) (s9.trans hg) hg6 (fun j hj => ⟨(hQ j hj).1.trans (hq4 j hj).1, (hq4 j hj).2⟩) (by omega) u2 e4 e5 e6 e7 n6 (fun g c hX => ?_) (I 77 49).toNatClampNeg 0 _ _ (Nat.zero_add _) e0 e2 (fun _ _ _ _ => rfl) (iX_tr hv)
    refine ⟨Or.inl rfl, _, rfl, ?_⟩
    have hv' := tr_inv hv hX
    generalize hI0 : hpT (up1 I 6 (cpN 6 (I 2) (I 6))) g c = I0 at *
    have hmm : (mdW (wdI A I) (rlI I k) (scI I) (fun j => (I 104 j).toNatClampNeg) (bt (I 77 1)) (I 77 6).toNatClampNeg (upN (I 77 4)) (I 77 49).toNatClampNeg).2 = (mdW (wdI A I0) (rlI I0 k) (scI I0) (fun j => (I0 104 j).toNatClampNeg) (bt (I0 77 1)) (I0 77 6).toNatClampNeg (upN (I0 77 4)) (I0 77 49).toNatClampNeg).2 := by rw [← hI0]; rfl
    have k49 : I0 77 49 = nI (I0 77 49).toNatClampNeg := by rw [← hI0]; exact hg
    have k6 : (I0 77 49).toNatClampNeg ≤ 6 := by rw [← hI0]; exact hg6
    have k104 : ∀ j, j < 6 → I0 104 j = nI (I0 104 j).toNatClampNeg ∧ (I0 104 j).toNatClampNeg < 4 := by rw [← hI0]; exact hq4
    obtain ⟨m1, m2, m3, m4, m5, m6⟩ := nums_of hv'
    obtain ⟨v1, v2⟩ := now_of hv'
    rw [hmm]
    refine cl_of rfl (Nat.le_add_right _ _) ?_
    refine go_v (cd := cd154) [] 9 rfl ?_
    refine go_callv (cd := cd154) rfl rfl rfl rfl rfl (lv3 rfl) rfl (cl_isRuleT hv'.2.2.2.2.2.2.1 hk ⟨rfl, ?_⟩)
    refine go_st (cd := cd154) 1 rfl (go_ifF (by decide) ?_)
    refine go_v (cd := cd154) [] 9 rfl ?_
    refine go_callv (cd := cd154) rfl rfl rfl rfl rfl (lv3 rfl) rfl (cl_asIs (rwl_of hv').1 (fun c2 hc2 => ⟨rfl, ?_⟩))
    refine go_v (cd := cd154) [26] 20 rfl ?_
    refine go_sb ?_ (l' := [(4, .int (nI 0)), (3, .int (iZ 0)), (2, .int (oI (upN (I0 77 4)))), (0, .ref 77), (1, .int (nI k))]) ⟨rfl, by show some (Value.int 0) = some (Value.int (iZ 0)); rw [show iZ 0 = 0 from by decide], by show some (Value.int (I0 77 4)) = some (Value.int (oI (upN (I0 77 4)))); rw [← v1], rfl, rfl, trivial⟩ rfl rfl rfl
    have hst := mdr_loop (L := L) (xs := xs) (fv := fv) (d := d) (rr := rr) (r := r) (J := J) (I := asH I0 c2) (P := fun rv2 h2 => h2.1 = (aHp r rr I0 J : aH).1 ∧ rv2 = some (.int (iZ (mdW (wdI A I0) (rlI I0 k) (scI I0) (fun j => (I0 104 j).toNatClampNeg) (bt (I0 77 1)) (I0 77 6).toNatClampNeg (upN (I0 77 4)) (I0 77 49).toNatClampNeg).2)) ∧ aIn h2) (W := wdI A I0) (F := fI I0) (R := rlI I0 k) (S := scI I0) (k := k) (q := fun j => (I0 104 j).toNatClampNeg) (G := (I0 77 49).toNatClampNeg) (h0 := (I0 77 6).toNatClampNeg) (now0 := upN (I0 77 4)) (fit := bt (I0 77 1)) (x := I0 77 1) rfl (as_rwl hv') (as_rsc hv') (rul_of hv' hk).2.2 k49 k6 k104 m3 (by omega) rfl v2 (fun c3 => ⟨rfl, rfl, as_done hv'⟩) (I0 77 49).toNatClampNeg 0 (asH I0 c2 89) (Nat.zero_add _)
    rw [show up1 (asH I0 c2) 89 (asH I0 c2 89) = asH I0 c2 from up1_id] at hst
    exact hst
  · refine go_v (cd := cd53) [] 9 rfl ?_
    refine go_ireturn (cd := cd53) rfl ⟨Or.inl rfl, _, rfl, ?_⟩
    refine cl_of rfl (Nat.le_add_right _ _) ?_
    refine go_v (cd := cd154) [] 9 rfl ?_
    refine go_callv (cd := cd154) rfl rfl rfl rfl rfl (lv3 rfl) rfl (cl_isRuleF hG hq ⟨rfl, ?_⟩)
    refine go_st (cd := cd154) 1 rfl (go_ifT rfl ?_)
    refine go_v (cd := cd154) [] 9 rfl ?_
    exact go_ireturn (cd := cd154) rfl ⟨rfl, rfl, aIn_of hv rr⟩
end PR
