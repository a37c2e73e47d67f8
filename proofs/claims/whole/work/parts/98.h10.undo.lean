/-! undo -/
section UN
variable {L : Nat} {xs : Nat → Int32} {fv : Value} {d : Nat} {r : Nat} {rr : Option Nat} {I : Nat → Nat → Int32} {J : Nat → Nat → Int64} {P : Option Value → aH → Prop}
def unF (z : Int32) (X0 X : Nat → Nat → Int32) : Prop := (∀ j, j ≠ 77 → j ≠ 104 → X j = X0 j) ∧ (∀ q, (q = 0 ∨ 7 < q) → q ≠ 11 → q ≠ 49 → X 77 q = X0 77 q) ∧ X 77 11 = X0 77 52 ∧ X 77 1 = (X0 77 1 &&& (z ^^^ -1) ||| X0 77 54) ∧ X 77 2 = X0 77 55 ∧ X 77 3 = X0 77 56 ∧ X 77 4 = X0 77 57 ∧ X 77 5 = X0 77 58 ∧ X 77 6 = X0 77 59 ∧ X 77 7 = X0 77 60 ∧ X 77 49 = X0 77 61 ∧ ∀ k, k < 6 → X 104 k = X0 105 k
set_option maxHeartbeats 4000000 in
theorem rf_undo {I : Nat → Nat → Int32} (K0 : I 77 51 = 0 → P (some (.int (-3))) (aHp r rr I J)) (K : ¬ I 77 51 = 0 → ∀ X, unF ((1 <<< (I 77 53 &&& 31)) - 1) I X → P (some (.int (I 77 53))) (aHp r rr X J)) : aCl L xs fv 111 (d + 1) 158 [.ref 77] (aHp r rr I J) P := by
  refine cl_of rfl (Nat.le_add_right _ _) ?_
  refine go_v (cd := cd158) [] 20 rfl ?_
  by_cases h51 : I 77 51 = 0
  · refine go_st (cd := cd158) 1 rfl (go_ifT h51 ?_)
    refine go_v (cd := cd158) [] 20 rfl ?_
    exact go_ireturn (cd := cd158) rfl (K0 h51)
  refine go_st (cd := cd158) 1 rfl (go_ifF h51 ?_)
  have K := K h51
  refine go_v (cd := cd158) [19] 20 rfl ?_
  refine go_sb ?_ (l' := [(1, .int ((1 <<< (I 77 53 &&& 31)) - 1)), (0, .ref 77)]) ⟨rfl, rfl, trivial⟩ rfl rfl rfl
  generalize (1 <<< (I 77 53 &&& 31)) - 1 = z at *
  obtain ⟨X0, hX0⟩ : ∃ X, X = I := ⟨_, rfl⟩
  rw [← hX0] at K ⊢
  refine go_v (cd := cd158) [27] 20 rfl ?_
  show aTo L xs fv 111 _ cd158 (27, _, [], aHp r rr (up2 X0 77 11 (X0 77 52)) J) _
  obtain ⟨X1, hX1⟩ : ∃ X, X = up2 X0 77 11 (X0 77 52) := ⟨_, rfl⟩
  rw [← hX1]
  refine go_v (cd := cd158) [44] 20 rfl ?_
  show aTo L xs fv 111 _ cd158 (44, _, [], aHp r rr (up2 X1 77 1 (X1 77 1 &&& (z ^^^ -1) ||| X1 77 54)) J) _
  obtain ⟨X2, hX2⟩ : ∃ X, X = up2 X1 77 1 (X1 77 1 &&& (z ^^^ -1) ||| X1 77 54) := ⟨_, rfl⟩
  rw [← hX2]
  refine go_v (cd := cd158) [52] 20 rfl ?_
  show aTo L xs fv 111 _ cd158 (52, _, [], aHp r rr (up2 X2 77 2 (X2 77 55)) J) _
  obtain ⟨X3, hX3⟩ : ∃ X, X = up2 X2 77 2 (X2 77 55) := ⟨_, rfl⟩
  rw [← hX3]
  refine go_v (cd := cd158) [60] 20 rfl ?_
  show aTo L xs fv 111 _ cd158 (60, _, [], aHp r rr (up2 X3 77 3 (X3 77 56)) J) _
  obtain ⟨X4, hX4⟩ : ∃ X, X = up2 X3 77 3 (X3 77 56) := ⟨_, rfl⟩
  rw [← hX4]
  refine go_v (cd := cd158) [68] 20 rfl ?_
  show aTo L xs fv 111 _ cd158 (68, _, [], aHp r rr (up2 X4 77 4 (X4 77 57)) J) _
  obtain ⟨X5, hX5⟩ : ∃ X, X = up2 X4 77 4 (X4 77 57) := ⟨_, rfl⟩
  rw [← hX5]
  refine go_v (cd := cd158) [76] 20 rfl ?_
  show aTo L xs fv 111 _ cd158 (76, _, [], aHp r rr (up2 X5 77 5 (X5 77 58)) J) _
  obtain ⟨X6, hX6⟩ : ∃ X, X = up2 X5 77 5 (X5 77 58) := ⟨_, rfl⟩
  rw [← hX6]
  refine go_v (cd := cd158) [84] 20 rfl ?_
  show aTo L xs fv 111 _ cd158 (84, _, [], aHp r rr (up2 X6 77 6 (X6 77 59)) J) _
  obtain ⟨X7, hX7⟩ : ∃ X, X = up2 X6 77 6 (X6 77 59) := ⟨_, rfl⟩
  rw [← hX7]
  refine go_v (cd := cd158) [92] 20 rfl ?_
  show aTo L xs fv 111 _ cd158 (92, _, [], aHp r rr (up2 X7 77 7 (X7 77 60)) J) _
  obtain ⟨X8, hX8⟩ : ∃ X, X = up2 X7 77 7 (X7 77 60) := ⟨_, rfl⟩
  rw [← hX8]
  refine go_v (cd := cd158) [100] 20 rfl ?_
  show aTo L xs fv 111 _ cd158 (100, _, [], aHp r rr (up2 X8 77 49 (X8 77 61)) J) _
  obtain ⟨X9, hX9⟩ : ∃ X, X = up2 X8 77 49 (X8 77 61) := ⟨_, rfl⟩
  rw [← hX9]
  have hXo : ∀ j, j ≠ 77 → X9 j = X0 j := fun j hj => by rw [hX9, up2_ne hj, hX8, up2_ne hj, hX7, up2_ne hj, hX6, up2_ne hj, hX5, up2_ne hj, hX4, up2_ne hj, hX3, up2_ne hj, hX2, up2_ne hj, hX1, up2_ne hj]
  have hXq : ∀ q, q ≠ 11 → q ≠ 1 → q ≠ 2 → q ≠ 3 → q ≠ 4 → q ≠ 5 → q ≠ 6 → q ≠ 7 → q ≠ 49 → X9 77 q = X0 77 q := fun q h1 h2 h3 h4 h5 h6 h7 h8 h9 => by rw [hX9, up2_42 h9, hX8, up2_42 h8, hX7, up2_42 h7, hX6, up2_42 h6, hX5, up2_42 h5, hX4, up2_42 h4, hX3, up2_42 h3, hX2, up2_42 h2, hX1, up2_42 h1]
  have v11 : X9 77 11 = X0 77 52 := by rw [hX9, up2_42 (by decide), hX8, up2_42 (by decide), hX7, up2_42 (by decide), hX6, up2_42 (by decide), hX5, up2_42 (by decide), hX4, up2_42 (by decide), hX3, up2_42 (by decide), hX2, up2_42 (by decide), hX1, up2_e]
  have v1 : X9 77 1 = X1 77 1 &&& (z ^^^ -1) ||| X1 77 54 := by rw [hX9, up2_42 (by decide), hX8, up2_42 (by decide), hX7, up2_42 (by decide), hX6, up2_42 (by decide), hX5, up2_42 (by decide), hX4, up2_42 (by decide), hX3, up2_42 (by decide), hX2, up2_e]
  have v2 : X9 77 2 = X0 77 55 := by rw [hX9, up2_42 (by decide), hX8, up2_42 (by decide), hX7, up2_42 (by decide), hX6, up2_42 (by decide), hX5, up2_42 (by decide), hX4, up2_42 (by decide), hX3, up2_e, hX2, up2_42 (by decide), hX1, up2_42 (by decide)]
  have v3 : X9 77 3 = X0 77 56 := by rw [hX9, up2_42 (by decide), hX8, up2_42 (by decide), hX7, up2_42 (by decide), hX6, up2_42 (by decide), hX5, up2_42 (by decide), hX4, up2_e, hX3, up2_42 (by decide), hX2, up2_42 (by decide), hX1, up2_42 (by decide)]
  have v4 : X9 77 4 = X0 77 57 := by rw [hX9, up2_42 (by decide), hX8, up2_42 (by decide), hX7, up2_42 (by decide), hX6, up2_42 (by decide), hX5, up2_e, hX4, up2_42 (by decide), hX3, up2_42 (by decide), hX2, up2_42 (by decide), hX1, up2_42 (by decide)]
  have v5 : X9 77 5 = X0 77 58 := by rw [hX9, up2_42 (by decide), hX8, up2_42 (by decide), hX7, up2_42 (by decide), hX6, up2_e, hX5, up2_42 (by decide), hX4, up2_42 (by decide), hX3, up2_42 (by decide), hX2, up2_42 (by decide), hX1, up2_42 (by decide)]
  have v6 : X9 77 6 = X0 77 59 := by rw [hX9, up2_42 (by decide), hX8, up2_42 (by decide), hX7, up2_e, hX6, up2_42 (by decide), hX5, up2_42 (by decide), hX4, up2_42 (by decide), hX3, up2_42 (by decide), hX2, up2_42 (by decide), hX1, up2_42 (by decide)]
  have v7 : X9 77 7 = X0 77 60 := by rw [hX9, up2_42 (by decide), hX8, up2_e, hX7, up2_42 (by decide), hX6, up2_42 (by decide), hX5, up2_42 (by decide), hX4, up2_42 (by decide), hX3, up2_42 (by decide), hX2, up2_42 (by decide), hX1, up2_42 (by decide)]
  have v49 : X9 77 49 = X0 77 61 := by rw [hX9, up2_e, hX8, up2_42 (by decide), hX7, up2_42 (by decide), hX6, up2_42 (by decide), hX5, up2_42 (by decide), hX4, up2_42 (by decide), hX3, up2_42 (by decide), hX2, up2_42 (by decide), hX1, up2_42 (by decide)]
  have w1 : X1 77 1 = X0 77 1 := by rw [hX1, up2_42 (by decide)]
  have w54 : X1 77 54 = X0 77 54 := by rw [hX1, up2_42 (by decide)]
  rw [w1, w54] at v1
  clear hX1 hX2 hX3 hX4 hX5 hX6 hX7 hX8 hX9
  refine go_v (cd := cd158) [102] 20 rfl ?_
  have hrun := un_loop (L := L) (xs := xs) (fv := fv) (d := d) (r := r) (rr := rr) (J := J) (P := P) (X := X9) ?_ 6 0 (by omega)
  · rw [cpN_0, up1_id] at hrun
    exact go_sb hrun ⟨rfl, rfl, trivial⟩ rfl rfl rfl
  · refine go_v (cd := cd158) [] 20 rfl ?_
    show aTo L xs fv 111 _ cd158 (130, _, [.int (X9 77 53)], _) _
    rw [hXq 53 (by decide) (by decide) (by decide) (by decide) (by decide) (by decide) (by decide) (by decide) (by decide)]
    refine go_ireturn (cd := cd158) rfl (K _ ⟨fun j h1 h2 => ?_, fun q hq q11 q49 => ?_, ?_, ?_, ?_, ?_, ?_, ?_, ?_, ?_, ?_, fun k hk => ?_⟩)
    · rw [up1_ne h2, hXo j h1]
    · rw [up1_ne (by decide), hXq q (by omega) (by omega) (by omega) (by omega) (by omega) (by omega) (by omega) (by omega) (by omega)]
    · rw [up1_ne (by decide), v11]
    · rw [up1_ne (by decide), v1]
    · rw [up1_ne (by decide), v2]
    · rw [up1_ne (by decide), v3]
    · rw [up1_ne (by decide), v4]
    · rw [up1_ne (by decide), v5]
    · rw [up1_ne (by decide), v6]
    · rw [up1_ne (by decide), v7]
    · rw [up1_ne (by decide), v49]
    · rw [up1_e]
      unfold cpN
      rw [if_pos hk, hXo 105 (by decide)]
/-- the sails since: as bits, both ways -/
theorem un_bits {s a b : Int32} (h0 : 0 ≤ s) (h6 : s ≤ 6) : b ||| (a &&& ((-1) <<< (s &&& 31))) = (a &&& (((1 <<< (s &&& 31)) - 1) ^^^ -1) ||| b) := by
  have e : (-1) <<< (s &&& 31) = ((1 <<< (s &&& 31)) - 1) ^^^ -1 := by
    rcases seven h0 h6 with rfl | rfl | rfl | rfl | rfl | rfl | rfl <;> decide
  rw [e]
  exact Int32.or_comm _ _
/-- the class's scene behind undo -/
def unC (I Y : Nat → Nat → Int32) : Prop := (∀ j, j ≠ 1 → j ≠ 2 → j ≠ 19 → Y j = I j) ∧ Y 1 5 = I 1 5 ∧ Y 1 6 = (I 3 6 ||| (I 1 6 &&& ((-1) <<< (I 3 5 &&& 31)))) ∧ (∀ q, q < 10 → q ≠ 5 → q ≠ 6 → Y 1 q = I 3 q) ∧ (∀ k, k < 6 → Y 2 k = I 4 k) ∧ ((I 1 8 = I 3 8 ∧ Y 19 = I 19) ∨ ∀ k, k < 1152 → Y 19 k = -1)
theorem un_done {A : Nat → List Cl} {Y X : Nat → Nat → Int32} (hv : aInv r A I J) (h51 : ¬ I 77 51 = 0) (hY : unC I Y) (hF : unF ((1 <<< (I 77 53 &&& 31)) - 1) Y X) : aIn (aHp r rr X J) := by
  obtain ⟨h1, h2, h3, h4, h5, h6, h7, h8, h9, hA, hU, hC, hX⟩ := hv
  obtain ⟨s0, s1, s2, s3, s4, s5, s6, s7, s8, s9⟩ := h1
  obtain ⟨r0, r1, r2, r3, r4, r5, r6, r7, r8, r9, rA, rB, rC, rD, rE, rF⟩ := h2
  obtain ⟨k1, k2, k3⟩ := h4
  have hk1 : I 0 3 = 1 := k2.resolve_left (fun h => h51 (by rw [← k1]; exact h))
  have h511 : I 77 51 = 1 := by rw [← k1]; exact hk1
  obtain ⟨⟨c0, c1, c2, c3, c4, c5, c6, c7, c8, c9⟩, ⟨d0, d1, d2, d3, d4, d5, d6, d7, d8, d9, dA, dB, dC, dD⟩, kq⟩ := k3 hk1
  obtain ⟨y0, y5, y6, y1, y2, y19⟩ := hY
  obtain ⟨f0, f7, f11, f1, f2, f3, f4, f5, f6, f77, f49, f104⟩ := hF
  have e : ∀ j, j ≠ 1 → j ≠ 2 → j ≠ 19 → j ≠ 77 → j ≠ 104 → X j = I j := fun j a b c g h => by rw [f0 j g h, y0 j a b c]
  have k : ∀ q, (q = 0 ∨ 7 < q) → q ≠ 11 → q ≠ 49 → X 77 q = I 77 q := fun q a b c => by rw [f7 q a b c, y0 77 (by decide) (by decide) (by decide)]
  have yy : ∀ q, Y 77 q = I 77 q := fun q => by rw [y0 77 (by decide) (by decide) (by decide)]
  rw [yy] at f11 f2 f3 f4 f5 f6 f77 f49
  rw [yy, yy] at f1
  have x1 : X 1 = Y 1 := f0 1 (by decide) (by decide)
  have x2 : X 2 = Y 2 := f0 2 (by decide) (by decide)
  have x19 : X 19 = Y 19 := f0 19 (by decide) (by decide)
  have hw : Y 1 6 = X 77 1 := by
    rw [y6, f1, c6, s6, c5]
    exact un_bits d0 (Int32.le_trans d1 r1)
  have kk : ∀ q, ((Nat.beq q 0 || Nat.blt 7 q) && (!(Nat.beq q 11) && !(Nat.beq q 49))) = true → X 77 q = I 77 q := fun q hq => by
    rw [Bool.and_eq_true, Bool.and_eq_true, Bool.or_eq_true] at hq
    refine k q ?_ ?_ ?_
    · rcases hq.1 with h | h
      · exact Or.inl (Nat.eq_of_beq_eq_true h)
      · exact Or.inr (Nat.le_of_ble_eq_true h)
    · intro e; subst e; exact absurd hq.2.1 (by decide)
    · intro e; subst e; exact absurd hq.2.2 (by decide)
  have E : ∀ j, (!(Nat.beq j 1) && (!(Nat.beq j 2) && (!(Nat.beq j 19) && (!(Nat.beq j 77) && !(Nat.beq j 104))))) = true → X j = I j := fun j hj => e j (by intro h; subst h; cases hj) (by intro h; subst h; cases hj) (by intro h; subst h; cases hj) (by intro h; subst h; cases hj) (by intro h; subst h; cases hj)
  refine aIn_mk (A := A) ?_ ?_ ?_ ?_ ?_ ?_ ?_ ?_ ?_ ?_ ?_ ?_ ?_
  · unfold iS
    rw [x1, hw, y5, y1 0 (by decide) (by decide) (by decide), y1 1 (by decide) (by decide) (by decide), y1 2 (by decide) (by decide) (by decide), y1 3 (by decide) (by decide) (by decide), y1 4 (by decide) (by decide) (by decide), y1 7 (by decide) (by decide) (by decide), y1 8 (by decide) (by decide) (by decide), y1 9 (by decide) (by decide) (by decide), kk 0 rfl, f4, f5, f6, f77, f3, f2, f11, f49]
    exact ⟨c0, c1, c2, c3, c4, s5, rfl, c7, c8, c9⟩
  · unfold iR
    rw [E 0 rfl, kk 0 rfl, kk 10 rfl, f4, f5, f6, f3, f11, f49]
    refine ⟨r0, r1, d2, ?_, d4, d5, d6, d7, d8, d9, dA, dB, rC, dC, dD, rF⟩
    clear hw f1
    grind
  · unfold iQ
    intro q hq
    rw [x2, y2 q hq, f104 q hq, y0 105 (by decide) (by decide) (by decide)]
    exact kq q hq
  · unfold iK
    rw [E 0 rfl, E 3 rfl, E 4 rfl, E 105 rfl, kk 51 rfl, kk 52 rfl, kk 53 rfl, kk 54 rfl, kk 55 rfl, kk 56 rfl, kk 57 rfl, kk 58 rfl, kk 59 rfl, kk 60 rfl, kk 61 rfl, kk 0 rfl, kk 10 rfl]
    exact ⟨k1, k2, k3⟩
  · unfold iW
    rw [E 7 rfl, E 8 rfl, E 78 rfl, E 79 rfl]; exact h5
  · unfold iT
    rw [E 9 rfl, E 10 rfl, E 80 rfl, kk 12 rfl]; exact h6
  · exact iG_c (by rw [E 0 rfl]) (kk 29 rfl) (E 91 rfl) (E 92 rfl) (E 93 rfl) (E 94 rfl) (fun j hj => e j (by omega) (by omega) (by omega) (by omega) (by omega)) h7
  · exact iP_c (E 107 rfl) (E 108 rfl) (fun j hj => by have := hj.1; have := hj.2; exact e j (by omega) (by omega) (by omega) (by omega) (by omega)) h8
  · unfold iB
    rw [E 0 rfl, E 29 rfl, kk 63 rfl, E 106 rfl]; exact h9
  · unfold iA
    rw [E 21 rfl, E 24 rfl, E 92 rfl]; exact hA
  · unfold iU
    rw [f4, f1, f2, kk 51 rfl, kk 57 rfl, kk 54 rfl, kk 55 rfl]
    refine ⟨fun h => ⟨?_, (hU.2 h511 h).2⟩, hU.2⟩
    rw [bt_or, (hU.2 h511 h).1, Bool.or_true]
  · exact iC_c (kk 10 rfl) (E 81 rfl) (E 82 rfl) (E 83 rfl) (E 84 rfl) (E 85 rfl) (E 86 rfl) (E 87 rfl) (fun j hj => e j (by omega) (by omega) (by omega) (by omega) (by omega)) (fun j hj => e j (by omega) (by omega) (by omega) (by omega) (by omega)) hC
  · rcases y19 with ⟨ya, yb⟩ | yb
    · refine iX_c (kk 0 rfl) ?_ (x19.trans yb) (E 78 rfl) hX
      rw [f11, ← c8, ← ya, s8]
    · intro z s w t hz hs hw ht
      rw [x19]
      exact Or.inl (yb _ (by omega))
set_option maxHeartbeats 4000000 in
theorem pr_undo {h : aH} (hi : aIn h) : aPair L xs fv (d + 4) 57 158 [] h := by
  obtain ⟨r, rr, A, I, J, rfl, hv⟩ := hi
  have hk := hv.2.2.2.1.1
  have hdone := aIn_of hv rr
  refine cl_of rfl (Nat.le_add_right _ _) ?_
  refine go_v (cd := cd57) [] 20 rfl ?_
  by_cases h51 : I 0 3 = 0
  · refine go_st (cd := cd57) 1 rfl (go_ifT h51 ?_)
    refine go_v (cd := cd57) [] 20 rfl ?_
    exact go_ireturn (cd := cd57) rfl ⟨Or.inl rfl, _, rfl, rf_undo (d := d + 3) (fun _ => ⟨rfl, rfl, hdone⟩) (fun h => absurd (by rw [← hk]; exact h51) h)⟩
  refine go_st (cd := cd57) 1 rfl (go_ifF h51 ?_)
  have h51' : ¬ I 77 51 = 0 := fun h => h51 (hk.trans h)
  have h53 := (hv.2.2.2.1.2.2 (hv.2.2.2.1.2.1.resolve_left h51)).1.2.2.2.2.2.1
  have hend : ∀ Y, unC I Y → aCl L xs fv 111 (d + 4) 158 [.ref 77] (aHp r rr Y J) (fun rv2 h2 => h2.1 = 111 + 3 * r ∧ rv2 = some (.int (I 3 5)) ∧ aIn h2) := fun Y hY => by
    have y77 : Y 77 = I 77 := hY.1 77 (by decide) (by decide) (by decide)
    refine rf_undo (d := d + 3) (fun h => absurd (by rw [← y77]; exact h) h51') (fun _ X hF => ⟨rfl, ?_, ?_⟩)
    · rw [y77, h53]
    · rw [y77] at hF
      exact un_done hv h51' hY hF
  have hbec : ∀ (same : Int32), (same = 0 ∨ I 1 8 = I 3 8) → aTo L xs fv 111 (d + 3) cd57 (60, [(3, .int (I 1 6 &&& ((-1) <<< (I 3 5 &&& 31)))), (1, .int (I 1 5)), (0, .ref 0)], [.int same], aHp r rr I J) (fun rv h1 => (h1.1 = (aHp r rr I J).1 ∨ 57 = 41) ∧ ∃ v, rv = some v ∧ aCl L xs fv 111 (d + 4) 158 (.ref 77 :: []) h1 (fun rv2 h2 => h2.1 = h1.1 ∧ rv2 = some v ∧ aIn h2)) := fun same hsame => by
    refine go_v (cd := cd57) [] 20 rfl ?_
    refine go_callv (cd := cd57) rfl rfl rfl rfl rfl (lv3 rfl) rfl (cl_become13 ⟨rfl, ?_⟩)
    have o1 : up1 (up1 I 1 (cpN 10 (I 3) (I 1))) 2 (cpN 6 (I 4) (I 2)) 1 = cpN 10 (I 3) (I 1) := by rw [up1_ne (by decide), up1_e]
    have o2 : up1 (up1 I 1 (cpN 10 (I 3) (I 1))) 2 (cpN 6 (I 4) (I 2)) 2 = cpN 6 (I 4) (I 2) := up1_e
    have oo : ∀ j, j ≠ 1 → j ≠ 2 → up1 (up1 I 1 (cpN 10 (I 3) (I 1))) 2 (cpN 6 (I 4) (I 2)) j = I j := fun j a b => by rw [up1_ne b, up1_ne a]
    generalize up1 (up1 I 1 (cpN 10 (I 3) (I 1))) 2 (cpN 6 (I 4) (I 2)) = Y0 at *
    refine go_v (cd := cd57) [81] 20 rfl ?_
    show aTo L xs fv 111 _ cd57 (81, _, [], aHp r rr (up2 Y0 1 5 (I 1 5)) J) _
    obtain ⟨Y1, hY1⟩ : ∃ X, X = up2 Y0 1 5 (I 1 5) := ⟨_, rfl⟩
    rw [← hY1]
    refine go_v (cd := cd57) [97] 20 rfl ?_
    show aTo L xs fv 111 _ cd57 (97, _, [], aHp r rr (up2 Y1 1 6 (Y1 3 6 ||| (I 1 6 &&& ((-1) <<< (I 3 5 &&& 31))))) J) _
    have y36 : Y1 3 6 = I 3 6 := by rw [hY1, up2_ne (by decide), oo 3 (by decide) (by decide)]
    rw [y36]
    obtain ⟨Y2, hY2⟩ : ∃ X, X = up2 Y1 1 6 (I 3 6 ||| (I 1 6 &&& ((-1) <<< (I 3 5 &&& 31)))) := ⟨_, rfl⟩
    rw [← hY2]
    have p0 : ∀ j, j ≠ 1 → j ≠ 2 → Y2 j = I j := fun j a b => by rw [hY2, up2_ne a, hY1, up2_ne a, oo j a b]
    have p5 : Y2 1 5 = I 1 5 := by rw [hY2, up2_42 (by decide), hY1, up2_e]
    have p6 : Y2 1 6 = (I 3 6 ||| (I 1 6 &&& ((-1) <<< (I 3 5 &&& 31)))) := by rw [hY2, up2_e]
    have p1 : ∀ q, q < 10 → q ≠ 5 → q ≠ 6 → Y2 1 q = I 3 q := fun q hq a b => by
      rw [hY2, up2_42 b, hY1, up2_42 a, o1]
      unfold cpN
      rw [if_pos hq]
    have p2 : ∀ k, k < 6 → Y2 2 k = I 4 k := fun k hk => by
      rw [hY2, up2_ne (by decide), hY1, up2_ne (by decide), o2]
      unfold cpN
      rw [if_pos hk]
    clear hY2 hY1
    refine go_v (cd := cd57) [] 20 rfl ?_
    by_cases hs : same = 0
    · refine go_st (cd := cd57) 1 rfl (go_ifT hs ?_)
      refine go_v (cd := cd57) [] 20 rfl ?_
      refine go_calls (cd := cd57) rfl rfl rfl rfl rfl (fillI (n := 1152) (by decide) rfl (lv3 rfl) (Nat.le_add_right _ _) ⟨rfl, ?_⟩)
      refine go_v (cd := cd57) [] 20 rfl ?_
      show aTo L xs fv 111 _ cd57 (117, _, [.int (Y2 3 5)], aHp r rr (up1 Y2 19 (fun q => if q < 1152 then -1 else Y2 19 q)) J) _
      rw [p0 3 (by decide) (by decide)]
      refine go_ireturn (cd := cd57) rfl ⟨Or.inl rfl, _, rfl, hend _ ⟨fun j a b c => ?_, ?_, ?_, fun q a b c => ?_, fun k hk => ?_, Or.inr (fun k hk => ?_)⟩⟩
      · rw [up1_ne c]; exact p0 j a b
      · rw [up1_ne (by decide)]; exact p5
      · rw [up1_ne (by decide)]; exact p6
      · rw [up1_ne (by decide)]; exact p1 q a b c
      · rw [up1_ne (by decide)]; exact p2 k hk
      · rw [up1_e, if_pos hk]
    · refine go_st (cd := cd57) 1 rfl (go_ifF hs ?_)
      refine go_v (cd := cd57) [] 20 rfl ?_
      show aTo L xs fv 111 _ cd57 (117, _, [.int (Y2 3 5)], aHp r rr Y2 J) _
      rw [p0 3 (by decide) (by decide)]
      exact go_ireturn (cd := cd57) rfl ⟨Or.inl rfl, _, rfl, hend _ ⟨fun j a b c => p0 j a b, p5, p6, p1, p2, Or.inl ⟨hsame.resolve_left hs, p0 19 (by decide) (by decide)⟩⟩⟩
  refine go_v (cd := cd57) [38] 20 rfl ?_
  refine go_sb ?_ (l' := [(3, .int (I 1 6 &&& ((-1) <<< (I 3 5 &&& 31)))), (1, .int (I 1 5)), (0, .ref 0)]) ⟨rfl, rfl, rfl, trivial⟩ rfl rfl rfl
  refine go_v (cd := cd57) [] 20 rfl ?_
  by_cases h8 : I 1 8 = I 3 8
  · refine go_st (cd := cd57) 1 rfl (go_ifT h8 ?_)
    refine go_v (cd := cd57) [60] 20 rfl ?_
    exact hbec 1 (Or.inr h8)
  · refine go_st (cd := cd57) 1 rfl (go_ifF h8 ?_)
    refine go_v (cd := cd57) [60] 20 rfl ?_
    exact hbec 0 (Or.inl rfl)
end UN
