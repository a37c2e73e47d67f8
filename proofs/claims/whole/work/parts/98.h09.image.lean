/-! image, undo -/
section IM
variable {L : Nat} {xs : Nat → Int32} {fv : Value} {d : Nat} {r : Nat} {rr : Option Nat} {I : Nat → Nat → Int32} {J : Nat → Nat → Int64} {P : Option Value → aH → Prop}
theorem cpN_0 {f g : Nat → Int32} : cpN 0 f g = g := by funext q; unfold cpN; rw [if_neg (by omega)]
theorem cpN_s {f g : Nat → Int32} {X : Nat → Nat → Int32} {i j : Nat} (hg : g = X i) : up2 (up1 X i (cpN j f g)) i j (f j) = up1 X i (cpN (j + 1) f g) := by
  rw [up21_1]
  refine congrArg _ (funext fun q => ?_)
  unfold cpN
  by_cases h1 : q = j
  · rw [if_pos h1, if_pos (by omega), h1]
  · rw [if_neg h1]
    by_cases h2 : q < j
    · rw [if_pos h2, if_pos (by omega)]
    · rw [if_neg h2, if_neg (by omega)]
theorem im_loop {X : Nat → Nat → Int32} (K : aTo L xs fv 111 d cd157 (111, [(0, .ref 77)], [], aHp r rr (up1 X 105 (cpN 6 (X 104) (X 105))) J) P) : ∀ m j, j + m = 6 → aTo L xs fv 111 d cd157 (87, [(1, .int (nI j)), (0, .ref 77)], [], aHp r rr (up1 X 105 (cpN j (X 104) (X 105))) J) P
  | 0, j, hj => by
    have hj : j = 6 := hj
    subst hj
    refine go_v (cd := cd157) [] 20 rfl ?_
    refine go_st (cd := cd157) 1 rfl (go_ifT (by decide) ?_)
    exact go_sb K ⟨rfl, trivial⟩ rfl rfl rfl
  | m + 1, j, hj => by
    refine go_v (cd := cd157) [] 20 rfl ?_
    refine go_st (cd := cd157) 1 rfl (go_ifF (nI_ge (b := 6) (by omega) (by decide)) ?_)
    refine go_v (cd := cd157) [] 20 rfl ?_
    refine go_iald (cd := cd157) rfl (nI_vin (n := 6) (by omega) (by decide)) (lv3 rfl) rfl ?_
    rw [nI_clamp (show j < 2 ^ 31 by omega), up1_ne (show 104 ≠ 105 by decide)]
    refine go_iast (cd := cd157) rfl (nI_vin (n := 6) (by omega) (by decide)) (lv3 rfl) rfl ?_
    rw [nI_clamp (show j < 2 ^ 31 by omega), cpN_s rfl]
    refine go_v (cd := cd157) [87] 20 rfl ?_
    exact go_sb (im_loop K m (j + 1) (by omega)) ⟨by rw [nI_succ]; rfl, rfl, trivial⟩ rfl rfl rfl
theorem un_loop {X : Nat → Nat → Int32} (K : aTo L xs fv 111 d cd158 (126, [(0, .ref 77)], [], aHp r rr (up1 X 104 (cpN 6 (X 105) (X 104))) J) P) : ∀ m j, j + m = 6 → aTo L xs fv 111 d cd158 (102, [(2, .int (nI j)), (0, .ref 77)], [], aHp r rr (up1 X 104 (cpN j (X 105) (X 104))) J) P
  | 0, j, hj => by
    have hj : j = 6 := hj
    subst hj
    refine go_v (cd := cd158) [] 20 rfl ?_
    refine go_st (cd := cd158) 1 rfl (go_ifT (by decide) ?_)
    exact go_sb K ⟨rfl, trivial⟩ rfl rfl rfl
  | m + 1, j, hj => by
    refine go_v (cd := cd158) [] 20 rfl ?_
    refine go_st (cd := cd158) 1 rfl (go_ifF (nI_ge (b := 6) (by omega) (by decide)) ?_)
    refine go_v (cd := cd158) [] 20 rfl ?_
    refine go_iald (cd := cd158) rfl (nI_vin (n := 6) (by omega) (by decide)) (lv3 rfl) rfl ?_
    rw [nI_clamp (show j < 2 ^ 31 by omega), up1_ne (show 105 ≠ 104 by decide)]
    refine go_iast (cd := cd158) rfl (nI_vin (n := 6) (by omega) (by decide)) (lv3 rfl) rfl ?_
    rw [nI_clamp (show j < 2 ^ 31 by omega), cpN_s rfl]
    refine go_v (cd := cd158) [102] 20 rfl ?_
    exact go_sb (un_loop K m (j + 1) (by omega)) ⟨by rw [nI_succ]; rfl, rfl, trivial⟩ rfl rfl rfl
/-- the reference's image -/
def imF (X0 X : Nat → Nat → Int32) : Prop := (∀ j, j ≠ 77 → j ≠ 105 → X j = X0 j) ∧ (∀ q, q < 51 ∨ 61 < q → X 77 q = X0 77 q) ∧ X 77 51 = 1 ∧ X 77 52 = X0 77 11 ∧ X 77 53 = X0 77 0 ∧ X 77 54 = X0 77 1 ∧ X 77 55 = X0 77 2 ∧ X 77 56 = X0 77 3 ∧ X 77 57 = X0 77 4 ∧ X 77 58 = X0 77 5 ∧ X 77 59 = X0 77 6 ∧ X 77 60 = X0 77 7 ∧ X 77 61 = X0 77 49 ∧ ∀ k, k < 6 → X 105 k = X0 104 k
set_option maxHeartbeats 4000000 in
theorem rf_image {I : Nat → Nat → Int32} (K : ∀ X, imF I X → P (some (.int (I 77 0))) (aHp r rr X J)) : aCl L xs fv 111 (d + 1) 157 [.ref 77] (aHp r rr I J) P := by
  refine cl_of rfl (Nat.le_add_right _ _) ?_
  refine go_v (cd := cd157) [] 20 rfl ?_
  refine go_putz (cd := cd157) rfl (lv3 rfl) rfl (Or.inr rfl) rfl ?_
  show aTo L xs fv 111 _ cd157 (5, _, [], aHp r rr (up2 I 77 51 1) J) _
  obtain ⟨X0, hX0⟩ : ∃ X, X = up2 I 77 51 1 := ⟨_, rfl⟩
  rw [← hX0]
  refine go_v (cd := cd157) [13] 20 rfl ?_
  show aTo L xs fv 111 _ cd157 (13, _, [], aHp r rr (up2 X0 77 52 (X0 77 11)) J) _
  obtain ⟨X1, hX1⟩ : ∃ X, X = up2 X0 77 52 (X0 77 11) := ⟨_, rfl⟩
  rw [← hX1]
  refine go_v (cd := cd157) [21] 20 rfl ?_
  show aTo L xs fv 111 _ cd157 (21, _, [], aHp r rr (up2 X1 77 53 (X1 77 0)) J) _
  obtain ⟨X2, hX2⟩ : ∃ X, X = up2 X1 77 53 (X1 77 0) := ⟨_, rfl⟩
  rw [← hX2]
  refine go_v (cd := cd157) [29] 20 rfl ?_
  show aTo L xs fv 111 _ cd157 (29, _, [], aHp r rr (up2 X2 77 54 (X2 77 1)) J) _
  obtain ⟨X3, hX3⟩ : ∃ X, X = up2 X2 77 54 (X2 77 1) := ⟨_, rfl⟩
  rw [← hX3]
  refine go_v (cd := cd157) [37] 20 rfl ?_
  show aTo L xs fv 111 _ cd157 (37, _, [], aHp r rr (up2 X3 77 55 (X3 77 2)) J) _
  obtain ⟨X4, hX4⟩ : ∃ X, X = up2 X3 77 55 (X3 77 2) := ⟨_, rfl⟩
  rw [← hX4]
  refine go_v (cd := cd157) [45] 20 rfl ?_
  show aTo L xs fv 111 _ cd157 (45, _, [], aHp r rr (up2 X4 77 56 (X4 77 3)) J) _
  obtain ⟨X5, hX5⟩ : ∃ X, X = up2 X4 77 56 (X4 77 3) := ⟨_, rfl⟩
  rw [← hX5]
  refine go_v (cd := cd157) [53] 20 rfl ?_
  show aTo L xs fv 111 _ cd157 (53, _, [], aHp r rr (up2 X5 77 57 (X5 77 4)) J) _
  obtain ⟨X6, hX6⟩ : ∃ X, X = up2 X5 77 57 (X5 77 4) := ⟨_, rfl⟩
  rw [← hX6]
  refine go_v (cd := cd157) [61] 20 rfl ?_
  show aTo L xs fv 111 _ cd157 (61, _, [], aHp r rr (up2 X6 77 58 (X6 77 5)) J) _
  obtain ⟨X7, hX7⟩ : ∃ X, X = up2 X6 77 58 (X6 77 5) := ⟨_, rfl⟩
  rw [← hX7]
  refine go_v (cd := cd157) [69] 20 rfl ?_
  show aTo L xs fv 111 _ cd157 (69, _, [], aHp r rr (up2 X7 77 59 (X7 77 6)) J) _
  obtain ⟨X8, hX8⟩ : ∃ X, X = up2 X7 77 59 (X7 77 6) := ⟨_, rfl⟩
  rw [← hX8]
  refine go_v (cd := cd157) [77] 20 rfl ?_
  show aTo L xs fv 111 _ cd157 (77, _, [], aHp r rr (up2 X8 77 60 (X8 77 7)) J) _
  obtain ⟨X9, hX9⟩ : ∃ X, X = up2 X8 77 60 (X8 77 7) := ⟨_, rfl⟩
  rw [← hX9]
  refine go_v (cd := cd157) [85] 20 rfl ?_
  show aTo L xs fv 111 _ cd157 (85, _, [], aHp r rr (up2 X9 77 61 (X9 77 49)) J) _
  obtain ⟨X10, hX10⟩ : ∃ X, X = up2 X9 77 61 (X9 77 49) := ⟨_, rfl⟩
  rw [← hX10]
  have hXo : ∀ j, j ≠ 77 → X10 j = X0 j := fun j hj => by rw [hX10, up2_ne hj, hX9, up2_ne hj, hX8, up2_ne hj, hX7, up2_ne hj, hX6, up2_ne hj, hX5, up2_ne hj, hX4, up2_ne hj, hX3, up2_ne hj, hX2, up2_ne hj, hX1, up2_ne hj]
  have hXq : ∀ q, q ≠ 52 → q ≠ 53 → q ≠ 54 → q ≠ 55 → q ≠ 56 → q ≠ 57 → q ≠ 58 → q ≠ 59 → q ≠ 60 → q ≠ 61 → X10 77 q = X0 77 q := fun q h1 h2 h3 h4 h5 h6 h7 h8 h9 h10 => by rw [hX10, up2_42 h10, hX9, up2_42 h9, hX8, up2_42 h8, hX7, up2_42 h7, hX6, up2_42 h6, hX5, up2_42 h5, hX4, up2_42 h4, hX3, up2_42 h3, hX2, up2_42 h2, hX1, up2_42 h1]
  have v52 : X10 77 52 = X0 77 11 := by rw [hX10, up2_42 (by decide), hX9, up2_42 (by decide), hX8, up2_42 (by decide), hX7, up2_42 (by decide), hX6, up2_42 (by decide), hX5, up2_42 (by decide), hX4, up2_42 (by decide), hX3, up2_42 (by decide), hX2, up2_42 (by decide), hX1, up2_e]
  have v53 : X10 77 53 = X0 77 0 := by rw [hX10, up2_42 (by decide), hX9, up2_42 (by decide), hX8, up2_42 (by decide), hX7, up2_42 (by decide), hX6, up2_42 (by decide), hX5, up2_42 (by decide), hX4, up2_42 (by decide), hX3, up2_42 (by decide), hX2, up2_e, hX1, up2_42 (by decide)]
  have v54 : X10 77 54 = X0 77 1 := by rw [hX10, up2_42 (by decide), hX9, up2_42 (by decide), hX8, up2_42 (by decide), hX7, up2_42 (by decide), hX6, up2_42 (by decide), hX5, up2_42 (by decide), hX4, up2_42 (by decide), hX3, up2_e, hX2, up2_42 (by decide), hX1, up2_42 (by decide)]
  have v55 : X10 77 55 = X0 77 2 := by rw [hX10, up2_42 (by decide), hX9, up2_42 (by decide), hX8, up2_42 (by decide), hX7, up2_42 (by decide), hX6, up2_42 (by decide), hX5, up2_42 (by decide), hX4, up2_e, hX3, up2_42 (by decide), hX2, up2_42 (by decide), hX1, up2_42 (by decide)]
  have v56 : X10 77 56 = X0 77 3 := by rw [hX10, up2_42 (by decide), hX9, up2_42 (by decide), hX8, up2_42 (by decide), hX7, up2_42 (by decide), hX6, up2_42 (by decide), hX5, up2_e, hX4, up2_42 (by decide), hX3, up2_42 (by decide), hX2, up2_42 (by decide), hX1, up2_42 (by decide)]
  have v57 : X10 77 57 = X0 77 4 := by rw [hX10, up2_42 (by decide), hX9, up2_42 (by decide), hX8, up2_42 (by decide), hX7, up2_42 (by decide), hX6, up2_e, hX5, up2_42 (by decide), hX4, up2_42 (by decide), hX3, up2_42 (by decide), hX2, up2_42 (by decide), hX1, up2_42 (by decide)]
  have v58 : X10 77 58 = X0 77 5 := by rw [hX10, up2_42 (by decide), hX9, up2_42 (by decide), hX8, up2_42 (by decide), hX7, up2_e, hX6, up2_42 (by decide), hX5, up2_42 (by decide), hX4, up2_42 (by decide), hX3, up2_42 (by decide), hX2, up2_42 (by decide), hX1, up2_42 (by decide)]
  have v59 : X10 77 59 = X0 77 6 := by rw [hX10, up2_42 (by decide), hX9, up2_42 (by decide), hX8, up2_e, hX7, up2_42 (by decide), hX6, up2_42 (by decide), hX5, up2_42 (by decide), hX4, up2_42 (by decide), hX3, up2_42 (by decide), hX2, up2_42 (by decide), hX1, up2_42 (by decide)]
  have v60 : X10 77 60 = X0 77 7 := by rw [hX10, up2_42 (by decide), hX9, up2_e, hX8, up2_42 (by decide), hX7, up2_42 (by decide), hX6, up2_42 (by decide), hX5, up2_42 (by decide), hX4, up2_42 (by decide), hX3, up2_42 (by decide), hX2, up2_42 (by decide), hX1, up2_42 (by decide)]
  have v61 : X10 77 61 = X0 77 49 := by rw [hX10, up2_e, hX9, up2_42 (by decide), hX8, up2_42 (by decide), hX7, up2_42 (by decide), hX6, up2_42 (by decide), hX5, up2_42 (by decide), hX4, up2_42 (by decide), hX3, up2_42 (by decide), hX2, up2_42 (by decide), hX1, up2_42 (by decide)]
  have hI0 : ∀ j, j ≠ 77 → X0 j = I j := fun j hj => by rw [hX0, up2_ne hj]
  have hI7 : ∀ q, q ≠ 51 → X0 77 q = I 77 q := fun q hq => by rw [hX0, up2_42 hq]
  have h51 : X0 77 51 = 1 := by rw [hX0, up2_e]
  clear hX0 hX1 hX2 hX3 hX4 hX5 hX6 hX7 hX8 hX9 hX10
  refine go_v (cd := cd157) [87] 20 rfl ?_
  have hrun := im_loop (L := L) (xs := xs) (fv := fv) (d := d) (r := r) (rr := rr) (J := J) (P := P) (X := X10) ?_ 6 0 (by omega)
  · rw [cpN_0, up1_id] at hrun
    exact go_sb hrun ⟨rfl, rfl, trivial⟩ rfl rfl rfl
  · refine go_v (cd := cd157) [] 20 rfl ?_
    show aTo L xs fv 111 _ cd157 (115, _, [.int (X10 77 0)], _) _
    rw [hXq 0 (by decide) (by decide) (by decide) (by decide) (by decide) (by decide) (by decide) (by decide) (by decide) (by decide), hI7 0 (by decide)]
    refine go_ireturn (cd := cd157) rfl (K _ ⟨fun j h1 h2 => ?_, fun q hq => ?_, ?_, ?_, ?_, ?_, ?_, ?_, ?_, ?_, ?_, ?_, ?_, fun k hk => ?_⟩)
    · rw [up1_ne h2, hXo j h1, hI0 j h1]
    · rw [up1_ne (by decide), hXq q (by omega) (by omega) (by omega) (by omega) (by omega) (by omega) (by omega) (by omega) (by omega) (by omega), hI7 q (by omega)]
    · rw [up1_ne (by decide), hXq 51 (by decide) (by decide) (by decide) (by decide) (by decide) (by decide) (by decide) (by decide) (by decide) (by decide), h51]
    · rw [up1_ne (by decide), v52, hI7 11 (by decide)]
    · rw [up1_ne (by decide), v53, hI7 0 (by decide)]
    · rw [up1_ne (by decide), v54, hI7 1 (by decide)]
    · rw [up1_ne (by decide), v55, hI7 2 (by decide)]
    · rw [up1_ne (by decide), v56, hI7 3 (by decide)]
    · rw [up1_ne (by decide), v57, hI7 4 (by decide)]
    · rw [up1_ne (by decide), v58, hI7 5 (by decide)]
    · rw [up1_ne (by decide), v59, hI7 6 (by decide)]
    · rw [up1_ne (by decide), v60, hI7 7 (by decide)]
    · rw [up1_ne (by decide), v61, hI7 49 (by decide)]
    · rw [up1_e]
      unfold cpN
      rw [if_pos hk, hXo 104 (by decide), hI0 104 (by decide)]
set_option maxHeartbeats 4000000 in
theorem pr_image {h : aH} (hi : aIn h) : aPair L xs fv (d + 4) 56 157 [] h := by
  obtain ⟨r, rr, A, I, J, rfl, hv⟩ := hi
  obtain ⟨h1, h2, h3, h4, h5, h6, h7, h8, h9, hA, hU, hC, hX⟩ := hv
  obtain ⟨s0, s1, s2, s3, s4, s5, s6, s7, s8, s9⟩ := h1
  refine cl_of rfl (Nat.le_add_right _ _) ?_
  refine go_v (cd := cd56) [] 20 rfl ?_
  refine go_callv (cd := cd56) rfl rfl rfl rfl rfl (lv3 rfl) rfl (cl_become31 ⟨rfl, ?_⟩)
  have o3 : up1 (up1 I 3 (cpN 10 (I 1) (I 3))) 4 (cpN 6 (I 2) (I 4)) 3 = cpN 10 (I 1) (I 3) := by rw [up1_ne (by decide), up1_e]
  have o4 : up1 (up1 I 3 (cpN 10 (I 1) (I 3))) 4 (cpN 6 (I 2) (I 4)) 4 = cpN 6 (I 2) (I 4) := up1_e
  have oo : ∀ j, j ≠ 3 → j ≠ 4 → up1 (up1 I 3 (cpN 10 (I 1) (I 3))) 4 (cpN 6 (I 2) (I 4)) j = I j := fun j a b => by rw [up1_ne b, up1_ne a]
  generalize up1 (up1 I 3 (cpN 10 (I 1) (I 3))) 4 (cpN 6 (I 2) (I 4)) = Y at *
  refine go_v (cd := cd56) [] 20 rfl ?_
  refine go_putz (cd := cd56) rfl (lv3 rfl) rfl (Or.inr rfl) rfl ?_
  refine go_v (cd := cd56) [] 20 rfl ?_
  show aTo L xs fv 111 _ cd56 (23, _, [.int (Y 1 5)], aHp r rr (up2 Y 0 3 1) J) _
  refine go_ireturn (cd := cd56) rfl ⟨Or.inl rfl, _, rfl, ?_⟩
  refine rf_image (d := d + 3) (fun X hF => ⟨rfl, ?_, ?_⟩)
  · rw [up2_ne (by decide), oo 77 (by decide) (by decide), oo 1 (by decide) (by decide), s5]
  obtain ⟨f0, f7, f51, f52, f53, f54, f55, f56, f57, f58, f59, f60, f61, f105⟩ := hF
  have e : ∀ j, j ≠ 0 → j ≠ 3 → j ≠ 4 → j ≠ 77 → j ≠ 105 → X j = I j := fun j a b c g h => by rw [f0 j g h, up2_ne a, oo j b c]
  have k : ∀ q, q < 51 ∨ 61 < q → X 77 q = I 77 q := fun q hq => by rw [f7 q hq, up2_ne (by decide), oo 77 (by decide) (by decide)]
  have k0 : ∀ q, q ≠ 3 → X 0 q = I 0 q := fun q hq => by rw [f0 0 (by decide) (by decide), up2_42 hq, oo 0 (by decide) (by decide)]
  have y77 : ∀ q, up2 Y 0 3 1 77 q = I 77 q := fun q => by rw [up2_ne (by decide), oo 77 (by decide) (by decide)]
  have x3 : X 3 = cpN 10 (I 1) (I 3) := by rw [f0 3 (by decide) (by decide), up2_ne (by decide), o3]
  have x4 : X 4 = cpN 6 (I 2) (I 4) := by rw [f0 4 (by decide) (by decide), up2_ne (by decide), o4]
  have kk : ∀ q, (Nat.blt q 51 || Nat.blt 61 q) = true → X 77 q = I 77 q := fun q hq => k q (by
    rcases (Bool.or_eq_true _ _).mp hq with h | h
    · exact Or.inl (Nat.le_of_ble_eq_true h)
    · exact Or.inr (Nat.le_of_ble_eq_true h))
  have r0 := h2
  unfold iR at r0
  obtain ⟨r0, r1, r2, r3, r4, r5, r6, r7, r8, r9, rA, rB, rC, rD, rE, rF⟩ := r0
  refine aIn_mk (A := A) ?_ ?_ ?_ ?_ ?_ ?_ ?_ ?_ ?_ ?_ ?_ ?_ ?_
  · unfold iS
    rw [e 1 (by decide) (by decide) (by decide) (by decide) (by decide), kk 4 rfl, kk 5 rfl, kk 6 rfl, kk 7 rfl, kk 3 rfl, kk 0 rfl, kk 1 rfl, kk 2 rfl, kk 11 rfl, kk 49 rfl]
    exact ⟨s0, s1, s2, s3, s4, s5, s6, s7, s8, s9⟩
  · unfold iR
    rw [k0 9 (by decide), kk 4 rfl, kk 5 rfl, kk 6 rfl, kk 3 rfl, kk 0 rfl, kk 11 rfl, kk 10 rfl, kk 49 rfl]
    exact h2
  · unfold iQ
    rw [e 2 (by decide) (by decide) (by decide) (by decide) (by decide), e 104 (by decide) (by decide) (by decide) (by decide) (by decide)]
    exact h3
  · unfold iK
    rw [f51, f52, f53, f54, f55, f56, f57, f58, f59, f60, f61, y77, y77, y77, y77, y77, y77, y77, y77, y77, y77, x3, x4, f0 0 (by decide) (by decide), up2_e, kk 0 rfl, kk 10 rfl]
    refine ⟨rfl, Or.inr rfl, fun _ => ⟨⟨s0, s1, s2, s3, s4, s5, s6, s7, s8, s9⟩, ⟨r0, Int32.le_refl _, r2, r3, r4, r5, r6, r7, r8, r9, rA, rB, rD, rE⟩, fun q hq => ?_⟩⟩
    rw [f105 q hq, up2_ne (by decide), oo 104 (by decide) (by decide)]
    unfold cpN
    rw [if_pos hq]
    exact h3 q hq
  · unfold iW
    rw [e 7 (by decide) (by decide) (by decide) (by decide) (by decide), e 8 (by decide) (by decide) (by decide) (by decide) (by decide), e 78 (by decide) (by decide) (by decide) (by decide) (by decide), e 79 (by decide) (by decide) (by decide) (by decide) (by decide)]
    exact h5
  · unfold iT
    rw [e 9 (by decide) (by decide) (by decide) (by decide) (by decide), e 10 (by decide) (by decide) (by decide) (by decide) (by decide), e 80 (by decide) (by decide) (by decide) (by decide) (by decide), kk 12 rfl]
    exact h6
  · exact iG_c (k0 12 (by decide)) (kk 29 rfl) (e 91 (by decide) (by decide) (by decide) (by decide) (by decide)) (e 92 (by decide) (by decide) (by decide) (by decide) (by decide)) (e 93 (by decide) (by decide) (by decide) (by decide) (by decide)) (e 94 (by decide) (by decide) (by decide) (by decide) (by decide)) (fun j hj => e j (by omega) (by omega) (by omega) (by omega) (by omega)) h7
  · exact iP_c (e 107 (by decide) (by decide) (by decide) (by decide) (by decide)) (e 108 (by decide) (by decide) (by decide) (by decide) (by decide)) (fun j hj => by have := hj.1; have := hj.2; exact e j (by omega) (by omega) (by omega) (by omega) (by omega)) h8
  · unfold iB
    rw [k0 18 (by decide), e 29 (by decide) (by decide) (by decide) (by decide) (by decide), kk 63 rfl, e 106 (by decide) (by decide) (by decide) (by decide) (by decide)]
    exact h9
  · unfold iA
    rw [e 21 (by decide) (by decide) (by decide) (by decide) (by decide), e 24 (by decide) (by decide) (by decide) (by decide) (by decide), e 92 (by decide) (by decide) (by decide) (by decide) (by decide)]
    exact hA
  · unfold iU
    rw [kk 4 rfl, kk 1 rfl, kk 2 rfl, f57, f54, f55, y77, y77, y77]
    exact ⟨hU.1, fun _ => hU.1⟩
  · exact iC_c (kk 10 rfl) (e 81 (by decide) (by decide) (by decide) (by decide) (by decide)) (e 82 (by decide) (by decide) (by decide) (by decide) (by decide)) (e 83 (by decide) (by decide) (by decide) (by decide) (by decide)) (e 84 (by decide) (by decide) (by decide) (by decide) (by decide)) (e 85 (by decide) (by decide) (by decide) (by decide) (by decide)) (e 86 (by decide) (by decide) (by decide) (by decide) (by decide)) (e 87 (by decide) (by decide) (by decide) (by decide) (by decide)) (fun j hj => e j (by omega) (by omega) (by omega) (by omega) (by omega)) (fun j hj => e j (by omega) (by omega) (by omega) (by omega) (by omega)) hC
  · exact iX_c (kk 0 rfl) (kk 11 rfl) (e 19 (by decide) (by decide) (by decide) (by decide) (by decide)) (e 78 (by decide) (by decide) (by decide) (by decide) (by decide)) hX
end IM
