/-! rule -/
theorem aRf_far {r r' : Nat} {rr : Option Nat} {i k : Nat} (h : i < 111) (h20 : i ≠ 20) : aRf r rr i k = aRf r' rr i k := by
  unfold aRf
  rw [blt_t h, cond_true, cond_true]
  cases h1 : Nat.blt i 55 with
  | false => rfl
  | true =>
  rw [cond_true, cond_true]
  cases h2 : Nat.blt i 27 with
  | false => rfl
  | true =>
  rw [cond_true, cond_true]
  cases h3 : Nat.blt i 13 with
  | true => rfl
  | false =>
  rw [cond_false, cond_false]
  cases h4 : Nat.blt i 20 with
  | true => rfl
  | false =>
  rw [cond_false, cond_false]
  cases h5 : Nat.blt i 23 with
  | false => rfl
  | true =>
  rw [cond_true, cond_true]
  cases h6 : Nat.blt i 21 with
  | false => rfl
  | true =>
    exfalso
    have a1 : i + 1 ≤ 21 := Nat.le_of_ble_eq_true h6
    have a2 : ¬ i < 20 := fun h => by rw [blt_t h] at h4; cases h4
    omega
theorem aRf_big {r : Nat} {rr : Option Nat} {i k : Nat} (h : 111 ≤ i) : aRf r rr i k = if i < 111 + 3 * r ∧ (i - 111) % 3 = 0 then (if k = 3 then some (i + 1) else if k = 4 then some (i + 2) else none) else none := by
  unfold aRf
  rw [blt_f h, cond_false]
  by_cases h1 : i < 111 + 3 * r
  · rw [blt_t h1]
    by_cases h2 : (i - 111) % 3 = 0
    · rw [if_pos ⟨h1, h2⟩, h2]
      by_cases h3 : k = 3
      · subst h3; rfl
      · rw [if_neg h3]
        by_cases h4 : k = 4
        · subst h4; rfl
        · rw [if_neg h4, show Nat.beq k 3 = false from beq_f h3, show Nat.beq k 4 = false from beq_f h4]; rfl
    · rw [if_neg (fun h => h2 h.2), show Nat.beq ((i - 111) % 3) 0 = false from beq_f h2]; rfl
  · rw [if_neg (fun h => h1 h.1), blt_f (by omega)]; rfl
theorem aRf_new {r : Nat} {rr : Option Nat} : up2 (up2 (up1 (up2 (up1 (up1 (aRf r rr) (111 + 3 * r) (fun _ => none)) (111 + 3 * r + 1) (fun _ => none)) (111 + 3 * r) 3 (some (111 + 3 * r + 1))) (111 + 3 * r + 1 + 1) (fun _ => none)) (111 + 3 * r) 4 (some (111 + 3 * r + 1 + 1))) 20 r (some (111 + 3 * r)) = aRf (r + 1) rr := by
  funext i k
  by_cases h : i < 111
  · by_cases h20 : i = 20
    · subst h20
      rw [up2_at]
      by_cases hk : k = r
      · subst hk; rw [if_pos rfl, aRf_20 (Nat.lt_succ_self _)]
      · rw [if_neg hk, up2_ne (by omega), up1_ne (by omega), up2_ne (by omega), up1_ne (by omega), up1_ne (by omega)]
        show (bif Nat.blt k r then some (111 + 3 * k) else none) = (bif Nat.blt k (r + 1) then some (111 + 3 * k) else none)
        by_cases h2 : k < r
        · rw [blt_t h2, blt_t (show k < r + 1 by omega)]
        · rw [blt_f (show r ≤ k by omega), blt_f (show r + 1 ≤ k by omega)]
    · rw [up2_ne h20, up2_ne (by omega), up1_ne (by omega), up2_ne (by omega), up1_ne (by omega), up1_ne (by omega)]
      exact aRf_far h h20
  · rw [up2_ne (by omega), aRf_big (by omega)]
    by_cases h1 : i = 111 + 3 * r
    · subst h1
      have hc : 111 + 3 * r < 111 + 3 * (r + 1) ∧ (111 + 3 * r - 111) % 3 = 0 := by omega
      rw [if_pos hc, up2_at, up1_ne (by omega), up2_at, up1_ne (by omega), up1_e]
      by_cases k4 : k = 4
      · subst k4; rfl
      · by_cases k3 : k = 3
        · subst k3; rfl
        · rw [if_neg k4, if_neg k3, if_neg k3, if_neg k4]
    · rw [up2_ne h1]
      by_cases h2 : i = 111 + 3 * r + 1 + 1
      · subst h2; rw [up1_e, if_neg (by omega)]
      · rw [up1_ne h2, up2_ne h1]
        by_cases h3 : i = 111 + 3 * r + 1
        · subst h3; rw [up1_e, if_neg (by omega)]
        · rw [up1_ne h3, up1_ne h1, aRf_big (by omega)]
          by_cases h4 : i < 111 + 3 * r ∧ (i - 111) % 3 = 0
          · have h5 : i < 111 + 3 * (r + 1) ∧ (i - 111) % 3 = 0 := ⟨by omega, h4.2⟩
            rw [if_pos h4, if_pos h5]
          · rw [if_neg h4, if_neg (by omega)]
section RL
variable {L : Nat} {xs : Nat → Int32} {fv : Value} {d : Nat} {r : Nat} {rr : Option Nat} {I : Nat → Nat → Int32} {J : Nat → Nat → Int64} {P : Option Value → aH → Prop}
theorem fill_step {I : Nat → Nat → Int32} {c lo j : Nat} {x : Int32} : up2 (up1 I c (fun q => if lo ≤ q ∧ q < lo + j then x else I c q)) c (lo + j) x = up1 I c (fun q => if lo ≤ q ∧ q < lo + (j + 1) then x else I c q) := by
  rw [up21_1]
  refine congrArg _ (funext fun q => ?_)
  by_cases h1 : q = lo + j
  · rw [if_pos h1, if_pos (by omega)]
  · rw [if_neg h1]
    by_cases h2 : lo ≤ q ∧ q < lo + j
    · rw [if_pos h2, if_pos (by omega)]
    · rw [if_neg h2, if_neg (by omega)]
theorem fill_0 {I : Nat → Nat → Int32} {c lo : Nat} {x : Int32} : up1 I c (fun q => if lo ≤ q ∧ q < lo + 0 then x else I c q) = I := by
  have e1 : (fun q => if lo ≤ q ∧ q < lo + 0 then x else I c q) = I c := by funext q; rw [if_neg (by omega)]
  rw [e1]; exact up1_id
theorem rl_l1 {w v : Int32} {g : Nat} (hg : I 77 29 = nI g) (hg10 : g < 10) (K : aTo L xs fv 111 d cd128 (86, [(0, .ref 77), (1, .int w), (2, .int v)], [], aHp r rr (up1 I 93 (fun q => if 4 * g ≤ q ∧ q < 4 * g + 4 then -1 else I 93 q)) J) P) : ∀ m j, j + m = 4 → aTo L xs fv 111 d cd128 (61, [(3, .int (nI j)), (0, .ref 77), (1, .int w), (2, .int v)], [], aHp r rr (up1 I 93 (fun q => if 4 * g ≤ q ∧ q < 4 * g + j then -1 else I 93 q)) J) P
  | 0, j, hj => by
    have hj : j = 4 := hj
    subst hj
    refine go_v (cd := cd128) [] 20 rfl ?_
    refine go_st (cd := cd128) 1 rfl (go_ifT (by decide) ?_)
    exact go_sb K ⟨rfl, rfl, rfl, trivial⟩ rfl rfl rfl
  | m + 1, j, hj => by
    have hx : 4 * nI g + nI j = nI (4 * g + j) := by rw [show (4 : Int32) = nI 4 from rfl, nI_mul, nI_add]
    refine go_v (cd := cd128) [] 20 rfl ?_
    refine go_st (cd := cd128) 1 rfl (go_ifF (nI_ge (b := 4) (by omega) (by decide)) ?_)
    refine go_v (cd := cd128) [] 20 rfl ?_
    show aTo L xs fv 111 _ cd128 (_, _, [.int (-1), .int (4 * (I 77 29) + nI j), .ref 93], _) _
    rw [hg, hx]
    refine go_iast (cd := cd128) rfl (nI_vin (n := 44) (by omega) (by decide)) (lv3 rfl) rfl ?_
    rw [nI_clamp (show 4 * g + j < 2 ^ 31 by omega), fill_step]
    refine go_v (cd := cd128) [61] 20 rfl ?_
    exact go_sb (rl_l1 hg hg10 K m (j + 1) (by omega)) ⟨by rw [nI_succ]; rfl, rfl, rfl, rfl, trivial⟩ rfl rfl rfl
theorem rl_l2 {w v : Int32} {g : Nat} (hg : I 77 29 = nI g) (hg10 : g < 10) (K : aTo L xs fv 111 d cd128 (113, [(0, .ref 77), (1, .int w), (2, .int v)], [], aHp r rr (up1 I 94 (fun q => if 5 * g ≤ q ∧ q < 5 * g + 5 then -1 else I 94 q)) J) P) : ∀ m j, j + m = 5 → aTo L xs fv 111 d cd128 (88, [(3, .int (nI j)), (0, .ref 77), (1, .int w), (2, .int v)], [], aHp r rr (up1 I 94 (fun q => if 5 * g ≤ q ∧ q < 5 * g + j then -1 else I 94 q)) J) P
  | 0, j, hj => by
    have hj : j = 5 := hj
    subst hj
    refine go_v (cd := cd128) [] 20 rfl ?_
    refine go_st (cd := cd128) 1 rfl (go_ifT (by decide) ?_)
    exact go_sb K ⟨rfl, rfl, rfl, trivial⟩ rfl rfl rfl
  | m + 1, j, hj => by
    have hx : 5 * nI g + nI j = nI (5 * g + j) := by rw [show (5 : Int32) = nI 5 from rfl, nI_mul, nI_add]
    refine go_v (cd := cd128) [] 20 rfl ?_
    refine go_st (cd := cd128) 1 rfl (go_ifF (nI_ge (b := 5) (by omega) (by decide)) ?_)
    refine go_v (cd := cd128) [] 20 rfl ?_
    show aTo L xs fv 111 _ cd128 (_, _, [.int (-1), .int (5 * (I 77 29) + nI j), .ref 94], _) _
    rw [hg, hx]
    refine go_iast (cd := cd128) rfl (nI_vin (n := 55) (by omega) (by decide)) (lv3 rfl) rfl ?_
    rw [nI_clamp (show 5 * g + j < 2 ^ 31 by omega), fill_step]
    refine go_v (cd := cd128) [88] 20 rfl ?_
    exact go_sb (rl_l2 hg hg10 K m (j + 1) (by omega)) ⟨by rw [nI_succ]; rfl, rfl, rfl, rfl, trivial⟩ rfl rfl rfl
/-- a rule, as the reference makes it -/
def rlF (g : Nat) (w v : Int32) (I X : Nat → Nat → Int32) : Prop := (∀ j, j ≠ 77 → j ≠ 91 → j ≠ 92 → j ≠ 93 → j ≠ 94 → X j = I j) ∧ (∀ q, q ≠ 29 → X 77 q = I 77 q) ∧ X 77 29 = nI (g + 1) ∧ (∀ q, X 91 q = if q = g then w else I 91 q) ∧ (∀ q, X 92 q = if q = g then v else I 92 q) ∧ (∀ q, X 93 q = if 4 * g ≤ q ∧ q < 4 * g + 4 then -1 else I 93 q) ∧ (∀ q, X 94 q = if 5 * g ≤ q ∧ q < 5 * g + 5 then -1 else I 94 q)
theorem rf_rule {w v : Int32} {g : Nat} (hg : I 77 29 = nI g) (hg10 : g ≤ 10) (k1 : ¬ (0 ≤ w ∧ w ≤ 6) → P (some (.int (-1))) (aHp r rr I J)) (k2 : (0 ≤ w ∧ w ≤ 6) → ¬ (0 ≤ v ∧ v ≤ 9) → P (some (.int (-2))) (aHp r rr I J)) (k3 : (0 ≤ w ∧ w ≤ 6) → (0 ≤ v ∧ v ≤ 9) → g = 10 → P (some (.int (-4))) (aHp r rr I J)) (K : (0 ≤ w ∧ w ≤ 6) → (0 ≤ v ∧ v ≤ 9) → g < 10 → ∀ X, rlF g w v I X → P (some (.int (nI g))) (aHp r rr X J)) : aCl L xs fv 111 (d + 2) 128 [.ref 77, .int w, .int v] (aHp r rr I J) P := by
  refine cl_of rfl (Nat.le_add_right _ _) ?_
  refine go_v (cd := cd128) [] 20 rfl ?_
  refine go_callv (cd := cd128) rfl rfl rfl rfl rfl (lv3 rfl) rfl (cl_in (fun hw => ⟨rfl, ?_⟩) (fun hw => ⟨rfl, ?_⟩))
  case refine_2 =>
    refine go_st (cd := cd128) 1 rfl (go_ifT rfl ?_)
    refine go_v (cd := cd128) [] 20 rfl ?_
    exact go_ireturn (cd := cd128) rfl (k1 hw)
  refine go_st (cd := cd128) 1 rfl (go_ifF (by decide) ?_)
  refine go_v (cd := cd128) [] 20 rfl ?_
  refine go_callv (cd := cd128) rfl rfl rfl rfl rfl (lv3 rfl) rfl (cl_in (fun hv => ⟨rfl, ?_⟩) (fun hv => ⟨rfl, ?_⟩))
  case refine_2 =>
    refine go_st (cd := cd128) 1 rfl (go_ifT rfl ?_)
    refine go_v (cd := cd128) [] 20 rfl ?_
    exact go_ireturn (cd := cd128) rfl (k2 hw hv)
  refine go_st (cd := cd128) 1 rfl (go_ifF (by decide) ?_)
  refine go_v (cd := cd128) [] 20 rfl ?_
  by_cases h10 : g = 10
  · refine go_st (cd := cd128) 1 rfl (go_ifT (show I 77 29 = 10 by rw [hg, h10]; rfl) ?_)
    refine go_v (cd := cd128) [] 20 rfl ?_
    exact go_ireturn (cd := cd128) rfl (k3 hw hv h10)
  have K := K hw hv (by omega)
  refine go_st (cd := cd128) 1 rfl (go_ifF (show ¬ I 77 29 = 10 from fun h => h10 ((nI_eq (b := 10) (by omega) (by decide)).mp (hg.symm.trans h))) ?_)
  refine go_v (cd := cd128) [] 20 rfl ?_
  show aTo L xs fv 111 _ cd128 (48, _, [.int w, .int (I 77 29), .ref 91], _) _
  rw [hg]
  refine go_iast (cd := cd128) rfl (nI_vin (n := 11) (by omega) (by decide)) (lv3 rfl) rfl ?_
  rw [nI_clamp (show g < 2 ^ 31 by omega)]
  refine go_v (cd := cd128) [] 20 rfl ?_
  show aTo L xs fv 111 _ cd128 (58, _, [.int v, .int (I 77 29), .ref 92], aHp r rr (up2 I 91 g w) J) _
  rw [hg]
  refine go_iast (cd := cd128) rfl (nI_vin (n := 11) (by omega) (by decide)) (lv3 rfl) rfl ?_
  rw [nI_clamp (show g < 2 ^ 31 by omega)]
  refine go_v (cd := cd128) [61] 20 rfl ?_
  have g2 : up2 (up2 I 91 g w) 92 g v 77 29 = nI g := by rw [up2_ne (by decide), up2_ne (by decide)]; exact hg
  have hF0 : (∀ j, j ≠ 91 → j ≠ 92 → up2 (up2 I 91 g w) 92 g v j = I j) := fun j a b => by rw [up2_ne b, up2_ne a]
  have hF1 : ∀ q, up2 (up2 I 91 g w) 92 g v 91 q = if q = g then w else I 91 q := fun q => by rw [up2_ne (by decide), up2_at]
  have hF2 : ∀ q, up2 (up2 I 91 g w) 92 g v 92 q = if q = g then v else I 92 q := fun q => by rw [up2_at, up2_ne (by decide)]
  generalize up2 (up2 I 91 g w) 92 g v = X at *
  have hrun := rl_l1 (L := L) (xs := xs) (fv := fv) (d := d + 1) (r := r) (rr := rr) (I := X) (J := J) (P := P) (w := w) (v := v) g2 (by omega) ?_ 4 0 (by omega)
  · rw [fill_0] at hrun
    exact go_sb hrun ⟨rfl, rfl, rfl, rfl, trivial⟩ rfl rfl rfl
  refine go_v (cd := cd128) [88] 20 rfl ?_
  have g3 : up1 X 93 (fun q => if 4 * g ≤ q ∧ q < 4 * g + 4 then -1 else X 93 q) 77 29 = nI g := by rw [up1_ne (by decide)]; exact g2
  have hF3 : ∀ j, j ≠ 93 → up1 X 93 (fun q => if 4 * g ≤ q ∧ q < 4 * g + 4 then -1 else X 93 q) j = X j := fun j a => up1_ne a
  have hF4 : ∀ q, up1 X 93 (fun q => if 4 * g ≤ q ∧ q < 4 * g + 4 then -1 else X 93 q) 93 q = if 4 * g ≤ q ∧ q < 4 * g + 4 then -1 else X 93 q := fun q => by rw [up1_e]
  generalize up1 X 93 (fun q => if 4 * g ≤ q ∧ q < 4 * g + 4 then -1 else X 93 q) = Y at *
  have hrun := rl_l2 (L := L) (xs := xs) (fv := fv) (d := d + 1) (r := r) (rr := rr) (I := Y) (J := J) (P := P) (w := w) (v := v) g3 (by omega) ?_ 5 0 (by omega)
  · rw [fill_0] at hrun
    exact go_sb hrun ⟨rfl, rfl, rfl, rfl, trivial⟩ rfl rfl rfl
  have g4 : up1 Y 94 (fun q => if 5 * g ≤ q ∧ q < 5 * g + 5 then -1 else Y 94 q) 77 29 = nI g := by rw [up1_ne (by decide)]; exact g3
  have hF5 : ∀ j, j ≠ 94 → up1 Y 94 (fun q => if 5 * g ≤ q ∧ q < 5 * g + 5 then -1 else Y 94 q) j = Y j := fun j a => up1_ne a
  have hF6 : ∀ q, up1 Y 94 (fun q => if 5 * g ≤ q ∧ q < 5 * g + 5 then -1 else Y 94 q) 94 q = if 5 * g ≤ q ∧ q < 5 * g + 5 then -1 else Y 94 q := fun q => by rw [up1_e]
  generalize up1 Y 94 (fun q => if 5 * g ≤ q ∧ q < 5 * g + 5 then -1 else Y 94 q) = Z at *
  refine go_v (cd := cd128) [123] 20 rfl ?_
  show aTo L xs fv 111 _ cd128 (123, _, [], aHp r rr (up2 Z 77 29 (Z 77 29 + 1)) J) _
  rw [g4, ← nI_succ]
  refine go_v (cd := cd128) [] 20 rfl ?_
  show aTo L xs fv 111 _ cd128 (129, _, [.int (nI (g + 1) - 1)], _) _
  rw [nI_pred]
  refine go_ireturn (cd := cd128) rfl (K _ ⟨fun j a b c e f => ?_, fun q hq => ?_, ?_, fun q => ?_, fun q => ?_, fun q => ?_, fun q => ?_⟩)
  · rw [up2_ne a, hF5 j f, hF3 j e, hF0 j b c]
  · rw [up2_42 hq, hF5 77 (by decide), hF3 77 (by decide), hF0 77 (by decide) (by decide)]
  · rw [up2_e]
  · rw [up2_ne (by decide), hF5 91 (by decide), hF3 91 (by decide)]; exact hF1 q
  · rw [up2_ne (by decide), hF5 92 (by decide), hF3 92 (by decide)]; exact hF2 q
  · rw [up2_ne (by decide), hF5 93 (by decide), hF4 q, hF0 93 (by decide) (by decide)]
  · rw [up2_ne (by decide), hF6 q, hF3 94 (by decide), hF0 94 (by decide) (by decide)]
/-- a rule, as the class makes it -/
def rlC (r : Nat) (w v : Int32) (I Y : Nat → Nat → Int32) : Prop := (∀ j, j ≠ 0 → j ≠ 111 + 3 * r → j ≠ 112 + 3 * r → j ≠ 113 + 3 * r → Y j = I j) ∧ (∀ q, q ≠ 12 → Y 0 q = I 0 q) ∧ Y 0 12 = nI (r + 1) ∧ Y (111 + 3 * r) 0 = nI r ∧ Y (111 + 3 * r) 1 = w ∧ Y (111 + 3 * r) 2 = v ∧ (∀ q, q < 4 → Y (112 + 3 * r) q = -1) ∧ (∀ q, q < 5 → Y (113 + 3 * r) q = -1)
theorem rl_done {A : Nat → List Cl} {w v : Int32} {Y X : Nat → Nat → Int32} {J' : Nat → Nat → Int64} (hv0 : aInv r A I J) (hw : 0 ≤ w ∧ w ≤ 6) (hvv : 0 ≤ v ∧ v ≤ 9) (hr10 : r < 10) (hY : rlC r w v I Y) (hF : rlF r w v Y X) (hJ : ∀ j, j < 111 → J' j = J j) : aIn (aHp (r + 1) rr X J') := by
  obtain ⟨h1, h2, h3, h4, h5, h6, ⟨g1, g2, g3, g4⟩, h8, h9, hA, hU, hC, hX⟩ := hv0
  obtain ⟨y0, y1, y2, y3, y4, y5, y6, y7⟩ := hY
  obtain ⟨f0, f1, f2, f3, f4, f5, f6⟩ := hF
  have e : ∀ j, j < 111 → j ≠ 0 → j ≠ 77 → j ≠ 91 → j ≠ 92 → j ≠ 93 → j ≠ 94 → X j = I j := fun j hj a b c g h k => by rw [f0 j b c g h k, y0 j a (by omega) (by omega) (by omega)]
  have k : ∀ q, Nat.beq q 29 = false → X 77 q = I 77 q := fun q hq => by
    rw [f1 q (by intro e; subst e; cases hq), y0 77 (by decide) (by omega) (by omega) (by omega)]
  have k0 : ∀ q, Nat.beq q 12 = false → X 0 q = I 0 q := fun q hq => by
    rw [f0 0 (by decide) (by decide) (by decide) (by decide) (by decide), y1 q (by intro e; subst e; cases hq)]
  have E : ∀ j, (Nat.blt j 111 && (!(Nat.beq j 0) && (!(Nat.beq j 77) && (!(Nat.beq j 91) && (!(Nat.beq j 92) && (!(Nat.beq j 93) && !(Nat.beq j 94))))))) = true → X j = I j := fun j hj => e j (by
      rw [Bool.and_eq_true] at hj
      exact Nat.le_of_ble_eq_true hj.1) (by intro h; subst h; cases hj) (by intro h; subst h; cases hj) (by intro h; subst h; cases hj) (by intro h; subst h; cases hj) (by intro h; subst h; cases hj) (by intro h; subst h; cases hj)
  have yI : ∀ j, (j = 91 ∨ j = 92 ∨ j = 93 ∨ j = 94) → Y j = I j := fun j hj => y0 j (by omega) (by omega) (by omega) (by omega)
  refine aIn_mk (A := A) ?_ ?_ ?_ ?_ ?_ ?_ ⟨?_, f2, by omega, fun q hq => ?_⟩ ?_ ?_ ?_ ?_ ?_ ?_
  · unfold iS at h1 ⊢; rw [E 1 rfl, k 4 rfl, k 5 rfl, k 6 rfl, k 7 rfl, k 3 rfl, k 0 rfl, k 1 rfl, k 2 rfl, k 11 rfl, k 49 rfl]; exact h1
  · unfold iR at h2 ⊢; rw [k0 9 rfl, k 4 rfl, k 5 rfl, k 6 rfl, k 3 rfl, k 0 rfl, k 11 rfl, k 10 rfl, k 49 rfl]; exact h2
  · unfold iQ at h3 ⊢; rw [E 2 rfl, E 104 rfl]; exact h3
  · unfold iK at h4 ⊢; rw [k0 3 rfl, E 3 rfl, E 4 rfl, E 105 rfl, k 51 rfl, k 57 rfl, k 58 rfl, k 59 rfl, k 60 rfl, k 56 rfl, k 53 rfl, k 54 rfl, k 55 rfl, k 52 rfl, k 61 rfl, k 0 rfl, k 10 rfl]; exact h4
  · unfold iW at h5 ⊢; rw [E 7 rfl, E 8 rfl, E 78 rfl, E 79 rfl]; exact h5
  · unfold iT at h6 ⊢; rw [E 9 rfl, E 10 rfl, E 80 rfl, k 12 rfl]; exact h6
  · rw [f0 0 (by decide) (by decide) (by decide) (by decide) (by decide)]; exact y2
  · rw [f0 (111 + 3 * q) (by omega) (by omega) (by omega) (by omega) (by omega), f0 (112 + 3 * q) (by omega) (by omega) (by omega) (by omega) (by omega), f0 (113 + 3 * q) (by omega) (by omega) (by omega) (by omega) (by omega), f3, f4]
    by_cases hqr : q = r
    · subst hqr
      rw [if_pos rfl, if_pos rfl]
      refine ⟨y3, y4, hw.1, hw.2, y5, hvv.1, hvv.2, fun u hu => ?_, fun u hu => ?_⟩
      · rw [f5, if_pos (by omega), y6 u hu]; exact ⟨rfl, by decide, by decide⟩
      · rw [f6, if_pos (by omega), y7 u hu]; exact ⟨rfl, by decide, by decide⟩
    · rw [if_neg hqr, if_neg hqr, y0 (111 + 3 * q) (by omega) (by omega) (by omega) (by omega), y0 (112 + 3 * q) (by omega) (by omega) (by omega) (by omega), y0 (113 + 3 * q) (by omega) (by omega) (by omega) (by omega), yI 91 (by omega), yI 92 (by omega)]
      obtain ⟨a1, a2, a3, a4, a5, a6, a7, a8, a9⟩ := g4 q (by omega)
      refine ⟨a1, a2, a3, a4, a5, a6, a7, fun u hu => ?_, fun u hu => ?_⟩
      · rw [f5, if_neg (by omega), yI 93 (by omega)]; exact a8 u hu
      · rw [f6, if_neg (by omega), yI 94 (by omega)]; exact a9 u hu
  · intro t ht
    rw [e (65 + 2 * t) (by omega) (by omega) (by omega) (by omega) (by omega) (by omega) (by omega), E 107 rfl, E 108 rfl, hJ (66 + 2 * t) (by omega), hJ 109 (by omega)]
    exact h8 t ht
  · unfold iB at h9 ⊢; rw [k0 18 rfl, E 29 rfl, k 63 rfl, E 106 rfl]; exact h9
  · unfold iA at hA ⊢; rw [E 21 rfl, E 24 rfl, f4, if_neg (show ¬ 10 = r by omega), yI 92 (by omega)]; exact hA
  · unfold iU at hU ⊢; rw [k 4 rfl, k 1 rfl, k 2 rfl, k 51 rfl, k 57 rfl, k 54 rfl, k 55 rfl]; exact hU
  · exact iC_c (k 10 rfl) (E 81 rfl) (E 82 rfl) (E 83 rfl) (E 84 rfl) (E 85 rfl) (E 86 rfl) (E 87 rfl) (fun j hj => e j (by omega) (by omega) (by omega) (by omega) (by omega) (by omega) (by omega)) (fun j hj => e j (by omega) (by omega) (by omega) (by omega) (by omega) (by omega) (by omega)) hC
  · exact iX_c (k 0 rfl) (k 11 rfl) (E 19 rfl) (E 78 rfl) hX
set_option maxHeartbeats 4000000 in
/-- rule: the class's heap grows -/
theorem pr_rule {w v : Int32} {h : aH} (hi : aIn h) : aCl L xs fv 111 (d + 4) 40 [.ref 0, .int w, .int v] h (fun rv h1 => ∃ u, rv = some u ∧ aCl L xs fv 111 (d + 4) 128 [.ref 77, .int w, .int v] h1 (fun rv2 h2 => h2.1 = h1.1 ∧ rv2 = some u ∧ aIn h2)) := by
  obtain ⟨r, rr, A, I, J, rfl, hv0⟩ := hi
  have hdone := aIn_of hv0 rr
  obtain ⟨g1, g2, g3, -⟩ := hv0.2.2.2.2.2.2.1
  refine cl_of rfl (Nat.le_add_right _ _) ?_
  refine go_v (cd := cd40) [] 20 rfl ?_
  have h10 : ¬ (0 ≤ w ∧ w ≤ 6) → aTo L xs fv 111 (d + 3) cd40 (10, [(0, .ref 0), (1, .int w), (2, .int v)], [], aHp r rr I J) (fun rv h1 => ∃ u, rv = some u ∧ aCl L xs fv 111 (d + 4) 128 [.ref 77, .int w, .int v] h1 (fun rv2 h2 => h2.1 = h1.1 ∧ rv2 = some u ∧ aIn h2)) := fun hw => by
    refine go_v (cd := cd40) [] 20 rfl ?_
    exact go_ireturn (cd := cd40) rfl ⟨_, rfl, rf_rule (d := d + 2) g2 g3 (fun _ => ⟨rfl, rfl, hdone⟩) (fun h => absurd h hw) (fun h => absurd h hw) (fun h => absurd h hw)⟩
  by_cases hw0 : w < 0
  · exact go_st (cd := cd40) 1 rfl (go_ifT hw0 (h10 (by grind)))
  refine go_st (cd := cd40) 1 rfl (go_ifF hw0 ?_)
  refine go_v (cd := cd40) [] 20 rfl ?_
  by_cases hw7 : w < 7
  case neg => exact go_st (cd := cd40) 1 rfl (go_ifF hw7 (h10 (by grind)))
  refine go_st (cd := cd40) 1 rfl (go_ifT hw7 ?_)
  have hw : 0 ≤ w ∧ w ≤ 6 := by grind
  refine go_v (cd := cd40) [] 20 rfl ?_
  have h22 : ¬ (0 ≤ v ∧ v ≤ 9) → aTo L xs fv 111 (d + 3) cd40 (22, [(0, .ref 0), (1, .int w), (2, .int v)], [], aHp r rr I J) (fun rv h1 => ∃ u, rv = some u ∧ aCl L xs fv 111 (d + 4) 128 [.ref 77, .int w, .int v] h1 (fun rv2 h2 => h2.1 = h1.1 ∧ rv2 = some u ∧ aIn h2)) := fun hv => by
    refine go_v (cd := cd40) [] 20 rfl ?_
    exact go_ireturn (cd := cd40) rfl ⟨_, rfl, rf_rule (d := d + 2) g2 g3 (fun h => absurd hw h) (fun _ _ => ⟨rfl, rfl, hdone⟩) (fun _ h => absurd h hv) (fun _ h => absurd h hv)⟩
  by_cases hv1 : v < 0
  · exact go_st (cd := cd40) 1 rfl (go_ifT hv1 (h22 (by grind)))
  refine go_st (cd := cd40) 1 rfl (go_ifF hv1 ?_)
  refine go_v (cd := cd40) [] 20 rfl ?_
  by_cases hv9 : v ≤ 9
  case neg => exact go_st (cd := cd40) 1 rfl (go_ifF hv9 (h22 (by grind)))
  refine go_st (cd := cd40) 1 rfl (go_ifT hv9 ?_)
  have hv : 0 ≤ v ∧ v ≤ 9 := by grind
  refine go_v (cd := cd40) [] 20 rfl ?_
  by_cases hr10 : r < 10
  case neg =>
    refine go_st (cd := cd40) 1 rfl (go_ifF (show ¬ I 0 12 < 10 from by rw [g1]; exact nI_nlt (a := r) (b := 10) (by omega) (by omega)) ?_)
    refine go_v (cd := cd40) [] 20 rfl ?_
    exact go_ireturn (cd := cd40) rfl ⟨_, rfl, rf_rule (d := d + 2) g2 g3 (fun h => absurd hw h) (fun _ h => absurd hv h) (fun _ _ _ => ⟨rfl, rfl, hdone⟩) (fun _ _ h => absurd h hr10)⟩
  refine go_st (cd := cd40) 1 rfl (go_ifT (show I 0 12 < 10 from by rw [g1]; exact nI_lt (b := 10) hr10 (by decide)) ?_)
  obtain ⟨ka, kb, kc⟩ := akd_ru (L := L) hr10
  refine go_v (cd := cd40) [] 20 rfl ?_
  show aTo L xs fv 111 _ cd40 (45, _, [.int (I 0 12), .ref 20], aHp r rr I J) _
  rw [g1]
  refine go_new (cd := cd40) rfl ka (by omega) ⟨Or.inl (lv3 rfl), trivial, trivial, trivial⟩ ⟨trivial, Or.inl (lv3 rfl), trivial⟩ ?_
  refine go_v (cd := cd40) [] 20 rfl ?_
  show aTo L xs fv 111 _ cd40 (55, _, [.int v, .int w, .int (up1 I (111 + 3 * r) (fun _ => 0) 0 12), .ref (111 + 3 * r), .ref (111 + 3 * r), .int (nI r), .ref 20], (111 + 3 * r + 1, up1 I (111 + 3 * r) (fun _ => 0), up1 J (111 + 3 * r) (fun _ => 0), up1 (aRf r rr) (111 + 3 * r) (fun _ => none))) _
  rw [up1_ne (show 0 ≠ 111 + 3 * r by omega), g1]
  refine go_callm (cd := cd40) (i := 111 + 3 * r) (ws := [.int (nI r), .int w, .int v]) rfl rfl rfl rfl rfl ⟨Or.inl (Nat.lt_succ_of_lt (lv3 rfl)), trivial, trivial, trivial⟩ ⟨Or.inl (Nat.lt_succ_self _), trivial, Or.inl (Nat.lt_succ_of_lt (lv3 rfl)), trivial⟩ (cl_rinit (by omega) ka (by rw [show 111 + 3 * r + 1 = 112 + 3 * r by omega]; exact kb) (by rw [show 111 + 3 * r + 1 + 1 = 113 + 3 * r by omega]; exact kc) (by omega) (by omega) ⟨rfl, ?_⟩)
  refine go_aast (cd := cd40) rfl (nI_vin (n := 10) hr10 (by decide)) (by omega) (Nat.le_of_ble_eq_true rfl) (Nat.le_of_ble_eq_true rfl) (by omega) (by rw [ka]) rfl ?_
  rw [nI_clamp (show r < 2 ^ 31 by omega), aRf_new]
  have hY : rlC r w v I (up2 (up1 (up1 (up2 (up2 (up2 (up1 (up1 (up1 I (111 + 3 * r) (fun _ => 0)) (111 + 3 * r + 1) (fun _ => 0)) (111 + 3 * r + 1 + 1) (fun _ => 0)) (111 + 3 * r) 0 (nI r)) (111 + 3 * r) 1 w) (111 + 3 * r) 2 v) (111 + 3 * r + 1) (fun q => if q < 4 then -1 else 0)) (111 + 3 * r + 1 + 1) (fun q => if q < 5 then -1 else 0)) 0 12 (nI (r + 1))) := by
    refine ⟨fun j a b c e => ?_, fun q hq => ?_, ?_, ?_, ?_, ?_, fun q hq => ?_, fun q hq => ?_⟩
    · rw [up2_ne a, up1_ne (by omega), up1_ne (by omega), up2_ne b, up2_ne b, up2_ne b, up1_ne (by omega), up1_ne (by omega), up1_ne b]
    · rw [up2_42 hq, up1_ne (by omega), up1_ne (by omega), up2_ne (by omega), up2_ne (by omega), up2_ne (by omega), up1_ne (by omega), up1_ne (by omega), up1_ne (by omega)]
    · rw [up2_e]
    · rw [up2_ne (by omega), up1_ne (by omega), up1_ne (by omega), up2_42 (by decide), up2_42 (by decide), up2_e]
    · rw [up2_ne (by omega), up1_ne (by omega), up1_ne (by omega), up2_42 (by decide), up2_e]
    · rw [up2_ne (by omega), up1_ne (by omega), up1_ne (by omega), up2_e]
    · rw [show 112 + 3 * r = 111 + 3 * r + 1 by omega, up2_ne (by omega), up1_ne (by omega), up1_e, if_pos hq]
    · rw [show 113 + 3 * r = 111 + 3 * r + 1 + 1 by omega, up2_ne (by omega), up1_e, if_pos hq]
  have hJ : ∀ j, j < 111 → up1 (up1 (up1 J (111 + 3 * r) (fun _ => 0)) (111 + 3 * r + 1) (fun _ => 0)) (111 + 3 * r + 1 + 1) (fun _ => 0) j = J j := fun j hj => by rw [up1_ne (by omega), up1_ne (by omega), up1_ne (by omega)]
  have y12 : (up1 (up1 (up2 (up2 (up2 (up1 (up1 (up1 I (111 + 3 * r) (fun _ => 0)) (111 + 3 * r + 1) (fun _ => 0)) (111 + 3 * r + 1 + 1) (fun _ => 0)) (111 + 3 * r) 0 (nI r)) (111 + 3 * r) 1 w) (111 + 3 * r) 2 v) (111 + 3 * r + 1) (fun q => if q < 4 then -1 else 0)) (111 + 3 * r + 1 + 1) (fun q => if q < 5 then -1 else 0)) 0 12 = nI r := by
    rw [up1_ne (by omega), up1_ne (by omega), up2_ne (by omega), up2_ne (by omega), up2_ne (by omega), up1_ne (by omega), up1_ne (by omega), up1_ne (by omega)]; exact g1
  generalize (up1 (up1 (up2 (up2 (up2 (up1 (up1 (up1 I (111 + 3 * r) (fun _ => 0)) (111 + 3 * r + 1) (fun _ => 0)) (111 + 3 * r + 1 + 1) (fun _ => 0)) (111 + 3 * r) 0 (nI r)) (111 + 3 * r) 1 w) (111 + 3 * r) 2 v) (111 + 3 * r + 1) (fun q => if q < 4 then -1 else 0)) (111 + 3 * r + 1 + 1) (fun q => if q < 5 then -1 else 0)) = Y at *
  generalize up1 (up1 (up1 J (111 + 3 * r) (fun _ => 0)) (111 + 3 * r + 1) (fun _ => 0)) (111 + 3 * r + 1 + 1) (fun _ => 0) = J' at *
  show aTo L xs fv 111 _ cd40 (59, _, [], aHp (r + 1) rr Y J') _
  refine go_v (cd := cd40) [69] 20 rfl ?_
  show aTo L xs fv 111 _ cd40 (69, _, [], aHp (r + 1) rr (up2 Y 0 12 (Y 0 12 + 1)) J') _
  rw [y12, ← nI_succ]
  generalize up2 Y 0 12 (nI (r + 1)) = Y' at *
  have z12 := hY.2.2.1
  have z29 : Y' 77 29 = nI r := by rw [hY.1 77 (by decide) (by omega) (by omega) (by omega)]; exact g2
  refine go_v (cd := cd40) [] 20 rfl ?_
  show aTo L xs fv 111 _ cd40 (75, _, [.int (Y' 0 12 - 1)], aHp (r + 1) rr Y' J') _
  rw [z12, nI_pred]
  exact go_ireturn (cd := cd40) rfl ⟨_, rfl, rf_rule (d := d + 2) z29 g3 (fun h => absurd hw h) (fun _ h => absurd hv h) (fun _ _ h => absurd h (by omega)) (fun _ _ _ X hF => ⟨rfl, rfl, rl_done hv0 hw hv hr10 hY hF hJ⟩)⟩
end RL
