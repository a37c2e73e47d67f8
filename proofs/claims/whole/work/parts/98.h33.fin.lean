/-! what a race leaves behind -/
def fin (b f : Nat) (I Y : Nat → Nat → Int32) : Prop := (∀ j, j ≠ 0 → j ≠ 1 → j ≠ 9 → j ≠ 19 → j ≠ 77 → (j < b ∨ b + 6 < j) → (j < 81 ∨ 88 < j) → Y j = I j) ∧ (∀ z, z ≠ 9 → Y 0 z = I 0 z) ∧ (∀ z, z ≠ 8 → Y 1 z = I 1 z) ∧ (∀ z, z ≠ f → Y 81 z = I 81 z) ∧ (∀ j z, 82 ≤ j → j ≤ 86 → z < 10 * f → Y j z = I j z) ∧ (∀ z, z < 100 * f → Y 87 z = I 87 z) ∧ (∀ z, (z < 10 ∨ (14 < z ∧ z < 24) ∨ 26 < z) → Y 77 z = I 77 z) ∧ Y 9 1 = 0 ∧ Y 77 12 = 0
theorem rcR_keep {A : List Cl} {z f : Nat} {I Y : Nat → Nat → Int32} (hz : z < f) (hA : rcWf A) (h81 : ∀ z, z ≠ f → Y 81 z = I 81 z) (h82 : ∀ j z, 82 ≤ j → j ≤ 86 → z < 10 * f → Y j z = I j z) (h87 : ∀ z, z < 100 * f → Y 87 z = I 87 z) (h : rcR A z I) : rcR A z Y := by
  refine ⟨by rw [h81 z (by omega)]; exact h.1, fun c q hq => ?_⟩
  have hl : c < A.length := (List.getElem?_eq_some_iff.mp hq).1
  have hA1 := hA.1
  obtain ⟨h1, h2, h3, h4⟩ := h.2 c q hq
  refine ⟨by rw [h82 82 _ (by decide) (by decide) (by omega)]; exact h1, by rw [h82 83 _ (by decide) (by decide) (by omega)]; exact h2, fun hk => by rw [h82 84 _ (by decide) (by decide) (by omega)]; exact h3 hk, fun hk => ?_⟩
  obtain ⟨h5, h6, h7⟩ := h4 hk
  refine ⟨by rw [h82 85 _ (by decide) (by decide) (by omega)]; exact h5, by rw [h82 86 _ (by decide) (by decide) (by omega)]; exact h6, fun j e he => ?_⟩
  have hg := (List.getElem?_eq_some_iff.mp (cdA_get hq he)).1
  rw [cdA_all] at hg
  have := hA.2.1
  rw [h87 _ (by omega)]
  exact h7 j e he
section FI
variable {r : Nat} {A A' : Nat → List Cl} {I Y : Nat → Nat → Int32} {J : Nat → Nat → Int64} {f g : Nat}
theorem fin_old (hv : aInv r A I J) (hf : f < 5) (h10 : I 77 10 = nI f) (hF : fin (30 + 7 * f) f I Y) : (∀ z, z < f → rcWf (A z) ∧ rcR (A z) z Y ∧ rcC (A z) (30 + 7 * z) Y ∧ rcD (A z) (30 + 7 * z) Y) ∧ rcC [] 12 Y ∧ rcD [] 12 Y := by
  obtain ⟨c1, c2, c3, c4, c5, c6, c7, c8, c9⟩ := hF
  have hC := hv.2.2.2.2.2.2.2.2.2.2.2.1
  refine ⟨fun z hz => ?_, rcC_c (fun j a b => c1 j (by omega) (by omega) (by omega) (by omega) (by omega) (by omega) (by omega)) hC.2.1, rcD_c (fun j a b => c1 j (by omega) (by omega) (by omega) (by omega) (by omega) (by omega) (by omega)) hC.2.2⟩
  obtain ⟨k1, k2, k3, k4⟩ := hC.1 z (by omega) (by rw [h10]; exact nI_lt hz (by omega))
  exact ⟨k1, rcR_keep hz k1 c4 c5 c6 k2, rcC_c (fun j a b => c1 j (by omega) (by omega) (by omega) (by omega) (by omega) (by omega) (by omega)) k3, rcD_c (fun j a b => c1 j (by omega) (by omega) (by omega) (by omega) (by omega) (by omega) (by omega)) k4⟩
set_option maxHeartbeats 4000000 in
theorem fin_all (hv : aInv r A I J) (hf : f < 5) (h10 : I 77 10 = nI f) (hF : fin (30 + 7 * f) f I Y) (hfg : f ≤ g) (hg : g ≤ 5) (e10 : Y 77 10 = nI g) (e09 : Y 0 9 = nI g) (e18 : Y 1 8 = Y 77 11) (h11 : -1 ≤ Y 77 11 ∧ Y 77 11 < Y 77 10) (hC : iC A' Y) (hX : iX A' Y) : aInv r A' Y J := by
  obtain ⟨c1, c2, c3, c4, c5, c6, c7, c8, c9⟩ := hF
  have o : ∀ j, (1 < j ∧ j < 9) ∨ (9 < j ∧ j < 19) ∨ (19 < j ∧ j < 30) ∨ (64 < j ∧ j < 77) ∨ (77 < j ∧ j < 81) ∨ 88 < j → Y j = I j := fun j hj => c1 j (by omega) (by omega) (by omega) (by omega) (by omega) (by omega) (by omega)
  obtain ⟨hS, hR, hQ, hK, hW, hT, hG, hP, hB, hA, hU, _, _⟩ := hv
  refine ⟨?_, ?_, ?_, ?_, ?_, ?_, ?_, ?_, ?_, ?_, ?_, hC, hX⟩
  · obtain ⟨s0, s1, s2, s3, s4, s5, s6, s7, s8, s9⟩ := hS
    refine ⟨?_, ?_, ?_, ?_, ?_, ?_, ?_, ?_, e18, ?_⟩
    · rw [c3 0 (by decide), c7 4 (by decide)]; exact s0
    · rw [c3 1 (by decide), c7 5 (by decide)]; exact s1
    · rw [c3 2 (by decide), c7 6 (by decide)]; exact s2
    · rw [c3 3 (by decide), c7 7 (by decide)]; exact s3
    · rw [c3 4 (by decide), c7 3 (by decide)]; exact s4
    · rw [c3 5 (by decide), c7 0 (by decide)]; exact s5
    · rw [c3 6 (by decide), c7 1 (by decide)]; exact s6
    · rw [c3 7 (by decide), c7 2 (by decide)]; exact s7
    · rw [c3 9 (by decide), c7 49 (by decide)]; exact s9
  · obtain ⟨r1, r2, r3, r4, r5, r6, r7, r8, r9, rA, rB, rC, rD, rE, rF, rG⟩ := hR
    unfold iR
    rw [c7 0 (by decide), c7 4 (by decide), c7 5 (by decide), c7 6 (by decide), c7 3 (by decide), c7 49 (by decide)]
    exact ⟨r1, r2, r3, r4, r5, r6, r7, r8, r9, rA, h11.1, h11.2, by rw [e10]; exact nI_le (b := 5) hg (by decide), rE, rF, by rw [e10]; exact e09⟩
  · unfold iQ; rw [o 2 (by omega), o 104 (by omega)]; exact hQ
  · unfold iK
    rw [o 3 (by omega), o 4 (by omega), o 105 (by omega), c2 3 (by decide), c7 51 (by decide), c7 57 (by decide), c7 58 (by decide), c7 59 (by decide), c7 60 (by decide), c7 56 (by decide), c7 53 (by decide), c7 54 (by decide), c7 55 (by decide), c7 52 (by decide), c7 61 (by decide), c7 0 (by decide)]
    refine ⟨hK.1, hK.2.1, fun h => ?_⟩
    obtain ⟨z1, ⟨y1, y2, y3, y4, y5, y6, y7, y8, y9, yA, yB, yC, yD, yE⟩, z3⟩ := hK.2.2 h
    refine ⟨z1, ⟨y1, y2, y3, y4, y5, y6, y7, y8, y9, yA, yB, ?_, yD, yE⟩, z3⟩
    rw [e10]
    rw [h10] at yC
    exact Int32.lt_of_lt_of_le yC (nI_le hfg (by omega))
  · unfold iW; rw [o 7 (by omega), o 8 (by omega), o 78 (by omega), o 79 (by omega)]; exact hW
  · unfold iT
    rw [o 10 (by omega), o 80 (by omega), c8, c9]
    exact ⟨rfl, by decide, by decide, hT.2.2.2⟩
  · unfold iG at hG ⊢
    rw [c2 12 (by decide), c7 29 (by decide), o 91 (by omega), o 92 (by omega), o 93 (by omega), o 94 (by omega)]
    refine ⟨hG.1, hG.2.1, hG.2.2.1, fun k hk => ?_⟩
    rw [o (111 + 3 * k) (by omega), o (112 + 3 * k) (by omega), o (113 + 3 * k) (by omega)]
    exact hG.2.2.2 k hk
  · unfold iP at hP ⊢
    rw [o 107 (by omega), o 108 (by omega)]
    intro t ht
    rw [o (65 + 2 * t) (by omega)]
    exact hP t ht
  · unfold iB; rw [c2 18 (by decide), c7 63 (by decide), o 29 (by omega), o 106 (by omega)]; exact hB
  · unfold iA; rw [o 21 (by omega), o 24 (by omega), o 92 (by omega)]; exact hA
  · unfold iU; rw [c7 4 (by decide), c7 1 (by decide), c7 2 (by decide), c7 51 (by decide), c7 57 (by decide), c7 54 (by decide), c7 55 (by decide)]; exact hU
theorem fin_fail (hv : aInv r A I J) (hf : f < 5) (h10 : I 77 10 = nI f) (hF : fin (30 + 7 * f) f I Y) (e10 : Y 77 10 = I 77 10) (e11 : Y 77 11 = I 77 11) (e09 : Y 0 9 = I 0 9) (e18 : Y 1 8 = I 1 8) (e19 : Y 19 = I 19) : aInv r A Y J := by
  obtain ⟨k1, k2, k3⟩ := fin_old hv hf h10 hF
  refine fin_all hv hf h10 hF (Nat.le_refl _) (by omega) (e10.trans h10) (e09.trans (hv.2.1.2.2.2.2.2.2.2.2.2.2.2.2.2.2.2.trans h10)) (by rw [e18, e11]; exact hv.1.2.2.2.2.2.2.2.2.1) (by rw [e10, e11]; exact ⟨hv.2.1.2.2.2.2.2.2.2.2.2.2.1, hv.2.1.2.2.2.2.2.2.2.2.2.2.2.1⟩) ⟨fun z hz hz2 => k1 z ?_, k2, k3⟩ (iX_c (hF.2.2.2.2.2.2.1 0 (by decide)) e11 e19 (hF.1 78 (by decide) (by decide) (by decide) (by decide) (by decide) (by omega) (by decide)) hv.2.2.2.2.2.2.2.2.2.2.2.2)
  rw [e10, h10] at hz2
  have := (nI_ltI (by omega) (by omega)).mp hz2
  exact this
theorem fin_good {As : List Cl} (hv : aInv r A I J) (hf : f < 5) (h10 : I 77 10 = nI f) (hF : fin (30 + 7 * f) f I Y) (e10 : Y 77 10 = nI (f + 1)) (e11 : Y 77 11 = nI f) (e09 : Y 0 9 = nI (f + 1)) (e18 : Y 1 8 = nI f) (e19 : ∀ q, q < 1152 → Y 19 q = -1) (w1 : rcWf As) (w2 : rcR As f Y) (w3 : rcC As (30 + 7 * f) Y) (w4 : rcD As (30 + 7 * f) Y) : aInv r (fun z => if z = f then As else A z) Y J := by
  obtain ⟨k1, k2, k3⟩ := fin_old hv hf h10 hF
  refine fin_all hv hf h10 hF (Nat.le_succ f) (by omega) e10 e09 (e18.trans e11.symm) (by rw [e10, e11]; exact ⟨Int32.le_trans (by decide) (nI_pos' (n := f) (by omega)), nI_lt (by omega) (by omega)⟩) ⟨fun z hz hz2 => ?_, k2, k3⟩ (fun z s w t hz hs hw ht => Or.inl (e19 _ (by omega)))
  rw [e10] at hz2
  have hz3 := (nI_ltI (by omega) (by omega)).mp hz2
  by_cases hzf : z = f
  · subst hzf
    dsimp only
    rw [if_pos rfl]
    exact ⟨w1, w2, w3, w4⟩
  · dsimp only
    rw [if_neg hzf]
    exact k1 z (by omega)
end FI
