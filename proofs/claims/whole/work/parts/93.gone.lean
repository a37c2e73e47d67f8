/-! one hour gone: what the two programs keep -/
theorem toldW_P {may : Nat → Bool} {Q : Nat → Prop} {o e : Option Nat} (hm : ∀ s, may s = true → Q s) (he : ∀ s, e = some s → Q s) : ∀ s, toldW may o e = some s → Q s := by
  intro s hs
  unfold toldW at hs
  cases o with
  | none => exact he s hs
  | some u =>
    dsimp only at hs
    split at hs
    next h => cases hs; exact hm _ h
    next => exact he s hs
theorem desW_P {may : Nat → Bool} {Q : Nat → Prop} {wo : Nat → Int} {now : Option Nat} {o : Option (Nat × Int)} (hmQ : ∀ s, may s = true → Q s) (ho : ∀ b m, o = some (b, m) → Q b) : ∀ {n b m}, desW may wo now o n = some (b, m) → Q b
  | 0, b, m, h => ho b m h
  | n + 1, b, m, h => by
    unfold desW at h
    cases hf : desW may wo now o n with
    | none =>
      rw [hf] at h
      dsimp only at h
      by_cases hm : may n = true ∧ now ≠ some n
      · rw [if_pos hm] at h; cases h; exact hmQ _ hm.1
      · rw [if_neg hm] at h; cases h
    | some q =>
      obtain ⟨b', m'⟩ := q
      rw [hf] at h
      dsimp only at h
      by_cases hm : may n = true ∧ now ≠ some n ∧ m' < wo n
      · rw [if_pos hm] at h; cases h; exact hmQ _ hm.1
      · rw [if_neg hm] at h; cases h
        exact desW_P hmQ ho hf
theorem fasW_P {M : Nat → Bool} {Q : Nat → Prop} {sp : Nat → Nat} (hm : ∀ s, M s = true → Q s) : ∀ {n b m}, fasW M sp n = some (b, m) → Q b
  | 0, b, m, h => by cases h
  | n + 1, b, m, h => by
    unfold fasW at h
    cases hf : fasW M sp n with
    | none =>
      rw [hf] at h
      dsimp only at h
      by_cases hq : M n = true
      · rw [if_pos hq] at h; cases h; exact hm _ hq
      · rw [if_neg hq] at h; cases h
    | some q =>
      obtain ⟨b', m'⟩ := q
      rw [hf] at h
      dsimp only at h
      by_cases hq : M n = true ∧ m' < sp n
      · rw [if_pos hq] at h; cases h; exact hm _ hq.1
      · rw [if_neg hq] at h; cases h
        exact fasW_P hm hf
theorem fas_P {M : Nat → Bool} {Q : Nat → Prop} {sp : Nat → Nat} {n : Nat} (hm : ∀ s, M s = true → Q s) : ∀ s, (fasW M sp n).map (·.1) = some s → Q s := fun s hs => by
  cases hf : fasW M sp n with
  | none => rw [hf] at hs; cases hs
  | some p =>
    obtain ⟨q1, q2⟩ := p
    rw [hf] at hs; cases hs
    exact fasW_P hm hf
theorem asUpW_P {may : Nat → Bool} {Q : Nat → Prop} {now : Option Nat} (hm : ∀ s, may s = true → Q s) : ∀ s, asUpW may now = some s → Q s := by
  intro s hs
  unfold asUpW at hs
  cases now with
  | none => cases hs
  | some u =>
    dsimp only at hs
    split at hs
    next h => cases hs; exact hm _ h
    next => cases hs
theorem pkW_P {W : Wd} {R : Ru} {S : Sc} {h w : Nat} {now : Option Nat} {fit : Nat → Bool} {Q : Nat → Prop} (hm : ∀ s, mayW W.2.2.1 W.2.2.2 now fit S.1 S.2 s = true → Q s) : ∀ s, pkW W R S h now w fit = some s → Q s := by
  intro s hs
  unfold pkW pickW at hs
  have ha := asUpW_P (now := now) hm
  by_cases h1 : R.1 = 1
  · rw [if_pos h1] at hs; exact fas_P hm s hs
  rw [if_neg h1] at hs
  by_cases h2 : R.1 = 2
  · rw [if_pos h2] at hs
    split at hs
    next => exact fas_P hm s hs
    next => exact ha s hs
  rw [if_neg h2] at hs
  by_cases h3 : R.1 = 3
  · rw [if_pos h3] at hs; exact fas_P hm s hs
  rw [if_neg h3] at hs
  by_cases h4 : R.1 = 4
  · rw [if_pos h4] at hs
    cases hf : desW (mayW W.2.2.1 W.2.2.2 now fit S.1 S.2) (fun s => (SPw W 0 s w h : Int) * R.2.1 - lsW W) now (desO (mayW W.2.2.1 W.2.2.2 now fit S.1 S.2) (fun s => SPw W 0 s w h) R.2.1 now) W.2.2.2 with
    | none => rw [hf] at hs; cases hs
    | some q =>
      obtain ⟨q1, q2⟩ := q
      rw [hf] at hs; cases hs
      refine desW_P hm (fun b m hb => ?_) hf
      unfold desO at hb
      cases now with
      | none => cases hb
      | some u =>
        dsimp only at hb
        split at hb
        next h5 => cases hb; exact hm _ h5
        next => cases hb
  rw [if_neg h4] at hs
  by_cases h5 : R.1 = 5
  · rw [if_pos h5] at hs; exact toldW_P hm ha s hs
  rw [if_neg h5] at hs
  by_cases h6 : R.1 = 6
  · rw [if_pos h6] at hs; exact toldW_P hm (toldW_P hm ha) s hs
  · rw [if_neg h6] at hs; exact ha s hs
/-- what a rule picks is whole and aboard -/
theorem pkW_fit {W : Wd} {R : Ru} {S : Sc} {h w : Nat} {now : Option Nat} {fit : Nat → Bool} : ∀ s, pkW W R S h now w fit = some s → s < W.2.2.2 ∧ fit s = true ∧ S.1 s = true :=
  pkW_P (fun s hs => by
    unfold mayW at hs
    simp only [Bool.and_eq_true, decide_eq_true_eq] at hs
    exact ⟨hs.1, hs.2.1, hs.2.2.1⟩)
section GO
variable {r : Nat} {A : Nat → List Cl} {I I' : Nat → Nat → Int32} {J : Nat → Nat → Int64}
/-- the scene has changed, alike in both programs -/
theorem inv_sc (hv : aInv r A I J) (h0 : ∀ j, j ≠ 1 → j ≠ 77 → I' j = I j) (h77 : ∀ q, q ≠ 1 → q ≠ 4 → q ≠ 5 → q ≠ 6 → q ≠ 7 → I' 77 q = I 77 q) (h1 : ∀ q, q = 4 ∨ q = 5 ∨ q = 7 ∨ q = 8 ∨ q = 9 → I' 1 q = I 1 q)
    (a0 : I' 1 0 = I' 77 4) (a1 : I' 1 1 = I' 77 5) (a2 : I' 1 2 = I' 77 6) (a3 : I' 1 3 = I' 77 7) (a6 : I' 1 6 = I' 77 1)
    (b4 : -1 ≤ I' 77 4 ∧ I' 77 4 < I 77 0) (b5 : 0 ≤ I' 77 5 ∧ I' 77 5 ≤ 3) (b6 : 0 ≤ I' 77 6 ∧ I' 77 6 ≤ 99) (bu : 0 ≤ I' 77 4 → bt (I' 77 1) (I' 77 4).toNatClampNeg = true ∧ bt (I 77 2) (I' 77 4).toNatClampNeg = true) : aInv r A I' J := by
  obtain ⟨g1, g2, g3, g4, g5, g6, g7, g8, g9, gA, gU, gC, gX⟩ := hv
  have k : ∀ q, (Nat.beq q 0 || Nat.blt 1 q && Nat.blt q 4) || Nat.blt 7 q = true → I' 77 q = I 77 q := fun q hq => h77 q (by rintro rfl; cases hq) (by rintro rfl; cases hq) (by rintro rfl; cases hq) (by rintro rfl; cases hq) (by rintro rfl; cases hq)
  refine ⟨?_, ?_, ?_, ?_, ?_, ?_, ?_, ?_, ?_, ?_, ?_, ?_, iX_c (k 0 rfl) (k 11 rfl) (h0 19 (by omega) (by omega)) (h0 78 (by omega) (by omega)) gX⟩
  · obtain ⟨s0, s1, s2, s3, s4, s5, s6, s7, s8, s9⟩ := g1
    refine ⟨a0, a1, a2, a3, ?_, ?_, a6, ?_, ?_, ?_⟩
    · rw [h1 4 (by omega), k 3 rfl]; exact s4
    · rw [h1 5 (by omega), k 0 rfl]; exact s5
    · rw [h1 7 (by omega), k 2 rfl]; exact s7
    · rw [h1 8 (by omega), k 11 rfl]; exact s8
    · rw [h1 9 (by omega), k 49 rfl]; exact s9
  · obtain ⟨r0, r1, r2, r3, r4, r5, r6, r7, r8⟩ := g2
    refine ⟨?_, ?_, b4.1, ?_, b5.1, b5.2, b6.1, b6.2, ?_⟩
    · rw [k 0 rfl]; exact r0
    · rw [k 0 rfl]; exact r1
    · rw [k 0 rfl]; exact b4.2
    · rw [h0 0 (by omega) (by omega), k 3 rfl, k 11 rfl, k 10 rfl, k 49 rfl]; exact r8
  · unfold iQ at g3 ⊢; rw [h0 2 (by omega) (by omega), h0 104 (by omega) (by omega)]; exact g3
  · unfold iK at g4 ⊢
    rw [h0 0 (by omega) (by omega), h0 3 (by omega) (by omega), h0 4 (by omega) (by omega), h0 105 (by omega) (by omega), k 51 rfl, k 57 rfl, k 58 rfl, k 59 rfl, k 60 rfl, k 56 rfl, k 53 rfl, k 54 rfl, k 55 rfl, k 52 rfl, k 61 rfl, k 0 rfl, k 10 rfl]; exact g4
  · unfold iW at g5 ⊢; rw [h0 7 (by omega) (by omega), h0 8 (by omega) (by omega), h0 78 (by omega) (by omega), h0 79 (by omega) (by omega)]; exact g5
  · unfold iT at g6 ⊢; rw [h0 9 (by omega) (by omega), h0 10 (by omega) (by omega), h0 80 (by omega) (by omega), k 12 rfl]; exact g6
  · obtain ⟨c1, c2, c3, c4⟩ := g7
    refine ⟨by rw [h0 0 (by omega) (by omega)]; exact c1, by rw [k 29 rfl]; exact c2, c3, fun p hp => ?_⟩
    rw [h0 (111 + 3 * p) (by omega) (by omega), h0 (112 + 3 * p) (by omega) (by omega), h0 (113 + 3 * p) (by omega) (by omega), h0 94 (by omega) (by omega), h0 91 (by omega) (by omega), h0 92 (by omega) (by omega), h0 93 (by omega) (by omega)]
    exact c4 p hp
  · intro t ht
    rw [h0 (65 + 2 * t) (by omega) (by omega), h0 107 (by omega) (by omega), h0 108 (by omega) (by omega)]
    exact g8 t ht
  · unfold iB at g9 ⊢; rw [h0 0 (by omega) (by omega), h0 29 (by omega) (by omega), h0 106 (by omega) (by omega), k 63 rfl]; exact g9
  · unfold iA at gA ⊢; rw [h0 21 (by omega) (by omega), h0 24 (by omega) (by omega), h0 92 (by omega) (by omega)]; exact gA
  · unfold iU at gU ⊢
    refine ⟨?_, ?_⟩
    · rw [k 2 rfl]; exact bu
    · rw [k 51 rfl, k 57 rfl, k 54 rfl, k 55 rfl]; exact gU.2
  · exact iC_c (k 10 rfl) (h0 81 (by omega) (by omega)) (h0 82 (by omega) (by omega)) (h0 83 (by omega) (by omega)) (h0 84 (by omega) (by omega)) (h0 85 (by omega) (by omega)) (h0 86 (by omega) (by omega)) (h0 87 (by omega) (by omega)) (fun j hj => h0 j (by omega) (by omega)) (fun j hj => h0 j (by omega) (by omega)) gC
end GO
