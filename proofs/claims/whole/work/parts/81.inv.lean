/-! between two calls, in numbers -/
def upN (x : Int32) : Option Nat := if x < 0 then none else some x.toNatClampNeg
theorem upN_oI {x : Int32} (h0 : -1 ≤ x) : x = oI (upN x) := by
  unfold upN
  by_cases h : x < 0
  · rw [if_pos h]
    show x = -1
    grind
  · rw [if_neg h]
    obtain ⟨j, hj, rfl⟩ := nI_of h
    show nI j = nI (nI j).toNatClampNeg
    rw [nI_clamp hj]
theorem upN_lt {x : Int32} {n : Nat} {N : Int32} (hN : N.toInt = n) (h1 : x < N) : ∀ s, upN x = some s → s < n := by
  intro s hs
  unfold upN at hs
  by_cases h : x < 0
  · rw [if_pos h] at hs; cases hs
  · rw [if_neg h] at hs
    cases hs
    exact vlt (vin N hN (Int32.not_lt.mp h) h1)
theorem tnc_nI {x : Int32} (h : 0 ≤ x) : x = nI x.toNatClampNeg := by
  obtain ⟨j, hj, rfl⟩ := nI_of (Int32.not_lt.mpr h)
  rw [nI_clamp hj]
theorem tnc_le {x : Int32} {n : Nat} (h : 0 ≤ x) (h31 : n < 2 ^ 31) (h1 : x ≤ nI n) : x.toNatClampNeg ≤ n := by
  obtain ⟨j, hj, rfl⟩ := nI_of (Int32.not_lt.mpr h)
  rw [nI_clamp hj]
  exact (nI_leI hj h31).mp h1
def wdI (A : Nat → List Cl) (I : Nat → Nat → Int32) : Wd := (hol A I, fun s => (I 78 s).toNatClampNeg, fun s => (I 79 s).toNatClampNeg, (I 77 0).toNatClampNeg)
def scI (I : Nat → Nat → Int32) : Sc := (bt (I 77 2), (I 77 3).toNatClampNeg)
def rlI (I : Nat → Nat → Int32) (k : Nat) : Ru := ((I 91 k).toNatClampNeg, (I 92 k).toNatClampNeg, fun w => upN (I 93 (4 * k + w)), fun j => upN (I 94 (5 * k + j)))
def fI (I : Nat → Nat → Int32) : Nat := if I 77 11 < 0 then 0 else (I 77 11).toNatClampNeg
section IV
variable {r : Nat} {A : Nat → List Cl} {I I' : Nat → Nat → Int32} {J J' : Nat → Nat → Int64}
theorem wf_of (hv : aInv r A I J) : rcWf (hol A I) := by
  obtain ⟨hS, hR, hQ, hK, hW, hT, hG, hP, hB, hA, hU, hC, hX⟩ := hv
  obtain ⟨r0, r1, r2, r3, r4, r5, r6, r7, r8, r9, rA, rB, rC, rD, rE, rF⟩ := hR
  unfold hol
  by_cases hx : I 77 11 < 0
  · rw [if_pos hx]; exact rcWf_nil
  · rw [if_neg hx]
    obtain ⟨f, hf, he, hc⟩ := nI_ex (s := I 77 11) (n := 5) 5 rfl (by grind) (by grind)
    rw [hc]
    exact (hC.1 f hf (by rw [← he]; exact rB)).1
theorem wld_of (hv : aInv r A I J) : wld A (wdI A I) I := by
  have hwf := wf_of hv
  obtain ⟨hS, hR, hQ, hK, hW, hT, hG, hP, hB, hA, hU, hC, hX⟩ := hv
  obtain ⟨r0, r1, r2, r3, r4, r5, r6, r7, r8, r9, rA, rB, rC, rD, rE, rF⟩ := hR
  refine ⟨tnc_le r0 (by decide) (show I 77 0 ≤ nI 6 from r1), tnc_nI r0, fun s hs => ?_, rfl, hwf, hC, hS.2.2.2.2.2.2.2.2.1, rF, rA, rB, rC⟩
  obtain ⟨a1, a2, a3, a4, a5, a6⟩ := hW s hs
  refine ⟨?_, tnc_nI a3, tnc_le a3 (by decide) (show I 78 s ≤ nI 9 from a4), ?_, tnc_nI a5, tnc_le a5 (by decide) (show I 79 s ≤ nI 9 from a6)⟩
  · rw [a1]; exact tnc_nI a3
  · rw [a2]; exact tnc_nI a5
theorem rwl_of (hv : aInv r A I J) : rwl (wdI A I) (fI I) I := by
  have hw := wld_of hv
  obtain ⟨w1, w2, w3, w4, w5, w6, w7, w8, w9, wA, wB⟩ := hw
  refine ⟨?_, w1, w2, fun s hs => ?_⟩
  · by_cases hx : I 77 11 < 0
    · refine ⟨by unfold fI; rw [if_pos hx]; decide, w5, Or.inl ⟨by grind, by unfold fI; rw [if_pos hx], ?_⟩⟩
      show hol A I = []
      unfold hol; rw [if_pos hx]
    · obtain ⟨f, hf, he, hc⟩ := nI_ex (s := I 77 11) (n := 5) 5 rfl (by grind) (by grind)
      have hfI : fI I = f := by unfold fI; rw [if_neg hx, hc]
      have hh : hol A I = A f := by unfold hol; rw [if_neg hx, hc]
      refine ⟨by rw [hfI]; exact hf, w5, Or.inr ⟨by rw [hfI]; exact he, ?_⟩⟩
      rw [hfI]
      show rcR (hol A I) f I
      rw [hh]
      exact (w6.1 f hf (by rw [← he]; exact wA)).2.1
  · obtain ⟨a1, a2, a3, a4, a5, a6⟩ := w3 s hs
    exact ⟨a2, a3, a5, a6⟩
theorem now_of (hv : aInv r A I J) : I 77 4 = oI (upN (I 77 4)) ∧ ∀ u, upN (I 77 4) = some u → u < (wdI A I).2.2.2 := by
  have r2 := hv.2.1.2.2.1
  have r3 := hv.2.1.2.2.2.1
  have r0 := hv.2.1.1
  refine ⟨upN_oI r2, upN_lt (N := I 77 0) ?_ r3⟩
  have h := Int32.le_iff_toInt_le.mp r0
  show (I 77 0).toInt = (((I 77 0).toInt.toNat : Nat) : Int)
  rw [show (0 : Int32).toInt = 0 from rfl] at h
  omega
theorem nums_of (hv : aInv r A I J) : I 77 5 = nI (I 77 5).toNatClampNeg ∧ (I 77 5).toNatClampNeg < 4 ∧ I 77 6 = nI (I 77 6).toNatClampNeg ∧ (I 77 6).toNatClampNeg ≤ 99 ∧ I 77 3 = nI (I 77 3).toNatClampNeg ∧ (I 77 3).toNatClampNeg ≤ 9 := by
  obtain ⟨r0, r1, r2, r3, r4, r5, r6, r7, r8, r9, rA, rB, rC, rD, rE, rF⟩ := hv.2.1
  exact ⟨tnc_nI r4, Nat.lt_succ_of_le (tnc_le (n := 3) r4 (by decide) (show I 77 5 ≤ nI 3 from r5)), tnc_nI r6, tnc_le r6 (by decide) (show I 77 6 ≤ nI 99 from r7), tnc_nI r8, tnc_le r8 (by decide) (show I 77 3 ≤ nI 9 from r9)⟩
theorem scn_of (hv : aInv r A I J) : scn (wdI A I) (scI I) (I 77 6).toNatClampNeg (upN (I 77 4)) (I 77 5).toNatClampNeg (bt (I 77 1)) 1 I := by
  obtain ⟨n1, n2, n3, n4, n5, n6⟩ := nums_of hv
  obtain ⟨u1, u2⟩ := now_of hv
  obtain ⟨s0, s1, s2, s3, s4, s5, s6, s7, s8, s9⟩ := hv.1
  refine ⟨by rw [s0]; exact u1, by rw [s1]; exact n1, by rw [s2]; exact n3, by rw [s4]; exact n5, by rw [s5]; exact tnc_nI hv.2.1.1, by rw [s6], by rw [s7]; rfl, n2, by omega, n6, u2⟩
theorem rul_of (hv : aInv r A I J) {k : Nat} (hk : k < r) : isR r (111 + 3 * k) ∧ rul (rlI I k) (111 + 3 * k) I ∧ rrl (rlI I k) k I := by
  obtain ⟨g1, g2, g3, g4⟩ := hv.2.2.2.2.2.2.1
  obtain ⟨a1, a2, a3, a4, a5, a6, a7, a8, a9⟩ := g4 k hk
  have e1 := tnc_nI a3
  have e2 := tnc_nI a6
  have b1 : (I 91 k).toNatClampNeg ≤ 6 := tnc_le a3 (by decide) (show I 91 k ≤ nI 6 from a4)
  have b2 : (I 92 k).toNatClampNeg ≤ 9 := tnc_le a6 (by decide) (show I 92 k ≤ nI 9 from a7)
  refine ⟨Or.inr (Or.inr ⟨k, hk, by omega, rfl⟩), ⟨by rw [a2]; exact e1, by rw [a5]; exact e2, b1, b2, fun _ w hw => ?_, fun _ j hj => ?_⟩, ⟨by omega, e1, e2, b1, b2, fun _ w hw => ?_, fun _ j hj => ?_⟩⟩
  · obtain ⟨c1, c2, c3⟩ := a8 w hw
    rw [show 111 + 3 * k + 1 = 112 + 3 * k by omega, c1]
    exact ⟨upN_oI c2, upN_lt (N := 6) rfl (by grind)⟩
  · obtain ⟨c1, c2, c3⟩ := a9 j hj
    rw [show 111 + 3 * k + 2 = 113 + 3 * k by omega, c1]
    exact ⟨upN_oI c2, upN_lt (N := 6) rfl (by grind)⟩
  · obtain ⟨c1, c2, c3⟩ := a8 w hw
    exact ⟨upN_oI c2, upN_lt (N := 6) rfl (by grind)⟩
  · obtain ⟨c1, c2, c3⟩ := a9 j hj
    exact ⟨upN_oI c2, upN_lt (N := 6) rfl (by grind)⟩
/-- all that is asked may leave behind -/
def relI (I I' : Nat → Nat → Int32) : Prop := (∀ j, (j < 5 ∨ (6 < j ∧ j < 19) ∨ j = 20 ∨ (27 < j ∧ j < 77) ∨ (77 < j ∧ j < 89) ∨ j = 94 ∨ (103 < j ∧ j < 110) ∨ 110 < j) → I' j = I j) ∧ (∀ q, q ≠ 13 → q ≠ 14 → q ≠ 24 → q ≠ 25 → q ≠ 26 → q ≠ 34 → q ≠ 35 → q ≠ 47 → I' 77 q = I 77 q) ∧ (∀ k, k < 10 → I' 91 k = I 91 k ∧ I' 92 k = I 92 k) ∧ (∀ k, k < 40 → I' 93 k = I 93 k) ∧ I' 21 1 = I 21 1 ∧ I' 24 = I 24 ∧ (0 ≤ I 92 10 ∧ I 92 10 ≤ 9 → 0 ≤ I' 92 10 ∧ I' 92 10 ≤ 9)
theorem inv_rel (hv : aInv r A I J) (h : relI I I') (hJ : ∀ j, (65 ≤ j ∧ j < 77) ∨ j = 109 → J' j = J j) (hX : iX A I') : aInv r A I' J' := by
  obtain ⟨h0, h77, h91, h93, h21, h24, h92⟩ := h
  obtain ⟨g1, g2, g3, g4, g5, g6, g7, g8, g9, gA, gU, gC, -⟩ := hv
  have k : ∀ q, Nat.blt q 13 || (Nat.blt 14 q && Nat.blt q 24) || (Nat.blt 26 q && Nat.blt q 34) || (Nat.blt 35 q && Nat.blt q 47) || Nat.blt 47 q = true → I' 77 q = I 77 q := fun q hq => h77 q (by rintro rfl; cases hq) (by rintro rfl; cases hq) (by rintro rfl; cases hq) (by rintro rfl; cases hq) (by rintro rfl; cases hq) (by rintro rfl; cases hq) (by rintro rfl; cases hq) (by rintro rfl; cases hq)
  have k1 := h0 1 (by omega)
  refine ⟨?_, ?_, ?_, ?_, ?_, ?_, ?_, ?_, ?_, ?_, ?_, ?_, hX⟩
  · unfold iS at g1 ⊢
    rw [k1, k 4 rfl, k 5 rfl, k 6 rfl, k 7 rfl, k 3 rfl, k 0 rfl, k 1 rfl, k 2 rfl, k 11 rfl, k 49 rfl]; exact g1
  · unfold iR at g2 ⊢
    rw [h0 0 (by omega), k 4 rfl, k 5 rfl, k 6 rfl, k 3 rfl, k 0 rfl, k 11 rfl, k 10 rfl, k 49 rfl]; exact g2
  · unfold iQ at g3 ⊢; rw [h0 2 (by omega), h0 104 (by omega)]; exact g3
  · unfold iK at g4 ⊢
    rw [h0 0 (by omega), h0 3 (by omega), h0 4 (by omega), h0 105 (by omega), k 51 rfl, k 57 rfl, k 58 rfl, k 59 rfl, k 60 rfl, k 56 rfl, k 53 rfl, k 54 rfl, k 55 rfl, k 52 rfl, k 61 rfl, k 0 rfl, k 10 rfl]; exact g4
  · unfold iW at g5 ⊢; rw [h0 7 (by omega), h0 8 (by omega), h0 78 (by omega), h0 79 (by omega)]; exact g5
  · unfold iT at g6 ⊢; rw [h0 9 (by omega), h0 10 (by omega), h0 80 (by omega), k 12 rfl]; exact g6
  · obtain ⟨a1, a2, a3, a4⟩ := g7
    refine ⟨by rw [h0 0 (by omega)]; exact a1, by rw [k 29 rfl]; exact a2, a3, fun p hp => ?_⟩
    obtain ⟨b1, b2, b3, b4, b5, b6, b7, b8, b9⟩ := a4 p hp
    rw [h0 (111 + 3 * p) (by omega), h0 (112 + 3 * p) (by omega), h0 (113 + 3 * p) (by omega), h0 94 (by omega), (h91 p (by omega)).1, (h91 p (by omega)).2]
    refine ⟨b1, b2, b3, b4, b5, b6, b7, fun w hw => ?_, b9⟩
    rw [h93 (4 * p + w) (by omega)]; exact b8 w hw
  · intro t ht
    rw [h0 (65 + 2 * t) (by omega), h0 107 (by omega), h0 108 (by omega), hJ (66 + 2 * t) (by omega), hJ 109 (by omega)]
    exact g8 t ht
  · unfold iB at g9 ⊢; rw [h0 0 (by omega), h0 29 (by omega), h0 106 (by omega), k 63 rfl]; exact g9
  · exact ⟨h21.trans gA.1, by rw [h24]; exact gA.2.1, by rw [h24]; exact gA.2.2.1, h92 gA.2.2.2⟩
  · unfold iU at gU ⊢; rw [k 4 rfl, k 1 rfl, k 2 rfl, k 51 rfl, k 57 rfl, k 54 rfl, k 55 rfl]; exact gU
  · exact iC_c (k 10 rfl) (h0 81 (by omega)) (h0 82 (by omega)) (h0 83 (by omega)) (h0 84 (by omega)) (h0 85 (by omega)) (h0 86 (by omega)) (h0 87 (by omega)) (fun j hj => h0 j (by omega)) (fun j hj => h0 j (by omega)) gC
theorem relI_refl : relI I I := ⟨fun _ _ => rfl, fun _ _ _ _ _ _ _ _ _ => rfl, fun _ _ => ⟨rfl, rfl⟩, fun _ _ => rfl, rfl, rfl, fun h => h⟩
theorem relI_up1 {c : Nat → Int32} {i : Nat} (h : relI I I') (hi : i = 5 ∨ i = 6 ∨ i = 19 ∨ i = 26 ∨ i = 27 ∨ i = 89 ∨ i = 90 ∨ (95 ≤ i ∧ i ≤ 103) ∨ i = 110) : relI I (up1 I' i c) := by
  obtain ⟨h0, h77, h91, h93, h21, h24, h92⟩ := h
  refine ⟨fun j hj => by rw [up1_ne (by omega)]; exact h0 j hj, fun q => by rw [up1_ne (by omega)]; exact h77 q, fun p hp => by rw [up1_ne (by omega), up1_ne (by omega)]; exact h91 p hp, fun p hp => by rw [up1_ne (by omega)]; exact h93 p hp, by rw [up1_ne (by omega)]; exact h21, by rw [up1_ne (by omega)]; exact h24, fun h => by rw [up1_ne (by omega)]; exact h92 h⟩
theorem relI_77 {k : Nat} {v : Int32} (h : relI I I') (hk : k = 13 ∨ k = 14 ∨ k = 24 ∨ k = 25 ∨ k = 26 ∨ k = 34 ∨ k = 35 ∨ k = 47) : relI I (up2 I' 77 k v) := by
  obtain ⟨h0, h77, h91, h93, h21, h24, h92⟩ := h
  refine ⟨fun j hj => by rw [up2_ne (by omega)]; exact h0 j hj, fun q a b c d e f g i => by rw [up2_42 (by omega)]; exact h77 q a b c d e f g i, fun p hp => by rw [up2_ne (by omega), up2_ne (by omega)]; exact h91 p hp, fun p hp => by rw [up2_ne (by omega)]; exact h93 p hp, by rw [up2_ne (by omega)]; exact h21, by rw [up2_ne (by omega)]; exact h24, fun h => by rw [up2_ne (by omega)]; exact h92 h⟩
theorem relI_fr {I0 : Nat → Nat → Int32} (h : relI I I0) (hf : fr I0 I') : relI I I' := by
  obtain ⟨h0, h77, h91, h93, h21, h24, h92⟩ := h
  obtain ⟨f1, f2⟩ := hf
  refine ⟨fun j hj => by rw [f1 j (by omega) (by omega) (by omega)]; exact h0 j hj, fun q a b c d e f g i => by rw [f2 q i]; exact h77 q a b c d e f g i, fun p hp => by rw [f1 91 (by omega) (by omega) (by omega), f1 92 (by omega) (by omega) (by omega)]; exact h91 p hp, fun p hp => by rw [f1 93 (by omega) (by omega) (by omega)]; exact h93 p hp, by rw [f1 21 (by omega) (by omega) (by omega)]; exact h21, by rw [f1 24 (by omega) (by omega) (by omega)]; exact h24, fun h => by rw [f1 92 (by omega) (by omega) (by omega)]; exact h92 h⟩
theorem aIn_of (hv : aInv r A I J) (rr : Option Nat) : aIn (111 + 3 * r, I, J, aRf r rr) := ⟨r, rr, A, I, J, rfl, hv⟩
end IV
