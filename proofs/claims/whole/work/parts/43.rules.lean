/-! rules -/
section RU
variable {L : Nat} {xs : Nat → Int32} {fv : Value} {d : Nat} {r : Nat} {rr : Option Nat} {I : Nat → Nat → Int32} {J : Nat → Nat → Int64} {P : Option Value → aH → Prop}
theorem ru_lt {k r : Nat} (h : k < r) : 111 + 3 * k < 111 + 3 * r := by omega
theorem ru_lt1 {k r : Nat} (h : k < r) : 112 + 3 * k < 111 + 3 * r := by omega
theorem ru_lt2 {k r : Nat} (h : k < r) : 113 + 3 * k < 111 + 3 * r := by omega
theorem ru_k {L k : Nat} (h : k < 10) : (akd L (111 + 3 * k)).1 = 2 := by rw [(akd_ru h).1]
theorem ru_k1 {L k : Nat} (h : k < 10) : (akd L (112 + 3 * k)).1 = 7 := by rw [(akd_ru h).2.1]
theorem ru_k2 {L k : Nat} (h : k < 10) : (akd L (113 + 3 * k)).1 = 7 := by rw [(akd_ru h).2.2]
theorem ru_in1 {L k : Nat} {j : Int32} (h : k < 10) (h0 : 0 ≤ j) (h1 : j < 4) : vp_in j (akd L (112 + 3 * k)).2 := by rw [(akd_ru h).2.1]; exact vin 4 rfl h0 h1
theorem ru_in2 {L k : Nat} {j : Int32} (h : k < 10) (h0 : 0 ≤ j) (h1 : j < 5) : vp_in j (akd L (113 + 3 * k)).2 := by rw [(akd_ru h).2.2]; exact vin 5 rfl h0 h1
/-- a place in a row of rows -/
theorem ix_row {k b N : Nat} {B M : Int32} {j : Int32} (hB : B = nI b) (hM : M = nI b) (hk : k < 200) (hb : b < 200) (h0 : 0 ≤ j) (h1 : j < M) (hN : b * k + b ≤ N) (h31 : N < 2 ^ 31) : (B * nI k + j).toNatClampNeg = b * k + j.toNatClampNeg ∧ vp_in (B * nI k + j) N := by
  subst hM; subst hB
  obtain ⟨c, hc, rfl, hcc⟩ := nI_ex (nI b) (nI_toInt (by omega)) h0 h1
  have hbk : b * k ≤ 200 * 200 := Nat.mul_le_mul (by omega) (by omega)
  have e : nI b * nI k + nI c = nI (b * k + c) := by
    rw [← nI_add]
    exact congrArg (· + nI c) (Int32.ofNat_mul b k).symm
  rw [e, nI_clamp (by omega), nI_clamp (by omega)]
  exact ⟨rfl, nI_in (by omega) h31⟩
def rlq (r : Nat) (I : Nat → Nat → Int32) (k : Nat) : Prop := k < 10 ∧ (nI k).toNatClampNeg = k ∧ I (111 + 3 * k) 0 = nI k ∧ I (111 + 3 * k) 1 = I 91 k ∧ 0 ≤ I 91 k ∧ I 91 k ≤ 6 ∧ I (111 + 3 * k) 2 = I 92 k ∧ 0 ≤ I 92 k ∧ I 92 k ≤ 9
theorem rlq_of {k : Nat} (hG : iG r I) (hk : k < r) : rlq r I k := by
  obtain ⟨g1, g2, g3, g4⟩ := hG
  obtain ⟨a1, a2, a3, a4, a5, a6, a7, a8⟩ := g4 k hk
  exact ⟨by omega, nI_clamp (by omega), a1, a2, a3, a4, a5, a6, a7⟩
theorem cl_ruleOf {w : Int32} (hG : iG r I) (k1 : ∀ k, k < r → w = nI k → P (some (.ref (111 + 3 * k))) (aHp r rr I J)) (k0 : ¬ (0 ≤ w ∧ w < nI r) → P (some .null) (aHp r rr I J)) : aCl L xs fv 111 (d + 1) 72 [.ref 0, .int w] (aHp r rr I J) P := by
  refine cl_of rfl (Nat.le_add_right _ _) ?_
  obtain ⟨g1, -, g3, -⟩ := hG
  have hv : 0 ≤ w → w < I 0 12 → ∃ k, k < r ∧ w = nI k ∧ w.toNatClampNeg = k := fun h0 h1 => nI_ex (nI r) (nI_toInt (by omega)) h0 (g1 ▸ h1)
  have hi : 0 ≤ w → w < I 0 12 → vp_in w 10 := fun h0 h1 => by
    obtain ⟨k, hk, rfl, -⟩ := hv h0 h1
    exact nI_in (by omega) (by decide)
  have hR : 0 ≤ w → w < I 0 12 → aRf r rr 20 w.toNatClampNeg = some (111 + 3 * w.toNatClampNeg) := fun h0 h1 => by
    obtain ⟨k, hk, -, e⟩ := hv h0 h1
    rw [e]; exact aRf_20 hk
  repeat' (first
      | (refine go_v (cd := cd72) [] 300 rfl ?_; try simp (disch := decide) only [av0, av1, av3, up2_e, up2_s, up2_o, up1_e, up1_o])
      | refine go_st (cd := cd72) 1 rfl (go_ifT (by decide) ?_)
      | refine go_st (cd := cd72) 1 rfl (go_ifF (by decide) ?_)
      | refine go_st (cd := cd72) 1 rfl (go_ifT (by assumption) ?_)
      | refine go_st (cd := cd72) 1 rfl (go_ifF (by assumption) ?_)
      | (refine go_st (cd := cd72) 1 rfl (go_if (fun hq => ?_) (fun hq => ?_)))
      | refine go_ireturn (cd := cd72) rfl ?_
      | refine go_zreturn (cd := cd72) rfl (Or.inl rfl) ?_
      | refine go_zreturn (cd := cd72) rfl (Or.inr rfl) ?_
      | refine go_lreturn (cd := cd72) rfl ?_
      | refine go_areturn (cd := cd72) rfl ?_
      | refine go_areturnN (cd := cd72) rfl ?_
      | refine go_return (cd := cd72) rfl ?_
      | refine go_aaldR (cd := cd72) rfl (hi (by grind) (by grind)) (lv3 rfl) (Nat.le_of_ble_eq_true rfl) (Nat.le_of_ble_eq_true rfl) (hR (by grind) (by grind)) ?_)
  all_goals first
    | (obtain ⟨k, hk, e1, e2⟩ := hv (by grind) (by grind)
       rw [e2]
       exact k1 k hk e1)
    | exact k0 (by rw [← g1]; grind)
theorem cl_isRule {w : Int32} (hG : iG r I) (k1 : ∀ k, k < r → w = nI k → P (some (.int 1)) (aHp r rr I J)) (k0 : ¬ (0 ≤ w ∧ w < nI r) → P (some (.int 0)) (aHp r rr I J)) : aCl L xs fv 111 (d + 2) 127 [.ref 77, .int w] (aHp r rr I J) P := by
  refine cl_of rfl (Nat.le_add_right _ _) ?_
  obtain ⟨-, g1, g3, -⟩ := hG
  have hv : 0 ≤ w → w < I 77 29 → ∃ k, k < r ∧ w = nI k ∧ w.toNatClampNeg = k := fun h0 h1 => nI_ex (nI r) (nI_toInt (by omega)) h0 (g1 ▸ h1)
  have hx : 0 ≤ I 77 29 ∧ I 77 29 ≤ 10 := by rw [g1]; exact ⟨nI_pos' (by omega), nI_le (b := 10) g3 (by decide)⟩
  repeat' (first
      | (refine go_v (cd := cd127) [] 300 rfl ?_; try simp (disch := decide) only [av0, av1, av3, up2_e, up2_s, up2_o, up1_e, up1_o])
      | refine go_st (cd := cd127) 1 rfl (go_ifT (by decide) ?_)
      | refine go_st (cd := cd127) 1 rfl (go_ifF (by decide) ?_)
      | refine go_st (cd := cd127) 1 rfl (go_ifT (by assumption) ?_)
      | refine go_st (cd := cd127) 1 rfl (go_ifF (by assumption) ?_)
      | (refine go_st (cd := cd127) 1 rfl (go_if (fun hq => ?_) (fun hq => ?_)))
      | refine go_ireturn (cd := cd127) rfl ?_
      | refine go_zreturn (cd := cd127) rfl (Or.inl rfl) ?_
      | refine go_zreturn (cd := cd127) rfl (Or.inr rfl) ?_
      | refine go_lreturn (cd := cd127) rfl ?_
      | refine go_areturn (cd := cd127) rfl ?_
      | refine go_areturnN (cd := cd127) rfl ?_
      | refine go_return (cd := cd127) rfl ?_
      | (refine go_callv (cd := cd127) rfl rfl rfl rfl rfl (lv3 rfl) rfl (cl_in (fun hq => ⟨rfl, ?_⟩) (fun hq => ⟨rfl, ?_⟩)) <;> (try simp (disch := decide) only [av0, av1, av3, up2_e, up2_s, up2_o, up1_e, up1_o] at hq))
      | (refine go_calls (cd := cd127) rfl rfl rfl rfl rfl (cl_in (fun hq => ⟨rfl, ?_⟩) (fun hq => ⟨rfl, ?_⟩)) <;> (try simp (disch := decide) only [av0, av1, av3, up2_e, up2_s, up2_o, up1_e, up1_o] at hq)))
  all_goals first
    | (obtain ⟨k, hk, e1, e2⟩ := hv (by grind) (by grind)
       exact k1 k hk e1)
    | exact k0 (by rw [← g1]; grind)
theorem cl_isRuleT {k : Nat} (hG : iG r I) (hk : k < r) (k1 : P (some (.int 1)) (aHp r rr I J)) : aCl L xs fv 111 (d + 2) 127 [.ref 77, .int (nI k)] (aHp r rr I J) P := by
  refine cl_isRule hG (fun _ _ _ => k1) (fun h => absurd ⟨nI_pos' (by have := hG.2.2.1; omega), nI_lt hk (by have := hG.2.2.1; omega)⟩ h)
theorem cl_isRuleF {w : Int32} (hG : iG r I) (hn : ¬ (0 ≤ w ∧ w < nI r)) (k0 : P (some (.int 0)) (aHp r rr I J)) : aCl L xs fv 111 (d + 2) 127 [.ref 77, .int w] (aHp r rr I J) P := by
  refine cl_isRule hG (fun k hk e => absurd ⟨?_, ?_⟩ hn) (fun _ => k0)
  · rw [e]; exact nI_pos' (by have := hG.2.2.1; omega)
  · rw [e]; exact nI_lt hk (by have := hG.2.2.1; omega)
/-- what holds between calls, but for the rules' part -/
theorem aIn_G {A : Nat → List Cl} {I' : Nat → Nat → Int32} (hv : aInv r A I J) (h : ∀ j, j < 91 ∨ (94 < j ∧ j < 111) → I' j = I j) (h92 : I' 92 10 = I 92 10) (hG : iG r I') : aIn (111 + 3 * r, I', J, aRf r rr) := by
  obtain ⟨h1, h2, h3, h4, h5, h6, -, h8, h9, hA, hU, hC, hX⟩ := hv
  refine aIn_mk (A := A) ?_ ?_ ?_ ?_ ?_ ?_ hG ?_ ?_ ?_ ?_ ?_ ?_
  · unfold iS at h1 ⊢; rw [h 1 (by omega), h 77 (by omega)]; exact h1
  · unfold iR at h2 ⊢; rw [h 0 (by omega), h 77 (by omega)]; exact h2
  · unfold iQ at h3 ⊢; rw [h 2 (by omega), h 104 (by omega)]; exact h3
  · unfold iK at h4 ⊢; rw [h 0 (by omega), h 3 (by omega), h 4 (by omega), h 77 (by omega), h 105 (by omega)]; exact h4
  · unfold iW at h5 ⊢; rw [h 7 (by omega), h 8 (by omega), h 78 (by omega), h 79 (by omega)]; exact h5
  · unfold iT at h6 ⊢; rw [h 9 (by omega), h 10 (by omega), h 77 (by omega), h 80 (by omega)]; exact h6
  · intro t ht
    have hp := h8 t ht
    rw [h (65 + 2 * t) (by omega), h 107 (by omega), h 108 (by omega)]; exact hp
  · unfold iB at h9 ⊢; rw [h 0 (by omega), h 29 (by omega), h 77 (by omega), h 106 (by omega)]; exact h9
  · unfold iA at hA ⊢; rw [h 21 (by omega), h 24 (by omega), h92]; exact hA
  · unfold iU at hU ⊢; rw [h 77 (by omega)]; exact hU
  · exact iC_c (by rw [h 77 (by omega)]) (h 81 (by omega)) (h 82 (by omega)) (h 83 (by omega)) (h 84 (by omega)) (h 85 (by omega)) (h 86 (by omega)) (h 87 (by omega)) (fun j hj => h j (by omega)) (fun j hj => h j (by omega)) hC
  · exact iX_c (by rw [h 77 (by omega)]) (by rw [h 77 (by omega)]) (h 19 (by omega)) (h 78 (by omega)) hX
/-- what holds between calls, but for the tapes' part -/
theorem aIn_P {A : Nat → List Cl} {I' : Nat → Nat → Int32} {J' : Nat → Nat → Int64} (hv : aInv r A I J) (h : ∀ j, (j < 65 ∨ 77 ≤ j) → j ≠ 107 → j ≠ 108 → I' j = I j) (hP : iP I' J') : aIn (111 + 3 * r, I', J', aRf r rr) := by
  obtain ⟨h1, h2, h3, h4, h5, h6, h7, -, h9, hA, hU, hC, hX⟩ := hv
  have k : ∀ j, Nat.blt j 65 || (Nat.ble 77 j && (!(Nat.beq j 107) && !(Nat.beq j 108))) = true → I' j = I j := fun j hj => by
    refine h j ?_ ?_ ?_
    · by_cases a : j < 65
      · exact Or.inl a
      · rw [blt_f (by omega)] at hj
        refine Or.inr (Nat.le_of_ble_eq_true ?_)
        cases hb : Nat.ble 77 j with
        | true => rfl
        | false => rw [hb] at hj; cases hj
    · intro e; subst e; cases hj
    · intro e; subst e; cases hj
  refine aIn_mk (A := A) ?_ ?_ ?_ ?_ ?_ ?_ ?_ hP ?_ ?_ ?_ ?_ ?_
  · unfold iS at h1 ⊢; rw [k 1 rfl, k 77 rfl]; exact h1
  · unfold iR at h2 ⊢; rw [k 0 rfl, k 77 rfl]; exact h2
  · unfold iQ at h3 ⊢; rw [k 2 rfl, k 104 rfl]; exact h3
  · unfold iK at h4 ⊢; rw [k 0 rfl, k 3 rfl, k 4 rfl, k 77 rfl, k 105 rfl]; exact h4
  · unfold iW at h5 ⊢; rw [k 7 rfl, k 8 rfl, k 78 rfl, k 79 rfl]; exact h5
  · unfold iT at h6 ⊢; rw [k 9 rfl, k 10 rfl, k 77 rfl, k 80 rfl]; exact h6
  · exact iG_c (by rw [k 0 rfl]) (by rw [k 77 rfl]) (k 91 rfl) (k 92 rfl) (k 93 rfl) (k 94 rfl) (fun j hj => h j (by omega) (by omega) (by omega)) h7
  · unfold iB at h9 ⊢; rw [k 0 rfl, k 29 rfl, k 77 rfl, k 106 rfl]; exact h9
  · unfold iA at hA ⊢; rw [k 21 rfl, k 24 rfl, k 92 rfl]; exact hA
  · unfold iU at hU ⊢; rw [k 77 rfl]; exact hU
  · exact iC_c (by rw [k 77 rfl]) (k 81 rfl) (k 82 rfl) (k 83 rfl) (k 84 rfl) (k 85 rfl) (k 86 rfl) (k 87 rfl) (fun j hj => h j (by omega) (by omega) (by omega)) (fun j hj => h j (by omega) (by omega) (by omega)) hC
  · exact iX_c (by rw [k 77 rfl]) (by rw [k 77 rfl]) (k 19 rfl) (k 78 rfl) hX
theorem iG_line {k g : Nat} {s : Int32} (h : iG r I) (hg : g < 4) (h0 : -1 ≤ s) (h5 : s ≤ 5) : iG r (up2 (up2 I (112 + 3 * k) g s) 93 (4 * k + g) s) := by
  obtain ⟨g1, g2, g3, g4⟩ := h
  refine ⟨by rw [up2_ne (by omega), up2_ne (by omega)]; exact g1, by rw [up2_ne (by omega), up2_ne (by omega)]; exact g2, g3, fun q hq => ?_⟩
  obtain ⟨a1, a2, a3, a4, a5, a6, a7, a8, a9⟩ := g4 q hq
  rw [up2_ne (show 111 + 3 * q ≠ 93 by omega), up2_ne (show 111 + 3 * q ≠ 112 + 3 * k by omega), up2_ne (show 91 ≠ 93 by omega), up2_ne (show 91 ≠ 112 + 3 * k by omega), up2_ne (show 92 ≠ 93 by omega), up2_ne (show 92 ≠ 112 + 3 * k by omega), up2_ne (show 94 ≠ 93 by omega), up2_ne (show 94 ≠ 112 + 3 * k by omega), up2_ne (show 113 + 3 * q ≠ 93 by omega), up2_ne (show 113 + 3 * q ≠ 112 + 3 * k by omega), up2_ne (show 112 + 3 * q ≠ 93 by omega)]
  refine ⟨a1, a2, a3, a4, a5, a6, a7, fun w hw => ?_, a9⟩
  rw [up2_at, up2_ne (show 93 ≠ 112 + 3 * k by omega)]
  by_cases hk : q = k
  · subst hk
    rw [up2_at]
    by_cases he : w = g
    · rw [if_pos he, if_pos (by omega)]; exact ⟨rfl, h0, h5⟩
    · rw [if_neg he, if_neg (by omega)]; exact a8 w hw
  · rw [up2_ne (by omega), if_neg (by omega)]; exact a8 w hw
theorem iG_told {k g : Nat} {s : Int32} (h : iG r I) (hg : g < 5) (h0 : -1 ≤ s) (h5 : s ≤ 5) : iG r (up2 (up2 I (113 + 3 * k) g s) 94 (5 * k + g) s) := by
  obtain ⟨g1, g2, g3, g4⟩ := h
  refine ⟨by rw [up2_ne (by omega), up2_ne (by omega)]; exact g1, by rw [up2_ne (by omega), up2_ne (by omega)]; exact g2, g3, fun q hq => ?_⟩
  obtain ⟨a1, a2, a3, a4, a5, a6, a7, a8, a9⟩ := g4 q hq
  rw [up2_ne (show 111 + 3 * q ≠ 94 by omega), up2_ne (show 111 + 3 * q ≠ 113 + 3 * k by omega), up2_ne (show 91 ≠ 94 by omega), up2_ne (show 91 ≠ 113 + 3 * k by omega), up2_ne (show 92 ≠ 94 by omega), up2_ne (show 92 ≠ 113 + 3 * k by omega), up2_ne (show 93 ≠ 94 by omega), up2_ne (show 93 ≠ 113 + 3 * k by omega), up2_ne (show 112 + 3 * q ≠ 94 by omega), up2_ne (show 112 + 3 * q ≠ 113 + 3 * k by omega), up2_ne (show 113 + 3 * q ≠ 94 by omega)]
  refine ⟨a1, a2, a3, a4, a5, a6, a7, a8, fun w hw => ?_⟩
  rw [up2_at, up2_ne (show 94 ≠ 113 + 3 * k by omega)]
  by_cases hk : q = k
  · subst hk
    rw [up2_at]
    by_cases he : w = g
    · rw [if_pos he, if_pos (by omega)]; exact ⟨rfl, h0, h5⟩
    · rw [if_neg he, if_neg (by omega)]; exact a9 w hw
  · rw [up2_ne (by omega), if_neg (by omega)]; exact a9 w hw
end RU
