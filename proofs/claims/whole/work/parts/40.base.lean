section PR
variable {L : Nat} {xs : Nat → Int32} {fv : Value} {d : Nat}
theorem mayQ_eq {I : Nat → Nat → Int32} (hS : iS I) (hR : iR I) (hW : iW I) (s : Int32) : mayQ (I 8) (I 1 5) s (I 1 0) (I 1 6) (I 1 7) (I 1 4) ↔ mayQ (I 79) (I 77 0) s (I 77 4) (I 77 1) (I 77 2) (I 77 3) := by
  obtain ⟨s0, s1, s2, s3, s4, s5, s6, s7, s8, s9⟩ := hS
  have r1 := hR.2.1
  unfold mayQ
  rw [s0, s4, s5, s6, s7]
  refine and_congr_right fun h => ?_
  have hw := hW s.toNatClampNeg (vlt (vin 6 rfl h.1 (by grind)))
  rw [hw.2.1]
theorem and01 (y : Int32) : y &&& 1 = 0 ∨ y &&& 1 = 1 := by
  by_cases h : y &&& 1 = 1
  · exact Or.inr h
  · refine Or.inl (Int32.toBitVec_inj.mp ?_)
    rw [bt_and1] at h
    apply BitVec.eq_of_getLsbD_eq
    intro i hi
    have e1 : (1 : Int32).toBitVec = 1#32 := rfl
    have e0 : (0 : Int32).toBitVec = 0#32 := rfl
    rw [Int32.toBitVec_and, e1, e0, BitVec.getLsbD_and, BitVec.getLsbD_one]
    by_cases h0 : i = 0
    · subst h0; simpa using h
    · simp [h0]
theorem cl_shown {r : Nat} {rr : Option Nat} {I : Nat → Nat → Int32} {J : Nat → Nat → Int64} {P : Option Value → aH → Prop} {s : Int32} (k1 : s = -1 → P (some (.int (-5))) (aHp r rr I J)) (k0 : ¬ s = -1 → P (some (.int s)) (aHp r rr I J)) : aCl L xs fv 111 (d + 1) 71 [.int s] (aHp r rr I J) P := by
  refine cl_of rfl (Nat.le_add_right _ _) ?_
  repeat' (first
      | (refine go_v (cd := cd71) [] 300 rfl ?_; try simp (disch := decide) only [av0, av1, av3, up2_e, up2_s, up2_o, up1_e, up1_o])
      | refine go_st (cd := cd71) 1 rfl (go_ifT (by decide) ?_)
      | refine go_st (cd := cd71) 1 rfl (go_ifF (by decide) ?_)
      | refine go_st (cd := cd71) 1 rfl (go_ifT (by assumption) ?_)
      | refine go_st (cd := cd71) 1 rfl (go_ifF (by assumption) ?_)
      | (refine go_st (cd := cd71) 1 rfl (go_if (fun hq => ?_) (fun hq => ?_)))
      | refine go_ireturn (cd := cd71) rfl ?_
      | refine go_zreturn (cd := cd71) rfl (Or.inl rfl) ?_
      | refine go_zreturn (cd := cd71) rfl (Or.inr rfl) ?_
      | refine go_lreturn (cd := cd71) rfl ?_
      | refine go_areturn (cd := cd71) rfl ?_
      | refine go_areturnN (cd := cd71) rfl ?_
      | refine go_return (cd := cd71) rfl ?_)
  all_goals first | exact k1 (by grind) | exact k0 (by grind)
theorem bt_or (x y : Int32) (k : Nat) : bt (x ||| y) k = (bt x k || bt y k) := by
  unfold bt; rw [Int32.toBitVec_or, BitVec.getLsbD_or]
theorem bt_xor (x y : Int32) (k : Nat) : bt (x ^^^ y) k = (bt x k ^^ bt y k) := by
  unfold bt; rw [Int32.toBitVec_xor, BitVec.getLsbD_xor]
theorem tnc_inj {a b : Int32} (h0 : 0 ≤ a) (h1 : 0 ≤ b) (h : a.toNatClampNeg = b.toNatClampNeg) : a = b := by
  have a0 := Int32.le_iff_toInt_le.mp h0
  have b0 := Int32.le_iff_toInt_le.mp h1
  rw [show (0 : Int32).toInt = 0 from rfl] at a0 b0
  have h2 : a.toInt.toNat = b.toInt.toNat := h
  exact Int32.toInt_inj.mp (by omega)
theorem bt_clr {s : Int32} (h0 : 0 ≤ s) (h1 : s < 6) {k : Nat} (h6 : k < 6) (hk : k ≠ s.toNatClampNeg) (x : Int32) : bt (x &&& ((1 <<< (s &&& 31)) ^^^ -1)) k = bt x k := by
  have h : ∀ s' : Fin 6, ∀ k' : Fin 6, k'.val ≠ s'.val → bt ((1 <<< (nI s'.val &&& 31)) ^^^ -1) k'.val = true := by decide +kernel
  obtain ⟨j, hj, hs, hc⟩ := nI_ex 6 rfl h0 h1
  rw [bt_and]
  have := h ⟨j, hj⟩ ⟨k, h6⟩ (by rw [hc] at hk; exact hk)
  rw [← hs] at this
  rw [this, Bool.and_true]
theorem iX_sail {A : Nat → List Cl} {I I' : Nat → Nat → Int32} (hr0 : 0 ≤ I 77 0) (hr6 : I 77 0 < 6) (h0 : I' 77 0 = I 77 0 + 1) (h1 : I' 77 11 = I 77 11) (h2 : I' 19 = I 19) (h3 : ∀ s, s ≠ (I 77 0).toNatClampNeg → I' 78 s = I 78 s) (h : iX A I) : iX A I' := by
  intro z s w t hz hs hw ht
  have h4 := h z s w t hz hs hw ht
  unfold hol at h4 ⊢
  rw [h1, h2]
  rcases h4 with h4 | ⟨h5, h6⟩
  · exact Or.inl h4
  · refine Or.inr ⟨by rw [h0]; grind, ?_⟩
    obtain ⟨j, hj, he, hc⟩ := nI_ex 6 rfl hr0 hr6
    rw [h3 s (by
      rw [hc]; intro e; subst e
      rw [he] at h5
      exact absurd h5 (nI_nlt (Nat.le_refl _) (by omega)))]
    exact h6
end PR
