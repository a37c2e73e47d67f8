/-! tapes -/
section TP
variable {L : Nat} {xs : Nat → Int32} {fv : Value} {d : Nat} {r : Nat} {rr : Option Nat} {I : Nat → Nat → Int32} {J : Nat → Nat → Int64} {P : Option Value → aH → Prop}
def tpq (I : Nat → Nat → Int32) (w : Int32) : Prop := (0 ≤ w ∧ w ≤ 5) ∧ w.toNatClampNeg < 6 ∧ I (65 + 2 * w.toNatClampNeg) 0 = I 107 w.toNatClampNeg ∧ -1 ≤ I 107 w.toNatClampNeg ∧ I 107 w.toNatClampNeg ≤ 4 ∧ I (65 + 2 * w.toNatClampNeg) 1 = I 108 w.toNatClampNeg ∧ 0 ≤ I 108 w.toNatClampNeg ∧ I 108 w.toNatClampNeg ≤ 60
theorem tp_lt {t r : Nat} (h : t < 6) : 65 + 2 * t < 111 + 3 * r := by omega
theorem tp_lt1 {t r : Nat} (h : t < 6) : 66 + 2 * t < 111 + 3 * r := by omega
theorem tp_k {L t : Nat} (h : t < 6) : (akd L (65 + 2 * t)).1 = 4 := by rw [(akd_tp h).1]
theorem tp_k1 {L t : Nat} (h : t < 6) : (akd L (66 + 2 * t)).1 = 8 := by rw [(akd_tp h).2]
theorem tp_in {L t : Nat} {j : Int32} (h : t < 6) (h0 : 0 ≤ j) (h1 : j < 60) : vp_in j (akd L (66 + 2 * t)).2 := by rw [(akd_tp h).2]; exact vin 60 rfl h0 h1
theorem tp_ix {w g : Int32} (h0 : 0 ≤ w) (h1 : w ≤ 5) (h2 : 0 ≤ g) (h3 : g < 60) : (60 * w + g).toNatClampNeg = 60 * w.toNatClampNeg + g.toNatClampNeg ∧ vp_in (60 * w + g) 360 := by
  obtain ⟨a, ha, rfl⟩ := nI_of2 (M := 5) (n := 5) rfl (Int32.not_lt.mpr h0) h1
  obtain ⟨b, hb, rfl⟩ := nI_of2 (M := 59) (n := 59) rfl (Int32.not_lt.mpr h2) (by grind)
  have e : 60 * nI a + nI b = nI (60 * a + b) := by
    rw [← nI_add]
    exact congrArg (· + nI b) (Int32.ofNat_mul 60 a).symm
  rw [e, nI_clamp (by omega), nI_clamp (by omega), nI_clamp (by omega)]
  exact ⟨rfl, nI_in (by omega) (by omega)⟩
theorem cl_tapeOf {w : Int32} (hP : iP I J) (k1 : tpq I w → P (some (.ref (65 + 2 * w.toNatClampNeg))) (aHp r rr I J)) (k0 : ¬ (0 ≤ w ∧ w ≤ 5) → P (some .null) (aHp r rr I J)) : aCl L xs fv 111 (d + 1) 73 [.ref 0, .int w] (aHp r rr I J) P := by
  refine cl_of rfl (Nat.le_add_right _ _) ?_
  have h6 : 0 ≤ w → w < 6 → w.toNatClampNeg < 6 := fun h0 h1 => vlt (vin 6 rfl h0 h1)
  repeat' (first
      | (refine go_v (cd := cd73) [] 300 rfl ?_; try simp (disch := decide) only [av0, av1, av3, up2_e, up2_s, up2_o, up1_e, up1_o])
      | refine go_st (cd := cd73) 1 rfl (go_ifT (by decide) ?_)
      | refine go_st (cd := cd73) 1 rfl (go_ifF (by decide) ?_)
      | refine go_st (cd := cd73) 1 rfl (go_ifT (by assumption) ?_)
      | refine go_st (cd := cd73) 1 rfl (go_ifF (by assumption) ?_)
      | (refine go_st (cd := cd73) 1 rfl (go_if (fun hq => ?_) (fun hq => ?_)))
      | refine go_ireturn (cd := cd73) rfl ?_
      | refine go_zreturn (cd := cd73) rfl (Or.inl rfl) ?_
      | refine go_zreturn (cd := cd73) rfl (Or.inr rfl) ?_
      | refine go_lreturn (cd := cd73) rfl ?_
      | refine go_areturn (cd := cd73) rfl ?_
      | refine go_areturnN (cd := cd73) rfl ?_
      | refine go_return (cd := cd73) rfl ?_
      | refine go_aaldR (cd := cd73) rfl (vin 6 rfl (by grind) (by grind)) (lv3 rfl) (Nat.le_of_ble_eq_true rfl) (Nat.le_of_ble_eq_true rfl) (aRf_tp (h6 (by grind) (by grind))).2 ?_)
  all_goals first
    | (have h5 : 0 ≤ w ∧ w ≤ 5 := by grind
       have ht := h6 h5.1 (by grind)
       have hp := hP _ ht
       exact k1 ⟨h5, ht, hp.1, hp.2.1, hp.2.2.1, hp.2.2.2.1, hp.2.2.2.2.1, hp.2.2.2.2.2.1⟩)
    | exact k0 (by grind)
theorem cl_isTape {w : Int32} (k1 : (0 ≤ w ∧ w ≤ 5) → P (some (.int 1)) (aHp r rr I J)) (k0 : ¬ (0 ≤ w ∧ w ≤ 5) → P (some (.int 0)) (aHp r rr I J)) : aCl L xs fv 111 (d + 2) 171 [.ref 77, .int w] (aHp r rr I J) P := by
  refine cl_of rfl (Nat.le_add_right _ _) ?_
  repeat' (first
      | (refine go_v (cd := cd171) [] 300 rfl ?_; try simp (disch := decide) only [av0, av1, av3, up2_e, up2_s, up2_o, up1_e, up1_o])
      | refine go_st (cd := cd171) 1 rfl (go_ifT (by decide) ?_)
      | refine go_st (cd := cd171) 1 rfl (go_ifF (by decide) ?_)
      | refine go_st (cd := cd171) 1 rfl (go_ifT (by assumption) ?_)
      | refine go_st (cd := cd171) 1 rfl (go_ifF (by assumption) ?_)
      | (refine go_st (cd := cd171) 1 rfl (go_if (fun hq => ?_) (fun hq => ?_)))
      | refine go_ireturn (cd := cd171) rfl ?_
      | refine go_zreturn (cd := cd171) rfl (Or.inl rfl) ?_
      | refine go_zreturn (cd := cd171) rfl (Or.inr rfl) ?_
      | refine go_lreturn (cd := cd171) rfl ?_
      | refine go_areturn (cd := cd171) rfl ?_
      | refine go_areturnN (cd := cd171) rfl ?_
      | refine go_return (cd := cd171) rfl ?_
      | (refine go_callv (cd := cd171) rfl rfl rfl rfl rfl (lv3 rfl) rfl (cl_in (fun hq => ⟨rfl, ?_⟩) (fun hq => ⟨rfl, ?_⟩)) <;> (try simp (disch := decide) only [av0, av1, av3, up2_e, up2_s, up2_o, up1_e, up1_o] at hq))
      | (refine go_calls (cd := cd171) rfl rfl rfl rfl rfl (cl_in (fun hq => ⟨rfl, ?_⟩) (fun hq => ⟨rfl, ?_⟩)) <;> (try simp (disch := decide) only [av0, av1, av3, up2_e, up2_s, up2_o, up1_e, up1_o] at hq)))
  all_goals first | exact k1 (by grind) | exact k0 (by grind)
/-- a number as a tape of a sort holds it -/
def fitF (s : Int32) (v : Int64) : Int64 := if s = 0 then v.toInt32.toInt8.toInt32.toInt64 else if s = 1 then v.toInt32.toInt16.toInt32.toInt64 else if s = 2 then v.toInt32.toInt64 else if s = 3 then v else if lg_cmp v 0 = 0 then 0 else 1
theorem cl_fitted {t : Nat} {v : Int64} (ht : t < 6) (k : P (some (.long (fitF (I (65 + 2 * t) 0) v))) (aHp r rr I J)) : aCl L xs fv 111 (d + 1) 27 [.ref (65 + 2 * t), .long v] (aHp r rr I J) P := by
  refine cl_of rfl (Nat.le_add_right _ _) ?_
  unfold fitF at k
  repeat' (first
      | (refine go_v (cd := cd27) [1] 300 rfl ?_; try simp (disch := decide) only [av0, av1, av3, up2_e, up2_s, up2_o, up1_e, up1_o])
      | refine go_st (cd := cd27) 1 rfl (go_ifT (by decide) ?_)
      | refine go_st (cd := cd27) 1 rfl (go_ifF (by decide) ?_)
      | refine go_st (cd := cd27) 1 rfl (go_ifT (by assumption) ?_)
      | refine go_st (cd := cd27) 1 rfl (go_ifF (by assumption) ?_)
      | (refine go_st (cd := cd27) 1 rfl (go_if (fun hq => ?_) (fun hq => ?_)))
      | refine go_ireturn (cd := cd27) rfl ?_
      | refine go_zreturn (cd := cd27) rfl (Or.inl rfl) ?_
      | refine go_zreturn (cd := cd27) rfl (Or.inr rfl) ?_
      | refine go_lreturn (cd := cd27) rfl ?_
      | refine go_areturn (cd := cd27) rfl ?_
      | refine go_areturnN (cd := cd27) rfl ?_
      | refine go_return (cd := cd27) rfl ?_
      | refine go_get (cd := cd27) rfl (tp_lt ht) (tp_k ht) ?_
      | refine go_tsw (cd := cd27) 0 3 rfl rfl rfl rfl (fun hq => ?_) ⟨fun hq => ?_, fun hq => ?_, fun hq => ?_, fun hq => ?_, trivial⟩)
  all_goals (refine Eq.subst (motive := fun q => P (some (.long q)) _) ?_ k; grind)
theorem cl_narrow {s : Int32} {v : Int64} (h0 : 0 ≤ s) (h4 : s ≤ 4) (k : P (some (.long (fitF s v))) (aHp r rr I J)) : aCl L xs fv 111 (d + 1) 173 [.ref 77, .int s, .long v] (aHp r rr I J) P := by
  refine cl_of rfl (Nat.le_add_right _ _) ?_
  unfold fitF at k
  repeat' (first
      | (refine go_v (cd := cd173) [] 300 rfl ?_; try simp (disch := decide) only [av0, av1, av3, up2_e, up2_s, up2_o, up1_e, up1_o])
      | refine go_st (cd := cd173) 1 rfl (go_ifT (by decide) ?_)
      | refine go_st (cd := cd173) 1 rfl (go_ifF (by decide) ?_)
      | refine go_st (cd := cd173) 1 rfl (go_ifT (by assumption) ?_)
      | refine go_st (cd := cd173) 1 rfl (go_ifF (by assumption) ?_)
      | (refine go_st (cd := cd173) 1 rfl (go_if (fun hq => ?_) (fun hq => ?_)))
      | refine go_ireturn (cd := cd173) rfl ?_
      | refine go_zreturn (cd := cd173) rfl (Or.inl rfl) ?_
      | refine go_zreturn (cd := cd173) rfl (Or.inr rfl) ?_
      | refine go_lreturn (cd := cd173) rfl ?_
      | refine go_areturn (cd := cd173) rfl ?_
      | refine go_areturnN (cd := cd173) rfl ?_
      | refine go_return (cd := cd173) rfl ?_)
  all_goals (refine Eq.subst (motive := fun q => P (some (.long q)) _) ?_ k; grind)
theorem iP_mk {I' : Nat → Nat → Int32} {J' : Nat → Nat → Int64} (h : iP I J) (t0 : Nat) (hI : ∀ t, t < 6 → t ≠ t0 → I' (65 + 2 * t) = I (65 + 2 * t) ∧ I' 107 t = I 107 t ∧ I' 108 t = I 108 t) (hJ : ∀ t, t < 6 → t ≠ t0 → J' (66 + 2 * t) = J (66 + 2 * t) ∧ ∀ k, k < 60 → J' 109 (60 * t + k) = J 109 (60 * t + k))
    (h0 : I' (65 + 2 * t0) 0 = I' 107 t0 ∧ -1 ≤ I' 107 t0 ∧ I' 107 t0 ≤ 4 ∧ I' (65 + 2 * t0) 1 = I' 108 t0 ∧ 0 ≤ I' 108 t0 ∧ I' 108 t0 ≤ 60 ∧ ∀ k, k < 60 → J' (66 + 2 * t0) k = J' 109 (60 * t0 + k) ∧ (I' 107 t0 = 0 → -128 ≤ J' 109 (60 * t0 + k) ∧ J' 109 (60 * t0 + k) ≤ 127) ∧ (I' 107 t0 = -1 → I' 108 t0 = 0)) : iP I' J' := by
  intro t ht
  by_cases he : t = t0
  · subst he; exact h0
  · have a := hI t ht he
    have b := hJ t ht he
    rw [a.1, a.2.1, a.2.2, b.1]
    obtain ⟨c1, c2, c3, c4, c5, c6, c7⟩ := h t ht
    refine ⟨c1, c2, c3, c4, c5, c6, fun k hk => ?_⟩
    rw [b.2 k hk]
    exact c7 k hk
theorem fit_byte (v : Int64) : -128 ≤ fitF 0 v ∧ fitF 0 v ≤ 127 := by
  have h1 := Int8.le_toInt v.toInt32.toInt8
  have h2 := Int8.toInt_lt v.toInt32.toInt8
  show -128 ≤ v.toInt32.toInt8.toInt32.toInt64 ∧ v.toInt32.toInt8.toInt32.toInt64 ≤ 127
  rw [Int64.le_iff_toInt_le, Int64.le_iff_toInt_le, Int32.toInt_toInt64, Int8.toInt_toInt32]
  exact ⟨by rw [show (-128 : Int64).toInt = -128 from rfl]; omega, by rw [show (127 : Int64).toInt = 127 from rfl]; omega⟩
end TP
