section SM
variable {L : Nat} {xs : Nat → Int32} {fv : Value} {d r : Nat} {rr : Option Nat} {I : Nat → Nat → Int32} {J : Nat → Nat → Int64} {P : Option Value → aH → Prop}
theorem cl_in {v lo hi : Int32} (k1 : (lo ≤ v ∧ v ≤ hi) → P (some (.int 1)) (aHp r rr I J)) (k0 : ¬ ((lo ≤ v ∧ v ≤ hi)) → P (some (.int 0)) (aHp r rr I J)) : aCl L xs fv 111 (d + 1) 91 [.ref 77, .int v, .int lo, .int hi] (aHp r rr I J) P := by
  refine cl_of rfl (Nat.le_add_right _ _) ?_
  repeat' (first
      | (refine go_v (cd := cd91) [] 300 rfl ?_; try simp (disch := decide) only [av0, av1, av3, up2_e, up2_s, up2_o, up1_e, up1_o])
      | refine go_st (cd := cd91) 1 rfl (go_ifT (by decide) ?_)
      | refine go_st (cd := cd91) 1 rfl (go_ifF (by decide) ?_)
      | refine go_st (cd := cd91) 1 rfl (go_if (fun _ => ?_) (fun _ => ?_))
      | refine go_ireturn (cd := cd91) rfl ?_
      | refine go_zreturn (cd := cd91) rfl (Or.inl rfl) ?_
      | refine go_zreturn (cd := cd91) rfl (Or.inr rfl) ?_
      | refine go_lreturn (cd := cd91) rfl ?_
      | refine go_areturn (cd := cd91) rfl ?_
      | refine go_areturnN (cd := cd91) rfl ?_
      | refine go_return (cd := cd91) rfl ?_)
  all_goals first | exact k1 (by grind) | exact k0 (by grind)
theorem cl_has {s k : Int32} (k1 : ((s >>> (k &&& 31)) &&& 1 = 1) → P (some (.int 1)) (aHp r rr I J)) (k0 : ¬ (((s >>> (k &&& 31)) &&& 1 = 1)) → P (some (.int 0)) (aHp r rr I J)) : aCl L xs fv 111 (d + 1) 92 [.ref 77, .int s, .int k] (aHp r rr I J) P := by
  refine cl_of rfl (Nat.le_add_right _ _) ?_
  repeat' (first
      | (refine go_v (cd := cd92) [] 300 rfl ?_; try simp (disch := decide) only [av0, av1, av3, up2_e, up2_s, up2_o, up1_e, up1_o])
      | refine go_st (cd := cd92) 1 rfl (go_ifT (by decide) ?_)
      | refine go_st (cd := cd92) 1 rfl (go_ifF (by decide) ?_)
      | refine go_st (cd := cd92) 1 rfl (go_if (fun _ => ?_) (fun _ => ?_))
      | refine go_ireturn (cd := cd92) rfl ?_
      | refine go_zreturn (cd := cd92) rfl (Or.inl rfl) ?_
      | refine go_zreturn (cd := cd92) rfl (Or.inr rfl) ?_
      | refine go_lreturn (cd := cd92) rfl ?_
      | refine go_areturn (cd := cd92) rfl ?_
      | refine go_areturnN (cd := cd92) rfl ?_
      | refine go_return (cd := cd92) rfl ?_)
  all_goals first | exact k1 (by grind) | exact k0 (by grind)
theorem cl_misSail {s : Int32} (k1 : (0 ≤ s ∧ s ≤ I 77 0 - 1) → P (some (.int 1)) (aHp r rr I J)) (k0 : ¬ ((0 ≤ s ∧ s ≤ I 77 0 - 1)) → P (some (.int 0)) (aHp r rr I J)) : aCl L xs fv 111 (d + 2) 93 [.ref 77, .int s] (aHp r rr I J) P := by
  refine cl_of rfl (Nat.le_add_right _ _) ?_
  repeat' (first
      | (refine go_v (cd := cd93) [] 300 rfl ?_; try simp (disch := decide) only [av0, av1, av3, up2_e, up2_s, up2_o, up1_e, up1_o])
      | refine go_st (cd := cd93) 1 rfl (go_ifT (by decide) ?_)
      | refine go_st (cd := cd93) 1 rfl (go_ifF (by decide) ?_)
      | refine go_st (cd := cd93) 1 rfl (go_if (fun _ => ?_) (fun _ => ?_))
      | refine go_ireturn (cd := cd93) rfl ?_
      | refine go_zreturn (cd := cd93) rfl (Or.inl rfl) ?_
      | refine go_zreturn (cd := cd93) rfl (Or.inr rfl) ?_
      | refine go_lreturn (cd := cd93) rfl ?_
      | refine go_areturn (cd := cd93) rfl ?_
      | refine go_areturnN (cd := cd93) rfl ?_
      | refine go_return (cd := cd93) rfl ?_
      | refine go_callv (cd := cd93) rfl rfl rfl rfl rfl (lv3 rfl) rfl (cl_in (d := d) (fun _ => ⟨rfl, ?_⟩) (fun _ => ⟨rfl, ?_⟩))
      | refine go_calls (cd := cd93) rfl rfl rfl rfl rfl (cl_in (d := d) (fun _ => ⟨rfl, ?_⟩) (fun _ => ⟨rfl, ?_⟩)))
  all_goals first | exact k1 (by grind) | exact k0 (by grind)
theorem cl_misWind {s : Int32} (k1 : (0 ≤ s ∧ s ≤ 3) → P (some (.int 1)) (aHp r rr I J)) (k0 : ¬ ((0 ≤ s ∧ s ≤ 3)) → P (some (.int 0)) (aHp r rr I J)) : aCl L xs fv 111 (d + 2) 94 [.ref 77, .int s] (aHp r rr I J) P := by
  refine cl_of rfl (Nat.le_add_right _ _) ?_
  repeat' (first
      | (refine go_v (cd := cd94) [] 300 rfl ?_; try simp (disch := decide) only [av0, av1, av3, up2_e, up2_s, up2_o, up1_e, up1_o])
      | refine go_st (cd := cd94) 1 rfl (go_ifT (by decide) ?_)
      | refine go_st (cd := cd94) 1 rfl (go_ifF (by decide) ?_)
      | refine go_st (cd := cd94) 1 rfl (go_if (fun _ => ?_) (fun _ => ?_))
      | refine go_ireturn (cd := cd94) rfl ?_
      | refine go_zreturn (cd := cd94) rfl (Or.inl rfl) ?_
      | refine go_zreturn (cd := cd94) rfl (Or.inr rfl) ?_
      | refine go_lreturn (cd := cd94) rfl ?_
      | refine go_areturn (cd := cd94) rfl ?_
      | refine go_areturnN (cd := cd94) rfl ?_
      | refine go_return (cd := cd94) rfl ?_
      | refine go_callv (cd := cd94) rfl rfl rfl rfl rfl (lv3 rfl) rfl (cl_in (d := d) (fun _ => ⟨rfl, ?_⟩) (fun _ => ⟨rfl, ?_⟩))
      | refine go_calls (cd := cd94) rfl rfl rfl rfl rfl (cl_in (d := d) (fun _ => ⟨rfl, ?_⟩) (fun _ => ⟨rfl, ?_⟩)))
  all_goals first | exact k1 (by grind) | exact k0 (by grind)
theorem cl_isSail {s : Int32} (k1 : (0 ≤ s ∧ s < I 1 5) → P (some (.int 1)) (aHp r rr I J)) (k0 : ¬ ((0 ≤ s ∧ s < I 1 5)) → P (some (.int 0)) (aHp r rr I J)) : aCl L xs fv 111 (d + 1) 66 [.ref 0, .int s] (aHp r rr I J) P := by
  refine cl_of rfl (Nat.le_add_right _ _) ?_
  repeat' (first
      | (refine go_v (cd := cd66) [] 300 rfl ?_; try simp (disch := decide) only [av0, av1, av3, up2_e, up2_s, up2_o, up1_e, up1_o])
      | refine go_st (cd := cd66) 1 rfl (go_ifT (by decide) ?_)
      | refine go_st (cd := cd66) 1 rfl (go_ifF (by decide) ?_)
      | refine go_st (cd := cd66) 1 rfl (go_if (fun _ => ?_) (fun _ => ?_))
      | refine go_ireturn (cd := cd66) rfl ?_
      | refine go_zreturn (cd := cd66) rfl (Or.inl rfl) ?_
      | refine go_zreturn (cd := cd66) rfl (Or.inr rfl) ?_
      | refine go_lreturn (cd := cd66) rfl ?_
      | refine go_areturn (cd := cd66) rfl ?_
      | refine go_areturnN (cd := cd66) rfl ?_
      | refine go_return (cd := cd66) rfl ?_)
  all_goals first | exact k1 (by grind) | exact k0 (by grind)
theorem cl_isWind {s : Int32} (k1 : (0 ≤ s ∧ s < 4) → P (some (.int 1)) (aHp r rr I J)) (k0 : ¬ ((0 ≤ s ∧ s < 4)) → P (some (.int 0)) (aHp r rr I J)) : aCl L xs fv 111 (d + 1) 67 [.int s] (aHp r rr I J) P := by
  refine cl_of rfl (Nat.le_add_right _ _) ?_
  repeat' (first
      | (refine go_v (cd := cd67) [] 300 rfl ?_; try simp (disch := decide) only [av0, av1, av3, up2_e, up2_s, up2_o, up1_e, up1_o])
      | refine go_st (cd := cd67) 1 rfl (go_ifT (by decide) ?_)
      | refine go_st (cd := cd67) 1 rfl (go_ifF (by decide) ?_)
      | refine go_st (cd := cd67) 1 rfl (go_if (fun _ => ?_) (fun _ => ?_))
      | refine go_ireturn (cd := cd67) rfl ?_
      | refine go_zreturn (cd := cd67) rfl (Or.inl rfl) ?_
      | refine go_zreturn (cd := cd67) rfl (Or.inr rfl) ?_
      | refine go_lreturn (cd := cd67) rfl ?_
      | refine go_areturn (cd := cd67) rfl ?_
      | refine go_areturnN (cd := cd67) rfl ?_
      | refine go_return (cd := cd67) rfl ?_)
  all_goals first | exact k1 (by grind) | exact k0 (by grind)
theorem cl_isTellable {s : Int32} (k1 : (-1 ≤ s ∧ s < 6) → P (some (.int 1)) (aHp r rr I J)) (k0 : ¬ ((-1 ≤ s ∧ s < 6)) → P (some (.int 0)) (aHp r rr I J)) : aCl L xs fv 111 (d + 1) 68 [.int s] (aHp r rr I J) P := by
  refine cl_of rfl (Nat.le_add_right _ _) ?_
  repeat' (first
      | (refine go_v (cd := cd68) [] 300 rfl ?_; try simp (disch := decide) only [av0, av1, av3, up2_e, up2_s, up2_o, up1_e, up1_o])
      | refine go_st (cd := cd68) 1 rfl (go_ifT (by decide) ?_)
      | refine go_st (cd := cd68) 1 rfl (go_ifF (by decide) ?_)
      | refine go_st (cd := cd68) 1 rfl (go_if (fun _ => ?_) (fun _ => ?_))
      | refine go_ireturn (cd := cd68) rfl ?_
      | refine go_zreturn (cd := cd68) rfl (Or.inl rfl) ?_
      | refine go_zreturn (cd := cd68) rfl (Or.inr rfl) ?_
      | refine go_lreturn (cd := cd68) rfl ?_
      | refine go_areturn (cd := cd68) rfl ?_
      | refine go_areturnN (cd := cd68) rfl ?_
      | refine go_return (cd := cd68) rfl ?_)
  all_goals first | exact k1 (by grind) | exact k0 (by grind)
theorem cl_isHours {s : Int32} (k1 : (1 ≤ s ∧ s ≤ 4) → P (some (.int 1)) (aHp r rr I J)) (k0 : ¬ ((1 ≤ s ∧ s ≤ 4)) → P (some (.int 0)) (aHp r rr I J)) : aCl L xs fv 111 (d + 1) 69 [.int s] (aHp r rr I J) P := by
  refine cl_of rfl (Nat.le_add_right _ _) ?_
  repeat' (first
      | (refine go_v (cd := cd69) [] 300 rfl ?_; try simp (disch := decide) only [av0, av1, av3, up2_e, up2_s, up2_o, up1_e, up1_o])
      | refine go_st (cd := cd69) 1 rfl (go_ifT (by decide) ?_)
      | refine go_st (cd := cd69) 1 rfl (go_ifF (by decide) ?_)
      | refine go_st (cd := cd69) 1 rfl (go_if (fun _ => ?_) (fun _ => ?_))
      | refine go_ireturn (cd := cd69) rfl ?_
      | refine go_zreturn (cd := cd69) rfl (Or.inl rfl) ?_
      | refine go_zreturn (cd := cd69) rfl (Or.inr rfl) ?_
      | refine go_lreturn (cd := cd69) rfl ?_
      | refine go_areturn (cd := cd69) rfl ?_
      | refine go_areturnN (cd := cd69) rfl ?_
      | refine go_return (cd := cd69) rfl ?_)
  all_goals first | exact k1 (by grind) | exact k0 (by grind)
theorem cl_isPart {s : Int32} (k1 : (s = 0 ∨ s = 1) → P (some (.int 1)) (aHp r rr I J)) (k0 : ¬ ((s = 0 ∨ s = 1)) → P (some (.int 0)) (aHp r rr I J)) : aCl L xs fv 111 (d + 1) 70 [.int s] (aHp r rr I J) P := by
  refine cl_of rfl (Nat.le_add_right _ _) ?_
  repeat' (first
      | (refine go_v (cd := cd70) [] 300 rfl ?_; try simp (disch := decide) only [av0, av1, av3, up2_e, up2_s, up2_o, up1_e, up1_o])
      | refine go_st (cd := cd70) 1 rfl (go_ifT (by decide) ?_)
      | refine go_st (cd := cd70) 1 rfl (go_ifF (by decide) ?_)
      | refine go_st (cd := cd70) 1 rfl (go_if (fun _ => ?_) (fun _ => ?_))
      | refine go_ireturn (cd := cd70) rfl ?_
      | refine go_zreturn (cd := cd70) rfl (Or.inl rfl) ?_
      | refine go_zreturn (cd := cd70) rfl (Or.inr rfl) ?_
      | refine go_lreturn (cd := cd70) rfl ?_
      | refine go_areturn (cd := cd70) rfl ?_
      | refine go_areturnN (cd := cd70) rfl ?_
      | refine go_return (cd := cd70) rfl ?_)
  all_goals first | exact k1 (by grind) | exact k0 (by grind)
end SM
