section SM
variable {L : Nat} {xs : Nat → Int32} {fv : Value} {d r : Nat} {rr : Option Nat} {I : Nat → Nat → Int32} {J : Nat → Nat → Int64} {P : Option Value → aH → Prop}
theorem cl_mayBe {s now fit on many : Int32} (h0 : 0 ≤ I 77 0) (h6 : I 77 0 ≤ 6) (k1 : mayQ (I 79) (I 77 0) s now fit on many → P (some (.int 1)) (aHp r rr I J)) (k0 : ¬ mayQ (I 79) (I 77 0) s now fit on many → P (some (.int 0)) (aHp r rr I J)) : aCl L xs fv 111 (d + 3) 97 [.ref 77, .int s, .int now, .int fit, .int on, .int many] (aHp r rr I J) P := by
  refine cl_of rfl (Nat.le_add_right _ _) ?_
  repeat' (first
      | (refine go_v (cd := cd97) [] 300 rfl ?_; try simp (disch := decide) only [av0, av1, av3, up2_e, up2_s, up2_o, up1_e, up1_o])
      | refine go_st (cd := cd97) 1 rfl (go_ifT (by decide) ?_)
      | refine go_st (cd := cd97) 1 rfl (go_ifF (by decide) ?_)
      | refine go_st (cd := cd97) 1 rfl (go_if (fun _ => ?_) (fun _ => ?_))
      | refine go_ireturn (cd := cd97) rfl ?_
      | refine go_zreturn (cd := cd97) rfl (Or.inl rfl) ?_
      | refine go_zreturn (cd := cd97) rfl (Or.inr rfl) ?_
      | refine go_lreturn (cd := cd97) rfl ?_
      | refine go_areturn (cd := cd97) rfl ?_
      | refine go_areturnN (cd := cd97) rfl ?_
      | refine go_return (cd := cd97) rfl ?_
      | refine go_callv (cd := cd97) rfl rfl rfl rfl rfl (lv3 rfl) rfl (cl_misSail (fun _ => ⟨rfl, ?_⟩) (fun _ => ⟨rfl, ?_⟩))
      | refine go_calls (cd := cd97) rfl rfl rfl rfl rfl (cl_misSail (fun _ => ⟨rfl, ?_⟩) (fun _ => ⟨rfl, ?_⟩))
      | refine go_callv (cd := cd97) rfl rfl rfl rfl rfl (lv3 rfl) rfl (cl_has (fun _ => ⟨rfl, ?_⟩) (fun _ => ⟨rfl, ?_⟩))
      | refine go_calls (cd := cd97) rfl rfl rfl rfl rfl (cl_has (fun _ => ⟨rfl, ?_⟩) (fun _ => ⟨rfl, ?_⟩))
      | refine go_iald (cd := cd97) rfl (vin 6 rfl (by grind) (by grind)) (lv3 rfl) rfl ?_)
  all_goals
    unfold mayQ at k1 k0
    first
      | (have q0 : 0 ≤ s := by grind
         have q1 : s < 6 := by grind
         have e1 := (bt_at q0 q1 fit).1
         have e2 := (bt_at q0 q1 on).1
         first | exact k1 (by grind) | exact k0 (by grind))
      | exact k0 (by grind)
theorem cl_may1 {s : Int32} (h6 : I 1 5 ≤ 6) (k1 : mayQ (I 8) (I 1 5) s (I 1 0) (I 1 6) (I 1 7) (I 1 4) → P (some (.int 1)) (aHp r rr I J)) (k0 : ¬ mayQ (I 8) (I 1 5) s (I 1 0) (I 1 6) (I 1 7) (I 1 4) → P (some (.int 0)) (aHp r rr I J)) : aCl L xs fv 111 (d + 1) 76 [.ref 0, .ref 1, .int s] (aHp r rr I J) P := by
  refine cl_of rfl (Nat.le_add_right _ _) ?_
  repeat' (first
      | (refine go_v (cd := cd76) [] 300 rfl ?_; try simp (disch := decide) only [av0, av1, av3, up2_e, up2_s, up2_o, up1_e, up1_o])
      | refine go_st (cd := cd76) 1 rfl (go_ifT (by decide) ?_)
      | refine go_st (cd := cd76) 1 rfl (go_ifF (by decide) ?_)
      | refine go_st (cd := cd76) 1 rfl (go_if (fun _ => ?_) (fun _ => ?_))
      | refine go_ireturn (cd := cd76) rfl ?_
      | refine go_zreturn (cd := cd76) rfl (Or.inl rfl) ?_
      | refine go_zreturn (cd := cd76) rfl (Or.inr rfl) ?_
      | refine go_lreturn (cd := cd76) rfl ?_
      | refine go_areturn (cd := cd76) rfl ?_
      | refine go_areturnN (cd := cd76) rfl ?_
      | refine go_return (cd := cd76) rfl ?_
      | refine go_iald (cd := cd76) rfl (vin 6 rfl (by grind) (by grind)) (lv3 rfl) rfl ?_)
  all_goals
    unfold mayQ at k1 k0
    first
      | (have q0 : 0 ≤ s := by grind
         have q1 : s < 6 := by grind
         have e1 := mb1 q0 q1 (I 1 6) (I 1 7)
         first | exact k1 (by grind) | exact k0 (by grind))
      | exact k0 (by grind)
theorem cl_may5 {s : Int32} (h6 : I 5 5 ≤ 6) (k1 : mayQ (I 8) (I 5 5) s (I 5 0) (I 5 6) (I 5 7) (I 5 4) → P (some (.int 1)) (aHp r rr I J)) (k0 : ¬ mayQ (I 8) (I 5 5) s (I 5 0) (I 5 6) (I 5 7) (I 5 4) → P (some (.int 0)) (aHp r rr I J)) : aCl L xs fv 111 (d + 1) 76 [.ref 0, .ref 5, .int s] (aHp r rr I J) P := by
  refine cl_of rfl (Nat.le_add_right _ _) ?_
  repeat' (first
      | (refine go_v (cd := cd76) [] 300 rfl ?_; try simp (disch := decide) only [av0, av1, av3, up2_e, up2_s, up2_o, up1_e, up1_o])
      | refine go_st (cd := cd76) 1 rfl (go_ifT (by decide) ?_)
      | refine go_st (cd := cd76) 1 rfl (go_ifF (by decide) ?_)
      | refine go_st (cd := cd76) 1 rfl (go_if (fun _ => ?_) (fun _ => ?_))
      | refine go_ireturn (cd := cd76) rfl ?_
      | refine go_zreturn (cd := cd76) rfl (Or.inl rfl) ?_
      | refine go_zreturn (cd := cd76) rfl (Or.inr rfl) ?_
      | refine go_lreturn (cd := cd76) rfl ?_
      | refine go_areturn (cd := cd76) rfl ?_
      | refine go_areturnN (cd := cd76) rfl ?_
      | refine go_return (cd := cd76) rfl ?_
      | refine go_iald (cd := cd76) rfl (vin 6 rfl (by grind) (by grind)) (lv3 rfl) rfl ?_)
  all_goals
    unfold mayQ at k1 k0
    first
      | (have q0 : 0 ≤ s := by grind
         have q1 : s < 6 := by grind
         have e1 := mb1 q0 q1 (I 5 6) (I 5 7)
         first | exact k1 (by grind) | exact k0 (by grind))
      | exact k0 (by grind)
end SM
