/-! a scene becomes another; as the reference has it -/
def cpN (n : Nat) (f g : Nat → Int32) : Nat → Int32 := fun q => if q < n then f q else g q
section BC
variable {L : Nat} {xs : Nat → Int32} {fv : Value} {d : Nat} {r : Nat} {rr : Option Nat} {I : Nat → Nat → Int32} {J : Nat → Nat → Int64} {P : Option Value → aH → Prop}
variable {A : Nat → List Cl}
theorem heap3 {I1 I2 : Nat → Nat → Int32} (h : ∀ j q, I1 j q = I2 j q) : I1 = I2 := funext fun j => funext fun q => h j q
theorem cp_ups {f g : Nat → Int32} : (fun q => if q = 9 then f 9 else if q = 8 then f 8 else if q = 7 then f 7 else if q = 6 then f 6 else if q = 5 then f 5 else if q = 4 then f 4 else if q = 3 then f 3 else if q = 2 then f 2 else if q = 1 then f 1 else if q = 0 then f 0 else g q) = cpN 10 f g := by
  funext q
  unfold cpN
  match q with
  | 0 => rfl
  | 1 => rfl
  | 2 => rfl
  | 3 => rfl
  | 4 => rfl
  | 5 => rfl
  | 6 => rfl
  | 7 => rfl
  | 8 => rfl
  | 9 => rfl
  | q + 10 =>
    simp only [show ¬ q + 10 = 9 by omega, show ¬ q + 10 = 8 by omega, show ¬ q + 10 = 7 by omega, show ¬ q + 10 = 6 by omega, show ¬ q + 10 = 5 by omega, show ¬ q + 10 = 4 by omega, show ¬ q + 10 = 3 by omega, show ¬ q + 10 = 2 by omega, show ¬ q + 10 = 1 by omega, show ¬ q + 10 = 0 by omega, show ¬ q + 10 < 10 by omega, if_false]
theorem cp_6 {f g : Nat → Int32} : va_cpy f g 0 0 6 = cpN 6 f g := by
  funext q
  unfold va_cpy cpN
  by_cases h : q < 6
  · rw [if_pos h, if_pos (by omega)]; congr 1; omega
  · rw [if_neg h, if_neg (by omega)]
theorem cl_become51 (k : P none (aHp r rr (up1 (up1 I 5 (cpN 10 (I 1) (I 5))) 6 (cpN 6 (I 2) (I 6))) J)) : aCl L xs fv 111 (d + 1) 24 [.ref 5, .ref 1] (aHp r rr I J) P := by
  refine cl_of rfl (Nat.le_add_right _ _) ?_
  refine go_v (cd := cd24) [8] 9 rfl ?_
  rw [show ((111 + 3 * r, I, J, aRf r rr) : aH).2.1 1 0 = I 1 0 from rfl]
  show aTo L xs fv 111 d cd24 (8, [(0, .ref 5), (1, .ref 1)], [], aHp r rr (up2 I 5 0 (I 1 0)) J) P
  refine go_v (cd := cd24) [16] 9 rfl ?_
  rw [show ((111 + 3 * r, (up2 I 5 0 (I 1 0)), J, aRf r rr) : aH).2.1 1 1 = I 1 1 from rfl]
  show aTo L xs fv 111 d cd24 (16, [(0, .ref 5), (1, .ref 1)], [], aHp r rr (up2 (up2 I 5 0 (I 1 0)) 5 1 (I 1 1)) J) P
  refine go_v (cd := cd24) [24] 9 rfl ?_
  rw [show ((111 + 3 * r, (up2 (up2 I 5 0 (I 1 0)) 5 1 (I 1 1)), J, aRf r rr) : aH).2.1 1 2 = I 1 2 from rfl]
  show aTo L xs fv 111 d cd24 (24, [(0, .ref 5), (1, .ref 1)], [], aHp r rr (up2 (up2 (up2 I 5 0 (I 1 0)) 5 1 (I 1 1)) 5 2 (I 1 2)) J) P
  refine go_v (cd := cd24) [32] 9 rfl ?_
  rw [show ((111 + 3 * r, (up2 (up2 (up2 I 5 0 (I 1 0)) 5 1 (I 1 1)) 5 2 (I 1 2)), J, aRf r rr) : aH).2.1 1 3 = I 1 3 from rfl]
  show aTo L xs fv 111 d cd24 (32, [(0, .ref 5), (1, .ref 1)], [], aHp r rr (up2 (up2 (up2 (up2 I 5 0 (I 1 0)) 5 1 (I 1 1)) 5 2 (I 1 2)) 5 3 (I 1 3)) J) P
  refine go_v (cd := cd24) [40] 9 rfl ?_
  rw [show ((111 + 3 * r, (up2 (up2 (up2 (up2 I 5 0 (I 1 0)) 5 1 (I 1 1)) 5 2 (I 1 2)) 5 3 (I 1 3)), J, aRf r rr) : aH).2.1 1 4 = I 1 4 from rfl]
  show aTo L xs fv 111 d cd24 (40, [(0, .ref 5), (1, .ref 1)], [], aHp r rr (up2 (up2 (up2 (up2 (up2 I 5 0 (I 1 0)) 5 1 (I 1 1)) 5 2 (I 1 2)) 5 3 (I 1 3)) 5 4 (I 1 4)) J) P
  refine go_v (cd := cd24) [48] 9 rfl ?_
  rw [show ((111 + 3 * r, (up2 (up2 (up2 (up2 (up2 I 5 0 (I 1 0)) 5 1 (I 1 1)) 5 2 (I 1 2)) 5 3 (I 1 3)) 5 4 (I 1 4)), J, aRf r rr) : aH).2.1 1 5 = I 1 5 from rfl]
  show aTo L xs fv 111 d cd24 (48, [(0, .ref 5), (1, .ref 1)], [], aHp r rr (up2 (up2 (up2 (up2 (up2 (up2 I 5 0 (I 1 0)) 5 1 (I 1 1)) 5 2 (I 1 2)) 5 3 (I 1 3)) 5 4 (I 1 4)) 5 5 (I 1 5)) J) P
  refine go_v (cd := cd24) [56] 9 rfl ?_
  rw [show ((111 + 3 * r, (up2 (up2 (up2 (up2 (up2 (up2 I 5 0 (I 1 0)) 5 1 (I 1 1)) 5 2 (I 1 2)) 5 3 (I 1 3)) 5 4 (I 1 4)) 5 5 (I 1 5)), J, aRf r rr) : aH).2.1 1 6 = I 1 6 from rfl]
  show aTo L xs fv 111 d cd24 (56, [(0, .ref 5), (1, .ref 1)], [], aHp r rr (up2 (up2 (up2 (up2 (up2 (up2 (up2 I 5 0 (I 1 0)) 5 1 (I 1 1)) 5 2 (I 1 2)) 5 3 (I 1 3)) 5 4 (I 1 4)) 5 5 (I 1 5)) 5 6 (I 1 6)) J) P
  refine go_v (cd := cd24) [64] 9 rfl ?_
  rw [show ((111 + 3 * r, (up2 (up2 (up2 (up2 (up2 (up2 (up2 I 5 0 (I 1 0)) 5 1 (I 1 1)) 5 2 (I 1 2)) 5 3 (I 1 3)) 5 4 (I 1 4)) 5 5 (I 1 5)) 5 6 (I 1 6)), J, aRf r rr) : aH).2.1 1 7 = I 1 7 from rfl]
  show aTo L xs fv 111 d cd24 (64, [(0, .ref 5), (1, .ref 1)], [], aHp r rr (up2 (up2 (up2 (up2 (up2 (up2 (up2 (up2 I 5 0 (I 1 0)) 5 1 (I 1 1)) 5 2 (I 1 2)) 5 3 (I 1 3)) 5 4 (I 1 4)) 5 5 (I 1 5)) 5 6 (I 1 6)) 5 7 (I 1 7)) J) P
  refine go_v (cd := cd24) [72] 9 rfl ?_
  rw [show ((111 + 3 * r, (up2 (up2 (up2 (up2 (up2 (up2 (up2 (up2 I 5 0 (I 1 0)) 5 1 (I 1 1)) 5 2 (I 1 2)) 5 3 (I 1 3)) 5 4 (I 1 4)) 5 5 (I 1 5)) 5 6 (I 1 6)) 5 7 (I 1 7)), J, aRf r rr) : aH).2.1 1 8 = I 1 8 from rfl]
  show aTo L xs fv 111 d cd24 (72, [(0, .ref 5), (1, .ref 1)], [], aHp r rr (up2 (up2 (up2 (up2 (up2 (up2 (up2 (up2 (up2 I 5 0 (I 1 0)) 5 1 (I 1 1)) 5 2 (I 1 2)) 5 3 (I 1 3)) 5 4 (I 1 4)) 5 5 (I 1 5)) 5 6 (I 1 6)) 5 7 (I 1 7)) 5 8 (I 1 8)) J) P
  refine go_v (cd := cd24) [80] 9 rfl ?_
  rw [show ((111 + 3 * r, (up2 (up2 (up2 (up2 (up2 (up2 (up2 (up2 (up2 I 5 0 (I 1 0)) 5 1 (I 1 1)) 5 2 (I 1 2)) 5 3 (I 1 3)) 5 4 (I 1 4)) 5 5 (I 1 5)) 5 6 (I 1 6)) 5 7 (I 1 7)) 5 8 (I 1 8)), J, aRf r rr) : aH).2.1 1 9 = I 1 9 from rfl]
  show aTo L xs fv 111 d cd24 (80, [(0, .ref 5), (1, .ref 1)], [], aHp r rr (up2 (up2 (up2 (up2 (up2 (up2 (up2 (up2 (up2 (up2 I 5 0 (I 1 0)) 5 1 (I 1 1)) 5 2 (I 1 2)) 5 3 (I 1 3)) 5 4 (I 1 4)) 5 5 (I 1 5)) 5 6 (I 1 6)) 5 7 (I 1 7)) 5 8 (I 1 8)) 5 9 (I 1 9)) J) P
  refine go_v (cd := cd24) [] 20 rfl ?_
  refine go_copyI (cd := cd24) (n := 6) (dp := 0) (sp := 0) rfl (by decide) (by decide) (by decide) (lv3 rfl) (lv3 rfl) rfl rfl (Nat.le_of_ble_eq_true rfl) (Nat.le_of_ble_eq_true rfl) rfl ?_
  refine go_return (cd := cd24) rfl ?_
  refine Eq.subst (motive := fun z => P none (aHp r rr z J)) ?_ k
  rw [← cp_6, ← cp_ups]
  refine heap3 (fun j q => ?_)
  by_cases h6 : j = 6
  · subst h6
    rw [up1_e, up1_e]; rfl
  · rw [up1_ne h6, up1_ne h6]
    by_cases h5 : j = 5
    · subst h5
      rw [up1_e, up2_at, up2_at, up2_at, up2_at, up2_at, up2_at, up2_at, up2_at, up2_at, up2_at]
    · rw [up1_ne h5, up2_ne h5, up2_ne h5, up2_ne h5, up2_ne h5, up2_ne h5, up2_ne h5, up2_ne h5, up2_ne h5, up2_ne h5, up2_ne h5]
theorem cl_become31 (k : P none (aHp r rr (up1 (up1 I 3 (cpN 10 (I 1) (I 3))) 4 (cpN 6 (I 2) (I 4))) J)) : aCl L xs fv 111 (d + 1) 24 [.ref 3, .ref 1] (aHp r rr I J) P := by
  refine cl_of rfl (Nat.le_add_right _ _) ?_
  refine go_v (cd := cd24) [8] 9 rfl ?_
  rw [show ((111 + 3 * r, I, J, aRf r rr) : aH).2.1 1 0 = I 1 0 from rfl]
  show aTo L xs fv 111 d cd24 (8, [(0, .ref 3), (1, .ref 1)], [], aHp r rr (up2 I 3 0 (I 1 0)) J) P
  refine go_v (cd := cd24) [16] 9 rfl ?_
  rw [show ((111 + 3 * r, (up2 I 3 0 (I 1 0)), J, aRf r rr) : aH).2.1 1 1 = I 1 1 from rfl]
  show aTo L xs fv 111 d cd24 (16, [(0, .ref 3), (1, .ref 1)], [], aHp r rr (up2 (up2 I 3 0 (I 1 0)) 3 1 (I 1 1)) J) P
  refine go_v (cd := cd24) [24] 9 rfl ?_
  rw [show ((111 + 3 * r, (up2 (up2 I 3 0 (I 1 0)) 3 1 (I 1 1)), J, aRf r rr) : aH).2.1 1 2 = I 1 2 from rfl]
  show aTo L xs fv 111 d cd24 (24, [(0, .ref 3), (1, .ref 1)], [], aHp r rr (up2 (up2 (up2 I 3 0 (I 1 0)) 3 1 (I 1 1)) 3 2 (I 1 2)) J) P
  refine go_v (cd := cd24) [32] 9 rfl ?_
  rw [show ((111 + 3 * r, (up2 (up2 (up2 I 3 0 (I 1 0)) 3 1 (I 1 1)) 3 2 (I 1 2)), J, aRf r rr) : aH).2.1 1 3 = I 1 3 from rfl]
  show aTo L xs fv 111 d cd24 (32, [(0, .ref 3), (1, .ref 1)], [], aHp r rr (up2 (up2 (up2 (up2 I 3 0 (I 1 0)) 3 1 (I 1 1)) 3 2 (I 1 2)) 3 3 (I 1 3)) J) P
  refine go_v (cd := cd24) [40] 9 rfl ?_
  rw [show ((111 + 3 * r, (up2 (up2 (up2 (up2 I 3 0 (I 1 0)) 3 1 (I 1 1)) 3 2 (I 1 2)) 3 3 (I 1 3)), J, aRf r rr) : aH).2.1 1 4 = I 1 4 from rfl]
  show aTo L xs fv 111 d cd24 (40, [(0, .ref 3), (1, .ref 1)], [], aHp r rr (up2 (up2 (up2 (up2 (up2 I 3 0 (I 1 0)) 3 1 (I 1 1)) 3 2 (I 1 2)) 3 3 (I 1 3)) 3 4 (I 1 4)) J) P
  refine go_v (cd := cd24) [48] 9 rfl ?_
  rw [show ((111 + 3 * r, (up2 (up2 (up2 (up2 (up2 I 3 0 (I 1 0)) 3 1 (I 1 1)) 3 2 (I 1 2)) 3 3 (I 1 3)) 3 4 (I 1 4)), J, aRf r rr) : aH).2.1 1 5 = I 1 5 from rfl]
  show aTo L xs fv 111 d cd24 (48, [(0, .ref 3), (1, .ref 1)], [], aHp r rr (up2 (up2 (up2 (up2 (up2 (up2 I 3 0 (I 1 0)) 3 1 (I 1 1)) 3 2 (I 1 2)) 3 3 (I 1 3)) 3 4 (I 1 4)) 3 5 (I 1 5)) J) P
  refine go_v (cd := cd24) [56] 9 rfl ?_
  rw [show ((111 + 3 * r, (up2 (up2 (up2 (up2 (up2 (up2 I 3 0 (I 1 0)) 3 1 (I 1 1)) 3 2 (I 1 2)) 3 3 (I 1 3)) 3 4 (I 1 4)) 3 5 (I 1 5)), J, aRf r rr) : aH).2.1 1 6 = I 1 6 from rfl]
  show aTo L xs fv 111 d cd24 (56, [(0, .ref 3), (1, .ref 1)], [], aHp r rr (up2 (up2 (up2 (up2 (up2 (up2 (up2 I 3 0 (I 1 0)) 3 1 (I 1 1)) 3 2 (I 1 2)) 3 3 (I 1 3)) 3 4 (I 1 4)) 3 5 (I 1 5)) 3 6 (I 1 6)) J) P
  refine go_v (cd := cd24) [64] 9 rfl ?_
  rw [show ((111 + 3 * r, (up2 (up2 (up2 (up2 (up2 (up2 (up2 I 3 0 (I 1 0)) 3 1 (I 1 1)) 3 2 (I 1 2)) 3 3 (I 1 3)) 3 4 (I 1 4)) 3 5 (I 1 5)) 3 6 (I 1 6)), J, aRf r rr) : aH).2.1 1 7 = I 1 7 from rfl]
  show aTo L xs fv 111 d cd24 (64, [(0, .ref 3), (1, .ref 1)], [], aHp r rr (up2 (up2 (up2 (up2 (up2 (up2 (up2 (up2 I 3 0 (I 1 0)) 3 1 (I 1 1)) 3 2 (I 1 2)) 3 3 (I 1 3)) 3 4 (I 1 4)) 3 5 (I 1 5)) 3 6 (I 1 6)) 3 7 (I 1 7)) J) P
  refine go_v (cd := cd24) [72] 9 rfl ?_
  rw [show ((111 + 3 * r, (up2 (up2 (up2 (up2 (up2 (up2 (up2 (up2 I 3 0 (I 1 0)) 3 1 (I 1 1)) 3 2 (I 1 2)) 3 3 (I 1 3)) 3 4 (I 1 4)) 3 5 (I 1 5)) 3 6 (I 1 6)) 3 7 (I 1 7)), J, aRf r rr) : aH).2.1 1 8 = I 1 8 from rfl]
  show aTo L xs fv 111 d cd24 (72, [(0, .ref 3), (1, .ref 1)], [], aHp r rr (up2 (up2 (up2 (up2 (up2 (up2 (up2 (up2 (up2 I 3 0 (I 1 0)) 3 1 (I 1 1)) 3 2 (I 1 2)) 3 3 (I 1 3)) 3 4 (I 1 4)) 3 5 (I 1 5)) 3 6 (I 1 6)) 3 7 (I 1 7)) 3 8 (I 1 8)) J) P
  refine go_v (cd := cd24) [80] 9 rfl ?_
  rw [show ((111 + 3 * r, (up2 (up2 (up2 (up2 (up2 (up2 (up2 (up2 (up2 I 3 0 (I 1 0)) 3 1 (I 1 1)) 3 2 (I 1 2)) 3 3 (I 1 3)) 3 4 (I 1 4)) 3 5 (I 1 5)) 3 6 (I 1 6)) 3 7 (I 1 7)) 3 8 (I 1 8)), J, aRf r rr) : aH).2.1 1 9 = I 1 9 from rfl]
  show aTo L xs fv 111 d cd24 (80, [(0, .ref 3), (1, .ref 1)], [], aHp r rr (up2 (up2 (up2 (up2 (up2 (up2 (up2 (up2 (up2 (up2 I 3 0 (I 1 0)) 3 1 (I 1 1)) 3 2 (I 1 2)) 3 3 (I 1 3)) 3 4 (I 1 4)) 3 5 (I 1 5)) 3 6 (I 1 6)) 3 7 (I 1 7)) 3 8 (I 1 8)) 3 9 (I 1 9)) J) P
  refine go_v (cd := cd24) [] 20 rfl ?_
  refine go_copyI (cd := cd24) (n := 6) (dp := 0) (sp := 0) rfl (by decide) (by decide) (by decide) (lv3 rfl) (lv3 rfl) rfl rfl (Nat.le_of_ble_eq_true rfl) (Nat.le_of_ble_eq_true rfl) rfl ?_
  refine go_return (cd := cd24) rfl ?_
  refine Eq.subst (motive := fun z => P none (aHp r rr z J)) ?_ k
  rw [← cp_6, ← cp_ups]
  refine heap3 (fun j q => ?_)
  by_cases h6 : j = 4
  · subst h6
    rw [up1_e, up1_e]; rfl
  · rw [up1_ne h6, up1_ne h6]
    by_cases h5 : j = 3
    · subst h5
      rw [up1_e, up2_at, up2_at, up2_at, up2_at, up2_at, up2_at, up2_at, up2_at, up2_at, up2_at]
    · rw [up1_ne h5, up2_ne h5, up2_ne h5, up2_ne h5, up2_ne h5, up2_ne h5, up2_ne h5, up2_ne h5, up2_ne h5, up2_ne h5, up2_ne h5]
theorem cl_become13 (k : P none (aHp r rr (up1 (up1 I 1 (cpN 10 (I 3) (I 1))) 2 (cpN 6 (I 4) (I 2))) J)) : aCl L xs fv 111 (d + 1) 24 [.ref 1, .ref 3] (aHp r rr I J) P := by
  refine cl_of rfl (Nat.le_add_right _ _) ?_
  refine go_v (cd := cd24) [8] 9 rfl ?_
  rw [show ((111 + 3 * r, I, J, aRf r rr) : aH).2.1 3 0 = I 3 0 from rfl]
  show aTo L xs fv 111 d cd24 (8, [(0, .ref 1), (1, .ref 3)], [], aHp r rr (up2 I 1 0 (I 3 0)) J) P
  refine go_v (cd := cd24) [16] 9 rfl ?_
  rw [show ((111 + 3 * r, (up2 I 1 0 (I 3 0)), J, aRf r rr) : aH).2.1 3 1 = I 3 1 from rfl]
  show aTo L xs fv 111 d cd24 (16, [(0, .ref 1), (1, .ref 3)], [], aHp r rr (up2 (up2 I 1 0 (I 3 0)) 1 1 (I 3 1)) J) P
  refine go_v (cd := cd24) [24] 9 rfl ?_
  rw [show ((111 + 3 * r, (up2 (up2 I 1 0 (I 3 0)) 1 1 (I 3 1)), J, aRf r rr) : aH).2.1 3 2 = I 3 2 from rfl]
  show aTo L xs fv 111 d cd24 (24, [(0, .ref 1), (1, .ref 3)], [], aHp r rr (up2 (up2 (up2 I 1 0 (I 3 0)) 1 1 (I 3 1)) 1 2 (I 3 2)) J) P
  refine go_v (cd := cd24) [32] 9 rfl ?_
  rw [show ((111 + 3 * r, (up2 (up2 (up2 I 1 0 (I 3 0)) 1 1 (I 3 1)) 1 2 (I 3 2)), J, aRf r rr) : aH).2.1 3 3 = I 3 3 from rfl]
  show aTo L xs fv 111 d cd24 (32, [(0, .ref 1), (1, .ref 3)], [], aHp r rr (up2 (up2 (up2 (up2 I 1 0 (I 3 0)) 1 1 (I 3 1)) 1 2 (I 3 2)) 1 3 (I 3 3)) J) P
  refine go_v (cd := cd24) [40] 9 rfl ?_
  rw [show ((111 + 3 * r, (up2 (up2 (up2 (up2 I 1 0 (I 3 0)) 1 1 (I 3 1)) 1 2 (I 3 2)) 1 3 (I 3 3)), J, aRf r rr) : aH).2.1 3 4 = I 3 4 from rfl]
  show aTo L xs fv 111 d cd24 (40, [(0, .ref 1), (1, .ref 3)], [], aHp r rr (up2 (up2 (up2 (up2 (up2 I 1 0 (I 3 0)) 1 1 (I 3 1)) 1 2 (I 3 2)) 1 3 (I 3 3)) 1 4 (I 3 4)) J) P
  refine go_v (cd := cd24) [48] 9 rfl ?_
  rw [show ((111 + 3 * r, (up2 (up2 (up2 (up2 (up2 I 1 0 (I 3 0)) 1 1 (I 3 1)) 1 2 (I 3 2)) 1 3 (I 3 3)) 1 4 (I 3 4)), J, aRf r rr) : aH).2.1 3 5 = I 3 5 from rfl]
  show aTo L xs fv 111 d cd24 (48, [(0, .ref 1), (1, .ref 3)], [], aHp r rr (up2 (up2 (up2 (up2 (up2 (up2 I 1 0 (I 3 0)) 1 1 (I 3 1)) 1 2 (I 3 2)) 1 3 (I 3 3)) 1 4 (I 3 4)) 1 5 (I 3 5)) J) P
  refine go_v (cd := cd24) [56] 9 rfl ?_
  rw [show ((111 + 3 * r, (up2 (up2 (up2 (up2 (up2 (up2 I 1 0 (I 3 0)) 1 1 (I 3 1)) 1 2 (I 3 2)) 1 3 (I 3 3)) 1 4 (I 3 4)) 1 5 (I 3 5)), J, aRf r rr) : aH).2.1 3 6 = I 3 6 from rfl]
  show aTo L xs fv 111 d cd24 (56, [(0, .ref 1), (1, .ref 3)], [], aHp r rr (up2 (up2 (up2 (up2 (up2 (up2 (up2 I 1 0 (I 3 0)) 1 1 (I 3 1)) 1 2 (I 3 2)) 1 3 (I 3 3)) 1 4 (I 3 4)) 1 5 (I 3 5)) 1 6 (I 3 6)) J) P
  refine go_v (cd := cd24) [64] 9 rfl ?_
  rw [show ((111 + 3 * r, (up2 (up2 (up2 (up2 (up2 (up2 (up2 I 1 0 (I 3 0)) 1 1 (I 3 1)) 1 2 (I 3 2)) 1 3 (I 3 3)) 1 4 (I 3 4)) 1 5 (I 3 5)) 1 6 (I 3 6)), J, aRf r rr) : aH).2.1 3 7 = I 3 7 from rfl]
  show aTo L xs fv 111 d cd24 (64, [(0, .ref 1), (1, .ref 3)], [], aHp r rr (up2 (up2 (up2 (up2 (up2 (up2 (up2 (up2 I 1 0 (I 3 0)) 1 1 (I 3 1)) 1 2 (I 3 2)) 1 3 (I 3 3)) 1 4 (I 3 4)) 1 5 (I 3 5)) 1 6 (I 3 6)) 1 7 (I 3 7)) J) P
  refine go_v (cd := cd24) [72] 9 rfl ?_
  rw [show ((111 + 3 * r, (up2 (up2 (up2 (up2 (up2 (up2 (up2 (up2 I 1 0 (I 3 0)) 1 1 (I 3 1)) 1 2 (I 3 2)) 1 3 (I 3 3)) 1 4 (I 3 4)) 1 5 (I 3 5)) 1 6 (I 3 6)) 1 7 (I 3 7)), J, aRf r rr) : aH).2.1 3 8 = I 3 8 from rfl]
  show aTo L xs fv 111 d cd24 (72, [(0, .ref 1), (1, .ref 3)], [], aHp r rr (up2 (up2 (up2 (up2 (up2 (up2 (up2 (up2 (up2 I 1 0 (I 3 0)) 1 1 (I 3 1)) 1 2 (I 3 2)) 1 3 (I 3 3)) 1 4 (I 3 4)) 1 5 (I 3 5)) 1 6 (I 3 6)) 1 7 (I 3 7)) 1 8 (I 3 8)) J) P
  refine go_v (cd := cd24) [80] 9 rfl ?_
  rw [show ((111 + 3 * r, (up2 (up2 (up2 (up2 (up2 (up2 (up2 (up2 (up2 I 1 0 (I 3 0)) 1 1 (I 3 1)) 1 2 (I 3 2)) 1 3 (I 3 3)) 1 4 (I 3 4)) 1 5 (I 3 5)) 1 6 (I 3 6)) 1 7 (I 3 7)) 1 8 (I 3 8)), J, aRf r rr) : aH).2.1 3 9 = I 3 9 from rfl]
  show aTo L xs fv 111 d cd24 (80, [(0, .ref 1), (1, .ref 3)], [], aHp r rr (up2 (up2 (up2 (up2 (up2 (up2 (up2 (up2 (up2 (up2 I 1 0 (I 3 0)) 1 1 (I 3 1)) 1 2 (I 3 2)) 1 3 (I 3 3)) 1 4 (I 3 4)) 1 5 (I 3 5)) 1 6 (I 3 6)) 1 7 (I 3 7)) 1 8 (I 3 8)) 1 9 (I 3 9)) J) P
  refine go_v (cd := cd24) [] 20 rfl ?_
  refine go_copyI (cd := cd24) (n := 6) (dp := 0) (sp := 0) rfl (by decide) (by decide) (by decide) (lv3 rfl) (lv3 rfl) rfl rfl (Nat.le_of_ble_eq_true rfl) (Nat.le_of_ble_eq_true rfl) rfl ?_
  refine go_return (cd := cd24) rfl ?_
  refine Eq.subst (motive := fun z => P none (aHp r rr z J)) ?_ k
  rw [← cp_6, ← cp_ups]
  refine heap3 (fun j q => ?_)
  by_cases h6 : j = 2
  · subst h6
    rw [up1_e, up1_e]; rfl
  · rw [up1_ne h6, up1_ne h6]
    by_cases h5 : j = 1
    · subst h5
      rw [up1_e, up2_at, up2_at, up2_at, up2_at, up2_at, up2_at, up2_at, up2_at, up2_at, up2_at]
    · rw [up1_ne h5, up2_ne h5, up2_ne h5, up2_ne h5, up2_ne h5, up2_ne h5, up2_ne h5, up2_ne h5, up2_ne h5, up2_ne h5, up2_ne h5]
/-- the trial scene, as the class has just made it -/
theorem tr_heap {s : Nat → Int32} : up1 (up1 I 5 (cpN 10 (I 1) (I 5))) 6 s = hpT (up1 I 6 s) (cpN 10 (I 1) (I 5)) (I 19) := by
  unfold hpT
  refine heap3 (fun j q => ?_)
  by_cases h19 : j = 19
  · subst h19; rw [up1_e, up1_o rfl, up1_o rfl]
  · rw [up1_ne h19]
    by_cases h5 : j = 5
    · subst h5; rw [up1_e, up1_o rfl, up1_e]
    · rw [up1_ne h5]
      by_cases h6 : j = 6
      · subst h6; rw [up1_e, up1_e]
      · rw [up1_ne h6, up1_ne h6, up1_ne h5]
theorem scn_tr {W : Wd} {S : Sc} {h w : Nat} {now : Option Nat} {fit : Nat → Bool} {I1 : Nat → Nat → Int32} {y : Nat → Int32} (hS : scn W S h now w fit 1 I) : scn W S h now w fit 5 (up1 I1 5 (cpN 10 (I 1) y)) := by
  obtain ⟨e0, e1, e2, e4, e5, e6, e7, e8⟩ := hS
  refine ⟨?_, ?_, ?_, ?_, ?_, ?_, ?_, e8⟩ <;> rw [up1_e] <;> assumption
theorem rul_tr {R : Ru} {b : Nat} {g s : Nat → Int32} (hb : isR r b) (hR : rul R b I) : rul R b (up1 (up1 I 6 s) 5 g) := by
  have h : ∀ k, k < 3 → b + k ≠ 5 ∧ b + k ≠ 6 := fun k hk => by rcases hb with rfl | rfl | ⟨f, -, -, rfl⟩ <;> omega
  unfold rul at hR ⊢
  rw [up1_ne (show b ≠ 5 from (h 0 (by decide)).1), up1_ne (show b ≠ 6 from (h 0 (by decide)).2), up1_ne (h 1 (by decide)).1, up1_ne (h 1 (by decide)).2, up1_ne (h 2 (by decide)).1, up1_ne (h 2 (by decide)).2]
  exact hR
theorem wld_6 {W : Wd} {g : Nat → Int32} (hW : wld A W I) : wld A W (up1 I 6 g) := by
  obtain ⟨w1, w2, w3, w4, w5, w6, w7, w8, w9, wA, wB⟩ := hW
  exact ⟨w1, w2, w3, w4, w5, iC_c (I := I) rfl rfl rfl rfl rfl rfl rfl rfl (fun j hj => up1_ne (by omega)) (fun j hj => up1_ne (by omega)) w6, w7, w8, w9, wA, wB⟩
/-- the reference, behind asIs -/
abbrev asH (I : Nat → Nat → Int32) (c : Nat → Int32) : Nat → Nat → Int32 := up1 (up2 (up2 I 77 34 (I 77 2)) 77 35 (I 77 3)) 90 c
theorem as_rwl (hv : aInv r A I J) {c : Nat → Int32} : rwl (wdI A I) (fI I) (asH I c) := by
  have h := rwl_of hv
  exact ⟨rH_c (I := I) rfl rfl rfl rfl rfl rfl rfl rfl h.1, h.2.1, h.2.2.1, h.2.2.2⟩
theorem as_rsc (hv : aInv r A I J) {c : Nat → Int32} : rsc (scI I) (asH I c) := ⟨rfl, (nums_of hv).2.2.2.2.1, (nums_of hv).2.2.2.2.2⟩
theorem as_rel {c : Nat → Int32} : relI I (asH I c) := relI_up1 (relI_77 (relI_77 relI_refl (by omega)) (by omega)) (by omega)
end BC
