/-! taken -/
def tkV (kd k : Int32) : Int32 := if k = 0 ∨ kd = k ∨ (k = 1 ∧ kd = 3) ∨ (k = 2 ∧ kd = 4) ∨ (k = 5 ∧ kd = 6) then kd else -12
section TK
variable {L : Nat} {xs : Nat → Int32} {fv : Value} {d : Nat} {r : Nat} {rr : Option Nat} {I : Nat → Nat → Int32} {J : Nat → Nat → Int64} {P : Option Value → aH → Prop}
theorem rf_taken {w g : Int32} (hG : iG r I) (kB : ¬ (0 ≤ g ∧ g ≤ 6) → P (some (.int (-2))) (aHp r rr I J)) (kN : (0 ≤ g ∧ g ≤ 6) → ¬ (0 ≤ w ∧ w < nI r) → P (some (.int (-11))) (aHp r rr I J)) (K : (0 ≤ g ∧ g ≤ 6) → ∀ k, k < r → w = nI k → P (some (.int (tkV (I 91 k) g))) (aHp r rr I J)) : aCl L xs fv 111 (d + 4) 169 [.ref 77, .int w, .int g] (aHp r rr I J) P := by
  refine cl_of rfl (Nat.le_add_right _ _) ?_
  refine go_v (cd := cd169) [] 9 rfl ?_
  refine go_callv (cd := cd169) rfl rfl rfl rfl rfl (lv3 rfl) rfl (cl_in (fun hg => ⟨rfl, ?_⟩) (fun hg => ⟨rfl, ?_⟩))
  case refine_2 =>
    refine go_st (cd := cd169) 1 rfl (go_ifT rfl ?_)
    refine go_v (cd := cd169) [] 9 rfl ?_
    exact go_ireturn (cd := cd169) rfl (kB hg)
  refine go_st (cd := cd169) 1 rfl (go_ifF (by decide) ?_)
  refine go_v (cd := cd169) [] 9 rfl ?_
  refine go_callv (cd := cd169) rfl rfl rfl rfl rfl (lv3 rfl) rfl (cl_isRule hG (fun k hk he => ⟨rfl, ?_⟩) (fun hx => ⟨rfl, ?_⟩))
  case refine_2 =>
    refine go_st (cd := cd169) 1 rfl (go_ifT rfl ?_)
    refine go_v (cd := cd169) [] 9 rfl ?_
    exact go_ireturn (cd := cd169) rfl (kN hg hx)
  have K2 := K hg k hk he
  clear K
  have h10 := hG.2.2.1
  subst he
  refine go_st (cd := cd169) 1 rfl (go_ifF (by decide) ?_)
  refine go_v (cd := cd169) [] 9 rfl ?_
  refine go_iald (cd := cd169) rfl (nI_vin (n := 11) (by omega) (by decide)) (lv3 rfl) rfl ?_
  rw [nI_clamp (show k < 2 ^ 31 by omega)]
  generalize I 91 k = kd at K2 ⊢
  have kY : (g = 0 ∨ kd = g ∨ (g = 1 ∧ kd = 3) ∨ (g = 2 ∧ kd = 4) ∨ (g = 5 ∧ kd = 6)) → P (some (.int kd)) (aHp r rr I J) := fun h => by unfold tkV at K2; rw [if_pos h] at K2; exact K2
  have kX : ¬ (g = 0 ∨ kd = g ∨ (g = 1 ∧ kd = 3) ∨ (g = 2 ∧ kd = 4) ∨ (g = 5 ∧ kd = 6)) → P (some (.int (-12))) (aHp r rr I J) := fun h => by unfold tkV at K2; rw [if_neg h] at K2; exact K2
  repeat' (first
    | (refine go_v (cd := cd169) [] 20 rfl ?_)
    | (refine go_st (cd := cd169) 1 rfl (go_if (fun hq => ?_) (fun hq => ?_)))
    | (refine go_ireturn (cd := cd169) rfl ?_))
  all_goals first
    | exact kY (by grind)
    | exact kX (by grind)
/-- the class looks upward from a kind -/
theorem cl_up0 {w g : Int32} {k : Nat} (hk : k < r) (h10 : k < 10) (hkd : I (111 + 3 * k) 1 = 0) (hg : 0 ≤ g ∧ g ≤ 6) (K : P (some (.int (tkV 0 g))) (aHp r rr I J)) : aTo L xs fv 111 d cd60 (27, [(3, .ref (111 + 3 * k)), (0, .ref 0), (1, .int w), (2, .int g)], [.ref (111 + 3 * k)], aHp r rr I J) P := by
  have hkind : aVal (aHp r rr I J) 0 (111 + 3 * k) 1 = .int 0 := congrArg Value.int hkd
  have kY : (g = 0 ∨ 0 = g ∨ (g = 1 ∧ (0 : Int32) = 3) ∨ (g = 2 ∧ (0 : Int32) = 4) ∨ (g = 5 ∧ (0 : Int32) = 6)) → P (some (.int 0)) (aHp r rr I J) := fun h => by unfold tkV at K; rw [if_pos h] at K; exact K
  have kX : ¬ (g = 0 ∨ 0 = g ∨ (g = 1 ∧ (0 : Int32) = 3) ∨ (g = 2 ∧ (0 : Int32) = 4) ∨ (g = 5 ∧ (0 : Int32) = 6)) → P (some (.int (-12))) (aHp r rr I J) := fun h => by unfold tkV at K; rw [if_neg h] at K; exact K
  refine go_get (cd := cd60) rfl (ru_lt hk) (ru_k h10) ?_
  rw [hkind]
  refine go_v (cd := cd60) [] 20 rfl ?_
  refine go_st (cd := cd60) 1 rfl (go_ifF (by decide) ?_)
  refine go_v (cd := cd60) [] 20 rfl ?_
  refine go_st (cd := cd60) 1 rfl (go_ifF (by decide) ?_)
  refine go_v (cd := cd60) [] 20 rfl ?_
  by_cases h0 : (0 : Int32) = g
  · refine go_st (cd := cd60) 1 rfl (go_ifT h0 ?_)
    refine go_v (cd := cd60) [54] 20 rfl ?_
    refine go_get (cd := cd60) rfl (ru_lt hk) (ru_k h10) ?_
    rw [hkind]
    exact go_ireturn (cd := cd60) rfl (kY (by subst h0; decide))
  refine go_st (cd := cd60) 1 rfl (go_ifF h0 ?_)
  refine go_v (cd := cd60) [] 20 rfl ?_
  refine go_ialdS (cd := cd60) rfl (vin 7 rfl (by decide) (by decide)) rfl ?_
  rw [azA0]
  refine go_v (cd := cd60) [] 20 rfl ?_
  refine go_st (cd := cd60) 1 rfl (go_ifF (by decide) ?_)
  refine go_v (cd := cd60) [] 20 rfl ?_
  refine go_st (cd := cd60) 1 rfl (go_ifT (by decide) ?_)
  refine go_v (cd := cd60) [] 20 rfl ?_
  exact go_ireturn (cd := cd60) rfl (kX (by grind))
theorem cl_up1 {w g : Int32} {k : Nat} (hk : k < r) (h10 : k < 10) (hkd : I (111 + 3 * k) 1 = 1) (hg : 0 ≤ g ∧ g ≤ 6) (K : P (some (.int (tkV 1 g))) (aHp r rr I J)) : aTo L xs fv 111 d cd60 (27, [(3, .ref (111 + 3 * k)), (0, .ref 0), (1, .int w), (2, .int g)], [.ref (111 + 3 * k)], aHp r rr I J) P := by
  have hkind : aVal (aHp r rr I J) 0 (111 + 3 * k) 1 = .int 1 := congrArg Value.int hkd
  have kY : (g = 0 ∨ 1 = g ∨ (g = 1 ∧ (1 : Int32) = 3) ∨ (g = 2 ∧ (1 : Int32) = 4) ∨ (g = 5 ∧ (1 : Int32) = 6)) → P (some (.int 1)) (aHp r rr I J) := fun h => by unfold tkV at K; rw [if_pos h] at K; exact K
  have kX : ¬ (g = 0 ∨ 1 = g ∨ (g = 1 ∧ (1 : Int32) = 3) ∨ (g = 2 ∧ (1 : Int32) = 4) ∨ (g = 5 ∧ (1 : Int32) = 6)) → P (some (.int (-12))) (aHp r rr I J) := fun h => by unfold tkV at K; rw [if_neg h] at K; exact K
  refine go_get (cd := cd60) rfl (ru_lt hk) (ru_k h10) ?_
  rw [hkind]
  refine go_v (cd := cd60) [] 20 rfl ?_
  refine go_st (cd := cd60) 1 rfl (go_ifF (by decide) ?_)
  refine go_v (cd := cd60) [] 20 rfl ?_
  refine go_st (cd := cd60) 1 rfl (go_ifF (by decide) ?_)
  refine go_v (cd := cd60) [] 20 rfl ?_
  by_cases h0 : (1 : Int32) = g
  · refine go_st (cd := cd60) 1 rfl (go_ifT h0 ?_)
    refine go_v (cd := cd60) [54] 20 rfl ?_
    refine go_get (cd := cd60) rfl (ru_lt hk) (ru_k h10) ?_
    rw [hkind]
    exact go_ireturn (cd := cd60) rfl (kY (by subst h0; decide))
  refine go_st (cd := cd60) 1 rfl (go_ifF h0 ?_)
  refine go_v (cd := cd60) [] 20 rfl ?_
  refine go_ialdS (cd := cd60) rfl (vin 7 rfl (by decide) (by decide)) rfl ?_
  rw [azA1]
  refine go_v (cd := cd60) [] 20 rfl ?_
  refine go_st (cd := cd60) 1 rfl (go_ifF (by decide) ?_)
  refine go_v (cd := cd60) [] 20 rfl ?_
  refine go_st (cd := cd60) 1 rfl (go_ifF (by decide) ?_)
  refine go_v (cd := cd60) [] 20 rfl ?_
  by_cases h1 : (0 : Int32) = g
  · refine go_st (cd := cd60) 1 rfl (go_ifT h1 ?_)
    refine go_v (cd := cd60) [54] 20 rfl ?_
    refine go_get (cd := cd60) rfl (ru_lt hk) (ru_k h10) ?_
    rw [hkind]
    exact go_ireturn (cd := cd60) rfl (kY (by subst h1; decide))
  refine go_st (cd := cd60) 1 rfl (go_ifF h1 ?_)
  refine go_v (cd := cd60) [] 20 rfl ?_
  refine go_ialdS (cd := cd60) rfl (vin 7 rfl (by decide) (by decide)) rfl ?_
  rw [azA0]
  refine go_v (cd := cd60) [] 20 rfl ?_
  refine go_st (cd := cd60) 1 rfl (go_ifF (by decide) ?_)
  refine go_v (cd := cd60) [] 20 rfl ?_
  refine go_st (cd := cd60) 1 rfl (go_ifT (by decide) ?_)
  refine go_v (cd := cd60) [] 20 rfl ?_
  exact go_ireturn (cd := cd60) rfl (kX (by grind))
theorem cl_up2 {w g : Int32} {k : Nat} (hk : k < r) (h10 : k < 10) (hkd : I (111 + 3 * k) 1 = 2) (hg : 0 ≤ g ∧ g ≤ 6) (K : P (some (.int (tkV 2 g))) (aHp r rr I J)) : aTo L xs fv 111 d cd60 (27, [(3, .ref (111 + 3 * k)), (0, .ref 0), (1, .int w), (2, .int g)], [.ref (111 + 3 * k)], aHp r rr I J) P := by
  have hkind : aVal (aHp r rr I J) 0 (111 + 3 * k) 1 = .int 2 := congrArg Value.int hkd
  have kY : (g = 0 ∨ 2 = g ∨ (g = 1 ∧ (2 : Int32) = 3) ∨ (g = 2 ∧ (2 : Int32) = 4) ∨ (g = 5 ∧ (2 : Int32) = 6)) → P (some (.int 2)) (aHp r rr I J) := fun h => by unfold tkV at K; rw [if_pos h] at K; exact K
  have kX : ¬ (g = 0 ∨ 2 = g ∨ (g = 1 ∧ (2 : Int32) = 3) ∨ (g = 2 ∧ (2 : Int32) = 4) ∨ (g = 5 ∧ (2 : Int32) = 6)) → P (some (.int (-12))) (aHp r rr I J) := fun h => by unfold tkV at K; rw [if_neg h] at K; exact K
  refine go_get (cd := cd60) rfl (ru_lt hk) (ru_k h10) ?_
  rw [hkind]
  refine go_v (cd := cd60) [] 20 rfl ?_
  refine go_st (cd := cd60) 1 rfl (go_ifF (by decide) ?_)
  refine go_v (cd := cd60) [] 20 rfl ?_
  refine go_st (cd := cd60) 1 rfl (go_ifF (by decide) ?_)
  refine go_v (cd := cd60) [] 20 rfl ?_
  by_cases h0 : (2 : Int32) = g
  · refine go_st (cd := cd60) 1 rfl (go_ifT h0 ?_)
    refine go_v (cd := cd60) [54] 20 rfl ?_
    refine go_get (cd := cd60) rfl (ru_lt hk) (ru_k h10) ?_
    rw [hkind]
    exact go_ireturn (cd := cd60) rfl (kY (by subst h0; decide))
  refine go_st (cd := cd60) 1 rfl (go_ifF h0 ?_)
  refine go_v (cd := cd60) [] 20 rfl ?_
  refine go_ialdS (cd := cd60) rfl (vin 7 rfl (by decide) (by decide)) rfl ?_
  rw [azA2]
  refine go_v (cd := cd60) [] 20 rfl ?_
  refine go_st (cd := cd60) 1 rfl (go_ifF (by decide) ?_)
  refine go_v (cd := cd60) [] 20 rfl ?_
  refine go_st (cd := cd60) 1 rfl (go_ifF (by decide) ?_)
  refine go_v (cd := cd60) [] 20 rfl ?_
  by_cases h1 : (0 : Int32) = g
  · refine go_st (cd := cd60) 1 rfl (go_ifT h1 ?_)
    refine go_v (cd := cd60) [54] 20 rfl ?_
    refine go_get (cd := cd60) rfl (ru_lt hk) (ru_k h10) ?_
    rw [hkind]
    exact go_ireturn (cd := cd60) rfl (kY (by subst h1; decide))
  refine go_st (cd := cd60) 1 rfl (go_ifF h1 ?_)
  refine go_v (cd := cd60) [] 20 rfl ?_
  refine go_ialdS (cd := cd60) rfl (vin 7 rfl (by decide) (by decide)) rfl ?_
  rw [azA0]
  refine go_v (cd := cd60) [] 20 rfl ?_
  refine go_st (cd := cd60) 1 rfl (go_ifF (by decide) ?_)
  refine go_v (cd := cd60) [] 20 rfl ?_
  refine go_st (cd := cd60) 1 rfl (go_ifT (by decide) ?_)
  refine go_v (cd := cd60) [] 20 rfl ?_
  exact go_ireturn (cd := cd60) rfl (kX (by grind))
theorem cl_up3 {w g : Int32} {k : Nat} (hk : k < r) (h10 : k < 10) (hkd : I (111 + 3 * k) 1 = 3) (hg : 0 ≤ g ∧ g ≤ 6) (K : P (some (.int (tkV 3 g))) (aHp r rr I J)) : aTo L xs fv 111 d cd60 (27, [(3, .ref (111 + 3 * k)), (0, .ref 0), (1, .int w), (2, .int g)], [.ref (111 + 3 * k)], aHp r rr I J) P := by
  have hkind : aVal (aHp r rr I J) 0 (111 + 3 * k) 1 = .int 3 := congrArg Value.int hkd
  have kY : (g = 0 ∨ 3 = g ∨ (g = 1 ∧ (3 : Int32) = 3) ∨ (g = 2 ∧ (3 : Int32) = 4) ∨ (g = 5 ∧ (3 : Int32) = 6)) → P (some (.int 3)) (aHp r rr I J) := fun h => by unfold tkV at K; rw [if_pos h] at K; exact K
  have kX : ¬ (g = 0 ∨ 3 = g ∨ (g = 1 ∧ (3 : Int32) = 3) ∨ (g = 2 ∧ (3 : Int32) = 4) ∨ (g = 5 ∧ (3 : Int32) = 6)) → P (some (.int (-12))) (aHp r rr I J) := fun h => by unfold tkV at K; rw [if_neg h] at K; exact K
  refine go_get (cd := cd60) rfl (ru_lt hk) (ru_k h10) ?_
  rw [hkind]
  refine go_v (cd := cd60) [] 20 rfl ?_
  refine go_st (cd := cd60) 1 rfl (go_ifF (by decide) ?_)
  refine go_v (cd := cd60) [] 20 rfl ?_
  refine go_st (cd := cd60) 1 rfl (go_ifF (by decide) ?_)
  refine go_v (cd := cd60) [] 20 rfl ?_
  by_cases h0 : (3 : Int32) = g
  · refine go_st (cd := cd60) 1 rfl (go_ifT h0 ?_)
    refine go_v (cd := cd60) [54] 20 rfl ?_
    refine go_get (cd := cd60) rfl (ru_lt hk) (ru_k h10) ?_
    rw [hkind]
    exact go_ireturn (cd := cd60) rfl (kY (by subst h0; decide))
  refine go_st (cd := cd60) 1 rfl (go_ifF h0 ?_)
  refine go_v (cd := cd60) [] 20 rfl ?_
  refine go_ialdS (cd := cd60) rfl (vin 7 rfl (by decide) (by decide)) rfl ?_
  rw [azA3]
  refine go_v (cd := cd60) [] 20 rfl ?_
  refine go_st (cd := cd60) 1 rfl (go_ifF (by decide) ?_)
  refine go_v (cd := cd60) [] 20 rfl ?_
  refine go_st (cd := cd60) 1 rfl (go_ifF (by decide) ?_)
  refine go_v (cd := cd60) [] 20 rfl ?_
  by_cases h1 : (1 : Int32) = g
  · refine go_st (cd := cd60) 1 rfl (go_ifT h1 ?_)
    refine go_v (cd := cd60) [54] 20 rfl ?_
    refine go_get (cd := cd60) rfl (ru_lt hk) (ru_k h10) ?_
    rw [hkind]
    exact go_ireturn (cd := cd60) rfl (kY (by subst h1; decide))
  refine go_st (cd := cd60) 1 rfl (go_ifF h1 ?_)
  refine go_v (cd := cd60) [] 20 rfl ?_
  refine go_ialdS (cd := cd60) rfl (vin 7 rfl (by decide) (by decide)) rfl ?_
  rw [azA1]
  refine go_v (cd := cd60) [] 20 rfl ?_
  refine go_st (cd := cd60) 1 rfl (go_ifF (by decide) ?_)
  refine go_v (cd := cd60) [] 20 rfl ?_
  refine go_st (cd := cd60) 1 rfl (go_ifF (by decide) ?_)
  refine go_v (cd := cd60) [] 20 rfl ?_
  by_cases h2 : (0 : Int32) = g
  · refine go_st (cd := cd60) 1 rfl (go_ifT h2 ?_)
    refine go_v (cd := cd60) [54] 20 rfl ?_
    refine go_get (cd := cd60) rfl (ru_lt hk) (ru_k h10) ?_
    rw [hkind]
    exact go_ireturn (cd := cd60) rfl (kY (by subst h2; decide))
  refine go_st (cd := cd60) 1 rfl (go_ifF h2 ?_)
  refine go_v (cd := cd60) [] 20 rfl ?_
  refine go_ialdS (cd := cd60) rfl (vin 7 rfl (by decide) (by decide)) rfl ?_
  rw [azA0]
  refine go_v (cd := cd60) [] 20 rfl ?_
  refine go_st (cd := cd60) 1 rfl (go_ifF (by decide) ?_)
  refine go_v (cd := cd60) [] 20 rfl ?_
  refine go_st (cd := cd60) 1 rfl (go_ifT (by decide) ?_)
  refine go_v (cd := cd60) [] 20 rfl ?_
  exact go_ireturn (cd := cd60) rfl (kX (by grind))
theorem cl_up4 {w g : Int32} {k : Nat} (hk : k < r) (h10 : k < 10) (hkd : I (111 + 3 * k) 1 = 4) (hg : 0 ≤ g ∧ g ≤ 6) (K : P (some (.int (tkV 4 g))) (aHp r rr I J)) : aTo L xs fv 111 d cd60 (27, [(3, .ref (111 + 3 * k)), (0, .ref 0), (1, .int w), (2, .int g)], [.ref (111 + 3 * k)], aHp r rr I J) P := by
  have hkind : aVal (aHp r rr I J) 0 (111 + 3 * k) 1 = .int 4 := congrArg Value.int hkd
  have kY : (g = 0 ∨ 4 = g ∨ (g = 1 ∧ (4 : Int32) = 3) ∨ (g = 2 ∧ (4 : Int32) = 4) ∨ (g = 5 ∧ (4 : Int32) = 6)) → P (some (.int 4)) (aHp r rr I J) := fun h => by unfold tkV at K; rw [if_pos h] at K; exact K
  have kX : ¬ (g = 0 ∨ 4 = g ∨ (g = 1 ∧ (4 : Int32) = 3) ∨ (g = 2 ∧ (4 : Int32) = 4) ∨ (g = 5 ∧ (4 : Int32) = 6)) → P (some (.int (-12))) (aHp r rr I J) := fun h => by unfold tkV at K; rw [if_neg h] at K; exact K
  refine go_get (cd := cd60) rfl (ru_lt hk) (ru_k h10) ?_
  rw [hkind]
  refine go_v (cd := cd60) [] 20 rfl ?_
  refine go_st (cd := cd60) 1 rfl (go_ifF (by decide) ?_)
  refine go_v (cd := cd60) [] 20 rfl ?_
  refine go_st (cd := cd60) 1 rfl (go_ifF (by decide) ?_)
  refine go_v (cd := cd60) [] 20 rfl ?_
  by_cases h0 : (4 : Int32) = g
  · refine go_st (cd := cd60) 1 rfl (go_ifT h0 ?_)
    refine go_v (cd := cd60) [54] 20 rfl ?_
    refine go_get (cd := cd60) rfl (ru_lt hk) (ru_k h10) ?_
    rw [hkind]
    exact go_ireturn (cd := cd60) rfl (kY (by subst h0; decide))
  refine go_st (cd := cd60) 1 rfl (go_ifF h0 ?_)
  refine go_v (cd := cd60) [] 20 rfl ?_
  refine go_ialdS (cd := cd60) rfl (vin 7 rfl (by decide) (by decide)) rfl ?_
  rw [azA4]
  refine go_v (cd := cd60) [] 20 rfl ?_
  refine go_st (cd := cd60) 1 rfl (go_ifF (by decide) ?_)
  refine go_v (cd := cd60) [] 20 rfl ?_
  refine go_st (cd := cd60) 1 rfl (go_ifF (by decide) ?_)
  refine go_v (cd := cd60) [] 20 rfl ?_
  by_cases h1 : (2 : Int32) = g
  · refine go_st (cd := cd60) 1 rfl (go_ifT h1 ?_)
    refine go_v (cd := cd60) [54] 20 rfl ?_
    refine go_get (cd := cd60) rfl (ru_lt hk) (ru_k h10) ?_
    rw [hkind]
    exact go_ireturn (cd := cd60) rfl (kY (by subst h1; decide))
  refine go_st (cd := cd60) 1 rfl (go_ifF h1 ?_)
  refine go_v (cd := cd60) [] 20 rfl ?_
  refine go_ialdS (cd := cd60) rfl (vin 7 rfl (by decide) (by decide)) rfl ?_
  rw [azA2]
  refine go_v (cd := cd60) [] 20 rfl ?_
  refine go_st (cd := cd60) 1 rfl (go_ifF (by decide) ?_)
  refine go_v (cd := cd60) [] 20 rfl ?_
  refine go_st (cd := cd60) 1 rfl (go_ifF (by decide) ?_)
  refine go_v (cd := cd60) [] 20 rfl ?_
  by_cases h2 : (0 : Int32) = g
  · refine go_st (cd := cd60) 1 rfl (go_ifT h2 ?_)
    refine go_v (cd := cd60) [54] 20 rfl ?_
    refine go_get (cd := cd60) rfl (ru_lt hk) (ru_k h10) ?_
    rw [hkind]
    exact go_ireturn (cd := cd60) rfl (kY (by subst h2; decide))
  refine go_st (cd := cd60) 1 rfl (go_ifF h2 ?_)
  refine go_v (cd := cd60) [] 20 rfl ?_
  refine go_ialdS (cd := cd60) rfl (vin 7 rfl (by decide) (by decide)) rfl ?_
  rw [azA0]
  refine go_v (cd := cd60) [] 20 rfl ?_
  refine go_st (cd := cd60) 1 rfl (go_ifF (by decide) ?_)
  refine go_v (cd := cd60) [] 20 rfl ?_
  refine go_st (cd := cd60) 1 rfl (go_ifT (by decide) ?_)
  refine go_v (cd := cd60) [] 20 rfl ?_
  exact go_ireturn (cd := cd60) rfl (kX (by grind))
theorem cl_up5 {w g : Int32} {k : Nat} (hk : k < r) (h10 : k < 10) (hkd : I (111 + 3 * k) 1 = 5) (hg : 0 ≤ g ∧ g ≤ 6) (K : P (some (.int (tkV 5 g))) (aHp r rr I J)) : aTo L xs fv 111 d cd60 (27, [(3, .ref (111 + 3 * k)), (0, .ref 0), (1, .int w), (2, .int g)], [.ref (111 + 3 * k)], aHp r rr I J) P := by
  have hkind : aVal (aHp r rr I J) 0 (111 + 3 * k) 1 = .int 5 := congrArg Value.int hkd
  have kY : (g = 0 ∨ 5 = g ∨ (g = 1 ∧ (5 : Int32) = 3) ∨ (g = 2 ∧ (5 : Int32) = 4) ∨ (g = 5 ∧ (5 : Int32) = 6)) → P (some (.int 5)) (aHp r rr I J) := fun h => by unfold tkV at K; rw [if_pos h] at K; exact K
  have kX : ¬ (g = 0 ∨ 5 = g ∨ (g = 1 ∧ (5 : Int32) = 3) ∨ (g = 2 ∧ (5 : Int32) = 4) ∨ (g = 5 ∧ (5 : Int32) = 6)) → P (some (.int (-12))) (aHp r rr I J) := fun h => by unfold tkV at K; rw [if_neg h] at K; exact K
  refine go_get (cd := cd60) rfl (ru_lt hk) (ru_k h10) ?_
  rw [hkind]
  refine go_v (cd := cd60) [] 20 rfl ?_
  refine go_st (cd := cd60) 1 rfl (go_ifF (by decide) ?_)
  refine go_v (cd := cd60) [] 20 rfl ?_
  refine go_st (cd := cd60) 1 rfl (go_ifF (by decide) ?_)
  refine go_v (cd := cd60) [] 20 rfl ?_
  by_cases h0 : (5 : Int32) = g
  · refine go_st (cd := cd60) 1 rfl (go_ifT h0 ?_)
    refine go_v (cd := cd60) [54] 20 rfl ?_
    refine go_get (cd := cd60) rfl (ru_lt hk) (ru_k h10) ?_
    rw [hkind]
    exact go_ireturn (cd := cd60) rfl (kY (by subst h0; decide))
  refine go_st (cd := cd60) 1 rfl (go_ifF h0 ?_)
  refine go_v (cd := cd60) [] 20 rfl ?_
  refine go_ialdS (cd := cd60) rfl (vin 7 rfl (by decide) (by decide)) rfl ?_
  rw [azA5]
  refine go_v (cd := cd60) [] 20 rfl ?_
  refine go_st (cd := cd60) 1 rfl (go_ifF (by decide) ?_)
  refine go_v (cd := cd60) [] 20 rfl ?_
  refine go_st (cd := cd60) 1 rfl (go_ifF (by decide) ?_)
  refine go_v (cd := cd60) [] 20 rfl ?_
  by_cases h1 : (0 : Int32) = g
  · refine go_st (cd := cd60) 1 rfl (go_ifT h1 ?_)
    refine go_v (cd := cd60) [54] 20 rfl ?_
    refine go_get (cd := cd60) rfl (ru_lt hk) (ru_k h10) ?_
    rw [hkind]
    exact go_ireturn (cd := cd60) rfl (kY (by subst h1; decide))
  refine go_st (cd := cd60) 1 rfl (go_ifF h1 ?_)
  refine go_v (cd := cd60) [] 20 rfl ?_
  refine go_ialdS (cd := cd60) rfl (vin 7 rfl (by decide) (by decide)) rfl ?_
  rw [azA0]
  refine go_v (cd := cd60) [] 20 rfl ?_
  refine go_st (cd := cd60) 1 rfl (go_ifF (by decide) ?_)
  refine go_v (cd := cd60) [] 20 rfl ?_
  refine go_st (cd := cd60) 1 rfl (go_ifT (by decide) ?_)
  refine go_v (cd := cd60) [] 20 rfl ?_
  exact go_ireturn (cd := cd60) rfl (kX (by grind))
theorem cl_up6 {w g : Int32} {k : Nat} (hk : k < r) (h10 : k < 10) (hkd : I (111 + 3 * k) 1 = 6) (hg : 0 ≤ g ∧ g ≤ 6) (K : P (some (.int (tkV 6 g))) (aHp r rr I J)) : aTo L xs fv 111 d cd60 (27, [(3, .ref (111 + 3 * k)), (0, .ref 0), (1, .int w), (2, .int g)], [.ref (111 + 3 * k)], aHp r rr I J) P := by
  have hkind : aVal (aHp r rr I J) 0 (111 + 3 * k) 1 = .int 6 := congrArg Value.int hkd
  have kY : (g = 0 ∨ 6 = g ∨ (g = 1 ∧ (6 : Int32) = 3) ∨ (g = 2 ∧ (6 : Int32) = 4) ∨ (g = 5 ∧ (6 : Int32) = 6)) → P (some (.int 6)) (aHp r rr I J) := fun h => by unfold tkV at K; rw [if_pos h] at K; exact K
  have kX : ¬ (g = 0 ∨ 6 = g ∨ (g = 1 ∧ (6 : Int32) = 3) ∨ (g = 2 ∧ (6 : Int32) = 4) ∨ (g = 5 ∧ (6 : Int32) = 6)) → P (some (.int (-12))) (aHp r rr I J) := fun h => by unfold tkV at K; rw [if_neg h] at K; exact K
  refine go_get (cd := cd60) rfl (ru_lt hk) (ru_k h10) ?_
  rw [hkind]
  refine go_v (cd := cd60) [] 20 rfl ?_
  refine go_st (cd := cd60) 1 rfl (go_ifF (by decide) ?_)
  refine go_v (cd := cd60) [] 20 rfl ?_
  refine go_st (cd := cd60) 1 rfl (go_ifF (by decide) ?_)
  refine go_v (cd := cd60) [] 20 rfl ?_
  by_cases h0 : (6 : Int32) = g
  · refine go_st (cd := cd60) 1 rfl (go_ifT h0 ?_)
    refine go_v (cd := cd60) [54] 20 rfl ?_
    refine go_get (cd := cd60) rfl (ru_lt hk) (ru_k h10) ?_
    rw [hkind]
    exact go_ireturn (cd := cd60) rfl (kY (by subst h0; decide))
  refine go_st (cd := cd60) 1 rfl (go_ifF h0 ?_)
  refine go_v (cd := cd60) [] 20 rfl ?_
  refine go_ialdS (cd := cd60) rfl (vin 7 rfl (by decide) (by decide)) rfl ?_
  rw [azA6]
  refine go_v (cd := cd60) [] 20 rfl ?_
  refine go_st (cd := cd60) 1 rfl (go_ifF (by decide) ?_)
  refine go_v (cd := cd60) [] 20 rfl ?_
  refine go_st (cd := cd60) 1 rfl (go_ifF (by decide) ?_)
  refine go_v (cd := cd60) [] 20 rfl ?_
  by_cases h1 : (5 : Int32) = g
  · refine go_st (cd := cd60) 1 rfl (go_ifT h1 ?_)
    refine go_v (cd := cd60) [54] 20 rfl ?_
    refine go_get (cd := cd60) rfl (ru_lt hk) (ru_k h10) ?_
    rw [hkind]
    exact go_ireturn (cd := cd60) rfl (kY (by subst h1; decide))
  refine go_st (cd := cd60) 1 rfl (go_ifF h1 ?_)
  refine go_v (cd := cd60) [] 20 rfl ?_
  refine go_ialdS (cd := cd60) rfl (vin 7 rfl (by decide) (by decide)) rfl ?_
  rw [azA5]
  refine go_v (cd := cd60) [] 20 rfl ?_
  refine go_st (cd := cd60) 1 rfl (go_ifF (by decide) ?_)
  refine go_v (cd := cd60) [] 20 rfl ?_
  refine go_st (cd := cd60) 1 rfl (go_ifF (by decide) ?_)
  refine go_v (cd := cd60) [] 20 rfl ?_
  by_cases h2 : (0 : Int32) = g
  · refine go_st (cd := cd60) 1 rfl (go_ifT h2 ?_)
    refine go_v (cd := cd60) [54] 20 rfl ?_
    refine go_get (cd := cd60) rfl (ru_lt hk) (ru_k h10) ?_
    rw [hkind]
    exact go_ireturn (cd := cd60) rfl (kY (by subst h2; decide))
  refine go_st (cd := cd60) 1 rfl (go_ifF h2 ?_)
  refine go_v (cd := cd60) [] 20 rfl ?_
  refine go_ialdS (cd := cd60) rfl (vin 7 rfl (by decide) (by decide)) rfl ?_
  rw [azA0]
  refine go_v (cd := cd60) [] 20 rfl ?_
  refine go_st (cd := cd60) 1 rfl (go_ifF (by decide) ?_)
  refine go_v (cd := cd60) [] 20 rfl ?_
  refine go_st (cd := cd60) 1 rfl (go_ifT (by decide) ?_)
  refine go_v (cd := cd60) [] 20 rfl ?_
  exact go_ireturn (cd := cd60) rfl (kX (by grind))
theorem pr_taken {w g : Int32} {h : aH} (hi : aIn h) : aPair L xs fv (d + 4) 60 169 [.int w, .int g] h := by
  obtain ⟨r, rr, A, I, J, rfl, hv⟩ := hi
  have hG := hv.2.2.2.2.2.2.1
  have hdone := aIn_of hv rr
  refine cl_of rfl (Nat.le_add_right _ _) ?_
  refine go_v (cd := cd60) [] 9 rfl ?_
  by_cases hg0 : g < 0
  case pos =>
    refine go_st (cd := cd60) 1 rfl (go_ifT hg0 ?_)
    refine go_v (cd := cd60) [] 9 rfl ?_
    exact go_ireturn (cd := cd60) rfl ⟨Or.inl rfl, _, rfl, rf_taken hG (fun _ => ⟨rfl, rfl, hdone⟩) (fun h => absurd h (by grind)) (fun h => absurd h (by grind))⟩
  refine go_st (cd := cd60) 1 rfl (go_ifF hg0 ?_)
  refine go_v (cd := cd60) [] 9 rfl ?_
  by_cases hg7 : g < 7
  case neg =>
    refine go_st (cd := cd60) 1 rfl (go_ifF hg7 ?_)
    refine go_v (cd := cd60) [] 9 rfl ?_
    exact go_ireturn (cd := cd60) rfl ⟨Or.inl rfl, _, rfl, rf_taken hG (fun _ => ⟨rfl, rfl, hdone⟩) (fun h => absurd h (by grind)) (fun h => absurd h (by grind))⟩
  refine go_st (cd := cd60) 1 rfl (go_ifT hg7 ?_)
  have hg : 0 ≤ g ∧ g ≤ 6 := by grind
  refine go_v (cd := cd60) [] 9 rfl ?_
  refine go_callv (cd := cd60) rfl rfl rfl rfl rfl (lv3 rfl) rfl (cl_ruleOf hG (fun k hk he => ⟨rfl, ?_⟩) (fun hq => ⟨rfl, ?_⟩))
  case refine_2 =>
    refine go_v (cd := cd60) [] 20 rfl ?_
    exact go_ireturn (cd := cd60) rfl ⟨Or.inl rfl, _, rfl, rf_taken hG (fun h => absurd hg h) (fun _ _ => ⟨rfl, rfl, hdone⟩) (fun _ k hk he => absurd (in_of hv ⟨k, hk, he⟩) hq)⟩
  subst he
  have hl := rlq_of hG hk
  have hk10 := hl.1
  have hk1 := hl.2.2.2.1
  have hfin : aCl L xs fv 111 (d + 4) 169 [.ref 77, .int (nI k), .int g] (aHp r rr I J) (fun rv2 h2 => h2.1 = 111 + 3 * r ∧ rv2 = some (.int (tkV (I 91 k) g)) ∧ aIn h2) := rf_taken hG (fun h => absurd hg h) (fun _ h => absurd (in_of hv ⟨k, hk, rfl⟩) h) (fun _ k2 hk2 he => by
    have h10 := hG.2.2.1
    have : k = k2 := (nI_eq (by omega) (by omega)).mp he
    subst this
    exact ⟨rfl, rfl, hdone⟩)
  refine go_v (cd := cd60) [27] 20 rfl ?_
  rcases seven hl.2.2.2.2.1 hl.2.2.2.2.2.1 with h7 | h7 | h7 | h7 | h7 | h7 | h7
  · rw [h7] at hfin
    exact go_sb (cl_up0 hk hk10 (hk1.trans h7) hg ⟨Or.inl rfl, _, rfl, hfin⟩) ⟨rfl, rfl, rfl, rfl, trivial⟩ rfl rfl rfl
  · rw [h7] at hfin
    exact go_sb (cl_up1 hk hk10 (hk1.trans h7) hg ⟨Or.inl rfl, _, rfl, hfin⟩) ⟨rfl, rfl, rfl, rfl, trivial⟩ rfl rfl rfl
  · rw [h7] at hfin
    exact go_sb (cl_up2 hk hk10 (hk1.trans h7) hg ⟨Or.inl rfl, _, rfl, hfin⟩) ⟨rfl, rfl, rfl, rfl, trivial⟩ rfl rfl rfl
  · rw [h7] at hfin
    exact go_sb (cl_up3 hk hk10 (hk1.trans h7) hg ⟨Or.inl rfl, _, rfl, hfin⟩) ⟨rfl, rfl, rfl, rfl, trivial⟩ rfl rfl rfl
  · rw [h7] at hfin
    exact go_sb (cl_up4 hk hk10 (hk1.trans h7) hg ⟨Or.inl rfl, _, rfl, hfin⟩) ⟨rfl, rfl, rfl, rfl, trivial⟩ rfl rfl rfl
  · rw [h7] at hfin
    exact go_sb (cl_up5 hk hk10 (hk1.trans h7) hg ⟨Or.inl rfl, _, rfl, hfin⟩) ⟨rfl, rfl, rfl, rfl, trivial⟩ rfl rfl rfl
  · rw [h7] at hfin
    exact go_sb (cl_up6 hk hk10 (hk1.trans h7) hg ⟨Or.inl rfl, _, rfl, hfin⟩) ⟨rfl, rfl, rfl, rfl, trivial⟩ rfl rfl rfl
end TK
