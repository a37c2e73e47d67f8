/-! tape, shift -/
section TA
variable {L : Nat} {xs : Nat → Int32} {fv : Value} {d : Nat} {r : Nat} {rr : Option Nat} {I : Nat → Nat → Int32} {J : Nat → Nat → Int64} {P : Option Value → aH → Prop}
theorem cl_begin {t : Nat} {s n : Int32} (ht : t < 6) (K : P none (aHp r rr (up2 (up2 I (65 + 2 * t) 0 s) (65 + 2 * t) 1 n) (up1 J (66 + 2 * t) (fun q => if q < 60 then 0 else J (66 + 2 * t) q)))) : aCl L xs fv 111 (d + 2) 26 [.ref (65 + 2 * t), .int s, .int n] (aHp r rr I J) P := by
  refine cl_of rfl (Nat.le_add_right _ _) ?_
  refine go_v (cd := cd26) [2] 20 rfl ?_
  refine go_putI (cd := cd26) rfl (tp_lt ht) (tp_k ht) ?_
  refine go_v (cd := cd26) [7] 20 rfl ?_
  refine go_putI (cd := cd26) rfl (tp_lt ht) (tp_k ht) ?_
  refine go_v (cd := cd26) [11] 20 rfl ?_
  refine go_getR (cd := cd26) rfl (tp_lt ht) (tp_k ht) (aRf_tp ht).1 ?_
  refine go_v (cd := cd26) [] 20 rfl ?_
  refine go_calls (cd := cd26) rfl rfl rfl rfl rfl (fillL (n := 60) (by decide) (akd_tp ht).2 (tp_lt1 ht) (Nat.le_add_right _ _) ⟨rfl, ?_⟩)
  exact go_return (cd := cd26) rfl K
theorem rf_tape_loop {t : Nat} {w s n : Int32} (hw : w = nI t) (ht : t < 6) (K : P (some (.int 1)) (aHp r rr I (up1 J 109 (fun q => if 60 * t ≤ q ∧ q < 60 * t + 60 then 0 else J 109 q)))) : ∀ m j, j + m = 60 → aTo L xs fv 111 d cd172 (69, [(4, .int (nI j)), (0, .ref 77), (1, .int w), (2, .int s), (3, .int n)], [], aHp r rr I (up1 J 109 (fun q => if 60 * t ≤ q ∧ q < 60 * t + j then 0 else J 109 q))) P
  | 0, j, hj => by
    have hj : j = 60 := hj
    subst hj
    refine go_v (cd := cd172) [] 20 rfl ?_
    refine go_st (cd := cd172) 1 rfl (go_ifT (by decide) ?_)
    refine go_v (cd := cd172) [] 20 rfl ?_
    exact go_ireturn (cd := cd172) rfl K
  | m + 1, j, hj => by
    have hx : 60 * nI t + nI j = nI (60 * t + j) := by rw [show (60 : Int32) = nI 60 from rfl, nI_mul, nI_add]
    refine go_v (cd := cd172) [] 20 rfl ?_
    refine go_st (cd := cd172) 1 rfl (go_ifF (nI_ge (b := 60) (by omega) (by decide)) ?_)
    refine go_v (cd := cd172) [] 20 rfl ?_
    rw [hw, hx]
    refine go_last (cd := cd172) rfl (nI_vin (n := 360) (by omega) (by decide)) (lv3 rfl) rfl ?_
    rw [nI_clamp (show 60 * t + j < 2 ^ 31 by omega)]
    refine go_v (cd := cd172) [69] 20 rfl ?_
    have e : up2 (up1 J 109 (fun q => if 60 * t ≤ q ∧ q < 60 * t + j then 0 else J 109 q)) 109 (60 * t + j) 0 = up1 J 109 (fun q => if 60 * t ≤ q ∧ q < 60 * t + (j + 1) then 0 else J 109 q) := by
      rw [up21_1]
      refine congrArg _ (funext fun q => ?_)
      by_cases h1 : q = 60 * t + j
      · rw [if_pos h1, if_pos (by omega)]
      · rw [if_neg h1]
        by_cases h2 : 60 * t ≤ q ∧ q < 60 * t + j
        · rw [if_pos h2, if_pos (by omega)]
        · rw [if_neg h2, if_neg (by omega)]
    rw [e]
    refine go_sb (rf_tape_loop hw ht K m (j + 1) (by omega)) ⟨by rw [nI_succ]; rfl, rfl, ?_, rfl, rfl, trivial⟩ rfl rfl rfl
    rw [hw]; rfl
/-- what a tape becomes: both sides -/
theorem iP_begin {t : Nat} {s n : Int32} (hP : iP I J) (ht : t < 6) (h1 : -1 ≤ s) (h2 : s ≤ 4) (h3 : 0 ≤ n) (h4 : n ≤ 60) (h5 : s = -1 → n = 0) : iP (up2 (up2 (up2 (up2 I (65 + 2 * t) 0 s) (65 + 2 * t) 1 n) 107 t s) 108 t n) (up1 (up1 J (66 + 2 * t) (fun q => if q < 60 then 0 else J (66 + 2 * t) q)) 109 (fun q => if 60 * t ≤ q ∧ q < 60 * t + 60 then 0 else J 109 q)) := by
  refine iP_mk hP t (fun u hu hne => ⟨?_, ?_, ?_⟩) (fun u hu hne => ⟨?_, fun k hk => ?_⟩) ⟨?_, ?_, ?_, ?_, ?_, ?_, fun k hk => ⟨?_, ?_, ?_⟩⟩
  · rw [up2_ne (by omega), up2_ne (by omega), up2_ne (by omega), up2_ne (by omega)]
  · rw [up2_ne (by omega), up2_42 (by omega), up2_ne (by omega), up2_ne (by omega)]
  · rw [up2_42 (by omega), up2_ne (by omega), up2_ne (by omega), up2_ne (by omega)]
  · rw [up1_ne (by omega), up1_ne (by omega)]
  · rw [up1_e, if_neg (by omega)]
  · rw [up2_ne (by omega), up2_ne (by omega), up2_42 (by omega), up2_e, up2_ne (by omega), up2_e]
  · rw [up2_ne (by omega), up2_e]; exact h1
  · rw [up2_ne (by omega), up2_e]; exact h2
  · rw [up2_ne (by omega), up2_ne (by omega), up2_e, up2_e]
  · rw [up2_e]; exact h3
  · rw [up2_e]; exact h4
  · rw [up1_ne (by omega), up1_e, up1_e, if_pos hk, if_pos (by omega)]
  · intro _; rw [up1_e, if_pos (by omega)]; decide
  · rw [up2_ne (by omega), up2_e, up2_e]; exact h5
theorem rf_tape {t : Nat} {s n : Int32} (ht : t < 6) (hs : -1 ≤ s ∧ s ≤ 4) (hn : 0 ≤ s → 0 ≤ n ∧ n ≤ 60) (K : P (some (.int 1)) (aHp r rr (up2 (up2 I 107 t s) 108 t (if s < 0 then 0 else n)) (up1 J 109 (fun q => if 60 * t ≤ q ∧ q < 60 * t + 60 then 0 else J 109 q)))) : aCl L xs fv 111 (d + 4) 172 [.ref 77, .int (nI t), .int s, .int n] (aHp r rr I J) P := by
  have hT : 0 ≤ nI t ∧ nI t ≤ 5 := ⟨nI_pos' (by omega), nI_le (b := 5) (by omega) (by decide)⟩
  have hend : ∀ m : Int32, m = (if s < 0 then 0 else n) → aTo L xs fv 111 (d + 3) cd172 (65, [(0, .ref 77), (1, .int (nI t)), (2, .int s), (3, .int n)], [.int m, .int (nI t), .ref 108], aHp r rr (up2 I 107 t s) J) P := fun m hm => by
    rw [← hm] at K
    refine go_iast (cd := cd172) rfl (nI_vin (n := 6) (by omega) (by decide)) (lv3 rfl) rfl ?_
    rw [nI_clamp (show t < 2 ^ 31 by omega)]
    refine go_v (cd := cd172) [69] 20 rfl ?_
    have h := rf_tape_loop (L := L) (xs := xs) (fv := fv) (d := d + 3) (s := s) (n := n) rfl ht K 60 0 (by omega)
    have e : up1 J 109 (fun q => if 60 * t ≤ q ∧ q < 60 * t + 0 then 0 else J 109 q) = J := by
      have e1 : (fun q => if 60 * t ≤ q ∧ q < 60 * t + 0 then 0 else J 109 q) = J 109 := by funext q; rw [if_neg (by omega)]
      rw [e1]; exact up1_id
    rw [e] at h
    exact go_sb h ⟨rfl, rfl, rfl, rfl, rfl, trivial⟩ rfl rfl rfl
  have h44 : aTo L xs fv 111 (d + 3) cd172 (44, [(0, .ref 77), (1, .int (nI t)), (2, .int s), (3, .int n)], [], aHp r rr I J) P := by
    refine go_v (cd := cd172) [] 20 rfl ?_
    refine go_iast (cd := cd172) rfl (nI_vin (n := 6) (by omega) (by decide)) (lv3 rfl) rfl ?_
    rw [nI_clamp (show t < 2 ^ 31 by omega)]
    refine go_v (cd := cd172) [] 20 rfl ?_
    by_cases hs0 : s < 0
    · refine go_st (cd := cd172) 1 rfl (go_ifF (by grind) ?_)
      refine go_v (cd := cd172) [65] 20 rfl ?_
      exact hend 0 (by rw [if_pos hs0])
    · refine go_st (cd := cd172) 1 rfl (go_ifT (by grind) ?_)
      refine go_v (cd := cd172) [65] 20 rfl ?_
      exact hend n (by rw [if_neg hs0])
  refine cl_of rfl (Nat.le_add_right _ _) ?_
  refine go_v (cd := cd172) [] 20 rfl ?_
  refine go_callv (cd := cd172) rfl rfl rfl rfl rfl (lv3 rfl) rfl (cl_isTape (fun _ => ⟨rfl, ?_⟩) (fun hx => absurd hT hx))
  refine go_st (cd := cd172) 1 rfl (go_ifF (by decide) ?_)
  refine go_v (cd := cd172) [] 20 rfl ?_
  refine go_callv (cd := cd172) rfl rfl rfl rfl rfl (lv3 rfl) rfl (cl_in (fun _ => ⟨rfl, ?_⟩) (fun hx => absurd hs hx))
  refine go_st (cd := cd172) 1 rfl (go_ifF (by decide) ?_)
  refine go_v (cd := cd172) [] 20 rfl ?_
  by_cases hs0 : s < 0
  · refine go_st (cd := cd172) 1 rfl (go_ifT hs0 ?_)
    refine go_v (cd := cd172) [] 20 rfl ?_
    refine go_st (cd := cd172) 1 rfl (go_ifT hs0 ?_)
    exact h44
  · obtain ⟨n0, n60⟩ := hn (by grind)
    refine go_st (cd := cd172) 1 rfl (go_ifF hs0 ?_)
    refine go_v (cd := cd172) [] 20 rfl ?_
    refine go_st (cd := cd172) 1 rfl (go_ifT n60 ?_)
    refine go_v (cd := cd172) [] 20 rfl ?_
    refine go_st (cd := cd172) 1 rfl (go_ifF hs0 ?_)
    refine go_v (cd := cd172) [] 20 rfl ?_
    refine go_st (cd := cd172) 1 rfl (go_ifT n0 ?_)
    exact h44
/-- the reference refuses -/
theorem rf_tape0 {w s n v : Int32} (K : P (some (.int v)) (aHp r rr I J)) (h : (¬ (0 ≤ w ∧ w ≤ 5) ∧ v = -1) ∨ ((0 ≤ w ∧ w ≤ 5) ∧ (¬ (-1 ≤ s ∧ s ≤ 4) ∨ (0 ≤ s ∧ ¬ n ≤ 60)) ∧ v = -2) ∨ ((0 ≤ w ∧ w ≤ 5) ∧ (0 ≤ s ∧ s ≤ 4) ∧ n ≤ 60 ∧ n < 0 ∧ v = -14)) : aCl L xs fv 111 (d + 4) 172 [.ref 77, .int w, .int s, .int n] (aHp r rr I J) P := by
  refine cl_of rfl (Nat.le_add_right _ _) ?_
  refine go_v (cd := cd172) [] 20 rfl ?_
  refine go_callv (cd := cd172) rfl rfl rfl rfl rfl (lv3 rfl) rfl (cl_isTape (fun hw => ⟨rfl, ?_⟩) (fun hw => ⟨rfl, ?_⟩))
  case refine_2 =>
    refine go_st (cd := cd172) 1 rfl (go_ifT rfl ?_)
    refine go_v (cd := cd172) [] 20 rfl ?_
    rcases h with ⟨-, rfl⟩ | ⟨h, -⟩ | ⟨h, -⟩
    · exact go_ireturn (cd := cd172) rfl K
    · exact absurd h hw
    · exact absurd h hw
  have h := h.resolve_left (fun h => absurd hw h.1)
  refine go_st (cd := cd172) 1 rfl (go_ifF (by decide) ?_)
  refine go_v (cd := cd172) [] 20 rfl ?_
  refine go_callv (cd := cd172) rfl rfl rfl rfl rfl (lv3 rfl) rfl (cl_in (fun hs => ⟨rfl, ?_⟩) (fun hs => ⟨rfl, ?_⟩))
  case refine_2 =>
    refine go_st (cd := cd172) 1 rfl (go_ifT rfl ?_)
    refine go_v (cd := cd172) [] 20 rfl ?_
    rcases h with ⟨-, -, rfl⟩ | ⟨-, h, -⟩
    · exact go_ireturn (cd := cd172) rfl K
    · exact absurd (show -1 ≤ s ∧ s ≤ 4 by grind) hs
  refine go_st (cd := cd172) 1 rfl (go_ifF (by decide) ?_)
  have hs0 : ¬ s < 0 := by rcases h with ⟨-, h | h, -⟩ | ⟨-, h, -⟩ <;> grind
  refine go_v (cd := cd172) [] 20 rfl ?_
  refine go_st (cd := cd172) 1 rfl (go_ifF hs0 ?_)
  refine go_v (cd := cd172) [] 20 rfl ?_
  rcases h with ⟨-, h, rfl⟩ | ⟨-, -, h60, hn0, rfl⟩
  · refine go_st (cd := cd172) 1 rfl (go_ifF (show ¬ n ≤ 60 by grind) ?_)
    refine go_v (cd := cd172) [] 20 rfl ?_
    exact go_ireturn (cd := cd172) rfl K
  · refine go_st (cd := cd172) 1 rfl (go_ifT h60 ?_)
    refine go_v (cd := cd172) [] 20 rfl ?_
    refine go_st (cd := cd172) 1 rfl (go_ifF hs0 ?_)
    refine go_v (cd := cd172) [] 20 rfl ?_
    refine go_st (cd := cd172) 1 rfl (go_ifF (by grind) ?_)
    refine go_v (cd := cd172) [] 20 rfl ?_
    exact go_ireturn (cd := cd172) rfl K
theorem ta_done {A : Nat → List Cl} {t : Nat} {s n : Int32} (hv : aInv r A I J) (ht : t < 6) (h1 : -1 ≤ s) (h2 : s ≤ 4) (h3 : 0 ≤ n) (h4 : n ≤ 60) (h5 : s = -1 → n = 0) : aIn (aHp r rr (up2 (up2 (up2 (up2 I (65 + 2 * t) 0 s) (65 + 2 * t) 1 n) 107 t s) 108 t n) (up1 (up1 J (66 + 2 * t) (fun q => if q < 60 then 0 else J (66 + 2 * t) q)) 109 (fun q => if 60 * t ≤ q ∧ q < 60 * t + 60 then 0 else J 109 q))) :=
  aIn_P hv (fun j hj h107 h108 => by rw [up2_ne h108, up2_ne h107, up2_ne (by omega), up2_ne (by omega)]) (iP_begin hv.2.2.2.2.2.2.2.1 ht h1 h2 h3 h4 h5)
theorem pr_tape {w s n : Int32} {h : aH} (hi : aIn h) : aPair L xs fv (d + 4) 62 172 [.int w, .int s, .int n] h := by
  obtain ⟨r, rr, A, I, J, rfl, hv⟩ := hi
  have hdone := aIn_of hv rr
  have hP := hv.2.2.2.2.2.2.2.1
  refine cl_of rfl (Nat.le_add_right _ _) ?_
  refine go_v (cd := cd62) [] 20 rfl ?_
  refine go_callv (cd := cd62) rfl rfl rfl rfl rfl (lv3 rfl) rfl (cl_tapeOf hP (fun hq => ⟨rfl, ?_⟩) (fun hq => ⟨rfl, ?_⟩))
  case refine_2 =>
    refine go_v (cd := cd62) [] 20 rfl ?_
    exact go_ireturn (cd := cd62) rfl ⟨Or.inl rfl, _, rfl, rf_tape0 ⟨rfl, rfl, hdone⟩ (Or.inl ⟨hq, rfl⟩)⟩
  obtain ⟨hw, ht, -⟩ := hq
  obtain ⟨t, ht6, rfl, hc⟩ := nI_ex (s := w) (n := 6) 6 rfl hw.1 (by grind)
  rw [hc] at ht ⊢
  refine go_v (cd := cd62) [] 20 rfl ?_
  by_cases hs : s = -1
  case pos =>
    subst hs
    refine go_st (cd := cd62) 1 rfl (go_ifT rfl ?_)
    refine go_v (cd := cd62) [] 20 rfl ?_
    refine go_callv (cd := cd62) rfl rfl rfl rfl rfl (tp_lt ht) (tp_k ht) (cl_begin ht ⟨rfl, ?_⟩)
    refine go_v (cd := cd62) [] 20 rfl ?_
    refine go_ireturn (cd := cd62) rfl ⟨Or.inl rfl, _, rfl, ?_⟩
    refine rf_tape ht (by decide) (fun h => absurd h (by decide)) ⟨rfl, rfl, ?_⟩
    rw [up1_ne (show 109 ≠ 66 + 2 * t by omega)]
    exact ta_done (s := -1) (n := 0) hv ht (by decide) (by decide) (by decide) (by decide) (fun _ => rfl)
  refine go_st (cd := cd62) 1 rfl (go_ifF hs ?_)
  refine go_v (cd := cd62) [] 20 rfl ?_
  by_cases hs0 : s < 0
  case pos =>
    refine go_st (cd := cd62) 1 rfl (go_ifT hs0 ?_)
    refine go_v (cd := cd62) [] 20 rfl ?_
    exact go_ireturn (cd := cd62) rfl ⟨Or.inl rfl, _, rfl, rf_tape0 ⟨rfl, rfl, hdone⟩ (Or.inr (Or.inl ⟨hw, Or.inl (by grind), rfl⟩))⟩
  refine go_st (cd := cd62) 1 rfl (go_ifF hs0 ?_)
  refine go_v (cd := cd62) [] 20 rfl ?_
  by_cases hs4 : 4 < s
  case pos =>
    refine go_st (cd := cd62) 1 rfl (go_ifT hs4 ?_)
    refine go_v (cd := cd62) [] 20 rfl ?_
    exact go_ireturn (cd := cd62) rfl ⟨Or.inl rfl, _, rfl, rf_tape0 ⟨rfl, rfl, hdone⟩ (Or.inr (Or.inl ⟨hw, Or.inl (by grind), rfl⟩))⟩
  refine go_st (cd := cd62) 1 rfl (go_ifF hs4 ?_)
  refine go_v (cd := cd62) [] 20 rfl ?_
  by_cases hn60 : n ≤ 60
  case neg =>
    refine go_st (cd := cd62) 1 rfl (go_ifF hn60 ?_)
    refine go_v (cd := cd62) [] 20 rfl ?_
    exact go_ireturn (cd := cd62) rfl ⟨Or.inl rfl, _, rfl, rf_tape0 ⟨rfl, rfl, hdone⟩ (Or.inr (Or.inl ⟨hw, Or.inr ⟨by grind, hn60⟩, rfl⟩))⟩
  refine go_st (cd := cd62) 1 rfl (go_ifT hn60 ?_)
  refine go_v (cd := cd62) [] 20 rfl ?_
  by_cases hn0 : 0 ≤ n
  case neg =>
    refine go_st (cd := cd62) 1 rfl (go_ifF hn0 ?_)
    refine go_v (cd := cd62) [] 20 rfl ?_
    exact go_ireturn (cd := cd62) rfl ⟨Or.inl rfl, _, rfl, rf_tape0 ⟨rfl, rfl, hdone⟩ (Or.inr (Or.inr ⟨hw, by grind, hn60, by grind, rfl⟩))⟩
  refine go_st (cd := cd62) 1 rfl (go_ifT hn0 ?_)
  refine go_v (cd := cd62) [] 20 rfl ?_
  refine go_callv (cd := cd62) rfl rfl rfl rfl rfl (tp_lt ht) (tp_k ht) (cl_begin ht ⟨rfl, ?_⟩)
  refine go_v (cd := cd62) [] 20 rfl ?_
  refine go_ireturn (cd := cd62) rfl ⟨Or.inl rfl, _, rfl, ?_⟩
  refine rf_tape ht (by grind) (fun _ => ⟨hn0, hn60⟩) ⟨rfl, rfl, ?_⟩
  rw [up1_ne (show 109 ≠ 66 + 2 * t by omega), if_neg hs0]
  exact ta_done (s := s) (n := n) hv ht (by grind) (by grind) hn0 hn60 (fun h => absurd h hs)
end TA
