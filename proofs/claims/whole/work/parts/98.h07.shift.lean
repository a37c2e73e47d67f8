/-! shift -/
section SH
variable {L : Nat} {xs : Nat → Int32} {fv : Value} {d : Nat} {r : Nat} {rr : Option Nat} {I : Nat → Nat → Int32} {J : Nat → Nat → Int64} {P : Option Value → aH → Prop}
theorem cl_reaches {t : Nat} {i n : Int32} (ht : t < 6) (k1 : (0 ≤ n ∧ 0 ≤ i ∧ n ≤ I (65 + 2 * t) 1 ∧ i ≤ I (65 + 2 * t) 1 - n) → P (some (.int 1)) (aHp r rr I J)) (k0 : ¬ (0 ≤ n ∧ 0 ≤ i ∧ n ≤ I (65 + 2 * t) 1 ∧ i ≤ I (65 + 2 * t) 1 - n) → P (some (.int 0)) (aHp r rr I J)) : aCl L xs fv 111 (d + 1) 28 [.ref (65 + 2 * t), .int i, .int n] (aHp r rr I J) P := by
  have h30 : ¬ (0 ≤ n ∧ 0 ≤ i ∧ n ≤ I (65 + 2 * t) 1 ∧ i ≤ I (65 + 2 * t) 1 - n) → aTo L xs fv 111 d cd28 (30, [(0, .ref (65 + 2 * t)), (1, .int i), (2, .int n)], [], aHp r rr I J) P := fun h => by
    refine go_v (cd := cd28) [] 20 rfl ?_
    exact go_zreturn (cd := cd28) rfl (Or.inl rfl) (k0 h)
  refine cl_of rfl (Nat.le_add_right _ _) ?_
  refine go_v (cd := cd28) [] 20 rfl ?_
  by_cases h1 : n < 0
  · exact go_st (cd := cd28) 1 rfl (go_ifT h1 (h30 (by grind)))
  refine go_st (cd := cd28) 1 rfl (go_ifF h1 ?_)
  refine go_v (cd := cd28) [] 20 rfl ?_
  by_cases h2 : i < 0
  · exact go_st (cd := cd28) 1 rfl (go_ifT h2 (h30 (by grind)))
  refine go_st (cd := cd28) 1 rfl (go_ifF h2 ?_)
  refine go_v (cd := cd28) [10] 20 rfl ?_
  refine go_get (cd := cd28) rfl (tp_lt ht) (tp_k ht) ?_
  rw [av0]
  by_cases h3 : I (65 + 2 * t) 1 < n
  · exact go_st (cd := cd28) 1 rfl (go_ifT h3 (h30 (by grind)))
  refine go_st (cd := cd28) 1 rfl (go_ifF h3 ?_)
  refine go_v (cd := cd28) [18] 20 rfl ?_
  refine go_get (cd := cd28) rfl (tp_lt ht) (tp_k ht) ?_
  rw [av0]
  refine go_v (cd := cd28) [] 20 rfl ?_
  by_cases h4 : I (65 + 2 * t) 1 - n < i
  · exact go_st (cd := cd28) 1 rfl (go_ifT h4 (h30 (fun h => by have := h.2.2.2; grind)))
  refine go_st (cd := cd28) 1 rfl (go_ifF h4 ?_)
  refine go_v (cd := cd28) [] 20 rfl ?_
  exact go_zreturn (cd := cd28) rfl (Or.inr rfl) (k1 ⟨by grind, by grind, by grind, by grind⟩)
/-- the reference lays aside, and back -/
theorem sh_out {a i n : Nat} {w g o : Int32} (ha : a < 6) (hi : i + n ≤ 60) {l7 : Int32} (hw : w = nI a) (hg : g = nI i) (K : aTo L xs fv 111 d cd176 (138, [(0, .ref 77), (1, .int w), (2, .int g), (3, .int o), (4, .int l7), (5, .int (nI n))], [], aHp r rr I (up1 J 110 (fun q => if q < n then J 109 (60 * a + i + q) else J 110 q))) P) : ∀ m j, j + m = n → aTo L xs fv 111 d cd176 (104, [(6, .int (nI j)), (0, .ref 77), (1, .int w), (2, .int g), (3, .int o), (4, .int l7), (5, .int (nI n))], [], aHp r rr I (up1 J 110 (fun q => if q < j then J 109 (60 * a + i + q) else J 110 q))) P
  | 0, j, hj => by
    have hj : j = n := hj
    subst hj
    refine go_v (cd := cd176) [] 20 rfl ?_
    refine go_st (cd := cd176) 1 rfl (go_ifT (nI_le (Nat.le_refl _) (by omega)) ?_)
    exact go_sb K ⟨rfl, rfl, rfl, rfl, rfl, rfl, trivial⟩ rfl rfl rfl
  | m + 1, j, hj => by
    have hx : 60 * w + g + nI j = nI (60 * a + i + j) := by rw [hw, hg, show (60 : Int32) = nI 60 from rfl, nI_mul, nI_add, nI_add]
    refine go_v (cd := cd176) [] 20 rfl ?_
    refine go_st (cd := cd176) 1 rfl (go_ifF (nI_ge (by omega) (by omega)) ?_)
    refine go_v (cd := cd176) [] 20 rfl ?_
    rw [hx]
    refine go_lald (cd := cd176) rfl (nI_vin (n := 360) (by omega) (by decide)) (lv3 rfl) rfl ?_
    rw [nI_clamp (show 60 * a + i + j < 2 ^ 31 by omega), up1_ne (show 109 ≠ 110 by decide)]
    refine go_last (cd := cd176) rfl (nI_vin (n := 60) (by omega) (by decide)) (lv3 rfl) rfl ?_
    rw [nI_clamp (show j < 2 ^ 31 by omega)]
    refine go_v (cd := cd176) [104] 20 rfl ?_
    have e : up2 (up1 J 110 (fun q => if q < j then J 109 (60 * a + i + q) else J 110 q)) 110 j (J 109 (60 * a + i + j)) = up1 J 110 (fun q => if q < j + 1 then J 109 (60 * a + i + q) else J 110 q) := by
      rw [up21_1]
      refine congrArg _ (funext fun q => ?_)
      by_cases h1 : q = j
      · rw [if_pos h1, if_pos (by omega), h1]
      · rw [if_neg h1]
        by_cases h2 : q < j
        · rw [if_pos h2, if_pos (by omega)]
        · rw [if_neg h2, if_neg (by omega)]
    rw [e]
    exact go_sb (sh_out ha hi hw hg K m (j + 1) (by omega)) ⟨by rw [nI_succ]; rfl, rfl, rfl, rfl, rfl, rfl, rfl, trivial⟩ rfl rfl rfl
theorem sh_in {b j n : Nat} {w g o z : Int32} {c : Nat → Int64} (hb : b < 6) (hj : j + n ≤ 60) (ho : o = nI b) (hz : z = nI j) (hc : J 110 = c) (K : P (some (.int (nI n))) (aHp r rr I (up1 J 109 (fun q => if 60 * b + j ≤ q ∧ q < 60 * b + j + n then c (q - (60 * b + j)) else J 109 q)))) : ∀ m k, k + m = n → aTo L xs fv 111 d cd176 (141, [(6, .int (nI k)), (0, .ref 77), (1, .int w), (2, .int g), (3, .int o), (4, .int z), (5, .int (nI n))], [], aHp r rr I (up1 J 109 (fun q => if 60 * b + j ≤ q ∧ q < 60 * b + j + k then c (q - (60 * b + j)) else J 109 q))) P
  | 0, k, hk => by
    have hk : k = n := hk
    subst hk
    refine go_v (cd := cd176) [] 20 rfl ?_
    refine go_st (cd := cd176) 1 rfl (go_ifT (nI_le (Nat.le_refl _) (by omega)) ?_)
    refine go_v (cd := cd176) [] 20 rfl ?_
    exact go_ireturn (cd := cd176) rfl K
  | m + 1, k, hk => by
    have hx : 60 * o + z + nI k = nI (60 * b + j + k) := by rw [ho, hz, show (60 : Int32) = nI 60 from rfl, nI_mul, nI_add, nI_add]
    refine go_v (cd := cd176) [] 20 rfl ?_
    refine go_st (cd := cd176) 1 rfl (go_ifF (nI_ge (by omega) (by omega)) ?_)
    refine go_v (cd := cd176) [] 20 rfl ?_
    rw [hx]
    refine go_lald (cd := cd176) rfl (nI_vin (n := 60) (by omega) (by decide)) (lv3 rfl) rfl ?_
    rw [nI_clamp (show k < 2 ^ 31 by omega), up1_ne (show 110 ≠ 109 by decide), hc]
    refine go_last (cd := cd176) rfl (nI_vin (n := 360) (by omega) (by decide)) (lv3 rfl) rfl ?_
    rw [nI_clamp (show 60 * b + j + k < 2 ^ 31 by omega)]
    refine go_v (cd := cd176) [141] 20 rfl ?_
    have e : up2 (up1 J 109 (fun q => if 60 * b + j ≤ q ∧ q < 60 * b + j + k then c (q - (60 * b + j)) else J 109 q)) 109 (60 * b + j + k) (c k) = up1 J 109 (fun q => if 60 * b + j ≤ q ∧ q < 60 * b + j + (k + 1) then c (q - (60 * b + j)) else J 109 q) := by
      rw [up21_1]
      refine congrArg _ (funext fun q => ?_)
      by_cases h1 : q = 60 * b + j + k
      · rw [if_pos h1, if_pos (by omega), h1]; congr 1; omega
      · rw [if_neg h1]
        by_cases h2 : 60 * b + j ≤ q ∧ q < 60 * b + j + k
        · rw [if_pos h2, if_pos (by omega)]
        · rw [if_neg h2, if_neg (by omega)]
    rw [e]
    exact go_sb (sh_in hb hj ho hz hc K m (k + 1) (by omega)) ⟨by rw [nI_succ]; rfl, rfl, rfl, rfl, rfl, rfl, rfl, trivial⟩ rfl rfl rfl
/-- what a shift refuses -/
def shV (I : Nat → Nat → Int32) (w g o z n : Int32) : Option Int32 :=
  if ¬ ((0 ≤ w ∧ w ≤ 5) ∧ (0 ≤ o ∧ o ≤ 5)) then some (-1)
  else if I 107 w.toNatClampNeg < 0 ∨ I 107 o.toNatClampNeg < 0 then some (-11)
  else if I 107 w.toNatClampNeg ≠ I 107 o.toNatClampNeg then some (-12)
  else if n < 0 ∨ g < 0 ∨ z < 0 ∨ I 108 w.toNatClampNeg - n < g ∨ I 108 o.toNatClampNeg - n < z then some (-13)
  else none
theorem rf_shift {w g o z n : Int32} (k0 : ∀ v, shV I w g o z n = some v → P (some (.int v)) (aHp r rr I J)) (KK : shV I w g o z n = none → aTo L xs fv 111 (d + 3) cd176 (101, [(0, .ref 77), (1, .int w), (2, .int g), (3, .int o), (4, .int z), (5, .int n)], [], aHp r rr I J) P) : aCl L xs fv 111 (d + 4) 176 [.ref 77, .int w, .int g, .int o, .int z, .int n] (aHp r rr I J) P := by
  refine cl_of rfl (Nat.le_add_right _ _) ?_
  refine go_v (cd := cd176) [] 20 rfl ?_
  refine go_callv (cd := cd176) rfl rfl rfl rfl rfl (lv3 rfl) rfl (cl_isTape (fun hw => ⟨rfl, ?_⟩) (fun hw => ⟨rfl, ?_⟩))
  case refine_2 =>
    refine go_st (cd := cd176) 1 rfl (go_ifT rfl ?_)
    refine go_v (cd := cd176) [] 20 rfl ?_
    exact go_ireturn (cd := cd176) rfl (k0 _ (if_pos (fun h => hw h.1)))
  refine go_st (cd := cd176) 1 rfl (go_ifF (by decide) ?_)
  refine go_v (cd := cd176) [] 20 rfl ?_
  refine go_callv (cd := cd176) rfl rfl rfl rfl rfl (lv3 rfl) rfl (cl_isTape (fun ho => ⟨rfl, ?_⟩) (fun ho => ⟨rfl, ?_⟩))
  case refine_2 =>
    refine go_st (cd := cd176) 1 rfl (go_ifT rfl ?_)
    refine go_v (cd := cd176) [] 20 rfl ?_
    exact go_ireturn (cd := cd176) rfl (k0 _ (if_pos (fun h => ho h.2)))
  refine go_st (cd := cd176) 1 rfl (go_ifF (by decide) ?_)
  unfold shV at k0 KK
  rw [if_neg (fun h => h ⟨hw, ho⟩)] at k0 KK
  have hwi : vp_in w 6 := vin 6 rfl hw.1 (by grind)
  have hoi : vp_in o 6 := vin 6 rfl ho.1 (by grind)
  refine go_v (cd := cd176) [] 20 rfl ?_
  refine go_iald (cd := cd176) rfl hwi (lv3 rfl) rfl ?_
  by_cases h1 : I 107 w.toNatClampNeg < 0
  · refine go_st (cd := cd176) 1 rfl (go_ifT h1 ?_)
    refine go_v (cd := cd176) [] 20 rfl ?_
    exact go_ireturn (cd := cd176) rfl (k0 _ (if_pos (Or.inl h1)))
  refine go_st (cd := cd176) 1 rfl (go_ifF h1 ?_)
  refine go_v (cd := cd176) [] 20 rfl ?_
  refine go_iald (cd := cd176) rfl hoi (lv3 rfl) rfl ?_
  by_cases h2 : I 107 o.toNatClampNeg < 0
  · refine go_st (cd := cd176) 1 rfl (go_ifF (by grind) ?_)
    refine go_v (cd := cd176) [] 20 rfl ?_
    exact go_ireturn (cd := cd176) rfl (k0 _ (if_pos (Or.inr h2)))
  refine go_st (cd := cd176) 1 rfl (go_ifT (by grind) ?_)
  rw [if_neg (by rintro (h | h) <;> contradiction)] at k0 KK
  refine go_v (cd := cd176) [] 20 rfl ?_
  refine go_iald (cd := cd176) rfl hwi (lv3 rfl) rfl ?_
  refine go_v (cd := cd176) [] 20 rfl ?_
  refine go_iald (cd := cd176) rfl hoi (lv3 rfl) rfl ?_
  by_cases h3 : I 107 w.toNatClampNeg = I 107 o.toNatClampNeg
  case neg =>
    refine go_st (cd := cd176) 1 rfl (go_ifF h3 ?_)
    refine go_v (cd := cd176) [] 20 rfl ?_
    exact go_ireturn (cd := cd176) rfl (k0 _ (if_pos h3))
  refine go_st (cd := cd176) 1 rfl (go_ifT h3 ?_)
  rw [if_neg (fun h => h h3)] at k0 KK
  have h98 : (n < 0 ∨ g < 0 ∨ z < 0 ∨ I 108 w.toNatClampNeg - n < g ∨ I 108 o.toNatClampNeg - n < z) → aTo L xs fv 111 (d + 3) cd176 (98, [(0, .ref 77), (1, .int w), (2, .int g), (3, .int o), (4, .int z), (5, .int n)], [], aHp r rr I J) P := fun h => by
    refine go_v (cd := cd176) [] 20 rfl ?_
    exact go_ireturn (cd := cd176) rfl (k0 _ (if_pos h))
  refine go_v (cd := cd176) [] 20 rfl ?_
  by_cases h4 : n < 0
  · exact go_st (cd := cd176) 1 rfl (go_ifT h4 (h98 (Or.inl h4)))
  refine go_st (cd := cd176) 1 rfl (go_ifF h4 ?_)
  refine go_v (cd := cd176) [] 20 rfl ?_
  by_cases h5 : g < 0
  · exact go_st (cd := cd176) 1 rfl (go_ifT h5 (h98 (Or.inr (Or.inl h5))))
  refine go_st (cd := cd176) 1 rfl (go_ifF h5 ?_)
  refine go_v (cd := cd176) [] 20 rfl ?_
  by_cases h6 : z < 0
  · exact go_st (cd := cd176) 1 rfl (go_ifT h6 (h98 (Or.inr (Or.inr (Or.inl h6)))))
  refine go_st (cd := cd176) 1 rfl (go_ifF h6 ?_)
  refine go_v (cd := cd176) [] 20 rfl ?_
  refine go_iald (cd := cd176) rfl hwi (lv3 rfl) rfl ?_
  refine go_v (cd := cd176) [] 20 rfl ?_
  by_cases h7 : I 108 w.toNatClampNeg - n < g
  · exact go_st (cd := cd176) 1 rfl (go_ifT h7 (h98 (Or.inr (Or.inr (Or.inr (Or.inl h7))))))
  refine go_st (cd := cd176) 1 rfl (go_ifF h7 ?_)
  refine go_v (cd := cd176) [] 20 rfl ?_
  refine go_iald (cd := cd176) rfl hoi (lv3 rfl) rfl ?_
  refine go_v (cd := cd176) [] 20 rfl ?_
  by_cases h8 : I 108 o.toNatClampNeg - n < z
  · exact go_st (cd := cd176) 1 rfl (go_ifF (by grind) (h98 (Or.inr (Or.inr (Or.inr (Or.inr h8))))))
  refine go_st (cd := cd176) 1 rfl (go_ifT (by grind) ?_)
  exact KK (if_neg (by rintro (h | h | h | h | h) <;> contradiction))
/-- what both tapes hold behind a shift -/
theorem iP_shift {a b i j n : Nat} {c : Nat → Int64} (hP : iP I J) (ha : a < 6) (hb : b < 6) (hab : I 107 a = I 107 b) (hi : i + n ≤ 60) (hj : j + n ≤ 60) : iP I (up1 (up1 (up1 J (66 + 2 * b) (va_cpy (J (66 + 2 * a)) (J (66 + 2 * b)) i j n)) 110 c) 109 (fun q => if 60 * b + j ≤ q ∧ q < 60 * b + j + n then J 109 (60 * a + i + (q - (60 * b + j))) else J 109 q)) := by
  obtain ⟨c1, c2, c3, c4, c5, c6, c7⟩ := hP b hb
  refine iP_mk hP b (fun u hu hne => ⟨rfl, rfl, rfl⟩) (fun u hu hne => ⟨?_, fun k hk => ?_⟩) ⟨c1, c2, c3, c4, c5, c6, fun k hk => ?_⟩
  · rw [up1_ne (by omega), up1_ne (by omega), up1_ne (by omega)]
  · rw [up1_e, if_neg (by omega)]
  · rw [up1_ne (show 66 + 2 * b ≠ 109 by omega), up1_ne (show 66 + 2 * b ≠ 110 by omega), up1_e, up1_e]
    unfold va_cpy
    by_cases hk2 : j ≤ k ∧ k < j + n
    · have h7 := (hP a ha).2.2.2.2.2.2 (i + (k - j)) (by omega)
      rw [if_pos (by omega), if_pos (by omega), show 60 * a + i + (60 * b + k - (60 * b + j)) = 60 * a + (i + (k - j)) by omega]
      refine ⟨?_, ?_, (c7 k hk).2.2⟩
      · exact h7.1
      · rw [← hab]; exact h7.2.1
    · rw [if_neg (by omega), if_neg (by omega)]
      exact c7 k hk
set_option maxHeartbeats 4000000 in
theorem pr_shift {w g o z n : Int32} {h : aH} (hi : aIn h) : aPair L xs fv (d + 4) 65 176 [.int w, .int g, .int o, .int z, .int n] h := by
  obtain ⟨r, rr, A, I, J, rfl, hv⟩ := hi
  have hdone := aIn_of hv rr
  have hP := hv.2.2.2.2.2.2.2.1
  have hbad : ∀ v, shV I w g o z n = some v → aCl L xs fv 111 (d + 4) 176 [.ref 77, .int w, .int g, .int o, .int z, .int n] (aHp r rr I J) (fun rv2 h2 => h2.1 = 111 + 3 * r ∧ rv2 = some (.int v) ∧ aIn h2) := fun v hvv => rf_shift (fun v2 h2 => by
    rw [hvv] at h2
    cases h2
    exact ⟨rfl, rfl, hdone⟩) (fun h2 => by rw [hvv] at h2; cases h2)
  refine cl_of rfl (Nat.le_add_right _ _) ?_
  refine go_v (cd := cd65) [] 20 rfl ?_
  refine go_callv (cd := cd65) rfl rfl rfl rfl rfl (lv3 rfl) rfl (cl_tapeOf hP (fun hq => ⟨rfl, ?_⟩) (fun hq => ⟨rfl, ?_⟩))
  case refine_2 =>
    refine go_v (cd := cd65) [] 20 rfl ?_
    refine go_callv (cd := cd65) rfl rfl rfl rfl rfl (lv3 rfl) rfl (cl_tapeOf hP (fun hq2 => ⟨rfl, ?_⟩) (fun hq2 => ⟨rfl, ?_⟩))
    · refine go_v (cd := cd65) [] 20 rfl ?_
      exact go_ireturn (cd := cd65) rfl ⟨Or.inl rfl, _, rfl, hbad _ (if_pos (fun h => hq h.1))⟩
    · refine go_v (cd := cd65) [] 20 rfl ?_
      exact go_ireturn (cd := cd65) rfl ⟨Or.inl rfl, _, rfl, hbad _ (if_pos (fun h => hq h.1))⟩
  refine go_v (cd := cd65) [] 20 rfl ?_
  refine go_callv (cd := cd65) rfl rfl rfl rfl rfl (lv3 rfl) rfl (cl_tapeOf hP (fun hq2 => ⟨rfl, ?_⟩) (fun hq2 => ⟨rfl, ?_⟩))
  case refine_2 =>
    refine go_v (cd := cd65) [] 20 rfl ?_
    exact go_ireturn (cd := cd65) rfl ⟨Or.inl rfl, _, rfl, hbad _ (if_pos (fun h => hq2 h.2))⟩
  obtain ⟨hw, ht, a1, a2, a3, a4, a5, a6⟩ := hq
  obtain ⟨ho, ht2, b1, b2, b3, b4, b5, b6⟩ := hq2
  obtain ⟨a, ha6, hwa, hwc⟩ := nI_ex (s := w) (n := 6) 6 rfl hw.1 (by grind)
  obtain ⟨b, hb6, hob, hoc⟩ := nI_ex (s := o) (n := 6) 6 rfl ho.1 (by grind)
  have hsh : shV I w g o z n = (if I 107 a < 0 ∨ I 107 b < 0 then some (-11) else if I 107 a ≠ I 107 b then some (-12) else if n < 0 ∨ g < 0 ∨ z < 0 ∨ I 108 a - n < g ∨ I 108 b - n < z then some (-13) else none) := by
    unfold shV
    rw [if_neg (fun h => h ⟨hw, ho⟩), hwc, hoc]
  rw [hwc] at ht a1 a2 a3 a4 a5 a6 ⊢
  rw [hoc] at ht2 b1 b2 b3 b4 b5 b6 ⊢
  have ka : aVal (aHp r rr I J) 0 (65 + 2 * a) 0 = .int (I 107 a) := congrArg Value.int a1
  have kb : aVal (aHp r rr I J) 0 (65 + 2 * b) 0 = .int (I 107 b) := congrArg Value.int b1
  refine go_v (cd := cd65) [28] 20 rfl ?_
  refine go_get (cd := cd65) rfl (tp_lt ht) (tp_k ht) ?_
  rw [ka]
  refine go_v (cd := cd65) [] 20 rfl ?_
  by_cases h1 : I 107 a = -1
  · refine go_st (cd := cd65) 1 rfl (go_ifT h1 ?_)
    refine go_v (cd := cd65) [] 20 rfl ?_
    exact go_ireturn (cd := cd65) rfl ⟨Or.inl rfl, _, rfl, hbad _ (by rw [hsh, if_pos (Or.inl (by rw [h1]; decide))])⟩
  refine go_st (cd := cd65) 1 rfl (go_ifF h1 ?_)
  refine go_v (cd := cd65) [37] 20 rfl ?_
  refine go_get (cd := cd65) rfl (tp_lt ht2) (tp_k ht2) ?_
  rw [kb]
  refine go_v (cd := cd65) [] 20 rfl ?_
  by_cases h2 : I 107 b = -1
  · refine go_st (cd := cd65) 1 rfl (go_ifT h2 ?_)
    refine go_v (cd := cd65) [] 20 rfl ?_
    exact go_ireturn (cd := cd65) rfl ⟨Or.inl rfl, _, rfl, hbad _ (by rw [hsh, if_pos (Or.inr (by rw [h2]; decide))])⟩
  refine go_st (cd := cd65) 1 rfl (go_ifF h2 ?_)
  rw [if_neg (by rintro (h | h) <;> grind)] at hsh
  refine go_v (cd := cd65) [49] 20 rfl ?_
  refine go_get (cd := cd65) rfl (tp_lt ht) (tp_k ht) ?_
  rw [ka]
  refine go_v (cd := cd65) [54] 20 rfl ?_
  refine go_get (cd := cd65) rfl (tp_lt ht2) (tp_k ht2) ?_
  rw [kb]
  by_cases h3 : I 107 a = I 107 b
  case neg =>
    refine go_st (cd := cd65) 1 rfl (go_ifF h3 ?_)
    refine go_v (cd := cd65) [] 20 rfl ?_
    exact go_ireturn (cd := cd65) rfl ⟨Or.inl rfl, _, rfl, hbad _ (by rw [hsh, if_pos h3])⟩
  refine go_st (cd := cd65) 1 rfl (go_ifT h3 ?_)
  rw [if_neg (fun h => h h3)] at hsh
  have h86 : ∀ ls, (n < 0 ∨ g < 0 ∨ z < 0 ∨ I 108 a - n < g ∨ I 108 b - n < z) → aTo L xs fv 111 (d + 3) cd65 (86, ls, [], aHp r rr I J) (fun rv h1 => (h1.1 = (aHp r rr I J).1 ∨ 65 = 41) ∧ ∃ v, rv = some v ∧ aCl L xs fv 111 (d + 4) 176 (.ref 77 :: [.int w, .int g, .int o, .int z, .int n]) h1 (fun rv2 h2 => h2.1 = h1.1 ∧ rv2 = some v ∧ aIn h2)) := fun ls h => by
    refine go_v (cd := cd65) [] 20 rfl ?_
    exact go_ireturn (cd := cd65) rfl ⟨Or.inl rfl, _, rfl, hbad _ (by rw [hsh, if_pos h])⟩
  refine go_v (cd := cd65) [] 20 rfl ?_
  refine go_callv (cd := cd65) rfl rfl rfl rfl rfl (tp_lt ht) (tp_k ht) (cl_reaches ht (fun h4 => ⟨rfl, ?_⟩) (fun h4 => ⟨rfl, ?_⟩))
  case refine_2 =>
    refine go_st (cd := cd65) 1 rfl (go_ifT rfl ?_)
    rw [a4] at h4
    exact h86 _ (by grind)
  refine go_st (cd := cd65) 1 rfl (go_ifF (by decide) ?_)
  refine go_v (cd := cd65) [] 20 rfl ?_
  refine go_callv (cd := cd65) rfl rfl rfl rfl rfl (tp_lt ht2) (tp_k ht2) (cl_reaches ht2 (fun h5 => ⟨rfl, ?_⟩) (fun h5 => ⟨rfl, ?_⟩))
  case refine_2 =>
    refine go_st (cd := cd65) 1 rfl (go_ifT rfl ?_)
    rw [b4] at h5
    exact h86 _ (by grind)
  refine go_st (cd := cd65) 1 rfl (go_ifF (by decide) ?_)
  rw [a4] at h4
  rw [b4] at h5
  obtain ⟨p1, p2, p3, p4⟩ := h4
  obtain ⟨-, q2, q3, q4⟩ := h5
  obtain ⟨n', hn, hnn⟩ := nI_of2 (M := 60) (n := 60) (x := n) rfl (by grind) (by grind)
  obtain ⟨i', hi', hgg⟩ := nI_of2 (M := 60) (n := 60) (x := g) rfl (by grind) (by grind)
  obtain ⟨j', hj', hzz⟩ := nI_of2 (M := 60) (n := 60) (x := z) rfl (by grind) (by grind)
  have hI : i' + n' ≤ 60 := by
    have : g + n ≤ 60 := by grind
    rw [hgg, hnn, nI_add] at this
    exact (nI_leI (b := 60) (by omega) (by decide)).mp this
  have hJ : j' + n' ≤ 60 := by
    have : z + n ≤ 60 := by grind
    rw [hzz, hnn, nI_add] at this
    exact (nI_leI (b := 60) (by omega) (by decide)).mp this
  have hnone : shV I w g o z n = none := by rw [hsh, if_neg (by rintro (h | h | h | h | h) <;> grind)]
  refine go_v (cd := cd65) [91] 20 rfl ?_
  refine go_getR (cd := cd65) rfl (tp_lt ht) (tp_k ht) (aRf_tp ht).1 ?_
  refine go_v (cd := cd65) [97] 20 rfl ?_
  refine go_getR (cd := cd65) rfl (tp_lt ht2) (tp_k ht2) (aRf_tp ht2).1 ?_
  refine go_v (cd := cd65) [] 20 rfl ?_
  have cn : n.toNatClampNeg = n' := by rw [hnn]; exact nI_clamp (by omega)
  have cg : g.toNatClampNeg = i' := by rw [hgg]; exact nI_clamp (by omega)
  have cz : z.toNatClampNeg = j' := by rw [hzz]; exact nI_clamp (by omega)
  refine go_copyL (cd := cd65) rfl (by grind) (by grind) (by grind) (tp_lt1 ht) (tp_lt1 ht2) (tp_k1 ht) (tp_k1 ht2) (by rw [cn, cg, (akd_tp ht).2]; exact hI) (by rw [cn, cz, (akd_tp ht2).2]; exact hJ) rfl ?_
  rw [cn, cg, cz]
  refine go_v (cd := cd65) [] 20 rfl ?_
  refine go_ireturn (cd := cd65) rfl ⟨Or.inl rfl, _, rfl, ?_⟩
  refine rf_shift (fun v hvv => by rw [hnone] at hvv; cases hvv) (fun _ => ?_)
  have hfin : aIn (aHp r rr I (up1 (up1 (up1 J (66 + 2 * b) (va_cpy (J (66 + 2 * a)) (J (66 + 2 * b)) i' j' n')) 110 (fun q => if q < n' then J 109 (60 * a + i' + q) else J 110 q)) 109 (fun q => if 60 * b + j' ≤ q ∧ q < 60 * b + j' + n' then J 109 (60 * a + i' + (q - (60 * b + j'))) else J 109 q))) := aIn_P hv (fun _ _ _ _ => rfl) (iP_shift hP ht ht2 h3 hI hJ)
  refine go_v (cd := cd176) [104] 20 rfl ?_
  have e0 : up1 (up1 J (66 + 2 * b) (va_cpy (J (66 + 2 * a)) (J (66 + 2 * b)) i' j' n')) 110 (fun q => if q < 0 then (up1 J (66 + 2 * b) (va_cpy (J (66 + 2 * a)) (J (66 + 2 * b)) i' j' n')) 109 (60 * a + i' + q) else (up1 J (66 + 2 * b) (va_cpy (J (66 + 2 * a)) (J (66 + 2 * b)) i' j' n')) 110 q) = up1 J (66 + 2 * b) (va_cpy (J (66 + 2 * a)) (J (66 + 2 * b)) i' j' n') := by
    have e1 : (fun q => if q < 0 then (up1 J (66 + 2 * b) (va_cpy (J (66 + 2 * a)) (J (66 + 2 * b)) i' j' n')) 109 (60 * a + i' + q) else (up1 J (66 + 2 * b) (va_cpy (J (66 + 2 * a)) (J (66 + 2 * b)) i' j' n')) 110 q) = (up1 J (66 + 2 * b) (va_cpy (J (66 + 2 * a)) (J (66 + 2 * b)) i' j' n')) 110 := by funext q; rw [if_neg (by omega)]
    rw [e1]; exact up1_id
  have u109 : up1 J (66 + 2 * b) (va_cpy (J (66 + 2 * a)) (J (66 + 2 * b)) i' j' n') 109 = J 109 := up1_ne (by omega)
  have u110 : up1 J (66 + 2 * b) (va_cpy (J (66 + 2 * a)) (J (66 + 2 * b)) i' j' n') 110 = J 110 := up1_ne (by omega)
  generalize hJ2 : up1 J (66 + 2 * b) (va_cpy (J (66 + 2 * a)) (J (66 + 2 * b)) i' j' n') = J2 at *
  have hrun := sh_out (L := L) (xs := xs) (fv := fv) (d := d + 3) (r := r) (rr := rr) (I := I) (J := J2) (a := a) (i := i') (n := n') (w := w) (g := g) (o := o) (l7 := z) (P := fun rv2 h2 => h2.1 = 111 + 3 * r ∧ rv2 = some (.int n) ∧ aIn h2) ha6 hI hwa hgg ?_ n' 0 (by omega)
  · rw [e0] at hrun
    exact go_sb hrun ⟨rfl, rfl, rfl, rfl, rfl, rfl, by rw [hnn]; rfl, trivial⟩ rfl rfl rfl
  · refine go_v (cd := cd176) [141] 20 rfl ?_
    rw [u109, u110]
    have hc : up1 J2 110 (fun q => if q < n' then J 109 (60 * a + i' + q) else J 110 q) 110 = (fun q => if q < n' then J 109 (60 * a + i' + q) else J 110 q) := up1_e
    have hrun2 := sh_in (L := L) (xs := xs) (fv := fv) (d := d + 3) (r := r) (rr := rr) (I := I) (J := up1 J2 110 (fun q => if q < n' then J 109 (60 * a + i' + q) else J 110 q)) (b := b) (j := j') (n := n') (w := w) (g := g) (o := o) (z := z) (P := fun rv2 h2 => h2.1 = 111 + 3 * r ∧ rv2 = some (.int n) ∧ aIn h2) hb6 hJ hob hzz hc ?_ n' 0 (by omega)
    · have e3 : up1 (up1 J2 110 (fun q => if q < n' then J 109 (60 * a + i' + q) else J 110 q)) 109 (fun q => if 60 * b + j' ≤ q ∧ q < 60 * b + j' + 0 then (fun q => if q < n' then J 109 (60 * a + i' + q) else J 110 q) (q - (60 * b + j')) else up1 J2 110 (fun q => if q < n' then J 109 (60 * a + i' + q) else J 110 q) 109 q) = up1 J2 110 (fun q => if q < n' then J 109 (60 * a + i' + q) else J 110 q) := by
        have e1 : (fun q => if 60 * b + j' ≤ q ∧ q < 60 * b + j' + 0 then (fun q => if q < n' then J 109 (60 * a + i' + q) else J 110 q) (q - (60 * b + j')) else up1 J2 110 (fun q => if q < n' then J 109 (60 * a + i' + q) else J 110 q) 109 q) = up1 J2 110 (fun q => if q < n' then J 109 (60 * a + i' + q) else J 110 q) 109 := by funext q; rw [if_neg (by omega)]
        rw [e1]; exact up1_id
      rw [e3] at hrun2
      exact go_sb hrun2 ⟨rfl, rfl, rfl, rfl, rfl, rfl, rfl, trivial⟩ rfl rfl rfl
    · refine ⟨rfl, by rw [hnn], ?_⟩
      have e4 : (fun q => if 60 * b + j' ≤ q ∧ q < 60 * b + j' + n' then (fun q => if q < n' then J 109 (60 * a + i' + q) else J 110 q) (q - (60 * b + j')) else up1 J2 110 (fun q => if q < n' then J 109 (60 * a + i' + q) else J 110 q) 109 q) = (fun q => if 60 * b + j' ≤ q ∧ q < 60 * b + j' + n' then J 109 (60 * a + i' + (q - (60 * b + j'))) else J 109 q) := by
        funext q
        by_cases hq : 60 * b + j' ≤ q ∧ q < 60 * b + j' + n'
        · rw [if_pos hq, if_pos hq]
          dsimp only
          rw [if_pos (by omega)]
        · rw [if_neg hq, if_neg hq, up1_ne (by decide), u109]
      rw [e4]
      exact hfin
end SH
