/-! line, told -/
section LT
variable {L : Nat} {xs : Nat → Int32} {fv : Value} {d : Nat} {r : Nat} {rr : Option Nat} {I : Nat → Nat → Int32} {J : Nat → Nat → Int64} {P : Option Value → aH → Prop}
theorem cl_isRuleN {k : Nat} (g1 : I 77 29 = nI r) (g3 : r ≤ 10) (hk : k < r) (k1 : P (some (.int 1)) (aHp r rr I J)) : aCl L xs fv 111 (d + 2) 127 [.ref 77, .int (nI k)] (aHp r rr I J) P := by
  refine cl_of rfl (Nat.le_add_right _ _) ?_
  refine go_v (cd := cd127) [] 9 rfl ?_
  refine go_callv (cd := cd127) rfl rfl rfl rfl rfl (lv3 rfl) rfl (cl_in (fun hq => ⟨rfl, ?_⟩) (fun hq => absurd ?_ hq))
  · exact go_zreturn (cd := cd127) rfl (Or.inr rfl) k1
  · show 0 ≤ nI k ∧ nI k ≤ I 77 29 - 1
    rw [g1, show (1 : Int32) = nI 1 from rfl, nI_sub (by omega)]
    exact ⟨nI_pos' (by omega), nI_le (by omega) (by omega)⟩
theorem rf_line0 {w g s : Int32} (hG : iG r I) (hn : ¬ ((0 ≤ w ∧ w < nI r) ∧ (0 ≤ g ∧ g < 4) ∧ (-1 ≤ s ∧ s < 6))) (K : P (some (.int (-1))) (aHp r rr I J)) : aCl L xs fv 111 (d + 4) 129 [.ref 77, .int w, .int g, .int s] (aHp r rr I J) P := by
  refine cl_of rfl (Nat.le_add_right _ _) ?_
  refine go_v (cd := cd129) [] 9 rfl ?_
  by_cases hw : 0 ≤ w ∧ w < nI r
  case neg =>
    refine go_callv (cd := cd129) rfl rfl rfl rfl rfl (lv3 rfl) rfl (cl_isRuleF hG hw ⟨rfl, ?_⟩)
    refine go_st (cd := cd129) 1 rfl (go_ifT rfl ?_)
    refine go_v (cd := cd129) [] 9 rfl ?_
    exact go_ireturn (cd := cd129) rfl K
  refine go_callv (cd := cd129) rfl rfl rfl rfl rfl (lv3 rfl) rfl (cl_isRule hG (fun k hk he => ⟨rfl, ?_⟩) (fun hx => absurd hw hx))
  refine go_st (cd := cd129) 1 rfl (go_ifF (by decide) ?_)
  refine go_v (cd := cd129) [] 9 rfl ?_
  by_cases hg : 0 ≤ g ∧ g < 4
  case neg =>
    refine go_callv (cd := cd129) rfl rfl rfl rfl rfl (lv3 rfl) rfl (cl_misWind (fun hx => absurd (show 0 ≤ g ∧ g < 4 by grind) hg) (fun hx => ⟨rfl, ?_⟩))
    refine go_st (cd := cd129) 1 rfl (go_ifT rfl ?_)
    refine go_v (cd := cd129) [] 9 rfl ?_
    exact go_ireturn (cd := cd129) rfl K
  refine go_callv (cd := cd129) rfl rfl rfl rfl rfl (lv3 rfl) rfl (cl_misWind (fun hx => ⟨rfl, ?_⟩) (fun hx => absurd (show 0 ≤ g ∧ g ≤ 3 by grind) hx))
  refine go_st (cd := cd129) 1 rfl (go_ifF (by decide) ?_)
  refine go_v (cd := cd129) [] 9 rfl ?_
  refine go_callv (cd := cd129) rfl rfl rfl rfl rfl (lv3 rfl) rfl (cl_in (fun hx => absurd ⟨hw, hg, (show -1 ≤ s ∧ s < 6 by grind)⟩ hn) (fun hx => ⟨rfl, ?_⟩))
  refine go_st (cd := cd129) 1 rfl (go_ifT rfl ?_)
  refine go_v (cd := cd129) [] 9 rfl ?_
  exact go_ireturn (cd := cd129) rfl K
theorem rf_line1 {k j : Nat} {s : Int32} (g1 : I 77 29 = nI r) (g3 : r ≤ 10) (hk : k < r) (hj : j < 4) (hs : -1 ≤ s ∧ s < 6)
    (KS : ¬ 5 ≤ I 91 k → P (some (.int (-3))) (aHp r rr I J)) (K : 5 ≤ I 91 k → P (some (.int (if I 93 (4 * k + j) < 0 then -5 else I 93 (4 * k + j)))) (aHp r rr (up2 I 93 (4 * k + j) s) J)) : aCl L xs fv 111 (d + 4) 129 [.ref 77, .int (nI k), .int (nI j), .int s] (aHp r rr I J) P := by
  have hj0 : 0 ≤ nI j := nI_pos' (by omega)
  have hj4 : nI j ≤ 3 := nI_le (b := 3) (by omega) (by decide)
  have hkc : (nI k).toNatClampNeg = k := nI_clamp (by omega)
  have hix : 4 * nI k + nI j = nI (4 * k + j) := by
    rw [show (4 : Int32) = nI 4 from rfl, nI_mul, nI_add]
  have hixc : (4 * nI k + nI j).toNatClampNeg = 4 * k + j := by rw [hix]; exact nI_clamp (by omega)
  have hin : vp_in (4 * nI k + nI j) 44 := by rw [hix]; exact nI_vin (by omega) (by decide)
  refine cl_of rfl (Nat.le_add_right _ _) ?_
  refine go_v (cd := cd129) [] 9 rfl ?_
  refine go_callv (cd := cd129) rfl rfl rfl rfl rfl (lv3 rfl) rfl (cl_isRuleN g1 g3 hk ⟨rfl, ?_⟩)
  refine go_st (cd := cd129) 1 rfl (go_ifF (by decide) ?_)
  refine go_v (cd := cd129) [] 9 rfl ?_
  refine go_callv (cd := cd129) rfl rfl rfl rfl rfl (lv3 rfl) rfl (cl_misWind (fun hx => ⟨rfl, ?_⟩) (fun hx => absurd ⟨hj0, hj4⟩ hx))
  refine go_st (cd := cd129) 1 rfl (go_ifF (by decide) ?_)
  refine go_v (cd := cd129) [] 9 rfl ?_
  refine go_callv (cd := cd129) rfl rfl rfl rfl rfl (lv3 rfl) rfl (cl_in (fun hx => ⟨rfl, ?_⟩) (fun hx => absurd (show -1 ≤ s ∧ s ≤ 5 by grind) hx))
  refine go_st (cd := cd129) 1 rfl (go_ifF (by decide) ?_)
  refine go_v (cd := cd129) [] 9 rfl ?_
  refine go_iald (cd := cd129) rfl (nI_vin (n := 11) (by omega) (by decide)) (lv3 rfl) rfl ?_
  rw [hkc]
  refine go_v (cd := cd129) [] 9 rfl ?_
  by_cases hc : 5 ≤ I 91 k
  case neg =>
    refine go_st (cd := cd129) 1 rfl (go_ifF hc ?_)
    refine go_v (cd := cd129) [] 9 rfl ?_
    exact go_ireturn (cd := cd129) rfl (KS hc)
  refine go_st (cd := cd129) 1 rfl (go_ifT hc ?_)
  have K := K hc
  refine go_v (cd := cd129) [] 9 rfl ?_
  refine go_iald (cd := cd129) rfl hin (lv3 rfl) rfl ?_
  rw [hixc]
  refine go_v (cd := cd129) [] 20 rfl ?_
  refine go_iast (cd := cd129) rfl hin (lv3 rfl) rfl ?_
  rw [hixc]
  refine go_v (cd := cd129) [] 9 rfl ?_
  by_cases hz : I 93 (4 * k + j) < 0
  · refine go_st (cd := cd129) 1 rfl (go_ifF (by grind) ?_)
    refine go_v (cd := cd129) [] 9 rfl ?_
    rw [if_pos hz] at K
    exact go_ireturn (cd := cd129) rfl K
  · refine go_st (cd := cd129) 1 rfl (go_ifT (by grind) ?_)
    refine go_v (cd := cd129) [] 9 rfl ?_
    rw [if_neg hz] at K
    exact go_ireturn (cd := cd129) rfl K
theorem rf_told0 {w g s : Int32} (hG : iG r I) (hn : ¬ ((0 ≤ w ∧ w < nI r) ∧ (0 ≤ g ∧ g < 5) ∧ (-1 ≤ s ∧ s < 6))) (K : P (some (.int (-1))) (aHp r rr I J)) : aCl L xs fv 111 (d + 4) 130 [.ref 77, .int w, .int g, .int s] (aHp r rr I J) P := by
  refine cl_of rfl (Nat.le_add_right _ _) ?_
  refine go_v (cd := cd130) [] 9 rfl ?_
  by_cases hw : 0 ≤ w ∧ w < nI r
  case neg =>
    refine go_callv (cd := cd130) rfl rfl rfl rfl rfl (lv3 rfl) rfl (cl_isRuleF hG hw ⟨rfl, ?_⟩)
    refine go_st (cd := cd130) 1 rfl (go_ifT rfl ?_)
    refine go_v (cd := cd130) [] 9 rfl ?_
    exact go_ireturn (cd := cd130) rfl K
  refine go_callv (cd := cd130) rfl rfl rfl rfl rfl (lv3 rfl) rfl (cl_isRule hG (fun k hk he => ⟨rfl, ?_⟩) (fun hx => absurd hw hx))
  refine go_st (cd := cd130) 1 rfl (go_ifF (by decide) ?_)
  refine go_v (cd := cd130) [] 9 rfl ?_
  by_cases hg : 0 ≤ g ∧ g < 5
  case neg =>
    refine go_callv (cd := cd130) rfl rfl rfl rfl rfl (lv3 rfl) rfl (cl_in (fun hx => absurd (show 0 ≤ g ∧ g < 5 by grind) hg) (fun hx => ⟨rfl, ?_⟩))
    refine go_st (cd := cd130) 1 rfl (go_ifT rfl ?_)
    refine go_v (cd := cd130) [] 9 rfl ?_
    exact go_ireturn (cd := cd130) rfl K
  refine go_callv (cd := cd130) rfl rfl rfl rfl rfl (lv3 rfl) rfl (cl_in (fun hx => ⟨rfl, ?_⟩) (fun hx => absurd (show 0 ≤ g ∧ g ≤ 4 by grind) hx))
  refine go_st (cd := cd130) 1 rfl (go_ifF (by decide) ?_)
  refine go_v (cd := cd130) [] 9 rfl ?_
  refine go_callv (cd := cd130) rfl rfl rfl rfl rfl (lv3 rfl) rfl (cl_in (fun hx => absurd ⟨hw, hg, (show -1 ≤ s ∧ s < 6 by grind)⟩ hn) (fun hx => ⟨rfl, ?_⟩))
  refine go_st (cd := cd130) 1 rfl (go_ifT rfl ?_)
  refine go_v (cd := cd130) [] 9 rfl ?_
  exact go_ireturn (cd := cd130) rfl K
theorem rf_told1 {k j : Nat} {s : Int32} (g1 : I 77 29 = nI r) (g3 : r ≤ 10) (hk : k < r) (hj : j < 5) (hs : -1 ≤ s ∧ s < 6)
    (KS : ¬ I 91 k = 6 → P (some (.int (-3))) (aHp r rr I J)) (K : I 91 k = 6 → P (some (.int (if I 94 (5 * k + j) < 0 then -5 else I 94 (5 * k + j)))) (aHp r rr (up2 I 94 (5 * k + j) s) J)) : aCl L xs fv 111 (d + 4) 130 [.ref 77, .int (nI k), .int (nI j), .int s] (aHp r rr I J) P := by
  have hj0 : 0 ≤ nI j := nI_pos' (by omega)
  have hj4 : nI j ≤ 4 := nI_le (b := 4) (by omega) (by decide)
  have hkc : (nI k).toNatClampNeg = k := nI_clamp (by omega)
  have hix : 5 * nI k + nI j = nI (5 * k + j) := by
    rw [show (5 : Int32) = nI 5 from rfl, nI_mul, nI_add]
  have hixc : (5 * nI k + nI j).toNatClampNeg = 5 * k + j := by rw [hix]; exact nI_clamp (by omega)
  have hin : vp_in (5 * nI k + nI j) 55 := by rw [hix]; exact nI_vin (by omega) (by decide)
  refine cl_of rfl (Nat.le_add_right _ _) ?_
  refine go_v (cd := cd130) [] 9 rfl ?_
  refine go_callv (cd := cd130) rfl rfl rfl rfl rfl (lv3 rfl) rfl (cl_isRuleN g1 g3 hk ⟨rfl, ?_⟩)
  refine go_st (cd := cd130) 1 rfl (go_ifF (by decide) ?_)
  refine go_v (cd := cd130) [] 9 rfl ?_
  refine go_callv (cd := cd130) rfl rfl rfl rfl rfl (lv3 rfl) rfl (cl_in (fun hx => ⟨rfl, ?_⟩) (fun hx => absurd ⟨hj0, hj4⟩ hx))
  refine go_st (cd := cd130) 1 rfl (go_ifF (by decide) ?_)
  refine go_v (cd := cd130) [] 9 rfl ?_
  refine go_callv (cd := cd130) rfl rfl rfl rfl rfl (lv3 rfl) rfl (cl_in (fun hx => ⟨rfl, ?_⟩) (fun hx => absurd (show -1 ≤ s ∧ s ≤ 5 by grind) hx))
  refine go_st (cd := cd130) 1 rfl (go_ifF (by decide) ?_)
  refine go_v (cd := cd130) [] 9 rfl ?_
  refine go_iald (cd := cd130) rfl (nI_vin (n := 11) (by omega) (by decide)) (lv3 rfl) rfl ?_
  rw [hkc]
  refine go_v (cd := cd130) [] 9 rfl ?_
  by_cases hc : I 91 k = 6
  case neg =>
    refine go_st (cd := cd130) 1 rfl (go_ifF hc ?_)
    refine go_v (cd := cd130) [] 9 rfl ?_
    exact go_ireturn (cd := cd130) rfl (KS hc)
  refine go_st (cd := cd130) 1 rfl (go_ifT hc ?_)
  have K := K hc
  refine go_v (cd := cd130) [] 9 rfl ?_
  refine go_iald (cd := cd130) rfl hin (lv3 rfl) rfl ?_
  rw [hixc]
  refine go_v (cd := cd130) [] 20 rfl ?_
  refine go_iast (cd := cd130) rfl hin (lv3 rfl) rfl ?_
  rw [hixc]
  refine go_v (cd := cd130) [] 9 rfl ?_
  by_cases hz : I 94 (5 * k + j) < 0
  · refine go_st (cd := cd130) 1 rfl (go_ifF (by grind) ?_)
    refine go_v (cd := cd130) [] 9 rfl ?_
    rw [if_pos hz] at K
    exact go_ireturn (cd := cd130) rfl K
  · refine go_st (cd := cd130) 1 rfl (go_ifT (by grind) ?_)
    refine go_v (cd := cd130) [] 9 rfl ?_
    rw [if_neg hz] at K
    exact go_ireturn (cd := cd130) rfl K
end LT
section PR
variable {L : Nat} {xs : Nat → Int32} {fv : Value} {d : Nat}
set_option maxHeartbeats 4000000 in
theorem pr_line {w g s : Int32} {h : aH} (hi : aIn h) : aPair L xs fv (d + 4) 41 129 [.int w, .int g, .int s] h := by
  obtain ⟨r, rr, A, I, J, rfl, hv⟩ := hi
  have hG := hv.2.2.2.2.2.2.1
  have h10 := hG.2.2.1
  have h29 := hG.2.1
  have hdone := aIn_of hv rr
  refine cl_of rfl (Nat.le_add_right _ _) ?_
  refine go_v (cd := cd41) [] 9 rfl ?_
  refine go_callv (cd := cd41) rfl rfl rfl rfl rfl (lv3 rfl) rfl (cl_ruleOf hG (fun k hk he => ⟨rfl, ?_⟩) (fun hq => ⟨rfl, ?_⟩))
  case refine_2 =>
    refine go_v (cd := cd41) [] 20 rfl ?_
    exact go_ireturn (cd := cd41) rfl ⟨Or.inl rfl, _, rfl, rf_line0 hG (fun h => hq h.1) ⟨rfl, rfl, hdone⟩⟩
  subst he
  have hl := rlq_of hG hk
  have hk10 := hl.1
  have hk1 := hl.2.2.2.1
  refine go_v (cd := cd41) [] 20 rfl ?_
  refine go_calls (cd := cd41) rfl rfl rfl rfl rfl (cl_isWind (fun hq => ⟨rfl, ?_⟩) (fun hq => ⟨rfl, ?_⟩))
  case refine_2 =>
    refine go_st (cd := cd41) 1 rfl (go_ifT rfl ?_)
    refine go_v (cd := cd41) [] 9 rfl ?_
    exact go_ireturn (cd := cd41) rfl ⟨Or.inl rfl, _, rfl, rf_line0 hG (fun h => hq h.2.1) ⟨rfl, rfl, hdone⟩⟩
  refine go_st (cd := cd41) 1 rfl (go_ifF (by decide) ?_)
  refine go_v (cd := cd41) [] 9 rfl ?_
  refine go_calls (cd := cd41) rfl rfl rfl rfl rfl (cl_isTellable (fun hs => ⟨rfl, ?_⟩) (fun hs => ⟨rfl, ?_⟩))
  case refine_2 =>
    refine go_st (cd := cd41) 1 rfl (go_ifT rfl ?_)
    refine go_v (cd := cd41) [] 9 rfl ?_
    exact go_ireturn (cd := cd41) rfl ⟨Or.inl rfl, _, rfl, rf_line0 hG (fun h => hs h.2.2) ⟨rfl, rfl, hdone⟩⟩
  refine go_st (cd := cd41) 1 rfl (go_ifF (by decide) ?_)
  obtain ⟨j, hj, rfl, hjc⟩ := nI_ex (s := g) (n := 4) 4 rfl hq.1 hq.2
  obtain ⟨hb1, hb2, hb3⟩ := (hG.2.2.2 k hk).2.2.2.2.2.2.2.1 j hj
  have hin : vp_in (nI j) (akd L (112 + 3 * k)).2 := ru_in1 hk10 (nI_pos' (by omega)) (nI_lt (b := 4) hj (by decide))
  have hkind : aVal (aHp r rr I J) 0 (111 + 3 * k) 1 = .int (I 91 k) := congrArg Value.int hk1
  have hmain : 5 ≤ I 91 k → aTo L xs fv 111 (d + 3) cd41 (50, [(4, .ref (111 + 3 * k)), (0, .ref 0), (1, .int (nI k)), (2, .int (nI j)), (3, .int s)], [], aHp r rr I J) (fun rv h1 => (h1.1 = (aHp r rr I J).1 ∨ 41 = 41) ∧ ∃ v, rv = some v ∧ aCl L xs fv 111 (d + 4) 129 (.ref 77 :: [.int (nI k), .int (nI j), .int s]) h1 (fun rv2 h2 => h2.1 = h1.1 ∧ rv2 = some v ∧ aIn h2)) := fun hc => by
    refine go_v (cd := cd41) [52] 9 rfl ?_
    refine go_getR (cd := cd41) rfl (ru_lt hk) (ru_k hk10) (aRf_ru hk).1 ?_
    refine go_v (cd := cd41) [] 9 rfl ?_
    refine go_iald (cd := cd41) rfl hin (ru_lt1 hk) (ru_k1 hk10) ?_
    rw [hjc, hb1]
    refine go_v (cd := cd41) [61] 9 rfl ?_
    refine go_getR (cd := cd41) rfl (ru_lt hk) (ru_k hk10) (aRf_ru hk).1 ?_
    refine go_v (cd := cd41) [] 9 rfl ?_
    refine go_iast (cd := cd41) rfl hin (ru_lt1 hk) (ru_k1 hk10) ?_
    rw [hjc]
    have u : ∀ q, q < 111 → up2 I (112 + 3 * k) j s q = I q := fun q hq => up2_ne (by omega)
    have hG' : iG r (up2 (up2 I (112 + 3 * k) j s) 93 (4 * k + j) s) := iG_line hG hj hs.1 (by grind)
    have hin' : aIn (111 + 3 * r, up2 (up2 I (112 + 3 * k) j s) 93 (4 * k + j) s, J, aRf r rr) := aIn_G hv (fun q hq => by rw [up2_ne (by omega), up2_ne (by omega)]) (by rw [up2_ne (by omega), up2_ne (by omega)]) hG'
    generalize hI' : up2 I (112 + 3 * k) j s = I' at *
    have u77 : I' 77 29 = nI r := by rw [u 77 (by decide)]; exact h29
    have u91 : I' 91 k = I 91 k := by rw [u 91 (by decide)]
    have u9 : I' 93 = I 93 := u 93 (by decide)
    refine go_v (cd := cd41) [] 9 rfl ?_
    refine go_calls (cd := cd41) rfl rfl rfl rfl rfl (cl_shown (fun hz => ⟨rfl, ?_⟩) (fun hz => ⟨rfl, ?_⟩))
    · refine go_ireturn (cd := cd41) rfl ⟨Or.inl rfl, _, rfl, ?_⟩
      refine rf_line1 u77 h10 hk hj hs (fun hx => absurd (by rw [u91]; exact hc) hx) (fun _ => ⟨rfl, ?_, hin'⟩)
      rw [u9, if_pos (by rw [hz]; decide)]
    · refine go_ireturn (cd := cd41) rfl ⟨Or.inl rfl, _, rfl, ?_⟩
      refine rf_line1 u77 h10 hk hj hs (fun hx => absurd (by rw [u91]; exact hc) hx) (fun _ => ⟨rfl, ?_, hin'⟩)
      rw [u9, if_neg (by grind)]
  have hneg : ¬ 5 ≤ I 91 k → aCl L xs fv 111 (d + 4) 129 [.ref 77, .int (nI k), .int (nI j), .int s] (aHp r rr I J) (fun rv2 h2 => h2.1 = 111 + 3 * r ∧ rv2 = some (.int (-3)) ∧ aIn h2) := fun hn => rf_line1 h29 h10 hk hj hs (fun _ => ⟨rfl, rfl, hdone⟩) (fun hx => absurd hx hn)
  refine go_v (cd := cd41) [30] 9 rfl ?_
  refine go_get (cd := cd41) rfl (ru_lt hk) (ru_k hk10) ?_
  rw [hkind]
  refine go_v (cd := cd41) [] 9 rfl ?_
  have hk6 := hl.2.2.2.2.2.1
  by_cases h5 : I 91 k = 5
  · refine go_st (cd := cd41) 1 rfl (go_ifT h5 ?_)
    exact go_sb (hmain (by grind)) ⟨rfl, rfl, rfl, rfl, rfl, trivial⟩ rfl rfl rfl
  · refine go_st (cd := cd41) 1 rfl (go_ifF h5 ?_)
    refine go_v (cd := cd41) [39] 9 rfl ?_
    refine go_get (cd := cd41) rfl (ru_lt hk) (ru_k hk10) ?_
    rw [hkind]
    refine go_v (cd := cd41) [] 9 rfl ?_
    by_cases h6 : I 91 k = 6
    · refine go_st (cd := cd41) 1 rfl (go_ifT h6 ?_)
      exact go_sb (hmain (by grind)) ⟨rfl, rfl, rfl, rfl, rfl, trivial⟩ rfl rfl rfl
    · refine go_st (cd := cd41) 1 rfl (go_ifF h6 ?_)
      refine go_v (cd := cd41) [] 9 rfl ?_
      exact go_ireturn (cd := cd41) rfl ⟨Or.inl rfl, _, rfl, hneg (by grind)⟩
set_option maxHeartbeats 4000000 in
theorem pr_told {w g s : Int32} {h : aH} (hi : aIn h) : aPair L xs fv (d + 4) 42 130 [.int w, .int g, .int s] h := by
  obtain ⟨r, rr, A, I, J, rfl, hv⟩ := hi
  have hG := hv.2.2.2.2.2.2.1
  have h10 := hG.2.2.1
  have h29 := hG.2.1
  have hdone := aIn_of hv rr
  refine cl_of rfl (Nat.le_add_right _ _) ?_
  refine go_v (cd := cd42) [] 9 rfl ?_
  refine go_callv (cd := cd42) rfl rfl rfl rfl rfl (lv3 rfl) rfl (cl_ruleOf hG (fun k hk he => ⟨rfl, ?_⟩) (fun hq => ⟨rfl, ?_⟩))
  case refine_2 =>
    refine go_v (cd := cd42) [] 20 rfl ?_
    exact go_ireturn (cd := cd42) rfl ⟨Or.inl rfl, _, rfl, rf_told0 hG (fun h => hq h.1) ⟨rfl, rfl, hdone⟩⟩
  subst he
  have hl := rlq_of hG hk
  have hk10 := hl.1
  have hk1 := hl.2.2.2.1
  refine go_v (cd := cd42) [] 20 rfl ?_
  by_cases hq0 : g < 0
  case pos =>
    refine go_st (cd := cd42) 1 rfl (go_ifT hq0 ?_)
    refine go_v (cd := cd42) [] 9 rfl ?_
    exact go_ireturn (cd := cd42) rfl ⟨Or.inl rfl, _, rfl, rf_told0 hG (fun h => by have := h.2.1; grind) ⟨rfl, rfl, hdone⟩⟩
  refine go_st (cd := cd42) 1 rfl (go_ifF hq0 ?_)
  refine go_v (cd := cd42) [] 9 rfl ?_
  by_cases hq5 : 5 ≤ g
  case pos =>
    refine go_st (cd := cd42) 1 rfl (go_ifT hq5 ?_)
    refine go_v (cd := cd42) [] 9 rfl ?_
    exact go_ireturn (cd := cd42) rfl ⟨Or.inl rfl, _, rfl, rf_told0 hG (fun h => by have := h.2.1; grind) ⟨rfl, rfl, hdone⟩⟩
  refine go_st (cd := cd42) 1 rfl (go_ifF hq5 ?_)
  have hq : 0 ≤ g ∧ g < 5 := by grind
  refine go_v (cd := cd42) [] 9 rfl ?_
  refine go_calls (cd := cd42) rfl rfl rfl rfl rfl (cl_isTellable (fun hs => ⟨rfl, ?_⟩) (fun hs => ⟨rfl, ?_⟩))
  case refine_2 =>
    refine go_st (cd := cd42) 1 rfl (go_ifT rfl ?_)
    refine go_v (cd := cd42) [] 9 rfl ?_
    exact go_ireturn (cd := cd42) rfl ⟨Or.inl rfl, _, rfl, rf_told0 hG (fun h => hs h.2.2) ⟨rfl, rfl, hdone⟩⟩
  refine go_st (cd := cd42) 1 rfl (go_ifF (by decide) ?_)
  obtain ⟨j, hj, rfl, hjc⟩ := nI_ex (s := g) (n := 5) 5 rfl hq.1 hq.2
  obtain ⟨hb1, hb2, hb3⟩ := (hG.2.2.2 k hk).2.2.2.2.2.2.2.2 j hj
  have hin : vp_in (nI j) (akd L (113 + 3 * k)).2 := ru_in2 hk10 (nI_pos' (by omega)) (nI_lt (b := 5) hj (by decide))
  have hkind : aVal (aHp r rr I J) 0 (111 + 3 * k) 1 = .int (I 91 k) := congrArg Value.int hk1
  have hmain : I 91 k = 6 → aTo L xs fv 111 (d + 3) cd42 (43, [(4, .ref (111 + 3 * k)), (0, .ref 0), (1, .int (nI k)), (2, .int (nI j)), (3, .int s)], [], aHp r rr I J) (fun rv h1 => (h1.1 = (aHp r rr I J).1 ∨ 42 = 41) ∧ ∃ v, rv = some v ∧ aCl L xs fv 111 (d + 4) 130 (.ref 77 :: [.int (nI k), .int (nI j), .int s]) h1 (fun rv2 h2 => h2.1 = h1.1 ∧ rv2 = some v ∧ aIn h2)) := fun hc => by
    refine go_v (cd := cd42) [45] 9 rfl ?_
    refine go_getR (cd := cd42) rfl (ru_lt hk) (ru_k hk10) (aRf_ru hk).2 ?_
    refine go_v (cd := cd42) [] 9 rfl ?_
    refine go_iald (cd := cd42) rfl hin (ru_lt2 hk) (ru_k2 hk10) ?_
    rw [hjc, hb1]
    refine go_v (cd := cd42) [54] 9 rfl ?_
    refine go_getR (cd := cd42) rfl (ru_lt hk) (ru_k hk10) (aRf_ru hk).2 ?_
    refine go_v (cd := cd42) [] 9 rfl ?_
    refine go_iast (cd := cd42) rfl hin (ru_lt2 hk) (ru_k2 hk10) ?_
    rw [hjc]
    have u : ∀ q, q < 111 → up2 I (113 + 3 * k) j s q = I q := fun q hq => up2_ne (by omega)
    have hG' : iG r (up2 (up2 I (113 + 3 * k) j s) 94 (5 * k + j) s) := iG_told hG hj hs.1 (by grind)
    have hin' : aIn (111 + 3 * r, up2 (up2 I (113 + 3 * k) j s) 94 (5 * k + j) s, J, aRf r rr) := aIn_G hv (fun q hq => by rw [up2_ne (by omega), up2_ne (by omega)]) (by rw [up2_ne (by omega), up2_ne (by omega)]) hG'
    generalize hI' : up2 I (113 + 3 * k) j s = I' at *
    have u77 : I' 77 29 = nI r := by rw [u 77 (by decide)]; exact h29
    have u91 : I' 91 k = I 91 k := by rw [u 91 (by decide)]
    have u9 : I' 94 = I 94 := u 94 (by decide)
    refine go_v (cd := cd42) [] 9 rfl ?_
    refine go_calls (cd := cd42) rfl rfl rfl rfl rfl (cl_shown (fun hz => ⟨rfl, ?_⟩) (fun hz => ⟨rfl, ?_⟩))
    · refine go_ireturn (cd := cd42) rfl ⟨Or.inl rfl, _, rfl, ?_⟩
      refine rf_told1 u77 h10 hk hj hs (fun hx => absurd (by rw [u91]; exact hc) hx) (fun _ => ⟨rfl, ?_, hin'⟩)
      rw [u9, if_pos (by rw [hz]; decide)]
    · refine go_ireturn (cd := cd42) rfl ⟨Or.inl rfl, _, rfl, ?_⟩
      refine rf_told1 u77 h10 hk hj hs (fun hx => absurd (by rw [u91]; exact hc) hx) (fun _ => ⟨rfl, ?_, hin'⟩)
      rw [u9, if_neg (by grind)]
  have hneg : ¬ I 91 k = 6 → aCl L xs fv 111 (d + 4) 130 [.ref 77, .int (nI k), .int (nI j), .int s] (aHp r rr I J) (fun rv2 h2 => h2.1 = 111 + 3 * r ∧ rv2 = some (.int (-3)) ∧ aIn h2) := fun hn => rf_told1 h29 h10 hk hj hs (fun _ => ⟨rfl, rfl, hdone⟩) (fun hx => absurd hx hn)
  refine go_v (cd := cd42) [32] 9 rfl ?_
  refine go_get (cd := cd42) rfl (ru_lt hk) (ru_k hk10) ?_
  rw [hkind]
  refine go_v (cd := cd42) [] 9 rfl ?_
  by_cases h6 : I 91 k = 6
  · refine go_st (cd := cd42) 1 rfl (go_ifT h6 ?_)
    exact go_sb (hmain h6) ⟨rfl, rfl, rfl, rfl, rfl, trivial⟩ rfl rfl rfl
  · refine go_st (cd := cd42) 1 rfl (go_ifF h6 ?_)
    refine go_v (cd := cd42) [] 9 rfl ?_
    exact go_ireturn (cd := cd42) rfl ⟨Or.inl rfl, _, rfl, hneg h6⟩
end PR
