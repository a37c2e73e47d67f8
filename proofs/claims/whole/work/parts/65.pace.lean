/-! the class: which race holds, paces -/
def hbR (x : Int32) : Nat := if x < 0 then 12 else 30 + 7 * x.toNatClampNeg
theorem isB_ne19 {b j : Nat} (h : isB b) (h1 : b ≤ j) (h2 : j < b + 7) : j ≠ 19 := by
  rcases h with rfl | ⟨f, hf, rfl⟩ <;> omega
/-- what stands fixed while the class reckons -/
def wld (A : Nat → List Cl) (W : Wd) (I : Nat → Nat → Int32) : Prop := W.2.2.2 ≤ 6 ∧ I 77 0 = nI W.2.2.2 ∧ (∀ s, s < 6 → I 7 s = nI (W.2.1 s) ∧ I 78 s = nI (W.2.1 s) ∧ W.2.1 s ≤ 9 ∧ I 8 s = nI (W.2.2.1 s) ∧ I 79 s = nI (W.2.2.1 s) ∧ W.2.2.1 s ≤ 9) ∧ W.1 = hol A I ∧ rcWf W.1 ∧ iC A I ∧ I 1 8 = I 77 11 ∧ I 0 9 = I 77 10 ∧ -1 ≤ I 77 11 ∧ I 77 11 < I 77 10 ∧ I 77 10 ≤ 5
theorem rcWf_nil : rcWf [] := ⟨by decide, by decide, fun q hq => absurd hq List.not_mem_nil⟩
theorem hbR_ok {A : Nat → List Cl} {W : Wd} {I : Nat → Nat → Int32} (h : wld A W I) : isB (hbR (I 77 11)) ∧ rcC W.1 (hbR (I 77 11)) I ∧ rcD W.1 (hbR (I 77 11)) I := by
  obtain ⟨-, -, -, h4, -, h6, -, -, h9, hA, hB⟩ := h
  rw [h4]
  unfold hbR hol
  by_cases hx : I 77 11 < 0
  · rw [if_pos hx, if_pos hx]
    exact ⟨Or.inl rfl, h6.2.1, h6.2.2⟩
  · rw [if_neg hx, if_neg hx]
    obtain ⟨f, hf, he, hc⟩ := nI_ex (s := I 77 11) (n := 5) 5 rfl (by grind) (by grind)
    rw [hc]
    obtain ⟨-, -, k1, k2⟩ := h6.1 f hf (by rw [← he]; exact hA)
    exact ⟨Or.inr ⟨f, hf, rfl⟩, k1, k2⟩
section HG
variable {L : Nat} {xs : Nat → Int32} {fv : Value} {d : Nat} {r : Nat} {rr : Option Nat} {I : Nat → Nat → Int32} {J : Nat → Nat → Int64} {P : Option Value → aH → Prop}
variable {A : Nat → List Cl} {W : Wd}
theorem cl_holding (hW : wld A W I) (k : P (some (.ref (hbR (I 77 11)))) (aHp r rr I J)) : aCl L xs fv 111 (d + 1) 74 [.ref 0] (aHp r rr I J) P := by
  refine cl_of rfl (Nat.le_add_right _ _) ?_
  obtain ⟨-, -, -, -, -, -, h7, h8, h9, hA, hB⟩ := hW
  by_cases hx : I 77 11 < 0
  · have hn : I 1 8 < 0 := by rw [h7]; exact hx
    unfold hbR at k
    rw [if_pos hx] at k
    repeat' (first
      | (refine go_v (cd := cd74) [] 300 rfl ?_; try simp (disch := decide) only [av0, av1, av3, up2_e, up2_s, up2_o, up1_e, up1_o])
      | refine go_st (cd := cd74) 1 rfl (go_ifT (by decide) ?_)
      | refine go_st (cd := cd74) 1 rfl (go_ifF (by decide) ?_)
      | refine go_st (cd := cd74) 1 rfl (go_ifT (by assumption) ?_)
      | refine go_st (cd := cd74) 1 rfl (go_ifF (by assumption) ?_)
      | (refine go_st (cd := cd74) 1 rfl (go_if (fun hq => ?_) (fun hq => ?_)))
      | refine go_ireturn (cd := cd74) rfl ?_
      | refine go_zreturn (cd := cd74) rfl (Or.inl rfl) ?_
      | refine go_zreturn (cd := cd74) rfl (Or.inr rfl) ?_
      | refine go_lreturn (cd := cd74) rfl ?_
      | refine go_areturn (cd := cd74) rfl ?_
      | refine go_areturnN (cd := cd74) rfl ?_
      | refine go_return (cd := cd74) rfl ?_
      | refine go_aaldR (cd := cd74) rfl (by rw [h7]; exact vin 5 rfl (by grind) (by grind)) (lv3 rfl) (Nat.le_of_ble_eq_true rfl) (Nat.le_of_ble_eq_true rfl) hR ?_)
    all_goals exact k
  · have hn : ¬ I 1 8 < 0 := by rw [h7]; exact hx
    have hm : ¬ I 0 9 ≤ I 1 8 := by rw [h7, h8]; grind
    obtain ⟨f, hf, he, hc⟩ := nI_ex (s := I 77 11) (n := 5) 5 rfl (by grind) (by grind)
    unfold hbR at k
    rw [if_neg hx, hc] at k
    have hR : aRf r rr 11 (I 1 8).toNatClampNeg = some (30 + 7 * f) := by
      rw [h7, hc]
      match f, hf with
      | 0, _ => rfl
      | 1, _ => rfl
      | 2, _ => rfl
      | 3, _ => rfl
      | 4, _ => rfl
      | f + 5, h => omega
    repeat' (first
      | (refine go_v (cd := cd74) [] 300 rfl ?_; try simp (disch := decide) only [av0, av1, av3, up2_e, up2_s, up2_o, up1_e, up1_o])
      | refine go_st (cd := cd74) 1 rfl (go_ifT (by decide) ?_)
      | refine go_st (cd := cd74) 1 rfl (go_ifF (by decide) ?_)
      | refine go_st (cd := cd74) 1 rfl (go_ifT (by assumption) ?_)
      | refine go_st (cd := cd74) 1 rfl (go_ifF (by assumption) ?_)
      | (refine go_st (cd := cd74) 1 rfl (go_if (fun hq => ?_) (fun hq => ?_)))
      | refine go_ireturn (cd := cd74) rfl ?_
      | refine go_zreturn (cd := cd74) rfl (Or.inl rfl) ?_
      | refine go_zreturn (cd := cd74) rfl (Or.inr rfl) ?_
      | refine go_lreturn (cd := cd74) rfl ?_
      | refine go_areturn (cd := cd74) rfl ?_
      | refine go_areturnN (cd := cd74) rfl ?_
      | refine go_return (cd := cd74) rfl ?_
      | refine go_aaldR (cd := cd74) rfl (by rw [h7]; exact vin 5 rfl (by grind) (by grind)) (lv3 rfl) (Nat.le_of_ble_eq_true rfl) (Nat.le_of_ble_eq_true rfl) hR ?_)
    all_goals exact k
/-- counted by the class, remembered in cell 19 -/
theorem iX_put {c : Nat → Int32} {z s w t : Nat} {x : Int32} (hz : z < 2) (hs : s < 6) (hw : w < 4) (ht : t < 24) (hX : iX A (up1 I 19 c)) (hsl : nI s < I 77 0) (hx : x = nI (spN (hol A I) (I 78 s).toNatClampNeg z s w t)) : iX A (up1 I 19 (fun q => if q = ((z * 6 + s) * 4 + w) * 24 + t then x else c q)) := by
  intro z1 s1 w1 t1 h1 h2 h3 h4
  have h := hX z1 s1 w1 t1 h1 h2 h3 h4
  rw [up1_e] at h ⊢
  by_cases he : ((z1 * 6 + s1) * 4 + w1) * 24 + t1 = ((z * 6 + s) * 4 + w) * 24 + t
  · obtain ⟨rfl, rfl, rfl, rfl⟩ : z1 = z ∧ s1 = s ∧ w1 = w ∧ t1 = t := by omega
    right
    exact ⟨hsl, by rw [if_pos rfl]; exact hx⟩
  · rw [if_neg he]
    exact h
theorem cl_pace {z w h : Nat} {o : Option Nat} {z' s' w' h' : Int32} (hW : wld A W I) (hz' : z' = nI z) (hs' : s' = oI o) (hw' : w' = nI w) (hh' : h' = nI h) (hz : z < 2) (hs : ∀ s, o = some s → s < W.2.2.2) (hw : w < 4) (hh : h < 1000) (c : Nat → Int32) (hX : iX A (up1 I 19 c))
    (k : ∀ c, iX A (up1 I 19 c) → P (some (.int (nI (spO (fun s => SPw W z s w h) o)))) (aHp r rr (up1 I 19 c) J)) : aCl L xs fv 111 (d + 2) 75 [.ref 0, .int z', .int s', .int w', .int h'] (aHp r rr (up1 I 19 c) J) P := by
  refine cl_of rfl (Nat.le_add_right _ _) ?_
  subst hz'; subst hs'; subst hw'; subst hh'
  cases o with
  | none =>
    refine go_v (cd := cd75) [] 9 rfl ?_
    refine go_st (cd := cd75) 1 rfl (go_ifT (by decide) ?_)
    refine go_v (cd := cd75) [] 9 rfl ?_
    exact go_ireturn (cd := cd75) rfl (k c hX)
  | some s =>
    have hsc := hs s rfl
    rw [show oI (some s) = nI s from rfl]
    obtain ⟨w1, w2, w3, w4, w5, w6, w7, w8, w9, wA, wB⟩ := hW
    have hs6 : s < 6 := by omega
    obtain ⟨v1, v2, v3, -⟩ := w3 s hs6
    have hcl : (I 78 s).toNatClampNeg = W.2.1 s := by rw [v2]; exact nI_clamp (by omega)
    have hsl : nI s < I 77 0 := by rw [w2]; exact nI_lt hsc (by omega)
    have hat : ((nI z * 6 + nI s) * 4 + nI w) * 24 + nI (h % 24) = nI (((z * 6 + s) * 4 + w) * 24 + h % 24) := by
      rw [show (6 : Int32) = nI 6 from rfl, show (4 : Int32) = nI 4 from rfl, show (24 : Int32) = nI 24 from rfl, nI_mul, nI_add, nI_mul, nI_add, nI_mul, nI_add]
    have hal : ((z * 6 + s) * 4 + w) * 24 + h % 24 < 1152 := by omega
    have hac : (nI (((z * 6 + s) * 4 + w) * 24 + h % 24)).toNatClampNeg = ((z * 6 + s) * 4 + w) * 24 + h % 24 := nI_clamp (by omega)
    refine go_v (cd := cd75) [] 9 rfl ?_
    refine go_st (cd := cd75) 1 rfl (go_ifF (nI_pos (by omega)) ?_)
    refine go_v (cd := cd75) [] 9 rfl ?_
    refine go_st (cd := cd75) 1 rfl (go_ifT (nI_lt (b := 6) hs6 (by decide)) ?_)
    refine go_v (cd := cd75) [] 9 rfl ?_
    refine go_irem (cd := cd75) rfl (by decide) ?_
    rw [show nI h - nI h / 24 * 24 = nI (h % 24) from nI_rem (b := 24) (by omega) (by decide)]
    refine go_v (cd := cd75) [] 20 rfl ?_
    rw [hat]
    refine go_iald (cd := cd75) rfl (nI_vin (n := 1152) hal (by decide)) (lv3 rfl) rfl ?_
    rw [hac, up1_e]
    refine go_st (cd := cd75) 1 rfl ?_
    have hx := hX z s w (h % 24) hz hs6 hw (by omega)
    rw [up1_e] at hx
    have hSP : spO (fun s => SPw W z s w h) (some s) = spN (hol A I) (I 78 s).toNatClampNeg z s w (h % 24) := by
      rw [hcl, ← w4]; rfl
    by_cases hc : c (((z * 6 + s) * 4 + w) * 24 + h % 24) = -1
    · refine go_ifF (by rw [hc]; decide) ?_
      obtain ⟨hB1, hB2, -⟩ := hbR_ok (A := A) (W := W) (I := I) ⟨w1, w2, w3, w4, w5, w6, w7, w8, w9, wA, wB⟩
      have hW' : wld A W (up1 I 19 c) := ⟨w1, w2, w3, w4, w5, iC_c (I := I) rfl rfl rfl rfl rfl rfl rfl rfl (fun j hj => up1_ne (by omega)) (fun j hj => up1_ne (by omega)) w6, w7, w8, w9, wA, wB⟩
      have hC' : rcC W.1 (hbR (I 77 11)) (up1 I 19 c) := rcC_c (I := I) (fun j h1 h2 => up1_ne (isB_ne19 hB1 h1 h2)) hB2
      have hfin : ∀ m : Nat, m = (if z = 0 then 99 else 100) → aTo L xs fv 111 (d + 1) cd75 (58, [(6, .int (nI (((z * 6 + s) * 4 + w) * 24 + h % 24))), (5, .int (nI (h % 24))), (0, .ref 0), (1, .int (nI z)), (2, .int (nI s)), (3, .int (nI w)), (4, .int (nI h))], [.int (nI m)], aHp r rr (up1 I 19 c) J) P := fun m hm => by
        refine go_v (cd := cd75) [] 20 rfl ?_
        refine go_callv (cd := cd75) rfl rfl rfl rfl rfl (lv3 rfl) rfl (cl_holding hW' ⟨rfl, ?_⟩)
        rw [show up1 I 19 c 77 = I 77 from up1_o rfl]
        refine go_v (cd := cd75) [] 20 rfl ?_
        refine go_iald (cd := cd75) rfl (nI_vin (n := 6) hs6 (by decide)) (lv3 rfl) rfl ?_
        rw [nI_clamp (by omega), show up1 I 19 c 7 = I 7 from up1_o rfl, v1]
        refine go_v (cd := cd75) [] 20 rfl ?_
        refine go_callv (cd := cd75) rfl rfl rfl rfl rfl (isB_lt hB1) (isB_k hB1) (cl_total hC' w5 hB1 rfl rfl rfl rfl rfl hz hs6 v3 hw (by omega) ⟨rfl, ?_⟩)
        refine go_min (cd := cd75) rfl rfl ?_
        have hsm := smA_le w5 (W.2.1 s) z s w (h % 24) W.1.length
        rw [List.take_of_length_le (Nat.le_refl _)] at hsm
        have hlen := w5.1
        have hmin : (if nI (smA W.1 (W.2.1 s) z s w (h % 24)) < nI m then nI (smA W.1 (W.2.1 s) z s w (h % 24)) else nI m) = nI (spN (hol A I) (I 78 s).toNatClampNeg z s w (h % 24)) := by
          rw [hcl, ← w4, nI_ite]
          congr 1
          show _ = min (if z = 0 then 99 else 100) (smA W.1 (W.2.1 s) z s w (h % 24))
          rw [← hm]
          have hi : (nI (smA W.1 (W.2.1 s) z s w (h % 24)) < nI m) ↔ smA W.1 (W.2.1 s) z s w (h % 24) < m := nI_ltI (by omega) (by split at hm <;> omega)
          by_cases hlt : smA W.1 (W.2.1 s) z s w (h % 24) < m
          · rw [if_pos (hi.mpr hlt), Nat.min_eq_right (by omega)]
          · rw [if_neg (fun h => hlt (hi.mp h)), Nat.min_eq_left (by omega)]
        rw [hmin]
        refine go_iast (cd := cd75) rfl (nI_vin (n := 1152) hal (by decide)) (lv3 rfl) rfl ?_
        rw [hac, up21_1]
        refine go_v (cd := cd75) [] 20 rfl ?_
        refine go_iald (cd := cd75) rfl (nI_vin (n := 1152) hal (by decide)) (lv3 rfl) rfl ?_
        rw [hac, up1_e, if_pos rfl, ← hSP]
        refine go_ireturn (cd := cd75) rfl (k _ ?_)
        exact iX_put hz hs6 hw (by omega) hX hsl (congrArg nI hSP)
      have hz2 : z = 0 ∨ z = 1 := by omega
      refine go_v (cd := cd75) [] 9 rfl ?_
      rcases hz2 with rfl | rfl
      · refine go_st (cd := cd75) 1 rfl (go_ifT rfl ?_)
        refine go_v (cd := cd75) [58] 9 rfl ?_
        exact hfin 99 rfl
      · refine go_st (cd := cd75) 1 rfl (go_ifF (by decide) ?_)
        refine go_v (cd := cd75) [58] 9 rfl ?_
        exact hfin 100 rfl
    · have hx2 : c (((z * 6 + s) * 4 + w) * 24 + h % 24) = nI (spN (hol A I) (I 78 s).toNatClampNeg z s w (h % 24)) := (hx.resolve_left hc).2
      refine go_ifT (by rw [hx2]; exact nI_pos' (by have := spN_le (hol A I) (I 78 s).toNatClampNeg z s w (h % 24); split at this <;> omega)) ?_
      refine go_v (cd := cd75) [] 20 rfl ?_
      refine go_iald (cd := cd75) rfl (nI_vin (n := 1152) hal (by decide)) (lv3 rfl) rfl ?_
      rw [hac, up1_e]
      refine go_ireturn (cd := cd75) rfl ?_
      rw [hx2]
      have := k c hX
      rw [hSP] at this
      exact this
end HG
