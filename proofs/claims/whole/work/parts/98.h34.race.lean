/-! a race is told -/
section RA
variable {L : Nat} {xs : Nat → Int32} {fv : Value} {d : Nat} {r : Nat} {J : Nat → Nat → Int64} {P : Option Value → aH → Prop}
variable {T : Nat → Nat} {len b : Nat} {rr : Option Nat} {I : Nat → Nat → Int32}
theorem isB_f {f : Nat} (hf : f < 5) : isB (30 + 7 * f) := Or.inr ⟨f, hf, rfl⟩
theorem cl_fault (hfv : fv = .null ∨ fv = .ref 3000) (hB : isB b) (hb : 12 ≤ b) (hT : ctx T len I) (K1 : ∀ I' q As, pL T len 10 0 = (q, some As) → phG b I I' → rcC As b I' → rcD As b I' → P (some (.int (-1))) (aHp r (some b) I' J)) (K0 : ∀ I' q, pL T len 10 0 = (q, none) → q ≤ 200 → phG b I I' → P (some (.int (nI q))) (aHp r (some b) I' J)) : aCl L xs fv 111 (d + 15) 9 [.ref 9, .ref b] (aHp r rr I J) P := by
  refine cl_of rfl (Nat.le_add_right _ _) ?_
  refine go_v (cd := cd9) [2] 20 rfl ?_
  refine go_putR (cd := cd9) rfl (lv3 rfl) rfl (isB_lt hB) ?_
  rw [aRf_set]
  refine go_v (cd := cd9) [] 20 rfl ?_
  refine go_callv (cd := cd9) rfl rfl rfl rfl rfl (isB_lt hB) (isB_k hB) (cl_of rfl (Nat.le_add_right _ _) ?_)
  refine go_v (cd := cd1) [2] 20 rfl ?_
  refine go_putI (cd := cd1) rfl (isB_lt hB) (isB_k hB) ?_
  refine go_v (cd := cd1) [7] 20 rfl ?_
  refine go_putI (cd := cd1) rfl (isB_lt hB) (isB_k hB) ?_
  refine go_return (cd := cd1) rfl ⟨rfl, ?_⟩
  refine go_v (cd := cd9) [19] 20 rfl ?_
  show aTo L xs fv 111 _ cd9 (19, _, [], aHp r (some b) (up2 (up2 (up2 I 9 2 0) b 0 0) b 6 0) J) _
  have g1 : phK b I (up2 (up2 (up2 I 9 2 0) b 0 0) b 6 0) 0 := ⟨fun j a c => by rw [up2_ne (by omega), up2_ne (by omega), up2_ne a], fun z a c => by rw [up2_ne (by omega), up2_ne (by omega), up2_42 a], fun z a c => by rw [up2_42 c, up2_42 a, up2_ne (by omega)], by rw [up2_ne (by omega), up2_ne (by omega)]; exact up2_e⟩
  have hA : rdC b [] (up2 (up2 (up2 I 9 2 0) b 0 0) b 6 0) := ⟨by rw [up2_42 (by decide)]; exact up2_e, up2_e, fun c q h => (by cases h), fun j e h => (by cases h)⟩
  generalize up2 (up2 (up2 I 9 2 0) b 0 0) b 6 0 = I1 at *
  have tr : ∀ {I'}, phG b I1 I' → phG b I I' := fun {I'} h => ⟨fun j h1 h2 => (h.1 j h1 h2).trans (g1.1 j h1 (by omega)), fun z h1 h2 => (h.2 z h1 h2).trans (g1.2.1 z h1 h2)⟩
  exact go_sb (cl_text (d := d) hfv hB hb 9 [] 0 I1 P rfl (ctx_phK hb hT g1) (Nat.zero_le _) g1.2.2.2 hA (Nat.le_refl _) (fun c h => (by cases h)) (fun I' q As hr g h1 h2 => K1 I' q As hr (tr g) h1 h2) (fun I' q hr h200 g => K0 I' q hr h200 (tr g))) ⟨rfl, rfl, rfl, trivial⟩ rfl rfl rfl
/-- the text both sides see -/
theorem txt_of (hT : iT I) : ∃ T len, ctx T len I ∧ rtx T len I := by
  obtain ⟨t1, t2, t3, t4⟩ := hT
  obtain ⟨len, hl⟩ : ∃ n, n ≤ 100 ∧ I 77 12 = nI n := nI_of2 (M := 100) (n := 100) rfl (Int32.not_lt.mpr t2) t3
  obtain ⟨hl1, hl2⟩ := hl
  have ht : ∀ p, p < len → ∃ n, n ≤ 255 ∧ I 10 p = nI n := fun p hp => nI_of2 (M := 255) (n := 255) rfl (Int32.not_lt.mpr (t4 p (by omega)).1) (t4 p (by omega)).2.1
  refine ⟨fun p => if p < len then (I 10 p).toNatClampNeg else 999, len, ⟨⟨hl1, fun p hp => ?_, fun p hp => ?_⟩, t1.trans hl2, fun p hp => ?_⟩, ⟨⟨hl1, fun p hp => ?_, fun p hp => ?_⟩, hl2, fun p hp => ?_⟩⟩
  · obtain ⟨n, h1, h2⟩ := ht p hp
    dsimp only
    rw [if_pos hp, h2, nI_clamp (by omega)]; omega
  · exact if_neg (by omega)
  · obtain ⟨n, h1, h2⟩ := ht p hp
    dsimp only
    rw [if_pos hp, h2, nI_clamp (by omega)]
  · obtain ⟨n, h1, h2⟩ := ht p hp
    dsimp only
    rw [if_pos hp, h2, nI_clamp (by omega)]; omega
  · exact if_neg (by omega)
  · obtain ⟨n, h1, h2⟩ := ht p hp
    dsimp only
    rw [if_pos hp, (t4 p (by omega)).2.2, h2, nI_clamp (by omega)]
theorem aRf_11 {f : Nat} (hf : f < 5) : aRf r rr 11 f = some (30 + 7 * f) := by
  match f, hf with
  | 0, _ => rfl
  | 1, _ => rfl
  | 2, _ => rfl
  | 3, _ => rfl
  | 4, _ => rfl
set_option maxHeartbeats 4000000 in
theorem pr_race {h : aH} (hfv : fv = .null ∨ fv = .ref 3000) (hi : aIn h) : aPair L xs fv (d + 16) 37 118 [] h := by
  obtain ⟨r, rr, A, I, J, rfl, hv⟩ := hi
  have hdone := aIn_of hv rr
  have hR := hv.2.1
  have h09 : I 0 9 = I 77 10 := hR.2.2.2.2.2.2.2.2.2.2.2.2.2.2.2
  have h18 : I 1 8 = I 77 11 := hv.1.2.2.2.2.2.2.2.2.1
  have h5 : I 77 10 ≤ 5 := hR.2.2.2.2.2.2.2.2.2.2.2.2.1
  have h0 : 0 ≤ I 77 10 := by
    have a1 := hR.2.2.2.2.2.2.2.2.2.2.1
    have a2 := hR.2.2.2.2.2.2.2.2.2.2.2.1
    grind
  obtain ⟨f, hf5, hf⟩ := nI_of2 (M := 5) (n := 5) rfl (Int32.not_lt.mpr h0) h5
  refine cl_of rfl (Nat.le_add_right _ _) ?_
  refine go_v (cd := cd37) [] 20 rfl ?_
  by_cases hfe : f = 5
  · refine go_st (cd := cd37) 1 rfl (go_ifF (show ¬ I 0 9 < 5 by rw [h09, hf, hfe]; decide) ?_)
    refine go_v (cd := cd37) [] 20 rfl ?_
    refine go_ireturn (cd := cd37) rfl ⟨Or.inl rfl, _, rfl, ?_⟩
    refine cl_of rfl (Nat.le_add_right _ _) ?_
    refine go_v (cd := cd118) [] 20 rfl ?_
    refine go_st (cd := cd118) 1 rfl (go_ifT (show I 77 10 = 5 by rw [hf, hfe]; rfl) ?_)
    refine go_v (cd := cd118) [] 20 rfl ?_
    exact go_ireturn (cd := cd118) rfl ⟨rfl, rfl, hdone⟩
  have hf4 : f < 5 := by omega
  obtain ⟨T, len, hTc, hTr⟩ := txt_of hv.2.2.2.2.2.1
  refine go_st (cd := cd37) 1 rfl (go_ifT (show I 0 9 < 5 by rw [h09, hf]; exact nI_lt (b := 5) hf4 (by decide)) ?_)
  refine go_v (cd := cd37) [] 20 rfl ?_
  show aTo L xs fv 111 _ cd37 (23, _, [.int (I 0 9), .ref 11, .ref 9], aHp r rr I J) _
  rw [h09, hf]
  refine go_aald (cd := cd37) rfl (nI_vin (n := 5) hf4 (by decide)) (lv3 rfl) (show 10 ≤ 10 from Nat.le_refl _) (show 10 ≤ 12 from by decide) ?_
  rw [nI_clamp (show f < 2 ^ 31 by omega), aRf_11 hf4]
  show aTo L xs fv 111 _ cd37 (24, _, [.ref (30 + 7 * f), .ref 9], aHp r rr I J) _
  refine go_callv (cd := cd37) rfl rfl rfl rfl rfl (lv3 rfl) rfl (cl_fault (d := d) hfv (isB_f hf4) (by omega) hTc (fun I1 q As hpl g1 hC1 hD1 => ⟨rfl, ?_⟩) (fun I1 q hpl hq200 g1 => ⟨rfl, ?_⟩))
  · have hwf := pL_le hTc.1 (Nat.zero_le _) hpl (Nat.le_refl _)
    refine go_v (cd := cd37) [] 20 rfl ?_
    refine go_st (cd := cd37) 1 rfl (go_ifT (by decide) ?_)
    have o1 : ∀ j, j ≠ 9 → (j < 30 + 7 * f ∨ 30 + 7 * f + 6 < j) → up2 I1 9 1 0 j = I j := fun j a b => by rw [up2_ne a]; exact g1.1 j a b
    have k91 : up2 I1 9 1 0 9 1 = 0 := up2_e
    have kC : rcC As (30 + 7 * f) (up2 I1 9 1 0) := rcC_c (fun j a b => up2_ne (by omega)) hC1
    have kD : rcD As (30 + 7 * f) (up2 I1 9 1 0) := rcD_c (fun j a b => up2_ne (by omega)) hD1
    show aTo L xs fv 111 _ cd37 (_, _, _, aHp r (some (30 + 7 * f)) (up2 I1 9 1 0) J) _
    generalize up2 I1 9 1 0 = I2 at *
    have e09 : I2 0 9 = nI f := by rw [o1 0 (by decide) (by omega), h09, hf]
    refine go_v (cd := cd37) [56] 20 rfl ?_
    show aTo L xs fv 111 _ cd37 (56, _, [], aHp r (some (30 + 7 * f)) (up2 I2 1 8 (I2 0 9)) J) _
    refine go_v (cd := cd37) [66] 20 rfl ?_
    show aTo L xs fv 111 _ cd37 (66, _, [], aHp r (some (30 + 7 * f)) (up2 (up2 I2 1 8 (I2 0 9)) 0 9 (I2 0 9 + 1)) J) _
    rw [e09, ← nI_succ]
    refine go_v (cd := cd37) [] 20 rfl ?_
    refine go_calls (cd := cd37) rfl rfl rfl rfl rfl (fillI (n := 1152) (by decide) rfl (lv3 rfl) (Nat.le_add_right _ _) ⟨rfl, ?_⟩)
    have o3 : ∀ j, j ≠ 0 → j ≠ 1 → j ≠ 9 → j ≠ 19 → (j < 30 + 7 * f ∨ 30 + 7 * f + 6 < j) → up1 (up2 (up2 I2 1 8 (nI f)) 0 9 (nI (f + 1))) 19 (fun q => if q < 1152 then -1 else up2 (up2 I2 1 8 (nI f)) 0 9 (nI (f + 1)) 19 q) j = I j := fun j a b c e g => by rw [up1_ne e, up2_ne a, up2_ne b]; exact o1 j c g
    have e19 : ∀ q, q < 1152 → up1 (up2 (up2 I2 1 8 (nI f)) 0 9 (nI (f + 1))) 19 (fun q => if q < 1152 then -1 else up2 (up2 I2 1 8 (nI f)) 0 9 (nI (f + 1)) 19 q) 19 q = -1 := fun q hq => by rw [up1_e, if_pos hq]
    have e0 : ∀ z, up1 (up2 (up2 I2 1 8 (nI f)) 0 9 (nI (f + 1))) 19 (fun q => if q < 1152 then -1 else up2 (up2 I2 1 8 (nI f)) 0 9 (nI (f + 1)) 19 q) 0 z = if z = 9 then nI (f + 1) else I 0 z := fun z => by rw [up1_ne (by decide), up2_at, up2_ne (by decide), o1 0 (by decide) (by omega)]
    have e1 : ∀ z, up1 (up2 (up2 I2 1 8 (nI f)) 0 9 (nI (f + 1))) 19 (fun q => if q < 1152 then -1 else up2 (up2 I2 1 8 (nI f)) 0 9 (nI (f + 1)) 19 q) 1 z = if z = 8 then nI f else I 1 z := fun z => by rw [up1_ne (by decide), up2_ne (by decide), up2_at, o1 1 (by decide) (by omega)]
    have e9 : up1 (up2 (up2 I2 1 8 (nI f)) 0 9 (nI (f + 1))) 19 (fun q => if q < 1152 then -1 else up2 (up2 I2 1 8 (nI f)) 0 9 (nI (f + 1)) 19 q) 9 1 = 0 := by rw [up1_ne (by decide), up2_ne (by decide), up2_ne (by decide)]; exact k91
    have jC : rcC As (30 + 7 * f) (up1 (up2 (up2 I2 1 8 (nI f)) 0 9 (nI (f + 1))) 19 (fun q => if q < 1152 then -1 else up2 (up2 I2 1 8 (nI f)) 0 9 (nI (f + 1)) 19 q)) := rcC_c (fun j a b => by rw [up1_ne (by omega), up2_ne (by omega), up2_ne (by omega)]) kC
    have jD : rcD As (30 + 7 * f) (up1 (up2 (up2 I2 1 8 (nI f)) 0 9 (nI (f + 1))) 19 (fun q => if q < 1152 then -1 else up2 (up2 I2 1 8 (nI f)) 0 9 (nI (f + 1)) 19 q)) := rcD_c (fun j a b => by rw [up1_ne (by omega), up2_ne (by omega), up2_ne (by omega)]) kD
    show aTo L xs fv 111 _ cd37 (_, _, _, aHp r (some (30 + 7 * f)) (up1 (up2 (up2 I2 1 8 (nI f)) 0 9 (nI (f + 1))) 19 (fun q => if q < 1152 then -1 else up2 (up2 I2 1 8 (nI f)) 0 9 (nI (f + 1)) 19 q)) J) _
    generalize up1 (up2 (up2 I2 1 8 (nI f)) 0 9 (nI (f + 1))) 19 (fun q => if q < 1152 then -1 else up2 (up2 I2 1 8 (nI f)) 0 9 (nI (f + 1)) 19 q) = X at *
    refine go_v (cd := cd37) [] 20 rfl ?_
    show aTo L xs fv 111 _ cd37 (81, _, [.int (X 1 8)], aHp r (some (30 + 7 * f)) X J) _
    rw [e1 8, if_pos rfl]
    refine go_ireturn (cd := cd37) rfl ⟨Or.inl rfl, _, rfl, ?_⟩
    have x77 : X 77 = I 77 := o3 77 (by decide) (by decide) (by decide) (by decide) (by omega)
    have x80 : X 80 = I 80 := o3 80 (by decide) (by decide) (by decide) (by decide) (by omega)
    refine cl_of rfl (Nat.le_add_right _ _) ?_
    refine go_v (cd := cd118) [] 20 rfl ?_
    refine go_st (cd := cd118) 1 rfl (go_ifF (show ¬ X 77 10 = 5 by rw [x77, hf]; exact fun h => hfe ((nI_eq (b := 5) (by omega) (by decide)).mp h)) ?_)
    refine go_v (cd := cd118) [] 20 rfl ?_
    show aTo L xs fv 111 _ cd118 (16, _, [.int (X 77 10), .ref 77], aHp r (some (30 + 7 * f)) X J) _
    rw [x77, hf]
    refine go_callv (cd := cd118) rfl rfl rfl rfl rfl (lv3 rfl) rfl (rl_goes (d := d + 6) hf4 (rtx_of hTr (by rw [x77]) x80) (fun Z q' A2 hpl2 g2 hR2 => ⟨rfl, ?_⟩) (fun Z q' hpl2 g2 => ?_))
    case refine_2 => rw [hpl] at hpl2; cases congrArg Prod.snd hpl2
    have eA : As = A2 := by rw [hpl] at hpl2; exact Option.some.inj (congrArg Prod.snd hpl2)
    subst eA
    refine go_v (cd := cd118) [] 20 rfl ?_
    refine go_st (cd := cd118) 1 rfl (go_ifF (by decide) ?_)
    refine go_v (cd := cd118) [45] 20 rfl ?_
    show aTo L xs fv 111 _ cd118 (45, _, [], aHp r (some (30 + 7 * f)) (up2 (up2 Z 77 12 0) 77 11 (Z 77 10)) J) _
    have z10 : Z 77 10 = nI f := by rw [g2.2.2.2.2.1 10 (by decide) (by decide) (by decide) (by decide) (by decide), x77, hf]
    rw [z10]
    refine go_v (cd := cd118) [] 20 rfl ?_
    show aTo L xs fv 111 _ cd118 (59, _, [.int (nI f)], aHp r (some (30 + 7 * f)) (up2 (up2 (up2 Z 77 12 0) 77 11 (nI f)) 77 10 (Z 77 10 + 1)) J) _
    rw [z10, ← nI_succ]
    have oW : ∀ j, j ≠ 77 → up2 (up2 (up2 Z 77 12 0) 77 11 (nI f)) 77 10 (nI (f + 1)) j = Z j := fun j hj => by rw [up2_ne hj, up2_ne hj, up2_ne hj]
    have hF : fin (30 + 7 * f) f I (up2 (up2 (up2 Z 77 12 0) 77 11 (nI f)) 77 10 (nI (f + 1))) := by
      refine ⟨fun j a1 a2 a3 a4 a5 a6 a7 => ?_, fun z hz => ?_, fun z hz => ?_, fun z hz => ?_, fun j z a b c => ?_, fun z hz => ?_, fun z hz => ?_, ?_, ?_⟩
      · rw [oW j a5, g2.1 j (by omega)]; exact o3 j a1 a2 a3 a4 a6
      · rw [oW 0 (by decide), g2.1 0 (by omega), e0, if_neg hz]
      · rw [oW 1 (by decide), g2.1 1 (by omega), e1, if_neg hz]
      · rw [oW 81 (by decide), g2.2.1 z hz, o3 81 (by decide) (by decide) (by decide) (by decide) (by omega)]
      · rw [oW j (by omega), g2.2.2.1 j z a b c, o3 j (by omega) (by omega) (by omega) (by omega) (by omega)]
      · rw [oW 87 (by decide), g2.2.2.2.1 z hz, o3 87 (by decide) (by decide) (by decide) (by decide) (by omega)]
      · rw [up2_42 (by omega), up2_42 (by omega), up2_42 (by omega), g2.2.2.2.2.1 z (by omega) (by omega) (by omega) (by omega) (by omega), x77]
      · rw [oW 9 (by decide), g2.1 9 (by omega)]; exact e9
      · rw [up2_42 (by decide), up2_42 (by decide)]; exact up2_e
    refine go_ireturn (cd := cd118) rfl ⟨rfl, rfl, r, some (30 + 7 * f), _, _, J, rfl, fin_good (As := As) hv hf4 hf hF up2_e (by rw [up2_42 (by decide)]; exact up2_e) ?_ ?_ (fun q hq => ?_) hwf ?_ ?_ ?_⟩
    · rw [oW 0 (by decide), g2.1 0 (by omega), e0, if_pos rfl]
    · rw [oW 1 (by decide), g2.1 1 (by omega), e1, if_pos rfl]
    · rw [oW 19 (by decide), g2.1 19 (by omega)]; exact e19 q hq
    · exact rcR_c (oW 81 (by decide)) (oW 82 (by decide)) (oW 83 (by decide)) (oW 84 (by decide)) (oW 85 (by decide)) (oW 86 (by decide)) (oW 87 (by decide)) hR2
    · exact rcC_c (fun j a b => by rw [oW j (by omega), g2.1 j (by omega)]) jC
    · exact rcD_c (fun j a b => by rw [oW j (by omega), g2.1 j (by omega)]) jD
  · refine go_v (cd := cd37) [] 20 rfl ?_
    refine go_st (cd := cd37) 1 rfl (go_ifF (Int32.not_lt.mpr (nI_pos' (by omega))) ?_)
    have o1 : ∀ j, j ≠ 9 → (j < 30 + 7 * f ∨ 30 + 7 * f + 6 < j) → up2 I1 9 1 0 j = I j := fun j a b => by rw [up2_ne a]; exact g1.1 j a b
    have k91 : up2 I1 9 1 0 9 1 = 0 := up2_e
    show aTo L xs fv 111 _ cd37 (_, _, _, aHp r (some (30 + 7 * f)) (up2 I1 9 1 0) J) _
    generalize up2 I1 9 1 0 = X at *
    refine go_v (cd := cd37) [] 20 rfl ?_
    refine go_ireturn (cd := cd37) rfl ⟨Or.inl rfl, _, rfl, ?_⟩
    have x77 : X 77 = I 77 := o1 77 (by decide) (by omega)
    have x80 : X 80 = I 80 := o1 80 (by decide) (by omega)
    refine cl_of rfl (Nat.le_add_right _ _) ?_
    refine go_v (cd := cd118) [] 20 rfl ?_
    refine go_st (cd := cd118) 1 rfl (go_ifF (show ¬ X 77 10 = 5 by rw [x77, hf]; exact fun h => hfe ((nI_eq (b := 5) (by omega) (by decide)).mp h)) ?_)
    refine go_v (cd := cd118) [] 20 rfl ?_
    show aTo L xs fv 111 _ cd118 (16, _, [.int (X 77 10), .ref 77], aHp r (some (30 + 7 * f)) X J) _
    rw [x77, hf]
    refine go_callv (cd := cd118) rfl rfl rfl rfl rfl (lv3 rfl) rfl (rl_goes (d := d + 6) hf4 (rtx_of hTr (by rw [x77]) x80) (fun Z q' A2 hpl2 g2 hR2 => ?_) (fun Z q' hpl2 g2 => ⟨rfl, ?_⟩))
    · rw [hpl] at hpl2; cases congrArg Prod.snd hpl2
    have eq : q = q' := by rw [hpl] at hpl2; exact congrArg Prod.fst hpl2
    subst eq
    refine go_v (cd := cd118) [] 20 rfl ?_
    refine go_st (cd := cd118) 1 rfl (go_ifT rfl ?_)
    refine go_v (cd := cd118) [] 20 rfl ?_
    show aTo L xs fv 111 _ cd118 (36, _, [.int (-10 - Z 77 13)], aHp r (some (30 + 7 * f)) (up2 Z 77 12 0) J) _
    rw [g2.2.2.2.2.2]
    have oW : ∀ j, j ≠ 77 → up2 Z 77 12 0 j = Z j := fun j hj => up2_ne hj
    have hF : fin (30 + 7 * f) f I (up2 Z 77 12 0) := by
      refine ⟨fun j a1 a2 a3 a4 a5 a6 a7 => ?_, fun z hz => ?_, fun z hz => ?_, fun z hz => ?_, fun j z a b c => ?_, fun z hz => ?_, fun z hz => ?_, ?_, ?_⟩
      · rw [oW j a5, g2.1 j (by omega)]; exact o1 j a3 a6
      · rw [oW 0 (by decide), g2.1 0 (by omega), o1 0 (by decide) (by omega)]
      · rw [oW 1 (by decide), g2.1 1 (by omega), o1 1 (by decide) (by omega)]
      · rw [oW 81 (by decide), g2.2.1 z hz, o1 81 (by decide) (by omega)]
      · rw [oW j (by omega), g2.2.2.1 j z a b c, o1 j (by omega) (by omega)]
      · rw [oW 87 (by decide), g2.2.2.2.1 z hz, o1 87 (by decide) (by omega)]
      · rw [up2_42 (by omega), g2.2.2.2.2.1 z (by omega) (by omega) (by omega) (by omega) (by omega), x77]
      · rw [oW 9 (by decide), g2.1 9 (by omega)]; exact k91
      · exact up2_e
    refine go_ireturn (cd := cd118) rfl ⟨rfl, rfl, r, some (30 + 7 * f), A, _, J, rfl, fin_fail hv hf4 hf hF ?_ ?_ ?_ ?_ ?_⟩
    · rw [up2_42 (by decide), g2.2.2.2.2.1 10 (by decide) (by decide) (by decide) (by decide) (by decide), x77]
    · rw [up2_42 (by decide), g2.2.2.2.2.1 11 (by decide) (by decide) (by decide) (by decide) (by decide), x77]
    · rw [oW 0 (by decide), g2.1 0 (by omega), o1 0 (by decide) (by omega)]
    · rw [oW 1 (by decide), g2.1 1 (by omega), o1 1 (by decide) (by omega)]
    · rw [oW 19 (by decide), g2.1 19 (by omega), o1 19 (by decide) (by omega)]
end RA
