/-! the reference reads a clause -/
def phC (f c : Nat) (I I' : Nat → Nat → Int32) (q : Nat) : Prop := (∀ j, (j < 77 ∨ (77 < j ∧ j < 82) ∨ 88 < j) → I' j = I j) ∧ (∀ j z, 82 ≤ j → j ≤ 86 → z ≠ c → I' j z = I j z) ∧ (∀ z, z < 100 * f → I' 87 z = I 87 z) ∧ (∀ z, z ≠ 13 → z ≠ 14 → z ≠ 24 → z ≠ 25 → z ≠ 26 → I' 77 z = I 77 z) ∧ I' 77 13 = nI q
theorem phC_of {f c q : Nat} {I I' : Nat → Nat → Int32} (h : phc c I I' q) : phC f c I I' q := ⟨fun j hj => h.1 j (by omega) (by omega) (by omega), fun j z h1 h2 h3 => by
    by_cases e : j = 82
    · subst e; exact (h.2.1 z h3).1
    · by_cases e2 : j = 84
      · subst e2; exact (h.2.1 z h3).2
      · rw [h.1 j (by omega) e e2], fun z _ => by rw [h.1 87 (by decide) (by decide) (by decide)], fun z a b _ _ _ => h.2.2.1 z a b, h.2.2.2⟩
theorem phC_trans {f c p q : Nat} {I I1 I2 : Nat → Nat → Int32} (h : phC f c I I1 p) (h' : phC f c I1 I2 q) : phC f c I I2 q := ⟨fun j a => (h'.1 j a).trans (h.1 j a), fun j z a b e => (h'.2.1 j z a b e).trans (h.2.1 j z a b e), fun z a => (h'.2.2.1 z a).trans (h.2.2.1 z a), fun z a b c e g => (h'.2.2.2.1 z a b c e g).trans (h.2.2.2.1 z a b c e g), h'.2.2.2.2⟩
theorem rtl_phC {T : Nat → Nat} {len p q f c : Nat} {I I' : Nat → Nat → Int32} (h : rtl T len I p) (h' : phC f c I I' q) : rtl T len I' q := ⟨rtx_of h.1 (h'.2.2.2.1 12 (by decide) (by decide) (by decide) (by decide) (by decide)) (h'.1 80 (by omega)), h'.2.2.2.2⟩
theorem phC_rst {f c q n : Nat} {I I' : Nat → Nat → Int32} {W cs : List Nat} (h : rst f c I I' q W n cs) : phC f c I I' q := by
  obtain ⟨h1, h2, h3, h4, h5, h6, h7, h8, h9, hA⟩ := h
  refine ⟨fun j hj => h1 j (by omega) (by omega) (by omega) (by omega), fun j z a b e => ?_, fun z hz => h8 z hz, fun z a b c e g => h2 z a b c e g, h3⟩
  by_cases ej : j = 86
  · subst ej; exact hA z e
  · rw [h1 j (by omega) ej (by omega) (by omega)]
section RC
variable {L : Nat} {xs : Nat → Int32} {fv : Value} {d : Nat} {r : Nat} {rr : Option Nat} {I : Nat → Nat → Int32} {J : Nat → Nat → Int64} {P : Option Value → aH → Prop}
variable {T : Nat → Nat} {len : Nat} {p c f : Nat} {cs : List Nat}
set_option maxHeartbeats 4000000 in
theorem rl_E (hf : f < 5) (hc50 : c < 50) (hT : rtl T len I p) (hp : p ≤ len) (h24 : I 77 24 = nI (100 * f + cs.length)) (hcs : ∀ j e, cs[j]? = some e → I 87 (100 * f + j) = rcI e) (hl : cs.length ≤ p) (K1 : ∀ I' q ds, pE T 300 (some (false, false)) 0 p = (q, some ds) → phC f c I I' q → I' 82 = I 82 → I' 83 = I 83 → I' 84 = I 84 → I' 85 c = nI (100 * f + cs.length) → I' 86 c = nI (100 * f + (cs ++ ds).length) → I' 77 24 = nI (100 * f + (cs ++ ds).length) → (∀ j e, (cs ++ ds)[j]? = some e → I' 87 (100 * f + j) = rcI e) → P (some (.int 1)) (aHp r rr I' J)) (K0 : ∀ I' q, pE T 300 (some (false, false)) 0 p = (q, none) → phC f c I I' q → P (some (.int 0)) (aHp r rr I' J)) : aCl L xs fv 111 (d + 6) 113 [.ref 77, .int (nI c)] (aHp r rr I J) P := by
  have hl100 := hT.1.1.1
  refine cl_of rfl (Nat.le_add_right _ _) ?_
  refine go_v (cd := cd113) [] 20 rfl ?_
  show aTo L xs fv 111 _ cd113 (19, _, [.int (I 77 24), .int (nI c), .ref 85], aHp r rr (up2 (up2 I 77 25 0) 77 26 0) J) _
  rw [h24]
  refine go_iast (cd := cd113) rfl (nI_vin (n := 50) hc50 (by decide)) (lv3 rfl) rfl ?_
  rw [nI_clamp (show c < 2 ^ 31 by omega)]
  have g1 : phC f c I (up2 (up2 (up2 I 77 25 0) 77 26 0) 85 c (nI (100 * f + cs.length))) p := ⟨fun j hj => by rw [up2_ne (by omega), up2_ne (by omega), up2_ne (by omega)], fun j z a b e => by
      by_cases ej : j = 85
      · subst ej; rw [up2_42 e, up2_ne (by decide), up2_ne (by decide)]
      · rw [up2_ne ej, up2_ne (by omega), up2_ne (by omega)], fun z _ => by rw [up2_ne (by decide), up2_ne (by decide), up2_ne (by decide)], fun z a b c e g => by rw [up2_ne (by decide), up2_42 g, up2_42 e], by rw [up2_ne (by decide), up2_42 (by decide), up2_42 (by decide)]; exact hT.2⟩
  have g2 : rst f c (up2 (up2 (up2 I 77 25 0) 77 26 0) 85 c (nI (100 * f + cs.length))) (up2 (up2 (up2 I 77 25 0) 77 26 0) 85 c (nI (100 * f + cs.length))) p [] 0 cs := ⟨fun _ _ _ _ _ => rfl, fun _ _ _ _ _ _ => rfl, g1.2.2.2.2, by rw [up2_ne (by decide), up2_42 (by decide), up2_42 (by decide)]; exact h24, by rw [up2_ne (by decide), up2_42 (by decide)]; exact up2_e, by rw [up2_ne (by decide)]; exact up2_e, trivial, fun _ _ => rfl, fun j e h => by rw [up2_ne (by decide), up2_ne (by decide), up2_ne (by decide)]; exact hcs j e h, fun _ _ => rfl⟩
  have e82 : up2 (up2 (up2 I 77 25 0) 77 26 0) 85 c (nI (100 * f + cs.length)) 82 = I 82 := by rw [up2_ne (by decide), up2_ne (by decide), up2_ne (by decide)]
  have e83 : up2 (up2 (up2 I 77 25 0) 77 26 0) 85 c (nI (100 * f + cs.length)) 83 = I 83 := by rw [up2_ne (by decide), up2_ne (by decide), up2_ne (by decide)]
  have e84 : up2 (up2 (up2 I 77 25 0) 77 26 0) 85 c (nI (100 * f + cs.length)) 84 = I 84 := by rw [up2_ne (by decide), up2_ne (by decide), up2_ne (by decide)]
  have e85 : up2 (up2 (up2 I 77 25 0) 77 26 0) 85 c (nI (100 * f + cs.length)) 85 c = nI (100 * f + cs.length) := up2_e
  show aTo L xs fv 111 _ cd113 (_, _, _, aHp r rr (up2 (up2 (up2 I 77 25 0) 77 26 0) 85 c (nI (100 * f + cs.length))) J) _
  generalize up2 (up2 (up2 I 77 25 0) 77 26 0) 85 c (nI (100 * f + cs.length)) = I1 at *
  refine go_v (cd := cd113) [22] 20 rfl ?_
  refine go_sb ((r_all hf hc50 (rtl_phC hT g1).1 300).2 (d + 5) 0 p false false [] cs I1 P (by omega) (by omega) hp (Or.inl rfl) (by show cs.length + 0 ≤ p; omega) (by omega) g2 (fun I2 q ds x hr hS h86 hx => ?_) (fun I2 q W' n' cs' hr hS => K0 I2 q hr (phC_trans g1 (phC_rst hS)))) ⟨rfl, rfl, rfl, trivial⟩ rfl rfl rfl
  refine go_v (cd := cd113) [] 20 rfl ?_
  refine go_st (cd := cd113) 1 rfl (go_ifT (show I2 77 25 = 0 from hS.2.2.2.2.1) ?_)
  refine go_v (cd := cd113) [] 20 rfl ?_
  obtain ⟨h1, h2, h3, h4, h5, h6, h7, h8, h9, hA⟩ := hS
  have g3 : phC f c I I2 q := phC_trans g1 (phC_rst (W := []) ⟨h1, h2, h3, h4, h5, h6, h7, h8, h9, hA⟩)
  refine go_zreturn (cd := cd113) rfl (Or.inr rfl) (K1 I2 q ds hr g3 ?_ ?_ ?_ ?_ h86 h4 h9)
  · rw [h1 82 (by decide) (by decide) (by decide) (by decide)]; exact e82
  · rw [h1 83 (by decide) (by decide) (by decide) (by decide)]; exact e83
  · rw [h1 84 (by decide) (by decide) (by decide) (by decide)]; exact e84
  · rw [h1 85 (by decide) (by decide) (by decide) (by decide)]; exact e85
/-- what stands for a clause -/
def rcl (f c : Nat) (cs : List Nat) (q : Cl) (I : Nat → Nat → Int32) : Prop := I 82 c = nI q.1 ∧ I 83 c = nI q.2.1 ∧ (q.1 = 3 → I 84 c = nI q.2.2.1) ∧ (q.1 ≤ 1 → I 85 c = nI (100 * f + cs.length) ∧ I 86 c = nI (100 * f + (cs ++ q.2.2.2).length))
def rcs (f : Nat) (cs : List Nat) (I : Nat → Nat → Int32) : Prop := I 77 24 = nI (100 * f + cs.length) ∧ ∀ j e, cs[j]? = some e → I 87 (100 * f + j) = rcI e
set_option maxHeartbeats 4000000 in
theorem rl_clause (hf : f < 5) (hc50 : c < 50) (hT : rtl T len I p) (hp : p ≤ len) (hcs : rcs f cs I) (hl : cs.length ≤ p) (K1 : ∀ I' q cl, pC T p = (q, some cl) → phC f c I I' q → rcl f c cs cl I' → rcs f (cs ++ cl.2.2.2) I' → P (some (.int 1)) (aHp r rr I' J)) (K0 : ∀ I' q, pC T p = (q, none) → phC f c I I' q → P (some (.int 0)) (aHp r rr I' J)) : aCl L xs fv 111 (d + 7) 116 [.ref 77, .int (nI c)] (aHp r rr I J) P := by
  have hl100 := hT.1.1.1
  obtain ⟨h24, hcs⟩ := hcs
  refine cl_of rfl (Nat.le_add_right _ _) ?_
  refine go_v (cd := cd116) [] 20 rfl ?_
  refine go_callv (cd := cd116) rfl rfl rfl rfl rfl (lv3 rfl) rfl (rl_head (d := d + 2) hc50 hT (by omega) (fun I1 q1 k w hh g1 h82 h84 => ⟨rfl, ?_⟩) (fun I1 q1 hh g1 => ⟨rfl, ?_⟩))
  case refine_2 =>
    refine go_st (cd := cd116) 1 rfl (go_ifT rfl ?_)
    refine go_v (cd := cd116) [] 20 rfl ?_
    refine go_zreturn (cd := cd116) rfl (Or.inl rfl) (K0 I1 q1 ?_ (phC_of g1))
    unfold pC
    rw [hh]
  obtain ⟨a1, a2, a3, a4, a5⟩ := pH_ok hT.1.1 hp hh
  have hT1 := rtl_phc hT g1
  refine go_st (cd := cd116) 1 rfl (go_ifF (by decide) ?_)
  refine go_v (cd := cd116) [] 20 rfl ?_
  refine go_callv (cd := cd116) rfl rfl rfl rfl rfl (lv3 rfl) rfl (rl_num (d := d + 3) hT1 (by omega) (fun I2 v q2 hn g2 h14 => ⟨rfl, ?_⟩) (fun hn => ⟨rfl, ?_⟩))
  case refine_2 =>
    refine go_st (cd := cd116) 1 rfl (go_ifT rfl ?_)
    refine go_v (cd := cd116) [] 20 rfl ?_
    refine go_zreturn (cd := cd116) rfl (Or.inl rfl) (K0 I1 q1 ?_ (phC_of g1))
    unfold pC
    rw [hh]
    dsimp only
    rw [hn]
  obtain ⟨b1, b2, b3⟩ := pN_ok hT.1.1 hn
  refine go_st (cd := cd116) 1 rfl (go_ifF (by decide) ?_)
  refine go_v (cd := cd116) [] 20 rfl ?_
  show aTo L xs fv 111 _ cd116 (26, _, [.int (I2 77 14), .int (nI c), .ref 83], aHp r rr I2 J) _
  rw [h14]
  refine go_iast (cd := cd116) rfl (nI_vin (n := 50) hc50 (by decide)) (lv3 rfl) rfl ?_
  rw [nI_clamp (show c < 2 ^ 31 by omega)]
  have g2' := phC_trans (f := f) (phC_of (f := f) g1) (phC_of (phc_of g2))
  have g3 : phC f c I (up2 I2 83 c (nI v)) q2 := phC_trans g2' ⟨fun j hj => up2_ne (by omega), fun j z a b e => by
      by_cases ej : j = 83
      · subst ej; exact up2_42 e
      · rw [up2_ne ej], fun z _ => by rw [up2_ne (by decide)], fun z _ _ _ _ _ => by rw [up2_ne (by decide)], by rw [up2_ne (by decide)]; exact g2.2.2⟩
  have w82 : up2 I2 83 c (nI v) 82 c = nI k := by rw [up2_ne (by decide), g2.1 82 (by decide)]; exact h82
  have w83 : up2 I2 83 c (nI v) 83 c = nI v := up2_e
  have w84 : k = 3 → up2 I2 83 c (nI v) 84 c = nI w := fun hk => by rw [up2_ne (by decide), g2.1 84 (by decide)]; exact h84 hk
  have w24 : up2 I2 83 c (nI v) 77 24 = nI (100 * f + cs.length) := by rw [up2_ne (by decide), g2.2.1 24 (by decide) (by decide), g1.2.2.1 24 (by decide) (by decide)]; exact h24
  have w87 : ∀ j e, cs[j]? = some e → up2 I2 83 c (nI v) 87 (100 * f + j) = rcI e := fun j e h => by rw [up2_ne (by decide), g2.1 87 (by decide), g1.1 87 (by decide) (by decide) (by decide)]; exact hcs j e h
  show aTo L xs fv 111 _ cd116 (_, _, _, aHp r rr (up2 I2 83 c (nI v)) J) _
  generalize up2 I2 83 c (nI v) = I3 at *
  have hT3 := rtl_phC hT g3
  refine go_v (cd := cd116) [] 20 rfl ?_
  refine go_iald (cd := cd116) rfl (nI_vin (n := 50) hc50 (by decide)) (lv3 rfl) rfl ?_
  rw [nI_clamp (show c < 2 ^ 31 by omega), w82]
  refine go_v (cd := cd116) [] 20 rfl ?_
  by_cases hk : k ≤ 1
  case neg =>
    refine go_st (cd := cd116) 1 rfl (go_ifT (nI_lt (a := 1) (by omega) (by omega)) ?_)
    refine go_v (cd := cd116) [] 20 rfl ?_
    refine go_zreturn (cd := cd116) rfl (Or.inr rfl) (K1 I3 q2 (k, v, w, []) ?_ g3 ⟨w82, w83, w84, fun h => absurd h hk⟩ (by rw [List.append_nil]; exact ⟨w24, w87⟩))
    unfold pC
    rw [hh]
    dsimp only
    rw [hn]
    dsimp only
    rw [if_neg hk]
  refine go_st (cd := cd116) 1 rfl (go_ifF (Int32.not_lt.mpr (nI_le (b := 1) (by omega) (by decide))) ?_)
  refine go_v (cd := cd116) [] 20 rfl ?_
  refine go_callv (cd := cd116) rfl rfl rfl rfl rfl (lv3 rfl) rfl (rl_sign (z := 32) (d := d + 4) hT3 (by omega) rfl (by decide) (fun h I4 g4 => ⟨rfl, ?_⟩) (fun h => ⟨rfl, ?_⟩))
  case refine_2 =>
    refine go_st (cd := cd116) 1 rfl (go_ifT rfl ?_)
    refine go_v (cd := cd116) [] 20 rfl ?_
    refine go_zreturn (cd := cd116) rfl (Or.inl rfl) (K0 I3 q2 ?_ g3)
    unfold pC
    rw [hh]
    dsimp only
    rw [hn]
    dsimp only
    rw [if_pos hk, if_neg h]
  have hq2 := txt_in hT.1.1 h (by decide)
  have g5 := phC_trans g3 (phC_of (phc_of g4))
  have hT4 := rtl_pl hT3 g4
  refine go_st (cd := cd116) 1 rfl (go_ifF (by decide) ?_)
  refine go_v (cd := cd116) [] 20 rfl ?_
  refine go_callv (cd := cd116) rfl rfl rfl rfl rfl (lv3 rfl) rfl (rl_E (d := d) hf hc50 hT4 (by omega) (by rw [g4.2.1 24 (by decide) (by decide)]; exact w24) (fun j e h => by rw [g4.1 87 (by decide)]; exact w87 j e h) (by omega) (fun I5 q5 ds hr g6 z82 z83 z84 z85 z86 z24 z87 => ⟨rfl, ?_⟩) (fun I5 q5 hr g6 => ⟨rfl, ?_⟩))
  · refine go_st (cd := cd116) 1 rfl (go_ifF (by decide) ?_)
    refine go_v (cd := cd116) [] 20 rfl ?_
    refine go_zreturn (cd := cd116) rfl (Or.inr rfl) (K1 I5 q5 (k, v, w, ds) ?_ (phC_trans g5 g6) ⟨by rw [z82, g4.1 82 (by decide)]; exact w82, by rw [z83, g4.1 83 (by decide)]; exact w83, fun h => by rw [z84, g4.1 84 (by decide)]; exact w84 h, fun _ => ⟨z85, z86⟩⟩ ⟨z24, z87⟩)
    unfold pC
    rw [hh]
    dsimp only
    rw [hn]
    dsimp only
    rw [if_pos hk, if_pos h, hr]
  · refine go_st (cd := cd116) 1 rfl (go_ifT rfl ?_)
    refine go_v (cd := cd116) [] 20 rfl ?_
    refine go_zreturn (cd := cd116) rfl (Or.inl rfl) (K0 I5 q5 ?_ (phC_trans g5 g6))
    unfold pC
    rw [hh]
    dsimp only
    rw [hn]
    dsimp only
    rw [if_pos hk, if_pos h, hr]
end RC
