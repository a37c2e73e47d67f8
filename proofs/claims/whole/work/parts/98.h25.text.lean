/-! the reference reads a text -/
def cdA (A : List Cl) : List Nat := (A.map (fun q => q.2.2.2)).flatten
theorem cdA_snoc (A : List Cl) (c : Cl) : cdA (A ++ [c]) = cdA A ++ c.2.2.2 := by unfold cdA; rw [List.map_append, List.flatten_append]; show _ ++ ([c.2.2.2] : List (List Nat)).flatten = _; rw [List.flatten_singleton]
theorem cdA_take (A : List Cl) (c : Nat) : (cdA (A.take c)).length = stA A c := by unfold cdA stA; rw [List.length_flatten, List.map_map]; rfl
theorem cdA_all (A : List Cl) : (cdA A).length = stA A A.length := by rw [← cdA_take, List.take_length]
theorem take_get {A : List Cl} {c : Nat} {q : Cl} (h : A[c]? = some q) : A.take (c + 1) = A.take c ++ [q] := by rw [List.take_succ, h]; rfl
theorem cdA_get {A : List Cl} {c j e : Nat} {q : Cl} (h : A[c]? = some q) (he : q.2.2.2[j]? = some e) : (cdA A)[stA A c + j]? = some e := by
  have h1 : A = A.take (c + 1) ++ A.drop (c + 1) := (List.take_append_drop _ _).symm
  have h2 : cdA A = cdA (A.take (c + 1)) ++ cdA (A.drop (c + 1)) := by
    conv => lhs; rw [h1]
    unfold cdA; rw [List.map_append, List.flatten_append]
  rw [h2, take_get h, cdA_snoc, List.append_assoc, List.getElem?_append_right (by rw [cdA_take]; omega), cdA_take, Nat.add_sub_cancel_left]
  have hl : j < q.2.2.2.length := (List.getElem?_eq_some_iff.mp he).1
  rw [List.getElem?_append_left hl]; exact he
theorem pL_ok {T : Nat → Nat} {len : Nat} (hT : txt T len) : ∀ {n p q : Nat} {A : List Cl}, p ≤ len → pL T len n p = (q, some A) → q = len ∧ A.length ≤ n ∧ (∀ c ∈ A, clW c) ∧ (cdA A).length + p ≤ len
  | 0, p, q, A, hp, h => by cases congrArg Prod.snd h
  | n + 1, p, q, A, hp, h => by
    unfold pL at h
    cases hc : pC T p with
    | mk q1 o =>
    rw [hc] at h
    cases o with
    | none => cases congrArg Prod.snd h
    | some c =>
      obtain ⟨a1, a2, a3, a4⟩ := pC_ok hT hp hc
      dsimp only at h
      by_cases hl : q1 = len
      · rw [if_pos hl] at h
        have e1 := congrArg Prod.fst h
        have e2 := Option.some.inj (congrArg Prod.snd h)
        dsimp only at e1 e2
        subst e1
        subst e2
        refine ⟨hl, Nat.succ_le_succ (Nat.zero_le _), fun z hz => ?_, ?_⟩
        · rw [List.mem_singleton] at hz; rw [hz]; exact a4
        · show ([c.2.2.2] : List (List Nat)).flatten.length + p ≤ len
          rw [List.flatten_singleton]; omega
      rw [if_neg hl] at h
      by_cases hn : n = 0
      · rw [if_pos hn] at h; cases congrArg Prod.snd h
      rw [if_neg hn] at h
      by_cases h59 : T q1 = 59
      case neg => rw [if_neg h59] at h; cases congrArg Prod.snd h
      rw [if_pos h59] at h
      have := txt_in hT h59 (by decide)
      cases hr : pL T len n (q1 + 1) with
      | mk q2 o2 =>
      rw [hr] at h
      cases o2 with
      | none => cases congrArg Prod.snd h
      | some B =>
        obtain ⟨b1, b2, b3, b4⟩ := pL_ok hT (by omega) hr
        have e1 := congrArg Prod.fst h
        have e2 := Option.some.inj (congrArg Prod.snd h)
        dsimp only at e1 e2
        subst e1
        subst e2
        refine ⟨b1, Nat.succ_le_succ b2, fun z hz => ?_, ?_⟩
        · rcases List.mem_cons.mp hz with e | e
          · rw [e]; exact a4
          · exact b3 z e
        · show (c.2.2.2 ++ cdA B).length + p ≤ len
          rw [List.length_append]; omega
theorem pL_le {T : Nat → Nat} {len : Nat} (hT : txt T len) {n p q : Nat} {A : List Cl} (hp : p ≤ len) (h : pL T len n p = (q, some A)) (hn : n ≤ 10) : rcWf A := by
  obtain ⟨h1, h2, h3, h4⟩ := pL_ok hT hp h
  have := hT.1
  exact ⟨by omega, by rw [← cdA_all]; omega, h3⟩
def rdA (f : Nat) (A : List Cl) (I : Nat → Nat → Int32) : Prop := (∀ c q, A[c]? = some q → rcl f (10 * f + c) (cdA (A.take c)) q I) ∧ rcs f (cdA A) I
theorem rdA_R {f : Nat} {A : List Cl} {I : Nat → Nat → Int32} (h : rdA f A I) (h81 : I 81 f = nI A.length) : rcR A f I := by
  refine ⟨h81, fun c q hq => ?_⟩
  obtain ⟨h1, h2, h3, h4⟩ := h.1 c q hq
  refine ⟨h1, h2, h3, fun hk => ?_⟩
  obtain ⟨h5, h6⟩ := h4 hk
  rw [cdA_take] at h5
  rw [← cdA_snoc, ← take_get hq, cdA_take] at h6
  exact ⟨h5, h6, fun j e he => by rw [Nat.add_assoc]; exact h.2.2 _ e (cdA_get hq he)⟩
theorem rdA_snoc {f p : Nat} {A : List Cl} {cl : Cl} {I I' : Nat → Nat → Int32} (h : rdA f A I) (h1 : phC f (10 * f + A.length) I I' p) (h2 : rcl f (10 * f + A.length) (cdA A) cl I') (h3 : rcs f (cdA A ++ cl.2.2.2) I') : rdA f (A ++ [cl]) I' := by
  refine ⟨fun c q hq => ?_, by rw [cdA_snoc]; exact h3⟩
  have hl := (List.getElem?_eq_some_iff.mp hq).1
  rw [List.length_append] at hl
  have hl : c < A.length + 1 := hl
  by_cases hc : c = A.length
  · subst hc
    rw [List.getElem?_append_right (Nat.le_refl _), Nat.sub_self] at hq
    have e : cl = q := Option.some.inj hq
    subst e
    rw [List.take_append_of_le_length (Nat.le_refl _), List.take_length]
    exact h2
  · rw [List.getElem?_append_left (by omega)] at hq
    rw [List.take_append_of_le_length (by omega)]
    obtain ⟨k1, k2, k3, k4⟩ := h.1 c q hq
    have hh := fun j a b => h1.2.1 j (10 * f + c) a b (by omega)
    exact ⟨by rw [hh 82 (by decide) (by decide)]; exact k1, by rw [hh 83 (by decide) (by decide)]; exact k2, fun z => by rw [hh 84 (by decide) (by decide)]; exact k3 z, fun z => ⟨by rw [hh 85 (by decide) (by decide)]; exact (k4 z).1, by rw [hh 86 (by decide) (by decide)]; exact (k4 z).2⟩⟩
theorem rdA_81 {f : Nat} {A : List Cl} {I : Nat → Nat → Int32} {z : Nat} {v : Int32} (h : rdA f A I) : rdA f A (up2 I 81 z v) := by
  unfold rdA rcl rcs at h ⊢
  rw [up2_ne (show (82 : Nat) ≠ 81 by decide), up2_ne (show (83 : Nat) ≠ 81 by decide), up2_ne (show (84 : Nat) ≠ 81 by decide), up2_ne (show (85 : Nat) ≠ 81 by decide), up2_ne (show (86 : Nat) ≠ 81 by decide), up2_ne (show (87 : Nat) ≠ 81 by decide), up2_ne (show (77 : Nat) ≠ 81 by decide)]
  exact h
def phT (f : Nat) (I I' : Nat → Nat → Int32) (q : Nat) : Prop := (∀ j, (j < 77 ∨ (77 < j ∧ j < 81) ∨ 88 < j) → I' j = I j) ∧ (∀ z, z ≠ f → I' 81 z = I 81 z) ∧ (∀ j z, 82 ≤ j → j ≤ 86 → z < 10 * f → I' j z = I j z) ∧ (∀ z, z < 100 * f → I' 87 z = I 87 z) ∧ (∀ z, z ≠ 13 → z ≠ 14 → z ≠ 24 → z ≠ 25 → z ≠ 26 → I' 77 z = I 77 z) ∧ I' 77 13 = nI q
theorem phT_of {f c q : Nat} {I I' : Nat → Nat → Int32} (hc : 10 * f ≤ c) (h : phC f c I I' q) : phT f I I' q := ⟨fun j hj => h.1 j (by omega), fun z _ => by rw [h.1 81 (by omega)], fun j z a b e => h.2.1 j z a b (by omega), h.2.2.1, h.2.2.2.1, h.2.2.2.2⟩
theorem phT_trans {f p q : Nat} {I I1 I2 : Nat → Nat → Int32} (h : phT f I I1 p) (h' : phT f I1 I2 q) : phT f I I2 q := ⟨fun j a => (h'.1 j a).trans (h.1 j a), fun z a => (h'.2.1 z a).trans (h.2.1 z a), fun j z a b e => (h'.2.2.1 j z a b e).trans (h.2.2.1 j z a b e), fun z a => (h'.2.2.2.1 z a).trans (h.2.2.2.1 z a), fun z a b c e g => (h'.2.2.2.2.1 z a b c e g).trans (h.2.2.2.2.1 z a b c e g), h'.2.2.2.2.2⟩
theorem phT_81 {f q : Nat} {I : Nat → Nat → Int32} {v : Int32} (h : I 77 13 = nI q) : phT f I (up2 I 81 f v) q := ⟨fun j a => up2_ne (by omega), fun z a => up2_42 a, fun j z a b e => by rw [up2_ne (by omega)], fun z a => by rw [up2_ne (by decide)], fun z a b c e g => by rw [up2_ne (by decide)], by rw [up2_ne (by decide)]; exact h⟩
theorem rtl_phT {T : Nat → Nat} {len p q f : Nat} {I I' : Nat → Nat → Int32} (h : rtl T len I p) (h' : phT f I I' q) : rtl T len I' q := ⟨rtx_of h.1 (h'.2.2.2.2.1 12 (by decide) (by decide) (by decide) (by decide) (by decide)) (h'.1 80 (by omega)), h'.2.2.2.2.2⟩
section RT
variable {L : Nat} {xs : Nat → Int32} {fv : Value} {d : Nat} {r : Nat} {rr : Option Nat} {J : Nat → Nat → Int64} {P : Option Value → aH → Prop}
variable {T : Nat → Nat} {len : Nat} {f : Nat}
set_option maxHeartbeats 4000000 in
theorem rl_text (hf : f < 5) : ∀ (n : Nat) (A : List Cl) (p : Nat) (I : Nat → Nat → Int32) (P : Option Value → aH → Prop), A.length + (n + 1) = 10 → rtl T len I p → p ≤ len → rdA f A I → (cdA A).length ≤ p → (∀ I' q As, pL T len (n + 1) p = (q, some As) → phT f I I' q → rdA f (A ++ As) I' → I' 81 f = nI (A ++ As).length → P (some (.int 1)) (aHp r rr I' J)) → (∀ I' q, pL T len (n + 1) p = (q, none) → phT f I I' q → P (some (.int 0)) (aHp r rr I' J)) → aTo L xs fv 111 (d + 8) cd117 (15, [(2, .int (nI A.length)), (0, .ref 77), (1, .int (nI f))], [], aHp r rr I J) P := by
  intro n
  induction n with
  | zero => ?_
  | succ n ih => ?_
  all_goals
    intro A p I P hAn hT hp hA hl K1 K0
    have hl100 := hT.1.1.1
    refine go_v (cd := cd117) [] 20 rfl ?_
    show aTo L xs fv 111 _ cd117 (22, _, [.int (10 * nI f + nI A.length), .ref 77], aHp r rr I J) _
    rw [show (10 : Int32) = nI 10 from rfl, nI_mul, nI_add]
    refine go_callv (cd := cd117) rfl rfl rfl rfl rfl (lv3 rfl) rfl (rl_clause (d := d + 1) (c := 10 * f + A.length) hf (by omega) hT hp hA.2 hl (fun I1 q1 cl hc g1 h1 h2 => ⟨rfl, ?_⟩) (fun I1 q1 hc g1 => ⟨rfl, ?_⟩))
    case refine_2 =>
      refine go_st (cd := cd117) 1 rfl (go_ifT rfl ?_)
      refine go_v (cd := cd117) [] 20 rfl ?_
      refine go_zreturn (cd := cd117) rfl (Or.inl rfl) (K0 I1 q1 ?_ (phT_of (by omega) g1))
      unfold pL
      rw [hc]
    obtain ⟨a1, a2, a3, a4⟩ := pC_ok hT.1.1 hp hc
    have hA1 := rdA_snoc hA g1 h1 h2
    refine go_st (cd := cd117) 1 rfl (go_ifF (by decide) ?_)
    refine go_v (cd := cd117) [] 20 rfl ?_
    show aTo L xs fv 111 _ cd117 (39, _, [.int (nI A.length + 1), .int (nI f), .ref 81], aHp r rr I1 J) _
    rw [← nI_succ]
    refine go_iast (cd := cd117) rfl (nI_vin (n := 5) hf (by decide)) (lv3 rfl) rfl ?_
    rw [nI_clamp (show f < 2 ^ 31 by omega)]
    have hlA : (A ++ [cl]).length = A.length + 1 := List.length_append
    have g2 : phT f I (up2 I1 81 f (nI (A.length + 1))) q1 := phT_trans (phT_of (by omega) g1) (phT_81 g1.2.2.2.2)
    have h81 : up2 I1 81 f (nI (A.length + 1)) 81 f = nI (A.length + 1) := up2_e
    have hA2 : rdA f (A ++ [cl]) (up2 I1 81 f (nI (A.length + 1))) := rdA_81 hA1
    show aTo L xs fv 111 _ cd117 (_, _, _, aHp r rr (up2 I1 81 f (nI (A.length + 1))) J) _
    generalize up2 I1 81 f (nI (A.length + 1)) = I2 at *
    have hT2 := rtl_phT hT g2
    refine go_v (cd := cd117) [] 20 rfl ?_
    have hcA : (cdA (A ++ [cl])).length ≤ q1 := by rw [cdA_snoc, List.length_append]; omega
    by_cases hq : q1 = len
    · refine go_st (cd := cd117) 1 rfl (go_ifT (show I2 77 13 = I2 77 12 by rw [hT2.2, hT2.1.2.1, hq]) ?_)
      refine go_v (cd := cd117) [] 20 rfl ?_
      refine go_zreturn (cd := cd117) rfl (Or.inr rfl) (K1 I2 q1 [cl] ?_ g2 hA2 (by rw [hlA]; exact h81))
      unfold pL
      rw [hc]
      dsimp only
      rw [if_pos hq]
    refine go_st (cd := cd117) 1 rfl (go_ifF (show ¬ I2 77 13 = I2 77 12 by rw [hT2.2, hT2.1.2.1]; exact fun h => hq ((nI_eq (by omega) (by omega)).mp h)) ?_)
    refine go_v (cd := cd117) [] 20 rfl ?_
  · refine go_st (cd := cd117) 1 rfl (go_ifT (show nI (A.length + 1) = 10 by rw [show A.length + 1 = 10 by omega]; rfl) ?_)
    refine go_v (cd := cd117) [] 20 rfl ?_
    refine go_zreturn (cd := cd117) rfl (Or.inl rfl) (K0 I2 q1 ?_ g2)
    unfold pL
    rw [hc]
    dsimp only
    rw [if_neg hq, if_pos rfl]
  · refine go_st (cd := cd117) 1 rfl (go_ifF (show ¬ nI (A.length + 1) = 10 from fun h => by have := (nI_eq (b := 10) (by omega) (by decide)).mp h; omega) ?_)
    refine go_v (cd := cd117) [] 20 rfl ?_
    refine go_callv (cd := cd117) rfl rfl rfl rfl rfl (lv3 rfl) rfl (rl_sign (z := 59) (d := d + 6) hT2 (by omega) rfl (by decide) (fun h I3 g3 => ⟨rfl, ?_⟩) (fun h => ⟨rfl, ?_⟩))
    · have hq2 := txt_in hT.1.1 h (by decide)
      have hcA3 : rdA f (A ++ [cl]) I3 := by
        unfold rdA rcl rcs at hA2 ⊢
        rw [g3.1 82 (by decide), g3.1 83 (by decide), g3.1 84 (by decide), g3.1 85 (by decide), g3.1 86 (by decide), g3.1 87 (by decide), g3.2.1 24 (by decide) (by decide)]
        exact hA2
      have g4 : phT f I I3 (q1 + 1) := phT_trans g2 (phT_of (Nat.le_refl _) (phC_of (phc_of g3)))
      refine go_st (cd := cd117) 1 rfl (go_ifF (by decide) ?_)
      have ih2 := ih (A ++ [cl]) (q1 + 1) I3 P (by rw [hlA]; omega) (rtl_pl hT2 g3) (by omega) hcA3 (by omega) (fun I' q As hr g5 h5 h6 => by
        rw [List.append_assoc] at h5 h6
        refine K1 I' q (cl :: As) ?_ (phT_trans g4 g5) h5 h6
        unfold pL
        rw [hc]
        dsimp only
        rw [if_neg hq, if_neg (by omega), if_pos h, hr]) (fun I' q hr g5 => by
        refine K0 I' q ?_ (phT_trans g4 g5)
        unfold pL
        rw [hc]
        dsimp only
        rw [if_neg hq, if_neg (by omega), if_pos h, hr])
      rw [hlA] at ih2
      exact go_sb ih2 ⟨rfl, rfl, rfl, trivial⟩ rfl rfl rfl
    · refine go_st (cd := cd117) 1 rfl (go_ifT rfl ?_)
      refine go_v (cd := cd117) [] 20 rfl ?_
      refine go_zreturn (cd := cd117) rfl (Or.inl rfl) (K0 I2 q1 ?_ g2)
      unfold pL
      rw [hc]
      dsimp only
      rw [if_neg hq, if_neg (by omega), if_neg h]
theorem rl_goes {I : Nat → Nat → Int32} (hf : f < 5) (hT : rtx T len I) (K1 : ∀ I' q A, pL T len 10 0 = (q, some A) → phT f I I' q → rcR A f I' → P (some (.int 1)) (aHp r rr I' J)) (K0 : ∀ I' q, pL T len 10 0 = (q, none) → phT f I I' q → P (some (.int 0)) (aHp r rr I' J)) : aCl L xs fv 111 (d + 9) 117 [.ref 77, .int (nI f)] (aHp r rr I J) P := by
  refine cl_of rfl (Nat.le_add_right _ _) ?_
  refine go_v (cd := cd117) [15] 20 rfl ?_
  show aTo L xs fv 111 _ cd117 (15, _, [], aHp r rr (up2 (up2 I 77 13 (nI 0)) 77 24 (100 * nI f)) J) _
  rw [show (100 : Int32) = nI 100 from rfl, nI_mul]
  have g1 : phT f I (up2 (up2 I 77 13 (nI 0)) 77 24 (nI (100 * f))) 0 := ⟨fun j a => by rw [up2_ne (by omega), up2_ne (by omega)], fun z a => by rw [up2_ne (by decide), up2_ne (by decide)], fun j z a b e => by rw [up2_ne (by omega), up2_ne (by omega)], fun z a => by rw [up2_ne (by decide), up2_ne (by decide)], fun z a b c e g => by rw [up2_42 c, up2_42 a], by rw [up2_42 (by decide)]; exact up2_e⟩
  have hA : rdA f [] (up2 (up2 I 77 13 (nI 0)) 77 24 (nI (100 * f))) := ⟨fun c q h => (by cases h), up2_e, fun j e h => (by cases h)⟩
  generalize up2 (up2 I 77 13 (nI 0)) 77 24 (nI (100 * f)) = I1 at *
  have hT1 : rtl T len I1 0 := ⟨rtx_of hT (g1.2.2.2.2.1 12 (by decide) (by decide) (by decide) (by decide) (by decide)) (g1.1 80 (by omega)), g1.2.2.2.2.2⟩
  exact go_sb (rl_text (d := d) hf 9 [] 0 I1 P rfl hT1 (Nat.zero_le _) hA (Nat.le_refl _) (fun I' q As hr g2 h1 h2 => K1 I' q As hr (phT_trans g1 g2) (rdA_R h1 h2)) (fun I' q hr g2 => K0 I' q hr (phT_trans g1 g2))) ⟨rfl, rfl, rfl, trivial⟩ rfl rfl rfl
end RT
