/-! the class reads a clause whole -/
section CE
variable {L : Nat} {xs : Nat → Int32} {fv : Value} {d : Nat} {r : Nat} {I : Nat → Nat → Int32} {J : Nat → Nat → Int64} {P : Option Value → aH → Prop}
variable {T : Nat → Nat} {len b : Nat} {p : Nat} {A : List Cl}
theorem aRf9 {r b : Nat} : aRf r (some b) 9 4 = some b := rfl
theorem pP_sp {T : Nat → Nat} {q : Nat} (h1 : 48 ≤ T q ∧ T q ≤ 51) (h2 : T (q + 1) = 32) (h3 : 48 ≤ T (q + 2) ∧ T (q + 2) ≤ 51) (h4 : T (q + 3) = 32) : pP T q = (q + 4, some (3, 4 * (T q - 48) + (T (q + 2) - 48))) := by
  unfold pP
  rw [if_pos h1, if_pos h2, if_pos h3, if_pos h4]
theorem cl_passX {c : Nat} {C : Int32} {I0 : Nat → Nat → Int32} {cs : List Nat} (hb : 12 ≤ b) (hT : ctx T len I0) (hS : cst b I0 I p cs) (hp31 : p < 2 ^ 30) (hC : C = nI c) (hc : c < 128) (K1 : T p = c → P (some (.int 1)) (aHp r (some b) (up2 I 9 2 (nI (p + 1))) J)) (K0 : T p ≠ c → P (some (.int 0)) (aHp r (some b) I J)) : aCl L xs fv 111 (d + 2) 17 [.ref 9, .int C] (aHp r (some b) I J) P := by
  refine cl_of rfl (Nat.le_add_right _ _) ?_
  refine go_v (cd := cd17) [] 20 rfl ?_
  refine go_callv (cd := cd17) rfl rfl rfl rfl rfl (lv3 rfl) rfl (cl_sign hb hT hS hp31 (fun x hx => ⟨rfl, ?_⟩))
  refine go_v (cd := cd17) [] 20 rfl ?_
  by_cases ht : T p = c
  · refine go_st (cd := cd17) 1 rfl (go_ifT ((sg_eq hx hC hc).mpr ht) ?_)
    refine go_v (cd := cd17) [] 20 rfl ?_
    show aTo L xs fv 111 _ cd17 (21, _, [.int 1], aHp r (some b) (up2 I 9 2 (I 9 2 + 1)) J) _
    rw [hS.2.2.2.1, ← nI_succ]
    exact go_zreturn (cd := cd17) rfl (Or.inr rfl) (K1 ht)
  · refine go_st (cd := cd17) 1 rfl (go_ifF (fun h => ht ((sg_eq hx hC hc).mp h)) ?_)
    refine go_v (cd := cd17) [] 20 rfl ?_
    exact go_zreturn (cd := cd17) rfl (Or.inl rfl) (K0 ht)
set_option maxHeartbeats 4000000 in
theorem cl_clause (hfv : fv = .null ∨ fv = .ref 3000) (hB : isB b) (hb : 12 ≤ b) (hT : ctx T len I) (hp : p ≤ len) (h92 : I 9 2 = nI p) (hA : rdC b A I) (hAl : A.length < 10) (hl : (cdA A).length ≤ p) (K1 : ∀ I' q cl, pC T p = (q, some cl) → phK b I I' q → rdC b (A ++ [cl]) I' → P (some (.int 1)) (aHp r (some b) I' J)) (K0 : ∀ I' q, pC T p = (q, none) → phK b I I' q → P (some (.int 0)) (aHp r (some b) I' J)) : aCl L xs fv 111 (d + 14) 10 [.ref 9] (aHp r (some b) I J) P := by
  have hl100 := hT.1.1
  have hS0 := rdC_cst hA h92
  refine cl_of rfl (Nat.le_add_right _ _) ?_
  refine go_v (cd := cd10) [] 20 rfl ?_
  refine go_callv (cd := cd10) rfl rfl rfl rfl rfl (lv3 rfl) rfl (cl_begun (d := d + 11) hb hT hS0 (by omega) ⟨rfl, ?_⟩)
  refine go_v (cd := cd10) [] 20 rfl ?_
  cases hk : wdK (T p) with
  | none =>
    refine go_st (cd := cd10) 1 rfl (go_ifT (by decide) ?_)
    refine go_v (cd := cd10) [] 20 rfl ?_
    refine go_zreturn (cd := cd10) rfl (Or.inl rfl) (K0 I p ?_ (phK_of hS0))
    unfold pC pH
    rw [hk]
  | some k =>
  have hk3 := wdK_le hk
  have hpl : p < len := txt_lt hT.1 (by omega)
  refine go_st (cd := cd10) 1 rfl (go_ifF (Int32.not_lt.mpr (nI_pos' (n := k) (by omega))) ?_)
  refine go_v (cd := cd10) [] 20 rfl ?_
  refine go_calls (cd := cd10) rfl rfl rfl rfl rfl (cl_wordOf (d := d + 12) (w := k) (by omega) ⟨rfl, ?_⟩)
  have hw5 := wdL_len k
  have hpW : ∀ {q : Nat} {bb : Bool}, pW T ((wdL k).drop 0) p = (q, bb) → pW T (wdL k) p = (q, bb) := fun {q bb} h => h
  refine go_callv (cd := cd10) rfl rfl rfl rfl rfl (lv3 rfl) rfl (cl_of rfl (Nat.le_add_right _ _) ?_)
  refine go_v (cd := cd18) [2] 20 rfl ?_
  refine go_sb (cl_word (d := d + 8) (w := k) (len := len) (b := b) (I0 := I) (cs := cdA A) hfv (by omega) hb hT (wdL k).length 0 p I _ (by omega) hS0 (by omega) (fun I1 q1 hr hS1 => ⟨rfl, ?_⟩) (fun I1 q1 hr hS1 => ⟨rfl, ?_⟩)) ⟨rfl, rfl, rfl, trivial⟩ rfl rfl rfl
  case refine_2 =>
    have hr := hpW hr
    refine go_st (cd := cd10) 1 rfl (go_ifT rfl ?_)
    refine go_v (cd := cd10) [] 20 rfl ?_
    refine go_zreturn (cd := cd10) rfl (Or.inl rfl) (K0 I1 q1 ?_ (phK_of hS1))
    unfold pC pH
    rw [hk]
    dsimp only
    rw [hr]
  have hr := hpW hr
  obtain ⟨a1, a2⟩ := pW_ok hT.1 (fun c hc => wdL_lt hc) hp hr
  refine go_st (cd := cd10) 1 rfl (go_ifF (by decide) ?_)
  refine go_v (cd := cd10) [24] 20 rfl ?_
  -- from the number on
  have h79 : ∀ (I2 : Nat → Nat → Int32) (q2 f : Nat), pH T p = (q2, some (k, f)) → cst b I I2 q2 (cdA A) → q2 ≤ len → p + 1 ≤ q2 → aTo L xs fv 111 (d + 13) cd10 (79, [(2, .int (nI f)), (1, .int (nI k)), (0, .ref 9)], [], aHp r (some b) I2 J) P := fun I2 q2 f hh hS2 hq2 hq3 => by
    refine go_v (cd := cd10) [] 20 rfl ?_
    refine go_callv (cd := cd10) rfl rfl rfl rfl rfl (lv3 rfl) rfl (cl_num (d := d + 11) hb hT hS2 (by omega) (fun I3 v q3 hn hS3 h93 => ⟨rfl, ?_⟩) (fun hn => ⟨rfl, ?_⟩))
    case refine_2 =>
      refine go_st (cd := cd10) 1 rfl (go_ifT rfl ?_)
      refine go_v (cd := cd10) [] 20 rfl ?_
      refine go_zreturn (cd := cd10) rfl (Or.inl rfl) (K0 I2 q2 ?_ (phK_of hS2))
      unfold pC
      rw [hh]
      dsimp only
      rw [hn]
    obtain ⟨b1, b2, b3⟩ := pN_ok hT.1 hn
    refine go_st (cd := cd10) 1 rfl (go_ifF (by decide) ?_)
    refine go_v (cd := cd10) [93] 20 rfl ?_
    show aTo L xs fv 111 _ cd10 (93, [(3, .int (I3 9 3)), (2, .int (nI f)), (1, .int (nI k)), (0, .ref 9)], [], aHp r (some b) I3 J) _
    rw [h93]
    have h133 : ∀ (I4 : Nat → Nat → Int32) (q4 z : Nat) (ds : List Nat), cst b I I4 q4 (cdA A ++ ds) → pC T p = (q4, some (k, v, f, ds)) → aTo L xs fv 111 (d + 13) cd10 (133, [(4, .int (nI z)), (3, .int (nI v)), (2, .int (nI f)), (1, .int (nI k)), (0, .ref 9)], [], aHp r (some b) I4 J) P := fun I4 q4 z ds hS4 hc => by
      refine go_v (cd := cd10) [] 20 rfl ?_
      refine go_callv (cd := cd10) rfl rfl rfl rfl rfl (isB_lt hB) (isB_k hB) (cl_close (d := d + 12) (cl := (k, v, f, ds)) hB hb hA hAl hS4 rfl (fun I5 g5 hA5 => ⟨rfl, ?_⟩))
      refine go_v (cd := cd10) [] 20 rfl ?_
      exact go_zreturn (cd := cd10) rfl (Or.inr rfl) (K1 I5 q4 _ hc g5 hA5)
    have h107 : ∀ (I4 : Nat → Nat → Int32), I4 = I3 → k ≤ 1 → aTo L xs fv 111 (d + 13) cd10 (102, [(3, .int (nI v)), (2, .int (nI f)), (1, .int (nI k)), (0, .ref 9)], [], aHp r (some b) I4 J) P := fun I4 e4 hk1 => by
      subst e4
      refine go_v (cd := cd10) [109] 20 rfl ?_
      refine go_sb ?_ (l' := [(4, .int (nI 1)), (3, .int (nI v)), (2, .int (nI f)), (1, .int (nI k)), (0, .ref 9)]) ⟨rfl, rfl, rfl, rfl, rfl, trivial⟩ rfl rfl rfl
      refine go_v (cd := cd10) [] 20 rfl ?_
      refine go_st (cd := cd10) 1 rfl (go_ifF (by decide) ?_)
      refine go_v (cd := cd10) [] 20 rfl ?_
      refine go_callv (cd := cd10) rfl rfl rfl rfl rfl (lv3 rfl) rfl (cl_pass (d := d + 11) (c := 32) hb hT hS3 (by omega) rfl (by decide) (fun h I5 hS5 => ⟨rfl, ?_⟩) (fun h => ⟨rfl, ?_⟩))
      case refine_2 =>
        refine go_st (cd := cd10) 1 rfl (go_ifT rfl ?_)
        refine go_v (cd := cd10) [] 20 rfl ?_
        refine go_zreturn (cd := cd10) rfl (Or.inl rfl) (K0 I4 q3 ?_ (phK_of hS3))
        unfold pC
        rw [hh]
        dsimp only
        rw [hn]
        dsimp only
        rw [if_pos hk1, if_neg h]
      have hq4 := txt_in hT.1 h (by decide)
      refine go_st (cd := cd10) 1 rfl (go_ifF (by decide) ?_)
      refine go_v (cd := cd10) [] 20 rfl ?_
      refine go_callv (cd := cd10) rfl rfl rfl rfl rfl (lv3 rfl) rfl (cl_of rfl (Nat.le_add_right _ _) ?_)
      refine go_v (cd := cd13) [] 20 rfl ?_
      refine go_st (cd := cd13) 1 rfl (go_ifF (by decide) ?_)
      refine go_sb ((c_all hB hb hT 300).2 (d + 12) 4 0 (q3 + 1) 0 0 false false (cdA A) I5 _ rfl (by omega) (by omega) (by omega) ⟨fun h => (by cases h), fun h => absurd h (by decide)⟩ (by omega) (by omega) (show (cdA A).length + 0 + 0 ≤ q3 + 1 by omega) hS5 (fun I6 q6 ds hr6 hS6 => ⟨rfl, ?_⟩) (fun I6 q6 cs' hr6 hS6 => ⟨rfl, ?_⟩)) ⟨rfl, rfl, rfl, trivial⟩ rfl rfl rfl
      · refine go_st (cd := cd10) 1 rfl (go_ifF (by decide) ?_)
        refine h133 I6 q6 1 ds hS6 ?_
        unfold pC
        rw [hh]
        dsimp only
        rw [hn]
        dsimp only
        rw [if_pos hk1, if_pos h, hr6]
      · refine go_st (cd := cd10) 1 rfl (go_ifT rfl ?_)
        refine go_v (cd := cd10) [] 20 rfl ?_
        refine go_zreturn (cd := cd10) rfl (Or.inl rfl) (K0 I6 q6 ?_ (phK_of hS6))
        unfold pC
        rw [hh]
        dsimp only
        rw [hn]
        dsimp only
        rw [if_pos hk1, if_pos h, hr6]
    refine go_v (cd := cd10) [] 20 rfl ?_
    by_cases k0 : k = 0
    · refine go_st (cd := cd10) 1 rfl (go_ifT (by rw [k0]; rfl) ?_)
      exact h107 I3 rfl (by omega)
    refine go_st (cd := cd10) 1 rfl (go_ifF (fun h => k0 ((nI_eq (b := 0) (by omega) (by decide)).mp h)) ?_)
    refine go_v (cd := cd10) [] 20 rfl ?_
    by_cases k1 : k = 1
    · refine go_st (cd := cd10) 1 rfl (go_ifT (by rw [k1]; rfl) ?_)
      exact h107 I3 rfl (by omega)
    refine go_st (cd := cd10) 1 rfl (go_ifF (fun h => k1 ((nI_eq (b := 1) (by omega) (by decide)).mp h)) ?_)
    refine go_v (cd := cd10) [109] 20 rfl ?_
    refine go_sb ?_ (l' := [(4, .int (nI 0)), (3, .int (nI v)), (2, .int (nI f)), (1, .int (nI k)), (0, .ref 9)]) ⟨rfl, rfl, rfl, rfl, rfl, trivial⟩ rfl rfl rfl
    refine go_v (cd := cd10) [] 20 rfl ?_
    refine go_st (cd := cd10) 1 rfl (go_ifT rfl ?_)
    refine h133 I3 q3 0 [] (by rw [List.append_nil]; exact hS3) ?_
    unfold pC
    rw [hh]
    dsimp only
    rw [hn]
    dsimp only
    rw [if_neg (by omega)]
  refine go_sb ?_ (l' := [(2, .int (nI 0)), (1, .int (nI k)), (0, .ref 9)]) ⟨rfl, rfl, rfl, trivial⟩ rfl rfl rfl
  refine go_v (cd := cd10) [] 20 rfl ?_
  by_cases h3 : k = 3
  case neg =>
    refine go_st (cd := cd10) 1 rfl (go_ifF (fun h => h3 ((nI_eq (b := 3) (by omega) (by decide)).mp h)) ?_)
    refine h79 I1 q1 0 ?_ hS1 a2 (by omega)
    unfold pH
    rw [hk]
    dsimp only
    rw [hr]
    dsimp only
    rw [if_neg h3]
  have e0 : pH T p = pP T q1 := by
    unfold pH
    rw [hk]
    dsimp only
    rw [hr]
    exact if_pos h3
  have eC : ∀ q, pP T q1 = (q, none) → pC T p = (q, none) := fun q h => by
    unfold pC
    rw [e0, h]
  refine go_st (cd := cd10) 1 rfl (go_ifT (by rw [h3]; rfl) ?_)
  refine go_v (cd := cd10) [] 20 rfl ?_
  refine go_callv (cd := cd10) rfl rfl rfl rfl rfl (lv3 rfl) rfl (cl_fig (d := d + 11) hb hT hS1 (by omega) (fun c1 I2 hS2 h93 => ⟨rfl, ?_⟩) (fun c1 => ⟨rfl, ?_⟩))
  case refine_2 =>
    refine go_st (cd := cd10) 1 rfl (go_ifT rfl ?_)
    refine go_v (cd := cd10) [] 20 rfl ?_
    refine go_zreturn (cd := cd10) rfl (Or.inl rfl) (K0 I1 q1 (eC _ ?_) (phK_of hS1))
    unfold pP
    rw [if_neg c1]
  refine go_st (cd := cd10) 1 rfl (go_ifF (by decide) ?_)
  refine go_v (cd := cd10) [43] 20 rfl ?_
  show aTo L xs fv 111 _ cd10 (43, [(3, .int (I2 9 3)), (2, .int (nI 0)), (1, .int (nI k)), (0, .ref 9)], [], aHp r (some b) I2 J) _
  rw [h93]
  have h68 : ∀ (I3 : Nat → Nat → Int32) (q3 : Nat), pP T q1 = (q3, none) → cst b I I3 q3 (cdA A) → aTo L xs fv 111 (d + 13) cd10 (68, [(3, .int (nI (T q1 - 48))), (2, .int (nI 0)), (1, .int (nI k)), (0, .ref 9)], [], aHp r (some b) I3 J) P := fun I3 q3 h hS3 => by
    refine go_v (cd := cd10) [] 20 rfl ?_
    exact go_zreturn (cd := cd10) rfl (Or.inl rfl) (K0 I3 q3 (eC _ h) (phK_of hS3))
  refine go_v (cd := cd10) [] 20 rfl ?_
  refine go_callv (cd := cd10) rfl rfl rfl rfl rfl (lv3 rfl) rfl (cl_pass (d := d + 11) (c := 32) hb hT hS2 (by omega) rfl (by decide) (fun c2 I3 hS3 => ⟨rfl, ?_⟩) (fun c2 => ⟨rfl, ?_⟩))
  case refine_2 =>
    refine go_st (cd := cd10) 1 rfl (go_ifT rfl ?_)
    refine h68 I2 (q1 + 1) ?_ hS2
    unfold pP
    rw [if_pos c1, if_neg c2]
  refine go_st (cd := cd10) 1 rfl (go_ifF (by decide) ?_)
  refine go_v (cd := cd10) [] 20 rfl ?_
  refine go_callv (cd := cd10) rfl rfl rfl rfl rfl (lv3 rfl) rfl (cl_fig (d := d + 11) hb hT hS3 (by omega) (fun c3 I4 hS4 h93' => ⟨rfl, ?_⟩) (fun c3 => ⟨rfl, ?_⟩))
  case refine_2 =>
    refine go_st (cd := cd10) 1 rfl (go_ifT rfl ?_)
    refine h68 I3 (q1 + 2) ?_ hS3
    unfold pP
    rw [if_pos c1, if_pos c2, if_neg c3]
  refine go_st (cd := cd10) 1 rfl (go_ifF (by decide) ?_)
  refine go_v (cd := cd10) [] 20 rfl ?_
  refine go_callv (cd := cd10) rfl rfl rfl rfl rfl (lv3 rfl) rfl (cl_passX (d := d + 11) (c := 32) hb hT hS4 (by omega) rfl (by decide) (fun c4 => ⟨rfl, ?_⟩) (fun c4 => ⟨rfl, ?_⟩))
  case refine_2 =>
    refine go_st (cd := cd10) 1 rfl (go_ifT rfl ?_)
    refine h68 I4 (q1 + 3) ?_ hS4
    unfold pP
    rw [if_pos c1, if_pos c2, if_pos c3, if_neg c4]
  have hS5 : cst b I (up2 I4 9 2 (nI (q1 + 3 + 1))) (q1 + 4) (cdA A) := cst_p hb hS4
  have h935 : up2 I4 9 2 (nI (q1 + 3 + 1)) 9 3 = nI (T (q1 + 2) - 48) := by rw [up2_42 (by decide)]; exact h93'
  show aTo L xs fv 111 _ cd10 (_, _, _, aHp r (some b) (up2 I4 9 2 (nI (q1 + 3 + 1))) J) _
  generalize up2 I4 9 2 (nI (q1 + 3 + 1)) = I5 at *
  have hq4 := txt_in hT.1 c4 (by decide)
  refine go_st (cd := cd10) 1 rfl (go_ifF (by decide) ?_)
  refine go_v (cd := cd10) [79] 20 rfl ?_
  show aTo L xs fv 111 _ cd10 (79, [(2, .int (nI (T q1 - 48) * 4 + I5 9 3)), (3, .int (nI (T q1 - 48))), (1, .int (nI k)), (0, .ref 9)], [], aHp r (some b) I5 J) _
  rw [h935, show nI (T q1 - 48) * 4 + nI (T (q1 + 2) - 48) = nI (4 * (T q1 - 48) + (T (q1 + 2) - 48)) from by rw [show (4 : Int32) = nI 4 from rfl, nI_mul, nI_add, Nat.mul_comm]]
  exact go_sb (h79 I5 (q1 + 4) (4 * (T q1 - 48) + (T (q1 + 2) - 48)) (by rw [e0, pP_sp c1 c2 c3 c4, h3]) hS5 (by omega) (by omega)) ⟨rfl, rfl, rfl, trivial⟩ rfl rfl rfl
end CE
