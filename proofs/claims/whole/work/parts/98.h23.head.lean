/-! the reference reads a head, a clause -/
def phc (c : Nat) (I I' : Nat → Nat → Int32) (q : Nat) : Prop := (∀ j, j ≠ 77 → j ≠ 82 → j ≠ 84 → I' j = I j) ∧ (∀ z, z ≠ c → I' 82 z = I 82 z ∧ I' 84 z = I 84 z) ∧ (∀ z, z ≠ 13 → z ≠ 14 → I' 77 z = I 77 z) ∧ I' 77 13 = nI q
theorem phc_of {c q : Nat} {I I' : Nat → Nat → Int32} (h : plc I I' q) : phc c I I' q := ⟨fun j a _ _ => h.1 j a, fun z _ => ⟨by rw [h.1 82 (by decide)], by rw [h.1 84 (by decide)]⟩, h.2.1, h.2.2⟩
theorem phc_trans {c p q : Nat} {I I1 I2 : Nat → Nat → Int32} (h : phc c I I1 p) (h' : phc c I1 I2 q) : phc c I I2 q := ⟨fun j a b e => (h'.1 j a b e).trans (h.1 j a b e), fun z hz => ⟨(h'.2.1 z hz).1.trans (h.2.1 z hz).1, (h'.2.1 z hz).2.trans (h.2.1 z hz).2⟩, fun z a b => (h'.2.2.1 z a b).trans (h.2.2.1 z a b), h'.2.2.2⟩
theorem rtl_phc {T : Nat → Nat} {len p q c : Nat} {I I' : Nat → Nat → Int32} (h : rtl T len I p) (h' : phc c I I' q) : rtl T len I' q := ⟨rtx_of h.1 (h'.2.2.1 12 (by decide) (by decide)) (h'.1 80 (by decide) (by decide) (by decide)), h'.2.2.2⟩
theorem phc_82 {T : Nat → Nat} {len p c : Nat} {I : Nat → Nat → Int32} {v : Int32} (h : rtl T len I p) : phc c I (up2 I 82 c v) p := ⟨fun j _ b _ => up2_ne b, fun z hz => ⟨up2_42 hz, by rw [up2_ne (by decide)]⟩, fun z _ _ => by rw [up2_ne (by decide)], by rw [up2_ne (by decide)]; exact h.2⟩
theorem phc_84 {T : Nat → Nat} {len p c : Nat} {I : Nat → Nat → Int32} {v : Int32} (h : rtl T len I p) : phc c I (up2 I 84 c v) p := ⟨fun j _ _ b => up2_ne b, fun z hz => ⟨by rw [up2_ne (by decide)], up2_42 hz⟩, fun z _ _ => by rw [up2_ne (by decide)], by rw [up2_ne (by decide)]; exact h.2⟩
section RH
variable {L : Nat} {xs : Nat → Int32} {fv : Value} {d : Nat} {r : Nat} {rr : Option Nat} {I : Nat → Nat → Int32} {J : Nat → Nat → Int64} {P : Option Value → aH → Prop}
variable {T : Nat → Nat} {len : Nat} {p c : Nat}
theorem rl_wd {X N : Int32} {l : List Nat} (hN : N = nI l.length) (hX : wdX X l) (hl : l.length ≤ 4) (hT : rtl T len I p) (hp : p + l.length < 2 ^ 29) (K1 : ∀ I' q, pW T (l ++ [32]) p = (q, true) → plc I I' q → P (some (.int 1)) (aHp r rr I' J)) (K0 : ∀ I' q, pW T (l ++ [32]) p = (q, false) → plc I I' q → P (some (.int 0)) (aHp r rr I' J)) : aCl L xs fv 111 (d + 3) 105 [.ref 77, .int X, .int N] (aHp r rr I J) P := by
  subst hN
  refine cl_of rfl (Nat.le_add_right _ _) ?_
  refine go_v (cd := cd105) [4] 20 rfl ?_
  refine go_sb (rl_word (N := nI l.length) l p I P hX hl hT hp (fun I' q b hr hI' => ?_)) ⟨rfl, rfl, rfl, rfl, trivial⟩ rfl rfl rfl
  cases b with
  | true => exact K1 I' q hr hI'
  | false => exact K0 I' q hr hI'
theorem rl_fig (hc50 : c < 50) (hT : rtl T len I p) (hp31 : p < 2 ^ 29) (K1 : 48 ≤ T p ∧ T p ≤ 51 → T (p + 1) = 32 → ∀ I', phc c I I' (p + 2) → I' 82 = I 82 → I' 84 c = 4 * I 84 c + nI (T p - 48) → P (some (.int 1)) (aHp r rr I' J)) (K2 : 48 ≤ T p ∧ T p ≤ 51 → T (p + 1) ≠ 32 → ∀ I', phc c I I' (p + 1) → P (some (.int 0)) (aHp r rr I' J)) (K0 : ¬ (48 ≤ T p ∧ T p ≤ 51) → P (some (.int 0)) (aHp r rr I J)) : aCl L xs fv 111 (d + 3) 114 [.ref 77, .int (nI c)] (aHp r rr I J) P := by
  refine cl_of rfl (Nat.le_add_right _ _) ?_
  refine go_v (cd := cd114) [] 20 rfl ?_
  refine go_callv (cd := cd114) rfl rfl rfl rfl rfl (lv3 rfl) rfl (rl_next hT (by omega) (fun x hx => ⟨rfl, ?_⟩))
  have hi := sg_in (a := 48) (b := 51) (A := 48) (B := 51) hx rfl rfl (by decide) (by decide)
  refine go_v (cd := cd114) [] 20 rfl ?_
  refine go_callv (cd := cd114) rfl rfl rfl rfl rfl (lv3 rfl) rfl (cl_in (fun hq => ⟨rfl, ?_⟩) (fun hq => ⟨rfl, ?_⟩))
  case refine_2 =>
    refine go_st (cd := cd114) 1 rfl (go_ifT rfl ?_)
    refine go_v (cd := cd114) [] 20 rfl ?_
    exact go_zreturn (cd := cd114) rfl (Or.inl rfl) (K0 (fun h => hq (hi.mpr h)))
  have hd := hi.mp hq
  have hxe : x = nI (T p) := by
    rcases hx with h | h
    · exact h.2
    · omega
  refine go_st (cd := cd114) 1 rfl (go_ifF (by decide) ?_)
  refine go_v (cd := cd114) [] 20 rfl ?_
  refine go_iald (cd := cd114) rfl (nI_vin (n := 50) hc50 (by decide)) (lv3 rfl) rfl ?_
  rw [nI_clamp (show c < 2 ^ 31 by omega)]
  refine go_v (cd := cd114) [] 20 rfl ?_
  refine go_callv (cd := cd114) rfl rfl rfl rfl rfl (lv3 rfl) rfl (rl_next hT (by omega) (fun y hy => ⟨rfl, ?_⟩))
  have hye : y = nI (T p) := by
    rcases hy with h | h
    · exact h.2
    · omega
  refine go_v (cd := cd114) [] 20 rfl ?_
  show aTo L xs fv 111 _ cd114 (38, _, [.int (4 * I 84 c + y - 48), .int (nI c), .ref 84], aHp r rr I J) _
  rw [hye, show 4 * I 84 c + nI (T p) - 48 = 4 * I 84 c + nI (T p - 48) from by rw [← nI_sub (a := T p) (b := 48) hd.1]; show _ = 4 * I 84 c + (nI (T p) - 48); grind]
  refine go_iast (cd := cd114) rfl (nI_vin (n := 50) hc50 (by decide)) (lv3 rfl) rfl ?_
  rw [nI_clamp (show c < 2 ^ 31 by omega)]
  have h1 : phc c I (up2 I 84 c (4 * I 84 c + nI (T p - 48))) p := phc_84 hT
  have h84 : up2 I 84 c (4 * I 84 c + nI (T p - 48)) 84 c = 4 * I 84 c + nI (T p - 48) := up2_e
  have h82 : up2 I 84 c (4 * I 84 c + nI (T p - 48)) 82 = I 82 := up2_ne (by decide)
  generalize up2 I 84 c (4 * I 84 c + nI (T p - 48)) = I1 at *
  refine go_v (cd := cd114) [49] 20 rfl ?_
  show aTo L xs fv 111 _ cd114 (49, _, [], aHp r rr (up2 I1 77 13 (I1 77 13 + 1)) J) _
  have hT1 := rtl_phc hT h1
  rw [hT1.2, ← nI_succ]
  have hp2 : plc I1 (up2 I1 77 13 (nI (p + 1))) (p + 1) := pl_p
  generalize up2 I1 77 13 (nI (p + 1)) = I2 at *
  refine go_v (cd := cd114) [] 20 rfl ?_
  refine go_callv (cd := cd114) rfl rfl rfl rfl rfl (lv3 rfl) rfl (rl_sign (z := 32) (rtl_pl hT1 hp2) (by omega) rfl (by decide) (fun h I' hI' => ⟨rfl, ?_⟩) (fun h => ⟨rfl, ?_⟩))
  · have h3 := pl_trans hp2 hI'
    exact go_zreturn (cd := cd114) rfl (Or.inr rfl) (K1 hd h I' (phc_trans h1 (phc_of h3)) ((h3.1 82 (by decide)).trans h82) (by rw [h3.1 84 (by decide)]; exact h84))
  · exact go_zreturn (cd := cd114) rfl (Or.inl rfl) (K2 hd h I2 (phc_trans h1 (phc_of hp2)))
set_option maxHeartbeats 4000000 in
theorem rl_head (hc50 : c < 50) (hT : rtl T len I p) (hp31 : p < 2 ^ 20) (K1 : ∀ I' q k f, pH T p = (q, some (k, f)) → phc c I I' q → I' 82 c = nI k → (k = 3 → I' 84 c = nI f) → P (some (.int 1)) (aHp r rr I' J)) (K0 : ∀ I' q, pH T p = (q, none) → phc c I I' q → P (some (.int 0)) (aHp r rr I' J)) : aCl L xs fv 111 (d + 4) 115 [.ref 77, .int (nI c)] (aHp r rr I J) P := by
  have hpos : p + 4 < 2 ^ 29 := by omega
  have hW : ∀ (k : Nat) (l : List Nat) (X N : Int32) (I1 : Nat → Nat → Int32) (Q : Option Value → aH → Prop), wdK (T p) = some k → k ≠ 3 → wdL k = l ++ [32] → N = nI l.length → wdX X l → l.length ≤ 4 → phc c I I1 p → I1 82 c = nI k → (∀ I', P (some (.int 1)) (aHp r rr I' J) → Q (some (.int 1)) (aHp r rr I' J)) → (∀ I', P (some (.int 0)) (aHp r rr I' J) → Q (some (.int 0)) (aHp r rr I' J)) → aCl L xs fv 111 (d + 3) 105 [.ref 77, .int X, .int N] (aHp r rr I1 J) Q := fun k l X N I1 Q hk hk3 hl hN hX hl4 h1 h82 q1 q0 => by
    refine rl_wd hN hX hl4 (rtl_phc hT h1) (by omega) (fun I' q hr hI' => q1 _ (K1 I' q k 0 ?_ (phc_trans h1 (phc_of hI')) (by rw [hI'.1 82 (by decide)]; exact h82) (fun h => absurd h hk3))) (fun I' q hr hI' => q0 _ (K0 I' q ?_ (phc_trans h1 (phc_of hI'))))
    · unfold pH
      rw [hk]
      dsimp only
      rw [hl, hr]
      dsimp only
      rw [if_neg hk3]
    · unfold pH
      rw [hk]
      dsimp only
      rw [hl, hr]
  refine cl_of rfl (Nat.le_add_right _ _) ?_
  refine go_v (cd := cd115) [] 20 rfl ?_
  refine go_callv (cd := cd115) rfl rfl rfl rfl rfl (lv3 rfl) rfl (rl_next hT (by omega) (fun x hx => ⟨rfl, ?_⟩))
  refine go_lk (cd := cd115) rfl ⟨fun h => ?_, fun h1 => ⟨fun h => ?_, fun h2 => ⟨fun h => ?_, fun h3 => ?_⟩⟩⟩
  · have e := (sg_ti (c := 103) hx rfl (by decide)).mp h
    refine go_v (cd := cd115) [] 20 rfl ?_
    refine go_iast (cd := cd115) rfl (nI_vin (n := 50) hc50 (by decide)) (lv3 rfl) rfl ?_
    rw [nI_clamp (show c < 2 ^ 31 by omega)]
    refine go_v (cd := cd115) [] 20 rfl ?_
    exact go_callv (cd := cd115) rfl rfl rfl rfl rfl (lv3 rfl) rfl (hW 0 [103, 111] 239 2 _ _ (by rw [e]; rfl) (by decide) rfl rfl ⟨by decide, by decide, by decide, by decide, trivial⟩ (by decide) (phc_82 hT) up2_e (fun I' hP => ⟨rfl, go_zreturn (cd := cd115) rfl (Or.inr rfl) hP⟩) (fun I' hP => ⟨rfl, go_zreturn (cd := cd115) rfl (Or.inl rfl) hP⟩))
  · have e := (sg_ti (c := 108) hx rfl (by decide)).mp h
    refine go_v (cd := cd115) [] 20 rfl ?_
    refine go_iast (cd := cd115) rfl (nI_vin (n := 50) hc50 (by decide)) (lv3 rfl) rfl ?_
    rw [nI_clamp (show c < 2 ^ 31 by omega)]
    refine go_v (cd := cd115) [] 20 rfl ?_
    exact go_callv (cd := cd115) rfl rfl rfl rfl rfl (lv3 rfl) rfl (hW 2 [108, 111, 115, 101] 409189 4 _ _ (by rw [e]; rfl) (by decide) rfl rfl ⟨by decide, by decide, by decide, by decide, by decide, by decide, by decide, by decide, trivial⟩ (by decide) (phc_82 hT) up2_e (fun I' hP => ⟨rfl, go_zreturn (cd := cd115) rfl (Or.inr rfl) hP⟩) (fun I' hP => ⟨rfl, go_zreturn (cd := cd115) rfl (Or.inl rfl) hP⟩))
  · have e := (sg_ti (c := 116) hx rfl (by decide)).mp h
    refine go_v (cd := cd115) [] 20 rfl ?_
    refine go_iast (cd := cd115) rfl (nI_vin (n := 50) hc50 (by decide)) (lv3 rfl) rfl ?_
    rw [nI_clamp (show c < 2 ^ 31 by omega)]
    refine go_v (cd := cd115) [] 20 rfl ?_
    exact go_callv (cd := cd115) rfl rfl rfl rfl rfl (lv3 rfl) rfl (hW 1 [116, 101, 97, 114] 660530 4 _ _ (by rw [e]; rfl) (by decide) rfl rfl ⟨by decide, by decide, by decide, by decide, by decide, by decide, by decide, by decide, trivial⟩ (by decide) (phc_82 hT) up2_e (fun I' hP => ⟨rfl, go_zreturn (cd := cd115) rfl (Or.inr rfl) hP⟩) (fun I' hP => ⟨rfl, go_zreturn (cd := cd115) rfl (Or.inl rfl) hP⟩))
  · refine go_v (cd := cd115) [] 20 rfl ?_
    refine go_iast (cd := cd115) rfl (nI_vin (n := 50) hc50 (by decide)) (lv3 rfl) rfl ?_
    rw [nI_clamp (show c < 2 ^ 31 by omega)]
    refine go_v (cd := cd115) [] 20 rfl ?_
    refine go_iast (cd := cd115) rfl (nI_vin (n := 50) hc50 (by decide)) (lv3 rfl) rfl ?_
    rw [nI_clamp (show c < 2 ^ 31 by omega)]
    have g1 : phc c I (up2 (up2 I 82 c 3) 84 c 0) p := phc_trans (phc_82 (v := 3) hT) (phc_84 (rtl_phc hT (phc_82 hT)))
    have g82 : up2 (up2 I 82 c 3) 84 c 0 82 c = nI 3 := by rw [up2_ne (by decide)]; exact up2_e
    have g84 : up2 (up2 I 82 c 3) 84 c 0 84 c = 0 := up2_e
    show aTo L xs fv 111 _ cd115 (_, _, _, aHp r rr (up2 (up2 I 82 c 3) 84 c 0) J) _
    generalize up2 (up2 I 82 c 3) 84 c 0 = I1 at *
    have hT1 := rtl_phc hT g1
    refine go_v (cd := cd115) [] 20 rfl ?_
    have k119 : ∀ {q : Nat} {b : Bool}, pW T [119, 105, 110, 100, 32] p = (q, b) → b = true → wdK (T p) = some 3 := fun {q b} h hb => by
      unfold pW at h
      by_cases e : T p = 119
      · rw [e]; rfl
      · rw [if_neg e] at h
        have := congrArg Prod.snd h
        have : false = b := this
        rw [hb] at this
        cases this
    refine go_callv (cd := cd115) rfl rfl rfl rfl rfl (lv3 rfl) rfl (rl_wd (l := [119, 105, 110, 100]) rfl ⟨by decide, by decide, by decide, by decide, by decide, by decide, by decide, by decide, trivial⟩ (by decide) hT1 (show p + 4 < 2 ^ 29 by omega) (fun I2 q hr hI2 => ⟨rfl, ?_⟩) (fun I2 q hr hI2 => ⟨rfl, ?_⟩))
    case refine_2 =>
      refine go_st (cd := cd115) 1 rfl (go_ifT rfl ?_)
      refine go_v (cd := cd115) [] 20 rfl ?_
      refine go_zreturn (cd := cd115) rfl (Or.inl rfl) (K0 I2 q ?_ (phc_trans g1 (phc_of hI2)))
      have hr : pW T (wdL 3) p = (q, false) := hr
      unfold pH
      by_cases e : T p = 119
      · rw [show wdK (T p) = some 3 by rw [e]; rfl]
        dsimp only
        rw [hr]
      · have e1 : wdK (T p) = none := by
          unfold wdK
          rw [if_neg (fun e => h1 ((sg_ti (c := 103) hx rfl (by decide)).mpr e)), if_neg (fun e => h2 ((sg_ti (c := 108) hx rfl (by decide)).mpr e)), if_neg (fun e => h3 ((sg_ti (c := 116) hx rfl (by decide)).mpr e)), if_neg e]
        rw [e1]
        have hr2 : (if T p = 119 then pW T [105, 110, 100, 32] (p + 1) else (p, false)) = (q, false) := hr
        rw [if_neg e] at hr2
        have := congrArg Prod.fst hr2
        have : p = q := this
        rw [this]
    have hk : wdK (T p) = some 3 := k119 hr rfl
    have hr : pW T (wdL 3) p = (q, true) := hr
    have e0 : pH T p = pP T q := by
      unfold pH
      rw [hk]
      dsimp only
      rw [hr]
      exact if_pos rfl
    have hq := pW_ok hT.1.1 (fun c hc => wdL_lt hc) (show p ≤ len from Nat.le_of_lt (txt_lt hT.1.1 (by have := (wdK_le hk).2; omega))) hr
    have hl := wdL_len 3
    have hT2 := rtl_pl hT1 hI2
    have g2 := phc_trans g1 (phc_of hI2)
    have v82 : I2 82 c = nI 3 := by rw [hI2.1 82 (by decide)]; exact g82
    have v84 : I2 84 c = 0 := by rw [hI2.1 84 (by decide)]; exact g84
    refine go_st (cd := cd115) 1 rfl (go_ifF (by decide) ?_)
    refine go_v (cd := cd115) [] 20 rfl ?_
    refine go_callv (cd := cd115) rfl rfl rfl rfl rfl (lv3 rfl) rfl (rl_fig (d := d) hc50 hT2 (by omega) (fun a1 a2 I3 hI3 h82 h84 => ⟨rfl, ?_⟩) (fun a1 a2 I3 hI3 => ⟨rfl, ?_⟩) (fun a1 => ⟨rfl, ?_⟩))
    case refine_2 =>
      refine go_st (cd := cd115) 1 rfl (go_ifT rfl ?_)
      refine go_v (cd := cd115) [] 20 rfl ?_
      refine go_zreturn (cd := cd115) rfl (Or.inl rfl) (K0 I3 (q + 1) ?_ (phc_trans g2 hI3))
      rw [e0]
      unfold pP
      rw [if_pos a1, if_neg a2]
    case refine_3 =>
      refine go_st (cd := cd115) 1 rfl (go_ifT rfl ?_)
      refine go_v (cd := cd115) [] 20 rfl ?_
      refine go_zreturn (cd := cd115) rfl (Or.inl rfl) (K0 I2 q ?_ g2)
      rw [e0]
      unfold pP
      rw [if_neg a1]
    rw [v84] at h84
    have v823 : I3 82 c = nI 3 := by rw [h82]; exact v82
    have g3 := phc_trans g2 hI3
    have hT3 := rtl_phc hT2 hI3
    refine go_st (cd := cd115) 1 rfl (go_ifF (by decide) ?_)
    refine go_v (cd := cd115) [] 20 rfl ?_
    refine go_callv (cd := cd115) rfl rfl rfl rfl rfl (lv3 rfl) rfl (rl_fig (d := d) hc50 hT3 (by omega) (fun b1 b2 I4 hI4 h82' h84' => ⟨rfl, ?_⟩) (fun b1 b2 I4 hI4 => ⟨rfl, ?_⟩) (fun b1 => ⟨rfl, ?_⟩))
    case refine_2 =>
      refine go_st (cd := cd115) 1 rfl (go_ifT rfl ?_)
      refine go_v (cd := cd115) [] 20 rfl ?_
      refine go_zreturn (cd := cd115) rfl (Or.inl rfl) (K0 I4 (q + 3) ?_ (phc_trans g3 hI4))
      rw [e0]
      unfold pP
      rw [if_pos a1, if_pos a2, if_pos b1, if_neg b2]
    case refine_3 =>
      refine go_st (cd := cd115) 1 rfl (go_ifT rfl ?_)
      refine go_v (cd := cd115) [] 20 rfl ?_
      refine go_zreturn (cd := cd115) rfl (Or.inl rfl) (K0 I3 (q + 2) ?_ g3)
      rw [e0]
      unfold pP
      rw [if_pos a1, if_pos a2, if_neg b1]
    refine go_st (cd := cd115) 1 rfl (go_ifF (by decide) ?_)
    refine go_v (cd := cd115) [] 20 rfl ?_
    refine go_zreturn (cd := cd115) rfl (Or.inr rfl) (K1 I4 (q + 4) 3 (4 * (T q - 48) + (T (q + 2) - 48)) ?_ (phc_trans g3 hI4) (by rw [h82']; exact v823) (fun _ => ?_))
    · rw [e0]
      unfold pP
      rw [if_pos a1, if_pos a2, if_pos b1, if_pos b2]
    · rw [h84', h84, show 4 * (0 : Int32) + nI (T q - 48) = nI (T q - 48) by grind, show (4 : Int32) = nI 4 from rfl, nI_mul, nI_add]
end RH
