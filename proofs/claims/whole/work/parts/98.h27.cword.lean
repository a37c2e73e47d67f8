/-! the class reads a clause -/
section CC
variable {L : Nat} {xs : Nat → Int32} {fv : Value} {d : Nat} {r : Nat} {I : Nat → Nat → Int32} {J : Nat → Nat → Int64} {P : Option Value → aH → Prop}
variable {T : Nat → Nat} {len b : Nat} {I0 : Nat → Nat → Int32} {p : Nat} {cs : List Nat}
theorem cl_word {w : Nat} (hfv : fv = .null ∨ fv = .ref 3000) (hw : w < 4) (hb : 12 ≤ b) (hT : ctx T len I0) : ∀ (m k p : Nat) (I : Nat → Nat → Int32) (P : Option Value → aH → Prop), k + m = (wdL w).length → cst b I0 I p cs → p + m < 2 ^ 29 → (∀ I' q, pW T ((wdL w).drop k) p = (q, true) → cst b I0 I' q cs → P (some (.int 1)) (aHp r (some b) I' J)) → (∀ I' q, pW T ((wdL w).drop k) p = (q, false) → cst b I0 I' q cs → P (some (.int 0)) (aHp r (some b) I' J)) → aTo L xs fv 111 (d + 4) cd18 (2, [(2, .int (nI k)), (0, .ref 9), (1, .ref (2000 + w))], [], aHp r (some b) I J) P
  | 0, k, p, I, P, hk, hS, hp, K1, K0 => by
    have h5 := (wdL_len w).2
    refine go_v (cd := cd18) [4] 20 rfl ?_
    refine go_callS (cd := cd18) rfl rfl rfl rfl rfl (by rw [(st_k hw).1]) (cl_slen (d := d + 2) hw ⟨rfl, ?_⟩)
    refine go_st (cd := cd18) 1 rfl (go_ifT (nI_le (by omega) (by omega)) ?_)
    refine go_v (cd := cd18) [] 20 rfl ?_
    refine go_zreturn (cd := cd18) rfl (Or.inr rfl) (K1 I p ?_ hS)
    rw [List.drop_eq_nil_of_le (by omega)]
    rfl
  | m + 1, k, p, I, P, hk, hS, hp, K1, K0 => by
    have h5 := (wdL_len w).2
    have hl : k < (wdL w).length := by omega
    have hc : (wdL w)[k]? = some ((wdL w)[k]) := List.getElem?_eq_getElem hl
    have hd : (wdL w).drop k = (wdL w)[k] :: (wdL w).drop (k + 1) := List.drop_eq_getElem_cons hl
    have h128 : (wdL w)[k] < 128 := wdL_lt (List.getElem_mem hl)
    generalize (wdL w)[k] = c at *
    rw [hd] at K1 K0
    refine go_v (cd := cd18) [4] 20 rfl ?_
    refine go_callS (cd := cd18) rfl rfl rfl rfl rfl (by rw [(st_k hw).1]) (cl_slen (d := d + 2) hw ⟨rfl, ?_⟩)
    refine go_st (cd := cd18) 1 rfl (go_ifF (nI_ge hl (by omega)) ?_)
    refine go_v (cd := cd18) [13] 20 rfl ?_
    refine go_callS (cd := cd18) rfl rfl rfl rfl rfl (by rw [(st_k hw).1]) (cl_sat (d := d) hfv hw hc ⟨rfl, ?_⟩)
    refine go_callv (cd := cd18) rfl rfl rfl rfl rfl (lv3 rfl) rfl (cl_pass (d := d + 2) (c := c) hb hT hS (by omega) rfl h128 (fun h I1 hS1 => ⟨rfl, ?_⟩) (fun h => ⟨rfl, ?_⟩))
    · refine go_st (cd := cd18) 1 rfl (go_ifF (by decide) ?_)
      refine go_v (cd := cd18) [2] 20 rfl ?_
      refine go_sb (cl_word hfv hw hb hT m (k + 1) (p + 1) I1 P (by omega) hS1 (by omega) (fun I2 q hr hS2 => K1 I2 q ?_ hS2) (fun I2 q hr hS2 => K0 I2 q ?_ hS2)) ⟨by rw [nI_succ k]; rfl, rfl, rfl, trivial⟩ rfl rfl rfl
      · show (if T p = c then pW T _ (p + 1) else (p, false)) = _
        rw [if_pos h]; exact hr
      · show (if T p = c then pW T _ (p + 1) else (p, false)) = _
        rw [if_pos h]; exact hr
    · refine go_st (cd := cd18) 1 rfl (go_ifT rfl ?_)
      refine go_v (cd := cd18) [] 20 rfl ?_
      refine go_zreturn (cd := cd18) rfl (Or.inl rfl) (K0 I p ?_ hS)
      show (if T p = c then pW T _ (p + 1) else (p, false)) = _
      rw [if_neg h]
theorem cl_begun (hb : 12 ≤ b) (hT : ctx T len I0) (hS : cst b I0 I p cs) (hp31 : p < 2 ^ 30) (K : P (some (.int (match wdK (T p) with | none => -1 | some k => nI k))) (aHp r (some b) I J)) : aCl L xs fv 111 (d + 2) 11 [.ref 9] (aHp r (some b) I J) P := by
  refine cl_of rfl (Nat.le_add_right _ _) ?_
  refine go_v (cd := cd11) [] 20 rfl ?_
  refine go_callv (cd := cd11) rfl rfl rfl rfl rfl (lv3 rfl) rfl (cl_sign hb hT hS hp31 (fun x hx => ⟨rfl, ?_⟩))
  refine go_lk (cd := cd11) rfl ⟨fun h => ?_, fun h1 => ⟨fun h => ?_, fun h2 => ⟨fun h => ?_, fun h3 => ⟨fun h => ?_, fun h4 => ?_⟩⟩⟩⟩
  · have e := (sg_ti (c := 103) hx rfl (by decide)).mp h
    rw [e] at K
    refine go_v (cd := cd11) [] 20 rfl ?_
    exact go_ireturn (cd := cd11) rfl K
  · have e := (sg_ti (c := 108) hx rfl (by decide)).mp h
    rw [e] at K
    refine go_v (cd := cd11) [] 20 rfl ?_
    exact go_ireturn (cd := cd11) rfl K
  · have e := (sg_ti (c := 116) hx rfl (by decide)).mp h
    rw [e] at K
    refine go_v (cd := cd11) [] 20 rfl ?_
    exact go_ireturn (cd := cd11) rfl K
  · have e := (sg_ti (c := 119) hx rfl (by decide)).mp h
    rw [e] at K
    refine go_v (cd := cd11) [] 20 rfl ?_
    exact go_ireturn (cd := cd11) rfl K
  · have e1 : wdK (T p) = none := by
      unfold wdK
      rw [if_neg (fun e => h1 ((sg_ti (c := 103) hx rfl (by decide)).mpr e)), if_neg (fun e => h2 ((sg_ti (c := 108) hx rfl (by decide)).mpr e)), if_neg (fun e => h3 ((sg_ti (c := 116) hx rfl (by decide)).mpr e)), if_neg (fun e => h4 ((sg_ti (c := 119) hx rfl (by decide)).mpr e))]
    rw [e1] at K
    refine go_v (cd := cd11) [] 20 rfl ?_
    exact go_ireturn (cd := cd11) rfl K
theorem cl_wordOf {rr : Option Nat} {w : Nat} (hw : w < 4) (K : P (some (.ref (2000 + w))) (aHp r rr I J)) : aCl L xs fv 111 (d + 1) 12 [.int (nI w)] (aHp r rr I J) P := by
  refine cl_of rfl (Nat.le_add_right _ _) ?_
  refine go_v (cd := cd12) [1] 20 rfl ?_
  have hw : w = 0 ∨ w = 1 ∨ w = 2 ∨ w = 3 := by omega
  rcases hw with rfl | rfl | rfl | rfl
  · refine go_tswI (cd := cd12) 28 rfl rfl (by decide) (by decide) rfl ?_
    refine go_v (cd := cd12) [] 20 rfl ?_
    exact go_areturn (cd := cd12) rfl K
  · refine go_tswI (cd := cd12) 31 rfl rfl (by decide) (by decide) rfl ?_
    refine go_v (cd := cd12) [] 20 rfl ?_
    exact go_areturn (cd := cd12) rfl K
  · refine go_tswI (cd := cd12) 34 rfl rfl (by decide) (by decide) rfl ?_
    refine go_v (cd := cd12) [] 20 rfl ?_
    exact go_areturn (cd := cd12) rfl K
  · refine go_tswO (cd := cd12) 37 rfl (Or.inr (by decide)) rfl ?_
    refine go_v (cd := cd12) [] 20 rfl ?_
    exact go_areturn (cd := cd12) rfl K
theorem cl_fig (hb : 12 ≤ b) (hT : ctx T len I0) (hS : cst b I0 I p cs) (hp31 : p < 2 ^ 30) (K1 : 48 ≤ T p ∧ T p ≤ 51 → ∀ I', cst b I0 I' (p + 1) cs → I' 9 3 = nI (T p - 48) → P (some (.int 1)) (aHp r (some b) I' J)) (K0 : ¬ (48 ≤ T p ∧ T p ≤ 51) → P (some (.int 0)) (aHp r (some b) I J)) : aCl L xs fv 111 (d + 2) 20 [.ref 9] (aHp r (some b) I J) P := by
  refine cl_of rfl (Nat.le_add_right _ _) ?_
  refine go_v (cd := cd20) [] 20 rfl ?_
  refine go_callv (cd := cd20) rfl rfl rfl rfl rfl (lv3 rfl) rfl (cl_sign hb hT hS hp31 (fun x hx => ⟨rfl, ?_⟩))
  obtain ⟨d1, d2⟩ := sg_dig (m := 3) hx rfl (by decide)
  have d1 : (0 ≤ x - 48 ∧ x - 48 ≤ 3) ↔ (48 ≤ T p ∧ T p ≤ 51) := d1
  refine go_v (cd := cd20) [9] 20 rfl ?_
  refine go_calls (cd := cd20) rfl rfl rfl rfl rfl (cl_of rfl (Nat.le_add_right _ _) ?_)
  have hbk : ∀ v : Int32, (v = 0 → ¬ (48 ≤ T p ∧ T p ≤ 51)) → (v = 1 → 48 ≤ T p ∧ T p ≤ 51) → (v = 0 ∨ v = 1) → aTo L xs fv 111 (d + 1) cd20 (12, [(1, .int (x - 48)), (0, .ref 9)], [.int v], aHp r (some b) I J) P := fun v v0 v1 hv => by
    rcases hv with rfl | rfl
    · refine go_st (cd := cd20) 1 rfl (go_ifT rfl ?_)
      refine go_v (cd := cd20) [] 20 rfl ?_
      exact go_zreturn (cd := cd20) rfl (Or.inl rfl) (K0 (v0 rfl))
    · have hd := v1 rfl
      have hxe := d2 (by omega)
      refine go_st (cd := cd20) 1 rfl (go_ifF (by decide) ?_)
      refine go_v (cd := cd20) [] 40 rfl ?_
      show aTo L xs fv 111 _ cd20 (33, _, [.int 1], aHp r (some b) (up2 (up2 I 9 3 (x - 48)) 9 2 (I 9 2 + 1)) J) _
      rw [hS.2.2.2.1, ← nI_succ, hxe]
      exact go_zreturn (cd := cd20) rfl (Or.inr rfl) (K1 hd _ (cst_p hb (cst_n hb hS)) (by rw [up2_42 (by decide)]; exact up2_e))
  refine go_v (cd := cd67) [] 20 rfl ?_
  by_cases h0 : x - 48 < 0
  · refine go_st (cd := cd67) 1 rfl (go_ifT h0 ?_)
    refine go_v (cd := cd67) [] 20 rfl ?_
    refine go_zreturn (cd := cd67) rfl (Or.inl rfl) ⟨rfl, ?_⟩
    exact go_sb (hbk 0 (fun _ h => Int32.not_le.mpr h0 (d1.mpr h).1) (fun h => absurd h (by decide)) (Or.inl rfl)) ⟨rfl, rfl, trivial⟩ rfl rfl rfl
  refine go_st (cd := cd67) 1 rfl (go_ifF h0 ?_)
  refine go_v (cd := cd67) [] 20 rfl ?_
  by_cases h4 : 4 ≤ x - 48
  · refine go_st (cd := cd67) 1 rfl (go_ifT h4 ?_)
    refine go_v (cd := cd67) [] 20 rfl ?_
    refine go_zreturn (cd := cd67) rfl (Or.inl rfl) ⟨rfl, ?_⟩
    exact go_sb (hbk 0 (fun _ h => by have := (d1.mpr h).2; generalize x - 48 = y at *; grind) (fun h => absurd h (by decide)) (Or.inl rfl)) ⟨rfl, rfl, trivial⟩ rfl rfl rfl
  refine go_st (cd := cd67) 1 rfl (go_ifF h4 ?_)
  refine go_v (cd := cd67) [] 20 rfl ?_
  refine go_zreturn (cd := cd67) rfl (Or.inr rfl) ⟨rfl, ?_⟩
  exact go_sb (hbk 1 (fun h => absurd h (by decide)) (fun _ => d1.mp ⟨Int32.not_lt.mp h0, by generalize x - 48 = y at *; grind⟩) (Or.inr rfl)) ⟨rfl, rfl, trivial⟩ rfl rfl rfl
end CC
