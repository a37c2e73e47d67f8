/-! where a bad text is left -/
section NL
variable {T : Nat → Nat} {len : Nat}
theorem pT_nle (hT : txt T len) {p q : Nat} (hp : p ≤ len) (h : pT T p = (q, none)) : q ≤ len := by
  unfold pT at h
  cases hl : leT (T p) with
  | none =>
    rw [hl] at h
    have e : p = q := congrArg Prod.fst h
    omega
  | some l =>
    rw [hl] at h
    dsimp only at h
    have h1 := txt_lt hT (p := p) (by have := (leT_lt hl).2; omega)
    by_cases h2 : 60 ≤ T (p + 1) ∧ T (p + 1) ≤ 62
    · rw [if_pos h2] at h
      have h3 := txt_lt hT (p := p + 1) (by omega)
      cases hn : pN T (p + 2) with
      | none =>
        rw [hn] at h
        have e : p + 2 = q := congrArg Prod.fst h
        omega
      | some z =>
        rw [hn] at h
        cases congrArg Prod.snd h
    · rw [if_neg h2] at h
      have e : p + 1 = q := congrArg Prod.fst h
      omega
theorem pE_nle (hT : txt T len) : ∀ (F : Nat) (m : Option (Bool × Bool)) (n p q : Nat), n ≤ 4 → p ≤ len → pE T F m n p = (q, none) → q ≤ len
  | 0, m, n, p, q, hn, hp, h => by
    have e : p = q := congrArg Prod.fst h
    omega
  | F + 1, none, n, p, q, hn, hp, h => by
    unfold pE at h
    by_cases h1 : n < 4 ∧ T p = 33
    · rw [if_pos h1] at h
      have hpl := txt_in hT h1.2 (by decide)
      cases hr : pE T F none (n + 1) (p + 1) with
      | mk q1 o1 =>
      rw [hr] at h
      cases o1 with
      | none =>
        have e : q1 = q := congrArg Prod.fst h
        have := pE_nle hT F none (n + 1) (p + 1) q1 (by omega) (by omega) hr
        omega
      | some cs => cases congrArg Prod.snd h
    rw [if_neg h1] at h
    by_cases h2 : n < 4 ∧ T p = 40
    · rw [if_pos h2] at h
      have hpl := txt_in hT h2.2 (by decide)
      cases hr : pE T F (some (false, false)) (n + 1) (p + 1) with
      | mk q1 o1 =>
      rw [hr] at h
      cases o1 with
      | none =>
        have e : q1 = q := congrArg Prod.fst h
        have := pE_nle hT F (some (false, false)) (n + 1) (p + 1) q1 (by omega) (by omega) hr
        omega
      | some cs =>
        dsimp only at h
        have hk := pE_ok hT F (some (false, false)) (n + 1) (p + 1) q1 cs (by omega) hr
        by_cases h41 : T q1 = 41
        · rw [if_pos h41] at h; cases congrArg Prod.snd h
        · rw [if_neg h41] at h
          have e : q1 = q := congrArg Prod.fst h
          omega
    rw [if_neg h2] at h
    exact pT_nle hT hp h
  | F + 1, some (o, a), n, p, q, hn, hp, h => by
    unfold pE at h
    cases hr : pE T F none n p with
    | mk q1 o1 =>
    rw [hr] at h
    cases o1 with
    | none =>
      have e : q1 = q := congrArg Prod.fst h
      have := pE_nle hT F none n p q1 hn hp hr
      omega
    | some cs =>
      dsimp only at h
      have hk := pE_ok hT F none n p q1 cs hn hr
      by_cases h38 : T q1 = 38
      · rw [if_pos h38] at h
        have hpl := txt_in hT h38 (by decide)
        cases hr2 : pE T F (some (o, true)) n (q1 + 1) with
        | mk q2 o2 =>
        rw [hr2] at h
        cases o2 with
        | none =>
          have e : q2 = q := congrArg Prod.fst h
          have := pE_nle hT F (some (o, true)) n (q1 + 1) q2 hn (by omega) hr2
          omega
        | some es => cases congrArg Prod.snd h
      rw [if_neg h38] at h
      by_cases h124 : T q1 = 124
      · rw [if_pos h124] at h
        have hpl := txt_in hT h124 (by decide)
        cases hr2 : pE T F (some (true, false)) n (q1 + 1) with
        | mk q2 o2 =>
        rw [hr2] at h
        cases o2 with
        | none =>
          have e : q2 = q := congrArg Prod.fst h
          have := pE_nle hT F (some (true, false)) n (q1 + 1) q2 hn (by omega) hr2
          omega
        | some es => cases congrArg Prod.snd h
      · rw [if_neg h124] at h; cases congrArg Prod.snd h
theorem pP_nle (hT : txt T len) {p q : Nat} (hp : p ≤ len) (h : pP T p = (q, none)) : q ≤ len := by
  unfold pP at h
  by_cases h1 : 48 ≤ T p ∧ T p ≤ 51
  case neg => rw [if_neg h1] at h; have e : p = q := congrArg Prod.fst h; omega
  rw [if_pos h1] at h
  have k1 := txt_lt hT (p := p) (by omega)
  by_cases h2 : T (p + 1) = 32
  case neg => rw [if_neg h2] at h; have e : p + 1 = q := congrArg Prod.fst h; omega
  rw [if_pos h2] at h
  have k2 := txt_in hT h2 (by decide)
  by_cases h3 : 48 ≤ T (p + 2) ∧ T (p + 2) ≤ 51
  case neg => rw [if_neg h3] at h; have e : p + 2 = q := congrArg Prod.fst h; omega
  rw [if_pos h3] at h
  have k3 := txt_lt hT (p := p + 2) (by omega)
  by_cases h4 : T (p + 3) = 32
  case neg => rw [if_neg h4] at h; have e : p + 3 = q := congrArg Prod.fst h; omega
  rw [if_pos h4] at h
  cases congrArg Prod.snd h
theorem pH_nle (hT : txt T len) {p q : Nat} (hp : p ≤ len) (h : pH T p = (q, none)) : q ≤ len := by
  unfold pH at h
  cases hk : wdK (T p) with
  | none => rw [hk] at h; have e : p = q := congrArg Prod.fst h; omega
  | some k0 =>
    rw [hk] at h
    dsimp only at h
    cases hw : pW T (wdL k0) p with
    | mk q0 b =>
    rw [hw] at h
    have h0 := pW_le hT (fun c hc => wdL_lt hc) hp hw
    cases b with
    | false => have e : q0 = q := congrArg Prod.fst h; omega
    | true =>
      dsimp only at h
      by_cases h3 : k0 = 3
      · rw [if_pos h3] at h
        exact pP_nle hT h0 h
      · rw [if_neg h3] at h; cases congrArg Prod.snd h
theorem pC_nle (hT : txt T len) {p q : Nat} (hp : p ≤ len) (h : pC T p = (q, none)) : q ≤ 200 := by
  have hl := hT.1
  unfold pC at h
  cases hh : pH T p with
  | mk q0 o =>
  rw [hh] at h
  cases o with
  | none => have e : q0 = q := congrArg Prod.fst h; have := pH_nle hT hp hh; omega
  | some kf =>
    obtain ⟨k, f⟩ := kf
    obtain ⟨a1, a2, a3, a4, a5⟩ := pH_ok hT hp hh
    dsimp only at h
    cases hn : pN T q0 with
    | none => rw [hn] at h; have e : q0 = q := congrArg Prod.fst h; omega
    | some vq =>
      obtain ⟨v, q2⟩ := vq
      rw [hn] at h
      dsimp only at h
      obtain ⟨b1, b2, b3⟩ := pN_ok hT hn
      by_cases hk : k ≤ 1
      · rw [if_pos hk] at h
        by_cases h32 : T q2 = 32
        case neg => rw [if_neg h32] at h; have e : q2 = q := congrArg Prod.fst h; omega
        rw [if_pos h32] at h
        have k3 := txt_in hT h32 (by decide)
        cases hr : pE T 300 (some (false, false)) 0 (q2 + 1) with
        | mk q3 o3 =>
        rw [hr] at h
        cases o3 with
        | none =>
          have e : q3 = q := congrArg Prod.fst h
          have := pE_nle hT 300 (some (false, false)) 0 (q2 + 1) q3 (by omega) (by omega) hr
          omega
        | some ds => cases congrArg Prod.snd h
      · rw [if_neg hk] at h; cases congrArg Prod.snd h
end NL
