/-! how a race is read: clauses -/
def pW (T : Nat → Nat) : List Nat → Nat → Nat × Bool
  | [], p => (p, true)
  | c :: l, p => if T p = c then pW T l (p + 1) else (p, false)
def wdL (k : Nat) : List Nat := if k = 0 then [103, 111, 32] else if k = 1 then [116, 101, 97, 114, 32] else if k = 2 then [108, 111, 115, 101, 32] else [119, 105, 110, 100, 32]
def wdK (t : Nat) : Option Nat := if t = 103 then some 0 else if t = 108 then some 2 else if t = 116 then some 1 else if t = 119 then some 3 else none
def pP (T : Nat → Nat) (q : Nat) : Nat × Option (Nat × Nat) := if 48 ≤ T q ∧ T q ≤ 51 then (if T (q + 1) = 32 then (if 48 ≤ T (q + 2) ∧ T (q + 2) ≤ 51 then (if T (q + 3) = 32 then (q + 4, some (3, 4 * (T q - 48) + (T (q + 2) - 48))) else (q + 3, none)) else (q + 2, none)) else (q + 1, none)) else (q, none)
def pH (T : Nat → Nat) (p : Nat) : Nat × Option (Nat × Nat) := match wdK (T p) with
  | none => (p, none)
  | some k => match pW T (wdL k) p with
    | (q, false) => (q, none)
    | (q, true) => if k = 3 then pP T q else (q, some (k, 0))
def pC (T : Nat → Nat) (p : Nat) : Nat × Option Cl := match pH T p with
  | (q, none) => (q, none)
  | (q, some (k, f)) => match pN T q with
    | none => (q, none)
    | some (v, q2) => if k ≤ 1 then (if T q2 = 32 then (match pE T 300 (some (false, false)) 0 (q2 + 1) with | (q3, none) => (q3, none) | (q3, some ds) => (q3, some (k, v, f, ds))) else (q2, none)) else (q2, some (k, v, f, []))
def pL (T : Nat → Nat) (len : Nat) : Nat → Nat → Nat × Option (List Cl)
  | 0, p => (p, none)
  | i + 1, p => match pC T p with
    | (q, none) => (q, none)
    | (q, some c) => if q = len then (q, some [c]) else if i = 0 then (q, none) else if T q = 59 then (match pL T len i (q + 1) with | (q2, none) => (q2, none) | (q2, some cs) => (q2, some (c :: cs))) else (q, none)
theorem pW_ok {T : Nat → Nat} {len : Nat} (hT : txt T len) : ∀ {l : List Nat} {p q : Nat}, (∀ c ∈ l, c < 128) → p ≤ len → pW T l p = (q, true) → q = p + l.length ∧ q ≤ len
  | [], p, q, _, hp, h => by
    have e := congrArg Prod.fst h
    have e : p = q := e
    exact ⟨e.symm, by omega⟩
  | c :: l, p, q, hc, hp, h => by
    unfold pW at h
    by_cases h1 : T p = c
    · rw [if_pos h1] at h
      have := txt_in hT h1 (by have := hc c (List.mem_cons_self ..); omega)
      obtain ⟨e1, e2⟩ := pW_ok hT (fun z hz => hc z (List.mem_cons_of_mem _ hz)) (by omega) h
      exact ⟨by show q = p + (l.length + 1); omega, e2⟩
    · rw [if_neg h1] at h; cases congrArg Prod.snd h
theorem pW_le {T : Nat → Nat} {len : Nat} (hT : txt T len) : ∀ {l : List Nat} {p q : Nat} {b : Bool}, (∀ c ∈ l, c < 128) → p ≤ len → pW T l p = (q, b) → q ≤ len
  | [], p, q, b, _, hp, h => by
    have e := congrArg Prod.fst h
    have e : p = q := e
    omega
  | c :: l, p, q, b, hc, hp, h => by
    unfold pW at h
    by_cases h1 : T p = c
    · rw [if_pos h1] at h
      have := txt_in hT h1 (by have := hc c (List.mem_cons_self ..); omega)
      exact pW_le hT (fun z hz => hc z (List.mem_cons_of_mem _ hz)) (by omega) h
    · rw [if_neg h1] at h
      have e := congrArg Prod.fst h
      have e : p = q := e
      omega
theorem wdL_lt {k c : Nat} (h : c ∈ wdL k) : c < 128 := by
  unfold wdL at h
  split at h
  · simp at h; omega
  · split at h
    · simp at h; omega
    · split at h
      · simp at h; omega
      · simp at h; omega
theorem wdL_len (k : Nat) : 3 ≤ (wdL k).length ∧ (wdL k).length ≤ 5 := by
  unfold wdL
  split
  · decide
  · split
    · decide
    · split
      · decide
      · decide
theorem wdK_le {t k : Nat} (h : wdK t = some k) : k ≤ 3 ∧ t < 128 := by
  unfold wdK at h
  split at h
  · have := Option.some.inj h; omega
  · split at h
    · have := Option.some.inj h; omega
    · split at h
      · have := Option.some.inj h; omega
      · split at h
        · have := Option.some.inj h; omega
        · cases h
theorem pP_ok {T : Nat → Nat} {len p q k f : Nat} (hT : txt T len) (h : pP T p = (q, some (k, f))) : q = p + 4 ∧ q ≤ len ∧ k = 3 ∧ f ≤ 15 := by
  unfold pP at h
  by_cases h1 : 48 ≤ T p ∧ T p ≤ 51
  case neg => rw [if_neg h1] at h; cases congrArg Prod.snd h
  rw [if_pos h1] at h
  by_cases h2 : T (p + 1) = 32
  case neg => rw [if_neg h2] at h; cases congrArg Prod.snd h
  rw [if_pos h2] at h
  by_cases h3 : 48 ≤ T (p + 2) ∧ T (p + 2) ≤ 51
  case neg => rw [if_neg h3] at h; cases congrArg Prod.snd h
  rw [if_pos h3] at h
  by_cases h4 : T (p + 3) = 32
  case neg => rw [if_neg h4] at h; cases congrArg Prod.snd h
  rw [if_pos h4] at h
  have := txt_in hT h4 (by decide)
  have e1 := congrArg Prod.fst h
  have e2 := Option.some.inj (congrArg Prod.snd h)
  have e3 := congrArg Prod.fst e2
  have e4 := congrArg Prod.snd e2
  dsimp only at e1 e3 e4
  omega
theorem pH_ok {T : Nat → Nat} {len p q k f : Nat} (hT : txt T len) (hp : p ≤ len) (h : pH T p = (q, some (k, f))) : p + 1 ≤ q ∧ q ≤ len ∧ k ≤ 3 ∧ f ≤ 15 ∧ (k ≠ 3 → f = 0) := by
  unfold pH at h
  cases hk : wdK (T p) with
  | none => rw [hk] at h; cases congrArg Prod.snd h
  | some k0 =>
    rw [hk] at h
    dsimp only at h
    cases hw : pW T (wdL k0) p with
    | mk q0 b =>
    rw [hw] at h
    cases b with
    | false => cases congrArg Prod.snd h
    | true =>
      dsimp only at h
      obtain ⟨e1, e2⟩ := pW_ok hT (fun c hc => wdL_lt hc) hp hw
      have hl := wdL_len k0
      have hk3 := (wdK_le hk).1
      by_cases h3 : k0 = 3
      · rw [if_pos h3] at h
        obtain ⟨a1, a2, a3, a4⟩ := pP_ok hT h
        exact ⟨by omega, by omega, by omega, by omega, by omega⟩
      · rw [if_neg h3] at h
        have z1 := congrArg Prod.fst h
        have z2 := Option.some.inj (congrArg Prod.snd h)
        have z3 := congrArg Prod.fst z2
        have z4 := congrArg Prod.snd z2
        dsimp only at z1 z3 z4
        exact ⟨by omega, by omega, by omega, by omega, by omega⟩
def clW (q : Cl) : Prop := q.1 ≤ 3 ∧ q.2.1 ≤ 99 ∧ q.2.2.1 ≤ 15 ∧ (q.1 ≠ 3 → q.2.2.1 = 0) ∧ (q.1 ≤ 1 → htL 0 q.2.2.2 = some 1) ∧ (1 < q.1 → q.2.2.2 = [])
theorem pC_ok {T : Nat → Nat} {len p q : Nat} {c : Cl} (hT : txt T len) (hp : p ≤ len) (h : pC T p = (q, some c)) : p + 1 ≤ q ∧ q ≤ len ∧ c.2.2.2.length + p ≤ q ∧ clW c := by
  unfold pC at h
  cases hh : pH T p with
  | mk q0 o =>
  rw [hh] at h
  cases o with
  | none => cases congrArg Prod.snd h
  | some kf =>
    obtain ⟨k, f⟩ := kf
    obtain ⟨a1, a2, a3, a4, a5⟩ := pH_ok hT hp hh
    dsimp only at h
    cases hn : pN T q0 with
    | none => rw [hn] at h; cases congrArg Prod.snd h
    | some vq =>
      obtain ⟨v, q2⟩ := vq
      rw [hn] at h
      dsimp only at h
      obtain ⟨b1, b2, b3⟩ := pN_ok hT hn
      by_cases hk : k ≤ 1
      · rw [if_pos hk] at h
        by_cases h32 : T q2 = 32
        case neg => rw [if_neg h32] at h; cases congrArg Prod.snd h
        rw [if_pos h32] at h
        cases hr : pE T 300 (some (false, false)) 0 (q2 + 1) with
        | mk q3 o3 =>
        rw [hr] at h
        cases o3 with
        | none => cases congrArg Prod.snd h
        | some ds =>
          obtain ⟨c1, c2, c3, c4⟩ := pE_ok hT 300 (some (false, false)) 0 (q2 + 1) q3 ds (by omega) hr
          have c3 : ds.length + (q2 + 1) ≤ q3 + 0 := c3
          have e1 := congrArg Prod.fst h
          have e2 := Option.some.inj (congrArg Prod.snd h)
          dsimp only at e1 e2
          subst e1
          subst e2
          exact ⟨by omega, c2, by show ds.length + p ≤ q3; omega, a3, b3, a4, a5, fun _ => c4 0 (Nat.zero_le _), fun h => absurd hk (by have h : 1 < k := h; omega)⟩
      · rw [if_neg hk] at h
        have e1 := congrArg Prod.fst h
        have e2 := Option.some.inj (congrArg Prod.snd h)
        dsimp only at e1 e2
        subst e1
        subst e2
        exact ⟨by omega, b2, by show 0 + p ≤ q2; omega, a3, b3, a4, a5, fun h => absurd h hk, fun _ => rfl⟩
/-! the reference reads a head -/
def rtl (T : Nat → Nat) (len : Nat) (I : Nat → Nat → Int32) (p : Nat) : Prop := rtx T len I ∧ I 77 13 = nI p
def plc (I I' : Nat → Nat → Int32) (q : Nat) : Prop := (∀ j, j ≠ 77 → I' j = I j) ∧ (∀ z, z ≠ 13 → z ≠ 14 → I' 77 z = I 77 z) ∧ I' 77 13 = nI q
theorem rtx_of {T : Nat → Nat} {len : Nat} {I I' : Nat → Nat → Int32} (h : rtx T len I) (h1 : I' 77 12 = I 77 12) (h2 : I' 80 = I 80) : rtx T len I' := ⟨h.1, h1.trans h.2.1, fun p hp => by rw [h2]; exact h.2.2 p hp⟩
theorem rtl_pl {T : Nat → Nat} {len p q : Nat} {I I' : Nat → Nat → Int32} (h : rtl T len I p) (h' : plc I I' q) : rtl T len I' q := ⟨rtx_of h.1 (h'.2.1 12 (by decide) (by decide)) (h'.1 80 (by decide)), h'.2.2⟩
theorem pl_trans {p q : Nat} {I I1 I2 : Nat → Nat → Int32} (h : plc I I1 p) (h' : plc I1 I2 q) : plc I I2 q := ⟨fun j hj => (h'.1 j hj).trans (h.1 j hj), fun z h1 h2 => (h'.2.1 z h1 h2).trans (h.2.1 z h1 h2), h'.2.2⟩
theorem pl_refl {T : Nat → Nat} {len p : Nat} {I : Nat → Nat → Int32} (h : rtl T len I p) : plc I I p := ⟨fun _ _ => rfl, fun _ _ _ => rfl, h.2⟩
theorem pl_p {q : Nat} {I : Nat → Nat → Int32} : plc I (up2 I 77 13 (nI q)) q := ⟨fun _ hj => up2_ne hj, fun _ h _ => up2_42 h, up2_e⟩
def wdX (X : Int32) : List Nat → Prop
  | [] => True
  | c :: l => 96 + ((X >>> ((5 * nI l.length) &&& 31)) &&& 31) = nI c ∧ c < 128 ∧ wdX X l
section RL
variable {L : Nat} {xs : Nat → Int32} {fv : Value} {d : Nat} {r : Nat} {rr : Option Nat} {I : Nat → Nat → Int32} {J : Nat → Nat → Int64} {P : Option Value → aH → Prop}
variable {T : Nat → Nat} {len : Nat} {p : Nat}
theorem rl_next (hT : rtl T len I p) (hp31 : p < 2 ^ 30) (K : ∀ x, sgX x (T p) → P (some (.int x)) (aHp r rr I J)) : aCl L xs fv 111 (d + 1) 103 [.ref 77] (aHp r rr I J) P := by
  obtain ⟨⟨⟨t1, t2, t3⟩, h12, t5⟩, h3⟩ := hT
  refine cl_of rfl (Nat.le_add_right _ _) ?_
  refine go_v (cd := cd103) [] 20 rfl ?_
  by_cases hp : p < len
  · refine go_st (cd := cd103) 1 rfl (go_ifF (show ¬ I 77 12 ≤ I 77 13 by rw [h12, h3]; exact nI_ge hp (by omega)) ?_)
    refine go_v (cd := cd103) [] 20 rfl ?_
    show aTo L xs fv 111 _ cd103 (19, _, [.int (I 77 13), .ref 80], aHp r rr I J) _
    rw [h3]
    refine go_iald (cd := cd103) rfl (nI_vin (n := 100) (by omega) (by decide)) (lv3 rfl) rfl ?_
    rw [nI_clamp (show p < 2 ^ 31 by omega), t5 p hp]
    refine go_v (cd := cd103) [] 20 rfl ?_
    exact go_ireturn (cd := cd103) rfl (K _ (sg_r (t2 p hp)))
  · refine go_st (cd := cd103) 1 rfl (go_ifT (show I 77 12 ≤ I 77 13 by rw [h12, h3]; exact nI_le (by omega) (by omega)) ?_)
    refine go_v (cd := cd103) [] 20 rfl ?_
    refine go_ireturn (cd := cd103) rfl (K _ ?_)
    rw [t3 p (by omega)]
    exact Or.inr (by decide)
theorem rl_sign {z : Nat} {C : Int32} (hT : rtl T len I p) (hp31 : p < 2 ^ 30) (hC : C = nI z) (hc : z < 128) (K1 : T p = z → ∀ I', plc I I' (p + 1) → P (some (.int 1)) (aHp r rr I' J)) (K0 : T p ≠ z → P (some (.int 0)) (aHp r rr I J)) : aCl L xs fv 111 (d + 2) 104 [.ref 77, .int C] (aHp r rr I J) P := by
  refine cl_of rfl (Nat.le_add_right _ _) ?_
  refine go_v (cd := cd104) [] 20 rfl ?_
  refine go_callv (cd := cd104) rfl rfl rfl rfl rfl (lv3 rfl) rfl (rl_next hT hp31 (fun x hx => ⟨rfl, ?_⟩))
  refine go_v (cd := cd104) [] 20 rfl ?_
  by_cases ht : T p = z
  · refine go_st (cd := cd104) 1 rfl (go_ifT ((sg_eq hx hC hc).mpr ht) ?_)
    refine go_v (cd := cd104) [] 20 rfl ?_
    show aTo L xs fv 111 _ cd104 (21, _, [.int 1], aHp r rr (up2 I 77 13 (I 77 13 + 1)) J) _
    rw [hT.2, ← nI_succ]
    exact go_zreturn (cd := cd104) rfl (Or.inr rfl) (K1 ht _ pl_p)
  · refine go_st (cd := cd104) 1 rfl (go_ifF (fun h => ht ((sg_eq hx hC hc).mp h)) ?_)
    refine go_v (cd := cd104) [] 20 rfl ?_
    exact go_zreturn (cd := cd104) rfl (Or.inl rfl) (K0 ht)
theorem rl_isDigit (hT : rtl T len I p) (hp31 : p < 2 ^ 30) (K1 : 48 ≤ T p ∧ T p ≤ 57 → P (some (.int 1)) (aHp r rr I J)) (K0 : ¬ (48 ≤ T p ∧ T p ≤ 57) → P (some (.int 0)) (aHp r rr I J)) : aCl L xs fv 111 (d + 2) 106 [.ref 77] (aHp r rr I J) P := by
  refine cl_of rfl (Nat.le_add_right _ _) ?_
  refine go_v (cd := cd106) [] 20 rfl ?_
  refine go_callv (cd := cd106) rfl rfl rfl rfl rfl (lv3 rfl) rfl (rl_next hT hp31 (fun x hx => ⟨rfl, ?_⟩))
  have hi := sg_in (a := 48) (b := 57) (A := 48) (B := 57) hx rfl rfl (by decide) (by decide)
  refine go_v (cd := cd106) [] 20 rfl ?_
  refine go_callv (cd := cd106) rfl rfl rfl rfl rfl (lv3 rfl) rfl (cl_in (fun hq => ⟨rfl, ?_⟩) (fun hq => ⟨rfl, ?_⟩))
  · exact go_zreturn (cd := cd106) rfl (Or.inr rfl) (K1 (hi.mp hq))
  · exact go_zreturn (cd := cd106) rfl (Or.inl rfl) (K0 (fun h => hq (hi.mpr h)))
theorem rl_num (hT : rtl T len I p) (hp31 : p < 2 ^ 29) (K1 : ∀ I' v q, pN T p = some (v, q) → plc I I' q → I' 77 14 = nI v → P (some (.int 1)) (aHp r rr I' J)) (K0 : pN T p = none → P (some (.int 0)) (aHp r rr I J)) : aCl L xs fv 111 (d + 3) 107 [.ref 77] (aHp r rr I J) P := by
  refine cl_of rfl (Nat.le_add_right _ _) ?_
  refine go_v (cd := cd107) [] 20 rfl ?_
  refine go_callv (cd := cd107) rfl rfl rfl rfl rfl (lv3 rfl) rfl (rl_isDigit hT (by omega) (fun hd => ⟨rfl, ?_⟩) (fun hd => ⟨rfl, ?_⟩))
  case refine_2 =>
    refine go_st (cd := cd107) 1 rfl (go_ifT rfl ?_)
    refine go_v (cd := cd107) [] 20 rfl ?_
    exact go_zreturn (cd := cd107) rfl (Or.inl rfl) (K0 (if_neg hd))
  refine go_st (cd := cd107) 1 rfl (go_ifF (by decide) ?_)
  refine go_v (cd := cd107) [16] 20 rfl ?_
  have hp1 : plc I (up2 I 77 14 0) p := ⟨fun _ hj => up2_ne hj, fun _ _ h => up2_42 h, (up2_42 (by decide)).trans hT.2⟩
  have h14 : up2 I 77 14 0 77 14 = 0 := up2_e
  show aTo L xs fv 111 _ cd107 (16, _, [], aHp r rr (up2 I 77 14 0) J) _
  generalize up2 I 77 14 0 = I1 at *
  have hT1 := rtl_pl hT hp1
  refine go_v (cd := cd107) [] 20 rfl ?_
  refine go_st (cd := cd107) 1 rfl (go_ifF (by decide) ?_)
  refine go_v (cd := cd107) [] 20 rfl ?_
  refine go_callv (cd := cd107) rfl rfl rfl rfl rfl (lv3 rfl) rfl (rl_isDigit hT1 (by omega) (fun _ => ⟨rfl, ?_⟩) (fun h => absurd hd h))
  refine go_st (cd := cd107) 1 rfl (go_ifF (by decide) ?_)
  refine go_v (cd := cd107) [] 20 rfl ?_
  refine go_callv (cd := cd107) rfl rfl rfl rfl rfl (lv3 rfl) rfl (rl_next hT1 (by omega) (fun x hx => ⟨rfl, ?_⟩))
  have hxe := (sg_dig (m := 9) hx rfl (Nat.le_refl _)).2 hd
  refine go_v (cd := cd107) [57] 20 rfl ?_
  show aTo L xs fv 111 _ cd107 (57, _, [], aHp r rr (up2 (up2 I1 77 14 (10 * I1 77 14 + x - 48)) 77 13 (I1 77 13 + 1)) J) _
  rw [h14, hT1.2, ← nI_succ, show 10 * (0 : Int32) + x - 48 = nI (T p - 48) from by rw [← hxe]; grind]
  have hp2 : plc I (up2 (up2 I1 77 14 (nI (T p - 48))) 77 13 (nI (p + 1))) (p + 1) := pl_trans hp1 ⟨fun _ hj => by rw [up2_ne hj, up2_ne hj], fun _ h h' => by rw [up2_42 h, up2_42 h'], up2_e⟩
  have h142 : up2 (up2 I1 77 14 (nI (T p - 48))) 77 13 (nI (p + 1)) 77 14 = nI (T p - 48) := by rw [up2_42 (by decide), up2_e]
  generalize up2 (up2 I1 77 14 (nI (T p - 48))) 77 13 (nI (p + 1)) = I2 at *
  have hT2 := rtl_pl hT hp2
  refine go_v (cd := cd107) [16] 20 rfl ?_
  refine go_sb ?_ (l' := [(1, .int 1), (0, .ref 77)]) ⟨rfl, rfl, trivial⟩ rfl rfl rfl
  refine go_v (cd := cd107) [] 20 rfl ?_
  refine go_st (cd := cd107) 1 rfl (go_ifF (by decide) ?_)
  refine go_v (cd := cd107) [] 20 rfl ?_
  have h63 : ∀ ls, pN T p = some (T p - 48, p + 1) → aTo L xs fv 111 (d + 2) cd107 (63, ls, [], aHp r rr I2 J) P := fun ls h => by
    refine go_v (cd := cd107) [] 20 rfl ?_
    exact go_zreturn (cd := cd107) rfl (Or.inr rfl) (K1 I2 _ _ h hp2 h142)
  refine go_callv (cd := cd107) rfl rfl rfl rfl rfl (lv3 rfl) rfl (rl_isDigit hT2 (by omega) (fun hd2 => ⟨rfl, ?_⟩) (fun hd2 => ⟨rfl, ?_⟩))
  case refine_2 =>
    refine go_st (cd := cd107) 1 rfl (go_ifT rfl ?_)
    refine h63 _ ?_
    unfold pN
    rw [if_pos hd, if_neg hd2]
  refine go_st (cd := cd107) 1 rfl (go_ifF (by decide) ?_)
  refine go_v (cd := cd107) [] 20 rfl ?_
  refine go_callv (cd := cd107) rfl rfl rfl rfl rfl (lv3 rfl) rfl (rl_next hT2 (by omega) (fun y hy => ⟨rfl, ?_⟩))
  have hye := (sg_dig (m := 9) hy rfl (Nat.le_refl _)).2 hd2
  refine go_v (cd := cd107) [57] 20 rfl ?_
  show aTo L xs fv 111 _ cd107 (57, _, [], aHp r rr (up2 (up2 I2 77 14 (10 * I2 77 14 + y - 48)) 77 13 (I2 77 13 + 1)) J) _
  rw [h142, hT2.2, ← nI_succ, show 10 * nI (T p - 48) + y - 48 = nI (10 * (T p - 48) + (T (p + 1) - 48)) from by
    rw [show 10 * nI (T p - 48) + y - 48 = 10 * nI (T p - 48) + (y - 48) by grind, hye, show (10 : Int32) = nI 10 from rfl, nI_mul, nI_add]]
  have hp3 : plc I (up2 (up2 I2 77 14 (nI (10 * (T p - 48) + (T (p + 1) - 48)))) 77 13 (nI (p + 1 + 1))) (p + 2) := pl_trans hp2 ⟨fun _ hj => by rw [up2_ne hj, up2_ne hj], fun _ h h' => by rw [up2_42 h, up2_42 h'], up2_e⟩
  refine go_v (cd := cd107) [16] 20 rfl ?_
  refine go_sb ?_ (l' := [(1, .int 2), (0, .ref 77)]) ⟨rfl, rfl, trivial⟩ rfl rfl rfl
  refine go_v (cd := cd107) [] 20 rfl ?_
  refine go_st (cd := cd107) 1 rfl (go_ifT (by decide) ?_)
  refine go_v (cd := cd107) [] 20 rfl ?_
  refine go_zreturn (cd := cd107) rfl (Or.inr rfl) (K1 _ (10 * (T p - 48) + (T (p + 1) - 48)) (p + 2) ?_ hp3 ?_)
  · unfold pN
    rw [if_pos hd, if_pos hd2]
  · rw [up2_42 (by decide), up2_e]
theorem rl_word {X : Int32} {N : Int32} : ∀ (l : List Nat) (p : Nat) (I : Nat → Nat → Int32) (P : Option Value → aH → Prop), wdX X l → l.length ≤ 4 → rtl T len I p → p + l.length < 2 ^ 29 → (∀ I' q b, pW T (l ++ [32]) p = (q, b) → plc I I' q → P (some (.int (if b = true then 1 else 0))) (aHp r rr I' J)) → aTo L xs fv 111 (d + 2) cd105 (4, [(3, .int (nI l.length - 1)), (0, .ref 77), (1, .int X), (2, .int N)], [], aHp r rr I J) P
  | [], p, I, P, _, _, hT, hp, K => by
    refine go_v (cd := cd105) [] 20 rfl ?_
    refine go_st (cd := cd105) 1 rfl (go_ifT (show nI 0 - 1 < 0 by decide) ?_)
    refine go_v (cd := cd105) [] 20 rfl ?_
    refine go_callv (cd := cd105) rfl rfl rfl rfl rfl (lv3 rfl) rfl (rl_sign (z := 32) hT (by omega) rfl (by decide) (fun h I' hI' => ⟨rfl, ?_⟩) (fun h => ⟨rfl, ?_⟩))
    · refine go_zreturn (cd := cd105) rfl (Or.inr rfl) (K I' (p + 1) true ?_ hI')
      show (if T p = 32 then (p + 1, true) else (p, false)) = _
      rw [if_pos h]
    · refine go_zreturn (cd := cd105) rfl (Or.inl rfl) (K I p false ?_ (pl_refl hT))
      show (if T p = 32 then (p + 1, true) else (p, false)) = _
      rw [if_neg h]
  | c :: l, p, I, P, hX, hl, hT, hp, K => by
    obtain ⟨x1, x2, x3⟩ := hX
    have hl : l.length + 1 ≤ 4 := hl
    have hp : p + (l.length + 1) < 2 ^ 29 := hp
    show aTo L xs fv 111 _ cd105 (4, [(3, .int (nI (l.length + 1) - 1)), (0, .ref 77), (1, .int X), (2, .int N)], [], aHp r rr I J) _
    rw [nI_pred]
    refine go_v (cd := cd105) [] 20 rfl ?_
    refine go_st (cd := cd105) 1 rfl (go_ifF (show ¬ nI l.length < 0 from Int32.not_lt.mpr (nI_pos' (by omega))) ?_)
    refine go_v (cd := cd105) [] 40 rfl ?_
    show aTo L xs fv 111 _ cd105 (20, _, [.int (96 + ((X >>> ((5 * nI l.length) &&& 31)) &&& 31)), .ref 77], aHp r rr I J) _
    rw [x1]
    refine go_callv (cd := cd105) rfl rfl rfl rfl rfl (lv3 rfl) rfl (rl_sign (z := c) hT (by omega) rfl x2 (fun h I' hI' => ⟨rfl, ?_⟩) (fun h => ⟨rfl, ?_⟩))
    · refine go_st (cd := cd105) 1 rfl (go_ifF (by decide) ?_)
      refine go_v (cd := cd105) [4] 20 rfl ?_
      have e : nI l.length + -1 = nI l.length - 1 := by grind
      refine go_sb (rl_word (N := N) l (p + 1) I' P x3 (by omega) (rtl_pl hT hI') (by omega) (fun I2 q b hr hI2 => K I2 q b ?_ (pl_trans hI' hI2))) ⟨?_, rfl, rfl, rfl, trivial⟩ rfl rfl rfl
      · show (if T p = c then pW T (l ++ [32]) (p + 1) else (p, false)) = _
        rw [if_pos h]; exact hr
      · exact congrArg (fun z => some (Value.int z)) e
    · refine go_st (cd := cd105) 1 rfl (go_ifT rfl ?_)
      refine go_v (cd := cd105) [] 20 rfl ?_
      refine go_zreturn (cd := cd105) rfl (Or.inl rfl) (K I p false ?_ (pl_refl hT))
      show (if T p = c then pW T (l ++ [32]) (p + 1) else (p, false)) = _
      rw [if_neg h]
end RL
