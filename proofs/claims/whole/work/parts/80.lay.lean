/-! who follows: the reference lays it, the class settles it -/
section LF
variable {L : Nat} {xs : Nat → Int32} {fv : Value} {d : Nat} {r : Nat} {rr : Option Nat} {I : Nat → Nat → Int32} {J : Nat → Nat → Int64} {P : Option Value → aH → Prop}
variable {A : List Cl} {F : Nat}
def folC (A : List Cl) (a n : Nat) (c : Nat → Int32) : Prop := (∀ a', a' < a → ∀ b, b < 4 → c (4 * a' + b) = nI (folA A a' b)) ∧ ∀ b, b < n → b ≠ a → c (4 * a + b) = nI (folA A a b)
theorem folC_put {a n : Nat} {c : Nat → Int32} {x : Int32} (h : folC A a n c) (ha : a < 4) (hn : n < 4) (hx : n ≠ a → x = nI (folA A a n)) : folC A a (n + 1) (fun q => if q = 4 * a + n then x else c q) := by
  refine ⟨fun a' h1 b h2 => ?_, fun b h1 h2 => ?_⟩
  · show (if 4 * a' + b = 4 * a + n then x else c _) = _
    rw [if_neg (by omega)]; exact h.1 a' h1 b h2
  · show (if 4 * a + b = 4 * a + n then x else c _) = _
    by_cases hb : b = n
    · subst hb; rw [if_pos rfl]; exact hx h2
    · rw [if_neg (by omega)]; exact h.2 b (by omega) h2
theorem folC_end {a : Nat} {c : Nat → Int32} {x : Int32} (h : folC A a 4 c) (ha : a < 4) (hx : x = nI (folL A a 4)) : folC A (a + 1) 0 (fun q => if q = 5 * a then x else c q) := by
  refine ⟨fun a' h1 b h2 => ?_, fun b h1 => absurd h1 (by omega)⟩
  show (if 4 * a' + b = 5 * a then x else c _) = _
  by_cases hb : 4 * a' + b = 5 * a
  · rw [if_pos hb]
    have : a' = a ∧ b = a := by omega
    obtain ⟨rfl, rfl⟩ := this
    rw [hx]; unfold folA; rw [if_pos rfl]
  · rw [if_neg hb]
    by_cases ha' : a' = a
    · subst ha'; exact h.2 b h2 (by omega)
    · exact h.1 a' (by omega) b h2
theorem folL_step {a n : Nat} (h : n ≠ a) : folL A a (n + 1) = folL A a n - folA A a n ∧ folA A a n ≤ folL A a n := by
  unfold folA
  rw [if_neg h]
  refine ⟨?_, Nat.min_le_left _ _⟩
  show (if n = a then _ else _) = _
  rw [if_neg h]
theorem lay_in {a : Nat} (hH : rH A F I) (ha : a < 4) (K : ∀ c, folC A a 4 c → aTo L xs fv 111 (d + 2) cd125 (78, [(3, .int (nI 4)), (2, .int (nI (folL A a 4))), (1, .int (nI a)), (0, .ref 77)], [], aHp r rr (up1 I 90 c) J) P) : ∀ m n c, n + m = 4 → folC A a n c → aTo L xs fv 111 (d + 2) cd125 (12, [(3, .int (nI n)), (2, .int (nI (folL A a n))), (1, .int (nI a)), (0, .ref 77)], [], aHp r rr (up1 I 90 c) J) P
  | 0, n, c, hn, hc => by
    have hn : n = 4 := hn
    subst hn
    refine go_v (cd := cd125) [] 9 rfl ?_
    refine go_st (cd := cd125) 1 rfl (go_ifT (by decide) ?_)
    exact K c hc
  | m + 1, n, c, hn, hc => by
    have hA := hH.2.1
    have hfl := folL_le A a n
    have hla := lastA_le hA 3 (4 * a + n)
    have hH' : rH A F (up1 I 90 c) := rH_c (I := I) rfl rfl rfl rfl rfl rfl rfl rfl hH
    refine go_v (cd := cd125) [] 9 rfl ?_
    refine go_st (cd := cd125) 1 rfl (go_ifF (nI_ge (b := 4) (by omega) (by decide)) ?_)
    refine go_v (cd := cd125) [] 9 rfl ?_
    by_cases hna : a = n
    · refine go_st (cd := cd125) 1 rfl (go_ifT (by rw [hna]) ?_)
      refine go_v (cd := cd125) [12] 9 rfl ?_
      have hl : folL A a (n + 1) = folL A a n := if_pos hna.symm
      have hc' : folC A a (n + 1) c := ⟨hc.1, fun b h1 h2 => hc.2 b (by omega) h2⟩
      have ih := lay_in hH ha K m (n + 1) c (by omega) hc'
      rw [hl, nI_succ] at ih
      exact go_sb ih ⟨rfl, rfl, rfl, rfl, trivial⟩ rfl rfl rfl
    · refine go_st (cd := cd125) 1 rfl (go_ifF (by rw [nI_eq (by omega) (by omega)]; exact hna) ?_)
      refine go_v (cd := cd125) [] 9 rfl ?_
      refine go_callv (cd := cd125) rfl rfl rfl rfl rfl (lv3 rfl) rfl (cl_rlast (w := 3) (p := 4 * a + n) hH' rfl (by rw [show (4 : Int32) = nI 4 from rfl, nI_mul, nI_add]) (Or.inr ⟨rfl, by omega⟩) ⟨rfl, ?_⟩)
      refine go_v (cd := cd125) [] 20 rfl ?_
      have hst := folL_step (A := A) (a := a) (n := n) (fun h => hna h.symm)
      have hfa : folA A a n = min (folL A a n) (lastA A 3 (4 * a + n)) := if_neg (fun h => hna h.symm)
      have hix : (4 : Int32) * nI a + nI n = nI (4 * a + n) := by rw [show (4 : Int32) = nI 4 from rfl, nI_mul, nI_add]
      have hin : ∀ x : Nat, x = folA A a n → aTo L xs fv 111 (d + 2) cd125 (58, [(4, .int (nI (lastA A 3 (4 * a + n)))), (3, .int (nI n)), (2, .int (nI (folL A a n))), (1, .int (nI a)), (0, .ref 77)], [.int (nI x), .int (4 * nI a + nI n), .ref 90], aHp r rr (up1 I 90 c) J) P := fun x hx => by
        rw [hix]
        refine go_iast (cd := cd125) rfl (nI_vin (n := 16) (by omega) (by decide)) (lv3 rfl) rfl ?_
        rw [nI_clamp (by omega), up21_1]
        refine go_v (cd := cd125) [] 20 rfl ?_
        rw [hix]
        refine go_iald (cd := cd125) rfl (nI_vin (n := 16) (by omega) (by decide)) (lv3 rfl) rfl ?_
        rw [nI_clamp (by omega), up1_e, if_pos rfl]
        refine go_v (cd := cd125) [12] 20 rfl ?_
        have ih := lay_in hH ha K m (n + 1) _ (by omega) (folC_put hc ha (by omega) (x := nI x) (fun _ => by rw [hx]))
        refine go_sb ih ⟨by rw [nI_succ]; rfl, by rw [hst.1, ← hx, ← nI_sub (by rw [hx]; exact hst.2)]; rfl, rfl, rfl, trivial⟩ rfl rfl rfl
      by_cases hle : lastA A 3 (4 * a + n) ≤ folL A a n
      · refine go_st (cd := cd125) 1 rfl (go_ifT (nI_le hle (by omega)) ?_)
        refine go_v (cd := cd125) [58] 9 rfl ?_
        exact hin _ (by rw [hfa, Nat.min_eq_right hle])
      · refine go_st (cd := cd125) 1 rfl (go_ifF (nI_ge (by omega) (by omega)) ?_)
        refine go_v (cd := cd125) [58] 9 rfl ?_
        exact hin _ (by rw [hfa, Nat.min_eq_left (by omega)])
theorem lay_out (hH : rH A F I) (K : ∀ c, (∀ a b, a < 4 → b < 4 → c (4 * a + b) = nI (folA A a b)) → P none (aHp r rr (up1 I 90 c) J)) : ∀ m a c, a + m = 4 → folC A a 0 c → ∀ ls, sbA [(1, .int (nI a)), (0, .ref 77)] ls → sbB [(1, .int (nI a)), (0, .ref 77)] ls = true → sbN ls = true → aTo L xs fv 111 (d + 2) cd125 (2, ls, [], aHp r rr (up1 I 90 c) J) P
  | 0, a, c, ha, hc, ls, h1, h2, h3 => by
    have ha : a = 4 := ha
    subst ha
    refine go_sub h1 h2 h3 rfl ?_
    refine go_v (cd := cd125) [] 9 rfl ?_
    refine go_st (cd := cd125) 1 rfl (go_ifT (by decide) ?_)
    exact go_return (cd := cd125) rfl (K c (fun a b h1 h2 => hc.1 a h1 b h2))
  | m + 1, a, c, ha, hc, ls, h1, h2, h3 => by
    refine go_sub h1 h2 h3 rfl ?_
    refine go_v (cd := cd125) [] 9 rfl ?_
    refine go_st (cd := cd125) 1 rfl (go_ifF (nI_ge (b := 4) (by omega) (by decide)) ?_)
    refine go_v (cd := cd125) [12] 9 rfl ?_
    refine go_sub (l' := [(3, .int (nI 0)), (2, .int (nI (folL A a 0))), (1, .int (nI a)), (0, .ref 77)]) ⟨rfl, rfl, rfl, rfl, trivial⟩ rfl rfl rfl ?_
    refine lay_in hH (by omega) (fun c hc => ?_) 4 0 c rfl hc
    refine go_v (cd := cd125) [] 20 rfl ?_
    rw [show (5 : Int32) * nI a = nI (5 * a) from nI_mul 5 a]
    have hfl := folL_le A a 4
    refine go_iast (cd := cd125) rfl (nI_vin (n := 16) (by omega) (by decide)) (lv3 rfl) rfl ?_
    rw [nI_clamp (by omega), up21_1]
    refine go_v (cd := cd125) [2] 20 rfl ?_
    exact lay_out hH K m (a + 1) _ (by omega) (folC_end hc (by omega) rfl) _ ⟨by rw [nI_succ a]; rfl, rfl, trivial⟩ rfl rfl
theorem cl_lay (hH : rH A F I) (K : ∀ c, (∀ a b, a < 4 → b < 4 → c (4 * a + b) = nI (folA A a b)) → P none (aHp r rr (up1 I 90 c) J)) : aCl L xs fv 111 (d + 3) 125 [.ref 77] (aHp r rr I J) P := by
  refine cl_of rfl (Nat.le_add_right _ _) ?_
  refine go_v (cd := cd125) [2] 9 rfl ?_
  have h := lay_out (L := L) (xs := xs) (fv := fv) (d := d) hH K 4 0 (I 90) rfl ⟨fun a h => absurd h (by omega), fun b h => absurd h (by omega)⟩ [(1, .int 0), (0, .ref 77)] ⟨rfl, rfl, trivial⟩ rfl rfl
  rw [up1_id] at h
  exact h
/-- as it is: who is aboard, who is awake, who follows -/
theorem cl_asIs (hH : rH A F I) (K : ∀ c, (∀ a b, a < 4 → b < 4 → c (4 * a + b) = nI (folA A a b)) → P none (aHp r rr (up1 (up2 (up2 I 77 34 (I 77 2)) 77 35 (I 77 3)) 90 c) J)) : aCl L xs fv 111 (d + 4) 136 [.ref 77] (aHp r rr I J) P := by
  refine cl_of rfl (Nat.le_add_right _ _) ?_
  refine go_v (cd := cd136) [] 20 rfl ?_
  show aTo L xs fv 111 (d + 3) cd136 (17, [(0, .ref 77)], [.ref 77], aHp r rr (up2 (up2 I 77 34 (I 77 2)) 77 35 (I 77 3)) J) P
  refine go_callv (cd := cd136) rfl rfl rfl rfl rfl (lv3 rfl) rfl (cl_lay (F := F) (A := A) (rH_c (I := I) rfl rfl rfl rfl rfl rfl rfl rfl hH) (fun c hc => ⟨rfl, ?_⟩))
  exact go_return (cd := cd136) rfl (K c hc)
end LF
