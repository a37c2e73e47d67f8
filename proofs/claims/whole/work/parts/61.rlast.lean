/-! a race's clauses, as the reference reads them -/
theorem nI_mul (a b : Nat) : nI a * nI b = nI (a * b) := (Int32.ofNat_mul a b).symm
theorem nI_sub {a b : Nat} (h : b ≤ a) : nI a - nI b = nI (a - b) := by
  have e : nI a = nI (a - b) + nI b := by rw [nI_add, Nat.sub_add_cancel h]
  rw [e]; exact Int32.add_sub_cancel _ _
theorem nI_ite {p : Prop} [Decidable p] (a b : Nat) : (if p then nI a else nI b) = nI (if p then a else b) := by split <;> rfl
section SE
variable {L : Nat} {xs : Nat → Int32} {fv : Value} {n0 d : Nat} {cd : Nat → Option aI} {P : Option Value → aH → Prop}
/-- two ways to one place -/
theorem go_sel {p : Prop} [Decidable p] {a b q : Nat} {ls ls' : aL} {st r : List Value} {x y : Int32} {h : aH} (kA : aTo L xs fv n0 d cd (q, ls', .int x :: r, h) P → aTo L xs fv n0 d cd (a, ls, st, h) P) (kB : aTo L xs fv n0 d cd (q, ls', .int y :: r, h) P → aTo L xs fv n0 d cd (b, ls, st, h) P) (k : aTo L xs fv n0 d cd (q, ls', .int (if p then x else y) :: r, h) P) : aTo L xs fv n0 d cd (if p then a else b, ls, st, h) P := by
  by_cases hp : p
  · rw [if_pos hp] at k ⊢; exact kA k
  · rw [if_neg hp] at k ⊢; exact kB k
end SE
theorem lastA_succ {A : List Cl} {j : Nat} {q : Cl} (h : A[j]? = some q) (w p : Nat) : lastA (A.take (j + 1)) w p = if q.1 = w ∧ q.2.2.1 = p then q.2.1 else lastA (A.take j) w p := by
  unfold lastA
  rw [List.take_add_one, h, List.foldl_append]
  rfl
theorem stA_succ {A : List Cl} {j : Nat} {q : Cl} (h : A[j]? = some q) : stA A (j + 1) = stA A j + q.2.2.2.length := by
  unfold stA
  rw [List.take_add_one, h, List.map_append, List.sum_append]
  rfl
theorem stA_le {A : List Cl} : ∀ {a b : Nat}, a ≤ b → stA A a ≤ stA A b
  | a, 0, h => by rw [Nat.le_zero.mp h]; exact Nat.le_refl _
  | a, b + 1, h => by
    by_cases he : a = b + 1
    · rw [he]; exact Nat.le_refl _
    · refine Nat.le_trans (stA_le (show a ≤ b by omega)) ?_
      cases hq : A[b]? with
      | none =>
        unfold stA
        rw [List.take_add_one, hq]
        simp
      | some q => rw [stA_succ hq]; omega
theorem stA_all {A : List Cl} {a : Nat} : stA A a ≤ stA A A.length := by
  by_cases h : a ≤ A.length
  · exact stA_le h
  · unfold stA
    rw [List.take_of_length_le (by omega), List.take_of_length_le (Nat.le_refl _)]
    exact Nat.le_refl _
/-- which race holds, to the reference -/
def rH (A : List Cl) (F : Nat) (I : Nat → Nat → Int32) : Prop := F < 5 ∧ rcWf A ∧ ((I 77 11 = -1 ∧ F = 0 ∧ A = []) ∨ (I 77 11 = nI F ∧ rcR A F I))
theorem rH_cl {A : List Cl} {F : Nat} {I : Nat → Nat → Int32} (h : rH A F I) {c : Nat} {q : Cl} (hq : A[c]? = some q) : c < 10 ∧ c < A.length ∧ q ∈ A ∧ I 82 (10 * F + c) = nI q.1 ∧ I 83 (10 * F + c) = nI q.2.1 ∧ (q.1 = 3 → I 84 (10 * F + c) = nI q.2.2.1) ∧ (q.1 ≤ 1 → I 85 (10 * F + c) = nI (100 * F + stA A c) ∧ I 86 (10 * F + c) = nI (100 * F + stA A (c + 1)) ∧ ∀ j e, q.2.2.2[j]? = some e → I 87 (100 * F + stA A c + j) = rcI e) := by
  have hc : c < A.length := (List.getElem?_eq_some_iff.mp hq).1
  obtain ⟨hF, hw, ⟨-, -, e⟩ | ⟨-, h1, h2⟩⟩ := h
  · subst e; cases hq
  · exact ⟨by have := hw.1; omega, hc, List.mem_of_getElem? hq, h2 c q hq⟩
theorem rH_c {A : List Cl} {F : Nat} {I I' : Nat → Nat → Int32} (h0 : I' 77 11 = I 77 11) (h1 : I' 81 = I 81) (h2 : I' 82 = I 82) (h3 : I' 83 = I 83) (h4 : I' 84 = I 84) (h5 : I' 85 = I 85) (h6 : I' 86 = I 86) (h7 : I' 87 = I 87) (h : rH A F I) : rH A F I' := by
  refine ⟨h.1, h.2.1, ?_⟩
  rw [h0]
  exact h.2.2.imp id (fun k => ⟨k.1, rcR_c h1 h2 h3 h4 h5 h6 h7 k.2⟩)
section RC
variable {L : Nat} {xs : Nat → Int32} {fv : Value} {d : Nat} {r : Nat} {rr : Option Nat} {I : Nat → Nat → Int32} {J : Nat → Nat → Int64} {P : Option Value → aH → Prop}
variable {A : List Cl} {F : Nat}
theorem cl_first (hH : rH A F I) (k : P (some (.int (nI (10 * F)))) (aHp r rr I J)) : aCl L xs fv 111 (d + 1) 119 [.ref 77] (aHp r rr I J) P := by
  refine cl_of rfl (Nat.le_add_right _ _) ?_
  obtain ⟨hF, hw, ⟨h1, h2, h3⟩ | ⟨h1, h2⟩⟩ := hH
  · have hn : ¬ (0 ≤ I 77 11) := by rw [h1]; decide
    subst h2
    repeat' (first
      | (refine go_v (cd := cd119) [] 300 rfl ?_; try simp (disch := decide) only [av0, av1, av3, up2_e, up2_s, up2_o, up1_e, up1_o])
      | refine go_st (cd := cd119) 1 rfl (go_ifT (by decide) ?_)
      | refine go_st (cd := cd119) 1 rfl (go_ifF (by decide) ?_)
      | refine go_st (cd := cd119) 1 rfl (go_ifT (by assumption) ?_)
      | refine go_st (cd := cd119) 1 rfl (go_ifF (by assumption) ?_)
      | (refine go_st (cd := cd119) 1 rfl (go_if (fun hq => ?_) (fun hq => ?_)))
      | refine go_ireturn (cd := cd119) rfl ?_
      | refine go_zreturn (cd := cd119) rfl (Or.inl rfl) ?_
      | refine go_zreturn (cd := cd119) rfl (Or.inr rfl) ?_
      | refine go_lreturn (cd := cd119) rfl ?_
      | refine go_areturn (cd := cd119) rfl ?_
      | refine go_areturnN (cd := cd119) rfl ?_
      | refine go_return (cd := cd119) rfl ?_)
    all_goals exact k
  · have hn : 0 ≤ I 77 11 := by rw [h1]; exact nI_pos' (by omega)
    have e : 10 * I 77 11 = nI (10 * F) := by rw [h1]; exact nI_mul 10 F
    rw [← e] at k
    repeat' (first
      | (refine go_v (cd := cd119) [] 300 rfl ?_; try simp (disch := decide) only [av0, av1, av3, up2_e, up2_s, up2_o, up1_e, up1_o])
      | refine go_st (cd := cd119) 1 rfl (go_ifT (by decide) ?_)
      | refine go_st (cd := cd119) 1 rfl (go_ifF (by decide) ?_)
      | refine go_st (cd := cd119) 1 rfl (go_ifT (by assumption) ?_)
      | refine go_st (cd := cd119) 1 rfl (go_ifF (by assumption) ?_)
      | (refine go_st (cd := cd119) 1 rfl (go_if (fun hq => ?_) (fun hq => ?_)))
      | refine go_ireturn (cd := cd119) rfl ?_
      | refine go_zreturn (cd := cd119) rfl (Or.inl rfl) ?_
      | refine go_zreturn (cd := cd119) rfl (Or.inr rfl) ?_
      | refine go_lreturn (cd := cd119) rfl ?_
      | refine go_areturn (cd := cd119) rfl ?_
      | refine go_areturnN (cd := cd119) rfl ?_
      | refine go_return (cd := cd119) rfl ?_)
    all_goals exact k
theorem cl_behind (hH : rH A F I) (k : P (some (.int (nI (10 * F + A.length)))) (aHp r rr I J)) : aCl L xs fv 111 (d + 1) 120 [.ref 77] (aHp r rr I J) P := by
  refine cl_of rfl (Nat.le_add_right _ _) ?_
  obtain ⟨hF, hw, ⟨h1, h2, h3⟩ | ⟨h1, h2⟩⟩ := hH
  · have hn : ¬ (0 ≤ I 77 11) := by rw [h1]; decide
    subst h2; subst h3
    repeat' (first
      | (refine go_v (cd := cd120) [] 300 rfl ?_; try simp (disch := decide) only [av0, av1, av3, up2_e, up2_s, up2_o, up1_e, up1_o])
      | refine go_st (cd := cd120) 1 rfl (go_ifT (by decide) ?_)
      | refine go_st (cd := cd120) 1 rfl (go_ifF (by decide) ?_)
      | refine go_st (cd := cd120) 1 rfl (go_ifT (by assumption) ?_)
      | refine go_st (cd := cd120) 1 rfl (go_ifF (by assumption) ?_)
      | (refine go_st (cd := cd120) 1 rfl (go_if (fun hq => ?_) (fun hq => ?_)))
      | refine go_ireturn (cd := cd120) rfl ?_
      | refine go_zreturn (cd := cd120) rfl (Or.inl rfl) ?_
      | refine go_zreturn (cd := cd120) rfl (Or.inr rfl) ?_
      | refine go_lreturn (cd := cd120) rfl ?_
      | refine go_areturn (cd := cd120) rfl ?_
      | refine go_areturnN (cd := cd120) rfl ?_
      | refine go_return (cd := cd120) rfl ?_)
    all_goals exact k
  · have hn : 0 ≤ I 77 11 := by rw [h1]; exact nI_pos' (by omega)
    have e : 10 * I 77 11 + I 81 F = nI (10 * F + A.length) := by rw [h1, h2.1, show (10 : Int32) = nI 10 from rfl, nI_mul, nI_add]
    have hf : (I 77 11).toNatClampNeg = F := by rw [h1]; exact nI_clamp (by omega)
    rw [← e] at k
    repeat' (first
      | (refine go_v (cd := cd120) [] 300 rfl ?_; try simp (disch := decide) only [av0, av1, av3, up2_e, up2_s, up2_o, up1_e, up1_o])
      | refine go_st (cd := cd120) 1 rfl (go_ifT (by decide) ?_)
      | refine go_st (cd := cd120) 1 rfl (go_ifF (by decide) ?_)
      | refine go_st (cd := cd120) 1 rfl (go_ifT (by assumption) ?_)
      | refine go_st (cd := cd120) 1 rfl (go_ifF (by assumption) ?_)
      | (refine go_st (cd := cd120) 1 rfl (go_if (fun hq => ?_) (fun hq => ?_)))
      | refine go_ireturn (cd := cd120) rfl ?_
      | refine go_zreturn (cd := cd120) rfl (Or.inl rfl) ?_
      | refine go_zreturn (cd := cd120) rfl (Or.inr rfl) ?_
      | refine go_lreturn (cd := cd120) rfl ?_
      | refine go_areturn (cd := cd120) rfl ?_
      | refine go_areturnN (cd := cd120) rfl ?_
      | refine go_return (cd := cd120) rfl ?_
      | (refine go_iald (cd := cd120) rfl (by rw [h1]; exact nI_vin (n := 5) hF (by decide)) (lv3 rfl) rfl ?_; try simp only [hf]))
    all_goals exact k
theorem rlast_loop {w p : Nat} {w' p' : Int32} (hH : rH A F I) (hw' : w' = nI w) (hp' : p' = nI p) (hw : (w = 2 ∧ p = 0) ∨ (w = 3 ∧ p < 16)) (k : P (some (.int (nI (lastA A w p)))) (aHp r rr I J)) : ∀ m j, j + m = A.length → aTo L xs fv 111 (d + 1) cd121 (8, [(4, .int (nI (10 * F + j))), (3, .int (nI (lastA (A.take j) w p))), (0, .ref 77), (1, .int w'), (2, .int p')], [], aHp r rr I J) P
  | 0, j, hj => by
    have hj : j = A.length := hj
    have hlen := hH.2.1.1
    have hF := hH.1
    refine go_v (cd := cd121) [] 9 rfl ?_
    refine go_callv (cd := cd121) rfl rfl rfl rfl rfl (lv3 rfl) rfl (cl_behind hH ⟨rfl, ?_⟩)
    refine go_st (cd := cd121) 1 rfl (go_ifT (by rw [hj]; exact nI_le (Nat.le_refl _) (by omega)) ?_)
    refine go_v (cd := cd121) [] 9 rfl ?_
    refine go_ireturn (cd := cd121) rfl ?_
    rw [hj, List.take_of_length_le (Nat.le_refl _)]
    exact k
  | m + 1, j, hj => by
    have hlen := hH.2.1.1
    have hF := hH.1
    have hjl : j < A.length := by omega
    obtain ⟨q, hq⟩ : ∃ q, A[j]? = some q := ⟨A[j], List.getElem?_eq_getElem hjl⟩
    obtain ⟨c1, c2, c3, e82, e83, e84, -⟩ := rH_cl hH hq
    obtain ⟨b1, b2, b3, b4, -⟩ := hH.2.1.2.2 q c3
    have hcl : (nI (10 * F + j)).toNatClampNeg = 10 * F + j := nI_clamp (by omega)
    have hs := lastA_succ hq w p
    refine go_v (cd := cd121) [] 9 rfl ?_
    refine go_callv (cd := cd121) rfl rfl rfl rfl rfl (lv3 rfl) rfl (cl_behind hH ⟨rfl, ?_⟩)
    refine go_st (cd := cd121) 1 rfl (go_ifF (nI_ge (by omega) (by omega)) ?_)
    refine go_v (cd := cd121) [] 9 rfl ?_
    refine go_iald (cd := cd121) rfl (nI_vin (n := 50) (by omega) (by decide)) (lv3 rfl) rfl ?_
    rw [hcl, e82]
    have hend : aTo L xs fv 111 (d + 1) cd121 (55, [(4, .int (nI (10 * F + j))), (3, .int (nI (lastA (A.take j) w p))), (0, .ref 77), (1, .int w'), (2, .int p')], [.int (nI (lastA (A.take (j + 1)) w p))], aHp r rr I J) P := by
      refine go_v (cd := cd121) [8] 9 rfl ?_
      refine go_sub (l' := [(4, .int (nI (10 * F + (j + 1)))), (3, .int (nI (lastA (A.take (j + 1)) w p))), (0, .ref 77), (1, .int w'), (2, .int p')]) ⟨by rw [← Nat.add_assoc, nI_succ]; rfl, rfl, rfl, rfl, rfl, trivial⟩ rfl rfl rfl ?_
      exact rlast_loop hH hw' hp' hw k m (j + 1) (by omega)
    by_cases hqw : q.1 = w
    · refine go_v (cd := cd121) [] 1 rfl ?_
      refine go_st (cd := cd121) 1 rfl (go_ifT (by rw [hqw, hw']) ?_)
      rcases hw with ⟨h2, h3⟩ | ⟨h2, h3⟩
      · refine go_v (cd := cd121) [] 9 rfl ?_
        refine go_st (cd := cd121) 1 rfl (go_ifT (by rw [hw', h2]; rfl) ?_)
        refine go_v (cd := cd121) [] 9 rfl ?_
        refine go_iald (cd := cd121) rfl (nI_vin (n := 50) (by omega) (by decide)) (lv3 rfl) rfl ?_
        rw [hcl, e83]
        refine go_v (cd := cd121) [55] 9 rfl ?_
        rw [hs, if_pos ⟨hqw, by rw [b4 (by omega), h3]⟩] at hend
        exact hend
      · refine go_v (cd := cd121) [] 9 rfl ?_
        refine go_st (cd := cd121) 1 rfl (go_ifF (by rw [hw', h2]; decide) ?_)
        refine go_v (cd := cd121) [] 9 rfl ?_
        refine go_iald (cd := cd121) rfl (nI_vin (n := 50) (by omega) (by decide)) (lv3 rfl) rfl ?_
        rw [hcl, e84 (by omega)]
        refine go_v (cd := cd121) [] 1 rfl ?_
        by_cases hqp : q.2.2.1 = p
        · refine go_st (cd := cd121) 1 rfl (go_ifT (by rw [hqp, hp']) ?_)
          refine go_v (cd := cd121) [] 9 rfl ?_
          refine go_iald (cd := cd121) rfl (nI_vin (n := 50) (by omega) (by decide)) (lv3 rfl) rfl ?_
          rw [hcl, e83]
          refine go_v (cd := cd121) [55] 9 rfl ?_
          rw [hs, if_pos ⟨hqw, hqp⟩] at hend
          exact hend
        · refine go_st (cd := cd121) 1 rfl (go_ifF (by rw [hp', nI_eq (by omega) (by omega)]; exact hqp) ?_)
          refine go_v (cd := cd121) [55] 9 rfl ?_
          rw [hs, if_neg (fun h => hqp h.2)] at hend
          exact hend
    · refine go_v (cd := cd121) [] 1 rfl ?_
      refine go_st (cd := cd121) 1 rfl (go_ifF (by rw [hw', nI_eq (by omega) (by rcases hw with h | h <;> omega)]; exact hqw) ?_)
      refine go_v (cd := cd121) [55] 9 rfl ?_
      rw [hs, if_neg (fun h => hqw h.1)] at hend
      exact hend
theorem cl_rlast {w p : Nat} {w' p' : Int32} (hH : rH A F I) (hw' : w' = nI w) (hp' : p' = nI p) (hw : (w = 2 ∧ p = 0) ∨ (w = 3 ∧ p < 16)) (k : P (some (.int (nI (lastA A w p)))) (aHp r rr I J)) : aCl L xs fv 111 (d + 2) 121 [.ref 77, .int w', .int p'] (aHp r rr I J) P := by
  refine cl_of rfl (Nat.le_add_right _ _) ?_
  refine go_v (cd := cd121) [] 9 rfl ?_
  refine go_callv (cd := cd121) rfl rfl rfl rfl rfl (lv3 rfl) rfl (cl_first hH ⟨rfl, ?_⟩)
  refine go_v (cd := cd121) [8] 9 rfl ?_
  refine go_sub (l' := [(4, .int (nI (10 * F + 0))), (3, .int (nI (lastA (A.take 0) w p))), (0, .ref 77), (1, .int w'), (2, .int p')]) ⟨rfl, rfl, rfl, rfl, rfl, trivial⟩ rfl rfl rfl ?_
  exact rlast_loop hH hw' hp' hw k A.length 0 (by omega)
end RC
