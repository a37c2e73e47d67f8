/-! the class reads a clause, and lays it -/
def phK (b : Nat) (I I' : Nat → Nat → Int32) (q : Nat) : Prop := (∀ j, j ≠ 9 → (j < b ∨ b + 5 < j) → I' j = I j) ∧ (∀ z, z ≠ 2 → z ≠ 3 → I' 9 z = I 9 z) ∧ (∀ z, z ≠ 0 → z ≠ 6 → I' b z = I b z) ∧ I' 9 2 = nI q
theorem phK_trans {b p q : Nat} {I I1 I2 : Nat → Nat → Int32} (h : phK b I I1 p) (h' : phK b I1 I2 q) : phK b I I2 q := ⟨fun j a c => (h'.1 j a c).trans (h.1 j a c), fun z a c => (h'.2.1 z a c).trans (h.2.1 z a c), fun z a c => (h'.2.2.1 z a c).trans (h.2.2.1 z a c), h'.2.2.2⟩
theorem phK_of {b q : Nat} {I I' : Nat → Nat → Int32} {cs : List Nat} (h : cst b I I' q cs) : phK b I I' q := ⟨fun j a c => h.1 j a (by omega) (by omega), h.2.1, fun z _ a => h.2.2.1 z a, h.2.2.2.1⟩
theorem ctx_phK {T : Nat → Nat} {len b q : Nat} {I I' : Nat → Nat → Int32} (hb : 12 ≤ b) (h : ctx T len I) (h' : phK b I I' q) : ctx T len I' := ⟨h.1, (h'.2.1 1 (by decide) (by decide)).trans h.2.1, fun p hp => by rw [h'.1 10 (by decide) (by omega)]; exact h.2.2 p hp⟩
def rdC (b : Nat) (A : List Cl) (I : Nat → Nat → Int32) : Prop := I b 0 = nI A.length ∧ I b 6 = nI (cdA A).length ∧ (∀ c q, A[c]? = some q → I (b + 1) c = nI q.1 ∧ I (b + 2) c = nI q.2.1 ∧ I (b + 3) c = nI q.2.2.1 ∧ I (b + 4) c = nI (stA A (c + 1))) ∧ ∀ j e, (cdA A)[j]? = some e → I (b + 5) j = nI e
theorem rdC_C {b : Nat} {A : List Cl} {I : Nat → Nat → Int32} (h : rdC b A I) : rcC A b I := by
  refine ⟨h.1, fun c q hq => ?_⟩
  obtain ⟨h1, h2, h3, h4⟩ := h.2.2.1 c q hq
  exact ⟨h1, h2, h3, h4, fun j e he => h.2.2.2 _ e (cdA_get hq he)⟩
theorem rdC_cst {b p : Nat} {A : List Cl} {I : Nat → Nat → Int32} (h : rdC b A I) (hp : I 9 2 = nI p) : cst b I I p (cdA A) := ⟨fun _ _ _ _ => rfl, fun _ _ _ => rfl, fun _ _ => rfl, hp, h.2.1, h.2.2.2⟩
section CD
variable {L : Nat} {xs : Nat → Int32} {fv : Value} {d : Nat} {r : Nat} {I : Nat → Nat → Int32} {J : Nat → Nat → Int64} {P : Option Value → aH → Prop}
variable {T : Nat → Nat} {len b : Nat} {I0 : Nat → Nat → Int32} {p : Nat} {A : List Cl}
theorem cl_close {cl : Cl} {ds : List Nat} (hB : isB b) (hb : 12 ≤ b) (hA : rdC b A I0) (hAl : A.length < 10) (hS : cst b I0 I p (cdA A ++ ds)) (hds : cl.2.2.2 = ds) (K : ∀ I', phK b I0 I' p → rdC b (A ++ [cl]) I' → P none (aHp r (some b) I' J)) : aCl L xs fv 111 (d + 1) 3 [.ref b, .int (nI cl.1), .int (nI cl.2.1), .int (nI cl.2.2.1)] (aHp r (some b) I J) P := by
  have s1 := hS.1
  have s3 := hS.2.2.1
  have h0 : I b 0 = nI A.length := (s3 0 (by decide)).trans hA.1
  have h6 := hS.2.2.2.2.1
  have hcl : nI A.length = nI A.length := rfl
  refine cl_of rfl (Nat.le_add_right _ _) ?_
  refine go_v (cd := cd3) [1] 20 rfl ?_
  refine go_get (cd := cd3) rfl (isB_lt hB) (isB_k hB) ?_
  rw [av0, h0]
  refine go_v (cd := cd3) [] 20 rfl ?_
  refine go_st (cd := cd3) 1 rfl (go_ifF (nI_ge (b := 10) hAl (by decide)) ?_)
  refine go_v (cd := cd3) [10] 20 rfl ?_
  refine go_getR (cd := cd3) rfl (isB_lt hB) (isB_k hB) (isB_R hB).1 ?_
  refine go_v (cd := cd3) [14] 20 rfl ?_
  refine go_get (cd := cd3) rfl (isB_lt hB) (isB_k hB) ?_
  rw [av0, h0]
  refine go_v (cd := cd3) [] 20 rfl ?_
  refine go_iast (cd := cd3) rfl (isB_i1 hB hAl).1 (isB_lt7 hB (by decide)) (isB_k1 hB).1 ?_
  rw [nI_clamp (show A.length < 2 ^ 31 by omega)]
  refine go_v (cd := cd3) [20] 20 rfl ?_
  refine go_getR (cd := cd3) rfl (isB_lt hB) (isB_k hB) (isB_R hB).2.1 ?_
  refine go_v (cd := cd3) [24] 20 rfl ?_
  refine go_get (cd := cd3) rfl (isB_lt hB) (isB_k hB) ?_
  rw [av0, up2_ne (show b ≠ b + 1 by omega), h0]
  refine go_v (cd := cd3) [] 20 rfl ?_
  refine go_iast (cd := cd3) rfl (isB_i1 hB hAl).2.1 (isB_lt7 hB (by decide)) (isB_k1 hB).2.1 ?_
  rw [nI_clamp (show A.length < 2 ^ 31 by omega)]
  refine go_v (cd := cd3) [30] 20 rfl ?_
  refine go_getR (cd := cd3) rfl (isB_lt hB) (isB_k hB) (isB_R hB).2.2.1 ?_
  refine go_v (cd := cd3) [34] 20 rfl ?_
  refine go_get (cd := cd3) rfl (isB_lt hB) (isB_k hB) ?_
  rw [av0, up2_ne (show b ≠ b + 2 by omega), up2_ne (show b ≠ b + 1 by omega), h0]
  refine go_v (cd := cd3) [] 20 rfl ?_
  refine go_iast (cd := cd3) rfl (isB_i1 hB hAl).2.2.1 (isB_lt7 hB (by decide)) (isB_k1 hB).2.2.1 ?_
  rw [nI_clamp (show A.length < 2 ^ 31 by omega)]
  refine go_v (cd := cd3) [40] 20 rfl ?_
  refine go_getR (cd := cd3) rfl (isB_lt hB) (isB_k hB) (isB_R hB).2.2.2.1 ?_
  refine go_v (cd := cd3) [44] 20 rfl ?_
  refine go_get (cd := cd3) rfl (isB_lt hB) (isB_k hB) ?_
  rw [av0, up2_ne (show b ≠ b + 3 by omega), up2_ne (show b ≠ b + 2 by omega), up2_ne (show b ≠ b + 1 by omega), h0]
  refine go_v (cd := cd3) [48] 20 rfl ?_
  refine go_get (cd := cd3) rfl (isB_lt hB) (isB_k hB) ?_
  rw [av0, up2_ne (show b ≠ b + 3 by omega), up2_ne (show b ≠ b + 2 by omega), up2_ne (show b ≠ b + 1 by omega), h6]
  refine go_iast (cd := cd3) rfl (isB_i1 hB hAl).2.2.2 (isB_lt7 hB (by decide)) (isB_k1 hB).2.2.2.1 ?_
  rw [nI_clamp (show A.length < 2 ^ 31 by omega)]
  refine go_v (cd := cd3) [54] 20 rfl ?_
  refine go_get (cd := cd3) rfl (isB_lt hB) (isB_k hB) ?_
  rw [av0, up2_ne (show b ≠ b + 4 by omega), up2_ne (show b ≠ b + 3 by omega), up2_ne (show b ≠ b + 2 by omega), up2_ne (show b ≠ b + 1 by omega), h0]
  refine go_v (cd := cd3) [59] 20 rfl ?_
  refine go_putI (cd := cd3) rfl (isB_lt hB) (isB_k hB) ?_
  rw [← nI_succ]
  refine go_return (cd := cd3) rfl (K _ ⟨fun j a c => ?_, fun z a c => ?_, fun z a c => ?_, ?_⟩ ⟨?_, ?_, fun c q hq => ?_, fun j e he => ?_⟩)
  · rw [up2_ne (show j ≠ b by omega), up2_ne (show j ≠ b + 4 by omega), up2_ne (show j ≠ b + 3 by omega), up2_ne (show j ≠ b + 2 by omega), up2_ne (show j ≠ b + 1 by omega)]
    exact s1 j a (by omega) (by omega)
  · rw [up2_ne (show 9 ≠ b by omega), up2_ne (show 9 ≠ b + 4 by omega), up2_ne (show 9 ≠ b + 3 by omega), up2_ne (show 9 ≠ b + 2 by omega), up2_ne (show 9 ≠ b + 1 by omega)]
    exact hS.2.1 z a c
  · rw [up2_42 a, up2_ne (show b ≠ b + 4 by omega), up2_ne (show b ≠ b + 3 by omega), up2_ne (show b ≠ b + 2 by omega), up2_ne (show b ≠ b + 1 by omega)]
    exact s3 z c
  · rw [up2_ne (show 9 ≠ b by omega), up2_ne (show 9 ≠ b + 4 by omega), up2_ne (show 9 ≠ b + 3 by omega), up2_ne (show 9 ≠ b + 2 by omega), up2_ne (show 9 ≠ b + 1 by omega)]
    exact hS.2.2.2.1
  · rw [up2_e, List.length_append]; rfl
  · rw [up2_42 (by decide), up2_ne (show b ≠ b + 4 by omega), up2_ne (show b ≠ b + 3 by omega), up2_ne (show b ≠ b + 2 by omega), up2_ne (show b ≠ b + 1 by omega), h6, cdA_snoc, hds]
  · have hl := (List.getElem?_eq_some_iff.mp hq).1
    rw [List.length_append] at hl
    have hl : c < A.length + 1 := hl
    rw [up2_ne (show b + 1 ≠ b by omega), up2_ne (show b + 1 ≠ b + 4 by omega), up2_ne (show b + 1 ≠ b + 3 by omega), up2_ne (show b + 1 ≠ b + 2 by omega), up2_at]
    rw [up2_ne (show b + 2 ≠ b by omega), up2_ne (show b + 2 ≠ b + 4 by omega), up2_ne (show b + 2 ≠ b + 3 by omega), up2_at, up2_ne (show b + 2 ≠ b + 1 by omega)]
    rw [up2_ne (show b + 3 ≠ b by omega), up2_ne (show b + 3 ≠ b + 4 by omega), up2_at, up2_ne (show b + 3 ≠ b + 2 by omega), up2_ne (show b + 3 ≠ b + 1 by omega)]
    rw [up2_ne (show b + 4 ≠ b by omega), up2_at, up2_ne (show b + 4 ≠ b + 3 by omega), up2_ne (show b + 4 ≠ b + 2 by omega), up2_ne (show b + 4 ≠ b + 1 by omega)]
    by_cases hc : c = A.length
    · rw [if_pos hc, if_pos hc, if_pos hc, if_pos hc]
      subst hc
      rw [List.getElem?_append_right (Nat.le_refl _), Nat.sub_self] at hq
      have e : cl = q := Option.some.inj hq
      subst e
      refine ⟨rfl, rfl, rfl, ?_⟩
      rw [← hds, ← cdA_snoc, cdA_all, List.length_append]
      rfl
    · rw [if_neg hc, if_neg hc, if_neg hc, if_neg hc, s1 (b + 1) (by omega) (by omega) (by omega), s1 (b + 2) (by omega) (by omega) (by omega), s1 (b + 3) (by omega) (by omega) (by omega), s1 (b + 4) (by omega) (by omega) (by omega)]
      rw [List.getElem?_append_left (by omega)] at hq
      rw [show stA (A ++ [cl]) (c + 1) = stA A (c + 1) from by unfold stA; rw [List.take_append_of_le_length (by omega)]]
      exact hA.2.2.1 c q hq
  · rw [up2_ne (show b + 5 ≠ b by omega), up2_ne (show b + 5 ≠ b + 4 by omega), up2_ne (show b + 5 ≠ b + 3 by omega), up2_ne (show b + 5 ≠ b + 2 by omega), up2_ne (show b + 5 ≠ b + 1 by omega)]
    rw [cdA_snoc, hds] at he
    exact hS.2.2.2.2.2 j e he
end CD
