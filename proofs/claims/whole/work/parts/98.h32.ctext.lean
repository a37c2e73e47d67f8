/-! the class reads a text -/
theorem cond_c {α : Type} {x y : Nat} {a a' b b' : α} (h1 : x < y → a = a') (h2 : ¬ x < y → b = b') : cond (Nat.blt x y) a b = cond (Nat.blt x y) a' b' := by
  cases h : Nat.blt x y with
  | true => exact h1 (Nat.le_of_ble_eq_true h)
  | false => exact h2 (fun hh => by rw [show Nat.blt x y = true from Nat.ble_eq_true_of_le hh] at h; cases h)
theorem aRf_set {r b : Nat} {rr : Option Nat} : up2 (aRf r rr) 9 4 (some b) = aRf r (some b) := by
  funext i k
  by_cases h : i = 9 ∧ k = 4
  · obtain ⟨rfl, rfl⟩ := h
    rw [up2_e]; rfl
  · have e : up2 (aRf r rr) 9 4 (some b) i k = aRf r rr i k := by
      by_cases hi : i = 9
      · subst hi; rw [up2_42 (fun hk => h ⟨rfl, hk⟩)]
      · rw [up2_ne hi]
    rw [e]
    unfold aRf
    repeat' first
      | rfl
      | (exfalso; omega)
      | (refine cond_c (fun _ => ?_) (fun _ => ?_))
def phG (b : Nat) (I I' : Nat → Nat → Int32) : Prop := (∀ j, j ≠ 9 → (j < b ∨ b + 6 < j) → I' j = I j) ∧ ∀ z, z ≠ 2 → z ≠ 3 → I' 9 z = I 9 z
theorem phG_of {b q : Nat} {I I' : Nat → Nat → Int32} (h : phK b I I' q) : phG b I I' := ⟨fun j h1 h2 => h.1 j h1 (by omega), h.2.1⟩
section CF
variable {L : Nat} {xs : Nat → Int32} {fv : Value} {d : Nat} {r : Nat} {J : Nat → Nat → Int64} {P : Option Value → aH → Prop}
variable {T : Nat → Nat} {len b : Nat}
theorem lst_of {A : List Cl} {rr : Option Nat} (hB : isB b) (hA : rcWf A) : lstP L xs fv 111 d (111 + 3 * r) J (aRf r rr) b A := fun I w p Q hC hw hp K => cl_clast (r := r) (rr := rr) hC hA hB rfl rfl hw hp K
set_option maxHeartbeats 4000000 in
theorem cl_text (hfv : fv = .null ∨ fv = .ref 3000) (hB : isB b) (hb : 12 ≤ b) : ∀ (n : Nat) (A : List Cl) (p : Nat) (I : Nat → Nat → Int32) (P : Option Value → aH → Prop), A.length + (n + 1) = 10 → ctx T len I → p ≤ len → I 9 2 = nI p → rdC b A I → (cdA A).length ≤ p → (∀ c ∈ A, clW c) → (∀ I' q As, pL T len (n + 1) p = (q, some As) → phG b I I' → rcC (A ++ As) b I' → rcD (A ++ As) b I' → P (some (.int (-1))) (aHp r (some b) I' J)) → (∀ I' q, pL T len (n + 1) p = (q, none) → q ≤ 200 → phG b I I' → P (some (.int (nI q))) (aHp r (some b) I' J)) → aTo L xs fv 111 (d + 14) cd9 (19, [(2, .int (nI A.length)), (0, .ref 9), (1, .ref b)], [], aHp r (some b) I J) P := by
  intro n
  induction n with
  | zero => ?_
  | succ n ih => ?_
  all_goals
    intro A p I P hAn hT hp h92 hA hl hW K1 K0
    have hl100 := hT.1.1
    refine go_v (cd := cd9) [] 20 rfl ?_
    refine go_st (cd := cd9) 1 rfl (go_ifF (nI_ge (b := 10) (by omega) (by decide)) ?_)
    refine go_v (cd := cd9) [] 20 rfl ?_
    refine go_callv (cd := cd9) rfl rfl rfl rfl rfl (lv3 rfl) rfl (cl_clause (d := d) hfv hB hb hT hp h92 hA (by omega) hl (fun I1 q1 cl hc g1 hA1 => ⟨rfl, ?_⟩) (fun I1 q1 hc g1 => ⟨rfl, ?_⟩))
    case refine_2 =>
      refine go_st (cd := cd9) 1 rfl (go_ifT rfl ?_)
      refine go_v (cd := cd9) [] 20 rfl ?_
      show aTo L xs fv 111 _ cd9 (36, _, [.int (I1 9 2)], aHp r (some b) I1 J) _
      rw [g1.2.2.2]
      refine go_ireturn (cd := cd9) rfl (K0 I1 q1 ?_ (pC_nle hT.1 hp hc) (phG_of g1))
      unfold pL
      rw [hc]
    obtain ⟨a1, a2, a3, a4⟩ := pC_ok hT.1 hp hc
    have hT1 := ctx_phK hb hT g1
    have hlA : (A ++ [cl]).length = A.length + 1 := List.length_append
    have hcA : (cdA (A ++ [cl])).length ≤ q1 := by rw [cdA_snoc, List.length_append]; omega
    have hW1 : ∀ c ∈ A ++ [cl], clW c := fun c hcm => by
      rcases List.mem_append.mp hcm with h | h
      · exact hW c h
      · rw [List.mem_singleton] at h; rw [h]; exact a4
    refine go_st (cd := cd9) 1 rfl (go_ifF (by decide) ?_)
    refine go_v (cd := cd9) [] 20 rfl ?_
    by_cases hq : q1 = len
    · refine go_st (cd := cd9) 1 rfl (go_ifT (show I1 9 2 = I1 9 1 by rw [g1.2.2.2, hT1.2.1, hq]) ?_)
      refine go_v (cd := cd9) [] 20 rfl ?_
      have hwf : rcWf (A ++ [cl]) := ⟨by rw [hlA]; omega, by rw [← cdA_all]; omega, hW1⟩
      refine go_callv (cd := cd9) rfl rfl rfl rfl rfl (isB_lt hB) (isB_k hB) (cl_settle (d := d + 12) (n0 := 111) (Nat.le_add_right _ _) hB (isB_lt hB) (isB_lt7 hB (by decide)) (isB_R hB).2.2.2.2.2 (rdC_C hA1) hwf (lst_of hB hwf) (fun I2 e1 e2 hD => ⟨rfl, ?_⟩))
      refine go_v (cd := cd9) [] 20 rfl ?_
      refine go_ireturn (cd := cd9) rfl (K1 I2 q1 [cl] ?_ ⟨fun j h1 h2 => ?_, fun z h1 h2 => ?_⟩ (rcC_stl e1 e2 (rdC_C hA1)) hD)
      · unfold pL
        rw [hc]
        dsimp only
        rw [if_pos hq]
      · rw [e1 j (by omega) (by omega)]; exact g1.1 j h1 (by omega)
      · rw [e1 9 (by omega) (by omega)]; exact g1.2.1 z h1 h2
    refine go_st (cd := cd9) 1 rfl (go_ifF (show ¬ I1 9 2 = I1 9 1 by rw [g1.2.2.2, hT1.2.1]; exact fun h => hq ((nI_eq (by omega) (by omega)).mp h)) ?_)
    refine go_v (cd := cd9) [] 20 rfl ?_
  · refine go_st (cd := cd9) 1 rfl (go_ifT (show nI A.length = 9 by rw [show A.length = 9 by omega]; rfl) ?_)
    refine go_v (cd := cd9) [] 20 rfl ?_
    show aTo L xs fv 111 _ cd9 (76, _, [.int (I1 9 2)], aHp r (some b) I1 J) _
    rw [g1.2.2.2]
    refine go_ireturn (cd := cd9) rfl (K0 I1 q1 ?_ (by omega) (phG_of g1))
    unfold pL
    rw [hc]
    dsimp only
    rw [if_neg hq, if_pos rfl]
  · refine go_st (cd := cd9) 1 rfl (go_ifF (show ¬ nI A.length = 9 from fun h => by have := (nI_eq (b := 9) (by omega) (by decide)).mp h; omega) ?_)
    refine go_v (cd := cd9) [] 20 rfl ?_
    refine go_callv (cd := cd9) rfl rfl rfl rfl rfl (lv3 rfl) rfl (cl_pass (d := d + 12) (c := 59) hb hT1 (rdC_cst hA1 g1.2.2.2) (by omega) rfl (by decide) (fun h I2 hS2 => ⟨rfl, ?_⟩) (fun h => ⟨rfl, ?_⟩))
    · have hq2 := txt_in hT.1 h (by decide)
      have g2 : phK b I1 I2 (q1 + 1) := phK_of hS2
      have hA2 : rdC b (A ++ [cl]) I2 := by
        obtain ⟨z1, z2, z3, z4, z5, z6⟩ := hS2
        refine ⟨(z3 0 (by decide)).trans hA1.1, z5, ?_, z6⟩
        rw [z1 (b + 1) (by omega) (by omega) (by omega), z1 (b + 2) (by omega) (by omega) (by omega), z1 (b + 3) (by omega) (by omega) (by omega), z1 (b + 4) (by omega) (by omega) (by omega)]
        exact hA1.2.2.1
      have g3 := phK_trans g1 g2
      refine go_st (cd := cd9) 1 rfl (go_ifF (by decide) ?_)
      refine go_v (cd := cd9) [19] 20 rfl ?_
      have tr : ∀ {I'}, phG b I2 I' → phG b I I' := fun {I'} h => ⟨fun j h1 h2 => (h.1 j h1 h2).trans (g3.1 j h1 (by omega)), fun z h1 h2 => (h.2 z h1 h2).trans (g3.2.1 z h1 h2)⟩
      have ih2 := ih (A ++ [cl]) (q1 + 1) I2 P (by rw [hlA]; omega) (ctx_phK hb hT1 g2) (by omega) g2.2.2.2 hA2 (by omega) hW1 (fun I' q As hr g5 h5 h6 => by
        rw [List.append_assoc] at h5 h6
        refine K1 I' q (cl :: As) ?_ (tr g5) h5 h6
        unfold pL
        rw [hc]
        dsimp only
        rw [if_neg hq, if_neg (by omega), if_pos h, hr]) (fun I' q hr hq200 g5 => by
        refine K0 I' q ?_ hq200 (tr g5)
        unfold pL
        rw [hc]
        dsimp only
        rw [if_neg hq, if_neg (by omega), if_pos h, hr])
      rw [hlA] at ih2
      exact go_sb ih2 ⟨by rw [nI_succ A.length]; rfl, rfl, rfl, trivial⟩ rfl rfl rfl
    · refine go_st (cd := cd9) 1 rfl (go_ifT rfl ?_)
      refine go_v (cd := cd9) [] 20 rfl ?_
      show aTo L xs fv 111 _ cd9 (76, _, [.int (I1 9 2)], aHp r (some b) I1 J) _
      rw [g1.2.2.2]
      refine go_ireturn (cd := cd9) rfl (K0 I1 q1 ?_ (by omega) (phG_of g1))
      unfold pL
      rw [hc]
      dsimp only
      rw [if_neg hq, if_neg (by omega), if_neg h]
end CF
