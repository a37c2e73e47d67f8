/-! a run that knows of 111 cells is a run -/
section NM
variable {kd : Nat → Nat × Nat} {Z : aZ} {X X' : aX}
theorem blt_n {i n : Nat} (h : 111 ≤ n) : (Nat.blt i 111 || Nat.blt i n) = (Nat.blt i 0 || Nat.blt i n) := by
  have e0 : Nat.blt i 0 = false := by cases hb : Nat.blt i 0 with
    | false => rfl
    | true => exact absurd (Nat.le_of_ble_eq_true hb) (Nat.not_succ_le_zero i)
  rw [e0]
  cases hb : Nat.blt i 111 with
  | false => rfl
  | true =>
    have h1 : i < 111 := Nat.le_of_ble_eq_true hb
    have h2 : Nat.blt i n = true := Nat.ble_eq_true_of_le (Nat.lt_of_lt_of_le h1 h)
    rw [h2]; rfl
theorem aStp_n {ai : aI} {c : aC} (h : 111 ≤ c.2.2.2.1) : aStp kd 111 ai c = aStp kd 0 ai c := by
  obtain ⟨ins, nx, a, b, t, v⟩ := ai
  obtain ⟨pc, ls, st, hh⟩ := c
  have h : 111 ≤ hh.1 := h
  cases ins with
  | putfield z =>
    dsimp only [aStp]
    split
    · rw [blt_n h]
    · rw [blt_n h]
    · rw [blt_n h, blt_n h]
    · rfl
  | getfield z =>
    dsimp only [aStp]
    split
    · rw [blt_n h]
    · rfl
  | arraylength =>
    dsimp only [aStp]
    split
    · rw [blt_n h]
    · rfl
  | ifCond cnd off => cases cnd <;> rfl
  | if_icmp cnd off => cases cnd <;> rfl
  | _ => rfl
set_option maxHeartbeats 4000000 in
theorem aSpc_n {K K' : aC → Prop} {ai : aI} {c : aC} {rv : Option Value} {hh : aH} (hXh : aXh X) (hX : ∀ y vs r1 h1, X y vs c.2.2.2 r1 h1 → X' y vs c.2.2.2 r1 h1) (hK : ∀ c' : aC, c.2.2.2.1 ≤ c'.2.2.2.1 → K c' → K' c') (h : aSpc kd Z X K ai c rv hh) : aSpc kd Z X' K' ai c rv hh := by
  obtain ⟨ins, nx, a, b, t, v⟩ := ai
  obtain ⟨pc, ls, st, h0⟩ := c
  cases ins with
  | ireturn => exact h
  | lreturn => exact h
  | areturn => exact h
  | return_ => exact h
  | idiv => dsimp only [aSpc] at h ⊢; split at h <;> first | (obtain ⟨h1, h⟩ := h; exact ⟨h1, hK _ (Nat.le_refl _) h⟩) | exact h.elim
  | irem => dsimp only [aSpc] at h ⊢; split at h <;> first | (obtain ⟨h1, h⟩ := h; exact ⟨h1, hK _ (Nat.le_refl _) h⟩) | exact h.elim
  | ldiv => dsimp only [aSpc] at h ⊢; split at h <;> first | (obtain ⟨h1, h⟩ := h; exact ⟨h1, hK _ (Nat.le_refl _) h⟩) | exact h.elim
  | lrem => dsimp only [aSpc] at h ⊢; split at h <;> first | (obtain ⟨h1, h⟩ := h; exact ⟨h1, hK _ (Nat.le_refl _) h⟩) | exact h.elim
  | arraylength => dsimp only [aSpc] at h ⊢; split at h <;> first | (obtain ⟨h1, h⟩ := h; exact ⟨h1, hK _ (Nat.le_refl _) h⟩) | exact h.elim
  | iaload =>
    dsimp only [aSpc] at h ⊢; split at h
    next => obtain ⟨h1, ⟨h2, h3, h⟩ | ⟨h2, h⟩⟩ := h <;> first | exact ⟨h1, Or.inl ⟨h2, h3, hK _ (Nat.le_refl _) h⟩⟩ | exact ⟨h1, Or.inr ⟨h2, hK _ (Nat.le_refl _) h⟩⟩
    next => exact h.elim
  | laload =>
    dsimp only [aSpc] at h ⊢; split at h
    next => obtain ⟨h1, ⟨h2, h3, h⟩ | ⟨h2, h⟩⟩ := h <;> first | exact ⟨h1, Or.inl ⟨h2, h3, hK _ (Nat.le_refl _) h⟩⟩ | exact ⟨h1, Or.inr ⟨h2, hK _ (Nat.le_refl _) h⟩⟩
    next => exact h.elim
  | baload =>
    dsimp only [aSpc] at h ⊢; split at h
    next => obtain ⟨h1, ⟨h2, h3, h⟩ | ⟨h2, h⟩⟩ := h <;> first | exact ⟨h1, Or.inl ⟨h2, h3, hK _ (Nat.le_refl _) h⟩⟩ | exact ⟨h1, Or.inr ⟨h2, hK _ (Nat.le_refl _) h⟩⟩
    next => exact h.elim
  | getfield z =>
    dsimp only [aSpc] at h ⊢; split at h
    next => obtain ⟨h1, ⟨h2, h⟩ | ⟨h2, h⟩⟩ := h <;> first | exact ⟨h1, Or.inl ⟨h2, hK _ (Nat.le_refl _) h⟩⟩ | exact ⟨h1, Or.inr ⟨h2, hK _ (Nat.le_refl _) h⟩⟩
    next => exact h.elim
  | aaload => dsimp only [aSpc] at h ⊢; split at h <;> first | (obtain ⟨h1, h2, h3, h4, h⟩ := h; exact ⟨h1, h2, h3, h4, hK _ (Nat.le_refl _) h⟩) | exact h.elim
  | iastore => dsimp only [aSpc] at h ⊢; split at h <;> first | (obtain ⟨h1, h2, h3, h⟩ := h; exact ⟨h1, h2, h3, hK _ (Nat.le_refl _) h⟩) | exact h.elim
  | lastore => dsimp only [aSpc] at h ⊢; split at h <;> first | (obtain ⟨h1, h2, h3, h⟩ := h; exact ⟨h1, h2, h3, hK _ (Nat.le_refl _) h⟩) | exact h.elim
  | bastore => dsimp only [aSpc] at h ⊢; split at h <;> first | (obtain ⟨h1, h2, h3, h4, h⟩ := h; exact ⟨h1, h2, h3, h4, hK _ (Nat.le_refl _) h⟩) | exact h.elim
  | aastore => dsimp only [aSpc] at h ⊢; split at h <;> first | (obtain ⟨h1, h2, h3, h4, h5, h6, h7, h⟩ := h; exact ⟨h1, h2, h3, h4, h5, h6, h7, hK _ (Nat.le_refl _) h⟩) | exact h.elim
  | putfield z => dsimp only [aSpc] at h ⊢; split at h <;> first | (obtain ⟨h1, h2, h3, h4, h⟩ := h; exact ⟨h1, h2, h3, h4, hK _ (Nat.le_refl _) h⟩) | exact h.elim
  | new z => dsimp only [aSpc] at h ⊢; obtain ⟨h1, h2, h3, h4, h⟩ := h; exact ⟨h1, h2, h3, h4, hK _ (Nat.le_succ _) h⟩
  | newarray z => dsimp only [aSpc] at h ⊢; split at h <;> first | (obtain ⟨h1, h2, h3, h4, h5, h6, h⟩ := h; exact ⟨h1, h2, h3, h4, h5, h6, hK _ (Nat.le_succ _) h⟩) | exact h.elim
  | anewarray z => dsimp only [aSpc] at h ⊢; split at h <;> first | (obtain ⟨h1, h2, h3, h4, h5, h6, h⟩ := h; exact ⟨h1, h2, h3, h4, h5, h6, hK _ (Nat.le_succ _) h⟩) | exact h.elim
  | tableswitch dd lo hi offs =>
    dsimp only [aSpc] at h ⊢; split at h
    next => obtain ⟨h1, h⟩ | ⟨off, h1, h2, h3, h⟩ := h <;> first | exact Or.inl ⟨h1, hK _ (Nat.le_refl _) h⟩ | exact Or.inr ⟨off, h1, h2, h3, hK _ (Nat.le_refl _) h⟩
    next => exact h.elim
  | lookupswitch dd ps => dsimp only [aSpc] at h ⊢; split at h <;> first | exact hK _ (Nat.le_refl _) h | exact h.elim
  | invokestatic z =>
    dsimp only [aSpc] at h ⊢; split at h
    next ht =>
      simp only [if_pos ht]
      split at h
      next => obtain ⟨h1, h2, h3, h4, h5, h6, h7, h8, ⟨h9, hA, h⟩ | ⟨h9, hA, h⟩⟩ := h <;> first | exact ⟨h1, h2, h3, h4, h5, h6, h7, h8, Or.inl ⟨h9, hA, hK _ (Nat.le_refl _) h⟩⟩ | exact ⟨h1, h2, h3, h4, h5, h6, h7, h8, Or.inr ⟨h9, hA, hK _ (Nat.le_refl _) h⟩⟩
      next => exact h.elim
    next ht =>
    simp only [if_neg ht]
    split at h
    next ht => simp only [if_pos ht]; split at h <;> first | (obtain ⟨h1, h⟩ := h; exact ⟨h1, hK _ (Nat.le_refl _) h⟩) | exact h.elim
    next ht =>
    simp only [if_neg ht]
    split at h
    next ht => simp only [if_pos ht]; split at h <;> first | (obtain ⟨h1, h⟩ := h; exact ⟨h1, hK _ (Nat.le_refl _) h⟩) | exact h.elim
    next ht =>
    simp only [if_neg ht]
    split at h
    next ht => simp only [if_pos ht]; split at h <;> first | (obtain ⟨h1, h⟩ := h; exact ⟨h1, hK _ (Nat.le_refl _) h⟩) | exact h.elim
    next ht =>
    simp only [if_neg ht]
    split at h
    next ht => simp only [if_pos ht]; split at h <;> first | (obtain ⟨h1, h⟩ := h; exact ⟨h1, hK _ (Nat.le_refl _) h⟩) | exact h.elim
    next ht =>
    simp only [if_neg ht]
    obtain ⟨rv1, h1, h2, h3, h4, h5, h⟩ := h
    exact ⟨rv1, h1, h2, h3, hX _ _ _ _ h4, h5, hK _ (hXh _ _ _ _ _ h4).1 h⟩
  | invokevirtual z => dsimp only [aSpc] at h ⊢; obtain ⟨rv1, h1, h2, h3, h4, h5, h6, h⟩ := h; exact ⟨rv1, h1, h2, h3, h4, hX _ _ _ _ h5, h6, hK _ (hXh _ _ _ _ _ h5).1 h⟩
  | invokespecial z =>
    dsimp only [aSpc] at h ⊢; split at h
    next ht => simp only [if_pos ht]; split at h <;> first | (obtain ⟨h1, h⟩ := h; exact ⟨h1, hK _ (Nat.le_refl _) h⟩) | exact h.elim
    next ht => simp only [if_neg ht]; obtain ⟨h1, h2, h3, h4, h5, h6, h⟩ := h; exact ⟨h1, h2, h3, h4, hX _ _ _ _ h5, h6, hK _ (hXh _ _ _ _ _ h5).1 h⟩
  | _ => exact h.elim
theorem aRun_n {cd : Nat → Option aI} {rv : Option Value} {hh : aH} (hXh : aXh X) (hX : ∀ y vs h r1 h1, 111 ≤ h.1 → X y vs h r1 h1 → X' y vs h r1 h1) : ∀ (F : Nat) (c : aC), 111 ≤ c.2.2.2.1 → aRun kd Z 111 X cd F c rv hh → aRun kd Z 0 X' cd F c rv hh
  | 0, c, _, h => h.elim
  | F + 1, c, h0, h => by
    unfold aRun at h ⊢
    split at h
    next => exact h.elim
    next ai he =>
      rw [← aStp_n h0]
      split at h
      next c' hs =>
        exact aRun_n hXh hX F c' (by rw [(aStp_h hs).1]; exact h0) h
      next hs =>
        exact aSpc_n hXh (fun y vs r1 h1 => hX y vs _ r1 h1 h0) (fun c' hc hk => aRun_n hXh hX F c' (Nat.le_trans h0 hc) hk) h
theorem aEx_n {ml : Nat → Nat} {cds : Nat → Nat → Option aI} : ∀ (d : Nat) (y : Nat) (vs : List Value) (h : aH) (rv : Option Value) (hh : aH), 111 ≤ h.1 → aEx kd Z 111 ml cds d y vs h rv hh → aEx kd Z 0 ml cds d y vs h rv hh
  | 0, _, _, _, _, _, _, h => h.elim
  | d + 1, y, vs, h, rv, hh, h0, hx => by
    obtain ⟨h1, _, F, hr⟩ := hx
    exact ⟨h1, Nat.zero_le _, F, aRun_n (aEx_h d) (fun y vs h r1 h1 k => aEx_n d y vs h r1 h1 k) F _ h0 hr⟩
theorem cl_n {L : Nat} {xs : Nat → Int32} {fv : Value} {d y : Nat} {vs : List Value} {h : aH} {P : Option Value → aH → Prop} (h0 : 111 ≤ h.1) (k : aCl L xs fv 111 d y vs h P) : aCl L xs fv 0 d y vs h P := by
  obtain ⟨rv, hh, hx, hp⟩ := k
  exact ⟨rv, hh, aEx_n d y vs h rv hh h0 hx, hp⟩
end NM
