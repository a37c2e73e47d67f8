section MO
variable {kd : Nat → Nat × Nat} {Z : aZ} {X : aX} {n0 : Nat}
/-- what a relation of calls keeps -/
def aXh (X : aX) : Prop := ∀ y vs h rv h1, X y vs h rv h1 → h.1 ≤ h1.1 ∧ (aHok h → aHok h1)
theorem aHok_new {h : aH} {I1 : Nat → Nat → Int32} {J1 : Nat → Nat → Int64} (hk : aHok h) : aHok (h.1 + 1, I1, J1, up1 h.2.2.2 h.1 (fun _ => none)) := by
  intro x y z hx hz
  dsimp only at hx hz ⊢
  by_cases hxi : x = h.1
  · subst hxi
    rw [up1_at] at hz
    cases hz
  · rw [up1_ne hxi] at hz
    have := hk x y z (by omega) hz
    omega
theorem aHok_up' {h : aH} {i b : Nat} {j : Nat} (hk : aHok h) (hj : j < h.1) : aHok (h.1, h.2.1, h.2.2.1, up2 h.2.2.2 i b (some j)) := aHok_up hk hj
theorem aSpc_h {K : aC → Prop} {ai : aI} {c : aC} {rv : Option Value} {hh : aH} (hX : aXh X) (h : aSpc kd Z X K ai c rv hh) : hh = c.2.2.2 ∨ ∃ c' : aC, K c' ∧ c.2.2.2.1 ≤ c'.2.2.2.1 ∧ (aHok c.2.2.2 → aHok c'.2.2.2) := by
  obtain ⟨ins, nx, a, b, t, v⟩ := ai
  obtain ⟨pc, ls, st, h0⟩ := c
  cases ins with
  | ireturn => dsimp only [aSpc] at h; split at h <;> first | exact Or.inl h.2.2 | exact h.elim
  | lreturn => dsimp only [aSpc] at h; split at h <;> first | exact Or.inl h.2 | exact h.elim
  | areturn => dsimp only [aSpc] at h; split at h <;> first | exact Or.inl h.2 | exact h.elim
  | return_ => dsimp only [aSpc] at h; split at h <;> first | exact Or.inl h.2 | exact h.elim
  | idiv => dsimp only [aSpc] at h; split at h <;> first | exact Or.inr ⟨_, h.2, Nat.le_refl _, id⟩ | exact h.elim
  | irem => dsimp only [aSpc] at h; split at h <;> first | exact Or.inr ⟨_, h.2, Nat.le_refl _, id⟩ | exact h.elim
  | ldiv => dsimp only [aSpc] at h; split at h <;> first | exact Or.inr ⟨_, h.2, Nat.le_refl _, id⟩ | exact h.elim
  | lrem => dsimp only [aSpc] at h; split at h <;> first | exact Or.inr ⟨_, h.2, Nat.le_refl _, id⟩ | exact h.elim
  | arraylength => dsimp only [aSpc] at h; split at h <;> first | exact Or.inr ⟨_, h.2, Nat.le_refl _, id⟩ | exact h.elim
  | iaload =>
    dsimp only [aSpc] at h; split at h
    next => obtain ⟨-, ⟨-, -, h⟩ | ⟨-, h⟩⟩ := h <;> exact Or.inr ⟨_, h, Nat.le_refl _, id⟩
    next => exact h.elim
  | laload =>
    dsimp only [aSpc] at h; split at h
    next => obtain ⟨-, ⟨-, -, h⟩ | ⟨-, h⟩⟩ := h <;> exact Or.inr ⟨_, h, Nat.le_refl _, id⟩
    next => exact h.elim
  | baload =>
    dsimp only [aSpc] at h; split at h
    next => obtain ⟨-, ⟨-, -, h⟩ | ⟨-, h⟩⟩ := h <;> exact Or.inr ⟨_, h, Nat.le_refl _, id⟩
    next => exact h.elim
  | getfield z =>
    dsimp only [aSpc] at h; split at h
    next => obtain ⟨-, ⟨-, h⟩ | ⟨-, h⟩⟩ := h <;> exact Or.inr ⟨_, h, Nat.le_refl _, id⟩
    next => exact h.elim
  | aaload => dsimp only [aSpc] at h; split at h <;> first | exact Or.inr ⟨_, h.2.2.2.2, Nat.le_refl _, id⟩ | exact h.elim
  | iastore => dsimp only [aSpc] at h; split at h <;> first | exact Or.inr ⟨_, h.2.2.2, Nat.le_refl _, id⟩ | exact h.elim
  | lastore => dsimp only [aSpc] at h; split at h <;> first | exact Or.inr ⟨_, h.2.2.2, Nat.le_refl _, id⟩ | exact h.elim
  | bastore => dsimp only [aSpc] at h; split at h <;> first | exact Or.inr ⟨_, h.2.2.2.2, Nat.le_refl _, id⟩ | exact h.elim
  | aastore =>
    dsimp only [aSpc] at h; split at h
    next => exact Or.inr ⟨_, h.2.2.2.2.2.2.2, Nat.le_refl _, fun hk => aHok_up hk h.2.2.2.2.1⟩
    next => exact h.elim
  | putfield z => dsimp only [aSpc] at h; split at h <;> first | exact Or.inr ⟨_, h.2.2.2.2, Nat.le_refl _, id⟩ | exact h.elim
  | new z => dsimp only [aSpc] at h; exact Or.inr ⟨_, h.2.2.2.2, Nat.le_succ _, aHok_new⟩
  | newarray z => dsimp only [aSpc] at h; split at h <;> first | exact Or.inr ⟨_, h.2.2.2.2.2.2, Nat.le_succ _, aHok_new⟩ | exact h.elim
  | anewarray z => dsimp only [aSpc] at h; split at h <;> first | exact Or.inr ⟨_, h.2.2.2.2.2.2, Nat.le_succ _, aHok_new⟩ | exact h.elim
  | tableswitch d lo hi offs =>
    dsimp only [aSpc] at h; split at h
    next => obtain ⟨-, h⟩ | ⟨off, -, -, -, h⟩ := h <;> exact Or.inr ⟨_, h, Nat.le_refl _, id⟩
    next => exact h.elim
  | lookupswitch d ps => dsimp only [aSpc] at h; split at h <;> first | exact Or.inr ⟨_, h, Nat.le_refl _, id⟩ | exact h.elim
  | invokestatic z =>
    dsimp only [aSpc] at h; split at h
    next =>
      split at h
      next => obtain ⟨-, -, -, -, -, -, -, -, ⟨-, -, h⟩ | ⟨-, -, h⟩⟩ := h <;> exact Or.inr ⟨_, h, Nat.le_refl _, id⟩
      next => exact h.elim
    next =>
    split at h
    next => split at h <;> first | exact Or.inr ⟨_, h.2, Nat.le_refl _, id⟩ | exact h.elim
    next =>
    split at h
    next => split at h <;> first | exact Or.inr ⟨_, h.2, Nat.le_refl _, id⟩ | exact h.elim
    next =>
    split at h
    next => split at h <;> first | exact Or.inr ⟨_, h.2, Nat.le_refl _, id⟩ | exact h.elim
    next =>
    split at h
    next => split at h <;> first | exact Or.inr ⟨_, h.2, Nat.le_refl _, id⟩ | exact h.elim
    next => obtain ⟨rv1, h1, -, -, hx, -, h⟩ := h; exact Or.inr ⟨_, h, (hX _ _ _ _ _ hx).1, (hX _ _ _ _ _ hx).2⟩
  | invokevirtual z => dsimp only [aSpc] at h; obtain ⟨rv1, h1, -, -, -, hx, -, h⟩ := h; exact Or.inr ⟨_, h, (hX _ _ _ _ _ hx).1, (hX _ _ _ _ _ hx).2⟩
  | invokespecial z =>
    dsimp only [aSpc] at h; split at h
    next => split at h <;> first | exact Or.inr ⟨_, h.2, Nat.le_refl _, id⟩ | exact h.elim
    next => obtain ⟨h1, -, -, -, hx, -, h⟩ := h; exact Or.inr ⟨_, h, (hX _ _ _ _ _ hx).1, (hX _ _ _ _ _ hx).2⟩
  | _ => exact h.elim
theorem aRun_h {cd : Nat → Option aI} {rv : Option Value} {hh : aH} (hX : aXh X) : ∀ (F : Nat) (c : aC), aRun kd Z n0 X cd F c rv hh → n0 ≤ c.2.2.2.1 → c.2.2.2.1 ≤ hh.1 ∧ (aHok c.2.2.2 → aHok hh)
  | 0, c, h, _ => h.elim
  | F + 1, c, h, h0 => by
    unfold aRun at h
    split at h
    next => exact h.elim
    next ai he =>
      split at h
      next c' hs =>
        obtain ⟨e1, e2⟩ := aStp_h hs
        obtain ⟨f1, f2⟩ := aRun_h hX F c' h (by rw [e1]; exact h0)
        exact ⟨by rw [← e1]; exact f1, fun hk => f2 (e2 h0 hk)⟩
      next =>
        rcases aSpc_h hX h with rfl | ⟨c', hk, e1, e2⟩
        · exact ⟨Nat.le_refl _, id⟩
        · obtain ⟨f1, f2⟩ := aRun_h hX F c' hk (Nat.le_trans h0 e1)
          exact ⟨Nat.le_trans e1 f1, fun q => f2 (e2 q)⟩
theorem aEx_h {ml : Nat → Nat} {cds : Nat → Nat → Option aI} : ∀ d : Nat, aXh (aEx kd Z n0 ml cds d)
  | 0 => fun _ _ _ _ _ h => h.elim
  | d + 1 => fun y vs h rv h1 hx => by
    obtain ⟨-, h0, F, hr⟩ := hx
    exact aRun_h (aEx_h d) F _ hr h0
end MO
