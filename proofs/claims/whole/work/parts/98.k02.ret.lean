/-! what a method gives back -/
section RE
variable {kd : Nat → Nat × Nat} {Z : aZ} {X : aX} {n0 : Nat}
theorem aSpc_r {K : aC → Prop} {ai : aI} {c : aC} {rv : Option Value} {hh : aH} (h : aSpc kd Z X K ai c rv hh) : (ai.1 = .ireturn ∧ ∃ x, rv = some (.int x)) ∨ (ai.1 = .lreturn ∧ ∃ x, rv = some (.long x)) ∨ ai.1 = .areturn ∨ ai.1 = .return_ ∨ ∃ c' : aC, K c' := by
  obtain ⟨ins, nx, a, b, t, v⟩ := ai
  obtain ⟨pc, ls, st, h0⟩ := c
  cases ins with
  | ireturn => dsimp only [aSpc] at h; split at h <;> first | exact Or.inl ⟨rfl, _, h.2.1⟩ | exact h.elim
  | lreturn => dsimp only [aSpc] at h; split at h <;> first | exact Or.inr (Or.inl ⟨rfl, _, h.1⟩) | exact h.elim
  | areturn => exact Or.inr (Or.inr (Or.inl rfl))
  | return_ => exact Or.inr (Or.inr (Or.inr (Or.inl rfl)))
  | idiv => dsimp only [aSpc] at h; split at h <;> first | exact Or.inr (Or.inr (Or.inr (Or.inr ⟨_, h.2⟩))) | exact h.elim
  | irem => dsimp only [aSpc] at h; split at h <;> first | exact Or.inr (Or.inr (Or.inr (Or.inr ⟨_, h.2⟩))) | exact h.elim
  | ldiv => dsimp only [aSpc] at h; split at h <;> first | exact Or.inr (Or.inr (Or.inr (Or.inr ⟨_, h.2⟩))) | exact h.elim
  | lrem => dsimp only [aSpc] at h; split at h <;> first | exact Or.inr (Or.inr (Or.inr (Or.inr ⟨_, h.2⟩))) | exact h.elim
  | arraylength => dsimp only [aSpc] at h; split at h <;> first | exact Or.inr (Or.inr (Or.inr (Or.inr ⟨_, h.2⟩))) | exact h.elim
  | iaload =>
    dsimp only [aSpc] at h; split at h
    next => obtain ⟨-, ⟨-, -, h⟩ | ⟨-, h⟩⟩ := h <;> exact Or.inr (Or.inr (Or.inr (Or.inr ⟨_, h⟩)))
    next => exact h.elim
  | laload =>
    dsimp only [aSpc] at h; split at h
    next => obtain ⟨-, ⟨-, -, h⟩ | ⟨-, h⟩⟩ := h <;> exact Or.inr (Or.inr (Or.inr (Or.inr ⟨_, h⟩)))
    next => exact h.elim
  | baload =>
    dsimp only [aSpc] at h; split at h
    next => obtain ⟨-, ⟨-, -, h⟩ | ⟨-, h⟩⟩ := h <;> exact Or.inr (Or.inr (Or.inr (Or.inr ⟨_, h⟩)))
    next => exact h.elim
  | getfield z =>
    dsimp only [aSpc] at h; split at h
    next => obtain ⟨-, ⟨-, h⟩ | ⟨-, h⟩⟩ := h <;> exact Or.inr (Or.inr (Or.inr (Or.inr ⟨_, h⟩)))
    next => exact h.elim
  | aaload => dsimp only [aSpc] at h; split at h <;> first | exact Or.inr (Or.inr (Or.inr (Or.inr ⟨_, h.2.2.2.2⟩))) | exact h.elim
  | iastore => dsimp only [aSpc] at h; split at h <;> first | exact Or.inr (Or.inr (Or.inr (Or.inr ⟨_, h.2.2.2⟩))) | exact h.elim
  | lastore => dsimp only [aSpc] at h; split at h <;> first | exact Or.inr (Or.inr (Or.inr (Or.inr ⟨_, h.2.2.2⟩))) | exact h.elim
  | bastore => dsimp only [aSpc] at h; split at h <;> first | exact Or.inr (Or.inr (Or.inr (Or.inr ⟨_, h.2.2.2.2⟩))) | exact h.elim
  | aastore =>
    dsimp only [aSpc] at h; split at h
    next => exact Or.inr (Or.inr (Or.inr (Or.inr ⟨_, h.2.2.2.2.2.2.2⟩)))
    next => exact h.elim
  | putfield z => dsimp only [aSpc] at h; split at h <;> first | exact Or.inr (Or.inr (Or.inr (Or.inr ⟨_, h.2.2.2.2⟩))) | exact h.elim
  | new z => dsimp only [aSpc] at h; exact Or.inr (Or.inr (Or.inr (Or.inr ⟨_, h.2.2.2.2⟩)))
  | newarray z => dsimp only [aSpc] at h; split at h <;> first | exact Or.inr (Or.inr (Or.inr (Or.inr ⟨_, h.2.2.2.2.2.2⟩))) | exact h.elim
  | anewarray z => dsimp only [aSpc] at h; split at h <;> first | exact Or.inr (Or.inr (Or.inr (Or.inr ⟨_, h.2.2.2.2.2.2⟩))) | exact h.elim
  | tableswitch d lo hi offs =>
    dsimp only [aSpc] at h; split at h
    next => obtain ⟨-, h⟩ | ⟨off, -, -, -, h⟩ := h <;> exact Or.inr (Or.inr (Or.inr (Or.inr ⟨_, h⟩)))
    next => exact h.elim
  | lookupswitch d ps => dsimp only [aSpc] at h; split at h <;> first | exact Or.inr (Or.inr (Or.inr (Or.inr ⟨_, h⟩))) | exact h.elim
  | invokestatic z =>
    dsimp only [aSpc] at h; split at h
    next =>
      split at h
      next => obtain ⟨-, -, -, -, -, -, -, -, ⟨-, -, h⟩ | ⟨-, -, h⟩⟩ := h <;> exact Or.inr (Or.inr (Or.inr (Or.inr ⟨_, h⟩)))
      next => exact h.elim
    next =>
    split at h
    next => split at h <;> first | exact Or.inr (Or.inr (Or.inr (Or.inr ⟨_, h.2⟩))) | exact h.elim
    next =>
    split at h
    next => split at h <;> first | exact Or.inr (Or.inr (Or.inr (Or.inr ⟨_, h.2⟩))) | exact h.elim
    next =>
    split at h
    next => split at h <;> first | exact Or.inr (Or.inr (Or.inr (Or.inr ⟨_, h.2⟩))) | exact h.elim
    next =>
    split at h
    next => split at h <;> first | exact Or.inr (Or.inr (Or.inr (Or.inr ⟨_, h.2⟩))) | exact h.elim
    next => obtain ⟨rv1, h1, -, -, hx, -, h⟩ := h; exact Or.inr (Or.inr (Or.inr (Or.inr ⟨_, h⟩)))
  | invokevirtual z => dsimp only [aSpc] at h; obtain ⟨rv1, h1, -, -, -, hx, -, h⟩ := h; exact Or.inr (Or.inr (Or.inr (Or.inr ⟨_, h⟩)))
  | invokespecial z =>
    dsimp only [aSpc] at h; split at h
    next => split at h <;> first | exact Or.inr (Or.inr (Or.inr (Or.inr ⟨_, h.2⟩))) | exact h.elim
    next => obtain ⟨h1, -, -, -, hx, -, h⟩ := h; exact Or.inr (Or.inr (Or.inr (Or.inr ⟨_, h⟩)))
  | _ => exact h.elim
theorem aRun_ri {cd : Nat → Option aI} {rv : Option Value} {hh : aH} (hcd : ∀ pc ai, cd pc = some ai → ai.1 ≠ .lreturn ∧ ai.1 ≠ .areturn ∧ ai.1 ≠ .return_) : ∀ (F : Nat) (c : aC), aRun kd Z n0 X cd F c rv hh → ∃ x, rv = some (.int x)
  | 0, c, h => h.elim
  | F + 1, c, h => by
    unfold aRun at h
    split at h
    next => exact h.elim
    next ai he =>
      split at h
      next c' hs => exact aRun_ri hcd F c' h
      next =>
        obtain ⟨g1, g2, g3⟩ := hcd _ _ he
        rcases aSpc_r h with ⟨_, h⟩ | ⟨h, _⟩ | h | h | ⟨c', h⟩
        · exact h
        · exact absurd h g1
        · exact absurd h g2
        · exact absurd h g3
        · exact aRun_ri hcd F c' h
theorem aRun_rl {cd : Nat → Option aI} {rv : Option Value} {hh : aH} (hcd : ∀ pc ai, cd pc = some ai → ai.1 ≠ .ireturn ∧ ai.1 ≠ .areturn ∧ ai.1 ≠ .return_) : ∀ (F : Nat) (c : aC), aRun kd Z n0 X cd F c rv hh → ∃ x, rv = some (.long x)
  | 0, c, h => h.elim
  | F + 1, c, h => by
    unfold aRun at h
    split at h
    next => exact h.elim
    next ai he =>
      split at h
      next c' hs => exact aRun_rl hcd F c' h
      next =>
        obtain ⟨g1, g2, g3⟩ := hcd _ _ he
        rcases aSpc_r h with ⟨h, _⟩ | ⟨_, h⟩ | h | h | ⟨c', h⟩
        · exact absurd h g1
        · exact h
        · exact absurd h g2
        · exact absurd h g3
        · exact aRun_rl hcd F c' h
end RE
theorem cds_i {fv : Value} {y : Nat} (cy : Nat → ClassId) (hy : (mtN y).2.2.2 = some .int) : ∀ pc ai, cds fv y pc = some ai → ai.1 ≠ .lreturn ∧ ai.1 ≠ .areturn ∧ ai.1 ≠ .return_ := by
  intro pc ai h
  obtain ⟨ins, nx, a, b, t, v⟩ := ai
  obtain ⟨_, len, -, -, -, hsp⟩ := aAll_p fv cy y pc _ h
  rw [hy] at hsp
  refine ⟨fun e => ?_, fun e => ?_, fun e => ?_⟩
  · have e : ins = .lreturn := e
    subst e
    cases hsp
  · have e : ins = .areturn := e
    subst e
    obtain ⟨rt, h1, ⟨n, h2⟩ | ⟨n, h2⟩⟩ := hsp
    · rw [h2] at h1; cases h1
    · rw [h2] at h1; cases h1
  · have e : ins = .return_ := e
    subst e
    cases hsp
theorem cds_l {fv : Value} {y : Nat} (cy : Nat → ClassId) (hy : (mtN y).2.2.2 = some .long) : ∀ pc ai, cds fv y pc = some ai → ai.1 ≠ .ireturn ∧ ai.1 ≠ .areturn ∧ ai.1 ≠ .return_ := by
  intro pc ai h
  obtain ⟨ins, nx, a, b, t, v⟩ := ai
  obtain ⟨_, len, -, -, -, hsp⟩ := aAll_p fv cy y pc _ h
  rw [hy] at hsp
  refine ⟨fun e => ?_, fun e => ?_, fun e => ?_⟩
  · have e : ins = .ireturn := e
    subst e
    rcases hsp with ⟨-, h⟩ | ⟨-, h⟩ | ⟨-, h⟩ | ⟨-, h⟩ <;> cases h
  · have e : ins = .areturn := e
    subst e
    obtain ⟨rt, h1, ⟨n, h2⟩ | ⟨n, h2⟩⟩ := hsp
    · rw [h2] at h1; cases h1
    · rw [h2] at h1; cases h1
  · have e : ins = .return_ := e
    subst e
    cases hsp
theorem cl_ri {L : Nat} {xs : Nat → Int32} {fv : Value} {n0 d y : Nat} {vs : List Value} {h : aH} {P : Option Value → aH → Prop} (hy : (mtN y).2.2.2 = some .int) (k : aCl L xs fv n0 d y vs h P) : aCl L xs fv n0 d y vs h (fun rv h1 => (∃ x, rv = some (.int x)) ∧ h.1 ≤ h1.1 ∧ P rv h1) := by
  obtain ⟨rv, hh, hx, hp⟩ := k
  refine ⟨rv, hh, hx, ?_, (aEx_h d _ _ _ _ _ hx).1, hp⟩
  match d, hx with
  | d + 1, hx =>
    obtain ⟨-, -, F, hr⟩ := hx
    exact aRun_ri (cds_i (fun _ => default) hy) F _ hr
theorem cl_rl {L : Nat} {xs : Nat → Int32} {fv : Value} {n0 d y : Nat} {vs : List Value} {h : aH} {P : Option Value → aH → Prop} (hy : (mtN y).2.2.2 = some .long) (k : aCl L xs fv n0 d y vs h P) : aCl L xs fv n0 d y vs h (fun rv h1 => (∃ x, rv = some (.long x)) ∧ h.1 ≤ h1.1 ∧ P rv h1) := by
  obtain ⟨rv, hh, hx, hp⟩ := k
  refine ⟨rv, hh, hx, ?_, (aEx_h d _ _ _ _ _ hx).1, hp⟩
  match d, hx with
  | d + 1, hx =>
    obtain ⟨-, -, F, hr⟩ := hx
    exact aRun_rl (cds_l (fun _ => default) hy) F _ hr
