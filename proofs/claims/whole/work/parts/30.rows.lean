/-! runs of the abstract machine, to a condition on the answer and the heap behind it -/
def aTo (L : Nat) (xs : Nat → Int32) (fv : Value) (n0 d : Nat) (cd : Nat → Option aI) (c : aC) (P : Option Value → aH → Prop) : Prop :=
  ∃ rv hh, (∃ F, aRun (akd L) (aZ0 xs) n0 (aEx (akd L) (aZ0 xs) n0 aMl (cds fv) d) cd F c rv hh) ∧ P rv hh
def aCl (L : Nat) (xs : Nat → Int32) (fv : Value) (n0 d y : Nat) (vs : List Value) (h : aH) (P : Option Value → aH → Prop) : Prop :=
  ∃ rv hh, aEx (akd L) (aZ0 xs) n0 aMl (cds fv) d y vs h rv hh ∧ P rv hh
/-- k instructions without a side condition -/
def aStN (kd : Nat → Nat × Nat) (n0 : Nat) (cd : Nat → Option aI) : Nat → aC → Option aC
  | 0, c => some c
  | k + 1, c => match cd c.1 with
    | none => none
    | some ai => match aStp kd n0 ai c with
      | none => none
      | some c' => aStN kd n0 cd k c'
theorem aSpc_ex {kd : Nat → Nat × Nat} {Z : aZ} {X : aX} {R : Nat → aC → Prop} {ai : aI} {c : aC} {rv : Option Value} {hh : aH} (h : aSpc kd Z X (fun c' => ∃ F, R F c') ai c rv hh) : ∃ F, aSpc kd Z X (R F) ai c rv hh := by
  obtain ⟨ins, nx, a, b, t, v⟩ := ai
  obtain ⟨pc, ls, st, h0⟩ := c
  cases ins with
  | ireturn => dsimp only [aSpc] at h ⊢; split at h <;> first | exact ⟨0, h⟩ | exact h.elim
  | lreturn => dsimp only [aSpc] at h ⊢; split at h <;> first | exact ⟨0, h⟩ | exact h.elim
  | areturn => dsimp only [aSpc] at h ⊢; split at h <;> first | exact ⟨0, h⟩ | exact h.elim
  | return_ => dsimp only [aSpc] at h ⊢; split at h <;> first | exact ⟨0, h⟩ | exact h.elim
  | idiv => dsimp only [aSpc] at h ⊢; split at h <;> first | (obtain ⟨h1, F, h⟩ := h; exact ⟨F, h1, h⟩) | exact h.elim
  | irem => dsimp only [aSpc] at h ⊢; split at h <;> first | (obtain ⟨h1, F, h⟩ := h; exact ⟨F, h1, h⟩) | exact h.elim
  | ldiv => dsimp only [aSpc] at h ⊢; split at h <;> first | (obtain ⟨h1, F, h⟩ := h; exact ⟨F, h1, h⟩) | exact h.elim
  | lrem => dsimp only [aSpc] at h ⊢; split at h <;> first | (obtain ⟨h1, F, h⟩ := h; exact ⟨F, h1, h⟩) | exact h.elim
  | arraylength => dsimp only [aSpc] at h ⊢; split at h <;> first | (obtain ⟨h1, F, h⟩ := h; exact ⟨F, h1, h⟩) | exact h.elim
  | iaload =>
    dsimp only [aSpc] at h ⊢; split at h
    next => obtain ⟨h1, ⟨h2, h3, F, h⟩ | ⟨h2, F, h⟩⟩ := h <;> first | exact ⟨F, h1, Or.inl ⟨h2, h3, h⟩⟩ | exact ⟨F, h1, Or.inr ⟨h2, h⟩⟩
    next => exact h.elim
  | laload =>
    dsimp only [aSpc] at h ⊢; split at h
    next => obtain ⟨h1, ⟨h2, h3, F, h⟩ | ⟨h2, F, h⟩⟩ := h <;> first | exact ⟨F, h1, Or.inl ⟨h2, h3, h⟩⟩ | exact ⟨F, h1, Or.inr ⟨h2, h⟩⟩
    next => exact h.elim
  | baload =>
    dsimp only [aSpc] at h ⊢; split at h
    next => obtain ⟨h1, ⟨h2, h3, F, h⟩ | ⟨h2, F, h⟩⟩ := h <;> first | exact ⟨F, h1, Or.inl ⟨h2, h3, h⟩⟩ | exact ⟨F, h1, Or.inr ⟨h2, h⟩⟩
    next => exact h.elim
  | getfield z =>
    dsimp only [aSpc] at h ⊢; split at h
    next => obtain ⟨h1, ⟨h2, F, h⟩ | ⟨h2, F, h⟩⟩ := h <;> first | exact ⟨F, h1, Or.inl ⟨h2, h⟩⟩ | exact ⟨F, h1, Or.inr ⟨h2, h⟩⟩
    next => exact h.elim
  | aaload => dsimp only [aSpc] at h ⊢; split at h <;> first | (obtain ⟨h1, h2, h3, h4, F, h⟩ := h; exact ⟨F, h1, h2, h3, h4, h⟩) | exact h.elim
  | iastore => dsimp only [aSpc] at h ⊢; split at h <;> first | (obtain ⟨h1, h2, h3, F, h⟩ := h; exact ⟨F, h1, h2, h3, h⟩) | exact h.elim
  | lastore => dsimp only [aSpc] at h ⊢; split at h <;> first | (obtain ⟨h1, h2, h3, F, h⟩ := h; exact ⟨F, h1, h2, h3, h⟩) | exact h.elim
  | bastore => dsimp only [aSpc] at h ⊢; split at h <;> first | (obtain ⟨h1, h2, h3, h4, F, h⟩ := h; exact ⟨F, h1, h2, h3, h4, h⟩) | exact h.elim
  | aastore => dsimp only [aSpc] at h ⊢; split at h <;> first | (obtain ⟨h1, h2, h3, h4, h5, h6, h7, F, h⟩ := h; exact ⟨F, h1, h2, h3, h4, h5, h6, h7, h⟩) | exact h.elim
  | putfield z => dsimp only [aSpc] at h ⊢; split at h <;> first | (obtain ⟨h1, h2, h3, h4, F, h⟩ := h; exact ⟨F, h1, h2, h3, h4, h⟩) | exact h.elim
  | new z => dsimp only [aSpc] at h ⊢; obtain ⟨h1, h2, h3, h4, F, h⟩ := h; exact ⟨F, h1, h2, h3, h4, h⟩
  | newarray z => dsimp only [aSpc] at h ⊢; split at h <;> first | (obtain ⟨h1, h2, h3, h4, h5, h6, F, h⟩ := h; exact ⟨F, h1, h2, h3, h4, h5, h6, h⟩) | exact h.elim
  | anewarray z => dsimp only [aSpc] at h ⊢; split at h <;> first | (obtain ⟨h1, h2, h3, h4, h5, h6, F, h⟩ := h; exact ⟨F, h1, h2, h3, h4, h5, h6, h⟩) | exact h.elim
  | tableswitch dd lo hi offs =>
    dsimp only [aSpc] at h ⊢; split at h
    next => obtain ⟨h1, F, h⟩ | ⟨off, h1, h2, h3, F, h⟩ := h <;> first | exact ⟨F, Or.inl ⟨h1, h⟩⟩ | exact ⟨F, Or.inr ⟨off, h1, h2, h3, h⟩⟩
    next => exact h.elim
  | lookupswitch dd ps => dsimp only [aSpc] at h ⊢; split at h <;> first | exact h | exact h.elim
  | invokestatic z =>
    dsimp only [aSpc] at h ⊢; split at h
    next ht =>
      simp only [if_pos ht]
      split at h
      next =>
        obtain ⟨h1, h2, h3, h4, h5, h6, h7, h8, ⟨h9, h10, F, h⟩ | ⟨h9, h10, F, h⟩⟩ := h
        · exact ⟨F, h1, h2, h3, h4, h5, h6, h7, h8, Or.inl ⟨h9, h10, h⟩⟩
        · exact ⟨F, h1, h2, h3, h4, h5, h6, h7, h8, Or.inr ⟨h9, h10, h⟩⟩
      next => exact h.elim
    next ht =>
    simp only [if_neg ht]
    split at h
    next ht => simp only [if_pos ht]; split at h <;> first | (obtain ⟨h1, F, h⟩ := h; exact ⟨F, h1, h⟩) | exact h.elim
    next ht =>
    simp only [if_neg ht]
    split at h
    next ht => simp only [if_pos ht]; split at h <;> first | (obtain ⟨h1, F, h⟩ := h; exact ⟨F, h1, h⟩) | exact h.elim
    next ht =>
    simp only [if_neg ht]
    split at h
    next ht => simp only [if_pos ht]; split at h <;> first | (obtain ⟨h1, F, h⟩ := h; exact ⟨F, h1, h⟩) | exact h.elim
    next ht =>
    simp only [if_neg ht]
    split at h
    next ht => simp only [if_pos ht]; split at h <;> first | (obtain ⟨h1, F, h⟩ := h; exact ⟨F, h1, h⟩) | exact h.elim
    next ht =>
    simp only [if_neg ht]
    obtain ⟨rv1, h1, h2, h3, h4, h5, F, h⟩ := h
    exact ⟨F, rv1, h1, h2, h3, h4, h5, h⟩
  | invokevirtual z => dsimp only [aSpc] at h ⊢; obtain ⟨rv1, h1, h2, h3, h4, h5, h6, F, h⟩ := h; exact ⟨F, rv1, h1, h2, h3, h4, h5, h6, h⟩
  | invokespecial z =>
    dsimp only [aSpc] at h ⊢; split at h
    next ht => simp only [if_pos ht]; split at h <;> first | (obtain ⟨h1, F, h⟩ := h; exact ⟨F, h1, h⟩) | exact h.elim
    next ht => simp only [if_neg ht]; obtain ⟨h1, h2, h3, h4, h5, h6, F, h⟩ := h; exact ⟨F, h1, h2, h3, h4, h5, h6, h⟩
  | _ => exact h.elim
section GO
variable {L : Nat} {xs : Nat → Int32} {fv : Value} {n0 d : Nat} {cd : Nat → Option aI} {P : Option Value → aH → Prop}
theorem go_st {c c' : aC} (k : Nat) (hs : aStN (akd L) n0 cd k c = some c') (h : aTo L xs fv n0 d cd c' P) : aTo L xs fv n0 d cd c P := by
  induction k generalizing c with
  | zero => cases hs; exact h
  | succ k ih =>
    unfold aStN at hs
    split at hs
    next => cases hs
    next ai hai =>
      split at hs
      next => cases hs
      next c1 h1 =>
        obtain ⟨rv, hh, ⟨F, hr⟩, hp⟩ := ih hs
        refine ⟨rv, hh, ⟨F + 1, ?_⟩, hp⟩
        unfold aRun
        rw [hai]
        dsimp only
        rw [h1]
        exact hr
theorem go_spc {c : aC} {ai : aI} (hc : cd c.1 = some ai) (hn : aStp (akd L) n0 ai c = none) (rv : Option Value) (hh : aH) (h : aSpc (akd L) (aZ0 xs) (aEx (akd L) (aZ0 xs) n0 aMl (cds fv) d) (fun c' => ∃ F, aRun (akd L) (aZ0 xs) n0 (aEx (akd L) (aZ0 xs) n0 aMl (cds fv) d) cd F c' rv hh) ai c rv hh) (hp : P rv hh) : aTo L xs fv n0 d cd c P := by
  obtain ⟨F, hF⟩ := aSpc_ex h
  refine ⟨rv, hh, ⟨F + 1, ?_⟩, hp⟩
  unfold aRun
  rw [hc]
  dsimp only
  rw [hn]
  exact hF
theorem go_if {p : Prop} [Decidable p] {a b : Nat} {ls : aL} {st : List Value} {h : aH} (h1 : p → aTo L xs fv n0 d cd (a, ls, st, h) P) (h2 : ¬ p → aTo L xs fv n0 d cd (b, ls, st, h) P) : aTo L xs fv n0 d cd (if p then a else b, ls, st, h) P := by
  by_cases hp : p
  · rw [if_pos hp]; exact h1 hp
  · rw [if_neg hp]; exact h2 hp
variable {pc nx a b t : Nat} {v : Value} {ls : aL} {st : List Value} {hn : Nat} {hI : Nat → Nat → Int32} {hJ : Nat → Nat → Int64} {hR : Nat → Nat → Option Nat}
theorem go_ireturn {x : Int32} (hc : cd pc = some (.ireturn, nx, a, b, 0, v)) (k : P (some (.int x)) (hn, hI, hJ, hR)) : aTo L xs fv n0 d cd (pc, ls, [.int x], (hn, hI, hJ, hR)) P := go_spc hc rfl _ _ ⟨Or.inl rfl, rfl, rfl⟩ k
theorem go_zreturn {x : Int32} (hc : cd pc = some (.ireturn, nx, a, b, 1, v)) (hx : x = 0 ∨ x = 1) (k : P (some (.int x)) (hn, hI, hJ, hR)) : aTo L xs fv n0 d cd (pc, ls, [.int x], (hn, hI, hJ, hR)) P := go_spc hc rfl _ _ ⟨Or.inr (Or.inl ⟨rfl, hx⟩), rfl, rfl⟩ k
theorem go_lreturn {x : Int64} (hc : cd pc = some (.lreturn, nx, a, b, t, v)) (k : P (some (.long x)) (hn, hI, hJ, hR)) : aTo L xs fv n0 d cd (pc, ls, [.long x], (hn, hI, hJ, hR)) P := go_spc hc rfl _ _ ⟨rfl, rfl⟩ k
theorem go_areturn {x : Nat} (hc : cd pc = some (.areturn, nx, a, b, t, v)) (k : P (some (.ref x)) (hn, hI, hJ, hR)) : aTo L xs fv n0 d cd (pc, ls, [.ref x], (hn, hI, hJ, hR)) P := go_spc hc rfl _ _ ⟨rfl, rfl⟩ k
theorem go_areturnN (hc : cd pc = some (.areturn, nx, a, b, t, v)) (k : P (some .null) (hn, hI, hJ, hR)) : aTo L xs fv n0 d cd (pc, ls, [.null], (hn, hI, hJ, hR)) P := go_spc hc rfl _ _ ⟨rfl, rfl⟩ k
theorem go_return (hc : cd pc = some (.return_, nx, a, b, t, v)) (k : P none (hn, hI, hJ, hR)) : aTo L xs fv n0 d cd (pc, ls, [], (hn, hI, hJ, hR)) P := go_spc hc rfl _ _ ⟨rfl, rfl⟩ k
theorem go_iald {i : Nat} {j : Int32} {r : List Value} (hc : cd pc = some (.iaload, nx, a, b, t, v)) (hin : vp_in j (akd L i).2) (hl : i < hn) (hk : (akd L i).1 = 7) (k : aTo L xs fv n0 d cd (nx, ls, .int (hI i j.toNatClampNeg) :: r, (hn, hI, hJ, hR)) P) : aTo L xs fv n0 d cd (pc, ls, .int j :: .ref i :: r, (hn, hI, hJ, hR)) P := by
  obtain ⟨rv, hh, hr, hp⟩ := k
  exact go_spc hc rfl rv hh ⟨hin, Or.inl ⟨hl, hk, hr⟩⟩ hp
theorem go_ialdS {i : Nat} {j : Int32} {r : List Value} (hc : cd pc = some (.iaload, nx, a, b, t, v)) (hin : vp_in j (akd L i).2) (hk : (akd L i).1 = 13) (k : aTo L xs fv n0 d cd (nx, ls, .int ((aZ0 xs).1 i j.toNatClampNeg) :: r, (hn, hI, hJ, hR)) P) : aTo L xs fv n0 d cd (pc, ls, .int j :: .ref i :: r, (hn, hI, hJ, hR)) P := by
  obtain ⟨rv, hh, hr, hp⟩ := k
  exact go_spc hc rfl rv hh ⟨hin, Or.inr ⟨hk, hr⟩⟩ hp
theorem go_iast {i : Nat} {j x : Int32} {r : List Value} (hc : cd pc = some (.iastore, nx, a, b, t, v)) (hin : vp_in j (akd L i).2) (hl : i < hn) (hk : (akd L i).1 = 7) (k : aTo L xs fv n0 d cd (nx, ls, r, hn, up2 hI i j.toNatClampNeg x, hJ, hR) P) : aTo L xs fv n0 d cd (pc, ls, .int x :: .int j :: .ref i :: r, (hn, hI, hJ, hR)) P := by
  obtain ⟨rv, hh, hr, hp⟩ := k
  exact go_spc hc rfl rv hh ⟨hin, hl, hk, hr⟩ hp
theorem go_callv {z i : Nat} {ws rest : List Value} (hc : cd pc = some (.invokevirtual z, nx, a, b, t, v)) (hb : Nat.ble b st.length = true) (hws : (st.take b).reverse = .ref i :: ws) (hrs : st.drop b = rest) (hcat : Nat.ble (rest.map fun v => v.category).sum 8 = true) (hl : i < hn) (hk : (akd L i).1 = t)
    (k : aCl L xs fv n0 d a (.ref i :: ws) (hn, hI, hJ, hR) (fun rv h1 => h1.1 = hn ∧ aTo L xs fv n0 d cd (nx, ls, rv.toList ++ rest, h1) P)) : aTo L xs fv n0 d cd (pc, ls, st, (hn, hI, hJ, hR)) P := by
  obtain ⟨rv1, h1, hx, hn, rv, hh, hr, hp⟩ := k
  subst hrs
  exact go_spc hc rfl rv hh ⟨rv1, h1, Nat.le_of_ble_eq_true hb, Nat.le_of_ble_eq_true hcat, ⟨i, by rw [hws]; rfl, Or.inr ⟨hl, hk⟩⟩, by rw [hws]; exact hx, Or.inl hn, hr⟩ hp
theorem go_ifT {p : Prop} [Decidable p] {a b : Nat} {ls : aL} {st : List Value} (hp : p) (k : aTo L xs fv n0 d cd (a, ls, st, (hn, hI, hJ, hR)) P) : aTo L xs fv n0 d cd (if p then a else b, ls, st, (hn, hI, hJ, hR)) P := by rw [if_pos hp]; exact k
theorem go_ifF {p : Prop} [Decidable p] {a b : Nat} {ls : aL} {st : List Value} (hp : ¬ p) (k : aTo L xs fv n0 d cd (b, ls, st, (hn, hI, hJ, hR)) P) : aTo L xs fv n0 d cd (if p then a else b, ls, st, (hn, hI, hJ, hR)) P := by rw [if_neg hp]; exact k
theorem go_lald {i : Nat} {j : Int32} {r : List Value} (hc : cd pc = some (.laload, nx, a, b, t, v)) (hin : vp_in j (akd L i).2) (hl : i < hn) (hk : (akd L i).1 = 8) (k : aTo L xs fv n0 d cd (nx, ls, .long (hJ i j.toNatClampNeg) :: r, (hn, hI, hJ, hR)) P) : aTo L xs fv n0 d cd (pc, ls, .int j :: .ref i :: r, (hn, hI, hJ, hR)) P := by
  obtain ⟨rv, hh, hr, hp⟩ := k
  exact go_spc hc rfl rv hh ⟨hin, Or.inl ⟨hl, hk, hr⟩⟩ hp
theorem go_laldS {i : Nat} {j : Int32} {r : List Value} (hc : cd pc = some (.laload, nx, a, b, t, v)) (hin : vp_in j (akd L i).2) (hk : (akd L i).1 = 14) (k : aTo L xs fv n0 d cd (nx, ls, .long ((aZ0 xs).2 i j.toNatClampNeg) :: r, (hn, hI, hJ, hR)) P) : aTo L xs fv n0 d cd (pc, ls, .int j :: .ref i :: r, (hn, hI, hJ, hR)) P := by
  obtain ⟨rv, hh, hr, hp⟩ := k
  exact go_spc hc rfl rv hh ⟨hin, Or.inr ⟨hk, hr⟩⟩ hp
theorem go_last {i : Nat} {j : Int32} {x : Int64} {r : List Value} (hc : cd pc = some (.lastore, nx, a, b, t, v)) (hin : vp_in j (akd L i).2) (hl : i < hn) (hk : (akd L i).1 = 8) (k : aTo L xs fv n0 d cd (nx, ls, r, hn, hI, up2 hJ i j.toNatClampNeg x, hR) P) : aTo L xs fv n0 d cd (pc, ls, .long x :: .int j :: .ref i :: r, (hn, hI, hJ, hR)) P := by
  obtain ⟨rv, hh, hr, hp⟩ := k
  exact go_spc hc rfl rv hh ⟨hin, hl, hk, hr⟩ hp
theorem go_bald {i : Nat} {j : Int32} {r : List Value} (hc : cd pc = some (.baload, nx, a, b, t, v)) (hin : vp_in j (akd L i).2) (hl : i < hn) (hk : (akd L i).1 = 9) (k : aTo L xs fv n0 d cd (nx, ls, .int (hI i j.toNatClampNeg) :: r, (hn, hI, hJ, hR)) P) : aTo L xs fv n0 d cd (pc, ls, .int j :: .ref i :: r, (hn, hI, hJ, hR)) P := by
  obtain ⟨rv, hh, hr, hp⟩ := k
  exact go_spc hc rfl rv hh ⟨hin, Or.inl ⟨hl, hk, hr⟩⟩ hp
theorem go_baldS {i : Nat} {j : Int32} {r : List Value} (hc : cd pc = some (.baload, nx, a, b, t, v)) (hin : vp_in j (akd L i).2) (hk : (akd L i).1 = 16) (k : aTo L xs fv n0 d cd (nx, ls, .int ((aZ0 xs).1 i j.toNatClampNeg) :: r, (hn, hI, hJ, hR)) P) : aTo L xs fv n0 d cd (pc, ls, .int j :: .ref i :: r, (hn, hI, hJ, hR)) P := by
  obtain ⟨rv, hh, hr, hp⟩ := k
  exact go_spc hc rfl rv hh ⟨hin, Or.inr ⟨hk, hr⟩⟩ hp
theorem go_bast {i : Nat} {j x : Int32} {r : List Value} (hc : cd pc = some (.bastore, nx, a, b, t, v)) (hin : vp_in j (akd L i).2) (hl : i < hn) (hk : (akd L i).1 = 9) (hx : x = 0 ∨ x = 1) (k : aTo L xs fv n0 d cd (nx, ls, r, hn, up2 hI i j.toNatClampNeg x, hJ, hR) P) : aTo L xs fv n0 d cd (pc, ls, .int x :: .int j :: .ref i :: r, (hn, hI, hJ, hR)) P := by
  obtain ⟨rv, hh, hr, hp⟩ := k
  exact go_spc hc rfl rv hh ⟨hin, hl, hk, hx, hr⟩ hp
theorem go_aald {i : Nat} {j : Int32} {r : List Value} (hc : cd pc = some (.aaload, nx, a, b, t, v)) (hin : vp_in j (akd L i).2) (hl : i < hn) (hk : 10 ≤ (akd L i).1) (hk2 : (akd L i).1 ≤ 12) (k : aTo L xs fv n0 d cd (nx, ls, va_rf (hR i j.toNatClampNeg) :: r, (hn, hI, hJ, hR)) P) : aTo L xs fv n0 d cd (pc, ls, .int j :: .ref i :: r, (hn, hI, hJ, hR)) P := by
  obtain ⟨rv, hh, hr, hp⟩ := k
  exact go_spc hc rfl rv hh ⟨hin, hl, hk, hk2, hr⟩ hp
theorem go_putz {i z : Nat} {x : Int32} {r : List Value} (hc : cd pc = some (.putfield z, nx, a, b, 3, v)) (hl : i < hn) (hk : (akd L i).1 = a) (hx : x = 0 ∨ x = 1) (hnn : aStp (akd L) n0 (.putfield z, nx, a, b, 3, v) (pc, ls, .int x :: .ref i :: r, (hn, hI, hJ, hR)) = none) (k : aTo L xs fv n0 d cd (nx, ls, r, hn, up2 hI i b x, hJ, hR) P) : aTo L xs fv n0 d cd (pc, ls, .int x :: .ref i :: r, (hn, hI, hJ, hR)) P := by
  obtain ⟨rv, hh, hr, hp⟩ := k
  exact go_spc hc hnn rv hh ⟨hl, hk, rfl, hx, hr⟩ hp
theorem go_idiv {x y : Int32} {r : List Value} (hc : cd pc = some (.idiv, nx, a, b, t, v)) (hy : ¬ y = 0) (k : aTo L xs fv n0 d cd (nx, ls, .int (x / y) :: r, (hn, hI, hJ, hR)) P) : aTo L xs fv n0 d cd (pc, ls, .int y :: .int x :: r, (hn, hI, hJ, hR)) P := by
  obtain ⟨rv, hh, hr, hp⟩ := k
  exact go_spc hc rfl rv hh ⟨hy, hr⟩ hp
theorem go_irem {x y : Int32} {r : List Value} (hc : cd pc = some (.irem, nx, a, b, t, v)) (hy : ¬ y = 0) (k : aTo L xs fv n0 d cd (nx, ls, .int (x - x / y * y) :: r, (hn, hI, hJ, hR)) P) : aTo L xs fv n0 d cd (pc, ls, .int y :: .int x :: r, (hn, hI, hJ, hR)) P := by
  obtain ⟨rv, hh, hr, hp⟩ := k
  exact go_spc hc rfl rv hh ⟨hy, hr⟩ hp
theorem go_ldiv {x y : Int64} {r : List Value} (hc : cd pc = some (.ldiv, nx, a, b, t, v)) (hy : ¬ y = 0) (k : aTo L xs fv n0 d cd (nx, ls, .long (x / y) :: r, (hn, hI, hJ, hR)) P) : aTo L xs fv n0 d cd (pc, ls, .long y :: .long x :: r, (hn, hI, hJ, hR)) P := by
  obtain ⟨rv, hh, hr, hp⟩ := k
  exact go_spc hc rfl rv hh ⟨hy, hr⟩ hp
theorem go_lrem {x y : Int64} {r : List Value} (hc : cd pc = some (.lrem, nx, a, b, t, v)) (hy : ¬ y = 0) (k : aTo L xs fv n0 d cd (nx, ls, .long (x - x / y * y) :: r, (hn, hI, hJ, hR)) P) : aTo L xs fv n0 d cd (pc, ls, .long y :: .long x :: r, (hn, hI, hJ, hR)) P := by
  obtain ⟨rv, hh, hr, hp⟩ := k
  exact go_spc hc rfl rv hh ⟨hy, hr⟩ hp
theorem go_tswO {x : Int32} {r : List Value} {df lo hi : Int} {offs : Array Int} (tgt : Nat) (hc : cd pc = some (.tableswitch df lo hi offs, nx, a, b, t, v)) (hx : x.toInt < lo ∨ hi < x.toInt) (ht : ((pc : Int) + df).toNat = tgt) (k : aTo L xs fv n0 d cd (tgt, ls, r, (hn, hI, hJ, hR)) P) : aTo L xs fv n0 d cd (pc, ls, .int x :: r, (hn, hI, hJ, hR)) P := by
  obtain ⟨rv, hh, hr, hp⟩ := k
  subst ht
  exact go_spc hc rfl rv hh (Or.inl ⟨hx, hr⟩) hp
theorem go_tswI {x : Int32} {r : List Value} {df lo hi off : Int} {offs : Array Int} (tgt : Nat) (hc : cd pc = some (.tableswitch df lo hi offs, nx, a, b, t, v)) (ho : offs[(x.toInt - lo).toNat]? = some off) (hx : ¬ x.toInt < lo) (hx2 : ¬ hi < x.toInt) (ht : ((pc : Int) + off).toNat = tgt) (k : aTo L xs fv n0 d cd (tgt, ls, r, (hn, hI, hJ, hR)) P) : aTo L xs fv n0 d cd (pc, ls, .int x :: r, (hn, hI, hJ, hR)) P := by
  obtain ⟨rv, hh, hr, hp⟩ := k
  subst ht
  exact go_spc hc rfl rv hh (Or.inr ⟨off, ho, hx, hx2, hr⟩) hp
theorem go_lsw {x : Int32} {r : List Value} {df : Int} {ps : Array (Int × Int)} (tgt : Nat) (hc : cd pc = some (.lookupswitch df ps, nx, a, b, t, v)) (ht : ((pc : Int) + Op.lookupswitch.offset ps.toList df x.toInt).toNat = tgt) (k : aTo L xs fv n0 d cd (tgt, ls, r, (hn, hI, hJ, hR)) P) : aTo L xs fv n0 d cd (pc, ls, .int x :: r, (hn, hI, hJ, hR)) P := by
  obtain ⟨rv, hh, hr, hp⟩ := k
  subst ht
  exact go_spc hc rfl rv hh hr hp
theorem go_min {x y : Int32} {z : Nat} {r : List Value} (hc : cd pc = some (.invokestatic z, nx, a, b, 10, v)) (hcat : Nat.ble (r.map fun v => v.category).sum 8 = true) (k : aTo L xs fv n0 d cd (nx, ls, .int (if y < x then y else x) :: r, (hn, hI, hJ, hR)) P) : aTo L xs fv n0 d cd (pc, ls, .int y :: .int x :: r, (hn, hI, hJ, hR)) P := by
  obtain ⟨rv, hh, hr, hp⟩ := k
  exact go_spc hc rfl rv hh ⟨Nat.le_of_ble_eq_true hcat, hr⟩ hp
theorem go_max {x y : Int32} {z : Nat} {r : List Value} (hc : cd pc = some (.invokestatic z, nx, a, b, 11, v)) (hcat : Nat.ble (r.map fun v => v.category).sum 8 = true) (k : aTo L xs fv n0 d cd (nx, ls, .int (if x < y then y else x) :: r, (hn, hI, hJ, hR)) P) : aTo L xs fv n0 d cd (pc, ls, .int y :: .int x :: r, (hn, hI, hJ, hR)) P := by
  obtain ⟨rv, hh, hr, hp⟩ := k
  exact go_spc hc rfl rv hh ⟨Nat.le_of_ble_eq_true hcat, hr⟩ hp
theorem go_minl {x y : Int64} {z : Nat} {r : List Value} (hc : cd pc = some (.invokestatic z, nx, a, b, 12, v)) (hcat : Nat.ble (r.map fun v => v.category).sum 8 = true) (k : aTo L xs fv n0 d cd (nx, ls, .long (if y < x then y else x) :: r, (hn, hI, hJ, hR)) P) : aTo L xs fv n0 d cd (pc, ls, .long y :: .long x :: r, (hn, hI, hJ, hR)) P := by
  obtain ⟨rv, hh, hr, hp⟩ := k
  exact go_spc hc rfl rv hh ⟨Nat.le_of_ble_eq_true hcat, hr⟩ hp
theorem go_absl {x : Int64} {z : Nat} {r : List Value} (hc : cd pc = some (.invokestatic z, nx, a, b, 13, v)) (hcat : Nat.ble (r.map fun v => v.category).sum 8 = true) (k : aTo L xs fv n0 d cd (nx, ls, .long (if 0 < x then x else -x) :: r, (hn, hI, hJ, hR)) P) : aTo L xs fv n0 d cd (pc, ls, .long x :: r, (hn, hI, hJ, hR)) P := by
  obtain ⟨rv, hh, hr, hp⟩ := k
  exact go_spc hc rfl rv hh ⟨Nat.le_of_ble_eq_true hcat, hr⟩ hp
theorem go_copyI {n dp sp : Int32} {z i0 i1 : Nat} {r : List Value} (hc : cd pc = some (.invokestatic z, nx, a, b, 9, v)) (h1 : ¬ sp < 0) (h2 : ¬ dp < 0) (h3 : ¬ n < 0) (hl0 : i0 < hn) (hl1 : i1 < hn) (hk0 : (akd L i0).1 = 7) (hk1 : (akd L i1).1 = 7) (h4 : sp.toNatClampNeg + n.toNatClampNeg ≤ (akd L i0).2) (h5 : dp.toNatClampNeg + n.toNatClampNeg ≤ (akd L i1).2) (hcat : Nat.ble (r.map fun v => v.category).sum 8 = true)
    (k : aTo L xs fv n0 d cd (nx, ls, r, hn, up1 hI i1 (va_cpy (hI i0) (hI i1) sp.toNatClampNeg dp.toNatClampNeg n.toNatClampNeg), hJ, hR) P) : aTo L xs fv n0 d cd (pc, ls, .int n :: .int dp :: .ref i1 :: .int sp :: .ref i0 :: r, (hn, hI, hJ, hR)) P := by
  obtain ⟨rv, hh, hr, hp⟩ := k
  exact go_spc hc rfl rv hh ⟨h1, h2, h3, hl0, hl1, h4, h5, Nat.le_of_ble_eq_true hcat, Or.inl ⟨hk0, hk1, hr⟩⟩ hp
theorem go_copyL {n dp sp : Int32} {z i0 i1 : Nat} {r : List Value} (hc : cd pc = some (.invokestatic z, nx, a, b, 9, v)) (h1 : ¬ sp < 0) (h2 : ¬ dp < 0) (h3 : ¬ n < 0) (hl0 : i0 < hn) (hl1 : i1 < hn) (hk0 : (akd L i0).1 = 8) (hk1 : (akd L i1).1 = 8) (h4 : sp.toNatClampNeg + n.toNatClampNeg ≤ (akd L i0).2) (h5 : dp.toNatClampNeg + n.toNatClampNeg ≤ (akd L i1).2) (hcat : Nat.ble (r.map fun v => v.category).sum 8 = true)
    (k : aTo L xs fv n0 d cd (nx, ls, r, hn, hI, up1 hJ i1 (va_cpy (hJ i0) (hJ i1) sp.toNatClampNeg dp.toNatClampNeg n.toNatClampNeg), hR) P) : aTo L xs fv n0 d cd (pc, ls, .int n :: .int dp :: .ref i1 :: .int sp :: .ref i0 :: r, (hn, hI, hJ, hR)) P := by
  obtain ⟨rv, hh, hr, hp⟩ := k
  exact go_spc hc rfl rv hh ⟨h1, h2, h3, hl0, hl1, h4, h5, Nat.le_of_ble_eq_true hcat, Or.inr ⟨hk0, hk1, hr⟩⟩ hp
theorem go_calls {z : Nat} {ws rest : List Value} (hc : cd pc = some (.invokestatic z, nx, a, b, 0, v)) (hb : Nat.ble b st.length = true) (hws : (st.take b).reverse = ws) (hrs : st.drop b = rest) (hcat : Nat.ble (rest.map fun v => v.category).sum 8 = true)
    (k : aCl L xs fv n0 d a ws (hn, hI, hJ, hR) (fun rv h1 => h1.1 = hn ∧ aTo L xs fv n0 d cd (nx, ls, rv.toList ++ rest, h1) P)) : aTo L xs fv n0 d cd (pc, ls, st, (hn, hI, hJ, hR)) P := by
  obtain ⟨rv1, h1, hx, hn, rv, hh, hr, hp⟩ := k
  subst hrs
  subst hws
  exact go_spc hc rfl rv hh ⟨rv1, h1, Nat.le_of_ble_eq_true hb, Nat.le_of_ble_eq_true hcat, hx, Or.inl hn, hr⟩ hp
theorem go_calli {z i : Nat} {ws rest : List Value} (hc : cd pc = some (.invokespecial z, nx, a, b, 0, v)) (hb : Nat.ble b st.length = true) (hws : (st.take b).reverse = .ref i :: ws) (hrs : st.drop b = rest) (hcat : Nat.ble (rest.map fun v => v.category).sum 8 = true)
    (k : aCl L xs fv n0 d a (.ref i :: ws) (hn, hI, hJ, hR) (fun rv h1 => rv = none ∧ (h1.1 = hn ∨ (aOks hn (ls.map (·.2)) ∧ aOks hn rest)) ∧ aTo L xs fv n0 d cd (nx, ls, rest, h1) P)) : aTo L xs fv n0 d cd (pc, ls, st, (hn, hI, hJ, hR)) P := by
  obtain ⟨rv1, h1, hx, rfl, hn, rv, hh, hr, hp⟩ := k
  subst hrs
  exact go_spc hc rfl rv hh ⟨h1, Nat.le_of_ble_eq_true hb, Nat.le_of_ble_eq_true hcat, ⟨i, by rw [hws]; rfl⟩, by rw [hws]; exact hx, hn, hr⟩ hp
theorem go_oinit {z i : Nat} {r : List Value} (hc : cd pc = some (.invokespecial z, nx, a, b, 8, v)) (hcat : Nat.ble (r.map fun v => v.category).sum 8 = true) (k : aTo L xs fv n0 d cd (nx, ls, r, (hn, hI, hJ, hR)) P) : aTo L xs fv n0 d cd (pc, ls, .ref i :: r, (hn, hI, hJ, hR)) P := by
  obtain ⟨rv, hh, hr, hp⟩ := k
  exact go_spc hc rfl rv hh ⟨Nat.le_of_ble_eq_true hcat, hr⟩ hp
theorem lv3 {i r : Nat} (h : Nat.ble (i + 1) 111 = true) : i < 111 + 3 * r := Nat.lt_of_lt_of_le (Nat.le_of_ble_eq_true h) (Nat.le_add_right _ _)
theorem cl_of {h : aH} {y : Nat} {vs : List Value} (hm : Nat.ble (vs.map fun v => v.category).sum (aMl y) = true) (hn : n0 ≤ h.1) (k : aTo L xs fv n0 d (cds fv y) (0, lv_args 0 vs, [], h) P) : aCl L xs fv n0 (d + 1) y vs h P := by
  obtain ⟨rv, hh, hr, hp⟩ := k
  exact ⟨rv, hh, ⟨hm, hn, hr⟩, hp⟩
end GO
