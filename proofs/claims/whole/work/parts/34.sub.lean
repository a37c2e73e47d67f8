/-! fewer locals are enough -/
def aSb (l' l : aL) : Prop := (∀ i v, aGet l' i = some v → aGet l i = some v) ∧ (∀ i x, aGet l i = some (.ref x) → aGet l' i = some (.ref x)) ∧ (l.map Prod.fst).Nodup ∧ (l'.map Prod.fst).Nodup
theorem get_mem : ∀ {l : aL} {i : Nat} {v : Value}, aGet l i = some v → (i, v) ∈ l
  | [], _, _, h => by cases h
  | q :: l, i, v, h => by
    unfold aGet at h
    cases hb : Nat.beq q.1 i with
    | true =>
      rw [hb] at h
      have h1 := Nat.eq_of_beq_eq_true hb
      have h2 : q.2 = v := Option.some.inj h
      subst h1; subst h2
      exact List.mem_cons_self
    | false => rw [hb] at h; exact List.mem_cons_of_mem _ (get_mem h)
theorem get_of : ∀ {l : aL} {i : Nat} {v : Value}, (l.map Prod.fst).Nodup → (i, v) ∈ l → aGet l i = some v
  | [], _, _, _, h => by cases h
  | q :: l, i, v, hn, h => by
    unfold aGet
    rw [List.map_cons, List.nodup_cons] at hn
    rcases List.mem_cons.mp h with h | h
    · subst h
      rw [show Nat.beq i i = true from Nat.beq_refl i]; rfl
    · cases hb : Nat.beq q.1 i with
      | true =>
        have h1 := Nat.eq_of_beq_eq_true hb
        exact absurd (List.mem_map.mpr ⟨(i, v), h, h1.symm⟩) hn.1
      | false => exact get_of hn.2 h
theorem get_iff {l : aL} {i : Nat} {v : Value} (hn : (l.map Prod.fst).Nodup) : aGet l i = some v ↔ (i, v) ∈ l := ⟨get_mem, get_of hn⟩
theorem nodup_put {l : aL} {i : Nat} {v : Value} {p : Nat × Value → Bool} (hn : (l.map Prod.fst).Nodup) (hp : ∀ q, p q = true → q.1 ≠ i) : ((((i, v) :: l.filter p) : aL).map Prod.fst).Nodup := by
  rw [List.map_cons, List.nodup_cons]
  refine ⟨fun h => ?_, hn.sublist (List.Sublist.map _ List.filter_sublist)⟩
  obtain ⟨q, hq, he⟩ := List.mem_map.mp h
  exact hp q (List.mem_filter.mp hq).2 he
theorem sb_put {l' l : aL} {i : Nat} {v : Value} {p : Nat × Value → Bool} (h : aSb l' l) (hp : ∀ q, p q = true → q.1 ≠ i) : aSb ((i, v) :: l'.filter p) ((i, v) :: l.filter p) := by
  obtain ⟨h1, h2, h3, h4⟩ := h
  have n1 := nodup_put (v := v) h3 hp
  have n2 := nodup_put (v := v) h4 hp
  refine ⟨fun j w hw => ?_, fun j x hx => ?_, n1, n2⟩
  · rw [get_iff n2] at hw
    rw [get_iff n1]
    rcases List.mem_cons.mp hw with hw | hw
    · exact List.mem_cons.mpr (Or.inl hw)
    · obtain ⟨a1, a2⟩ := List.mem_filter.mp hw
      exact List.mem_cons_of_mem _ (List.mem_filter.mpr ⟨(get_iff h3).mp (h1 _ _ ((get_iff h4).mpr a1)), a2⟩)
  · rw [get_iff n1] at hx
    rw [get_iff n2]
    rcases List.mem_cons.mp hx with hx | hx
    · exact List.mem_cons.mpr (Or.inl hx)
    · obtain ⟨a1, a2⟩ := List.mem_filter.mp hx
      exact List.mem_cons_of_mem _ (List.mem_filter.mpr ⟨(get_iff h4).mp (h2 _ _ ((get_iff h3).mpr a1)), a2⟩)
theorem sb_put1 {l' l : aL} {i : Nat} {v : Value} (h : aSb l' l) : aSb (aPut1 l' i v) (aPut1 l i v) := sb_put h (fun q hq => by
  intro he; rw [he] at hq; simp at hq)
theorem sb_put2 {l' l : aL} {i : Nat} {v : Value} (h : aSb l' l) : aSb (aPut2 l' i v) (aPut2 l i v) := sb_put h (fun q hq => by
  intro he; rw [he] at hq; simp at hq)
theorem sb_oks {l' l : aL} (h : aSb l' l) (n : Nat) (ho : aOks n (l'.map (·.2))) : aOks n (l.map (·.2)) := by
  intro v hv
  obtain ⟨q, hq, rfl⟩ := List.mem_map.mp hv
  obtain ⟨i, v⟩ := q
  cases v with
  | ref x => exact ho _ (List.mem_map.mpr ⟨(i, .ref x), get_mem (h.2.1 _ _ (get_of h.2.2.1 hq)), rfl⟩)
  | _ => trivial
theorem cond_some {α : Type} {b : Bool} {x y : α} (h : (bif b then some x else none) = some y) : b = true ∧ x = y := by
  cases b with
  | true => exact ⟨rfl, Option.some.inj h⟩
  | false => cases h
theorem cond_none {α : Type} {b : Bool} {x : α} (h : (bif b then some x else none) = none) : b = false := by
  cases b with
  | true => cases h
  | false => rfl
theorem sb_stp {kd : Nat → Nat × Nat} {n0 : Nat} {ai : aI} {pc : Nat} {l' l : aL} {st : List Value} {hp : aH} {c' : aC} (hR : aSb l' l) (h : aStp kd n0 ai (pc, l', st, hp) = some c') : ∃ l1, aStp kd n0 ai (pc, l, st, hp) = some (c'.1, l1, c'.2.2) ∧ aSb c'.2.1 l1 := by
  obtain ⟨ins, nx, a, b, t, v⟩ := ai
  cases ins with
  | iload_n z =>
    dsimp only [aStp] at h ⊢; split at h
    all_goals first
      | (rename_i q hx; rw [hR.1 _ _ hx]; cases h; exact ⟨l, rfl, hR⟩)
      | (rename_i hx; rw [hR.1 _ _ hx]; cases h; exact ⟨l, rfl, hR⟩)
      | cases h
  | iload z =>
    dsimp only [aStp] at h ⊢; split at h
    all_goals first
      | (rename_i q hx; rw [hR.1 _ _ hx]; cases h; exact ⟨l, rfl, hR⟩)
      | (rename_i hx; rw [hR.1 _ _ hx]; cases h; exact ⟨l, rfl, hR⟩)
      | cases h
  | lload_n z =>
    dsimp only [aStp] at h ⊢; split at h
    all_goals first
      | (rename_i q hx; rw [hR.1 _ _ hx]; cases h; exact ⟨l, rfl, hR⟩)
      | (rename_i hx; rw [hR.1 _ _ hx]; cases h; exact ⟨l, rfl, hR⟩)
      | cases h
  | lload z =>
    dsimp only [aStp] at h ⊢; split at h
    all_goals first
      | (rename_i q hx; rw [hR.1 _ _ hx]; cases h; exact ⟨l, rfl, hR⟩)
      | (rename_i hx; rw [hR.1 _ _ hx]; cases h; exact ⟨l, rfl, hR⟩)
      | cases h
  | aload_n z =>
    dsimp only [aStp] at h ⊢; split at h
    all_goals first
      | (rename_i q hx; rw [hR.1 _ _ hx]; cases h; exact ⟨l, rfl, hR⟩)
      | (rename_i hx; rw [hR.1 _ _ hx]; cases h; exact ⟨l, rfl, hR⟩)
      | cases h
  | aload z =>
    dsimp only [aStp] at h ⊢; split at h
    all_goals first
      | (rename_i q hx; rw [hR.1 _ _ hx]; cases h; exact ⟨l, rfl, hR⟩)
      | (rename_i hx; rw [hR.1 _ _ hx]; cases h; exact ⟨l, rfl, hR⟩)
      | cases h
  | istore_n z => dsimp only [aStp] at h ⊢; split at h <;> first | (cases h; exact ⟨_, rfl, sb_put1 hR⟩) | cases h
  | istore z => dsimp only [aStp] at h ⊢; split at h <;> first | (cases h; exact ⟨_, rfl, sb_put1 hR⟩) | cases h
  | astore_n z => dsimp only [aStp] at h ⊢; split at h <;> first | (cases h; exact ⟨_, rfl, sb_put1 hR⟩) | cases h
  | astore z => dsimp only [aStp] at h ⊢; split at h <;> first | (cases h; exact ⟨_, rfl, sb_put1 hR⟩) | cases h
  | lstore_n z => dsimp only [aStp] at h ⊢; split at h <;> first | (cases h; exact ⟨_, rfl, sb_put2 hR⟩) | cases h
  | lstore z => dsimp only [aStp] at h ⊢; split at h <;> first | (cases h; exact ⟨_, rfl, sb_put2 hR⟩) | cases h
  | iinc z z2 =>
    dsimp only [aStp] at h ⊢; split at h
    next hx => rw [hR.1 _ _ hx]; cases h; exact ⟨_, rfl, sb_put1 hR⟩
    next => cases h
  | ifCond c z => cases c <;> (dsimp only [aStp] at h ⊢; split at h <;> first | (cases h; exact ⟨l, rfl, hR⟩) | cases h)
  | if_icmp c z => cases c <;> (dsimp only [aStp] at h ⊢; split at h <;> first | (cases h; exact ⟨l, rfl, hR⟩) | cases h)
  | arraylength => dsimp only [aStp] at h ⊢; split at h <;> first | (obtain ⟨hb, rfl⟩ := cond_some h; exact ⟨l, by rw [hb]; rfl, hR⟩) | cases h
  | getfield z => dsimp only [aStp] at h ⊢; split at h <;> first | (obtain ⟨hb, rfl⟩ := cond_some h; exact ⟨l, by rw [hb]; rfl, hR⟩) | cases h
  | putfield z => dsimp only [aStp] at h ⊢; split at h <;> first | (obtain ⟨hb, rfl⟩ := cond_some h; exact ⟨l, by rw [hb]; rfl, hR⟩) | cases h
  | _ => first
    | (cases h; exact ⟨l, rfl, hR⟩)
    | (dsimp only [aStp] at h ⊢; split at h <;> first | (cases h; exact ⟨l, rfl, hR⟩) | cases h)
    | cases h
theorem sb_stn {kd : Nat → Nat × Nat} {n0 : Nat} {ai : aI} {pc : Nat} {l' l : aL} {st : List Value} {hp : aH} (hR : aSb l' l) {Z : aZ} {X : aX} {K : aC → Prop} {rv : Option Value} {hh : aH} (h : aStp kd n0 ai (pc, l', st, hp) = none) (hs : aSpc kd Z X K ai (pc, l', st, hp) rv hh) : aStp kd n0 ai (pc, l, st, hp) = none := by
  obtain ⟨ins, nx, a, b, t, v⟩ := ai
  cases ins with
  | iload_n z => exact hs.elim
  | iload z => exact hs.elim
  | lload_n z => exact hs.elim
  | lload z => exact hs.elim
  | aload_n z => exact hs.elim
  | aload z => exact hs.elim
  | istore_n z => exact hs.elim
  | istore z => exact hs.elim
  | astore_n z => exact hs.elim
  | astore z => exact hs.elim
  | lstore_n z => exact hs.elim
  | lstore z => exact hs.elim
  | iinc z z2 => exact hs.elim
  | arraylength => dsimp only [aStp] at h ⊢; split at h <;> first | rfl | (rw [cond_none h]; rfl)
  | getfield z => dsimp only [aStp] at h ⊢; split at h <;> first | rfl | (rw [cond_none h]; rfl)
  | putfield z => dsimp only [aStp] at h ⊢; split at h <;> first | rfl | (rw [cond_none h]; rfl)
  | _ => first | exact hs.elim | rfl
theorem sb_spc {kd : Nat → Nat × Nat} {Z : aZ} {X : aX} {K' K : aC → Prop} {ai : aI} {pc : Nat} {l' l : aL} {st : List Value} {h0 : aH} {rv : Option Value} {hh : aH} (hR : aSb l' l) (hK : ∀ pc l' l st h, aSb l' l → K' (pc, l', st, h) → K (pc, l, st, h)) (h : aSpc kd Z X K' ai (pc, l', st, h0) rv hh) : aSpc kd Z X K ai (pc, l, st, h0) rv hh := by
  have hO := sb_oks hR
  obtain ⟨ins, nx, a, b, t, v⟩ := ai
  cases ins with
  | ireturn => dsimp only [aSpc] at h ⊢; split at h <;> first | exact h | exact h.elim
  | lreturn => dsimp only [aSpc] at h ⊢; split at h <;> first | exact h | exact h.elim
  | areturn => dsimp only [aSpc] at h ⊢; split at h <;> first | exact h | exact h.elim
  | return_ => dsimp only [aSpc] at h ⊢; split at h <;> first | exact h | exact h.elim
  | idiv => dsimp only [aSpc] at h ⊢; split at h <;> first | (obtain ⟨h1, h⟩ := h; exact ⟨h1, hK _ _ _ _ _ hR h⟩) | exact h.elim
  | irem => dsimp only [aSpc] at h ⊢; split at h <;> first | (obtain ⟨h1, h⟩ := h; exact ⟨h1, hK _ _ _ _ _ hR h⟩) | exact h.elim
  | ldiv => dsimp only [aSpc] at h ⊢; split at h <;> first | (obtain ⟨h1, h⟩ := h; exact ⟨h1, hK _ _ _ _ _ hR h⟩) | exact h.elim
  | lrem => dsimp only [aSpc] at h ⊢; split at h <;> first | (obtain ⟨h1, h⟩ := h; exact ⟨h1, hK _ _ _ _ _ hR h⟩) | exact h.elim
  | arraylength => dsimp only [aSpc] at h ⊢; split at h <;> first | (obtain ⟨h1, h⟩ := h; exact ⟨h1, hK _ _ _ _ _ hR h⟩) | exact h.elim
  | iaload =>
    dsimp only [aSpc] at h ⊢; split at h
    next => obtain ⟨h1, ⟨h2, h3, h⟩ | ⟨h2, h⟩⟩ := h <;> first | exact ⟨h1, Or.inl ⟨h2, h3, hK _ _ _ _ _ hR h⟩⟩ | exact ⟨h1, Or.inr ⟨h2, hK _ _ _ _ _ hR h⟩⟩
    next => exact h.elim
  | laload =>
    dsimp only [aSpc] at h ⊢; split at h
    next => obtain ⟨h1, ⟨h2, h3, h⟩ | ⟨h2, h⟩⟩ := h <;> first | exact ⟨h1, Or.inl ⟨h2, h3, hK _ _ _ _ _ hR h⟩⟩ | exact ⟨h1, Or.inr ⟨h2, hK _ _ _ _ _ hR h⟩⟩
    next => exact h.elim
  | baload =>
    dsimp only [aSpc] at h ⊢; split at h
    next => obtain ⟨h1, ⟨h2, h3, h⟩ | ⟨h2, h⟩⟩ := h <;> first | exact ⟨h1, Or.inl ⟨h2, h3, hK _ _ _ _ _ hR h⟩⟩ | exact ⟨h1, Or.inr ⟨h2, hK _ _ _ _ _ hR h⟩⟩
    next => exact h.elim
  | getfield z =>
    dsimp only [aSpc] at h ⊢; split at h
    next => obtain ⟨h1, ⟨h2, h⟩ | ⟨h2, h⟩⟩ := h <;> first | exact ⟨h1, Or.inl ⟨h2, hK _ _ _ _ _ hR h⟩⟩ | exact ⟨h1, Or.inr ⟨h2, hK _ _ _ _ _ hR h⟩⟩
    next => exact h.elim
  | aaload => dsimp only [aSpc] at h ⊢; split at h <;> first | (obtain ⟨h1, h2, h3, h4, h⟩ := h; exact ⟨h1, h2, h3, h4, hK _ _ _ _ _ hR h⟩) | exact h.elim
  | iastore => dsimp only [aSpc] at h ⊢; split at h <;> first | (obtain ⟨h1, h2, h3, h⟩ := h; exact ⟨h1, h2, h3, hK _ _ _ _ _ hR h⟩) | exact h.elim
  | lastore => dsimp only [aSpc] at h ⊢; split at h <;> first | (obtain ⟨h1, h2, h3, h⟩ := h; exact ⟨h1, h2, h3, hK _ _ _ _ _ hR h⟩) | exact h.elim
  | bastore => dsimp only [aSpc] at h ⊢; split at h <;> first | (obtain ⟨h1, h2, h3, h4, h⟩ := h; exact ⟨h1, h2, h3, h4, hK _ _ _ _ _ hR h⟩) | exact h.elim
  | aastore => dsimp only [aSpc] at h ⊢; split at h <;> first | (obtain ⟨h1, h2, h3, h4, h5, h6, h7, h⟩ := h; exact ⟨h1, h2, h3, h4, h5, h6, h7, hK _ _ _ _ _ hR h⟩) | exact h.elim
  | putfield z => dsimp only [aSpc] at h ⊢; split at h <;> first | (obtain ⟨h1, h2, h3, h4, h⟩ := h; exact ⟨h1, h2, h3, h4, hK _ _ _ _ _ hR h⟩) | exact h.elim
  | new z => dsimp only [aSpc] at h ⊢; obtain ⟨h1, h2, h3, h4, h⟩ := h; exact ⟨h1, h2, hO _ h3, h4, hK _ _ _ _ _ hR h⟩
  | newarray z => dsimp only [aSpc] at h ⊢; split at h <;> first | (obtain ⟨h1, h2, h3, h4, h5, h6, h⟩ := h; exact ⟨h1, h2, h3, h4, hO _ h5, h6, hK _ _ _ _ _ hR h⟩) | exact h.elim
  | anewarray z => dsimp only [aSpc] at h ⊢; split at h <;> first | (obtain ⟨h1, h2, h3, h4, h5, h6, h⟩ := h; exact ⟨h1, h2, h3, h4, hO _ h5, h6, hK _ _ _ _ _ hR h⟩) | exact h.elim
  | tableswitch dd lo hi offs =>
    dsimp only [aSpc] at h ⊢; split at h
    next => obtain ⟨h1, h⟩ | ⟨off, h1, h2, h3, h⟩ := h <;> first | exact Or.inl ⟨h1, hK _ _ _ _ _ hR h⟩ | exact Or.inr ⟨off, h1, h2, h3, hK _ _ _ _ _ hR h⟩
    next => exact h.elim
  | lookupswitch dd ps => dsimp only [aSpc] at h ⊢; split at h <;> first | exact hK _ _ _ _ _ hR h | exact h.elim
  | invokestatic z =>
    dsimp only [aSpc] at h ⊢; split at h
    next ht =>
      simp only [if_pos ht]
      split at h
      next =>
        obtain ⟨h1, h2, h3, h4, h5, h6, h7, h8, ⟨h9, h10, h⟩ | ⟨h9, h10, h⟩⟩ := h
        · exact ⟨h1, h2, h3, h4, h5, h6, h7, h8, Or.inl ⟨h9, h10, hK _ _ _ _ _ hR h⟩⟩
        · exact ⟨h1, h2, h3, h4, h5, h6, h7, h8, Or.inr ⟨h9, h10, hK _ _ _ _ _ hR h⟩⟩
      next => exact h.elim
    next ht =>
    simp only [if_neg ht]
    split at h
    next ht => simp only [if_pos ht]; split at h <;> first | (obtain ⟨h1, h⟩ := h; exact ⟨h1, hK _ _ _ _ _ hR h⟩) | exact h.elim
    next ht =>
    simp only [if_neg ht]
    split at h
    next ht => simp only [if_pos ht]; split at h <;> first | (obtain ⟨h1, h⟩ := h; exact ⟨h1, hK _ _ _ _ _ hR h⟩) | exact h.elim
    next ht =>
    simp only [if_neg ht]
    split at h
    next ht => simp only [if_pos ht]; split at h <;> first | (obtain ⟨h1, h⟩ := h; exact ⟨h1, hK _ _ _ _ _ hR h⟩) | exact h.elim
    next ht =>
    simp only [if_neg ht]
    split at h
    next ht => simp only [if_pos ht]; split at h <;> first | (obtain ⟨h1, h⟩ := h; exact ⟨h1, hK _ _ _ _ _ hR h⟩) | exact h.elim
    next ht =>
    simp only [if_neg ht]
    obtain ⟨rv1, h1, h2, h3, h4, h5, h⟩ := h
    exact ⟨rv1, h1, h2, h3, h4, h5.imp id (fun q => ⟨hO _ q.1, q.2⟩), hK _ _ _ _ _ hR h⟩
  | invokevirtual z => dsimp only [aSpc] at h ⊢; obtain ⟨rv1, h1, h2, h3, h4, h5, h6, h⟩ := h; exact ⟨rv1, h1, h2, h3, h4, h5, h6.imp id (fun q => ⟨hO _ q.1, q.2⟩), hK _ _ _ _ _ hR h⟩
  | invokespecial z =>
    dsimp only [aSpc] at h ⊢; split at h
    next ht => simp only [if_pos ht]; split at h <;> first | (obtain ⟨h1, h⟩ := h; exact ⟨h1, hK _ _ _ _ _ hR h⟩) | exact h.elim
    next ht => simp only [if_neg ht]; obtain ⟨h1, h2, h3, h4, h5, h6, h⟩ := h; exact ⟨h1, h2, h3, h4, h5, h6.imp id (fun q => ⟨hO _ q.1, q.2⟩), hK _ _ _ _ _ hR h⟩
  | _ => exact h.elim
theorem sb_run {kd : Nat → Nat × Nat} {Z : aZ} {n0 : Nat} {X : aX} {cd : Nat → Option aI} (F : Nat) : ∀ {pc : Nat} {l' l : aL} {st : List Value} {h : aH} {rv : Option Value} {hh : aH}, aSb l' l → aRun kd Z n0 X cd F (pc, l', st, h) rv hh → aRun kd Z n0 X cd F (pc, l, st, h) rv hh := by
  induction F with
  | zero => intro _ _ _ _ _ _ _ _ h; exact h
  | succ F ih =>
    intro pc l' l st h rv hh hR hr
    unfold aRun at hr ⊢
    dsimp only at hr ⊢
    split at hr
    next => exact hr.elim
    next ai hai =>
      split at hr
      next c' hc =>
        obtain ⟨l1, e1, h1⟩ := sb_stp hR hc
        rw [e1]
        obtain ⟨pc1, l2, st1, hp1⟩ := c'
        exact ih h1 hr
      next hc =>
        rw [sb_stn hR hc hr]
        exact sb_spc hR (fun _ _ _ _ _ h1 h2 => ih h1 h2) hr
/-- what is left of the locals, as a test -/
def sbA : aL → aL → Prop
  | [], _ => True
  | q :: l', l => aGet l q.1 = some q.2 ∧ sbA l' l
def sbB : aL → aL → Bool
  | _, [] => true
  | l', q :: l => (match q.2 with | .ref _ => (match aGet l' q.1 with | some _ => true | none => false) | _ => true) && sbB l' l
def sbN : aL → Bool
  | [] => true
  | q :: l => (match aGet l q.1 with | some _ => false | none => true) && sbN l
theorem sbN_nodup : ∀ {l : aL}, sbN l = true → (l.map Prod.fst).Nodup
  | [], _ => List.nodup_nil
  | q :: l, h => by
    unfold sbN at h
    rw [Bool.and_eq_true] at h
    have h2 := sbN_nodup h.2
    rw [List.map_cons, List.nodup_cons]
    refine ⟨fun hm => ?_, h2⟩
    obtain ⟨q2, hq, he⟩ := List.mem_map.mp hm
    have h3 := get_of h2 (show (q.1, q2.2) ∈ l by rw [← he]; exact hq)
    rw [h3] at h
    exact absurd h.1 Bool.false_ne_true
theorem sbA_get : ∀ {l' l : aL} {i : Nat} {v : Value}, sbA l' l → (i, v) ∈ l' → aGet l i = some v
  | [], _, _, _, _, h => by cases h
  | q :: l', l, i, v, hA, h => by
    rcases List.mem_cons.mp h with h | h
    · subst h; exact hA.1
    · exact sbA_get hA.2 h
theorem sbB_get : ∀ {l' l : aL} {i x : Nat}, sbB l' l = true → (i, Value.ref x) ∈ l → ∃ v, aGet l' i = some v
  | _, [], _, _, _, h => by cases h
  | l', q :: l, i, x, hB, h => by
    unfold sbB at hB
    rw [Bool.and_eq_true] at hB
    rcases List.mem_cons.mp h with h | h
    · subst h
      have h1 := hB.1
      dsimp only at h1
      cases hg : aGet l' i with
      | none => rw [hg] at h1; cases h1
      | some v => exact ⟨v, rfl⟩
    · exact sbB_get hB.2 h
theorem sb_of {l' l : aL} (hA : sbA l' l) (hB : sbB l' l = true) (h1 : sbN l = true) (h2 : sbN l' = true) : aSb l' l := by
  refine ⟨fun i v h => sbA_get hA (get_mem h), fun i x h => ?_, sbN_nodup h1, sbN_nodup h2⟩
  obtain ⟨v, hv⟩ := sbB_get hB (get_mem h)
  have h3 := sbA_get hA (get_mem hv)
  rw [h] at h3
  rw [hv, h3]
/-- on and on, up to a branch, an instruction with a side condition, or one of the places sp -/
def aSvW (kd : Nat → Nat × Nat) (n0 : Nat) (cd : Nat → Option aI) (sp : List Nat) : Nat → aC → Option aC
  | 0, c => some c
  | k + 1, c => match sp.any (Nat.beq c.1) with
    | true => some c
    | false => match cd c.1 with
      | none => some c
      | some ai => match aBrk ai.1 with
        | true => some c
        | false => match aStp kd n0 ai c with
          | none => some c
          | some c' => aSvW kd n0 cd sp k c'
def aSvP (kd : Nat → Nat × Nat) (n0 : Nat) (cd : Nat → Option aI) (sp : List Nat) (k : Nat) (c : aC) : Option aC :=
  match sp.any (Nat.beq c.1) with
  | true => none
  | false => match cd c.1 with
    | none => none
    | some ai => match aBrk ai.1 with
      | true => none
      | false => match aStp kd n0 ai c with
        | none => none
        | some c' => aSvW kd n0 cd sp k c'
section GV
variable {L : Nat} {xs : Nat → Int32} {fv : Value} {n0 d : Nat} {cd : Nat → Option aI} {P : Option Value → aH → Prop}
theorem go_v0 {c c' : aC} (sp : List Nat) (k : Nat) (hs : aSvW (akd L) n0 cd sp k c = some c') (h : aTo L xs fv n0 d cd c' P) : aTo L xs fv n0 d cd c P := by
  induction k generalizing c with
  | zero => cases hs; exact h
  | succ k ih =>
    unfold aSvW at hs
    split at hs
    next => cases hs; exact h
    next =>
      split at hs
      next => cases hs; exact h
      next ai hai =>
        split at hs
        next => cases hs; exact h
        next =>
          split at hs
          next => cases hs; exact h
          next c1 h1 => exact go_st 1 (by unfold aStN; rw [hai]; dsimp only; rw [h1]; rfl) (ih hs)
theorem go_v {c c' : aC} (sp : List Nat) (k : Nat) (hs : aSvP (akd L) n0 cd sp k c = some c') (h : aTo L xs fv n0 d cd c' P) : aTo L xs fv n0 d cd c P := by
  unfold aSvP at hs
  split at hs
  next => cases hs
  next =>
    split at hs
    next => cases hs
    next ai hai =>
      split at hs
      next => cases hs
      next =>
        split at hs
        next => cases hs
        next c1 h1 => exact go_st 1 (by unfold aStN; rw [hai]; dsimp only; rw [h1]; rfl) (go_v0 sp k hs h)
theorem go_sub {pc : Nat} {l l' : aL} {st : List Value} {h : aH} (hA : sbA l' l) (hB : sbB l' l = true) (h1 : sbN l = true) (h2 : sbN l' = true) (k : aTo L xs fv n0 d cd (pc, l', st, h) P) : aTo L xs fv n0 d cd (pc, l, st, h) P := by
  obtain ⟨rv, hh, ⟨F, hr⟩, hp⟩ := k
  exact ⟨rv, hh, ⟨F, sb_run F (sb_of hA hB h1 h2) hr⟩, hp⟩
variable {hn : Nat} {hI : Nat → Nat → Int32} {hJ : Nat → Nat → Int64} {hR : Nat → Nat → Option Nat}
theorem go_get {z i pc nx a b t : Nat} {v : Value} {ls : aL} {r : List Value} (hc : cd pc = some (.getfield z, nx, a, b, t, v)) (hl : i < hn) (hk : (akd L i).1 = a) (k : aTo L xs fv n0 d cd (nx, ls, aVal (hn, hI, hJ, hR) t i b :: r, (hn, hI, hJ, hR)) P) : aTo L xs fv n0 d cd (pc, ls, .ref i :: r, (hn, hI, hJ, hR)) P := by
  refine go_st 1 ?_ k
  unfold aStN
  dsimp only
  rw [hc]
  dsimp only [aStp]
  rw [blt_t hl, hk, show Nat.beq a a = true from Nat.beq_refl a, Bool.or_true]
  rfl
theorem go_getR {z i q pc nx a b : Nat} {v : Value} {ls : aL} {r : List Value} (hc : cd pc = some (.getfield z, nx, a, b, 2, v)) (hl : i < hn) (hk : (akd L i).1 = a) (hq : hR i b = some q) (k : aTo L xs fv n0 d cd (nx, ls, .ref q :: r, (hn, hI, hJ, hR)) P) : aTo L xs fv n0 d cd (pc, ls, .ref i :: r, (hn, hI, hJ, hR)) P := by
  refine go_get hc hl hk ?_
  show aTo L xs fv n0 d cd (nx, ls, va_rf (hR i b) :: r, (hn, hI, hJ, hR)) P
  rw [hq]
  exact k
theorem go_putI {z i pc nx a b : Nat} {x : Int32} {v : Value} {ls : aL} {r : List Value} (hc : cd pc = some (.putfield z, nx, a, b, 0, v)) (hl : i < hn) (hk : (akd L i).1 = a) (k : aTo L xs fv n0 d cd (nx, ls, r, hn, up2 hI i b x, hJ, hR) P) : aTo L xs fv n0 d cd (pc, ls, .int x :: .ref i :: r, (hn, hI, hJ, hR)) P := by
  refine go_st 1 ?_ k
  unfold aStN
  dsimp only
  rw [hc]
  dsimp only [aStp]
  rw [blt_t hl, hk, show Nat.beq a a = true from Nat.beq_refl a, Bool.or_true]
  rfl
theorem go_aaldR {i q pc nx a b t : Nat} {v : Value} {ls : aL} {j : Int32} {r : List Value} (hc : cd pc = some (.aaload, nx, a, b, t, v)) (hin : vp_in j (akd L i).2) (hl : i < hn) (hk : 10 ≤ (akd L i).1) (hk2 : (akd L i).1 ≤ 12) (hq : hR i j.toNatClampNeg = some q) (k : aTo L xs fv n0 d cd (nx, ls, .ref q :: r, (hn, hI, hJ, hR)) P) : aTo L xs fv n0 d cd (pc, ls, .int j :: .ref i :: r, (hn, hI, hJ, hR)) P := by
  refine go_aald hc hin hl hk hk2 ?_
  rw [hq]
  exact k
end GV
theorem av0 {n : Nat} {I : Nat → Nat → Int32} {J : Nat → Nat → Int64} {R : Nat → Nat → Option Nat} {i b : Nat} : aVal (n, I, J, R) 0 i b = .int (I i b) := rfl
theorem av3 {n : Nat} {I : Nat → Nat → Int32} {J : Nat → Nat → Int64} {R : Nat → Nat → Option Nat} {i b : Nat} : aVal (n, I, J, R) 3 i b = .int (I i b) := rfl
theorem av1 {n : Nat} {I : Nat → Nat → Int32} {J : Nat → Nat → Int64} {R : Nat → Nat → Option Nat} {i b : Nat} : aVal (n, I, J, R) 1 i b = .long (J i b) := rfl
theorem up2_e {α : Type} {f : Nat → Nat → α} {i k : Nat} {v : α} : up2 f i k v i k = v := by rw [up2_at, if_pos rfl]
theorem up2_s {α : Type} {f : Nat → Nat → α} {i k j q : Nat} {v : α} (h : Nat.beq q k = false) : up2 f i k v j q = f j q := by
  unfold up2; rw [h, Bool.and_false]; rfl
theorem up2_o {α : Type} {f : Nat → Nat → α} {i k j : Nat} {v : α} (h : Nat.beq j i = false) : up2 f i k v j = f j := by
  funext q
  unfold up2; rw [h]; rfl
theorem up1_e {α : Type} {f : Nat → Nat → α} {i : Nat} {g : Nat → α} : up1 f i g i = g := up1_at
theorem up1_o {α : Type} {f : Nat → Nat → α} {i j : Nat} {g : Nat → α} (h : Nat.beq j i = false) : up1 f i g j = f j := by
  unfold up1; rw [h]; rfl
