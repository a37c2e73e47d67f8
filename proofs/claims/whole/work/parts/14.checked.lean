section CK
variable {cl : List vw_C} {fk : Nat → Nat → Nat} {cy : Nat → ClassId} {tys : List (ClassId × FieldType)} {Ts : List Jvm.Cond} {SF : List (String × String × String × Value)} {SK : List (String × Nat × String × Nat)} {NW : List aNt} {AO : List String} {mt : Nat → aMt} {own : String} {lk : aLk} {bytes : ByteArray} {nL rt : Nat} {ini : Bool} {ret : Option FieldType}
set_option maxHeartbeats 4000000 in
theorem aGs_sound (hlk : aLo cl cy tys Ts SF SK NW AO mt own lk) (hrt : aRt rt ret) (h0 : ∃ r t0, cl[0]? = some r ∧ tys[(t0 : Nat)]? = some (cy 10, .object r.1)) (h2 : ∃ r t0, cl[2]? = some r ∧ tys[(t0 : Nat)]? = some (cy 11, .object r.1)) (h4 : ∃ r t0, cl[4]? = some r ∧ tys[(t0 : Nat)]? = some (cy 12, .object r.1))
    (hac : Cond.arrayClass .int ∈ Ts ∧ Cond.arrayClass .long ∈ Ts ∧ Cond.arrayClass .boolean ∈ Ts) {pc len a b t : Nat} {v : Value} {ins : Instr} (h : aGs lk fk nL ini rt pc len a b t v ins = true) :
    aSd cl fk Ts SF SK own nL ini pc len a b t v ins ∧ aSp cl cy tys Ts NW AO mt own ret pc len a b t ins := by
  obtain ⟨q1, q2, q3, q4, q5, q6, q7, q8, q9, q10, q11⟩ := hlk
  cases ins with
  | iconst z =>
    dsimp only [aGs] at h
    simp only [Bool.and_eq_true, Bool.or_eq_true, Nat.beq_eq, decide_eq_true_eq] at h
    exact ⟨h, trivial⟩
  | bipush z =>
    dsimp only [aGs] at h
    simp only [Bool.and_eq_true, Bool.or_eq_true, Nat.beq_eq, decide_eq_true_eq] at h
    exact ⟨h, trivial⟩
  | sipush z =>
    dsimp only [aGs] at h
    simp only [Bool.and_eq_true, Bool.or_eq_true, Nat.beq_eq, decide_eq_true_eq] at h
    exact ⟨h, trivial⟩
  | lconst z =>
    dsimp only [aGs] at h
    simp only [Bool.and_eq_true, Bool.or_eq_true, Nat.beq_eq, decide_eq_true_eq] at h
    exact ⟨h, trivial⟩
  | ldc i =>
    dsimp only [aGs] at h
    simp only [Bool.and_eq_true, Bool.or_eq_true, Nat.beq_eq, decide_eq_true_eq] at h
    obtain ⟨h1, h | h⟩ := h
    · obtain ⟨⟨x, y⟩, hq, h⟩ := List.any_eq_true.mp h
      simp only [Bool.and_eq_true, Nat.beq_eq, decide_eq_true_eq] at h
      obtain ⟨rfl, rfl⟩ := h
      exact ⟨⟨h1, Or.inl ⟨y, rfl, q6 _ hq⟩⟩, trivial⟩
    · obtain ⟨⟨x, y⟩, hq, h⟩ := List.any_eq_true.mp h
      simp only [Bool.and_eq_true, Nat.beq_eq, decide_eq_true_eq] at h
      obtain ⟨rfl, rfl⟩ := h
      obtain ⟨tx, hx⟩ := q11 _ hq
      exact ⟨⟨h1, Or.inr ⟨tx, y, rfl, hx⟩⟩, trivial⟩
  | ldc_w i =>
    dsimp only [aGs] at h
    simp only [Bool.and_eq_true, Bool.or_eq_true, Nat.beq_eq, decide_eq_true_eq] at h
    obtain ⟨h1, h⟩ := h
    obtain ⟨⟨x, y⟩, hq, h⟩ := List.any_eq_true.mp h
    simp only [Bool.and_eq_true, Nat.beq_eq, decide_eq_true_eq] at h
    obtain ⟨rfl, rfl⟩ := h
    exact ⟨⟨h1, y, rfl, q6 _ hq⟩, trivial⟩
  | ldc2_w i =>
    dsimp only [aGs] at h
    simp only [Bool.and_eq_true, Bool.or_eq_true, Nat.beq_eq, decide_eq_true_eq] at h
    obtain ⟨h1, h⟩ := h
    obtain ⟨⟨x, y⟩, hq, h⟩ := List.any_eq_true.mp h
    simp only [Bool.and_eq_true, Nat.beq_eq, decide_eq_true_eq] at h
    obtain ⟨rfl, rfl⟩ := h
    exact ⟨⟨h1, y, rfl, q7 _ hq⟩, trivial⟩
  | getstatic i =>
    dsimp only [aGs] at h
    simp only [Bool.and_eq_true, Bool.or_eq_true, Nat.beq_eq, decide_eq_true_eq] at h
    obtain ⟨h1, h⟩ := h
    obtain ⟨⟨x, y⟩, hq, h⟩ := List.any_eq_true.mp h
    simp only [Bool.and_eq_true, Nat.beq_eq, decide_eq_true_eq] at h
    obtain ⟨rfl, rfl⟩ := h
    obtain ⟨z, hz, e, hw⟩ := q8 _ hq
    exact ⟨⟨h1, z, hz, e, hw⟩, trivial⟩
  | iload_n k =>
    dsimp only [aGs] at h
    simp only [Bool.and_eq_true, Bool.or_eq_true, Nat.beq_eq, decide_eq_true_eq] at h
    exact ⟨h, trivial⟩
  | lload_n k =>
    dsimp only [aGs] at h
    simp only [Bool.and_eq_true, Bool.or_eq_true, Nat.beq_eq, decide_eq_true_eq] at h
    exact ⟨h, trivial⟩
  | aload_n k =>
    dsimp only [aGs] at h
    simp only [Bool.and_eq_true, Bool.or_eq_true, Nat.beq_eq, decide_eq_true_eq] at h
    exact ⟨h, trivial⟩
  | iload k =>
    dsimp only [aGs] at h
    simp only [Bool.and_eq_true, Bool.or_eq_true, Nat.beq_eq, decide_eq_true_eq] at h
    exact ⟨h, trivial⟩
  | lload k =>
    dsimp only [aGs] at h
    simp only [Bool.and_eq_true, Bool.or_eq_true, Nat.beq_eq, decide_eq_true_eq] at h
    exact ⟨h, trivial⟩
  | aload k =>
    dsimp only [aGs] at h
    simp only [Bool.and_eq_true, Bool.or_eq_true, Nat.beq_eq, decide_eq_true_eq] at h
    exact ⟨h, trivial⟩
  | istore_n k =>
    dsimp only [aGs] at h
    simp only [Bool.and_eq_true, Bool.or_eq_true, Nat.beq_eq, decide_eq_true_eq] at h
    exact ⟨⟨h.1.1, h.1.2, Nat.le_of_ble_eq_true h.2⟩, trivial⟩
  | lstore_n k =>
    dsimp only [aGs] at h
    simp only [Bool.and_eq_true, Bool.or_eq_true, Nat.beq_eq, decide_eq_true_eq] at h
    exact ⟨⟨h.1.1, h.1.2, Nat.le_of_ble_eq_true h.2⟩, trivial⟩
  | astore_n k =>
    dsimp only [aGs] at h
    simp only [Bool.and_eq_true, Bool.or_eq_true, Nat.beq_eq, decide_eq_true_eq] at h
    exact ⟨⟨h.1.1, h.1.2, Nat.le_of_ble_eq_true h.2⟩, trivial⟩
  | istore k =>
    dsimp only [aGs] at h
    simp only [Bool.and_eq_true, Bool.or_eq_true, Nat.beq_eq, decide_eq_true_eq] at h
    exact ⟨⟨h.1.1, h.1.2, Nat.le_of_ble_eq_true h.2⟩, trivial⟩
  | lstore k =>
    dsimp only [aGs] at h
    simp only [Bool.and_eq_true, Bool.or_eq_true, Nat.beq_eq, decide_eq_true_eq] at h
    exact ⟨⟨h.1.1, h.1.2, Nat.le_of_ble_eq_true h.2⟩, trivial⟩
  | astore k =>
    dsimp only [aGs] at h
    simp only [Bool.and_eq_true, Bool.or_eq_true, Nat.beq_eq, decide_eq_true_eq] at h
    exact ⟨⟨h.1.1, h.1.2, Nat.le_of_ble_eq_true h.2⟩, trivial⟩
  | iinc k z =>
    dsimp only [aGs] at h
    simp only [Bool.and_eq_true, Bool.or_eq_true, Nat.beq_eq, decide_eq_true_eq] at h
    exact ⟨⟨h.1.1.1, h.1.1.2, Nat.le_of_ble_eq_true h.1.2, h.2⟩, trivial⟩
  | goto off =>
    dsimp only [aGs] at h
    simp only [Bool.and_eq_true, Bool.or_eq_true, Nat.beq_eq, decide_eq_true_eq] at h
    exact ⟨h, trivial⟩
  | ifCond c off =>
    dsimp only [aGs] at h
    simp only [Bool.and_eq_true, Bool.or_eq_true, Nat.beq_eq, decide_eq_true_eq] at h
    exact ⟨h, trivial⟩
  | if_icmp c off =>
    dsimp only [aGs] at h
    simp only [Bool.and_eq_true, Bool.or_eq_true, Nat.beq_eq, decide_eq_true_eq] at h
    exact ⟨h, trivial⟩
  | ifnull off =>
    dsimp only [aGs] at h
    simp only [Bool.and_eq_true, Bool.or_eq_true, Nat.beq_eq, decide_eq_true_eq] at h
    exact ⟨h, trivial⟩
  | ifnonnull off =>
    dsimp only [aGs] at h
    simp only [Bool.and_eq_true, Bool.or_eq_true, Nat.beq_eq, decide_eq_true_eq] at h
    exact ⟨h, trivial⟩
  | getfield i =>
    dsimp only [aGs] at h
    simp only [Bool.and_eq_true, Bool.or_eq_true, Nat.beq_eq, decide_eq_true_eq] at h
    obtain ⟨h1, ⟨h99, h⟩ | ⟨h3, h⟩⟩ := h
    · refine ⟨⟨h1, Or.inl ⟨h99, ?_⟩⟩, trivial⟩
      exact q9 _ (aM2_of h)
    · obtain ⟨C, T, N, e1, e2, e3⟩ := q1 _ (aM3_of h3)
      exact ⟨⟨h1, Or.inr ⟨C, T, N, e1, e2, e3, h⟩⟩, trivial⟩
  | putfield i =>
    dsimp only [aGs] at h
    simp only [Bool.and_eq_true, Bool.or_eq_true, Nat.beq_eq, decide_eq_true_eq] at h
    obtain ⟨⟨h1, hf⟩, h | ⟨hi, h⟩⟩ := h
    · obtain ⟨C, T, N, e1, e2, e3, e4⟩ := q2 _ (aM3_of h)
      exact ⟨⟨h1, C, T, N, e1, e2, e3, hf, fun z => absurd z (by rw [e4]; decide)⟩, trivial⟩
    · obtain ⟨C, T, N, e1, e2, e3, e4⟩ := q3 _ (aM3_of h)
      exact ⟨⟨h1, C, T, N, e1, e2, e3, hf, fun _ => ⟨hi, e4⟩⟩, trivial⟩
  | ireturn =>
    dsimp only [aGs] at h
    simp only [Bool.and_eq_true, Bool.or_eq_true, Nat.beq_eq, decide_eq_true_eq] at h
    obtain ⟨⟨h1, rfl⟩, h3⟩ := h
    have h3 := Nat.le_of_ble_eq_true h3
    refine ⟨h1, ?_⟩
    have : t = 0 ∨ t = 1 ∨ t = 2 ∨ t = 3 := by omega
    rcases this with rfl | rfl | rfl | rfl
    · exact Or.inl ⟨rfl, hrt⟩
    · exact Or.inr (Or.inl ⟨rfl, hrt⟩)
    · exact Or.inr (Or.inr (Or.inl ⟨rfl, hrt⟩))
    · exact Or.inr (Or.inr (Or.inr ⟨rfl, hrt⟩))
  | lreturn =>
    dsimp only [aGs] at h
    simp only [Bool.and_eq_true, Bool.or_eq_true, Nat.beq_eq, decide_eq_true_eq] at h
    obtain ⟨h1, rfl⟩ := h
    exact ⟨h1, hrt⟩
  | areturn =>
    dsimp only [aGs] at h
    simp only [Bool.and_eq_true, Bool.or_eq_true, Nat.beq_eq, decide_eq_true_eq] at h
    obtain ⟨h1, rfl⟩ := h
    exact ⟨h1, hrt⟩
  | return_ =>
    dsimp only [aGs] at h
    simp only [Bool.and_eq_true, Bool.or_eq_true, Nat.beq_eq, decide_eq_true_eq] at h
    obtain ⟨h1, rfl⟩ := h
    exact ⟨h1, hrt⟩
  | aastore =>
    dsimp only [aGs] at h
    simp only [Bool.and_eq_true, Bool.or_eq_true, Nat.beq_eq, decide_eq_true_eq] at h
    obtain ⟨h1, h⟩ := h
    refine ⟨h1, ?_⟩
    rcases h with ⟨rfl, rfl⟩ | ⟨rfl, rfl⟩ | ⟨rfl, rfl⟩
    · exact h0
    · exact h2
    · exact h4
  | new i =>
    dsimp only [aGs] at h
    simp only [Bool.and_eq_true, Bool.or_eq_true, Nat.beq_eq, decide_eq_true_eq] at h
    obtain ⟨h1, h⟩ := h
    obtain ⟨C, T, e1, e2, e3, e4⟩ := q5 _ (aM3_of h)
    exact ⟨trivial, h1, C, T, e1, e2, e3, e4⟩
  | newarray at_ =>
    dsimp only [aGs] at h
    simp only [Bool.and_eq_true, Bool.or_eq_true, Nat.beq_eq, decide_eq_true_eq] at h
    obtain ⟨h1, h⟩ := h
    refine ⟨trivial, h1, ?_, h⟩
    rcases h with ⟨-, h⟩ | ⟨-, h⟩ | ⟨-, h⟩ <;> rw [h]
    · exact hac.1
    · exact hac.2.1
    · exact hac.2.2
  | anewarray i =>
    dsimp only [aGs] at h
    simp only [Bool.and_eq_true, Bool.or_eq_true, Nat.beq_eq, decide_eq_true_eq] at h
    obtain ⟨h1, h⟩ := h
    obtain ⟨e1, e2, e3⟩ := q10 _ (aM2_of h)
    exact ⟨trivial, h1, e1, e2, e3⟩
  | tableswitch d lo hi offs =>
    dsimp only [aGs] at h
    simp only [Bool.and_eq_true, decide_eq_true_eq, List.all_eq_true] at h
    exact ⟨trivial, h⟩
  | lookupswitch d ps =>
    dsimp only [aGs] at h
    obtain ⟨h1, h2⟩ := Bool.and_eq_true_iff.mp h
    simp only [Bool.and_eq_true, decide_eq_true_eq, List.all_eq_true] at h2
    exact ⟨trivial, h1, h2⟩
  | invokestatic i =>
    dsimp only [aGs] at h
    simp only [Bool.and_eq_true, Bool.or_eq_true, Nat.beq_eq, decide_eq_true_eq] at h
    obtain ⟨rfl, h⟩ := h
    exact ⟨trivial, (q4 _ (aM5_of h)).1 rfl⟩
  | invokevirtual i =>
    dsimp only [aGs] at h
    simp only [Bool.and_eq_true, Bool.or_eq_true, Nat.beq_eq, decide_eq_true_eq] at h
    obtain ⟨rfl, h⟩ := h
    exact ⟨trivial, (q4 _ (aM5_of h)).2.1 rfl⟩
  | invokespecial i =>
    dsimp only [aGs] at h
    simp only [Bool.and_eq_true, Bool.or_eq_true, Nat.beq_eq, decide_eq_true_eq] at h
    obtain ⟨rfl, h⟩ := h
    exact ⟨trivial, (q4 _ (aM5_of h)).2.2 rfl⟩
  | _ => exact ⟨by dsimp only [aGs] at h; simp only [Nat.beq_eq] at h; exact h, trivial⟩
theorem aGb_sound (hlk : aLo cl cy tys Ts SF SK NW AO mt own lk) (hrt : aRt rt ret) (h0 : ∃ r t0, cl[0]? = some r ∧ tys[(t0 : Nat)]? = some (cy 10, .object r.1)) (h2 : ∃ r t0, cl[2]? = some r ∧ tys[(t0 : Nat)]? = some (cy 11, .object r.1)) (h4 : ∃ r t0, cl[4]? = some r ∧ tys[(t0 : Nat)]? = some (cy 12, .object r.1))
    (hac : Cond.arrayClass .int ∈ Ts ∧ Cond.arrayClass .long ∈ Ts ∧ Cond.arrayClass .boolean ∈ Ts) {pc : Nat} {ai : aI} (h : aGb lk fk bytes nL ini rt (pc, ai) = true) : aGood cl fk cy tys Ts SF SK NW AO mt own bytes nL ini ret pc ai := by
  obtain ⟨ins, nx, a, b, t, v⟩ := ai
  unfold aGb at h
  dsimp only at h
  split at h
  next i len hd =>
    simp only [Bool.and_eq_true, decide_eq_true_eq, Nat.beq_eq] at h
    obtain ⟨rfl, rfl, h⟩ := h
    exact ⟨len, hd, rfl, aGs_sound hlk hrt h0 h2 h4 hac h⟩
  next => cases h
end CK
theorem aCond {α : Type} {P : α → Prop} {b : Bool} {x y : Option α} (hx : ∀ a, x = some a → P a) (hy : ∀ a, y = some a → P a) : ∀ a, (bif b then x else y) = some a → P a := by
  cases b
  · exact hy
  · exact hx
def aFnd : List (Nat × aI) → Nat → Option aI
  | [], _ => none
  | q :: l, pc => bif Nat.beq q.1 pc then some q.2 else aFnd l pc
theorem aFnd_all {g : Nat × aI → Bool} {pc : Nat} : ∀ {l : List (Nat × aI)}, l.all g = true → ∀ ai, aFnd l pc = some ai → g (pc, ai) = true
  | [], _, ai, h => by cases h
  | q :: l, hl, ai, h => by
    rw [List.all_cons, Bool.and_eq_true] at hl
    unfold aFnd at h
    cases hb : Nat.beq q.1 pc with
    | true =>
      rw [hb] at h
      have e1 : q.2 = ai := Option.some.inj h
      have e2 : q.1 = pc := Nat.eq_of_beq_eq_true hb
      rw [← e1, ← e2]
      exact hl.1
    | false =>
      rw [hb] at h
      exact aFnd_all hl.2 ai h
