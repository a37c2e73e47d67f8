/-! how a race is read: in numbers -/
def leT (t : Nat) : Option Nat := if t = 115 then some 0 else if t = 104 then some 1 else if t = 119 then some 2 else if t = 116 then some 3 else none
def pN (T : Nat → Nat) (p : Nat) : Option (Nat × Nat) := if 48 ≤ T p ∧ T p ≤ 57 then (if 48 ≤ T (p + 1) ∧ T (p + 1) ≤ 57 then some (10 * (T p - 48) + (T (p + 1) - 48), p + 2) else some (T p - 48, p + 1)) else none
def pT (T : Nat → Nat) (p : Nat) : Nat × Option (List Nat) := match leT (T p) with
  | none => (p, none)
  | some l => if 60 ≤ T (p + 1) ∧ T (p + 1) ≤ 62 then (match pN T (p + 2) with | none => (p + 2, none) | some q => (q.2, some [300 * l + 100 * (T (p + 1) - 60) + q.1])) else (p + 1, none)
def aN (a : Bool) : List Nat := if a = true then [2001] else []
def oN (o : Bool) : List Nat := if o = true then [2002] else []
def bN (a : Bool) : Nat := if a = true then 1 else 0
/-- a part (none), or an E whose parts before wait (some) -/
def pE (T : Nat → Nat) : Nat → Option (Bool × Bool) → Nat → Nat → Nat × Option (List Nat)
  | 0, _, _, p => (p, none)
  | F + 1, none, n, p =>
    if n < 4 ∧ T p = 33 then (match pE T F none (n + 1) (p + 1) with | (q, none) => (q, none) | (q, some cs) => (q, some (cs ++ [2000])))
    else if n < 4 ∧ T p = 40 then (match pE T F (some (false, false)) (n + 1) (p + 1) with | (q, none) => (q, none) | (q, some cs) => if T q = 41 then (q + 1, some cs) else (q, none))
    else pT T p
  | F + 1, some (o, a), n, p => match pE T F none n p with
    | (q, none) => (q, none)
    | (q, some cs) =>
      if T q = 38 then (match pE T F (some (o, true)) n (q + 1) with | (q2, none) => (q2, none) | (q2, some ds) => (q2, some (cs ++ aN a ++ ds)))
      else if T q = 124 then (match pE T F (some (true, false)) n (q + 1) with | (q2, none) => (q2, none) | (q2, some ds) => (q2, some (cs ++ aN a ++ oN o ++ ds)))
      else (q, some (cs ++ aN a ++ oN o))
/-- the text: its bytes, 999 behind the end -/
def txt (T : Nat → Nat) (len : Nat) : Prop := len ≤ 100 ∧ (∀ p, p < len → T p < 256) ∧ ∀ p, len ≤ p → T p = 999
theorem txt_in {T : Nat → Nat} {len p c : Nat} (hT : txt T len) (h : T p = c) (hc : c < 256) : p < len := Nat.lt_of_not_le fun hn => by
  have := hT.2.2 p hn
  omega
theorem txt_lt {T : Nat → Nat} {len p : Nat} (hT : txt T len) (h : T p ≤ 255) : p < len := Nat.lt_of_not_le fun hn => by
  have := hT.2.2 p hn
  omega
theorem pN_ok {T : Nat → Nat} {len p v q : Nat} (hT : txt T len) (h : pN T p = some (v, q)) : p + 1 ≤ q ∧ q ≤ len ∧ v ≤ 99 := by
  unfold pN at h
  by_cases h1 : 48 ≤ T p ∧ T p ≤ 57
  · rw [if_pos h1] at h
    have := txt_lt hT (p := p) (by omega)
    by_cases h2 : 48 ≤ T (p + 1) ∧ T (p + 1) ≤ 57
    · rw [if_pos h2] at h
      have := txt_lt hT (p := p + 1) (by omega)
      have e := Option.some.inj h
      have e1 := congrArg Prod.fst e
      have e2 := congrArg Prod.snd e
      dsimp only at e1 e2
      omega
    · rw [if_neg h2] at h
      have e := Option.some.inj h
      have e1 := congrArg Prod.fst e
      have e2 := congrArg Prod.snd e
      dsimp only at e1 e2
      omega
  · rw [if_neg h1] at h; cases h
theorem leT_lt {t l : Nat} (h : leT t = some l) : l ≤ 3 ∧ t < 128 := by
  unfold leT at h
  split at h
  · have := Option.some.inj h; omega
  · split at h
    · have := Option.some.inj h; omega
    · split at h
      · have := Option.some.inj h; omega
      · split at h
        · have := Option.some.inj h; omega
        · cases h
theorem htL_app : ∀ (a b : List Nat) (n : Nat), htL n (a ++ b) = (htL n a).bind (fun m => htL m b)
  | [], _, _ => rfl
  | c :: a, b, n => by
    show (match htS n c with | none => none | some m => htL m (a ++ b)) = (match htS n c with | none => none | some m => htL m a).bind _
    cases htS n c with
    | none => rfl
    | some m => exact htL_app a b m
theorem htL_cat {a b : List Nat} {n m k : Nat} (h1 : htL n a = some m) (h2 : htL m b = some k) : htL n (a ++ b) = some k := by
  rw [htL_app, h1]; exact h2
theorem htL_aN {a : Bool} {n : Nat} : htL (n + 1 + bN a) (aN a) = some (n + 1) := by
  cases a with
  | false => rfl
  | true =>
    show (match htS (n + 1 + 1) 2001 with | none => none | some m => htL m []) = _
    unfold htS
    rw [if_neg (by decide), if_pos (Or.inl rfl), if_pos (by omega)]
    rfl
theorem htL_oN {o : Bool} {n : Nat} : htL (n + 1 + bN o) (oN o) = some (n + 1) := by
  cases o with
  | false => rfl
  | true =>
    show (match htS (n + 1 + 1) 2002 with | none => none | some m => htL m []) = _
    unfold htS
    rw [if_neg (by decide), if_pos (Or.inr rfl), if_pos (by omega)]
    rfl
theorem pT_ok {T : Nat → Nat} {len p q : Nat} {ds : List Nat} (hT : txt T len) (h : pT T p = (q, some ds)) : ∃ c, ds = [c] ∧ c < 1200 ∧ p + 3 ≤ q ∧ q ≤ len := by
  unfold pT at h
  cases hl : leT (T p) with
  | none => rw [hl] at h; cases congrArg Prod.snd h
  | some l =>
    rw [hl] at h
    dsimp only at h
    have hl3 := (leT_lt hl).1
    by_cases h2 : 60 ≤ T (p + 1) ∧ T (p + 1) ≤ 62
    · rw [if_pos h2] at h
      cases hn : pN T (p + 2) with
      | none => rw [hn] at h; cases congrArg Prod.snd h
      | some z =>
        obtain ⟨z1, z2⟩ := z
        rw [hn] at h
        dsimp only at h
        obtain ⟨b1, b2, b3⟩ := pN_ok hT hn
        have e1 := congrArg Prod.fst h
        have e2 := Option.some.inj (congrArg Prod.snd h)
        dsimp only at e1 e2
        exact ⟨_, e2.symm, by omega, by omega, by omega⟩
    · rw [if_neg h2] at h; cases congrArg Prod.snd h
def mN : Option (Bool × Bool) → Nat
  | none => 0
  | some (o, a) => bN o + bN a
theorem bN_le (a : Bool) : bN a ≤ 1 := by cases a <;> decide
theorem aN_len (a : Bool) : (aN a).length = bN a := by cases a <;> rfl
theorem oN_len (a : Bool) : (oN a).length = bN a := by cases a <;> rfl
/-- what a good reading gives -/
theorem pE_ok {T : Nat → Nat} {len : Nat} (hT : txt T len) : ∀ (F : Nat) (m : Option (Bool × Bool)) (n p q : Nat) (ds : List Nat), n ≤ 4 → pE T F m n p = (q, some ds) → p + 1 ≤ q ∧ q ≤ len ∧ ds.length + p ≤ q + mN m ∧ ∀ h, h ≤ 2 * n + (if m = none then 2 else 0) → htL (h + mN m) ds = some (h + 1)
  | 0, m, n, p, q, ds, hn, h => by cases congrArg Prod.snd h
  | F + 1, none, n, p, q, ds, hn, h => by
    unfold pE at h
    by_cases h1 : n < 4 ∧ T p = 33
    · rw [if_pos h1] at h
      cases hr : pE T F none (n + 1) (p + 1) with
      | mk q1 o1 =>
      rw [hr] at h
      cases o1 with
      | none => cases congrArg Prod.snd h
      | some cs =>
        obtain ⟨a1, a2, a3, a4⟩ := pE_ok hT F none (n + 1) (p + 1) q1 cs (by omega) hr
        have e1 := congrArg Prod.fst h
        have e2 := Option.some.inj (congrArg Prod.snd h)
        dsimp only at e1 e2
        subst e1
        subst e2
        have a3 : cs.length + (p + 1) ≤ q1 + 0 := a3
        refine ⟨by omega, a2, ?_, fun z hz => ?_⟩
        · rw [List.length_append]
          show cs.length + 1 + p ≤ q1 + 0
          omega
        · have hz : z ≤ 2 * n + 2 := hz
          have a5 : htL (z + 0) cs = some (z + 1) := a4 z (by show z ≤ 2 * (n + 1) + 2; omega)
          refine htL_cat a5 ?_
          show (match htS (z + 1) 2000 with | none => none | some m => htL m []) = _
          unfold htS
          rw [if_pos rfl, if_pos (by omega)]
          rfl
    rw [if_neg h1] at h
    by_cases h2 : n < 4 ∧ T p = 40
    · rw [if_pos h2] at h
      cases hr : pE T F (some (false, false)) (n + 1) (p + 1) with
      | mk q1 o1 =>
      rw [hr] at h
      cases o1 with
      | none => cases congrArg Prod.snd h
      | some cs =>
        obtain ⟨a1, a2, a3, a4⟩ := pE_ok hT F (some (false, false)) (n + 1) (p + 1) q1 cs (by omega) hr
        dsimp only at h
        by_cases h41 : T q1 = 41
        · rw [if_pos h41] at h
          have e1 := congrArg Prod.fst h
          have e2 := Option.some.inj (congrArg Prod.snd h)
          dsimp only at e1 e2
          subst e1
          subst e2
          have a3 : cs.length + (p + 1) ≤ q1 + 0 := a3
          have := txt_in hT h41 (by decide)
          refine ⟨by omega, by omega, ?_, fun z hz => ?_⟩
          · show cs.length + p ≤ q1 + 1 + 0
            omega
          · have hz : z ≤ 2 * n + 2 := hz
            exact a4 z (by show z ≤ 2 * (n + 1) + 0; omega)
        · rw [if_neg h41] at h; cases congrArg Prod.snd h
    rw [if_neg h2] at h
    obtain ⟨c, c1, c2, c3, c4⟩ := pT_ok hT h
    subst c1
    refine ⟨by omega, c4, ?_, fun z hz => ?_⟩
    · show 1 + p ≤ q + 0
      omega
    · have hz : z ≤ 2 * n + 2 := hz
      show (match htS z c with | none => none | some m => htL m []) = _
      unfold htS
      rw [if_neg (by omega), if_neg (by omega), if_pos ⟨c2, by omega⟩]
      rfl
  | F + 1, some (o, a), n, p, q, ds, hn, h => by
    unfold pE at h
    cases hr : pE T F none n p with
    | mk q1 o1 =>
    rw [hr] at h
    cases o1 with
    | none => cases congrArg Prod.snd h
    | some cs =>
      dsimp only at h
      obtain ⟨a1, a2, a3, a4⟩ := pE_ok hT F none n p q1 cs hn hr
      have a3 : cs.length + p ≤ q1 + 0 := a3
      have hb1 := bN_le o
      have hb2 := bN_le a
      have hcs : ∀ z, z ≤ 2 * n → htL (z + (bN o + bN a)) (cs ++ aN a) = some (z + bN o + 1) := fun z hz => by
        have a5 : htL (z + (bN o + bN a) + 0) cs = some (z + (bN o + bN a) + 1) := a4 _ (by show z + (bN o + bN a) ≤ 2 * n + 2; omega)
        refine htL_cat a5 ?_
        have := htL_aN (a := a) (n := z + bN o)
        rw [show z + (bN o + bN a) + 1 = z + bN o + 1 + bN a by omega]
        exact this
      have hco : ∀ z, z ≤ 2 * n → htL (z + (bN o + bN a)) (cs ++ aN a ++ oN o) = some (z + 1) := fun z hz => by
        refine htL_cat (hcs z hz) ?_
        have := htL_oN (o := o) (n := z)
        rw [show z + bN o + 1 = z + 1 + bN o by omega]
        exact this
      by_cases h38 : T q1 = 38
      · rw [if_pos h38] at h
        cases hr2 : pE T F (some (o, true)) n (q1 + 1) with
        | mk q2 o2 =>
        rw [hr2] at h
        cases o2 with
        | none => cases congrArg Prod.snd h
        | some es =>
          obtain ⟨b1, b2, b3, b4⟩ := pE_ok hT F (some (o, true)) n (q1 + 1) q2 es hn hr2
          have e1 := congrArg Prod.fst h
          have e2 := Option.some.inj (congrArg Prod.snd h)
          dsimp only at e1 e2
          subst e1
          subst e2
          have b3 : es.length + (q1 + 1) ≤ q2 + (bN o + 1) := b3
          refine ⟨by omega, b2, ?_, fun z hz => ?_⟩
          · rw [List.length_append, List.length_append, aN_len]
            show cs.length + bN a + es.length + p ≤ q2 + (bN o + bN a)
            omega
          · have hz : z ≤ 2 * n + 0 := hz
            refine htL_cat (hcs z hz) ?_
            have b5 : htL (z + (bN o + 1)) es = some (z + 1) := b4 z hz
            rw [show z + bN o + 1 = z + (bN o + 1) by omega]
            exact b5
      rw [if_neg h38] at h
      by_cases h124 : T q1 = 124
      · rw [if_pos h124] at h
        cases hr2 : pE T F (some (true, false)) n (q1 + 1) with
        | mk q2 o2 =>
        rw [hr2] at h
        cases o2 with
        | none => cases congrArg Prod.snd h
        | some es =>
          obtain ⟨b1, b2, b3, b4⟩ := pE_ok hT F (some (true, false)) n (q1 + 1) q2 es hn hr2
          have e1 := congrArg Prod.fst h
          have e2 := Option.some.inj (congrArg Prod.snd h)
          dsimp only at e1 e2
          subst e1
          subst e2
          have b3 : es.length + (q1 + 1) ≤ q2 + (1 + 0) := b3
          refine ⟨by omega, b2, ?_, fun z hz => ?_⟩
          · rw [List.length_append, List.length_append, List.length_append, aN_len, oN_len]
            show cs.length + bN a + bN o + es.length + p ≤ q2 + (bN o + bN a)
            omega
          · have hz : z ≤ 2 * n + 0 := hz
            refine htL_cat (hco z hz) ?_
            have b5 : htL (z + (1 + 0)) es = some (z + 1) := b4 z hz
            exact b5
      · rw [if_neg h124] at h
        have e1 := congrArg Prod.fst h
        have e2 := Option.some.inj (congrArg Prod.snd h)
        dsimp only at e1 e2
        subst e1
        subst e2
        refine ⟨by omega, a2, ?_, fun z hz => hco z hz⟩
        rw [List.length_append, List.length_append, aN_len, oN_len]
        show cs.length + bN a + bN o + p ≤ q1 + (bN o + bN a)
        omega
/-! signs as each side sees them -/
def sgX (x : Int32) (t : Nat) : Prop := (t < 128 ∧ x = nI t) ∨ (128 ≤ t ∧ (-128 ≤ x ∧ x ≤ 255) ∧ (x < 0 ∨ 128 ≤ x))
theorem sg_eq {x : Int32} {t c : Nat} {C : Int32} (h : sgX x t) (hC : C = nI c) (hc : c < 128) : x = C ↔ t = c := by
  subst hC
  rcases h with ⟨h1, rfl⟩ | ⟨h1, h2, h3⟩
  · exact nI_eq (by omega) (by omega)
  · refine ⟨fun e => ?_, fun e => by omega⟩
    have k1 : (0 : Int32) ≤ nI c := nI_pos' (by omega)
    have k2 : nI c < 128 := nI_lt (b := 128) hc (by decide)
    rw [← e] at k1 k2
    exfalso
    rcases h3 with h3 | h3 <;> grind
theorem sg_in {x : Int32} {t a b : Nat} {A B : Int32} (h : sgX x t) (hA : A = nI a) (hB : B = nI b) (hb : b < 128) (ha : a ≤ b) : (A ≤ x ∧ x ≤ B) ↔ (a ≤ t ∧ t ≤ b) := by
  subst hA
  subst hB
  rcases h with ⟨h1, rfl⟩ | ⟨h1, h2, h3⟩
  · rw [nI_leI (by omega) (by omega), nI_leI (by omega) (by omega)]
  · refine ⟨fun e => ?_, fun e => by omega⟩
    have k1 : (0 : Int32) ≤ nI a := nI_pos' (by omega)
    have k2 : nI b < 128 := nI_lt (b := 128) hb (by decide)
    exfalso
    obtain ⟨e1, e2⟩ := e
    generalize nI a = ya at *
    generalize nI b = yb at *
    rcases h3 with h3 | h3 <;> grind
theorem sg_dig {x : Int32} {t m : Nat} {M : Int32} (h : sgX x t) (hM : M = nI m) (hm : m ≤ 9) : ((0 ≤ x - 48 ∧ x - 48 ≤ M) ↔ (48 ≤ t ∧ t ≤ 48 + m)) ∧ (48 ≤ t ∧ t ≤ 57 → x - 48 = nI (t - 48)) := by
  subst hM
  rcases h with ⟨h1, rfl⟩ | ⟨h1, h2, h3⟩
  · have : ∀ t : Fin 128, ∀ m : Fin 10, ((0 ≤ nI t.val - 48 ∧ nI t.val - 48 ≤ nI m.val) ↔ (48 ≤ t.val ∧ t.val ≤ 48 + m.val)) ∧ (48 ≤ t.val ∧ t.val ≤ 57 → nI t.val - 48 = nI (t.val - 48)) := by decide +kernel
    exact this ⟨t, h1⟩ ⟨m, by omega⟩
  · refine ⟨⟨fun e => ?_, fun e => by omega⟩, fun e => by omega⟩
    have k2 : nI m ≤ 9 := nI_le (b := 9) hm (by decide)
    exfalso
    obtain ⟨e1, e2⟩ := e
    generalize nI m = ym at *
    rcases h3 with h3 | h3 <;> grind
