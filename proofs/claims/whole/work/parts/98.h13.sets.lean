/-! few: what does not depend on sails that may not be up -/
def pcN (B : Nat) : Nat := B % 2 + B / 2 % 2 + B / 4 % 2 + B / 8 % 2 + B / 16 % 2 + B / 32 % 2
theorem VV_on {W : Wd} {R : Ru} {U : Nat → Prop} {fit0 on1 on2 : Nat → Bool} {m : Nat}
    (H : ∀ s (now : Option Nat) (fit : Nat → Bool), (∀ s, now = some s → U s) → (∀ s, fit s = true → fit0 s = true) → mayW W.2.2.1 W.2.2.2 now fit on1 m s = mayW W.2.2.1 W.2.2.2 now fit on2 m s)
    (HU : ∀ s (now : Option Nat) (fit : Nat → Bool), (∀ s, now = some s → U s) → (∀ s, fit s = true → fit0 s = true) → mayW W.2.2.1 W.2.2.2 now fit on2 m s = true → U s) : ∀ (n h : Nat) (now : Option Nat) (w : Nat) (fit : Nat → Bool), (∀ s, now = some s → U s) → (∀ s, fit s = true → fit0 s = true) → VV W R (on1, m) n h now w fit = VV W R (on2, m) n h now w fit := by
  have epk : ∀ (h : Nat) (now : Option Nat) (w : Nat) (fit : Nat → Bool), (∀ s, now = some s → U s) → (∀ s, fit s = true → fit0 s = true) → pkW W R (on1, m) h now w fit = pkW W R (on2, m) h now w fit := fun h now w fit hn hf => by
    unfold pkW
    rw [show mayW W.2.2.1 W.2.2.2 now fit (on1, m).1 (on1, m).2 = mayW W.2.2.1 W.2.2.2 now fit (on2, m).1 (on2, m).2 from funext fun s => H s now fit hn hf]
  intro n
  induction n with
  | zero =>
    intro h now w fit hn hf
    unfold VV
    rw [epk h now w fit hn hf]
  | succ n ih =>
    intro h now w fit hn hf
    unfold VV
    rw [epk h now w fit hn hf]
    have hp : ∀ s, pkW W R (on2, m) h now w fit = some s → U s := pkW_P (fun s hs => HU s now fit hn hf hs)
    generalize pkW W R (on2, m) h now w fit = p at hp ⊢
    rw [show (fun j => (chW W w (trW W h w p) j : Int) * VV W R (on1, m) n (h + 1) (nxU p j) (j % 4) (nxF p j fit)) = (fun j => (chW W w (trW W h w p) j : Int) * VV W R (on2, m) n (h + 1) (nxU p j) (j % 4) (nxF p j fit)) from funext fun j => by
      rw [ih (h + 1) (nxU p j) (j % 4) (nxF p j fit) (fun s hs => by
        unfold nxU at hs
        split at hs
        · exact hp s hs
        · cases hs) (fun s hs => by
        unfold nxF at hs
        split at hs
        · exact hf s hs
        · cases p with
          | none => exact hf s hs
          | some q =>
            dsimp only at hs
            rw [Bool.and_eq_true] at hs
            exact hf s hs.1)]]
/-- the best of many sets: the most, then the fewest, then the first -/
def fewW (f : Nat → Int) (pc : Nat → Nat) (ok : Nat → Bool) : Nat → Option (Nat × Int)
  | 0 => none
  | B + 1 => match fewW f pc ok B with
    | none => if ok B = true then some (B, f B) else none
    | some q => if ok B = true ∧ (q.2 < f B ∨ (f B = q.2 ∧ pc B < pc q.1)) then some (B, f B) else some q
theorem few_dom {f : Nat → Int} {pc : Nat → Nat} {ok : Nat → Bool} : ∀ N B, B < N → ok B = true → ∃ q, fewW f pc ok N = some q ∧ f B ≤ q.2 ∧ (f B = q.2 → pc q.1 ≤ pc B)
  | 0, B, h, _ => absurd h (by omega)
  | N + 1, B, h, hB => by
    unfold fewW
    by_cases hBN : B = N
    · subst hBN
      cases hf : fewW f pc ok B with
      | none => exact ⟨(B, f B), by dsimp only; rw [if_pos hB], Int.le_refl _, fun _ => Nat.le_refl _⟩
      | some q =>
        dsimp only
        by_cases hc : q.2 < f B ∨ (f B = q.2 ∧ pc B < pc q.1)
        · exact ⟨(B, f B), by rw [if_pos ⟨hB, hc⟩], Int.le_refl _, fun _ => Nat.le_refl _⟩
        · exact ⟨q, by rw [if_neg (fun h => hc h.2)], by omega, fun e => by omega⟩
    · obtain ⟨q, h1, h2, h3⟩ := few_dom (f := f) (pc := pc) N B (by omega) hB
      rw [h1]
      dsimp only
      by_cases hc : ok N = true ∧ (q.2 < f N ∨ (f N = q.2 ∧ pc N < pc q.1))
      · exact ⟨(N, f N), by rw [if_pos hc], by have := hc.2; show f B ≤ f N; omega, fun e => by
          have e : f B = f N := e
          have h4 := hc.2
          show pc N ≤ pc B
          by_cases h5 : q.2 < f N
          · omega
          · have h6 := h4.resolve_left h5
            have := h3 (by omega)
            omega⟩
      · exact ⟨q, by rw [if_neg hc], h2, h3⟩
theorem few_eq {f : Nat → Int} {pc : Nat → Nat} {okR okC : Nat → Bool} (h1 : ∀ B, okC B = true → okR B = true) (h2 : ∀ B, okR B = true → okC B = false → ∃ B', B' < B ∧ okR B' = true ∧ f B' = f B ∧ pc B' < pc B) : ∀ N, fewW f pc okR N = fewW f pc okC N
  | 0 => rfl
  | N + 1 => by
    have ih := few_eq (f := f) (pc := pc) h1 h2 N
    unfold fewW
    rw [← ih]
    cases hc : okC N with
    | true => rw [h1 N hc]
    | false =>
      cases hr : okR N with
      | false => rfl
      | true =>
        obtain ⟨B', b1, b2, b3, b4⟩ := h2 N hr hc
        obtain ⟨q, q1, q2, q3⟩ := few_dom (f := f) (pc := pc) N B' b1 b2
        rw [q1]
        dsimp only
        rw [if_neg (show ¬ (true = true ∧ (q.2 < f N ∨ f N = q.2 ∧ pc N < pc q.1)) from fun h => by
          have h3 := h.2
          by_cases h5 : q.2 < f N
          · omega
          · have h6 := h3.resolve_left h5
            have := q3 (by omega)
            omega), if_neg (fun h => by cases h.1)]
theorem few_cut {f : Nat → Int} {pc : Nat → Nat} {ok : Nat → Bool} {M : Nat} (h : ∀ B, M ≤ B → ok B = false) : ∀ N, M ≤ N → fewW f pc ok N = fewW f pc ok M
  | 0, hN => by
    have : M = 0 := by omega
    rw [this]
  | N + 1, hN => by
    by_cases hM : M = N + 1
    · rw [hM]
    · have ih := few_cut (f := f) (pc := pc) h N (by omega)
      rw [← ih]
      show (match fewW f pc ok N with | none => if ok N = true then some (N, f N) else none | some q => if ok N = true ∧ (q.2 < f N ∨ (f N = q.2 ∧ pc N < pc q.1)) then some (N, f N) else some q) = _
      rw [h N (by omega)]
      cases fewW f pc ok N with
      | none => rfl
      | some q => dsimp only; rw [if_neg (fun h => by cases h.1)]
theorem few_le {f : Nat → Int} {pc : Nat → Nat} {ok : Nat → Bool} : ∀ N q, fewW f pc ok N = some q → q.1 < N ∧ q.2 = f q.1
  | 0, q, h => by cases h
  | N + 1, q, h => by
    unfold fewW at h
    cases hf : fewW f pc ok N with
    | none =>
      rw [hf] at h
      dsimp only at h
      split at h
      · cases h; exact ⟨Nat.lt_succ_self _, rfl⟩
      · cases h
    | some q' =>
      have := few_le N q' hf
      rw [hf] at h
      dsimp only at h
      split at h
      · cases h; exact ⟨Nat.lt_succ_self _, rfl⟩
      · cases h; exact ⟨by omega, this.2⟩
theorem few_some {f : Nat → Int} {pc : Nat → Nat} {ok : Nat → Bool} (h0 : ok 0 = true) {N : Nat} (hN : 1 ≤ N) : ∃ q, fewW f pc ok N = some q := by
  obtain ⟨q, h, -⟩ := few_dom (f := f) (pc := pc) N 0 hN h0
  exact ⟨q, h⟩
/-! sets as numbers -/
theorem st_and {B U : Nat} (hB : B < 64) (hU : U < 64) : nI B &&& nI U = nI (B &&& U) := by
  have : ∀ B U : Fin 64, nI B.val &&& nI U.val = nI (B.val &&& U.val) := by decide +kernel
  exact this ⟨B, hB⟩ ⟨U, hU⟩
theorem st_sub {B U : Nat} (hB : B < 64) (hU : U < 64) : nI B &&& (nI U ^^^ -1) = 0 ↔ B &&& U = B := by
  have : ∀ B U : Fin 64, nI B.val &&& (nI U.val ^^^ -1) = 0 ↔ B.val &&& U.val = B.val := by decide +kernel
  exact this ⟨B, hB⟩ ⟨U, hU⟩
theorem st_pc {B U : Nat} (hB : B < 64) (hU : U < 64) (h : B &&& U ≠ B) : B &&& U < B ∧ pcN (B &&& U) < pcN B := by
  have : ∀ B U : Fin 64, B.val &&& U.val ≠ B.val → B.val &&& U.val < B.val ∧ pcN (B.val &&& U.val) < pcN B.val := by decide +kernel
  exact this ⟨B, hB⟩ ⟨U, hU⟩ h
theorem st_le {B U : Nat} (hB : B < 64) (hU : U < 64) (h : B &&& U = B) : B ≤ U := by
  have : ∀ B U : Fin 64, B.val &&& U.val = B.val → B.val ≤ U.val := by decide +kernel
  exact this ⟨B, hB⟩ ⟨U, hU⟩ h
theorem st_lt {B U : Nat} (hB : B < 64) : B &&& U < 64 := Nat.lt_of_le_of_lt Nat.and_le_left hB
theorem st_bit {B s : Nat} (hB : B < 64) (hs : 6 ≤ s) : bt (nI B) s = false := by
  unfold bt
  have e : (nI B).toBitVec = BitVec.ofNat 32 B := rfl
  rw [e, BitVec.getLsbD_ofNat]
  rw [Nat.testBit_lt_two_pow (Nat.lt_of_lt_of_le hB (Nat.pow_le_pow_right (n := 2) (i := 6) (by decide) hs))]
  rw [Bool.and_false]
/-- the set of the first n that p holds of -/
def uN (p : Nat → Bool) : Nat → Nat
  | 0 => 0
  | j + 1 => if p j = true then uN p j + 2 ^ j else uN p j
theorem uN_lt (p : Nat → Bool) : ∀ j, uN p j < 2 ^ j
  | 0 => (by decide : 0 < 2 ^ 0)
  | j + 1 => by
    have := uN_lt p j
    have e : 2 ^ (j + 1) = 2 ^ j * 2 := Nat.pow_succ _ _
    unfold uN
    split <;> omega
theorem st_add {a j : Nat} (hj : j < 6) (ha : a < 2 ^ j) : nI a ||| (1 <<< (nI j &&& 31)) = nI (a + 2 ^ j) ∧ ∀ s, s < 6 → bt (nI (a + 2 ^ j)) s = (bt (nI a) s || decide (s = j)) := by
  have h : ∀ j : Fin 6, ∀ a : Fin 64, a.val < 2 ^ j.val → nI a.val ||| (1 <<< (nI j.val &&& 31)) = nI (a.val + 2 ^ j.val) ∧ ∀ s : Fin 6, bt (nI (a.val + 2 ^ j.val)) s.val = (bt (nI a.val) s.val || decide (s.val = j.val)) := by decide +kernel
  have h64 : a < 64 := Nat.lt_of_lt_of_le ha (Nat.le_trans (Nat.pow_le_pow_right (n := 2) (by decide) (show j ≤ 6 by omega)) (by decide))
  obtain ⟨h1, h2⟩ := h ⟨j, hj⟩ ⟨a, h64⟩ ha
  exact ⟨h1, fun s hs => h2 ⟨s, hs⟩⟩
theorem uN_bit (p : Nat → Bool) {s : Nat} (hs : s < 6) : ∀ j, j ≤ 6 → bt (nI (uN p j)) s = (decide (s < j) && p s)
  | 0, _ => by
    have : ∀ s : Fin 6, bt (nI 0) s.val = false := by decide
    rw [show uN p 0 = 0 from rfl, this ⟨s, hs⟩]
    rfl
  | j + 1, hj => by
    have ih := uN_bit p hs j (by omega)
    unfold uN
    by_cases hp : p j = true
    · rw [if_pos hp, (st_add (by omega) (uN_lt p j)).2 s hs, ih]
      by_cases e : s = j
      · subst e; simp [hp]
      · have : (s < j + 1) ↔ (s < j) := by omega
        simp [e, this]
    · rw [if_neg hp, ih]
      by_cases e : s = j
      · subst e; simp at hp; simp [hp]
      · have : (s < j + 1) ↔ (s < j) := by omega
        simp [this]
theorem uN_64 (p : Nat → Bool) {j : Nat} (hj : j ≤ 6) : uN p j < 64 := Nat.lt_of_lt_of_le (uN_lt p j) (Nat.le_trans (Nat.pow_le_pow_right (n := 2) (by decide) hj) (by decide))
/-- a set against bits that need not end -/
theorem st_any {B : Nat} (hB : B < 64) (x : Int32) : nI B &&& (x ^^^ -1) = 0 ↔ B &&& uN (bt x) 6 = B := by
  rw [← st_sub hB (uN_64 _ (Nat.le_refl _))]
  have e : nI B &&& (x ^^^ -1) = nI B &&& (nI (uN (bt x) 6) ^^^ -1) := by
    apply Int32.toBitVec_inj.mp
    apply BitVec.eq_of_getLsbD_eq
    intro i hi
    show bt (nI B &&& (x ^^^ -1)) i = bt (nI B &&& (nI (uN (bt x) 6) ^^^ -1)) i
    rw [bt_and, bt_and, bt_xor, bt_xor]
    by_cases h6 : i < 6
    · rw [uN_bit _ h6 6 (Nat.le_refl _)]
      simp [h6]
    · rw [st_bit hB (by omega)]; simp
  rw [e]
theorem st_shl {c : Nat} (h : c ≤ 6) : (1 : Int32) <<< (nI c &&& 31) = nI (2 ^ c) := by
  have : ∀ c : Fin 7, (1 : Int32) <<< (nI c.val &&& 31) = nI (2 ^ c.val) := by decide
  exact this ⟨c, by omega⟩
theorem st_pcle {B U : Nat} (hB : B < 64) (hU : U < 64) : pcN (B &&& U) ≤ pcN B := by
  by_cases h : B &&& U = B
  · rw [h]; exact Nat.le_refl _
  · exact Nat.le_of_lt (st_pc hB hU h).2
theorem st_pc6 {B : Nat} (hB : B < 64) : pcN B ≤ 6 := by
  have : ∀ B : Fin 64, pcN B.val ≤ 6 := by decide +kernel
  exact this ⟨B, hB⟩
theorem st_ones {B : Nat} (hB : B < 64) (h0 : B ≠ 0) : ∃ B', B' < 64 ∧ nI B &&& (nI B - 1) = nI B' ∧ pcN B = pcN B' + 1 := by
  have : ∀ B : Fin 64, B.val ≠ 0 → nI B.val &&& (nI B.val - 1) = nI (B.val &&& (B.val - 1)) ∧ pcN B.val = pcN (B.val &&& (B.val - 1)) + 1 := by decide +kernel
  obtain ⟨h1, h2⟩ := this ⟨B, hB⟩ h0
  exact ⟨_, st_lt hB, h1, h2⟩
section FW
variable {L : Nat} {xs : Nat → Int32} {fv : Value} {d : Nat} {r : Nat} {rr : Option Nat} {I : Nat → Nat → Int32} {J : Nat → Nat → Int64} {P : Option Value → aH → Prop}
theorem rf_ones_loop {x : Int32} : ∀ (m : Nat) (B n : Nat), B < 64 → pcN B = m → n + m ≤ 6 → P (some (.int (nI (n + m)))) (aHp r rr I J) → aTo L xs fv 111 d cd148 (4, [(3, .int (nI B)), (2, .int (nI n)), (0, .ref 77), (1, .int x)], [], aHp r rr I J) P
  | 0, B, n, hB, hm, hn, K => by
    have h0 : B = 0 := Classical.byContradiction fun h => by
      obtain ⟨B', -, -, h⟩ := st_ones hB h
      omega
    subst h0
    refine go_v (cd := cd148) [] 20 rfl ?_
    refine go_st (cd := cd148) 1 rfl (go_ifT (by decide) ?_)
    refine go_v (cd := cd148) [] 20 rfl ?_
    exact go_ireturn (cd := cd148) rfl K
  | m + 1, B, n, hB, hm, hn, K => by
    have h0 : B ≠ 0 := fun h => by rw [h] at hm; cases hm
    obtain ⟨B', b1, b2, b3⟩ := st_ones hB h0
    refine go_v (cd := cd148) [] 20 rfl ?_
    refine go_st (cd := cd148) 1 rfl (go_ifF (fun h => h0 ((nI_eq (b := 0) (by omega) (by decide)).mp h)) ?_)
    refine go_v (cd := cd148) [16] 20 rfl ?_
    rw [b2]
    refine go_v (cd := cd148) [4] 20 rfl ?_
    exact go_sb (rf_ones_loop m B' (n + 1) b1 (by omega) (by omega) (by rw [show n + 1 + m = n + (m + 1) by omega]; exact K)) ⟨rfl, by rw [nI_succ]; rfl, rfl, rfl, trivial⟩ rfl rfl rfl
theorem rf_ones {B : Nat} (hB : B < 64) (K : P (some (.int (nI (pcN B)))) (aHp r rr I J)) : aCl L xs fv 111 (d + 1) 148 [.ref 77, .int (nI B)] (aHp r rr I J) P := by
  have := st_pc6 hB
  refine cl_of rfl (Nat.le_add_right _ _) ?_
  refine go_v (cd := cd148) [4] 20 rfl ?_
  exact go_sb (rf_ones_loop (x := nI B) (pcN B) B 0 hB rfl (by omega) (by rw [Nat.zero_add]; exact K)) ⟨rfl, rfl, rfl, rfl, trivial⟩ rfl rfl rfl
def bcI (x0 : Int32) : Int32 :=
  let us : Int32 → Int32 → Int32 := fun x y => (x.toUInt32 >>> (y.toUInt32 &&& Int32.toUInt32 31)).toInt32
  let x1 := x0 - (us x0 1 &&& 1431655765)
  let x2 := (x1 &&& 858993459) + (us x1 2 &&& 858993459)
  let x3 := (x2 + us x2 4) &&& 252645135
  let x4 := x3 + us x3 8
  let x5 := x4 + us x4 16
  x5 &&& 63
theorem bc_ok {B : Nat} (hB : B < 64) : bcI (nI B) = nI (pcN B) := by
  have : ∀ B : Fin 64, bcI (nI B.val) = nI (pcN B.val) := by decide +kernel
  exact this ⟨B, hB⟩
theorem cl_bitc {B : Nat} (hB : B < 64) (K : P (some (.int (nI (pcN B)))) (aHp r rr I J)) : aCl L xs fv 111 (d + 1) 177 [.int (nI B)] (aHp r rr I J) P := by
  have e := bc_ok hB
  rw [← e] at K
  unfold bcI at K
  dsimp only at K
  generalize nI B = x0 at *
  refine cl_of rfl (Nat.le_add_right _ _) ?_
  refine go_v (cd := cd177) [10] 20 rfl ?_
  obtain ⟨x1, h1⟩ : ∃ x, x = x0 - ((x0.toUInt32 >>> (Int32.toUInt32 1 &&& Int32.toUInt32 31)).toInt32 &&& 1431655765) := ⟨_, rfl⟩
  rw [← h1] at K
  refine go_sb ?_ (l' := [(0, .int x1)]) ⟨by rw [h1]; rfl, trivial⟩ rfl rfl rfl
  refine go_v (cd := cd177) [24] 20 rfl ?_
  obtain ⟨x2, h2⟩ : ∃ x, x = (x1 &&& 858993459) + ((x1.toUInt32 >>> (Int32.toUInt32 2 &&& Int32.toUInt32 31)).toInt32 &&& 858993459) := ⟨_, rfl⟩
  rw [← h2] at K
  refine go_sb ?_ (l' := [(0, .int x2)]) ⟨by rw [h2]; rfl, trivial⟩ rfl rfl rfl
  refine go_v (cd := cd177) [34] 20 rfl ?_
  obtain ⟨x3, h3⟩ : ∃ x, x = (x2 + (x2.toUInt32 >>> (Int32.toUInt32 4 &&& Int32.toUInt32 31)).toInt32) &&& 252645135 := ⟨_, rfl⟩
  rw [← h3] at K
  refine go_sb ?_ (l' := [(0, .int x3)]) ⟨by rw [h3]; rfl, trivial⟩ rfl rfl rfl
  refine go_v (cd := cd177) [41] 20 rfl ?_
  obtain ⟨x4, h4⟩ : ∃ x, x = x3 + (x3.toUInt32 >>> (Int32.toUInt32 8 &&& Int32.toUInt32 31)).toInt32 := ⟨_, rfl⟩
  rw [← h4] at K
  refine go_sb ?_ (l' := [(0, .int x4)]) ⟨by rw [h4]; rfl, trivial⟩ rfl rfl rfl
  refine go_v (cd := cd177) [48] 20 rfl ?_
  obtain ⟨x5, h5⟩ : ∃ x, x = x4 + (x4.toUInt32 >>> (Int32.toUInt32 16 &&& Int32.toUInt32 31)).toInt32 := ⟨_, rfl⟩
  rw [← h5] at K
  refine go_sb ?_ (l' := [(0, .int x5)]) ⟨by rw [h5]; rfl, trivial⟩ rfl rfl rfl
  refine go_v (cd := cd177) [] 20 rfl ?_
  exact go_ireturn (cd := cd177) rfl K
end FW
