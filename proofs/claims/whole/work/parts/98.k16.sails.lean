/-! lines: the class goes through the sails told now -/
theorem lex_row {N : Nat} {p q : Nat → Nat} (hp : ∀ x, x < 4 → p x < N) (hq : ∀ x, x < 4 → q x < N) : rowN N p < rowN N q ↔ p 0 < q 0 ∨ (p 0 = q 0 ∧ (p 1 < q 1 ∨ (p 1 = q 1 ∧ (p 2 < q 2 ∨ (p 2 = q 2 ∧ p 3 < q 3))))) := by
  obtain ⟨d3, -⟩ := dig_lt (a := (p 0 * N + p 1) * N + p 2) (a' := (q 0 * N + q 1) * N + q 2) (hp 3 (by decide)) (hq 3 (by decide))
  obtain ⟨d2, e2⟩ := dig_lt (a := p 0 * N + p 1) (a' := q 0 * N + q 1) (hp 2 (by decide)) (hq 2 (by decide))
  obtain ⟨d1, e1⟩ := dig_lt (a := p 0) (a' := q 0) (hp 1 (by decide)) (hq 1 (by decide))
  unfold rowN
  rw [d3, d2, e2, d1, e1]
  omega
theorem erl_row {N : Nat} {p q : Nat → Nat} {a b : Nat → Int32} (hN : N ≤ 8) (hp : ∀ x, x < 4 → p x < N) (hq : ∀ x, x < 4 → q x < N) (ha : ∀ x, x < 4 → a x = dgI (p x)) (hb : ∀ x, x < 4 → b x = dgI (q x)) : erl a b 4 0 = true ↔ rowN N p < rowN N q := by
  have c : ∀ x, x < 4 → (dgI (p x) = dgI (q x) ↔ p x = q x) ∧ (dgI (p x) < dgI (q x) ↔ p x < q x) := fun x hx => dg_cmp (Nat.lt_of_lt_of_le (hp x hx) hN) (Nat.lt_of_lt_of_le (hq x hx) hN)
  have e : erl a b 4 0 = (if a 0 = b 0 then (if a 1 = b 1 then (if a 2 = b 2 then (if a 3 = b 3 then false else decide (a 3 < b 3)) else decide (a 2 < b 2)) else decide (a 1 < b 1)) else decide (a 0 < b 0)) := rfl
  rw [e, ha 0 (by decide), ha 1 (by decide), ha 2 (by decide), ha 3 (by decide), hb 0 (by decide), hb 1 (by decide), hb 2 (by decide), hb 3 (by decide), lex_row hp hq]
  obtain ⟨c0, l0⟩ := c 0 (by decide)
  obtain ⟨c1, l1⟩ := c 1 (by decide)
  obtain ⟨c2, l2⟩ := c 2 (by decide)
  obtain ⟨c3, l3⟩ := c 3 (by decide)
  by_cases h0 : p 0 = q 0
  · rw [if_pos (c0.mpr h0)]
    by_cases h1 : p 1 = q 1
    · rw [if_pos (c1.mpr h1)]
      by_cases h2 : p 2 = q 2
      · rw [if_pos (c2.mpr h2)]
        by_cases h3 : p 3 = q 3
        · rw [if_pos (c3.mpr h3)]
          exact ⟨fun h => absurd h Bool.false_ne_true, fun h => by omega⟩
        · rw [if_neg (fun h => h3 (c3.mp h)), decide_eq_true_iff, l3]
          omega
      · rw [if_neg (fun h => h2 (c2.mp h)), decide_eq_true_iff, l2]
        omega
    · rw [if_neg (fun h => h1 (c1.mp h)), decide_eq_true_iff, l1]
      omega
  · rw [if_neg (fun h => h0 (c0.mp h)), decide_eq_true_iff, l0]
    omega
theorem hp_27 {I : Nat → Nat → Int32} {g c a b b' : Nat → Int32} : up1 (hpT (up1 (up1 I 27 b) 25 a) g c) 27 b' = hpT (up1 (up1 I 27 b') 25 a) g c := by
  unfold hpT
  rw [up1_sw (show 19 ≠ 27 by decide), up1_sw (show 5 ≠ 27 by decide), up1_sw (show 25 ≠ 27 by decide), up1_1]
theorem hp_e27 {I : Nat → Nat → Int32} {g c a b : Nat → Int32} : hpT (up1 (up1 I 27 b) 25 a) g c 27 = b := by
  unfold hpT
  rw [up1_o (show Nat.beq 27 19 = false from rfl), up1_o (show Nat.beq 27 5 = false from rfl), up1_o (show Nat.beq 27 25 = false from rfl), up1_e]
theorem cpy_4 {f g : Nat → Int32} : ∀ y, y < 4 → va_cpy f g 0 0 4 y = f y := fun y hy => by
  unfold va_cpy
  rw [if_pos (by omega)]
  congr 1
  omega
def lnA (e : Nat) : Int32 := if e = 0 then -5 else dgI e
section LA
variable {L : Nat} {xs : Nat → Int32} {fv : Value} {d : Nat} {r : Nat} {rr : Option Nat} {I : Nat → Nat → Int32} {J : Nat → Nat → Int64} {P : Option Value → aH → Prop}
variable {A : Nat → List Cl} {W : Wd} {S : Sc}
theorem cl_earl (K : ∀ v : Int32, (v = 0 ∨ v = 1) → (v = 1 ↔ erl (I 25) (I 27) 4 0 = true) → P (some (.int v)) (aHp r rr I J)) : aCl L xs fv 111 (d + 1) 87 [.ref 25, .ref 27] (aHp r rr I J) P := by
  refine cl_of rfl (Nat.le_add_right _ _) ?_
  refine go_v (cd := cd87) [2] 20 rfl ?_
  exact go_sb (earl_loop (a := 25) (c := 27) (lv3 rfl) (lv3 rfl) rfl rfl 4 0 rfl K) ⟨rfl, rfl, rfl, trivial⟩ rfl rfl rfl
theorem wld_27 {b : Nat → Int32} (hW : wld A W I) : wld A W (up1 I 27 b) := by
  obtain ⟨w1, w2, w3, w4, w5, w6, w7, w8, w9, wA, wB⟩ := hW
  exact ⟨w1, w2, w3, w4, w5, iC_c (I := I) rfl rfl rfl rfl rfl rfl rfl rfl (fun j hj => up1_ne (by omega)) (fun j hj => up1_ne (by omega)) w6, w7, w8, w9, wA, wB⟩
theorem iX_27 {a b b' g c : Nat → Int32} (hX : iX A (hpT (up1 (up1 I 27 b) 25 a) g c)) : iX A (hpT (up1 (up1 I 27 b') 25 a) g c) := iX_c (I := hpT (up1 (up1 I 27 b) 25 a) g c) rfl rfl rfl rfl hX
set_option maxHeartbeats 4000000 in
theorem ln_cl {n h w j : Nat} {now : Option Nat} {fit : Nat → Bool} {C : Nat → Int} {T : Nat → Nat → Nat → Int} {g : Nat → Int32} {f : Nat → Int} {pc : Nat → Nat} (hfd : ∀ s, f s = lnV C T w (gRow T (goodD (mayW W.2.2.1 W.2.2.2 now fit S.1 S.2)) w W.2.2.2 s)) (hpc : ∀ s, pc s = rowN (W.2.2.2 + 1) (gRow T (goodD (mayW W.2.2.1 W.2.2.2 now fit S.1 S.2)) w W.2.2.2 s)) (hV : ∀ p : Nat → Nat, VV W (5, 0, fun y => dO (p y), fun _ => none) S n h now w fit = lnV C T w p) (hf : ∀ p, -1000000000000 ≤ lnV C T w p ∧ lnV C T w p ≤ 1000000000000) (hT0 : n = 0 → ∀ e x y, T e x y = 0) (hW : wld A W I) (h1 : I 24 1 = 5) (h2 : I 24 2 = 0) (hn1 : n ≤ 1) (hh : h ≤ 200) (hS1 : scn W S h now w fit 1 I) (hS5 : scn W S h now w fit 5 (up1 I 5 g)) (hj : j < 4)
    (K : ∀ a b c q, iX A (hpT (up1 (up1 I 27 b) 25 a) g c) → fewW f pc (goodD (mayW W.2.2.1 W.2.2.2 now fit S.1 S.2)) (W.2.2.2 + 1) = some q → P (some (.int (lnA (gRow T (goodD (mayW W.2.2.1 W.2.2.2 now fit S.1 S.2)) w W.2.2.2 q.1 j)))) (aHp r rr (hpT (up1 (up1 I 27 b) 25 a) g c) J)) :
    ∀ mm k a b c, k + mm = W.2.2.2 + 1 → (∀ q, fewW f pc (goodD (mayW W.2.2.1 W.2.2.2 now fit S.1 S.2)) k = some q → ∀ y, y < 4 → b y = dgI (gRow T (goodD (mayW W.2.2.1 W.2.2.2 now fit S.1 S.2)) w W.2.2.2 q.1 y)) → iX A (hpT (up1 (up1 I 27 b) 25 a) g c) → aTo L xs fv 111 (d + 9) cd51 (38, [(5, .int (dgI k)), (3, .long (lZ (feM (fewW f pc (goodD (mayW W.2.2.1 W.2.2.2 now fit S.1 S.2)) k)))), (0, .ref 0), (1, .int (nI (n + 1))), (2, .int (nI j))], [], aHp r rr (hpT (up1 (up1 I 27 b) 25 a) g c) J) P
  | 0, k, a, b, c, hk, hb, hX => by
    have hk : k = W.2.2.2 + 1 := hk
    rw [hk] at hb ⊢
    have h6 := hW.1
    obtain ⟨q, hq⟩ := few_some (f := f) (pc := pc) (ok := (goodD (mayW W.2.2.1 W.2.2.2 now fit S.1 S.2))) rfl (N := W.2.2.2 + 1) (by omega)
    have hl := (few_le _ q hq).1
    have hb := hb q hq j hj
    have h8 := gRow_le (T := T) (good := (goodD (mayW W.2.2.1 W.2.2.2 now fit S.1 S.2))) (w := w) (show q.1 ≤ 6 by omega) h6 j hj
    refine go_v (cd := cd51) [] 20 rfl ?_
    refine go_st (cd := cd51) 1 rfl (go_ifT (show I 1 5 ≤ dgI (W.2.2.2 + 1) from by rw [hS1.2.2.2.2.1]; exact (dg_cnt (by omega) (by omega)).mpr (Nat.lt_succ_self _)) ?_)
    refine go_v (cd := cd51) [] 20 rfl ?_
    refine go_iald (cd := cd51) rfl (nI_vin (j := j) (n := 4) hj (by decide)) (lv3 rfl) rfl ?_
    rw [nI_clamp (show j < 2 ^ 31 by omega), hp_e27, hb]
    obtain ⟨m1, m2⟩ := dg_m1 (e := gRow T (goodD (mayW W.2.2.1 W.2.2.2 now fit S.1 S.2)) w W.2.2.2 q.1 j) (by omega)
    have hK := K a b c q hX hq
    refine go_calls (cd := cd51) rfl rfl rfl rfl rfl (cl_shown (fun hm => ⟨rfl, ?_⟩) (fun hm => ⟨rfl, ?_⟩))
    · unfold lnA at hK
      rw [if_pos (m1.mp hm)] at hK
      exact go_ireturn (cd := cd51) rfl hK
    · unfold lnA at hK
      rw [if_neg (fun h => hm (m1.mpr h))] at hK
      exact go_ireturn (cd := cd51) rfl hK
  | mm + 1, k, a, b, c, hk, hb, hX => by
    have h6 := hW.1
    have ih := fun a b c => ln_cl hfd hpc hV hf hT0 hW h1 h2 hn1 hh hS1 hS5 hj K mm (k + 1) a b c (by omega)
    obtain ⟨c1, c2, c3, c4, c5, c6, c7, c8, c9, cA, cB⟩ := id hS1
    have h138 : ∀ a b c o, (∀ q, fewW f pc (goodD (mayW W.2.2.1 W.2.2.2 now fit S.1 S.2)) (k + 1) = some q → ∀ y, y < 4 → b y = dgI (gRow T (goodD (mayW W.2.2.1 W.2.2.2 now fit S.1 S.2)) w W.2.2.2 q.1 y)) → iX A (hpT (up1 (up1 I 27 b) 25 a) g c) → o = fewW f pc (goodD (mayW W.2.2.1 W.2.2.2 now fit S.1 S.2)) (k + 1) → aTo L xs fv 111 (d + 9) cd51 (138, [(5, .int (dgI k)), (3, .long (lZ (feM o))), (0, .ref 0), (1, .int (nI (n + 1))), (2, .int (nI j))], [], aHp r rr (hpT (up1 (up1 I 27 b) 25 a) g c) J) P := fun a b c o hb hX e => by
      have ih := ih a b c hb hX
      rw [← e] at ih
      refine go_v (cd := cd51) [38] 20 rfl ?_
      exact go_sb ih ⟨by rw [← dg_s k]; rfl, rfl, rfl, rfl, rfl, trivial⟩ rfl rfl rfl
    have h72 : (goodD (mayW W.2.2.1 W.2.2.2 now fit S.1 S.2)) k = true → aTo L xs fv 111 (d + 9) cd51 (72, [(5, .int (dgI k)), (3, .long (lZ (feM (fewW f pc (goodD (mayW W.2.2.1 W.2.2.2 now fit S.1 S.2)) k)))), (0, .ref 0), (1, .int (nI (n + 1))), (2, .int (nI j))], [], aHp r rr (hpT (up1 (up1 I 27 b) 25 a) g c) J) P := fun hok => by
      refine go_v (cd := cd51) [] 20 rfl ?_
      refine go_callv (cd := cd51) rfl rfl rfl rfl rfl (lv3 rfl) rfl (cl_with (d := d) (I := up1 I 27 b) hV hf hT0 (wld_27 hW) h1 h2 hn1 hh hS1 (scn_x hS5) (show k ≤ 6 by omega) hX (fun a c hX ha => ⟨rfl, ?_⟩))
      rw [← hfd]
      have h118 : (∀ q, fewW f pc (goodD (mayW W.2.2.1 W.2.2.2 now fit S.1 S.2)) k = some q → (q.2 < f k ∨ (f k = q.2 ∧ pc k < pc q.1))) → aTo L xs fv 111 (d + 9) cd51 (118, [(6, .long (lZ (f k))), (5, .int (dgI k)), (3, .long (lZ (feM (fewW f pc (goodD (mayW W.2.2.1 W.2.2.2 now fit S.1 S.2)) k)))), (0, .ref 0), (1, .int (nI (n + 1))), (2, .int (nI j))], [], aHp r rr (hpT (up1 (up1 I 27 b) 25 a) g c) J) P := fun ht => by
        have htk := few_take (f := f) (pc := pc) (ok := (goodD (mayW W.2.2.1 W.2.2.2 now fit S.1 S.2))) hok ht
        refine go_v (cd := cd51) [] 20 rfl ?_
        refine go_copyI (cd := cd51) (n := 4) (dp := 0) (sp := 0) rfl (by decide) (by decide) (by decide) (lv3 rfl) (lv3 rfl) rfl rfl (Nat.le_of_ble_eq_true rfl) (Nat.le_of_ble_eq_true rfl) rfl ?_
        rw [hp_27, hp_e25, hp_e27, show (0 : Int32).toNatClampNeg = 0 from by decide, show (4 : Int32).toNatClampNeg = 4 from by decide]
        refine go_sb (h138 a (va_cpy a b 0 0 4) c _ (fun q hq y hy => ?_) (iX_27 hX) htk.symm) ⟨rfl, rfl, rfl, rfl, rfl, trivial⟩ rfl rfl rfl
        rw [htk] at hq
        cases hq
        rw [cpy_4 y hy]
        exact ha y hy
      refine go_v (cd := cd51) [] 20 rfl ?_
      by_cases hk0 : k = 0
      · refine go_st (cd := cd51) 1 rfl (go_ifT (by rw [hk0]; decide) ?_)
        refine go_sb (h118 (fun q hq => ?_)) ⟨rfl, rfl, rfl, rfl, rfl, rfl, trivial⟩ rfl rfl rfl
        rw [hk0] at hq; cases hq
      refine go_st (cd := cd51) 1 rfl (go_ifF (fun h => hk0 ((dg_m1 (by omega)).1.mp h)) ?_)
      obtain ⟨q, hq⟩ := few_some (f := f) (pc := pc) (ok := (goodD (mayW W.2.2.1 W.2.2.2 now fit S.1 S.2))) rfl (N := k) (by omega)
      have hb := hb q hq
      have hql := few_le k q hq
      have hM : feM (fewW f pc (goodD (mayW W.2.2.1 W.2.2.2 now fit S.1 S.2)) k) = q.2 := by rw [hq]; rfl
      have hf1 : -1000000000000 ≤ f k ∧ f k ≤ 1000000000000 := by rw [hfd]; exact hf _
      have hf2 : -1000000000000 ≤ q.2 ∧ q.2 ≤ 1000000000000 := by rw [hql.2, hfd]; exact hf _
      obtain ⟨l1, l2, l3⟩ := lgZ3 (a := f k) (b := feM (fewW f pc (goodD (mayW W.2.2.1 W.2.2.2 now fit S.1 S.2)) k)) (by omega) (by omega) (by rw [hM]; omega) (by rw [hM]; omega)
      refine go_v (cd := cd51) [] 20 rfl ?_
      by_cases hgt : q.2 < f k
      · refine go_st (cd := cd51) 1 rfl (go_ifT (l1.mpr (by rw [hM]; exact hgt)) ?_)
        refine go_sb (h118 (fun q' hq' => ?_)) ⟨rfl, rfl, rfl, rfl, rfl, rfl, trivial⟩ rfl rfl rfl
        rw [hq] at hq'; cases hq'; exact Or.inl hgt
      refine go_st (cd := cd51) 1 rfl (go_ifF (fun h => hgt (by rw [← hM]; exact l1.mp h)) ?_)
      refine go_v (cd := cd51) [] 20 rfl ?_
      have hno : ¬ (q.2 < f k ∨ (f k = q.2 ∧ pc k < pc q.1)) → aTo L xs fv 111 (d + 9) cd51 (138, [(5, .int (dgI k)), (3, .long (lZ (feM (fewW f pc (goodD (mayW W.2.2.1 W.2.2.2 now fit S.1 S.2)) k)))), (0, .ref 0), (1, .int (nI (n + 1))), (2, .int (nI j))], [], aHp r rr (hpT (up1 (up1 I 27 b) 25 a) g c) J) P := fun hn => by
        have e := few_skip (ok := (goodD (mayW W.2.2.1 W.2.2.2 now fit S.1 S.2))) hq hn
        refine h138 a b c _ (fun q' hq' => ?_) hX (by rw [e, hq])
        rw [e] at hq'; cases hq'; exact hb
      by_cases heq : f k = q.2
      case neg =>
        refine go_st (cd := cd51) 1 rfl (go_ifF (fun h => heq (by rw [← hM]; exact l2.mp h)) ?_)
        exact go_sb (hno (by omega)) ⟨rfl, rfl, rfl, rfl, rfl, trivial⟩ rfl rfl rfl
      refine go_st (cd := cd51) 1 rfl (go_ifT (l2.mpr (by rw [hM]; exact heq)) ?_)
      refine go_v (cd := cd51) [] 20 rfl ?_
      refine go_calls (cd := cd51) rfl rfl rfl rfl rfl (cl_earl (d := d + 8) (fun v hv hvi => ⟨rfl, ?_⟩))
      rw [hp_e25, hp_e27, erl_row (N := W.2.2.2 + 1) (by omega) (fun x hx => ?_) (fun x hx => ?_) ha hb, ← hpc, ← hpc] at hvi
      rcases hv with hv | hv
      · subst hv
        refine go_st (cd := cd51) 1 rfl (go_ifT rfl ?_)
        refine go_sb (hno (fun h => ?_)) ⟨rfl, rfl, rfl, rfl, rfl, trivial⟩ rfl rfl rfl
        exact absurd (hvi.mpr (h.resolve_left hgt).2) (by decide)
      · subst hv
        refine go_st (cd := cd51) 1 rfl (go_ifF (by decide) ?_)
        refine go_sb (h118 (fun q' hq' => ?_)) ⟨rfl, rfl, rfl, rfl, rfl, rfl, trivial⟩ rfl rfl rfl
        rw [hq] at hq'; cases hq'; exact Or.inr ⟨heq, hvi.mp rfl⟩
      · have := gB_le (f := T k x) (good := (goodD (mayW W.2.2.1 W.2.2.2 now fit S.1 S.2))) W.2.2.2
        show (if x = w then k else gB (T k x) (goodD (mayW W.2.2.1 W.2.2.2 now fit S.1 S.2)) W.2.2.2) < W.2.2.2 + 1
        split <;> omega
      · have := gB_le (f := T q.1 x) (good := (goodD (mayW W.2.2.1 W.2.2.2 now fit S.1 S.2))) W.2.2.2
        show (if x = w then q.1 else gB (T q.1 x) (goodD (mayW W.2.2.1 W.2.2.2 now fit S.1 S.2)) W.2.2.2) < W.2.2.2 + 1
        split <;> omega
    refine go_v (cd := cd51) [] 20 rfl ?_
    refine go_st (cd := cd51) 1 rfl (go_ifF (show ¬ I 1 5 ≤ dgI k from by rw [c5]; exact fun h => absurd ((dg_cnt (by omega) (by omega)).mp h) (by omega)) ?_)
    refine go_v (cd := cd51) [] 20 rfl ?_
    by_cases hk0 : k = 0
    · refine go_st (cd := cd51) 1 rfl (go_ifT (by rw [hk0]; decide) ?_)
      exact h72 (by rw [hk0]; rfl)
    refine go_st (cd := cd51) 1 rfl (go_ifF (fun h => hk0 ((dg_m1 (by omega)).1.mp h)) ?_)
    obtain ⟨s, hs⟩ : ∃ s, k = s + 1 := ⟨k - 1, by omega⟩
    have hq : mayQ (I 8) (I 1 5) (dgI k) (I 1 0) (I 1 6) (I 1 7) (I 1 4) ↔ (goodD (mayW W.2.2.1 W.2.2.2 now fit S.1 S.2)) k = true := by
      have h := mayQ_W (nd := I 8) (ndN := W.2.2.1) (cnt := W.2.2.2) (many := S.2) (now := now) (o := some s) (x := I 1 6) (y := I 1 7) (fun s hs => ⟨(hW.2.2.1 s hs).2.2.2.1, (hW.2.2.1 s hs).2.2.2.2.2⟩) cA h6 cB (fun u hu => by cases hu; omega)
      rw [c6, c7] at h
      rw [c5, c1, c4, hs]
      exact h
    refine go_v (cd := cd51) [] 20 rfl ?_
    refine go_callv (cd := cd51) rfl rfl rfl rfl rfl (lv3 rfl) rfl (cl_may1 (show I 1 5 ≤ 6 from by rw [c5]; exact nI_le (b := 6) h6 (by decide)) (fun hm => ⟨rfl, ?_⟩) (fun hm => ⟨rfl, ?_⟩))
    · refine go_st (cd := cd51) 1 rfl (go_ifF (by decide) ?_)
      exact h72 (hq.mp hm)
    · refine go_st (cd := cd51) 1 rfl (go_ifT rfl ?_)
      refine go_v (cd := cd51) [138] 20 rfl ?_
      have e := few_no (f := f) (pc := pc) (ok := (goodD (mayW W.2.2.1 W.2.2.2 now fit S.1 S.2))) (B := k) (Bool.eq_false_iff.mpr (fun h => hm (hq.mpr h)))
      exact h138 a b c _ (fun q hq => hb q (by rw [← e]; exact hq)) hX e.symm
end LA
