/-! the class's races -/
def isB (b : Nat) : Prop := b = 12 ∨ ∃ f, f < 5 ∧ b = 30 + 7 * f
theorem isB_lt {b r : Nat} (h : isB b) : b < 111 + 3 * r := by
  rcases h with h | ⟨f, h, h2⟩ <;> omega
theorem isB_lt7 {b r k : Nat} (h : isB b) (hk : k < 7) : b + k < 111 + 3 * r := by
  rcases h with h | ⟨f, h, h2⟩ <;> omega
theorem isB_19 {b k : Nat} (h : isB b) (hk : k < 7) : b + k ≠ 19 := by
  rcases h with h | ⟨f, h, h2⟩ <;> omega
theorem isB_all {L b : Nat} (h : isB b) : (akd L b).1 = 0 ∧ (akd L (b + 1) = (7, 10) ∧ akd L (b + 2) = (7, 10) ∧ akd L (b + 3) = (7, 10) ∧ akd L (b + 4) = (7, 10)) ∧ akd L (b + 5) = (7, 100) ∧ akd L (b + 6) = (7, 16) := by
  rcases h with rfl | ⟨f, h, rfl⟩
  · exact ⟨rfl, ⟨rfl, rfl, rfl, rfl⟩, rfl, rfl⟩
  · match f, h with
    | 0, _ => exact ⟨rfl, ⟨rfl, rfl, rfl, rfl⟩, rfl, rfl⟩
    | 1, _ => exact ⟨rfl, ⟨rfl, rfl, rfl, rfl⟩, rfl, rfl⟩
    | 2, _ => exact ⟨rfl, ⟨rfl, rfl, rfl, rfl⟩, rfl, rfl⟩
    | 3, _ => exact ⟨rfl, ⟨rfl, rfl, rfl, rfl⟩, rfl, rfl⟩
    | 4, _ => exact ⟨rfl, ⟨rfl, rfl, rfl, rfl⟩, rfl, rfl⟩
    | f + 5, h => omega
theorem isB_k {L b : Nat} (h : isB b) : (akd L b).1 = 0 := (isB_all h).1
theorem isB_k1 {L b : Nat} (h : isB b) : (akd L (b + 1)).1 = 7 ∧ (akd L (b + 2)).1 = 7 ∧ (akd L (b + 3)).1 = 7 ∧ (akd L (b + 4)).1 = 7 ∧ (akd L (b + 5)).1 = 7 ∧ (akd L (b + 6)).1 = 7 := by
  obtain ⟨-, ⟨h1, h2, h3, h4⟩, h5, h6⟩ := isB_all (L := L) h
  rw [h1, h2, h3, h4, h5, h6]
  exact ⟨rfl, rfl, rfl, rfl, rfl, rfl⟩
theorem isB_i1 {L b j : Nat} (h : isB b) (hj : j < 10) : vp_in (nI j) (akd L (b + 1)).2 ∧ vp_in (nI j) (akd L (b + 2)).2 ∧ vp_in (nI j) (akd L (b + 3)).2 ∧ vp_in (nI j) (akd L (b + 4)).2 := by
  obtain ⟨-, ⟨h1, h2, h3, h4⟩, h5, h6⟩ := isB_all (L := L) h
  rw [h1, h2, h3, h4]
  exact ⟨nI_vin (n := 10) hj (by decide), nI_vin (n := 10) hj (by decide), nI_vin (n := 10) hj (by decide), nI_vin (n := 10) hj (by decide)⟩
theorem isB_i5 {L b j : Nat} (h : isB b) (hj : j < 100) : vp_in (nI j) (akd L (b + 5)).2 := by
  rw [(isB_all (L := L) h).2.2.1]; exact nI_vin (n := 100) hj (by decide)
theorem isB_i6 {L b j : Nat} (h : isB b) (hj : j < 16) : vp_in (nI j) (akd L (b + 6)).2 := by
  rw [(isB_all (L := L) h).2.2.2]; exact nI_vin (n := 16) hj (by decide)
theorem isB_R {r b : Nat} {rr : Option Nat} (h : isB b) : aRf r rr b 1 = some (b + 1) ∧ aRf r rr b 2 = some (b + 2) ∧ aRf r rr b 3 = some (b + 3) ∧ aRf r rr b 4 = some (b + 4) ∧ aRf r rr b 5 = some (b + 5) ∧ aRf r rr b 8 = some (b + 6) := by
  rcases h with rfl | ⟨f, h, rfl⟩
  · exact ⟨rfl, rfl, rfl, rfl, rfl, rfl⟩
  · match f, h with
    | 0, _ => exact ⟨rfl, rfl, rfl, rfl, rfl, rfl⟩
    | 1, _ => exact ⟨rfl, rfl, rfl, rfl, rfl, rfl⟩
    | 2, _ => exact ⟨rfl, rfl, rfl, rfl, rfl, rfl⟩
    | 3, _ => exact ⟨rfl, rfl, rfl, rfl, rfl, rfl⟩
    | 4, _ => exact ⟨rfl, rfl, rfl, rfl, rfl, rfl⟩
    | f + 5, h => omega
/-- truths as bits, the newest lowest -/
def encN : List Bool → Nat
  | [] => 0
  | b :: r => 2 * encN r + (if b = true then 1 else 0)
theorem encN_lt : ∀ st : List Bool, encN st < 2 ^ st.length
  | [] => by decide
  | b :: r => by
    have := encN_lt r
    show 2 * encN r + (if b = true then 1 else 0) < 2 ^ (r.length + 1)
    rw [Nat.pow_succ]
    split <;> omega
theorem encN_lt' {st : List Bool} (h : st.length ≤ 12) : encN st < 4096 := Nat.lt_of_lt_of_le (encN_lt st) (Nat.pow_le_pow_right (by decide) h : 2 ^ st.length ≤ 2 ^ 12)
theorem enc_ops1 : ∀ a : Fin 64, ∀ c : Fin 64, nI (64 * a.val + c.val) &&& 1 = nI ((64 * a.val + c.val) % 2) ∧ nI (64 * a.val + c.val) ^^^ 1 = nI ((64 * a.val + c.val) / 2 * 2 + (1 - (64 * a.val + c.val) % 2)) ∧ nI (64 * a.val + c.val) >>> (1 &&& 31) = nI ((64 * a.val + c.val) / 2) ∧ nI (64 * a.val + c.val) <<< (1 &&& 31) = nI (2 * (64 * a.val + c.val)) := by decide +kernel
theorem enc_ops2 : ∀ a : Fin 64, ∀ c : Fin 64, nI (64 * a.val + c.val) &&& (nI 0 ||| -2) = nI ((64 * a.val + c.val) / 2 * 2) ∧ nI (64 * a.val + c.val) &&& (nI 1 ||| -2) = nI (64 * a.val + c.val) ∧ nI (64 * a.val + c.val) ||| 1 = nI ((64 * a.val + c.val) / 2 * 2 + 1) ∧ nI (64 * a.val + c.val) ||| 0 = nI (64 * a.val + c.val) := by decide +kernel
theorem enc_op {x : Nat} (h : x < 4096) : (nI x &&& 1 = nI (x % 2) ∧ nI x ^^^ 1 = nI (x / 2 * 2 + (1 - x % 2)) ∧ nI x >>> (1 &&& 31) = nI (x / 2) ∧ nI x <<< (1 &&& 31) = nI (2 * x)) ∧ nI x &&& (nI 0 ||| -2) = nI (x / 2 * 2) ∧ nI x &&& (nI 1 ||| -2) = nI x ∧ nI x ||| 1 = nI (x / 2 * 2 + 1) ∧ nI x ||| 0 = nI x := by
  have h1 := enc_ops1 ⟨x / 64, by omega⟩ ⟨x % 64, by omega⟩
  have h2 := enc_ops2 ⟨x / 64, by omega⟩ ⟨x % 64, by omega⟩
  have e : 64 * (x / 64) + x % 64 = x := Nat.div_add_mod x 64
  simp only [e] at h1 h2
  exact ⟨h1, h2⟩
section TO
variable {L : Nat} {xs : Nat → Int32} {fv : Value} {d : Nat} {r : Nat} {rr : Option Nat} {I : Nat → Nat → Int32} {J : Nat → Nat → Int64} {P : Option Value → aH → Prop}
variable {A : List Cl} {b : Nat}
theorem clast_loop {w p : Nat} {w' p' : Int32} (hC : rcC A b I) (hA : rcWf A) (hb : isB b) (hw' : w' = nI w) (hp' : p' = nI p) (hw : w < 100) (hp : p < 100) : ∀ j, j ≤ A.length → P (some (.int (nI (lastA (A.take j) w p)))) (aHp r rr I J) → aTo L xs fv 111 d cd5 (7, [(3, .int (nI j - 1)), (0, .ref b), (1, .int w'), (2, .int p')], [], aHp r rr I J) P
  | 0, hj, k => by
    refine go_v (cd := cd5) [] 9 rfl ?_
    refine go_st (cd := cd5) 1 rfl (go_ifT (by decide) ?_)
    refine go_v (cd := cd5) [] 9 rfl ?_
    exact go_ireturn (cd := cd5) rfl k
  | j + 1, hj, k => by
    have hlen := hA.1
    obtain ⟨q, hq⟩ : ∃ q, A[j]? = some q := ⟨A[j], List.getElem?_eq_getElem (by omega)⟩
    obtain ⟨e1, e2, e3, e4, e5⟩ := hC.2 j q hq
    obtain ⟨b1, b2, b3, b4, -⟩ := hA.2.2 q (List.mem_of_getElem? hq)
    have hs := lastA_succ hq w p
    rw [nI_pred]
    have hcl : (nI j).toNatClampNeg = j := nI_clamp (by omega)
    have hno : ¬ (q.1 = w ∧ q.2.2.1 = p) → aTo L xs fv 111 d cd5 (38, [(3, .int (nI j)), (0, .ref b), (1, .int w'), (2, .int p')], [], aHp r rr I J) P := fun hc => by
      rw [hs, if_neg hc] at k
      refine go_v (cd := cd5) [7] 9 rfl ?_
      refine go_sub (l' := [(3, .int (nI j - 1)), (0, .ref b), (1, .int w'), (2, .int p')]) ⟨by rw [Int32.sub_eq_add_neg]; rfl, rfl, rfl, rfl, trivial⟩ rfl rfl rfl ?_
      exact clast_loop hC hA hb hw' hp' hw hp j (by omega) k
    refine go_v (cd := cd5) [] 9 rfl ?_
    refine go_st (cd := cd5) 1 rfl (go_ifF (nI_pos (by omega)) ?_)
    refine go_v (cd := cd5) [12] 9 rfl ?_
    refine go_getR (cd := cd5) rfl (isB_lt hb) (isB_k hb) (isB_R hb).1 ?_
    refine go_v (cd := cd5) [] 9 rfl ?_
    refine go_iald (cd := cd5) rfl (isB_i1 hb (by omega)).1 (isB_lt7 hb (by decide)) (isB_k1 hb).1 ?_
    rw [hcl, e1]
    refine go_v (cd := cd5) [] 9 rfl ?_
    by_cases hqw : q.1 = w
    · refine go_st (cd := cd5) 1 rfl (go_ifT (by rw [hqw, hw']) ?_)
      refine go_v (cd := cd5) [22] 9 rfl ?_
      refine go_getR (cd := cd5) rfl (isB_lt hb) (isB_k hb) (isB_R hb).2.2.1 ?_
      refine go_v (cd := cd5) [] 9 rfl ?_
      refine go_iald (cd := cd5) rfl (isB_i1 hb (by omega)).2.2.1 (isB_lt7 hb (by decide)) (isB_k1 hb).2.2.1 ?_
      rw [hcl, e3]
      refine go_v (cd := cd5) [] 9 rfl ?_
      by_cases hqp : q.2.2.1 = p
      · refine go_st (cd := cd5) 1 rfl (go_ifT (by rw [hqp, hp']) ?_)
        refine go_v (cd := cd5) [32] 9 rfl ?_
        refine go_getR (cd := cd5) rfl (isB_lt hb) (isB_k hb) (isB_R hb).2.1 ?_
        refine go_v (cd := cd5) [] 9 rfl ?_
        refine go_iald (cd := cd5) rfl (isB_i1 hb (by omega)).2.1 (isB_lt7 hb (by decide)) (isB_k1 hb).2.1 ?_
        rw [hcl, e2]
        rw [hs, if_pos ⟨hqw, hqp⟩] at k
        exact go_ireturn (cd := cd5) rfl k
      · refine go_st (cd := cd5) 1 rfl (go_ifF (by rw [hp', nI_eq (by omega) (by omega)]; exact hqp) ?_)
        exact hno (fun h => hqp h.2)
    · refine go_st (cd := cd5) 1 rfl (go_ifF (by rw [hw', nI_eq (by omega) (by omega)]; exact hqw) ?_)
      exact hno (fun h => hqw h.1)
theorem cl_clast {w p : Nat} {w' p' : Int32} (hC : rcC A b I) (hA : rcWf A) (hb : isB b) (hw' : w' = nI w) (hp' : p' = nI p) (hw : w < 100) (hp : p < 100) (k : P (some (.int (nI (lastA A w p)))) (aHp r rr I J)) : aCl L xs fv 111 (d + 1) 5 [.ref b, .int w', .int p'] (aHp r rr I J) P := by
  refine cl_of rfl (Nat.le_add_right _ _) ?_
  refine go_v (cd := cd5) [1] 9 rfl ?_
  refine go_get (cd := cd5) rfl (isB_lt hb) (isB_k hb) ?_
  rw [av0, hC.1]
  refine go_v (cd := cd5) [7] 9 rfl ?_
  exact clast_loop hC hA hb hw' hp' hw hp A.length (Nat.le_refl _) (by rw [List.take_of_length_le (Nat.le_refl _)]; exact k)
set_option maxHeartbeats 16000000 in
theorem tot_inner {j z s wt w t sm : Nat} {q : Cl} (hC : rcC A b I) (hA : rcWf A) (hb : isB b) (hq : A[j]? = some q) (hs : s < 6) (hwt : wt ≤ 9) (hw : w < 4) (ht : t < 24)
    (k : ∀ st : List Bool, st = q.2.2.2.foldl (evS s wt w t) [] → st.length ≤ 12 → aTo L xs fv 111 d cd6 (216, [(9, .int (nI (encN st))), (8, .int (nI j)), (7, .int (nI (stA A j))), (6, .int (nI sm)), (0, .ref b), (1, .int (nI z)), (2, .int (nI s)), (3, .int (nI wt)), (4, .int (nI w)), (5, .int (nI t))], [], aHp r rr I J) P) :
    ∀ m i (st : List Bool) n', i + m = q.2.2.2.length → st = (q.2.2.2.take i).foldl (evS s wt w t) [] → htL st.length (q.2.2.2.drop i) = some n' → st.length ≤ 12 →
    aTo L xs fv 111 d cd6 (25, [(10, .int (nI (stA A j + i))), (9, .int (nI (encN st))), (8, .int (nI j)), (7, .int (nI (stA A j))), (6, .int (nI sm)), (0, .ref b), (1, .int (nI z)), (2, .int (nI s)), (3, .int (nI wt)), (4, .int (nI w)), (5, .int (nI t))], [], aHp r rr I J) P
  | 0, i, st, n', hi, hst, hht, hl => by
    have hlen := hA.1
    have hj : j < A.length := (List.getElem?_eq_some_iff.mp hq).1
    obtain ⟨e1, e2, e3, e4, e5⟩ := hC.2 j q hq
    have hcl : (nI j).toNatClampNeg = j := nI_clamp (by omega)
    have hsu := stA_succ hq
    have hsa : stA A (j + 1) ≤ 100 := Nat.le_trans stA_all hA.2.1
    have hi' : i = q.2.2.2.length := hi
    refine go_v (cd := cd6) [28] 9 rfl ?_
    refine go_getR (cd := cd6) rfl (isB_lt hb) (isB_k hb) (isB_R hb).2.2.2.1 ?_
    refine go_v (cd := cd6) [] 9 rfl ?_
    refine go_iald (cd := cd6) rfl (isB_i1 hb (by omega)).2.2.2 (isB_lt7 hb (by decide)) (isB_k1 hb).2.2.2.1 ?_
    rw [hcl, e4]
    refine go_st (cd := cd6) 1 rfl (go_ifT (nI_le (by omega) (by omega)) ?_)
    refine go_sub (l' := [(9, .int (nI (encN st))), (8, .int (nI j)), (7, .int (nI (stA A j))), (6, .int (nI sm)), (0, .ref b), (1, .int (nI z)), (2, .int (nI s)), (3, .int (nI wt)), (4, .int (nI w)), (5, .int (nI t))]) ⟨rfl, rfl, rfl, rfl, rfl, rfl, rfl, rfl, rfl, rfl, trivial⟩ rfl rfl rfl ?_
    exact k st (by rw [hst, hi', List.take_length]) hl
  | m + 1, i, st, n', hi, hst, hht, hl => by
    have hlen := hA.1
    have hj : j < A.length := (List.getElem?_eq_some_iff.mp hq).1
    obtain ⟨e1, e2, e3, e4, e5⟩ := hC.2 j q hq
    have hcl : (nI j).toNatClampNeg = j := nI_clamp (by omega)
    have hsu := stA_succ hq
    have hsa : stA A (j + 1) ≤ 100 := Nat.le_trans stA_all hA.2.1
    have hil : i < q.2.2.2.length := by omega
    obtain ⟨e, he⟩ : ∃ e, q.2.2.2[i]? = some e := ⟨q.2.2.2[i], List.getElem?_eq_getElem hil⟩
    obtain ⟨hd1, he1⟩ := List.getElem?_eq_some_iff.mp he
    rw [List.drop_eq_getElem_cons hd1, he1] at hht
    unfold htL at hht
    have hex : ∃ n2, htS st.length e = some n2 ∧ htL n2 (q.2.2.2.drop (i + 1)) = some n' := by
      cases hs0 : htS st.length e with
      | none => rw [hs0] at hht; cases hht
      | some n2 => rw [hs0] at hht; exact ⟨n2, rfl, hht⟩
    obtain ⟨n2, hs1, hs2⟩ := hex
    have hev := take_fold (evS s wt w t) [] he
    rw [← hst] at hev
    have hx := e5 i e he
    have hci : (nI (stA A j + i)).toNatClampNeg = stA A j + i := nI_clamp (by omega)
    have henc := encN_lt' hl
    have hop := enc_op henc
    refine go_v (cd := cd6) [28] 9 rfl ?_
    refine go_getR (cd := cd6) rfl (isB_lt hb) (isB_k hb) (isB_R hb).2.2.2.1 ?_
    refine go_v (cd := cd6) [] 9 rfl ?_
    refine go_iald (cd := cd6) rfl (isB_i1 hb (by omega)).2.2.2 (isB_lt7 hb (by decide)) (isB_k1 hb).2.2.2.1 ?_
    rw [hcl, e4]
    refine go_st (cd := cd6) 1 rfl (go_ifF (nI_ge (by omega) (by omega)) ?_)
    refine go_v (cd := cd6) [38] 9 rfl ?_
    refine go_getR (cd := cd6) rfl (isB_lt hb) (isB_k hb) (isB_R hb).2.2.2.2.1 ?_
    refine go_v (cd := cd6) [] 9 rfl ?_
    refine go_iald (cd := cd6) rfl (isB_i5 hb (by omega)) (isB_lt7 hb (by decide)) (isB_k1 hb).2.2.2.2.1 ?_
    rw [hci, hx]
    refine go_v (cd := cd6) [] 9 rfl ?_
    rw [hop.1.1]
    have hnext : ∀ (st' : List Bool), st' = evS s wt w t st e → st'.length = n2 → n2 ≤ 12 → aTo L xs fv 111 d cd6 (25, [(10, .int (nI (stA A j + (i + 1)))), (9, .int (nI (encN st'))), (8, .int (nI j)), (7, .int (nI (stA A j))), (6, .int (nI sm)), (0, .ref b), (1, .int (nI z)), (2, .int (nI s)), (3, .int (nI wt)), (4, .int (nI w)), (5, .int (nI t))], [], aHp r rr I J) P := fun st' h1 h2 h3 =>
      tot_inner hC hA hb hq hs hwt hw ht k m (i + 1) st' n' (by omega) (by rw [h1, ← hev]) (by rw [h2]; exact hs2) (by omega)
    rcases ht_cases hs1 s wt w t with ⟨h0, b0, rs, hb1, hb2, hb3⟩ | ⟨h0, b0, a0, rs, hb1, hb2, hb3⟩ | ⟨h0, b0, a0, rs, hb1, hb2, hb3⟩ | ⟨h0, h12, hb2, hb3⟩
    · subst h0
      subst hb1
      rw [hb2] at hnext
      have hx2 : nI (encN (b0 :: rs)) ^^^ 1 = nI (encN ((!b0) :: rs)) := by
        rw [hop.1.2.1]; congr 1
        cases b0 <;> simp [encN] <;> omega
      refine go_st (cd := cd6) 1 rfl (go_ifT (by decide) ?_)
      refine go_v (cd := cd6) [25] 9 rfl ?_
      refine go_sub (l' := [(10, .int (nI (stA A j + (i + 1)))), (9, .int (nI (encN ((!b0) :: rs)))), (8, .int (nI j)), (7, .int (nI (stA A j))), (6, .int (nI sm)), (0, .ref b), (1, .int (nI z)), (2, .int (nI s)), (3, .int (nI wt)), (4, .int (nI w)), (5, .int (nI t))]) ⟨by rw [← Nat.add_assoc, nI_succ (stA A j + i)]; rfl, by rw [← hx2]; rfl, rfl, rfl, rfl, rfl, rfl, rfl, rfl, rfl, rfl, trivial⟩ rfl rfl rfl ?_
      exact hnext _ rfl hb3.symm (by simp only [List.length_cons] at hl; omega)
    · subst h0
      subst hb1
      rw [hb2] at hnext
      have hop2 := enc_op (encN_lt' (st := a0 :: rs) (by simp only [List.length_cons] at hl ⊢; omega))
      have hx2 : nI (encN (b0 :: a0 :: rs)) >>> (1 &&& 31) &&& (nI (encN (b0 :: a0 :: rs) % 2) ||| -2) = nI (encN ((a0 && b0) :: rs)) := by
        rw [hop.1.2.2.1]
        have e1 : encN (b0 :: a0 :: rs) / 2 = encN (a0 :: rs) := by cases b0 <;> simp [encN] <;> omega
        rw [e1]
        cases b0
        · rw [show encN (false :: a0 :: rs) % 2 = 0 by simp [encN], hop2.2.1, Bool.and_false]; congr 1; cases a0 <;> simp [encN] <;> omega
        · rw [show encN (true :: a0 :: rs) % 2 = 1 by (simp [encN] <;> omega), hop2.2.2.1, Bool.and_true]
      refine go_st (cd := cd6) 1 rfl (go_ifF (by decide) ?_)
      refine go_v (cd := cd6) [] 9 rfl ?_
      refine go_st (cd := cd6) 1 rfl (go_ifT (by decide) ?_)
      refine go_v (cd := cd6) [25] 20 rfl ?_
      refine go_sub (l' := [(10, .int (nI (stA A j + (i + 1)))), (9, .int (nI (encN ((a0 && b0) :: rs)))), (8, .int (nI j)), (7, .int (nI (stA A j))), (6, .int (nI sm)), (0, .ref b), (1, .int (nI z)), (2, .int (nI s)), (3, .int (nI wt)), (4, .int (nI w)), (5, .int (nI t))]) ⟨by rw [← Nat.add_assoc, nI_succ (stA A j + i)]; rfl, by rw [← hx2]; rfl, rfl, rfl, rfl, rfl, rfl, rfl, rfl, rfl, rfl, trivial⟩ rfl rfl rfl ?_
      exact hnext _ rfl hb3.symm (by simp only [List.length_cons] at hl; omega)
    · subst h0
      subst hb1
      rw [hb2] at hnext
      have hop2 := enc_op (encN_lt' (st := a0 :: rs) (by simp only [List.length_cons] at hl ⊢; omega))
      have hx2 : nI (encN (b0 :: a0 :: rs)) >>> (1 &&& 31) ||| nI (encN (b0 :: a0 :: rs) % 2) = nI (encN ((a0 || b0) :: rs)) := by
        rw [hop.1.2.2.1]
        have e1 : encN (b0 :: a0 :: rs) / 2 = encN (a0 :: rs) := by cases b0 <;> simp [encN] <;> omega
        rw [e1]
        cases b0
        · rw [show encN (false :: a0 :: rs) % 2 = 0 by simp [encN], show nI 0 = 0 from rfl, hop2.2.2.2.2, Bool.or_false]
        · rw [show encN (true :: a0 :: rs) % 2 = 1 by (simp [encN] <;> omega), show nI 1 = 1 from rfl, hop2.2.2.2.1, Bool.or_true]; congr 1; cases a0 <;> simp [encN] <;> omega
      refine go_st (cd := cd6) 1 rfl (go_ifF (by decide) ?_)
      refine go_v (cd := cd6) [] 9 rfl ?_
      refine go_st (cd := cd6) 1 rfl (go_ifF (by decide) ?_)
      refine go_v (cd := cd6) [] 9 rfl ?_
      refine go_st (cd := cd6) 1 rfl (go_ifT (by decide) ?_)
      refine go_v (cd := cd6) [25] 20 rfl ?_
      refine go_sub (l' := [(10, .int (nI (stA A j + (i + 1)))), (9, .int (nI (encN ((a0 || b0) :: rs)))), (8, .int (nI j)), (7, .int (nI (stA A j))), (6, .int (nI sm)), (0, .ref b), (1, .int (nI z)), (2, .int (nI s)), (3, .int (nI wt)), (4, .int (nI w)), (5, .int (nI t))]) ⟨by rw [← Nat.add_assoc, nI_succ (stA A j + i)]; rfl, by rw [← hx2]; rfl, rfl, rfl, rfl, rfl, rfl, rfl, rfl, rfl, rfl, trivial⟩ rfl rfl rfl ?_
      exact hnext _ rfl hb3.symm (by simp only [List.length_cons] at hl; omega)
    · rw [hb2] at hnext
      have hd : nI e / 300 = nI (e / 300) := nI_div (b := 300) (by omega) (by decide)
      have hr : nI e - nI e / 100 * 100 = nI (e % 100) := nI_rem (b := 100) (by omega) (by decide)
      have hd1 : nI e / 100 = nI (e / 100) := nI_div (b := 100) (by omega) (by decide)
      have hm : nI (e / 100) - nI (e / 100) / 3 * 3 = nI (e / 100 % 3) := nI_rem (b := 3) (by omega) (by decide)
      refine go_st (cd := cd6) 1 rfl (go_ifF (by rw [show (2000 : Int32) = nI 2000 from rfl, nI_eq (by omega) (by decide)]; omega) ?_)
      refine go_v (cd := cd6) [] 9 rfl ?_
      refine go_st (cd := cd6) 1 rfl (go_ifF (by rw [show (2001 : Int32) = nI 2001 from rfl, nI_eq (by omega) (by decide)]; omega) ?_)
      refine go_v (cd := cd6) [] 9 rfl ?_
      refine go_st (cd := cd6) 1 rfl (go_ifF (by rw [show (2002 : Int32) = nI 2002 from rfl, nI_eq (by omega) (by decide)]; omega) ?_)
      refine go_v (cd := cd6) [] 9 rfl ?_
      refine go_idiv (cd := cd6) rfl (by decide) ?_
      rw [hd]
      refine go_v (cd := cd6) [] 9 rfl ?_
      have hfin : ∀ (B : Bool) (y14 y15 y16 : Int32), B = tsB s wt w t e → aTo L xs fv 111 d cd6 (207, [(16, .int y16), (15, .int y15), (14, .int y14), (13, .int (nI (e / 300))), (12, .int (nI (encN st % 2))), (11, .int (nI e)), (10, .int (nI (stA A j + i))), (9, .int (nI (encN st))), (8, .int (nI j)), (7, .int (nI (stA A j))), (6, .int (nI sm)), (0, .ref b), (1, .int (nI z)), (2, .int (nI s)), (3, .int (nI wt)), (4, .int (nI w)), (5, .int (nI t))], [.int (b2i B), .int (nI (2 * encN st))], aHp r rr I J) P := fun B y14 y15 y16 hB => by
        have hop3 := enc_op (x := 2 * encN st) (by have := encN_lt st; have h3 : 2 ^ st.length ≤ 2 ^ 11 := Nat.pow_le_pow_right (by decide) (by omega); omega)
        have hx2 : nI (2 * encN st) ||| b2i B = nI (encN (tsB s wt w t e :: st)) := by
          rw [← hB]
          cases B
          · rw [show b2i false = 0 from rfl, hop3.2.2.2.2]; rfl
          · rw [show b2i true = 1 from rfl, hop3.2.2.2.1]; congr 1; simp [encN]; omega
        refine go_v (cd := cd6) [25] 20 rfl ?_
        refine go_sub (l' := [(10, .int (nI (stA A j + (i + 1)))), (9, .int (nI (encN (tsB s wt w t e :: st)))), (8, .int (nI j)), (7, .int (nI (stA A j))), (6, .int (nI sm)), (0, .ref b), (1, .int (nI z)), (2, .int (nI s)), (3, .int (nI wt)), (4, .int (nI w)), (5, .int (nI t))]) ⟨by rw [← Nat.add_assoc, nI_succ (stA A j + i)]; rfl, by rw [← hx2]; rfl, rfl, rfl, rfl, rfl, rfl, rfl, rfl, rfl, rfl, trivial⟩ rfl rfl rfl ?_
        exact hnext _ rfl hb3.symm (by omega)
      have hord : ∀ (v o : Nat), o < 3 → tsB s wt w t e = decide (o = e / 100 % 3) → aTo L xs fv 111 d cd6 (184, [(15, .int (nI (e % 100))), (14, .int (nI v)), (13, .int (nI (e / 300))), (12, .int (nI (encN st % 2))), (11, .int (nI e)), (10, .int (nI (stA A j + i))), (9, .int (nI (encN st))), (8, .int (nI j)), (7, .int (nI (stA A j))), (6, .int (nI sm)), (0, .ref b), (1, .int (nI z)), (2, .int (nI s)), (3, .int (nI wt)), (4, .int (nI w)), (5, .int (nI t))], [.int (nI o)], aHp r rr I J) P := fun v o ho hts => by
        refine go_v (cd := cd6) [] 9 rfl ?_
        refine go_idiv (cd := cd6) rfl (by decide) ?_
        rw [hd1]
        refine go_v (cd := cd6) [] 9 rfl ?_
        refine go_irem (cd := cd6) rfl (by decide) ?_
        rw [hm, hop.1.2.2.2]
        by_cases hc : o = e / 100 % 3
        · refine go_st (cd := cd6) 1 rfl (go_ifT (by rw [hc]) ?_)
          refine go_v (cd := cd6) [207] 9 rfl ?_
          exact hfin true _ _ _ (by rw [hts, decide_eq_true hc])
        · refine go_st (cd := cd6) 1 rfl (go_ifF (by rw [nI_eq (by omega) (by omega)]; exact hc) ?_)
          refine go_v (cd := cd6) [207] 9 rfl ?_
          exact hfin false _ _ _ (by rw [hts, decide_eq_false hc])
      have hmid : ∀ v : Nat, v < 1000 → v = (if e / 300 = 0 then s else if e / 300 = 1 then wt else if e / 300 = 2 then w else t) → aTo L xs fv 111 d cd6 (152, [(13, .int (nI (e / 300))), (12, .int (nI (encN st % 2))), (11, .int (nI e)), (10, .int (nI (stA A j + i))), (9, .int (nI (encN st))), (8, .int (nI j)), (7, .int (nI (stA A j))), (6, .int (nI sm)), (0, .ref b), (1, .int (nI z)), (2, .int (nI s)), (3, .int (nI wt)), (4, .int (nI w)), (5, .int (nI t))], [.int (nI v)], aHp r rr I J) P := fun v hv1 hv2 => by
        have hts : tsB s wt w t e = (if e / 100 % 3 = 0 then decide (v < e % 100) else if e / 100 % 3 = 1 then decide (v = e % 100) else decide (e % 100 < v)) := by
          unfold tsB; rw [← hv2]
        have h3 : e / 100 % 3 = 0 ∨ e / 100 % 3 = 1 ∨ e / 100 % 3 = 2 := by omega
        refine go_v (cd := cd6) [] 9 rfl ?_
        refine go_irem (cd := cd6) rfl (by decide) ?_
        rw [hr]
        refine go_v (cd := cd6) [] 9 rfl ?_
        by_cases hc1 : v < e % 100
        · refine go_st (cd := cd6) 1 rfl (go_ifF (nI_ge hc1 (by omega)) ?_)
          refine go_v (cd := cd6) [184] 9 rfl ?_
          refine hord v 0 (by decide) ?_
          rw [hts]
          rcases h3 with h3 | h3 | h3 <;> rw [h3] <;> simp <;> omega
        · refine go_st (cd := cd6) 1 rfl (go_ifT (nI_le (by omega) (by omega)) ?_)
          refine go_v (cd := cd6) [] 9 rfl ?_
          by_cases hc2 : v = e % 100
          · refine go_st (cd := cd6) 1 rfl (go_ifT (by rw [hc2]) ?_)
            refine go_v (cd := cd6) [184] 9 rfl ?_
            refine hord v 1 (by decide) ?_
            rw [hts]
            rcases h3 with h3 | h3 | h3 <;> rw [h3] <;> simp <;> omega
          · refine go_st (cd := cd6) 1 rfl (go_ifF (by rw [nI_eq (by omega) (by omega)]; exact hc2) ?_)
            refine go_v (cd := cd6) [184] 9 rfl ?_
            refine hord v 2 (by decide) ?_
            rw [hts]
            rcases h3 with h3 | h3 | h3 <;> rw [h3] <;> simp <;> omega
      by_cases g0 : e / 300 = 0
      · refine go_st (cd := cd6) 1 rfl (go_ifT (by rw [g0]; rfl) ?_)
        refine go_v (cd := cd6) [152] 9 rfl ?_
        exact hmid s (by omega) (by rw [if_pos g0])
      · refine go_st (cd := cd6) 1 rfl (go_ifF (by rw [show (0 : Int32) = nI 0 from rfl, nI_eq (by omega) (by decide)]; exact g0) ?_)
        refine go_v (cd := cd6) [] 9 rfl ?_
        by_cases g1 : e / 300 = 1
        · refine go_st (cd := cd6) 1 rfl (go_ifT (by rw [g1]; rfl) ?_)
          refine go_v (cd := cd6) [152] 9 rfl ?_
          exact hmid wt (by omega) (by rw [if_neg g0, if_pos g1])
        · refine go_st (cd := cd6) 1 rfl (go_ifF (by rw [show (1 : Int32) = nI 1 from rfl, nI_eq (by omega) (by decide)]; exact g1) ?_)
          refine go_v (cd := cd6) [] 9 rfl ?_
          by_cases g2 : e / 300 = 2
          · refine go_st (cd := cd6) 1 rfl (go_ifT (by rw [g2]; rfl) ?_)
            refine go_v (cd := cd6) [152] 9 rfl ?_
            exact hmid w (by omega) (by rw [if_neg g0, if_neg g1, if_pos g2])
          · refine go_st (cd := cd6) 1 rfl (go_ifF (by rw [show (2 : Int32) = nI 2 from rfl, nI_eq (by omega) (by decide)]; exact g2) ?_)
            refine go_v (cd := cd6) [152] 9 rfl ?_
            exact hmid t (by omega) (by rw [if_neg g0, if_neg g1, if_neg g2])
theorem tot_outer {z s wt w t : Nat} (hC : rcC A b I) (hA : rcWf A) (hb : isB b) (hz : z < 2) (hs : s < 6) (hwt : wt ≤ 9) (hw : w < 4) (ht : t < 24)
    (k : P (some (.int (nI (smA A wt z s w t)))) (aHp r rr I J)) : ∀ m j, j + m = A.length → aTo L xs fv 111 d cd6 (9, [(8, .int (nI j)), (7, .int (nI (stA A j))), (6, .int (nI (smA (A.take j) wt z s w t))), (0, .ref b), (1, .int (nI z)), (2, .int (nI s)), (3, .int (nI wt)), (4, .int (nI w)), (5, .int (nI t))], [], aHp r rr I J) P
  | 0, j, hj => by
    have hlen := hA.1
    have hj : j = A.length := hj
    refine go_v (cd := cd6) [12] 9 rfl ?_
    refine go_get (cd := cd6) rfl (isB_lt hb) (isB_k hb) ?_
    rw [av0, hC.1]
    refine go_st (cd := cd6) 1 rfl (go_ifT (by rw [hj]; exact nI_le (Nat.le_refl _) (by omega)) ?_)
    refine go_v (cd := cd6) [] 9 rfl ?_
    rw [hj, List.take_of_length_le (Nat.le_refl _)]
    exact go_ireturn (cd := cd6) rfl k
  | m + 1, j, hj => by
    have hlen := hA.1
    have hjl : j < A.length := by omega
    obtain ⟨q, hq⟩ : ∃ q, A[j]? = some q := ⟨A[j], List.getElem?_eq_getElem hjl⟩
    obtain ⟨e1, e2, e3, e4, e5⟩ := hC.2 j q hq
    obtain ⟨b1, b2, b3, b4, b5, b6⟩ := hA.2.2 q (List.mem_of_getElem? hq)
    have hcl : (nI j).toNatClampNeg = j := nI_clamp (by omega)
    have hss := smA_succ hq wt z s w t
    have hsm := smA_le hA wt z s w t j
    have hht : ∃ n', htL 0 q.2.2.2 = some n' := by
      by_cases h1 : q.1 ≤ 1
      · exact ⟨1, b5 h1⟩
      · exact ⟨0, by rw [b6 (by omega)]; rfl⟩
    obtain ⟨n', hht⟩ := hht
    refine go_v (cd := cd6) [12] 9 rfl ?_
    refine go_get (cd := cd6) rfl (isB_lt hb) (isB_k hb) ?_
    rw [av0, hC.1]
    refine go_st (cd := cd6) 1 rfl (go_ifF (nI_ge (by omega) (by omega)) ?_)
    refine go_v (cd := cd6) [25] 9 rfl ?_
    refine go_sub (l' := [(10, .int (nI (stA A j + 0))), (9, .int (nI (encN []))), (8, .int (nI j)), (7, .int (nI (stA A j))), (6, .int (nI (smA (A.take j) wt z s w t))), (0, .ref b), (1, .int (nI z)), (2, .int (nI s)), (3, .int (nI wt)), (4, .int (nI w)), (5, .int (nI t))]) ⟨rfl, rfl, rfl, rfl, rfl, rfl, rfl, rfl, rfl, rfl, rfl, trivial⟩ rfl rfl rfl ?_
    refine tot_inner hC hA hb hq hs hwt hw ht (fun st hst hl => ?_) q.2.2.2.length 0 [] n' (by omega) rfl hht (by decide)
    have hnext : aTo L xs fv 111 d cd6 (247, [(9, .int (nI (encN st))), (8, .int (nI j)), (7, .int (nI (stA A j))), (6, .int (nI (smA (A.take (j + 1)) wt z s w t))), (0, .ref b), (1, .int (nI z)), (2, .int (nI s)), (3, .int (nI wt)), (4, .int (nI w)), (5, .int (nI t))], [], aHp r rr I J) P := by
      refine go_v (cd := cd6) [248] 9 rfl ?_
      refine go_getR (cd := cd6) rfl (isB_lt hb) (isB_k hb) (isB_R hb).2.2.2.1 ?_
      refine go_v (cd := cd6) [] 9 rfl ?_
      refine go_iald (cd := cd6) rfl (isB_i1 hb (by omega)).2.2.2 (isB_lt7 hb (by decide)) (isB_k1 hb).2.2.2.1 ?_
      rw [hcl, e4]
      refine go_v (cd := cd6) [9] 9 rfl ?_
      refine go_sub (l' := [(8, .int (nI (j + 1))), (7, .int (nI (stA A (j + 1)))), (6, .int (nI (smA (A.take (j + 1)) wt z s w t))), (0, .ref b), (1, .int (nI z)), (2, .int (nI s)), (3, .int (nI wt)), (4, .int (nI w)), (5, .int (nI t))]) ⟨by rw [nI_succ]; rfl, rfl, rfl, rfl, rfl, rfl, rfl, rfl, rfl, trivial⟩ rfl rfl rfl ?_
      exact tot_outer hC hA hb hz hs hwt hw ht k m (j + 1) (by omega)
    have hct : clT s wt w t q = st.headD false := by unfold clT; rw [← hst]
    have hop := enc_op (encN_lt' hl)
    refine go_v (cd := cd6) [217] 9 rfl ?_
    refine go_getR (cd := cd6) rfl (isB_lt hb) (isB_k hb) (isB_R hb).1 ?_
    refine go_v (cd := cd6) [] 9 rfl ?_
    refine go_iald (cd := cd6) rfl (isB_i1 hb (by omega)).1 (isB_lt7 hb (by decide)) (isB_k1 hb).1 ?_
    rw [hcl, e1]
    refine go_v (cd := cd6) [] 9 rfl ?_
    by_cases hqz : q.1 = z
    · refine go_st (cd := cd6) 1 rfl (go_ifT (by rw [hqz]) ?_)
      refine go_v (cd := cd6) [] 9 rfl ?_
      rw [hop.1.1]
      by_cases hB : st.headD false = true
      · have e2' : encN st % 2 = 1 := by
          cases st with
          | nil => cases hB
          | cons b0 rs => have : b0 = true := hB; subst this; (simp [encN] <;> omega)
        rw [e2']
        refine go_st (cd := cd6) 1 rfl (go_ifT rfl ?_)
        refine go_v (cd := cd6) [238] 9 rfl ?_
        refine go_getR (cd := cd6) rfl (isB_lt hb) (isB_k hb) (isB_R hb).2.1 ?_
        refine go_v (cd := cd6) [] 9 rfl ?_
        refine go_iald (cd := cd6) rfl (isB_i1 hb (by omega)).2.1 (isB_lt7 hb (by decide)) (isB_k1 hb).2.1 ?_
        rw [hcl, e2]
        refine go_v (cd := cd6) [247] 9 rfl ?_
        refine go_sub (l' := [(9, .int (nI (encN st))), (8, .int (nI j)), (7, .int (nI (stA A j))), (6, .int (nI (smA (A.take (j + 1)) wt z s w t))), (0, .ref b), (1, .int (nI z)), (2, .int (nI s)), (3, .int (nI wt)), (4, .int (nI w)), (5, .int (nI t))]) ⟨rfl, rfl, rfl, by rw [hss, if_pos ⟨hqz, by rw [hct]; exact hB⟩, ← nI_add]; rfl, rfl, rfl, rfl, rfl, rfl, rfl, trivial⟩ rfl rfl rfl ?_
        exact hnext
      · have e2' : encN st % 2 = 0 := by
          cases st with
          | nil => rfl
          | cons b0 rs => have : b0 = false := by simpa using hB
                          subst this; simp [encN]
        rw [e2']
        refine go_st (cd := cd6) 1 rfl (go_ifF (by decide) ?_)
        rw [hss, if_neg (fun h => hB (by rw [← hct]; exact h.2))] at hnext
        exact hnext
    · refine go_st (cd := cd6) 1 rfl (go_ifF (by rw [nI_eq (by omega) (by omega)]; exact hqz) ?_)
      rw [hss, if_neg (fun h => hqz h.1)] at hnext
      exact hnext
theorem cl_total {z s wt w t : Nat} {z' s' wt' w' t' : Int32} (hC : rcC A b I) (hA : rcWf A) (hb : isB b) (hz' : z' = nI z) (hs' : s' = nI s) (hwt' : wt' = nI wt) (hw' : w' = nI w) (ht' : t' = nI t) (hz : z < 2) (hs : s < 6) (hwt : wt ≤ 9) (hw : w < 4) (ht : t < 24)
    (k : P (some (.int (nI (smA A wt z s w t)))) (aHp r rr I J)) : aCl L xs fv 111 (d + 1) 6 [.ref b, .int z', .int s', .int wt', .int w', .int t'] (aHp r rr I J) P := by
  refine cl_of rfl (Nat.le_add_right _ _) ?_
  subst hz'; subst hs'; subst hwt'; subst hw'; subst ht'
  refine go_v (cd := cd6) [9] 9 rfl ?_
  refine go_sub (l' := [(8, .int (nI 0)), (7, .int (nI (stA A 0))), (6, .int (nI (smA (A.take 0) wt z s w t))), (0, .ref b), (1, .int (nI z)), (2, .int (nI s)), (3, .int (nI wt)), (4, .int (nI w)), (5, .int (nI t))]) ⟨rfl, rfl, rfl, rfl, rfl, rfl, rfl, rfl, rfl, trivial⟩ rfl rfl rfl ?_
  exact tot_outer hC hA hb hz hs hwt hw ht k A.length 0 (by omega)
end TO
