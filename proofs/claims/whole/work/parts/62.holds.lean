/-! one test, one code, a clause -/
def b2i (b : Bool) : Int32 := if b = true then 1 else 0
/-- the pile of truths, the newest highest -/
def pl (c : Nat → Int32) : List Bool → Prop
  | [] => True
  | b :: r => c r.length = b2i b ∧ pl c r
theorem pl_put {c : Nat → Int32} {x : Int32} {n : Nat} : ∀ {st : List Bool}, st.length ≤ n → pl c st → pl (fun q => if q = n then x else c q) st
  | [], _, _ => trivial
  | b :: r, hn, h => ⟨by
      have hl : r.length + 1 ≤ n := hn
      show (if r.length = n then x else c r.length) = b2i b
      rw [if_neg (by omega)]; exact h.1, pl_put (by have hl : r.length + 1 ≤ n := hn; omega) h.2⟩
theorem nI_dec (n : Nat) : nI (n + 1) + -1 = nI n := by
  rw [← Int32.sub_eq_add_neg]; exact nI_pred n
theorem nI_div {a b : Nat} (ha : a < 2 ^ 31) (hb : b < 2 ^ 31) : nI a / nI b = nI (a / b) := (Int32.ofNat_div ha hb).symm
theorem nI_rem {a b : Nat} (ha : a < 2 ^ 31) (hb : b < 2 ^ 31) : nI a - nI a / nI b * nI b = nI (a % b) := by
  rw [nI_div ha hb, nI_mul, nI_sub (Nat.div_mul_le_self a b)]
  congr 1
  have h1 := Nat.div_add_mod a b
  have h2 : a / b * b = b * (a / b) := Nat.mul_comm _ _
  omega
theorem take_fold {β : Type} (f : β → Nat → β) (z : β) {l : List Nat} {i : Nat} {e : Nat} (h : l[i]? = some e) : (l.take (i + 1)).foldl f z = f ((l.take i).foldl f z) e := by
  rw [List.take_add_one, h, List.foldl_append]; rfl
theorem drop_ht {l : List Nat} {i e n : Nat} (h : l[i]? = some e) (hh : htL n (l.drop i) = some 1) : ∃ m, htS n e = some m ∧ htL m (l.drop (i + 1)) = some 1 := by
  obtain ⟨hi, he⟩ := List.getElem?_eq_some_iff.mp h
  rw [List.drop_eq_getElem_cons hi, he] at hh
  unfold htL at hh
  cases hs : htS n e with
  | none => rw [hs] at hh; cases hh
  | some m => rw [hs] at hh; exact ⟨m, rfl, hh⟩
/-- which case of a code it is -/
theorem ht_cases {st : List Bool} {e m : Nat} (h : htS st.length e = some m) (s w t k : Nat) :
    (e = 2000 ∧ ∃ b r, st = b :: r ∧ evS s w t k st e = (!b) :: r ∧ m = r.length + 1) ∨
    (e = 2001 ∧ ∃ b a r, st = b :: a :: r ∧ evS s w t k st e = (a && b) :: r ∧ m = r.length + 1) ∨
    (e = 2002 ∧ ∃ b a r, st = b :: a :: r ∧ evS s w t k st e = (a || b) :: r ∧ m = r.length + 1) ∨
    (e < 1200 ∧ st.length < 12 ∧ evS s w t k st e = tsB s w t k e :: st ∧ m = st.length + 1) := by
  unfold htS at h
  by_cases h0 : e = 2000
  · rw [if_pos h0] at h
    cases st with
    | nil => cases h
    | cons b r =>
      rw [if_pos (by simp)] at h
      cases h
      exact Or.inl ⟨h0, b, r, rfl, by unfold evS; rw [if_pos h0], rfl⟩
  · rw [if_neg h0] at h
    by_cases h1 : e = 2001 ∨ e = 2002
    · rw [if_pos h1] at h
      match st, h with
      | [], h => cases h
      | [_], h => cases h
      | b :: a :: r, h =>
        rw [if_pos (by simp)] at h
        cases h
        rcases h1 with h1 | h1
        · exact Or.inr (Or.inl ⟨h1, b, a, r, rfl, by subst h1; rfl, rfl⟩)
        · exact Or.inr (Or.inr (Or.inl ⟨h1, b, a, r, rfl, by subst h1; rfl, rfl⟩))
    · rw [if_neg h1] at h
      by_cases h2 : e < 1200 ∧ st.length < 12
      · rw [if_pos h2] at h
        cases h
        refine Or.inr (Or.inr (Or.inr ⟨h2.1, h2.2, ?_, rfl⟩))
        unfold evS
        rw [if_neg h0, if_neg (by omega)]
      · rw [if_neg h2] at h; cases h
section HO
variable {L : Nat} {xs : Nat → Int32} {fv : Value} {d : Nat} {r : Nat} {rr : Option Nat} {I : Nat → Nat → Int32} {J : Nat → Nat → Int64} {P : Option Value → aH → Prop}
variable {A : List Cl} {F : Nat}
set_option maxHeartbeats 16000000 in
theorem holds_loop {j s w h wt : Nat} {q : Cl} (hH : rH A F I) (hq : A[j]? = some q) (hq1 : q.1 ≤ 1) (hs : s < 6) (hw : w < 4) (hh : h < 1000) (hwt : I 78 s = nI wt) (hwt9 : wt ≤ 9)
    (k : ∀ c, P (some (.int (b2i (clT s wt w (h % 24) q)))) (aHp r rr (up1 I 89 c) J)) : ∀ m i (st : List Bool) c, i + m = q.2.2.2.length → st = (q.2.2.2.take i).foldl (evS s wt w (h % 24)) [] → htL st.length (q.2.2.2.drop i) = some 1 → st.length ≤ 12 → pl c st →
    aTo L xs fv 111 d cd122 (11, [(6, .int (nI (100 * F + stA A j + i))), (5, .int (nI st.length)), (0, .ref 77), (1, .int (nI (10 * F + j))), (2, .int (nI s)), (3, .int (nI w)), (4, .int (nI h))], [], aHp r rr (up1 I 89 c) J) P
  | 0, i, st, c, hi, hst, hht, hl, hpl => by
    obtain ⟨c1, c2, c3, e82, e83, e84, e85⟩ := rH_cl hH hq
    obtain ⟨e85, e86, e87⟩ := e85 hq1
    have hF := hH.1
    have hsu := stA_succ hq
    have hsa : stA A (j + 1) ≤ 100 := Nat.le_trans stA_all hH.2.1.2.1
    have hcl : (nI (10 * F + j)).toNatClampNeg = 10 * F + j := nI_clamp (by omega)
    have hil : i = q.2.2.2.length := hi
    rw [hil, List.drop_length] at hht
    have hl1 : st.length = 1 := Option.some.inj hht
    obtain ⟨b, hb⟩ := List.length_eq_one_iff.mp hl1
    subst hb
    have hp : c 0 = b2i b := hpl.1
    refine go_v (cd := cd122) [] 9 rfl ?_
    refine go_iald (cd := cd122) rfl (nI_vin (n := 50) (by omega) (by decide)) (lv3 rfl) rfl ?_
    rw [hcl, show up1 I 89 c 86 = I 86 from up1_o rfl, e86]
    refine go_st (cd := cd122) 1 rfl (go_ifT (nI_le (by omega) (by omega)) ?_)
    refine go_v (cd := cd122) [] 9 rfl ?_
    refine go_bald (cd := cd122) rfl (vin 100 rfl (by decide) (by decide)) (lv3 rfl) rfl ?_
    refine go_zreturn (cd := cd122) rfl ?_ ?_
    · rw [up1_e, show Int32.toNatClampNeg 0 = 0 from rfl, hp]; cases b <;> decide
    · rw [up1_e, show Int32.toNatClampNeg 0 = 0 from rfl, hp]
      have e : clT s wt w (h % 24) q = b := by
        unfold clT
        rw [hil, List.take_length] at hst
        rw [← hst]; rfl
      rw [← e]
      exact k c
  | m + 1, i, st, c, hi, hst, hht, hl, hpl => by
    obtain ⟨c1, c2, c3, e82, e83, e84, e85⟩ := rH_cl hH hq
    obtain ⟨e85, e86, e87⟩ := e85 hq1
    have hF := hH.1
    have hsu := stA_succ hq
    have hsa : stA A (j + 1) ≤ 100 := Nat.le_trans stA_all hH.2.1.2.1
    have hcl : (nI (10 * F + j)).toNatClampNeg = 10 * F + j := nI_clamp (by omega)
    have hil : i < q.2.2.2.length := by omega
    obtain ⟨e, he⟩ : ∃ e, q.2.2.2[i]? = some e := ⟨q.2.2.2[i], List.getElem?_eq_getElem hil⟩
    obtain ⟨n', hs1, hs2⟩ := drop_ht he hht
    have hev := take_fold (evS s wt w (h % 24)) [] he
    have hx87 := e87 i e he
    have hci : (nI (100 * F + stA A j + i)).toNatClampNeg = 100 * F + stA A j + i := nI_clamp (by omega)
    have u87 : up1 I 89 c 87 = I 87 := up1_o rfl
    refine go_v (cd := cd122) [] 9 rfl ?_
    refine go_iald (cd := cd122) rfl (nI_vin (n := 50) (by omega) (by decide)) (lv3 rfl) rfl ?_
    rw [hcl, show up1 I 89 c 86 = I 86 from up1_o rfl, e86]
    refine go_st (cd := cd122) 1 rfl (go_ifF (nI_ge (by omega) (by omega)) ?_)
    refine go_v (cd := cd122) [] 9 rfl ?_
    refine go_iald (cd := cd122) rfl (nI_vin (n := 500) (by omega) (by decide)) (lv3 rfl) rfl ?_
    rw [hci, u87, hx87]
    rw [← hst] at hev
    have hnext : ∀ (st' : List Bool) (c' : Nat → Int32), st' = evS s wt w (h % 24) st e → st'.length = n' → n' ≤ 12 → pl c' st' → aTo L xs fv 111 d cd122 (11, [(6, .int (nI (100 * F + stA A j + (i + 1)))), (5, .int (nI st'.length)), (0, .ref 77), (1, .int (nI (10 * F + j))), (2, .int (nI s)), (3, .int (nI w)), (4, .int (nI h))], [], aHp r rr (up1 I 89 c') J) P := fun st' c' h1 h2 h3 h4 =>
      holds_loop hH hq hq1 hs hw hh hwt hwt9 k m (i + 1) st' c' (by omega) (by rw [h1, ← hev]) (by rw [h2]; exact hs2) (by omega) h4
    rcases ht_cases hs1 s wt w (h % 24) with ⟨h0, b, rs, hb1, hb2, hb3⟩ | ⟨h0, b, a, rs, hb1, hb2, hb3⟩ | ⟨h0, b, a, rs, hb1, hb2, hb3⟩ | ⟨h0, h12, hb2, hb3⟩
    · subst h0
      subst hb1
      rw [hb2] at hnext
      have hp0 := hpl.1
      simp only [List.length_cons] at hl ⊢
      rw [show rcI 2000 = -33 from rfl]
      cases b
      all_goals
        repeat' (first
      | (refine go_v (cd := cd122) [11] 300 rfl ?_; try simp (disch := decide) only [nI_pred, av0, av1, av3, up2_e, up2_s, up2_o, up1_e, up1_o])
      | refine go_st (cd := cd122) 1 rfl (go_ifT (by decide) ?_)
      | refine go_st (cd := cd122) 1 rfl (go_ifF (by decide) ?_)
      | refine go_st (cd := cd122) 1 rfl (go_ifT (by assumption) ?_)
      | refine go_st (cd := cd122) 1 rfl (go_ifF (by assumption) ?_)
      | (refine go_st (cd := cd122) 1 rfl (go_if (fun hq => ?_) (fun hq => ?_)))
      | refine go_ireturn (cd := cd122) rfl ?_
      | refine go_zreturn (cd := cd122) rfl (Or.inl rfl) ?_
      | refine go_zreturn (cd := cd122) rfl (Or.inr rfl) ?_
      | refine go_lreturn (cd := cd122) rfl ?_
      | refine go_areturn (cd := cd122) rfl ?_
      | refine go_areturnN (cd := cd122) rfl ?_
      | refine go_return (cd := cd122) rfl ?_
      | (refine go_bald (cd := cd122) rfl (nI_vin (n := 100) (by omega) (by decide)) (lv3 rfl) rfl ?_; simp only [up1_e, nI_clamp (show rs.length < 2 ^ 31 by omega), hp0])
      | refine go_bast (cd := cd122) rfl (nI_vin (n := 100) (by omega) (by decide)) (lv3 rfl) rfl (by decide) ?_)
        refine go_sub (l' := [(6, .int (nI (100 * F + stA A j + (i + 1)))), (5, .int (nI (rs.length + 1))), (0, .ref 77), (1, .int (nI (10 * F + j))), (2, .int (nI s)), (3, .int (nI w)), (4, .int (nI h))]) ⟨by rw [← Nat.add_assoc, nI_succ (100 * F + stA A j + i)]; rfl, rfl, rfl, rfl, rfl, rfl, rfl, trivial⟩ rfl rfl rfl ?_
        rw [nI_clamp (by omega), up21_1]
        exact hnext _ _ rfl hb3.symm (by omega) ⟨if_pos rfl, pl_put (Nat.le_refl _) hpl.2⟩
    · subst h0
      subst hb1
      rw [hb2] at hnext
      have hp0 := hpl.1
      have hp1 := hpl.2.1
      simp only [List.length_cons] at hl hp0 ⊢
      rw [show rcI 2001 = -38 from rfl]
      cases b <;> cases a
      all_goals
        repeat' (first
      | (refine go_v (cd := cd122) [11] 300 rfl ?_; try simp (disch := decide) only [nI_pred, nI_dec, av0, av1, av3, up2_e, up2_s, up2_o, up1_e, up1_o])
      | refine go_st (cd := cd122) 1 rfl (go_ifT (by decide) ?_)
      | refine go_st (cd := cd122) 1 rfl (go_ifF (by decide) ?_)
      | refine go_st (cd := cd122) 1 rfl (go_ifT (by assumption) ?_)
      | refine go_st (cd := cd122) 1 rfl (go_ifF (by assumption) ?_)
      | (refine go_st (cd := cd122) 1 rfl (go_if (fun hq => ?_) (fun hq => ?_)))
      | refine go_ireturn (cd := cd122) rfl ?_
      | refine go_zreturn (cd := cd122) rfl (Or.inl rfl) ?_
      | refine go_zreturn (cd := cd122) rfl (Or.inr rfl) ?_
      | refine go_lreturn (cd := cd122) rfl ?_
      | refine go_areturn (cd := cd122) rfl ?_
      | refine go_areturnN (cd := cd122) rfl ?_
      | refine go_return (cd := cd122) rfl ?_
      | (refine go_bald (cd := cd122) rfl (nI_vin (n := 100) (by omega) (by decide)) (lv3 rfl) rfl ?_; simp only [up1_e, nI_clamp (show rs.length < 2 ^ 31 by omega), nI_clamp (show rs.length + 1 < 2 ^ 31 by omega), hp0, hp1])
      | refine go_bast (cd := cd122) rfl (nI_vin (n := 100) (by omega) (by decide)) (lv3 rfl) rfl (by decide) ?_)
        refine go_sub (l' := [(6, .int (nI (100 * F + stA A j + (i + 1)))), (5, .int (nI (rs.length + 1))), (0, .ref 77), (1, .int (nI (10 * F + j))), (2, .int (nI s)), (3, .int (nI w)), (4, .int (nI h))]) ⟨by rw [← Nat.add_assoc, nI_succ (100 * F + stA A j + i)]; rfl, rfl, rfl, rfl, rfl, rfl, rfl, trivial⟩ rfl rfl rfl ?_
        rw [nI_clamp (by omega), up21_1]
        exact hnext _ _ rfl hb3.symm (by omega) ⟨if_pos rfl, pl_put (Nat.le_refl _) hpl.2.2⟩
    · subst h0
      subst hb1
      rw [hb2] at hnext
      have hp0 := hpl.1
      have hp1 := hpl.2.1
      simp only [List.length_cons] at hl hp0 ⊢
      rw [show rcI 2002 = -124 from rfl]
      cases b <;> cases a
      all_goals
        repeat' (first
      | (refine go_v (cd := cd122) [11] 300 rfl ?_; try simp (disch := decide) only [nI_pred, nI_dec, av0, av1, av3, up2_e, up2_s, up2_o, up1_e, up1_o])
      | refine go_st (cd := cd122) 1 rfl (go_ifT (by decide) ?_)
      | refine go_st (cd := cd122) 1 rfl (go_ifF (by decide) ?_)
      | refine go_st (cd := cd122) 1 rfl (go_ifT (by assumption) ?_)
      | refine go_st (cd := cd122) 1 rfl (go_ifF (by assumption) ?_)
      | (refine go_st (cd := cd122) 1 rfl (go_if (fun hq => ?_) (fun hq => ?_)))
      | refine go_ireturn (cd := cd122) rfl ?_
      | refine go_zreturn (cd := cd122) rfl (Or.inl rfl) ?_
      | refine go_zreturn (cd := cd122) rfl (Or.inr rfl) ?_
      | refine go_lreturn (cd := cd122) rfl ?_
      | refine go_areturn (cd := cd122) rfl ?_
      | refine go_areturnN (cd := cd122) rfl ?_
      | refine go_return (cd := cd122) rfl ?_
      | (refine go_bald (cd := cd122) rfl (nI_vin (n := 100) (by omega) (by decide)) (lv3 rfl) rfl ?_; simp only [up1_e, nI_clamp (show rs.length < 2 ^ 31 by omega), nI_clamp (show rs.length + 1 < 2 ^ 31 by omega), hp0, hp1])
      | refine go_bast (cd := cd122) rfl (nI_vin (n := 100) (by omega) (by decide)) (lv3 rfl) rfl (by decide) ?_)
        refine go_sub (l' := [(6, .int (nI (100 * F + stA A j + (i + 1)))), (5, .int (nI (rs.length + 1))), (0, .ref 77), (1, .int (nI (10 * F + j))), (2, .int (nI s)), (3, .int (nI w)), (4, .int (nI h))]) ⟨by rw [← Nat.add_assoc, nI_succ (100 * F + stA A j + i)]; rfl, rfl, rfl, rfl, rfl, rfl, rfl, trivial⟩ rfl rfl rfl ?_
        rw [nI_clamp (by omega), up21_1]
        exact hnext _ _ rfl hb3.symm (by omega) ⟨if_pos rfl, pl_put (Nat.le_refl _) hpl.2.2⟩
    · rw [hb2] at hnext
      have hT : rcI e = nI (1000 * (e / 300) + e % 300) := by
        unfold rcI
        rw [if_neg (by omega), if_neg (by omega), if_neg (by omega)]
      have hTl : 1000 * (e / 300) + e % 300 < 4000 := by omega
      have hd : nI (1000 * (e / 300) + e % 300) / 100 = nI (10 * (e / 300) + e % 300 / 100) := by
        rw [show (100 : Int32) = nI 100 from rfl, nI_div (by omega) (by decide)]; congr 1; omega
      have hm : nI (10 * (e / 300) + e % 300 / 100) - nI (10 * (e / 300) + e % 300 / 100) / 10 * 10 = nI (e / 100 % 3) := by
        rw [show (10 : Int32) = nI 10 from rfl, nI_rem (by omega) (by decide)]; congr 1; omega
      have hr : nI (1000 * (e / 300) + e % 300) - nI (10 * (e / 300) + e % 300 / 100) * 100 = nI (e % 100) := by
        rw [← hd, show (100 : Int32) = nI 100 from rfl, nI_rem (by omega) (by decide)]; congr 1; omega
      have hz1 : ¬ nI (1000 * (e / 300) + e % 300) = -33 := by
        have : (0 : Int32) ≤ nI (1000 * (e / 300) + e % 300) := nI_pos' (by omega)
        intro e1; rw [e1] at this; exact absurd this (by decide)
      have hz2 : (0 : Int32) ≤ nI (1000 * (e / 300) + e % 300) := nI_pos' (by omega)
      rw [hT]
      have hstore : ∀ (B : Bool) (x8 x9 : Int32), B = tsB s wt w (h % 24) e → aTo L xs fv 111 d cd122 (277, [(9, .int x9), (8, .int x8), (7, .int (nI (1000 * (e / 300) + e % 300))), (6, .int (nI (100 * F + stA A j + i))), (5, .int (nI st.length)), (0, .ref 77), (1, .int (nI (10 * F + j))), (2, .int (nI s)), (3, .int (nI w)), (4, .int (nI h))], [.int (b2i B), .int (nI st.length), .ref 89], aHp r rr (up1 I 89 c) J) P := fun B x8 x9 hB => by
        refine go_bast (cd := cd122) rfl (nI_vin (n := 100) (by omega) (by decide)) (lv3 rfl) rfl (by cases B <;> decide) ?_
        refine go_v (cd := cd122) [11] 9 rfl ?_
        refine go_sub (l' := [(6, .int (nI (100 * F + stA A j + (i + 1)))), (5, .int (nI (st.length + 1))), (0, .ref 77), (1, .int (nI (10 * F + j))), (2, .int (nI s)), (3, .int (nI w)), (4, .int (nI h))]) ⟨by rw [← Nat.add_assoc, nI_succ (100 * F + stA A j + i)]; rfl, by rw [nI_succ]; rfl, rfl, rfl, rfl, rfl, rfl, trivial⟩ rfl rfl rfl ?_
        rw [nI_clamp (by omega), up21_1]
        exact hnext (tsB s wt w (h % 24) e :: st) _ rfl hb3.symm (by omega) ⟨by rw [← hB]; exact if_pos rfl, pl_put (Nat.le_refl _) hpl⟩
      have hmid : ∀ v : Nat, v < 1000 → v = (if e / 300 = 0 then s else if e / 300 = 1 then wt else if e / 300 = 2 then w else h % 24) → aTo L xs fv 111 d cd122 (197, [(7, .int (nI (1000 * (e / 300) + e % 300))), (6, .int (nI (100 * F + stA A j + i))), (5, .int (nI st.length)), (0, .ref 77), (1, .int (nI (10 * F + j))), (2, .int (nI s)), (3, .int (nI w)), (4, .int (nI h))], [.int (nI v)], aHp r rr (up1 I 89 c) J) P := fun v hv1 hv2 => by
        have hts : tsB s wt w (h % 24) e = (if e / 100 % 3 = 0 then decide (v < e % 100) else if e / 100 % 3 = 1 then decide (v = e % 100) else decide (e % 100 < v)) := by
          unfold tsB; rw [← hv2]
        refine go_v (cd := cd122) [] 9 rfl ?_
        refine go_idiv (cd := cd122) rfl (by decide) ?_
        rw [hd]
        refine go_v (cd := cd122) [] 9 rfl ?_
        refine go_irem (cd := cd122) rfl (by decide) ?_
        rw [hm]
        have h3 : e / 100 % 3 = 0 ∨ e / 100 % 3 = 1 ∨ e / 100 % 3 = 2 := by omega
        rcases h3 with h3 | h3 | h3
        · rw [h3] at hts ⊢
          rw [if_pos rfl] at hts
          refine go_v (cd := cd122) [] 9 rfl ?_
          refine go_st (cd := cd122) 1 rfl (go_ifT (by decide) ?_)
          refine go_v (cd := cd122) [] 9 rfl ?_
          refine go_irem (cd := cd122) rfl (by decide) ?_
          rw [hd, hr]
          by_cases hc : v < e % 100
          · refine go_st (cd := cd122) 1 rfl (go_ifF (nI_ge hc (by omega)) ?_)
            refine go_v (cd := cd122) [277] 9 rfl ?_
            exact hstore true _ _ (by rw [hts, decide_eq_true hc])
          · refine go_st (cd := cd122) 1 rfl (go_ifT (nI_le (by omega) (by omega)) ?_)
            refine go_v (cd := cd122) [277] 9 rfl ?_
            exact hstore false _ _ (by rw [hts, decide_eq_false hc])
        · rw [h3] at hts ⊢
          rw [if_neg (by decide), if_pos rfl] at hts
          refine go_v (cd := cd122) [] 9 rfl ?_
          refine go_st (cd := cd122) 1 rfl (go_ifF (by decide) ?_)
          refine go_v (cd := cd122) [] 9 rfl ?_
          refine go_st (cd := cd122) 1 rfl (go_ifT (by decide) ?_)
          refine go_v (cd := cd122) [] 9 rfl ?_
          refine go_irem (cd := cd122) rfl (by decide) ?_
          rw [hd, hr]
          by_cases hc : v = e % 100
          · refine go_st (cd := cd122) 1 rfl (go_ifT (by rw [hc]) ?_)
            refine go_v (cd := cd122) [277] 9 rfl ?_
            exact hstore true _ _ (by rw [hts, decide_eq_true hc])
          · refine go_st (cd := cd122) 1 rfl (go_ifF (by rw [nI_eq (by omega) (by omega)]; exact hc) ?_)
            refine go_v (cd := cd122) [277] 9 rfl ?_
            exact hstore false _ _ (by rw [hts, decide_eq_false hc])
        · rw [h3] at hts ⊢
          rw [if_neg (by decide), if_neg (by decide)] at hts
          refine go_v (cd := cd122) [] 9 rfl ?_
          refine go_st (cd := cd122) 1 rfl (go_ifF (by decide) ?_)
          refine go_v (cd := cd122) [] 9 rfl ?_
          refine go_st (cd := cd122) 1 rfl (go_ifF (by decide) ?_)
          refine go_v (cd := cd122) [] 9 rfl ?_
          refine go_irem (cd := cd122) rfl (by decide) ?_
          rw [hd, hr]
          by_cases hc : e % 100 < v
          · refine go_st (cd := cd122) 1 rfl (go_ifF (nI_ge hc (by omega)) ?_)
            refine go_v (cd := cd122) [277] 9 rfl ?_
            exact hstore true _ _ (by rw [hts, decide_eq_true hc])
          · refine go_st (cd := cd122) 1 rfl (go_ifT (nI_le (by omega) (by omega)) ?_)
            refine go_v (cd := cd122) [277] 9 rfl ?_
            exact hstore false _ _ (by rw [hts, decide_eq_false hc])
      refine go_v (cd := cd122) [] 9 rfl ?_
      refine go_st (cd := cd122) 1 rfl (go_ifF hz1 ?_)
      refine go_v (cd := cd122) [] 9 rfl ?_
      refine go_st (cd := cd122) 1 rfl (go_ifT hz2 ?_)
      refine go_v (cd := cd122) [] 9 rfl ?_
      by_cases g0 : e / 300 = 0
      · refine go_st (cd := cd122) 1 rfl (go_ifF (nI_ge (b := 1000) (by omega) (by omega)) ?_)
        refine go_v (cd := cd122) [197] 9 rfl ?_
        exact hmid s (by omega) (by rw [if_pos g0])
      · refine go_st (cd := cd122) 1 rfl (go_ifT (nI_le (a := 1000) (by omega) (by omega)) ?_)
        refine go_v (cd := cd122) [] 9 rfl ?_
        by_cases g1 : e / 300 = 1
        · refine go_st (cd := cd122) 1 rfl (go_ifF (nI_ge (b := 2000) (by omega) (by omega)) ?_)
          refine go_v (cd := cd122) [] 9 rfl ?_
          refine go_iald (cd := cd122) rfl (nI_vin (n := 6) (by omega) (by decide)) (lv3 rfl) rfl ?_
          rw [nI_clamp (by omega), show up1 I 89 c 78 = I 78 from up1_o rfl, hwt]
          refine go_v (cd := cd122) [197] 9 rfl ?_
          exact hmid wt (by omega) (by rw [if_neg g0, if_pos g1])
        · refine go_st (cd := cd122) 1 rfl (go_ifT (nI_le (a := 2000) (by omega) (by omega)) ?_)
          refine go_v (cd := cd122) [] 9 rfl ?_
          by_cases g2 : e / 300 = 2
          · refine go_st (cd := cd122) 1 rfl (go_ifF (nI_ge (b := 3000) (by omega) (by omega)) ?_)
            refine go_v (cd := cd122) [197] 9 rfl ?_
            exact hmid w (by omega) (by rw [if_neg g0, if_neg g1, if_pos g2])
          · refine go_st (cd := cd122) 1 rfl (go_ifT (nI_le (a := 3000) (by omega) (by omega)) ?_)
            refine go_v (cd := cd122) [] 9 rfl ?_
            refine go_irem (cd := cd122) rfl (by decide) ?_
            rw [show (24 : Int32) = nI 24 from rfl, nI_rem (by omega) (by decide)]
            exact hmid (h % 24) (by omega) (by rw [if_neg g0, if_neg g1, if_neg g2])
theorem cl_holds {j s w h wt : Nat} {q : Cl} (hH : rH A F I) (hq : A[j]? = some q) (hq1 : q.1 ≤ 1) (hs : s < 6) (hw : w < 4) (hh : h < 1000) (hwt : I 78 s = nI wt) (hwt9 : wt ≤ 9) (c : Nat → Int32)
    (k : ∀ c, P (some (.int (b2i (clT s wt w (h % 24) q)))) (aHp r rr (up1 I 89 c) J)) : aCl L xs fv 111 (d + 1) 122 [.ref 77, .int (nI (10 * F + j)), .int (nI s), .int (nI w), .int (nI h)] (aHp r rr (up1 I 89 c) J) P := by
  refine cl_of rfl (Nat.le_add_right _ _) ?_
  obtain ⟨c1, c2, c3, e82, e83, e84, e85⟩ := rH_cl hH hq
  obtain ⟨e85, e86, e87⟩ := e85 hq1
  have hF := hH.1
  refine go_v (cd := cd122) [] 9 rfl ?_
  refine go_iald (cd := cd122) rfl (nI_vin (n := 50) (by omega) (by decide)) (lv3 rfl) rfl ?_
  rw [nI_clamp (by omega), show up1 I 89 c 85 = I 85 from up1_o rfl, e85]
  refine go_v (cd := cd122) [11] 9 rfl ?_
  refine go_sub (l' := [(6, .int (nI (100 * F + stA A j + 0))), (5, .int (nI 0)), (0, .ref 77), (1, .int (nI (10 * F + j))), (2, .int (nI s)), (3, .int (nI w)), (4, .int (nI h))]) ⟨rfl, rfl, rfl, rfl, rfl, rfl, rfl, trivial⟩ rfl rfl rfl ?_
  exact holds_loop hH hq hq1 hs hw hh hwt hwt9 k q.2.2.2.length 0 [] c (by omega) rfl ((hH.2.1.2.2 q c3).2.2.2.2.1 hq1) (by decide) trivial
end HO
