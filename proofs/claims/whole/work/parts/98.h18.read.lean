/-! the class reads: small steps -/
def cst (b : Nat) (I0 I : Nat → Nat → Int32) (p : Nat) (cs : List Nat) : Prop := (∀ j, j ≠ 9 → j ≠ b → j ≠ b + 5 → I j = I0 j) ∧ (∀ q, q ≠ 2 → q ≠ 3 → I 9 q = I0 9 q) ∧ (∀ q, q ≠ 6 → I b q = I0 b q) ∧ I 9 2 = nI p ∧ I b 6 = nI cs.length ∧ ∀ j e, cs[j]? = some e → I (b + 5) j = nI e
def ctx (T : Nat → Nat) (len : Nat) (I0 : Nat → Nat → Int32) : Prop := txt T len ∧ I0 9 1 = nI len ∧ ∀ p, p < len → I0 10 p = nI (T p)
section CP
variable {L : Nat} {xs : Nat → Int32} {fv : Value} {d : Nat} {r : Nat} {I : Nat → Nat → Int32} {J : Nat → Nat → Int64} {P : Option Value → aH → Prop}
variable {T : Nat → Nat} {len b : Nat} {I0 : Nat → Nat → Int32} {p : Nat} {cs : List Nat}
theorem cst_p {p' : Nat} (hb : 12 ≤ b) (h : cst b I0 I p cs) : cst b I0 (up2 I 9 2 (nI p')) p' cs := by
  obtain ⟨h1, h2, h3, h4, h5, h6⟩ := h
  refine ⟨fun j a c e => by rw [up2_ne a]; exact h1 j a c e, fun q a c => by rw [up2_42 a]; exact h2 q a c, fun q a => by rw [up2_ne (by omega)]; exact h3 q a, up2_e, by rw [up2_ne (by omega)]; exact h5, fun j e a => by rw [up2_ne (by omega)]; exact h6 j e a⟩
theorem cst_n {v : Int32} (hb : 12 ≤ b) (h : cst b I0 I p cs) : cst b I0 (up2 I 9 3 v) p cs := by
  obtain ⟨h1, h2, h3, h4, h5, h6⟩ := h
  refine ⟨fun j a c e => by rw [up2_ne a]; exact h1 j a c e, fun q a c => by rw [up2_42 c]; exact h2 q a c, fun q a => by rw [up2_ne (by omega)]; exact h3 q a, by rw [up2_42 (by decide)]; exact h4, by rw [up2_ne (by omega)]; exact h5, fun j e a => by rw [up2_ne (by omega)]; exact h6 j e a⟩
theorem cst_c {c : Nat} (hb : 12 ≤ b) (h : cst b I0 I p cs) : cst b I0 (up2 (up2 I (b + 5) cs.length (nI c)) b 6 (nI (cs.length + 1))) p (cs ++ [c]) := by
  obtain ⟨h1, h2, h3, h4, h5, h6⟩ := h
  refine ⟨fun j a c e => by rw [up2_ne c, up2_ne e]; exact h1 j a c e, fun q a c => by rw [up2_ne (by omega), up2_ne (by omega)]; exact h2 q a c, fun q a => by rw [up2_42 a, up2_ne (by omega)]; exact h3 q a, by rw [up2_ne (by omega), up2_ne (by omega)]; exact h4, by rw [up2_e, List.length_append]; rfl, fun j e a => ?_⟩
  rw [up2_ne (by omega), up2_at]
  by_cases hj : j = cs.length
  · rw [if_pos hj]
    subst hj
    rw [List.getElem?_append_right (Nat.le_refl _), Nat.sub_self] at a
    have e2 : c = e := Option.some.inj a
    rw [e2]
  · rw [if_neg hj]
    refine h6 j e ?_
    have hl : j < (cs ++ [c]).length := (List.getElem?_eq_some_iff.mp a).1
    rw [List.length_append] at hl
    have hl : j < cs.length + 1 := hl
    rw [List.getElem?_append_left (by omega)] at a
    exact a
theorem cl_sign (hb : 12 ≤ b) (hT : ctx T len I0) (hS : cst b I0 I p cs) (hp31 : p < 2 ^ 30) (K : ∀ x, sgX x (T p) → P (some (.int x)) (aHp r (some b) I J)) : aCl L xs fv 111 (d + 1) 16 [.ref 9] (aHp r (some b) I J) P := by
  obtain ⟨⟨t1, t2, t3⟩, t4, t5⟩ := hT
  obtain ⟨h1, h2, h3, h4, h5, h6⟩ := hS
  have h91 : I 9 1 = nI len := by rw [h2 1 (by decide) (by decide)]; exact t4
  refine cl_of rfl (Nat.le_add_right _ _) ?_
  refine go_v (cd := cd16) [] 20 rfl ?_
  by_cases hp : p < len
  · refine go_st (cd := cd16) 1 rfl (go_ifF (show ¬ I 9 1 ≤ I 9 2 by rw [h91, h4]; exact nI_ge hp (by omega)) ?_)
    refine go_v (cd := cd16) [] 20 rfl ?_
    refine go_st (cd := cd16) 1 rfl (go_ifF (show ¬ 100 ≤ I 9 2 by rw [h4]; exact nI_ge (b := 100) (by omega) (by decide)) ?_)
    refine go_v (cd := cd16) [] 20 rfl ?_
    show aTo L xs fv 111 _ cd16 (28, _, [.int (I 9 2), .ref 10], aHp r (some b) I J) _
    rw [h4]
    refine go_iald (cd := cd16) rfl (nI_vin (n := 100) (by omega) (by decide)) (lv3 rfl) rfl ?_
    rw [nI_clamp (show p < 2 ^ 31 by omega), h1 10 (by decide) (by omega) (by omega), t5 p hp]
    refine go_v (cd := cd16) [] 20 rfl ?_
    refine go_ireturn (cd := cd16) rfl (K _ ?_)
    have := t2 p hp
    by_cases h128 : T p < 128
    · exact Or.inl ⟨h128, rfl⟩
    · refine Or.inr ⟨by omega, ⟨?_, nI_le (b := 255) (by omega) (by decide)⟩, Or.inr (nI_le (a := 128) (by omega) (by omega))⟩
      have h0 : (0 : Int32) ≤ nI (T p) := nI_pos' (by omega)
      generalize nI (T p) = y at *
      grind
  · refine go_st (cd := cd16) 1 rfl (go_ifT (show I 9 1 ≤ I 9 2 by rw [h91, h4]; exact nI_le (by omega) (by omega)) ?_)
    refine go_v (cd := cd16) [] 20 rfl ?_
    refine go_ireturn (cd := cd16) rfl (K _ ?_)
    rw [t3 p (by omega)]
    exact Or.inr (by decide)
theorem cl_pass {c : Nat} {C : Int32} (hb : 12 ≤ b) (hT : ctx T len I0) (hS : cst b I0 I p cs) (hp31 : p < 2 ^ 30) (hC : C = nI c) (hc : c < 128) (K1 : T p = c → ∀ I', cst b I0 I' (p + 1) cs → P (some (.int 1)) (aHp r (some b) I' J)) (K0 : T p ≠ c → P (some (.int 0)) (aHp r (some b) I J)) : aCl L xs fv 111 (d + 2) 17 [.ref 9, .int C] (aHp r (some b) I J) P := by
  refine cl_of rfl (Nat.le_add_right _ _) ?_
  refine go_v (cd := cd17) [] 20 rfl ?_
  refine go_callv (cd := cd17) rfl rfl rfl rfl rfl (lv3 rfl) rfl (cl_sign hb hT hS hp31 (fun x hx => ⟨rfl, ?_⟩))
  refine go_v (cd := cd17) [] 20 rfl ?_
  by_cases ht : T p = c
  · refine go_st (cd := cd17) 1 rfl (go_ifT ((sg_eq hx hC hc).mpr ht) ?_)
    refine go_v (cd := cd17) [] 20 rfl ?_
    show aTo L xs fv 111 _ cd17 (21, _, [.int 1], aHp r (some b) (up2 I 9 2 (I 9 2 + 1)) J) _
    rw [hS.2.2.2.1, ← nI_succ]
    exact go_zreturn (cd := cd17) rfl (Or.inr rfl) (K1 ht _ (cst_p hb hS))
  · refine go_st (cd := cd17) 1 rfl (go_ifF (fun h => ht ((sg_eq hx hC hc).mp h)) ?_)
    refine go_v (cd := cd17) [] 20 rfl ?_
    exact go_zreturn (cd := cd17) rfl (Or.inl rfl) (K0 ht)
theorem cl_num (hb : 12 ≤ b) (hT : ctx T len I0) (hS : cst b I0 I p cs) (hp31 : p < 2 ^ 29) (K1 : ∀ I' v q, pN T p = some (v, q) → cst b I0 I' q cs → I' 9 3 = nI v → P (some (.int 1)) (aHp r (some b) I' J)) (K0 : pN T p = none → P (some (.int 0)) (aHp r (some b) I J)) : aCl L xs fv 111 (d + 2) 21 [.ref 9] (aHp r (some b) I J) P := by
  refine cl_of rfl (Nat.le_add_right _ _) ?_
  refine go_v (cd := cd21) [] 20 rfl ?_
  refine go_callv (cd := cd21) rfl rfl rfl rfl rfl (lv3 rfl) rfl (cl_sign hb hT hS (by omega) (fun x hx => ⟨rfl, ?_⟩))
  obtain ⟨d1, d2⟩ := sg_dig (m := 9) hx rfl (Nat.le_refl _)
  have d1 : (0 ≤ x - 48 ∧ x - 48 ≤ 9) ↔ (48 ≤ T p ∧ T p ≤ 57) := d1
  refine go_v (cd := cd21) [8] 20 rfl ?_
  by_cases hd : 48 ≤ T p ∧ T p ≤ 57
  case neg =>
    have h18 : ∀ ls, aTo L xs fv 111 (d + 1) cd21 (18, ls, [], aHp r (some b) I J) P := fun ls => by
      refine go_v (cd := cd21) [] 20 rfl ?_
      exact go_zreturn (cd := cd21) rfl (Or.inl rfl) (K0 (if_neg hd))
    refine go_v (cd := cd21) [] 20 rfl ?_
    by_cases h0 : x - 48 < 0
    · exact go_st (cd := cd21) 1 rfl (go_ifT h0 (h18 _))
    refine go_st (cd := cd21) 1 rfl (go_ifF h0 ?_)
    refine go_v (cd := cd21) [] 20 rfl ?_
    exact go_st (cd := cd21) 1 rfl (go_ifF (fun h => hd (d1.mp ⟨Int32.not_lt.mp h0, h⟩)) (h18 _))
  obtain ⟨c1, c2⟩ := d1.mpr hd
  have hxe := d2 hd
  rw [hxe] at c1 c2 ⊢
  refine go_v (cd := cd21) [] 20 rfl ?_
  refine go_st (cd := cd21) 1 rfl (go_ifF (nI_pos (by omega)) ?_)
  refine go_v (cd := cd21) [] 20 rfl ?_
  refine go_st (cd := cd21) 1 rfl (go_ifT c2 ?_)
  refine go_v (cd := cd21) [35] 20 rfl ?_
  show aTo L xs fv 111 _ cd21 (35, _, [], aHp r (some b) (up2 (up2 I 9 3 (nI (T p - 48))) 9 2 (I 9 2 + 1)) J) _
  rw [hS.2.2.2.1, ← nI_succ]
  have hS1 : cst b I0 (up2 (up2 I 9 3 (nI (T p - 48))) 9 2 (nI (p + 1))) (p + 1) cs := cst_p hb (cst_n hb hS)
  have h93 : up2 (up2 I 9 3 (nI (T p - 48))) 9 2 (nI (p + 1)) 9 3 = nI (T p - 48) := by rw [up2_42 (by decide), up2_e]
  generalize up2 (up2 I 9 3 (nI (T p - 48))) 9 2 (nI (p + 1)) = I1 at *
  refine go_sb ?_ (l' := [(0, .ref 9), (1, .int (nI (T p - 48)))]) ⟨rfl, rfl, trivial⟩ rfl rfl rfl
  refine go_v (cd := cd21) [] 20 rfl ?_
  refine go_callv (cd := cd21) rfl rfl rfl rfl rfl (lv3 rfl) rfl (cl_sign hb hT hS1 (by omega) (fun y hy => ⟨rfl, ?_⟩))
  obtain ⟨e1, e2⟩ := sg_dig (m := 9) hy rfl (Nat.le_refl _)
  have e1 : (0 ≤ y - 48 ∧ y - 48 ≤ 9) ↔ (48 ≤ T (p + 1) ∧ T (p + 1) ≤ 57) := e1
  refine go_v (cd := cd21) [43] 20 rfl ?_
  by_cases hd2 : 48 ≤ T (p + 1) ∧ T (p + 1) ≤ 57
  case neg =>
    have h73 : ∀ ls, aTo L xs fv 111 (d + 1) cd21 (73, ls, [], aHp r (some b) I1 J) P := fun ls => by
      refine go_v (cd := cd21) [] 20 rfl ?_
      refine go_zreturn (cd := cd21) rfl (Or.inr rfl) (K1 I1 (T p - 48) (p + 1) ?_ hS1 h93)
      unfold pN
      rw [if_pos hd, if_neg hd2]
    refine go_v (cd := cd21) [] 20 rfl ?_
    by_cases h0 : y - 48 < 0
    · exact go_st (cd := cd21) 1 rfl (go_ifT h0 (h73 _))
    refine go_st (cd := cd21) 1 rfl (go_ifF h0 ?_)
    refine go_v (cd := cd21) [] 20 rfl ?_
    exact go_st (cd := cd21) 1 rfl (go_ifT (Int32.not_le.mp (fun h => hd2 (e1.mp ⟨Int32.not_lt.mp h0, h⟩))) (h73 _))
  obtain ⟨f1, f2⟩ := e1.mpr hd2
  have hye := e2 hd2
  rw [hye] at f1 f2 ⊢
  refine go_v (cd := cd21) [] 20 rfl ?_
  refine go_st (cd := cd21) 1 rfl (go_ifF (nI_pos (by omega)) ?_)
  refine go_v (cd := cd21) [] 20 rfl ?_
  refine go_st (cd := cd21) 1 rfl (go_ifF (Int32.not_lt.mpr f2) ?_)
  refine go_v (cd := cd21) [73] 20 rfl ?_
  show aTo L xs fv 111 _ cd21 (73, _, [], aHp r (some b) (up2 (up2 I1 9 3 (nI (T p - 48) * 10 + nI (T (p + 1) - 48))) 9 2 (I1 9 2 + 1)) J) _
  rw [hS1.2.2.2.1, ← nI_succ, show nI (T p - 48) * 10 + nI (T (p + 1) - 48) = nI (10 * (T p - 48) + (T (p + 1) - 48)) from by
    rw [show (10 : Int32) = nI 10 from rfl, nI_mul, nI_add, Nat.mul_comm]]
  refine go_v (cd := cd21) [] 20 rfl ?_
  refine go_zreturn (cd := cd21) rfl (Or.inr rfl) (K1 _ (10 * (T p - 48) + (T (p + 1) - 48)) (p + 2) ?_ (cst_p hb (cst_n hb hS1)) ?_)
  · unfold pN
    rw [if_pos hd, if_pos hd2]
  · rw [up2_42 (by decide), up2_e]
theorem cl_which {x A B C D : Int32} (K : P (some (.int (if x = A then 0 else if x = B then 1 else if x = C then 2 else if x = D then 3 else -1))) (aHp r (some b) I J)) : aCl L xs fv 111 (d + 1) 19 [.int x, .int A, .int B, .int C, .int D] (aHp r (some b) I J) P := by
  refine cl_of rfl (Nat.le_add_right _ _) ?_
  refine go_v (cd := cd19) [] 20 rfl ?_
  by_cases h1 : x = A
  · rw [if_pos h1] at K
    refine go_st (cd := cd19) 1 rfl (go_ifT h1 ?_)
    refine go_v (cd := cd19) [] 20 rfl ?_
    exact go_ireturn (cd := cd19) rfl K
  rw [if_neg h1] at K
  refine go_st (cd := cd19) 1 rfl (go_ifF h1 ?_)
  refine go_v (cd := cd19) [] 20 rfl ?_
  by_cases h2 : x = B
  · rw [if_pos h2] at K
    refine go_st (cd := cd19) 1 rfl (go_ifT h2 ?_)
    refine go_v (cd := cd19) [] 20 rfl ?_
    exact go_ireturn (cd := cd19) rfl K
  rw [if_neg h2] at K
  refine go_st (cd := cd19) 1 rfl (go_ifF h2 ?_)
  refine go_v (cd := cd19) [] 20 rfl ?_
  by_cases h3 : x = C
  · rw [if_pos h3] at K
    refine go_st (cd := cd19) 1 rfl (go_ifT h3 ?_)
    refine go_v (cd := cd19) [] 20 rfl ?_
    exact go_ireturn (cd := cd19) rfl K
  rw [if_neg h3] at K
  refine go_st (cd := cd19) 1 rfl (go_ifF h3 ?_)
  refine go_v (cd := cd19) [] 20 rfl ?_
  by_cases h4 : x = D
  · rw [if_pos h4] at K
    refine go_st (cd := cd19) 1 rfl (go_ifT h4 ?_)
    refine go_v (cd := cd19) [] 20 rfl ?_
    exact go_ireturn (cd := cd19) rfl K
  · rw [if_neg h4] at K
    refine go_st (cd := cd19) 1 rfl (go_ifF h4 ?_)
    refine go_v (cd := cd19) [] 20 rfl ?_
    exact go_ireturn (cd := cd19) rfl K
theorem cl_put {c : Nat} {C : Int32} (hB : isB b) (hb : 12 ≤ b) (hS : cst b I0 I p cs) (hC : C = nI c) (hl : cs.length < 100) (K : ∀ I', I' 9 3 = I 9 3 → cst b I0 I' p (cs ++ [c]) → P none (aHp r (some b) I' J)) : aCl L xs fv 111 (d + 1) 2 [.ref b, .int C] (aHp r (some b) I J) P := by
  subst hC
  have h6 := hS.2.2.2.2.1
  refine cl_of rfl (Nat.le_add_right _ _) ?_
  refine go_v (cd := cd2) [1] 20 rfl ?_
  refine go_get (cd := cd2) rfl (isB_lt hB) (isB_k hB) ?_
  rw [av0, h6]
  refine go_v (cd := cd2) [] 20 rfl ?_
  refine go_st (cd := cd2) 1 rfl (go_ifF (nI_ge (b := 100) hl (by decide)) ?_)
  refine go_v (cd := cd2) [10] 20 rfl ?_
  refine go_getR (cd := cd2) rfl (isB_lt hB) (isB_k hB) (isB_R hB).2.2.2.2.1 ?_
  refine go_v (cd := cd2) [14] 20 rfl ?_
  refine go_get (cd := cd2) rfl (isB_lt hB) (isB_k hB) ?_
  rw [av0, h6]
  refine go_v (cd := cd2) [] 20 rfl ?_
  refine go_iast (cd := cd2) rfl (isB_i5 hB hl) (isB_lt7 hB (by decide)) (isB_k1 hB).2.2.2.2.1 ?_
  rw [nI_clamp (show cs.length < 2 ^ 31 by omega)]
  refine go_v (cd := cd2) [21] 20 rfl ?_
  refine go_get (cd := cd2) rfl (isB_lt hB) (isB_k hB) ?_
  rw [av0, up2_ne (show b ≠ b + 5 by omega), h6]
  refine go_v (cd := cd2) [26] 20 rfl ?_
  refine go_putI (cd := cd2) rfl (isB_lt hB) (isB_k hB) ?_
  rw [← nI_succ]
  exact go_return (cd := cd2) rfl (K _ (by rw [up2_ne (by omega), up2_ne (by omega)]) (cst_c hb hS))
theorem leT_x {x : Int32} {t : Nat} (h : sgX x t) : (if x = 115 then (0 : Int32) else if x = 104 then 1 else if x = 119 then 2 else if x = 116 then 3 else -1) = (match leT t with | none => -1 | some l => nI l) := by
  unfold leT
  have e1 := sg_eq (c := 115) (C := 115) h rfl (by decide)
  have e2 := sg_eq (c := 104) (C := 104) h rfl (by decide)
  have e3 := sg_eq (c := 119) (C := 119) h rfl (by decide)
  have e4 := sg_eq (c := 116) (C := 116) h rfl (by decide)
  by_cases h1 : t = 115
  · rw [if_pos (e1.mpr h1), if_pos h1]; rfl
  rw [if_neg (fun k => h1 (e1.mp k)), if_neg h1]
  by_cases h2 : t = 104
  · rw [if_pos (e2.mpr h2), if_pos h2]; rfl
  rw [if_neg (fun k => h2 (e2.mp k)), if_neg h2]
  by_cases h3 : t = 119
  · rw [if_pos (e3.mpr h3), if_pos h3]; rfl
  rw [if_neg (fun k => h3 (e3.mp k)), if_neg h3]
  by_cases h4 : t = 116
  · rw [if_pos (e4.mpr h4), if_pos h4]; rfl
  · rw [if_neg (fun k => h4 (e4.mp k)), if_neg h4]
theorem orT_x {x : Int32} {t : Nat} (h : sgX x t) : (if x = 60 then (0 : Int32) else if x = 61 then 1 else if x = 62 then 2 else if x = 62 then 3 else -1) = (if 60 ≤ t ∧ t ≤ 62 then nI (t - 60) else -1) := by
  have e1 := sg_eq (c := 60) (C := 60) h rfl (by decide)
  have e2 := sg_eq (c := 61) (C := 61) h rfl (by decide)
  have e3 := sg_eq (c := 62) (C := 62) h rfl (by decide)
  by_cases h1 : t = 60
  · rw [if_pos (e1.mpr h1), if_pos (by omega), h1]; rfl
  rw [if_neg (fun k => h1 (e1.mp k))]
  by_cases h2 : t = 61
  · rw [if_pos (e2.mpr h2), if_pos (by omega), h2]; rfl
  rw [if_neg (fun k => h2 (e2.mp k))]
  by_cases h3 : t = 62
  · rw [if_pos (e3.mpr h3), if_pos (by omega), h3]; rfl
  · rw [if_neg (fun k => h3 (e3.mp k)), if_neg (fun k => h3 (e3.mp k)), if_neg (by omega)]
set_option maxHeartbeats 4000000 in
theorem cl_test (hB : isB b) (hb : 12 ≤ b) (hT : ctx T len I0) (hS : cst b I0 I p cs) (hp : p ≤ len) (hcs : cs.length ≤ p) (K1 : ∀ I' q c, pT T p = (q, some [c]) → cst b I0 I' q (cs ++ [c]) → P (some (.int 1)) (aHp r (some b) I' J)) (K0 : ∀ I' q, pT T p = (q, none) → cst b I0 I' q cs → P (some (.int 0)) (aHp r (some b) I' J)) : aCl L xs fv 111 (d + 3) 15 [.ref 9] (aHp r (some b) I J) P := by
  have hl100 := hT.1.1
  refine cl_of rfl (Nat.le_add_right _ _) ?_
  refine go_v (cd := cd15) [] 20 rfl ?_
  refine go_callv (cd := cd15) rfl rfl rfl rfl rfl (lv3 rfl) rfl (cl_sign hb hT hS (by omega) (fun x hx => ⟨rfl, ?_⟩))
  refine go_v (cd := cd15) [] 20 rfl ?_
  refine go_calls (cd := cd15) rfl rfl rfl rfl rfl (cl_which ⟨rfl, ?_⟩)
  rw [leT_x hx]
  refine go_v (cd := cd15) [] 20 rfl ?_
  cases hl : leT (T p) with
  | none =>
    refine go_st (cd := cd15) 1 rfl (go_ifF (by decide) ?_)
    refine go_v (cd := cd15) [] 20 rfl ?_
    refine go_zreturn (cd := cd15) rfl (Or.inl rfl) (K0 I p ?_ hS)
    unfold pT
    rw [hl]
  | some l =>
  have hl3 := (leT_lt hl).1
  have hpl : p < len := txt_lt hT.1 (by have := (leT_lt hl).2; omega)
  refine go_st (cd := cd15) 1 rfl (go_ifT (nI_pos' (n := l) (by omega)) ?_)
  refine go_v (cd := cd15) [32] 20 rfl ?_
  show aTo L xs fv 111 _ cd15 (32, _, [], aHp r (some b) (up2 I 9 2 (I 9 2 + 1)) J) _
  rw [hS.2.2.2.1, ← nI_succ]
  have hS1 : cst b I0 (up2 I 9 2 (nI (p + 1))) (p + 1) cs := cst_p hb hS
  generalize up2 I 9 2 (nI (p + 1)) = I1 at *
  refine go_sb ?_ (l' := [(1, .int (nI l)), (0, .ref 9)]) ⟨rfl, rfl, trivial⟩ rfl rfl rfl
  refine go_v (cd := cd15) [] 20 rfl ?_
  refine go_callv (cd := cd15) rfl rfl rfl rfl rfl (lv3 rfl) rfl (cl_sign hb hT hS1 (by omega) (fun y hy => ⟨rfl, ?_⟩))
  refine go_v (cd := cd15) [] 20 rfl ?_
  refine go_calls (cd := cd15) rfl rfl rfl rfl rfl (cl_which ⟨rfl, ?_⟩)
  rw [orT_x hy]
  refine go_v (cd := cd15) [] 20 rfl ?_
  by_cases ho : 60 ≤ T (p + 1) ∧ T (p + 1) ≤ 62
  case neg =>
    rw [if_neg ho]
    refine go_st (cd := cd15) 1 rfl (go_ifF (by decide) ?_)
    refine go_v (cd := cd15) [] 20 rfl ?_
    refine go_zreturn (cd := cd15) rfl (Or.inl rfl) (K0 I1 (p + 1) ?_ hS1)
    unfold pT
    rw [hl]
    dsimp only
    rw [if_neg ho]
  rw [if_pos ho]
  refine go_st (cd := cd15) 1 rfl (go_ifT (nI_pos' (by omega)) ?_)
  refine go_v (cd := cd15) [64] 20 rfl ?_
  show aTo L xs fv 111 _ cd15 (64, _, [], aHp r (some b) (up2 I1 9 2 (I1 9 2 + 1)) J) _
  rw [hS1.2.2.2.1, ← nI_succ]
  have hS2 : cst b I0 (up2 I1 9 2 (nI (p + 1 + 1))) (p + 2) cs := cst_p hb hS1
  generalize up2 I1 9 2 (nI (p + 1 + 1)) = I2 at *
  refine go_sb ?_ (l' := [(2, .int (nI (T (p + 1) - 60))), (1, .int (nI l)), (0, .ref 9)]) ⟨rfl, rfl, rfl, trivial⟩ rfl rfl rfl
  refine go_v (cd := cd15) [] 20 rfl ?_
  refine go_callv (cd := cd15) rfl rfl rfl rfl rfl (lv3 rfl) rfl (cl_num hb hT hS2 (by omega) (fun I3 v q hn hS3 h93 => ⟨rfl, ?_⟩) (fun hn => ⟨rfl, ?_⟩))
  case refine_2 =>
    refine go_st (cd := cd15) 1 rfl (go_ifT rfl ?_)
    refine go_v (cd := cd15) [] 20 rfl ?_
    refine go_zreturn (cd := cd15) rfl (Or.inl rfl) (K0 I2 (p + 2) ?_ hS2)
    unfold pT
    rw [hl]
    dsimp only
    rw [if_pos ho, hn]
  have hv99 := pN_ok hT.1 hn
  refine go_st (cd := cd15) 1 rfl (go_ifF (by decide) ?_)
  refine go_v (cd := cd15) [] 40 rfl ?_
  show aTo L xs fv 111 _ cd15 (92, _, [.int (nI l * 300 + nI (T (p + 1) - 60) * 100 + I3 9 3), .ref b], aHp r (some b) I3 J) _
  rw [h93, show nI l * 300 + nI (T (p + 1) - 60) * 100 + nI v = nI (300 * l + 100 * (T (p + 1) - 60) + v) from by
    rw [show (300 : Int32) = nI 300 from rfl, show (100 : Int32) = nI 100 from rfl, nI_mul, nI_mul, nI_add, nI_add, Nat.mul_comm l, Nat.mul_comm (T (p + 1) - 60)]]
  refine go_callv (cd := cd15) rfl rfl rfl rfl rfl (isB_lt hB) (isB_k hB) (cl_put hB hb hS3 rfl (by omega) (fun I4 _ hS4 => ⟨rfl, ?_⟩))
  refine go_v (cd := cd15) [] 20 rfl ?_
  refine go_zreturn (cd := cd15) rfl (Or.inr rfl) (K1 I4 q (300 * l + 100 * (T (p + 1) - 60) + v) ?_ hS4)
  unfold pT
  rw [hl]
  dsimp only
  rw [if_pos ho, hn]
end CP
