/-! the reference reads: small steps -/
def stR (g : Nat → Int32) : List Nat → Prop
  | [] => True
  | w :: W => g W.length = nI w ∧ w < 128 ∧ stR g W
theorem stR_w {g : Nat → Int32} {i : Nat} {v : Int32} : ∀ {W : List Nat}, stR g W → W.length ≤ i → stR (fun q => if q = i then v else g q) W
  | [], _, _ => trivial
  | w :: W, h, hi => by
    have hi : W.length + 1 ≤ i := hi
    refine ⟨?_, h.2.1, stR_w h.2.2 (by omega)⟩
    show (if W.length = i then v else g W.length) = nI w
    rw [if_neg (show ¬ W.length = i by omega)]; exact h.1
def rst (f c : Nat) (I0 I : Nat → Nat → Int32) (p : Nat) (W : List Nat) (n : Nat) (cs : List Nat) : Prop := (∀ j, j ≠ 77 → j ≠ 86 → j ≠ 87 → j ≠ 88 → I j = I0 j) ∧ (∀ q, q ≠ 13 → q ≠ 14 → q ≠ 24 → q ≠ 25 → q ≠ 26 → I 77 q = I0 77 q) ∧ I 77 13 = nI p ∧ I 77 24 = nI (100 * f + cs.length) ∧ I 77 25 = nI W.length ∧ I 77 26 = nI n ∧ stR (I 88) W ∧ (∀ j, j < 100 * f → I 87 j = I0 87 j) ∧ (∀ j e, cs[j]? = some e → I 87 (100 * f + j) = rcI e) ∧ (∀ q, q ≠ c → I 86 q = I0 86 q)
def rtx (T : Nat → Nat) (len : Nat) (I0 : Nat → Nat → Int32) : Prop := txt T len ∧ I0 77 12 = nI len ∧ ∀ p, p < len → I0 80 p = (nI (T p)).toInt8.toInt32
theorem sg_r {t : Nat} (h : t < 256) : sgX (nI t).toInt8.toInt32 t := by
  have : ∀ t : Fin 256, (t.val < 128 → (nI t.val).toInt8.toInt32 = nI t.val) ∧ (128 ≤ t.val → (-128 ≤ (nI t.val).toInt8.toInt32 ∧ (nI t.val).toInt8.toInt32 ≤ 255) ∧ (nI t.val).toInt8.toInt32 < 0) := by decide +kernel
  obtain ⟨h1, h2⟩ := this ⟨t, h⟩
  by_cases h3 : t < 128
  · exact Or.inl ⟨h3, h1 h3⟩
  · have := h2 (by show 128 ≤ t; omega)
    exact Or.inr ⟨by omega, this.1, Or.inl this.2⟩
theorem sg_ti {x : Int32} {t c : Nat} {C : Int} (h : sgX x t) (hC : C = (c : Int)) (hc : c < 128) : x.toInt = C ↔ t = c := by
  rw [← sg_eq (c := c) (C := nI c) h rfl hc, hC]
  have e := nI_toInt (n := c) (by omega)
  constructor
  · intro h; exact Int32.toInt_inj.mp (h.trans e.symm)
  · intro h; rw [h]; exact e
def lkP (Q : Nat → Prop) (pc : Nat) (x : Int32) (df : Int) : List (Int × Int) → Prop
  | [] => Q ((pc : Int) + df).toNat
  | q :: l => (x.toInt = q.1 → Q ((pc : Int) + q.2).toNat) ∧ (¬ x.toInt = q.1 → lkP Q pc x df l)
theorem lkP_of {Q : Nat → Prop} {pc : Nat} {x : Int32} {df : Int} : ∀ {l : List (Int × Int)}, lkP Q pc x df l → Q ((pc : Int) + Op.lookupswitch.offset l df x.toInt).toNat
  | [], h => h
  | (a, o) :: l, h => by
    show Q ((pc : Int) + (if a = x.toInt then o else Op.lookupswitch.offset l df x.toInt)).toNat
    by_cases ha : a = x.toInt
    · rw [if_pos ha]; exact h.1 ha.symm
    · rw [if_neg ha]; exact lkP_of (h.2 (fun e => ha e.symm))
theorem go_lk {L : Nat} {xs : Nat → Int32} {fv : Value} {n0 d : Nat} {cd : Nat → Option aI} {P : Option Value → aH → Prop} {pc nx a b t : Nat} {v : Value} {ls : aL} {st : List Value} {hn : Nat} {hI : Nat → Nat → Int32} {hJ : Nat → Nat → Int64} {hR : Nat → Nat → Option Nat} {x : Int32} {df : Int} {ps : Array (Int × Int)} (hc : cd pc = some (.lookupswitch df ps, nx, a, b, t, v)) (h : lkP (fun p => aTo L xs fv n0 d cd (p, ls, st, (hn, hI, hJ, hR)) P) pc x df ps.toList) : aTo L xs fv n0 d cd (pc, ls, .int x :: st, (hn, hI, hJ, hR)) P := go_lsw _ hc rfl (lkP_of h)
def ldN : List Nat → Nat
  | [] => 0
  | w :: W => if w = 33 then ldN W + 1 else 0
def dpN : List Nat → List Nat
  | [] => []
  | w :: W => if w = 33 then dpN W else w :: W
def slC (s : Nat) : List Nat → List Nat
  | [] => []
  | w :: W => if w = 38 ∨ (w = 124 ∧ s ≠ 38) then (if w = 38 then 2001 else 2002) :: slC s W else []
def slW (s : Nat) : List Nat → List Nat
  | [] => []
  | w :: W => if w = 38 ∨ (w = 124 ∧ s ≠ 38) then slW s W else w :: W
section RP
variable {L : Nat} {xs : Nat → Int32} {fv : Value} {d : Nat} {r : Nat} {rr : Option Nat} {I : Nat → Nat → Int32} {J : Nat → Nat → Int64} {P : Option Value → aH → Prop}
variable {T : Nat → Nat} {len f c : Nat} {I0 : Nat → Nat → Int32} {p n : Nat} {W cs : List Nat}
theorem rst_p {p' : Nat} (h : rst f c I0 I p W n cs) : rst f c I0 (up2 I 77 13 (nI p')) p' W n cs := by
  obtain ⟨h1, h2, h3, h4, h5, h6, h7, h8, h9, hA⟩ := h
  exact ⟨fun j a b c e => by rw [up2_ne a]; exact h1 j a b c e, fun q a b c e g => by rw [up2_42 a]; exact h2 q a b c e g, up2_e, by rw [up2_42 (by decide)]; exact h4, by rw [up2_42 (by decide)]; exact h5, by rw [up2_42 (by decide)]; exact h6, by rw [up2_ne (by decide)]; exact h7, fun j a => by rw [up2_ne (by decide)]; exact h8 j a, fun j e a => by rw [up2_ne (by decide)]; exact h9 j e a, fun q a => by rw [up2_ne (by decide)]; exact hA q a⟩
theorem rst_d {v : Int32} (h : rst f c I0 I p W n cs) : rst f c I0 (up2 I 77 14 v) p W n cs := by
  obtain ⟨h1, h2, h3, h4, h5, h6, h7, h8, h9, hA⟩ := h
  exact ⟨fun j a b c e => by rw [up2_ne a]; exact h1 j a b c e, fun q a b c e g => by rw [up2_42 b]; exact h2 q a b c e g, by rw [up2_42 (by decide)]; exact h3, by rw [up2_42 (by decide)]; exact h4, by rw [up2_42 (by decide)]; exact h5, by rw [up2_42 (by decide)]; exact h6, by rw [up2_ne (by decide)]; exact h7, fun j a => by rw [up2_ne (by decide)]; exact h8 j a, fun j e a => by rw [up2_ne (by decide)]; exact h9 j e a, fun q a => by rw [up2_ne (by decide)]; exact hA q a⟩
theorem rst_n {n' : Nat} (h : rst f c I0 I p W n cs) : rst f c I0 (up2 I 77 26 (nI n')) p W n' cs := by
  obtain ⟨h1, h2, h3, h4, h5, h6, h7, h8, h9, hA⟩ := h
  exact ⟨fun j a b c e => by rw [up2_ne a]; exact h1 j a b c e, fun q a b c e g => by rw [up2_42 g]; exact h2 q a b c e g, by rw [up2_42 (by decide)]; exact h3, by rw [up2_42 (by decide)]; exact h4, by rw [up2_42 (by decide)]; exact h5, up2_e, by rw [up2_ne (by decide)]; exact h7, fun j a => by rw [up2_ne (by decide)]; exact h8 j a, fun j e a => by rw [up2_ne (by decide)]; exact h9 j e a, fun q a => by rw [up2_ne (by decide)]; exact hA q a⟩
theorem rst_w {w : Nat} (h : rst f c I0 I p (w :: W) n cs) : rst f c I0 (up2 I 77 25 (nI W.length)) p W n cs := by
  obtain ⟨h1, h2, h3, h4, h5, h6, h7, h8, h9, hA⟩ := h
  exact ⟨fun j a b c e => by rw [up2_ne a]; exact h1 j a b c e, fun q a b c e g => by rw [up2_42 e]; exact h2 q a b c e g, by rw [up2_42 (by decide)]; exact h3, by rw [up2_42 (by decide)]; exact h4, up2_e, by rw [up2_42 (by decide)]; exact h6, by rw [up2_ne (by decide)]; exact h7.2.2, fun j a => by rw [up2_ne (by decide)]; exact h8 j a, fun j e a => by rw [up2_ne (by decide)]; exact h9 j e a, fun q a => by rw [up2_ne (by decide)]; exact hA q a⟩
theorem rst_push {w : Nat} (hw : w < 128) (h : rst f c I0 I p W n cs) : rst f c I0 (up2 (up2 I 88 W.length (nI w)) 77 25 (nI (W.length + 1))) p (w :: W) n cs := by
  obtain ⟨h1, h2, h3, h4, h5, h6, h7, h8, h9, hA⟩ := h
  refine ⟨fun j a b c e => by rw [up2_ne a, up2_ne e]; exact h1 j a b c e, fun q a b c e g => by rw [up2_42 e, up2_ne (by decide)]; exact h2 q a b c e g, by rw [up2_42 (by decide), up2_ne (by decide)]; exact h3, by rw [up2_42 (by decide), up2_ne (by decide)]; exact h4, up2_e, by rw [up2_42 (by decide), up2_ne (by decide)]; exact h6, ?_, fun j a => by rw [up2_ne (by decide), up2_ne (by decide)]; exact h8 j a, fun j e a => by rw [up2_ne (by decide), up2_ne (by decide)]; exact h9 j e a, fun q a => by rw [up2_ne (by decide), up2_ne (by decide)]; exact hA q a⟩
  rw [up2_ne (show 88 ≠ 77 by decide)]
  have e : up2 I 88 W.length (nI w) 88 = fun q => if q = W.length then nI w else I 88 q := funext fun q => up2_at
  rw [e]
  exact ⟨if_pos rfl, hw, stR_w h7 (Nat.le_refl _)⟩
theorem rst_c {e : Nat} (h : rst f c I0 I p W n cs) : rst f c I0 (up2 (up2 I 87 (100 * f + cs.length) (rcI e)) 77 24 (nI (100 * f + cs.length + 1))) p W n (cs ++ [e]) := by
  obtain ⟨h1, h2, h3, h4, h5, h6, h7, h8, h9, hA⟩ := h
  refine ⟨fun j a b c e => by rw [up2_ne a, up2_ne c]; exact h1 j a b c e, fun q a b c e g => by rw [up2_42 c, up2_ne (by decide)]; exact h2 q a b c e g, by rw [up2_42 (by decide), up2_ne (by decide)]; exact h3, by rw [up2_e, List.length_append]; rfl, by rw [up2_42 (by decide), up2_ne (by decide)]; exact h5, by rw [up2_42 (by decide), up2_ne (by decide)]; exact h6, by rw [up2_ne (by decide), up2_ne (by decide)]; exact h7, fun j a => by rw [up2_ne (by decide), up2_42 (by omega)]; exact h8 j a, fun j z a => ?_, fun q a => by rw [up2_ne (by decide), up2_ne (by decide)]; exact hA q a⟩
  rw [up2_ne (by decide), up2_at]
  by_cases hj : j = cs.length
  · rw [if_pos (by omega)]
    subst hj
    rw [List.getElem?_append_right (Nat.le_refl _), Nat.sub_self] at a
    have e2 : e = z := Option.some.inj a
    rw [e2]
  · rw [if_neg (by omega)]
    refine h9 j z ?_
    have hl : j < (cs ++ [e]).length := (List.getElem?_eq_some_iff.mp a).1
    rw [List.length_append] at hl
    have hl : j < cs.length + 1 := hl
    rw [List.getElem?_append_left (by omega)] at a
    exact a
theorem rf_next (hT : rtx T len I0) (hS : rst f c I0 I p W n cs) (hp31 : p < 2 ^ 30) (K : ∀ x, sgX x (T p) → P (some (.int x)) (aHp r rr I J)) : aCl L xs fv 111 (d + 1) 103 [.ref 77] (aHp r rr I J) P := by
  obtain ⟨⟨t1, t2, t3⟩, t4, t5⟩ := hT
  obtain ⟨h1, h2, h3, h4, h5, h6⟩ := hS
  have h12 : I 77 12 = nI len := by rw [h2 12 (by decide) (by decide) (by decide) (by decide) (by decide)]; exact t4
  refine cl_of rfl (Nat.le_add_right _ _) ?_
  refine go_v (cd := cd103) [] 20 rfl ?_
  by_cases hp : p < len
  · refine go_st (cd := cd103) 1 rfl (go_ifF (show ¬ I 77 12 ≤ I 77 13 by rw [h12, h3]; exact nI_ge hp (by omega)) ?_)
    refine go_v (cd := cd103) [] 20 rfl ?_
    show aTo L xs fv 111 _ cd103 (19, _, [.int (I 77 13), .ref 80], aHp r rr I J) _
    rw [h3]
    refine go_iald (cd := cd103) rfl (nI_vin (n := 100) (by omega) (by decide)) (lv3 rfl) rfl ?_
    rw [nI_clamp (show p < 2 ^ 31 by omega), h1 80 (by decide) (by decide) (by decide) (by decide), t5 p hp]
    refine go_v (cd := cd103) [] 20 rfl ?_
    exact go_ireturn (cd := cd103) rfl (K _ (sg_r (t2 p hp)))
  · refine go_st (cd := cd103) 1 rfl (go_ifT (show I 77 12 ≤ I 77 13 by rw [h12, h3]; exact nI_le (by omega) (by omega)) ?_)
    refine go_v (cd := cd103) [] 20 rfl ?_
    refine go_ireturn (cd := cd103) rfl (K _ ?_)
    rw [t3 p (by omega)]
    exact Or.inr (by decide)
theorem rf_sign {z : Nat} {C : Int32} (hT : rtx T len I0) (hS : rst f c I0 I p W n cs) (hp31 : p < 2 ^ 30) (hC : C = nI z) (hc : z < 128) (K1 : T p = z → ∀ I', rst f c I0 I' (p + 1) W n cs → (∀ j, j ≠ 77 → I' j = I j) → P (some (.int 1)) (aHp r rr I' J)) (K0 : T p ≠ z → P (some (.int 0)) (aHp r rr I J)) : aCl L xs fv 111 (d + 2) 104 [.ref 77, .int C] (aHp r rr I J) P := by
  refine cl_of rfl (Nat.le_add_right _ _) ?_
  refine go_v (cd := cd104) [] 20 rfl ?_
  refine go_callv (cd := cd104) rfl rfl rfl rfl rfl (lv3 rfl) rfl (rf_next hT hS hp31 (fun x hx => ⟨rfl, ?_⟩))
  refine go_v (cd := cd104) [] 20 rfl ?_
  by_cases ht : T p = z
  · refine go_st (cd := cd104) 1 rfl (go_ifT ((sg_eq hx hC hc).mpr ht) ?_)
    refine go_v (cd := cd104) [] 20 rfl ?_
    show aTo L xs fv 111 _ cd104 (21, _, [.int 1], aHp r rr (up2 I 77 13 (I 77 13 + 1)) J) _
    rw [hS.2.2.1, ← nI_succ]
    exact go_zreturn (cd := cd104) rfl (Or.inr rfl) (K1 ht _ (rst_p hS) (fun j hj => up2_ne hj))
  · refine go_st (cd := cd104) 1 rfl (go_ifF (fun h => ht ((sg_eq hx hC hc).mp h)) ?_)
    refine go_v (cd := cd104) [] 20 rfl ?_
    exact go_zreturn (cd := cd104) rfl (Or.inl rfl) (K0 ht)
theorem rf_isDigit (hT : rtx T len I0) (hS : rst f c I0 I p W n cs) (hp31 : p < 2 ^ 30) (K1 : 48 ≤ T p ∧ T p ≤ 57 → P (some (.int 1)) (aHp r rr I J)) (K0 : ¬ (48 ≤ T p ∧ T p ≤ 57) → P (some (.int 0)) (aHp r rr I J)) : aCl L xs fv 111 (d + 2) 106 [.ref 77] (aHp r rr I J) P := by
  refine cl_of rfl (Nat.le_add_right _ _) ?_
  refine go_v (cd := cd106) [] 20 rfl ?_
  refine go_callv (cd := cd106) rfl rfl rfl rfl rfl (lv3 rfl) rfl (rf_next hT hS hp31 (fun x hx => ⟨rfl, ?_⟩))
  have hi := sg_in (a := 48) (b := 57) (A := 48) (B := 57) hx rfl rfl (by decide) (by decide)
  refine go_v (cd := cd106) [] 20 rfl ?_
  refine go_callv (cd := cd106) rfl rfl rfl rfl rfl (lv3 rfl) rfl (cl_in (fun hq => ⟨rfl, ?_⟩) (fun hq => ⟨rfl, ?_⟩))
  · exact go_zreturn (cd := cd106) rfl (Or.inr rfl) (K1 (hi.mp hq))
  · exact go_zreturn (cd := cd106) rfl (Or.inl rfl) (K0 (fun h => hq (hi.mpr h)))
theorem rf_num (hT : rtx T len I0) (hS : rst f c I0 I p W n cs) (hp31 : p < 2 ^ 29) (K1 : ∀ I' v q, pN T p = some (v, q) → rst f c I0 I' q W n cs → (∀ j, j ≠ 77 → I' j = I j) → I' 77 14 = nI v → P (some (.int 1)) (aHp r rr I' J)) (K0 : pN T p = none → P (some (.int 0)) (aHp r rr I J)) : aCl L xs fv 111 (d + 3) 107 [.ref 77] (aHp r rr I J) P := by
  refine cl_of rfl (Nat.le_add_right _ _) ?_
  refine go_v (cd := cd107) [] 20 rfl ?_
  refine go_callv (cd := cd107) rfl rfl rfl rfl rfl (lv3 rfl) rfl (rf_isDigit hT hS (by omega) (fun hd => ⟨rfl, ?_⟩) (fun hd => ⟨rfl, ?_⟩))
  case refine_2 =>
    refine go_st (cd := cd107) 1 rfl (go_ifT rfl ?_)
    refine go_v (cd := cd107) [] 20 rfl ?_
    exact go_zreturn (cd := cd107) rfl (Or.inl rfl) (K0 (if_neg hd))
  refine go_st (cd := cd107) 1 rfl (go_ifF (by decide) ?_)
  refine go_v (cd := cd107) [16] 20 rfl ?_
  have hS1 : rst f c I0 (up2 I 77 14 0) p W n cs := rst_d hS
  have h14 : up2 I 77 14 0 77 14 = 0 := up2_e
  have ho1 : ∀ j, j ≠ 77 → up2 I 77 14 0 j = I j := fun j hj => up2_ne hj
  show aTo L xs fv 111 _ cd107 (16, _, [], aHp r rr (up2 I 77 14 0) J) _
  generalize up2 I 77 14 0 = I1 at *
  refine go_v (cd := cd107) [] 20 rfl ?_
  refine go_st (cd := cd107) 1 rfl (go_ifF (by decide) ?_)
  refine go_v (cd := cd107) [] 20 rfl ?_
  refine go_callv (cd := cd107) rfl rfl rfl rfl rfl (lv3 rfl) rfl (rf_isDigit hT hS1 (by omega) (fun _ => ⟨rfl, ?_⟩) (fun h => absurd hd h))
  refine go_st (cd := cd107) 1 rfl (go_ifF (by decide) ?_)
  refine go_v (cd := cd107) [] 20 rfl ?_
  refine go_callv (cd := cd107) rfl rfl rfl rfl rfl (lv3 rfl) rfl (rf_next hT hS1 (by omega) (fun x hx => ⟨rfl, ?_⟩))
  have hxe := (sg_dig (m := 9) hx rfl (Nat.le_refl _)).2 hd
  refine go_v (cd := cd107) [57] 20 rfl ?_
  show aTo L xs fv 111 _ cd107 (57, _, [], aHp r rr (up2 (up2 I1 77 14 (10 * I1 77 14 + x - 48)) 77 13 (I1 77 13 + 1)) J) _
  rw [h14, hS1.2.2.1, ← nI_succ, show 10 * (0 : Int32) + x - 48 = nI (T p - 48) from by rw [← hxe]; grind]
  have hS2 : rst f c I0 (up2 (up2 I1 77 14 (nI (T p - 48))) 77 13 (nI (p + 1))) (p + 1) W n cs := rst_p (rst_d hS1)
  have h142 : up2 (up2 I1 77 14 (nI (T p - 48))) 77 13 (nI (p + 1)) 77 14 = nI (T p - 48) := by rw [up2_42 (by decide), up2_e]
  have ho2 : ∀ j, j ≠ 77 → up2 (up2 I1 77 14 (nI (T p - 48))) 77 13 (nI (p + 1)) j = I j := fun j hj => by rw [up2_ne hj, up2_ne hj]; exact ho1 j hj
  generalize up2 (up2 I1 77 14 (nI (T p - 48))) 77 13 (nI (p + 1)) = I2 at *
  refine go_v (cd := cd107) [16] 20 rfl ?_
  refine go_sb ?_ (l' := [(1, .int 1), (0, .ref 77)]) ⟨rfl, rfl, trivial⟩ rfl rfl rfl
  refine go_v (cd := cd107) [] 20 rfl ?_
  refine go_st (cd := cd107) 1 rfl (go_ifF (by decide) ?_)
  refine go_v (cd := cd107) [] 20 rfl ?_
  have h63 : ∀ ls, pN T p = some (T p - 48, p + 1) → aTo L xs fv 111 (d + 2) cd107 (63, ls, [], aHp r rr I2 J) P := fun ls h => by
    refine go_v (cd := cd107) [] 20 rfl ?_
    exact go_zreturn (cd := cd107) rfl (Or.inr rfl) (K1 I2 _ _ h hS2 ho2 h142)
  refine go_callv (cd := cd107) rfl rfl rfl rfl rfl (lv3 rfl) rfl (rf_isDigit hT hS2 (by omega) (fun hd2 => ⟨rfl, ?_⟩) (fun hd2 => ⟨rfl, ?_⟩))
  case refine_2 =>
    refine go_st (cd := cd107) 1 rfl (go_ifT rfl ?_)
    refine h63 _ ?_
    unfold pN
    rw [if_pos hd, if_neg hd2]
  refine go_st (cd := cd107) 1 rfl (go_ifF (by decide) ?_)
  refine go_v (cd := cd107) [] 20 rfl ?_
  refine go_callv (cd := cd107) rfl rfl rfl rfl rfl (lv3 rfl) rfl (rf_next hT hS2 (by omega) (fun y hy => ⟨rfl, ?_⟩))
  have hye := (sg_dig (m := 9) hy rfl (Nat.le_refl _)).2 hd2
  refine go_v (cd := cd107) [57] 20 rfl ?_
  show aTo L xs fv 111 _ cd107 (57, _, [], aHp r rr (up2 (up2 I2 77 14 (10 * I2 77 14 + y - 48)) 77 13 (I2 77 13 + 1)) J) _
  rw [h142, hS2.2.2.1, ← nI_succ, show 10 * nI (T p - 48) + y - 48 = nI (10 * (T p - 48) + (T (p + 1) - 48)) from by
    rw [show 10 * nI (T p - 48) + y - 48 = 10 * nI (T p - 48) + (y - 48) by grind, hye, show (10 : Int32) = nI 10 from rfl, nI_mul, nI_add]]
  have hS3 : rst f c I0 (up2 (up2 I2 77 14 (nI (10 * (T p - 48) + (T (p + 1) - 48)))) 77 13 (nI (p + 1 + 1))) (p + 2) W n cs := rst_p (rst_d hS2)
  refine go_v (cd := cd107) [16] 20 rfl ?_
  refine go_sb ?_ (l' := [(1, .int 2), (0, .ref 77)]) ⟨rfl, rfl, trivial⟩ rfl rfl rfl
  refine go_v (cd := cd107) [] 20 rfl ?_
  refine go_st (cd := cd107) 1 rfl (go_ifT (by decide) ?_)
  refine go_v (cd := cd107) [] 20 rfl ?_
  refine go_zreturn (cd := cd107) rfl (Or.inr rfl) (K1 _ (10 * (T p - 48) + (T (p + 1) - 48)) (p + 2) ?_ hS3 (fun j hj => by rw [up2_ne hj, up2_ne hj]; exact ho2 j hj) ?_)
  · unfold pN
    rw [if_pos hd, if_pos hd2]
  · rw [up2_42 (by decide), up2_e]
theorem rf_put {e : Nat} {C : Int32} (hf : f < 5) (hS : rst f c I0 I p W n cs) (hC : C = rcI e) (hl : cs.length < 100) (K : ∀ I', I' 77 14 = I 77 14 → I' 86 = I 86 → rst f c I0 I' p W n (cs ++ [e]) → P none (aHp r rr I' J)) : aCl L xs fv 111 (d + 1) 108 [.ref 77, .int C] (aHp r rr I J) P := by
  subst hC
  refine cl_of rfl (Nat.le_add_right _ _) ?_
  refine go_v (cd := cd108) [] 20 rfl ?_
  show aTo L xs fv 111 _ cd108 (9, _, [.int (rcI e), .int (I 77 24), .ref 87], aHp r rr I J) _
  rw [hS.2.2.2.1]
  refine go_iast (cd := cd108) rfl (nI_vin (n := 500) (by omega) (by decide)) (lv3 rfl) rfl ?_
  rw [nI_clamp (show 100 * f + cs.length < 2 ^ 31 by omega)]
  refine go_v (cd := cd108) [] 20 rfl ?_
  show aTo L xs fv 111 _ cd108 (20, _, [], aHp r rr (up2 (up2 I 87 (100 * f + cs.length) (rcI e)) 77 24 (I 77 24 + 1)) J) _
  rw [hS.2.2.2.1, ← nI_succ]
  exact go_return (cd := cd108) rfl (K _ (by rw [up2_42 (by decide), up2_ne (by decide)]) (by rw [up2_ne (by decide), up2_ne (by decide)]) (rst_c hS))
theorem rf_nots (hf : f < 5) : ∀ (W : List Nat) (n : Nat) (cs : List Nat) (I : Nat → Nat → Int32) (P : Option Value → aH → Prop), rst f c I0 I p W n cs → W.length ≤ 100 → ldN W ≤ n → n ≤ 4 → cs.length + ldN W ≤ 100 → (∀ I', I' 86 = I 86 → rst f c I0 I' p (dpN W) (n - ldN W) (cs ++ List.replicate (ldN W) 2000) → P none (aHp r rr I' J)) → aTo L xs fv 111 (d + 1) cd109 (0, [(0, .ref 77)], [], aHp r rr I J) P
  | [], n, cs, I, P, hS, hWl, hn, hn4, hl, K => by
    refine go_v (cd := cd109) [] 20 rfl ?_
    refine go_st (cd := cd109) 1 rfl (go_ifT (show I 77 25 ≤ 0 by rw [hS.2.2.2.2.1]; decide) ?_)
    refine go_return (cd := cd109) rfl (K I rfl ?_)
    show rst f c I0 I p [] (n - 0) (cs ++ [])
    rw [List.append_nil]
    exact hS
  | w :: W, n, cs, I, P, hS, hWl, hn, hn4, hl, K => by
    have hWl : W.length + 1 ≤ 100 := hWl
    have h25 : I 77 25 = nI (W.length + 1) := hS.2.2.2.2.1
    have htop : I 88 W.length = nI w := hS.2.2.2.2.2.2.1.1
    refine go_v (cd := cd109) [] 20 rfl ?_
    refine go_st (cd := cd109) 1 rfl (go_ifF (show ¬ I 77 25 ≤ 0 by rw [h25]; exact nI_nle (Nat.succ_pos _) (by omega)) ?_)
    refine go_v (cd := cd109) [] 20 rfl ?_
    show aTo L xs fv 111 _ cd109 (17, _, [.int (I 77 25 - 1), .ref 88], aHp r rr I J) _
    rw [h25, nI_pred]
    refine go_iald (cd := cd109) rfl (nI_vin (n := 101) (by omega) (by decide)) (lv3 rfl) rfl ?_
    rw [nI_clamp (show W.length < 2 ^ 31 by omega), htop]
    refine go_v (cd := cd109) [] 20 rfl ?_
    by_cases hw : w = 33
    · subst hw
      have e1 : ldN (33 :: W) = ldN W + 1 := rfl
      rw [e1] at hn hl K
      have e2 : dpN (33 :: W) = dpN W := rfl
      rw [e2] at K
      refine go_st (cd := cd109) 1 rfl (go_ifT rfl ?_)
      refine go_v (cd := cd109) [] 20 rfl ?_
      refine go_callv (cd := cd109) rfl rfl rfl rfl rfl (lv3 rfl) rfl (rf_put (d := d) (e := 2000) hf hS (by decide) (by omega) (fun I1 _ h86 hS1 => ⟨rfl, ?_⟩))
      refine go_v (cd := cd109) [0] 40 rfl ?_
      have h251 : I1 77 25 = nI (W.length + 1) := hS1.2.2.2.2.1
      have h261 : I1 77 26 = nI n := hS1.2.2.2.2.2.1
      obtain ⟨n, rfl⟩ : ∃ n', n = n' + 1 := ⟨n - 1, by omega⟩
      show aTo L xs fv 111 _ cd109 (0, _, [], aHp r rr (up2 (up2 I1 77 25 (I1 77 25 - 1)) 77 26 (I1 77 26 - 1)) J) _
      rw [h251, h261, nI_pred, nI_pred]
      refine rf_nots hf W n (cs ++ [2000]) _ P (rst_n (rst_w hS1)) (by omega) (by omega) (by omega) (by rw [List.length_append]; show cs.length + 1 + _ ≤ _; omega) (fun I' h86' hS' => K I' (by rw [h86', up2_ne (by decide), up2_ne (by decide)]; exact h86) ?_)
      rw [show n + 1 - (ldN W + 1) = n - ldN W by omega]
      rw [List.append_assoc] at hS'
      exact hS'
    · have e1 : ldN (w :: W) = 0 := if_neg hw
      have e2 : dpN (w :: W) = w :: W := if_neg hw
      rw [e1, e2] at K
      have hw128 : w < 128 := hS.2.2.2.2.2.2.1.2.1
      refine go_st (cd := cd109) 1 rfl (go_ifF (fun h => hw ((nI_eq (b := 33) (by omega) (by decide)).mp h)) ?_)
      refine go_return (cd := cd109) rfl (K I rfl ?_)
      show rst f c I0 I p (w :: W) (n - 0) (cs ++ [])
      rw [List.append_nil]
      exact hS
theorem rf_settle {s : Nat} {S : Int32} (hf : f < 5) (hSS : S = nI s) (hs : s < 128) : ∀ (W : List Nat) (cs : List Nat) (I : Nat → Nat → Int32) (P : Option Value → aH → Prop), rst f c I0 I p W n cs → W.length ≤ 100 → cs.length + (slC s W).length ≤ 100 → (∀ I', I' 86 = I 86 → rst f c I0 I' p (slW s W) n (cs ++ slC s W) → P none (aHp r rr I' J)) → aTo L xs fv 111 (d + 1) cd110 (0, [(0, .ref 77), (1, .int S)], [], aHp r rr I J) P
  | [], cs, I, P, hS, hWl, hl, K => by
    refine go_v (cd := cd110) [] 20 rfl ?_
    refine go_st (cd := cd110) 1 rfl (go_ifT (show I 77 25 ≤ 0 by rw [hS.2.2.2.2.1]; decide) ?_)
    refine go_return (cd := cd110) rfl (K I rfl ?_)
    show rst f c I0 I p [] n (cs ++ [])
    rw [List.append_nil]
    exact hS
  | w :: W, cs, I, P, hS, hWl, hl, K => by
    have hWl : W.length + 1 ≤ 100 := hWl
    have h25 : I 77 25 = nI (W.length + 1) := hS.2.2.2.2.1
    have htop : I 88 W.length = nI w := hS.2.2.2.2.2.2.1.1
    have hw128 : w < 128 := hS.2.2.2.2.2.2.1.2.1
    have h72 : ¬ (w = 38 ∨ (w = 124 ∧ s ≠ 38)) → aTo L xs fv 111 (d + 1) cd110 (72, [(0, .ref 77), (1, .int S)], [], aHp r rr I J) P := fun h => by
      have e1 : slC s (w :: W) = [] := if_neg h
      have e2 : slW s (w :: W) = w :: W := if_neg h
      rw [e1, e2, List.append_nil] at K
      exact go_return (cd := cd110) rfl (K I rfl hS)
    have h45 : (w = 38 ∨ (w = 124 ∧ s ≠ 38)) → aTo L xs fv 111 (d + 1) cd110 (45, [(0, .ref 77), (1, .int S)], [], aHp r rr I J) P := fun h => by
      have e1 : slC s (w :: W) = (if w = 38 then 2001 else 2002) :: slC s W := if_pos h
      have e2 : slW s (w :: W) = slW s W := if_pos h
      rw [e1, e2] at K
      rw [e1] at hl
      have hl : cs.length + ((slC s W).length + 1) ≤ 100 := hl
      refine go_v (cd := cd110) [55] 40 rfl ?_
      show aTo L xs fv 111 _ cd110 (55, _, [], aHp r rr (up2 I 77 25 (I 77 25 - 1)) J) _
      rw [h25, nI_pred]
      have hS1 : rst f c I0 (up2 I 77 25 (nI W.length)) p W n cs := rst_w hS
      have h86 : up2 I 77 25 (nI W.length) 86 = I 86 := up2_ne (by decide)
      have h88 : up2 I 77 25 (nI W.length) 88 W.length = nI w := by rw [up2_ne (by decide)]; exact htop
      generalize up2 I 77 25 (nI W.length) = I1 at *
      have h251 : I1 77 25 = nI W.length := hS1.2.2.2.2.1
      refine go_v (cd := cd110) [] 40 rfl ?_
      show aTo L xs fv 111 _ cd110 (64, _, [.int (I1 77 25), .ref 88, .ref 77], aHp r rr I1 J) _
      rw [h251]
      refine go_iald (cd := cd110) rfl (nI_vin (n := 101) (by omega) (by decide)) (lv3 rfl) rfl ?_
      rw [nI_clamp (show W.length < 2 ^ 31 by omega), h88]
      refine go_v (cd := cd110) [] 40 rfl ?_
      refine go_callv (cd := cd110) rfl rfl rfl rfl rfl (lv3 rfl) rfl (rf_put (d := d) (e := if w = 38 then 2001 else 2002) hf hS1 ?_ (by omega) (fun I2 _ h86' hS2 => ⟨rfl, ?_⟩))
      · rcases h with h | h
        · rw [h]; decide
        · rw [h.1]; decide
      · refine go_v (cd := cd110) [0] 40 rfl ?_
        refine rf_settle hf hSS hs W (cs ++ [if w = 38 then 2001 else 2002]) I2 P hS2 (by omega) (by rw [List.length_append]; show cs.length + 1 + _ ≤ _; omega) (fun I' h86'' hS' => K I' (by rw [h86'', h86']; exact h86) ?_)
        rw [List.append_assoc] at hS'
        exact hS'
    refine go_v (cd := cd110) [] 20 rfl ?_
    refine go_st (cd := cd110) 1 rfl (go_ifF (show ¬ I 77 25 ≤ 0 by rw [h25]; exact nI_nle (Nat.succ_pos _) (by omega)) ?_)
    refine go_v (cd := cd110) [] 20 rfl ?_
    show aTo L xs fv 111 _ cd110 (17, _, [.int (I 77 25 - 1), .ref 88], aHp r rr I J) _
    rw [h25, nI_pred]
    refine go_iald (cd := cd110) rfl (nI_vin (n := 101) (by omega) (by decide)) (lv3 rfl) rfl ?_
    rw [nI_clamp (show W.length < 2 ^ 31 by omega), htop]
    refine go_v (cd := cd110) [] 20 rfl ?_
    by_cases hw : w = 38
    · refine go_st (cd := cd110) 1 rfl (go_ifT (by rw [hw]; rfl) ?_)
      exact h45 (Or.inl hw)
    refine go_st (cd := cd110) 1 rfl (go_ifF (fun h => hw ((nI_eq (b := 38) (by omega) (by decide)).mp h)) ?_)
    refine go_v (cd := cd110) [] 20 rfl ?_
    show aTo L xs fv 111 _ cd110 (33, _, [.int (I 77 25 - 1), .ref 88], aHp r rr I J) _
    rw [h25, nI_pred]
    refine go_iald (cd := cd110) rfl (nI_vin (n := 101) (by omega) (by decide)) (lv3 rfl) rfl ?_
    rw [nI_clamp (show W.length < 2 ^ 31 by omega), htop]
    refine go_v (cd := cd110) [] 20 rfl ?_
    by_cases hw2 : w = 124
    case neg =>
      refine go_st (cd := cd110) 1 rfl (go_ifF (fun h => hw2 ((nI_eq (b := 124) (by omega) (by decide)).mp h)) ?_)
      exact h72 (fun h => by rcases h with h | h <;> omega)
    refine go_st (cd := cd110) 1 rfl (go_ifT (by rw [hw2]; rfl) ?_)
    refine go_v (cd := cd110) [] 20 rfl ?_
    by_cases hs38 : s = 38
    · refine go_st (cd := cd110) 1 rfl (go_ifT (by rw [hSS, hs38]; rfl) ?_)
      exact h72 (fun h => by rcases h with h | h <;> omega)
    · refine go_st (cd := cd110) 1 rfl (go_ifF (by rw [hSS]; exact fun h => hs38 ((nI_eq (b := 38) (by omega) (by decide)).mp h)) ?_)
      exact h45 (Or.inr ⟨hw2, hs38⟩)
theorem rf_place {x : Int32} {t : Nat} (hx : sgX x t) (K : P (some (.int (match leT t with | none => -1 | some l => nI l))) (aHp r rr I J)) : aCl L xs fv 111 (d + 1) 111 [.ref 77, .int x] (aHp r rr I J) P := by
  refine cl_of rfl (Nat.le_add_right _ _) ?_
  refine go_v (cd := cd111) [] 20 rfl ?_
  refine go_lk (cd := cd111) rfl ⟨fun h => ?_, fun h1 => ⟨fun h => ?_, fun h2 => ⟨fun h => ?_, fun h3 => ⟨fun h => ?_, fun h4 => ?_⟩⟩⟩⟩
  · have e := (sg_ti (c := 104) hx rfl (by decide)).mp h
    subst e
    refine go_v (cd := cd111) [] 20 rfl ?_
    exact go_ireturn (cd := cd111) rfl K
  · have e := (sg_ti (c := 115) hx rfl (by decide)).mp h
    subst e
    refine go_v (cd := cd111) [] 20 rfl ?_
    exact go_ireturn (cd := cd111) rfl K
  · have e := (sg_ti (c := 116) hx rfl (by decide)).mp h
    subst e
    refine go_v (cd := cd111) [] 20 rfl ?_
    exact go_ireturn (cd := cd111) rfl K
  · have e := (sg_ti (c := 119) hx rfl (by decide)).mp h
    subst e
    refine go_v (cd := cd111) [] 20 rfl ?_
    exact go_ireturn (cd := cd111) rfl K
  · have e : leT t = none := by
      unfold leT
      rw [if_neg (fun e => h2 ((sg_ti (c := 115) hx rfl (by decide)).mpr e)), if_neg (fun e => h1 ((sg_ti (c := 104) hx rfl (by decide)).mpr e)), if_neg (fun e => h4 ((sg_ti (c := 119) hx rfl (by decide)).mpr e)), if_neg (fun e => h3 ((sg_ti (c := 116) hx rfl (by decide)).mpr e))]
    rw [e] at K
    refine go_v (cd := cd111) [] 20 rfl ?_
    exact go_ireturn (cd := cd111) rfl K
theorem rcI_t {l o v : Nat} (h1 : l ≤ 3) (h2 : o ≤ 2) (h3 : v ≤ 99) : rcI (300 * l + 100 * o + v) = nI (1000 * l + 100 * o + v) := by
  unfold rcI
  rw [if_neg (by omega), if_neg (by omega), if_neg (by omega)]
  congr 1
  omega
set_option maxHeartbeats 4000000 in
theorem rf_test (hf : f < 5) (hT : rtx T len I0) (hS : rst f c I0 I p W n cs) (hp : p ≤ len) (hcs : cs.length + ldN W ≤ p) (hW : W.length ≤ 100) (hnW : ldN W ≤ n) (hn4 : n ≤ 4) (K1 : ∀ I' q e, pT T p = (q, some [e]) → rst f c I0 I' q (dpN W) (n - ldN W) (cs ++ [e] ++ List.replicate (ldN W) 2000) → P (some (.int 1)) (aHp r rr I' J)) (K0 : ∀ I' q, pT T p = (q, none) → rst f c I0 I' q W n cs → P (some (.int 0)) (aHp r rr I' J)) : aCl L xs fv 111 (d + 4) 112 [.ref 77] (aHp r rr I J) P := by
  have hl100 := hT.1.1
  refine cl_of rfl (Nat.le_add_right _ _) ?_
  refine go_v (cd := cd112) [] 20 rfl ?_
  refine go_callv (cd := cd112) rfl rfl rfl rfl rfl (lv3 rfl) rfl (rf_next hT hS (by omega) (fun x hx => ⟨rfl, ?_⟩))
  refine go_callv (cd := cd112) rfl rfl rfl rfl rfl (lv3 rfl) rfl (rf_place hx ⟨rfl, ?_⟩)
  refine go_v (cd := cd112) [] 20 rfl ?_
  cases hl : leT (T p) with
  | none =>
    refine go_st (cd := cd112) 1 rfl (go_ifF (by decide) ?_)
    refine go_v (cd := cd112) [] 20 rfl ?_
    refine go_zreturn (cd := cd112) rfl (Or.inl rfl) (K0 I p ?_ hS)
    unfold pT
    rw [hl]
  | some l =>
  have hl3 := (leT_lt hl).1
  have hpl : p < len := txt_lt hT.1 (by have := (leT_lt hl).2; omega)
  refine go_st (cd := cd112) 1 rfl (go_ifT (nI_pos' (n := l) (by omega)) ?_)
  refine go_v (cd := cd112) [25] 20 rfl ?_
  show aTo L xs fv 111 _ cd112 (25, _, [], aHp r rr (up2 I 77 13 (I 77 13 + 1)) J) _
  rw [hS.2.2.1, ← nI_succ]
  have hS1 : rst f c I0 (up2 I 77 13 (nI (p + 1))) (p + 1) W n cs := rst_p hS
  generalize up2 I 77 13 (nI (p + 1)) = I1 at *
  refine go_sb ?_ (l' := [(1, .int (nI l)), (0, .ref 77)]) ⟨rfl, rfl, trivial⟩ rfl rfl rfl
  refine go_v (cd := cd112) [] 20 rfl ?_
  refine go_callv (cd := cd112) rfl rfl rfl rfl rfl (lv3 rfl) rfl (rf_next hT hS1 (by omega) (fun y hy => ⟨rfl, ?_⟩))
  have hio := sg_in (a := 60) (b := 62) (A := 60) (B := 62) hy rfl rfl (by decide) (by decide)
  refine go_v (cd := cd112) [] 20 rfl ?_
  refine go_callv (cd := cd112) rfl rfl rfl rfl rfl (lv3 rfl) rfl (cl_in (fun hq => ⟨rfl, ?_⟩) (fun hq => ⟨rfl, ?_⟩))
  case refine_2 =>
    have ho := fun h => hq (hio.mpr h)
    refine go_st (cd := cd112) 1 rfl (go_ifT rfl ?_)
    refine go_v (cd := cd112) [] 20 rfl ?_
    refine go_zreturn (cd := cd112) rfl (Or.inl rfl) (K0 I1 (p + 1) ?_ hS1)
    unfold pT
    rw [hl]
    dsimp only
    rw [if_neg ho]
  have ho := hio.mp hq
  have hye : y = nI (T (p + 1)) := by
    rcases hy with h | h
    · exact h.2
    · omega
  refine go_st (cd := cd112) 1 rfl (go_ifF (by decide) ?_)
  refine go_v (cd := cd112) [54] 20 rfl ?_
  show aTo L xs fv 111 _ cd112 (54, _, [], aHp r rr (up2 I1 77 13 (I1 77 13 + 1)) J) _
  rw [hS1.2.2.1, ← nI_succ]
  have hS2 : rst f c I0 (up2 I1 77 13 (nI (p + 1 + 1))) (p + 2) W n cs := rst_p hS1
  generalize up2 I1 77 13 (nI (p + 1 + 1)) = I2 at *
  refine go_sb ?_ (l' := [(2, .int y), (1, .int (nI l)), (0, .ref 77)]) ⟨rfl, rfl, rfl, trivial⟩ rfl rfl rfl
  refine go_v (cd := cd112) [] 20 rfl ?_
  refine go_callv (cd := cd112) rfl rfl rfl rfl rfl (lv3 rfl) rfl (rf_num hT hS2 (by omega) (fun I3 v q hn hS3 _ h14 => ⟨rfl, ?_⟩) (fun hn => ⟨rfl, ?_⟩))
  case refine_2 =>
    refine go_st (cd := cd112) 1 rfl (go_ifT rfl ?_)
    refine go_v (cd := cd112) [] 20 rfl ?_
    refine go_zreturn (cd := cd112) rfl (Or.inl rfl) (K0 I2 (p + 2) ?_ hS2)
    unfold pT
    rw [hl]
    dsimp only
    rw [if_pos ho, hn]
  have hv99 := pN_ok hT.1 hn
  refine go_st (cd := cd112) 1 rfl (go_ifF (by decide) ?_)
  refine go_v (cd := cd112) [] 40 rfl ?_
  show aTo L xs fv 111 _ cd112 (82, _, [.int (1000 * nI l + 100 * (y - 60) + I3 77 14), .ref 77], aHp r rr I3 J) _
  rw [h14, hye, show (60 : Int32) = nI 60 from rfl, nI_sub ho.1, show 1000 * nI l + 100 * nI (T (p + 1) - 60) + nI v = nI (1000 * l + 100 * (T (p + 1) - 60) + v) from by
    rw [show (1000 : Int32) = nI 1000 from rfl, show (100 : Int32) = nI 100 from rfl, nI_mul, nI_mul, nI_add, nI_add]]
  refine go_callv (cd := cd112) rfl rfl rfl rfl rfl (lv3 rfl) rfl (rf_put (d := d + 2) (e := 300 * l + 100 * (T (p + 1) - 60) + v) hf hS3 (rcI_t hl3 (by omega) hv99.2.2).symm (by omega) (fun I4 _ _ hS4 => ⟨rfl, ?_⟩))
  refine go_v (cd := cd112) [] 20 rfl ?_
  refine go_callv (cd := cd112) rfl rfl rfl rfl rfl (lv3 rfl) rfl (cl_of rfl (Nat.le_add_right _ _) (rf_nots (d := d + 1) hf W n (cs ++ [300 * l + 100 * (T (p + 1) - 60) + v]) I4 _ hS4 hW hnW hn4 (by rw [List.length_append]; show cs.length + 1 + _ ≤ _; omega) (fun I5 _ hS5 => ⟨rfl, ?_⟩)))
  refine go_v (cd := cd112) [] 20 rfl ?_
  refine go_zreturn (cd := cd112) rfl (Or.inr rfl) (K1 I5 q (300 * l + 100 * (T (p + 1) - 60) + v) ?_ hS5)
  unfold pT
  rw [hl]
  dsimp only
  rw [if_pos ho, hn]
end RP
