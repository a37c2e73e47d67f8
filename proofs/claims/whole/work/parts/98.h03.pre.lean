/-! acts: bodies that run, on both sides -/
def bdy (cc ck a : Nat) : (Nat → Nat → Int32) → Nat → List Int32 → (Nat → Nat → Int32)
  | I, _, [] => I
  | I, c, b :: l => bdy cc ck a (up2 (up2 I a c b) cc ck (nI (c + 1))) (c + 1) l
theorem bdy_o {cc ck a j : Nat} (h1 : j ≠ cc) (h2 : j ≠ a) : ∀ (l : List Int32) (I : Nat → Nat → Int32) (c : Nat), bdy cc ck a I c l j = I j
  | [], _, _ => rfl
  | b :: l, I, c => by
    show bdy cc ck a (up2 (up2 I a c b) cc ck (nI (c + 1))) (c + 1) l j = I j
    rw [bdy_o h1 h2 l, up2_ne h1, up2_ne h2]
theorem bdy_q {cc ck a q : Nat} (h : q ≠ ck) (h2 : cc ≠ a) : ∀ (l : List Int32) (I : Nat → Nat → Int32) (c : Nat), bdy cc ck a I c l cc q = I cc q
  | [], _, _ => rfl
  | b :: l, I, c => by
    show bdy cc ck a (up2 (up2 I a c b) cc ck (nI (c + 1))) (c + 1) l cc q = I cc q
    rw [bdy_q h h2 l, up2_at, if_neg h, up2_ne h2]
theorem bdy_n {cc ck a : Nat} : ∀ (l : List Int32) (I : Nat → Nat → Int32) (c : Nat), I cc ck = nI c → bdy cc ck a I c l cc ck = nI (c + l.length)
  | [], _, _, h => h
  | b :: l, I, c, h => by
    show bdy cc ck a (up2 (up2 I a c b) cc ck (nI (c + 1))) (c + 1) l cc ck = _
    rw [bdy_n l _ _ up2_e, List.length_cons, Nat.add_assoc, Nat.add_comm 1]
theorem bdy_2 {k : Nat} : ∀ (l : List Int32) (X Y : Nat → Nat → Int32) (c : Nat), X 29 k = Y 106 k → bdy 0 18 29 X c l 29 k = bdy 77 63 106 Y c l 106 k
  | [], _, _, _, h => h
  | b :: l, X, Y, c, h => by
    show bdy 0 18 29 (up2 (up2 X 29 c b) 0 18 (nI (c + 1))) (c + 1) l 29 k = bdy 77 63 106 (up2 (up2 Y 106 c b) 77 63 (nI (c + 1))) (c + 1) l 106 k
    refine bdy_2 l _ _ _ ?_
    rw [up2_ne (show 29 ≠ 0 by decide), up2_ne (show 106 ≠ 77 by decide), up2_at, up2_at, h]
def rq (k : Nat) (K i v : Int32) (I : Nat → Nat → Int32) : Prop := I (111 + 3 * k) 0 = i ∧ I (111 + 3 * k) 1 = K ∧ I (111 + 3 * k) 2 = v
theorem bdy_rq {k c : Nat} {K i v : Int32} {I : Nat → Nat → Int32} (h : rq k K i v I) (l : List Int32) : rq k K i v (bdy 0 18 29 I c l) := by
  unfold rq at h ⊢
  rw [bdy_o (by omega) (by omega)]
  exact h
section AC
variable {L : Nat} {xs : Nat → Int32} {fv : Value} {d : Nat} {r : Nat} {rr : Option Nat} {I : Nat → Nat → Int32} {J : Nat → Nat → Int64} {P : Option Value → aH → Prop}
theorem go_ialdV {cd : Nat → Option aI} {pc nx a b t i : Nat} {v : Value} {ls : aL} {j : Int32} {st : List Value} {hn : Nat} {hI : Nat → Nat → Int32} {hJ : Nat → Nat → Int64} {hR : Nat → Nat → Option Nat} (x : Int32) (hc : cd pc = some (.iaload, nx, a, b, t, v)) (hin : vp_in j (akd L i).2) (hk : (akd L i).1 = 13) (hx : (aZ0 xs).1 i j.toNatClampNeg = x) (k : aTo L xs fv 111 d cd (nx, ls, .int x :: st, (hn, hI, hJ, hR)) P) : aTo L xs fv 111 d cd (pc, ls, .int j :: .ref i :: st, (hn, hI, hJ, hR)) P := by
  refine go_ialdS hc hin hk ?_
  rw [hx]
  exact k
theorem pf_pre00 {x : Int32} {k c m : Nat} (hc : I 0 18 = nI c) (hc20 : c < 20) (hm : m ≤ 30) (K : aTo L xs fv 111 d cd89 (216, [(0, .ref 0), (1, .ref (111 + 3 * k)), (4, .int x), (8, .int (-1)), (9, .int (nI (m + 1)))], [], aHp r rr (bdy 0 18 29 I c [10]) J) P) : aCl L xs fv 111 (d + 1) 89 [.ref 0, .ref (111 + 3 * k), .int 0, .int 0, .int x, .int (nI m)] (aHp r rr I J) P := by
  refine cl_of rfl (Nat.le_add_right _ _) ?_
  refine go_v (cd := cd89) [6] 20 rfl ?_
  refine go_sb ?_ (l' := [(7, .int (0)), (6, .int 0), (0, .ref 0), (1, .ref (111 + 3 * k)), (3, .int 0), (4, .int x), (5, .int (nI m))]) ⟨rfl, rfl, rfl, rfl, rfl, rfl, rfl, trivial⟩ rfl rfl rfl
  refine go_v (cd := cd89) [] 20 rfl ?_
  refine go_st (cd := cd89) 1 rfl (go_ifF (by decide) ?_)
  refine go_v (cd := cd89) [] 20 rfl ?_
  refine go_st (cd := cd89) 1 rfl (go_ifT (by decide) ?_)
  refine go_sb ?_ (l' := [(6, .int 0), (0, .ref 0), (1, .ref (111 + 3 * k)), (3, .int 0), (4, .int x), (5, .int (nI m))]) ⟨rfl, rfl, rfl, rfl, rfl, rfl, trivial⟩ rfl rfl rfl
  refine go_v (cd := cd89) [] 20 rfl ?_
  refine go_st (cd := cd89) 1 rfl (go_ifF (by decide) ?_)
  refine go_v (cd := cd89) [] 20 rfl ?_
  refine go_st (cd := cd89) 1 rfl (go_ifT (nI_le (b := 40) (by omega) (by decide)) ?_)
  refine go_v (cd := cd89) [] 20 rfl ?_
  refine go_ialdV (cd := cd89) (10) rfl (vin 21 rfl (by decide) (by decide)) rfl rfl ?_
  refine go_v (cd := cd89) [71] 20 rfl ?_
  refine go_sb ?_ (l' := [(7, .int 10), (6, .int 0), (0, .ref 0), (1, .ref (111 + 3 * k)), (3, .int 0), (4, .int x), (5, .int (nI m))]) ⟨rfl, rfl, rfl, rfl, rfl, rfl, rfl, trivial⟩ rfl rfl rfl
  refine go_v (cd := cd89) [] 20 rfl ?_
  refine go_st (cd := cd89) 1 rfl (go_ifF (show ¬ 20 ≤ I 0 18 from by rw [hc]; exact nI_ge (b := 20) (by omega) (by decide)) ?_)
  refine go_v (cd := cd89) [] 20 rfl ?_
  show aTo L xs fv 111 _ cd89 (90, _, [.int 10, .int (I 0 18), .ref 29], aHp r rr I J) P
  rw [hc]
  refine go_iast (cd := cd89) rfl (nI_vin (n := 20) (by omega) (by decide)) (lv3 rfl) rfl ?_
  rw [nI_clamp (show c < 2 ^ 31 by omega)]
  refine go_v (cd := cd89) [] 20 rfl ?_
  show aTo L xs fv 111 _ cd89 (106, _, [.int 0, .ref 1000], aHp r rr (up2 (up2 I 29 c 10) 0 18 (I 0 18 + 1)) J) P
  rw [hc, ← nI_succ]
  refine go_ialdV (cd := cd89) (-1) rfl (vin 7 rfl (by decide) (by decide)) rfl rfl ?_
  refine go_v (cd := cd89) [] 20 rfl ?_
  refine go_lsw (cd := cd89) 216 rfl (by decide) ?_
  refine go_sb K ⟨rfl, rfl, rfl, rfl, ?_, trivial⟩ rfl rfl rfl
  show some (Value.int (nI m + 1)) = some (Value.int (nI (m + 1)))
  rw [nI_succ]
theorem pf_pre01 {x : Int32} {k c m : Nat} (hc : I 0 18 = nI c) (hc20 : c < 20) (hm : m ≤ 30) (K : aTo L xs fv 111 d cd89 (224, [(0, .ref 0), (1, .ref (111 + 3 * k)), (4, .int x), (8, .int (-1)), (9, .int (nI (m + 1)))], [], aHp r rr (bdy 0 18 29 I c [11]) J) P) : aCl L xs fv 111 (d + 1) 89 [.ref 0, .ref (111 + 3 * k), .int 0, .int 1, .int x, .int (nI m)] (aHp r rr I J) P := by
  refine cl_of rfl (Nat.le_add_right _ _) ?_
  refine go_v (cd := cd89) [6] 20 rfl ?_
  refine go_sb ?_ (l' := [(7, .int (0)), (6, .int 0), (0, .ref 0), (1, .ref (111 + 3 * k)), (3, .int 1), (4, .int x), (5, .int (nI m))]) ⟨rfl, rfl, rfl, rfl, rfl, rfl, rfl, trivial⟩ rfl rfl rfl
  refine go_v (cd := cd89) [] 20 rfl ?_
  refine go_st (cd := cd89) 1 rfl (go_ifF (by decide) ?_)
  refine go_v (cd := cd89) [] 20 rfl ?_
  refine go_st (cd := cd89) 1 rfl (go_ifT (by decide) ?_)
  refine go_sb ?_ (l' := [(6, .int 0), (0, .ref 0), (1, .ref (111 + 3 * k)), (3, .int 1), (4, .int x), (5, .int (nI m))]) ⟨rfl, rfl, rfl, rfl, rfl, rfl, trivial⟩ rfl rfl rfl
  refine go_v (cd := cd89) [] 20 rfl ?_
  refine go_st (cd := cd89) 1 rfl (go_ifF (by decide) ?_)
  refine go_v (cd := cd89) [] 20 rfl ?_
  refine go_st (cd := cd89) 1 rfl (go_ifT (nI_le (b := 40) (by omega) (by decide)) ?_)
  refine go_v (cd := cd89) [] 20 rfl ?_
  refine go_ialdV (cd := cd89) (11) rfl (vin 21 rfl (by decide) (by decide)) rfl rfl ?_
  refine go_v (cd := cd89) [71] 20 rfl ?_
  refine go_sb ?_ (l' := [(7, .int 11), (6, .int 0), (0, .ref 0), (1, .ref (111 + 3 * k)), (3, .int 1), (4, .int x), (5, .int (nI m))]) ⟨rfl, rfl, rfl, rfl, rfl, rfl, rfl, trivial⟩ rfl rfl rfl
  refine go_v (cd := cd89) [] 20 rfl ?_
  refine go_st (cd := cd89) 1 rfl (go_ifF (show ¬ 20 ≤ I 0 18 from by rw [hc]; exact nI_ge (b := 20) (by omega) (by decide)) ?_)
  refine go_v (cd := cd89) [] 20 rfl ?_
  show aTo L xs fv 111 _ cd89 (90, _, [.int 11, .int (I 0 18), .ref 29], aHp r rr I J) P
  rw [hc]
  refine go_iast (cd := cd89) rfl (nI_vin (n := 20) (by omega) (by decide)) (lv3 rfl) rfl ?_
  rw [nI_clamp (show c < 2 ^ 31 by omega)]
  refine go_v (cd := cd89) [] 20 rfl ?_
  show aTo L xs fv 111 _ cd89 (106, _, [.int 0, .ref 1000], aHp r rr (up2 (up2 I 29 c 11) 0 18 (I 0 18 + 1)) J) P
  rw [hc, ← nI_succ]
  refine go_ialdV (cd := cd89) (-1) rfl (vin 7 rfl (by decide) (by decide)) rfl rfl ?_
  refine go_v (cd := cd89) [] 20 rfl ?_
  refine go_lsw (cd := cd89) 224 rfl (by decide) ?_
  refine go_sb K ⟨rfl, rfl, rfl, rfl, ?_, trivial⟩ rfl rfl rfl
  show some (Value.int (nI m + 1)) = some (Value.int (nI (m + 1)))
  rw [nI_succ]
theorem pf_pre02 {x : Int32} {k c m : Nat} (hc : I 0 18 = nI c) (hc20 : c < 20) (hm : m ≤ 30) (K : aTo L xs fv 111 d cd89 (244, [(0, .ref 0), (1, .ref (111 + 3 * k)), (4, .int x), (8, .int (-1)), (9, .int (nI (m + 1)))], [], aHp r rr (bdy 0 18 29 I c [12]) J) P) : aCl L xs fv 111 (d + 1) 89 [.ref 0, .ref (111 + 3 * k), .int 0, .int 2, .int x, .int (nI m)] (aHp r rr I J) P := by
  refine cl_of rfl (Nat.le_add_right _ _) ?_
  refine go_v (cd := cd89) [6] 20 rfl ?_
  refine go_sb ?_ (l' := [(7, .int (0)), (6, .int 0), (0, .ref 0), (1, .ref (111 + 3 * k)), (3, .int 2), (4, .int x), (5, .int (nI m))]) ⟨rfl, rfl, rfl, rfl, rfl, rfl, rfl, trivial⟩ rfl rfl rfl
  refine go_v (cd := cd89) [] 20 rfl ?_
  refine go_st (cd := cd89) 1 rfl (go_ifF (by decide) ?_)
  refine go_v (cd := cd89) [] 20 rfl ?_
  refine go_st (cd := cd89) 1 rfl (go_ifT (by decide) ?_)
  refine go_sb ?_ (l' := [(6, .int 0), (0, .ref 0), (1, .ref (111 + 3 * k)), (3, .int 2), (4, .int x), (5, .int (nI m))]) ⟨rfl, rfl, rfl, rfl, rfl, rfl, trivial⟩ rfl rfl rfl
  refine go_v (cd := cd89) [] 20 rfl ?_
  refine go_st (cd := cd89) 1 rfl (go_ifF (by decide) ?_)
  refine go_v (cd := cd89) [] 20 rfl ?_
  refine go_st (cd := cd89) 1 rfl (go_ifT (nI_le (b := 40) (by omega) (by decide)) ?_)
  refine go_v (cd := cd89) [] 20 rfl ?_
  refine go_ialdV (cd := cd89) (12) rfl (vin 21 rfl (by decide) (by decide)) rfl rfl ?_
  refine go_v (cd := cd89) [71] 20 rfl ?_
  refine go_sb ?_ (l' := [(7, .int 12), (6, .int 0), (0, .ref 0), (1, .ref (111 + 3 * k)), (3, .int 2), (4, .int x), (5, .int (nI m))]) ⟨rfl, rfl, rfl, rfl, rfl, rfl, rfl, trivial⟩ rfl rfl rfl
  refine go_v (cd := cd89) [] 20 rfl ?_
  refine go_st (cd := cd89) 1 rfl (go_ifF (show ¬ 20 ≤ I 0 18 from by rw [hc]; exact nI_ge (b := 20) (by omega) (by decide)) ?_)
  refine go_v (cd := cd89) [] 20 rfl ?_
  show aTo L xs fv 111 _ cd89 (90, _, [.int 12, .int (I 0 18), .ref 29], aHp r rr I J) P
  rw [hc]
  refine go_iast (cd := cd89) rfl (nI_vin (n := 20) (by omega) (by decide)) (lv3 rfl) rfl ?_
  rw [nI_clamp (show c < 2 ^ 31 by omega)]
  refine go_v (cd := cd89) [] 20 rfl ?_
  show aTo L xs fv 111 _ cd89 (106, _, [.int 0, .ref 1000], aHp r rr (up2 (up2 I 29 c 12) 0 18 (I 0 18 + 1)) J) P
  rw [hc, ← nI_succ]
  refine go_ialdV (cd := cd89) (-1) rfl (vin 7 rfl (by decide) (by decide)) rfl rfl ?_
  refine go_v (cd := cd89) [] 20 rfl ?_
  refine go_lsw (cd := cd89) 244 rfl (by decide) ?_
  refine go_sb K ⟨rfl, rfl, rfl, rfl, ?_, trivial⟩ rfl rfl rfl
  show some (Value.int (nI m + 1)) = some (Value.int (nI (m + 1)))
  rw [nI_succ]
theorem pf_pre10 {x : Int32} {k c m : Nat} (hc : I 0 18 = nI c) (hc20 : c < 20) (hm : m ≤ 30) (K : aTo L xs fv 111 d cd89 (216, [(0, .ref 0), (1, .ref (111 + 3 * k)), (4, .int x), (8, .int (-1)), (9, .int (nI (m + 1)))], [], aHp r rr (bdy 0 18 29 I c [10]) J) P) : aCl L xs fv 111 (d + 1) 89 [.ref 0, .ref (111 + 3 * k), .int 1, .int 0, .int x, .int (nI m)] (aHp r rr I J) P := by
  refine cl_of rfl (Nat.le_add_right _ _) ?_
  refine go_v (cd := cd89) [6] 20 rfl ?_
  refine go_sb ?_ (l' := [(7, .int (0)), (6, .int 1), (0, .ref 0), (1, .ref (111 + 3 * k)), (3, .int 0), (4, .int x), (5, .int (nI m))]) ⟨rfl, rfl, rfl, rfl, rfl, rfl, rfl, trivial⟩ rfl rfl rfl
  refine go_v (cd := cd89) [] 20 rfl ?_
  refine go_st (cd := cd89) 1 rfl (go_ifF (by decide) ?_)
  refine go_v (cd := cd89) [] 20 rfl ?_
  refine go_st (cd := cd89) 1 rfl (go_ifF (by decide) ?_)
  refine go_v (cd := cd89) [] 20 rfl ?_
  refine go_ialdV (cd := cd89) (0) rfl (vin 21 rfl (by decide) (by decide)) rfl rfl ?_
  refine go_st (cd := cd89) 1 rfl (go_ifT (by decide) ?_)
  refine go_v (cd := cd89) [] 20 rfl ?_
  refine go_ialdV (cd := cd89) (0) rfl (vin 7 rfl (by decide) (by decide)) rfl rfl ?_
  refine go_v (cd := cd89) [6] 20 rfl ?_
  refine go_sb ?_ (l' := [(7, .int (0 + 1)), (6, .int 0), (0, .ref 0), (1, .ref (111 + 3 * k)), (3, .int 0), (4, .int x), (5, .int (nI m))]) ⟨rfl, rfl, rfl, rfl, rfl, rfl, rfl, trivial⟩ rfl rfl rfl
  refine go_v (cd := cd89) [] 20 rfl ?_
  refine go_st (cd := cd89) 1 rfl (go_ifF (by decide) ?_)
  refine go_v (cd := cd89) [] 20 rfl ?_
  refine go_st (cd := cd89) 1 rfl (go_ifT (by decide) ?_)
  refine go_sb ?_ (l' := [(6, .int 0), (0, .ref 0), (1, .ref (111 + 3 * k)), (3, .int 0), (4, .int x), (5, .int (nI m))]) ⟨rfl, rfl, rfl, rfl, rfl, rfl, trivial⟩ rfl rfl rfl
  refine go_v (cd := cd89) [] 20 rfl ?_
  refine go_st (cd := cd89) 1 rfl (go_ifF (by decide) ?_)
  refine go_v (cd := cd89) [] 20 rfl ?_
  refine go_st (cd := cd89) 1 rfl (go_ifT (nI_le (b := 40) (by omega) (by decide)) ?_)
  refine go_v (cd := cd89) [] 20 rfl ?_
  refine go_ialdV (cd := cd89) (10) rfl (vin 21 rfl (by decide) (by decide)) rfl rfl ?_
  refine go_v (cd := cd89) [71] 20 rfl ?_
  refine go_sb ?_ (l' := [(7, .int 10), (6, .int 0), (0, .ref 0), (1, .ref (111 + 3 * k)), (3, .int 0), (4, .int x), (5, .int (nI m))]) ⟨rfl, rfl, rfl, rfl, rfl, rfl, rfl, trivial⟩ rfl rfl rfl
  refine go_v (cd := cd89) [] 20 rfl ?_
  refine go_st (cd := cd89) 1 rfl (go_ifF (show ¬ 20 ≤ I 0 18 from by rw [hc]; exact nI_ge (b := 20) (by omega) (by decide)) ?_)
  refine go_v (cd := cd89) [] 20 rfl ?_
  show aTo L xs fv 111 _ cd89 (90, _, [.int 10, .int (I 0 18), .ref 29], aHp r rr I J) P
  rw [hc]
  refine go_iast (cd := cd89) rfl (nI_vin (n := 20) (by omega) (by decide)) (lv3 rfl) rfl ?_
  rw [nI_clamp (show c < 2 ^ 31 by omega)]
  refine go_v (cd := cd89) [] 20 rfl ?_
  show aTo L xs fv 111 _ cd89 (106, _, [.int 0, .ref 1000], aHp r rr (up2 (up2 I 29 c 10) 0 18 (I 0 18 + 1)) J) P
  rw [hc, ← nI_succ]
  refine go_ialdV (cd := cd89) (-1) rfl (vin 7 rfl (by decide) (by decide)) rfl rfl ?_
  refine go_v (cd := cd89) [] 20 rfl ?_
  refine go_lsw (cd := cd89) 216 rfl (by decide) ?_
  refine go_sb K ⟨rfl, rfl, rfl, rfl, ?_, trivial⟩ rfl rfl rfl
  show some (Value.int (nI m + 1)) = some (Value.int (nI (m + 1)))
  rw [nI_succ]
theorem pf_pre11 {x : Int32} {k c m : Nat} (hc : I 0 18 = nI c) (hc20 : c < 20) (hm : m ≤ 30) (K : aTo L xs fv 111 d cd89 (261, [(0, .ref 0), (1, .ref (111 + 3 * k)), (4, .int x), (8, .int (0)), (9, .int (nI (m + 1)))], [], aHp r rr (bdy 0 18 29 I c [20]) J) P) : aCl L xs fv 111 (d + 1) 89 [.ref 0, .ref (111 + 3 * k), .int 1, .int 1, .int x, .int (nI m)] (aHp r rr I J) P := by
  refine cl_of rfl (Nat.le_add_right _ _) ?_
  refine go_v (cd := cd89) [6] 20 rfl ?_
  refine go_sb ?_ (l' := [(7, .int (0)), (6, .int 1), (0, .ref 0), (1, .ref (111 + 3 * k)), (3, .int 1), (4, .int x), (5, .int (nI m))]) ⟨rfl, rfl, rfl, rfl, rfl, rfl, rfl, trivial⟩ rfl rfl rfl
  refine go_v (cd := cd89) [] 20 rfl ?_
  refine go_st (cd := cd89) 1 rfl (go_ifF (by decide) ?_)
  refine go_v (cd := cd89) [] 20 rfl ?_
  refine go_st (cd := cd89) 1 rfl (go_ifF (by decide) ?_)
  refine go_v (cd := cd89) [] 20 rfl ?_
  refine go_ialdV (cd := cd89) (20) rfl (vin 21 rfl (by decide) (by decide)) rfl rfl ?_
  refine go_st (cd := cd89) 1 rfl (go_ifF (by decide) ?_)
  refine go_sb ?_ (l' := [(6, .int 1), (0, .ref 0), (1, .ref (111 + 3 * k)), (3, .int 1), (4, .int x), (5, .int (nI m))]) ⟨rfl, rfl, rfl, rfl, rfl, rfl, trivial⟩ rfl rfl rfl
  refine go_v (cd := cd89) [] 20 rfl ?_
  refine go_st (cd := cd89) 1 rfl (go_ifF (by decide) ?_)
  refine go_v (cd := cd89) [] 20 rfl ?_
  refine go_st (cd := cd89) 1 rfl (go_ifT (nI_le (b := 40) (by omega) (by decide)) ?_)
  refine go_v (cd := cd89) [] 20 rfl ?_
  refine go_ialdV (cd := cd89) (20) rfl (vin 21 rfl (by decide) (by decide)) rfl rfl ?_
  refine go_v (cd := cd89) [71] 20 rfl ?_
  refine go_sb ?_ (l' := [(7, .int 20), (6, .int 1), (0, .ref 0), (1, .ref (111 + 3 * k)), (3, .int 1), (4, .int x), (5, .int (nI m))]) ⟨rfl, rfl, rfl, rfl, rfl, rfl, rfl, trivial⟩ rfl rfl rfl
  refine go_v (cd := cd89) [] 20 rfl ?_
  refine go_st (cd := cd89) 1 rfl (go_ifF (show ¬ 20 ≤ I 0 18 from by rw [hc]; exact nI_ge (b := 20) (by omega) (by decide)) ?_)
  refine go_v (cd := cd89) [] 20 rfl ?_
  show aTo L xs fv 111 _ cd89 (90, _, [.int 20, .int (I 0 18), .ref 29], aHp r rr I J) P
  rw [hc]
  refine go_iast (cd := cd89) rfl (nI_vin (n := 20) (by omega) (by decide)) (lv3 rfl) rfl ?_
  rw [nI_clamp (show c < 2 ^ 31 by omega)]
  refine go_v (cd := cd89) [] 20 rfl ?_
  show aTo L xs fv 111 _ cd89 (106, _, [.int 1, .ref 1000], aHp r rr (up2 (up2 I 29 c 20) 0 18 (I 0 18 + 1)) J) P
  rw [hc, ← nI_succ]
  refine go_ialdV (cd := cd89) (0) rfl (vin 7 rfl (by decide) (by decide)) rfl rfl ?_
  refine go_v (cd := cd89) [] 20 rfl ?_
  refine go_lsw (cd := cd89) 261 rfl (by decide) ?_
  refine go_sb K ⟨rfl, rfl, rfl, rfl, ?_, trivial⟩ rfl rfl rfl
  show some (Value.int (nI m + 1)) = some (Value.int (nI (m + 1)))
  rw [nI_succ]
theorem pf_pre12 {x : Int32} {k c m : Nat} (hc : I 0 18 = nI c) (hc20 : c < 20) (hm : m ≤ 30) (K : aTo L xs fv 111 d cd89 (244, [(0, .ref 0), (1, .ref (111 + 3 * k)), (4, .int x), (8, .int (-1)), (9, .int (nI (m + 1)))], [], aHp r rr (bdy 0 18 29 I c [12]) J) P) : aCl L xs fv 111 (d + 1) 89 [.ref 0, .ref (111 + 3 * k), .int 1, .int 2, .int x, .int (nI m)] (aHp r rr I J) P := by
  refine cl_of rfl (Nat.le_add_right _ _) ?_
  refine go_v (cd := cd89) [6] 20 rfl ?_
  refine go_sb ?_ (l' := [(7, .int (0)), (6, .int 1), (0, .ref 0), (1, .ref (111 + 3 * k)), (3, .int 2), (4, .int x), (5, .int (nI m))]) ⟨rfl, rfl, rfl, rfl, rfl, rfl, rfl, trivial⟩ rfl rfl rfl
  refine go_v (cd := cd89) [] 20 rfl ?_
  refine go_st (cd := cd89) 1 rfl (go_ifF (by decide) ?_)
  refine go_v (cd := cd89) [] 20 rfl ?_
  refine go_st (cd := cd89) 1 rfl (go_ifF (by decide) ?_)
  refine go_v (cd := cd89) [] 20 rfl ?_
  refine go_ialdV (cd := cd89) (0) rfl (vin 21 rfl (by decide) (by decide)) rfl rfl ?_
  refine go_st (cd := cd89) 1 rfl (go_ifT (by decide) ?_)
  refine go_v (cd := cd89) [] 20 rfl ?_
  refine go_ialdV (cd := cd89) (0) rfl (vin 7 rfl (by decide) (by decide)) rfl rfl ?_
  refine go_v (cd := cd89) [6] 20 rfl ?_
  refine go_sb ?_ (l' := [(7, .int (0 + 1)), (6, .int 0), (0, .ref 0), (1, .ref (111 + 3 * k)), (3, .int 2), (4, .int x), (5, .int (nI m))]) ⟨rfl, rfl, rfl, rfl, rfl, rfl, rfl, trivial⟩ rfl rfl rfl
  refine go_v (cd := cd89) [] 20 rfl ?_
  refine go_st (cd := cd89) 1 rfl (go_ifF (by decide) ?_)
  refine go_v (cd := cd89) [] 20 rfl ?_
  refine go_st (cd := cd89) 1 rfl (go_ifT (by decide) ?_)
  refine go_sb ?_ (l' := [(6, .int 0), (0, .ref 0), (1, .ref (111 + 3 * k)), (3, .int 2), (4, .int x), (5, .int (nI m))]) ⟨rfl, rfl, rfl, rfl, rfl, rfl, trivial⟩ rfl rfl rfl
  refine go_v (cd := cd89) [] 20 rfl ?_
  refine go_st (cd := cd89) 1 rfl (go_ifF (by decide) ?_)
  refine go_v (cd := cd89) [] 20 rfl ?_
  refine go_st (cd := cd89) 1 rfl (go_ifT (nI_le (b := 40) (by omega) (by decide)) ?_)
  refine go_v (cd := cd89) [] 20 rfl ?_
  refine go_ialdV (cd := cd89) (12) rfl (vin 21 rfl (by decide) (by decide)) rfl rfl ?_
  refine go_v (cd := cd89) [71] 20 rfl ?_
  refine go_sb ?_ (l' := [(7, .int 12), (6, .int 0), (0, .ref 0), (1, .ref (111 + 3 * k)), (3, .int 2), (4, .int x), (5, .int (nI m))]) ⟨rfl, rfl, rfl, rfl, rfl, rfl, rfl, trivial⟩ rfl rfl rfl
  refine go_v (cd := cd89) [] 20 rfl ?_
  refine go_st (cd := cd89) 1 rfl (go_ifF (show ¬ 20 ≤ I 0 18 from by rw [hc]; exact nI_ge (b := 20) (by omega) (by decide)) ?_)
  refine go_v (cd := cd89) [] 20 rfl ?_
  show aTo L xs fv 111 _ cd89 (90, _, [.int 12, .int (I 0 18), .ref 29], aHp r rr I J) P
  rw [hc]
  refine go_iast (cd := cd89) rfl (nI_vin (n := 20) (by omega) (by decide)) (lv3 rfl) rfl ?_
  rw [nI_clamp (show c < 2 ^ 31 by omega)]
  refine go_v (cd := cd89) [] 20 rfl ?_
  show aTo L xs fv 111 _ cd89 (106, _, [.int 0, .ref 1000], aHp r rr (up2 (up2 I 29 c 12) 0 18 (I 0 18 + 1)) J) P
  rw [hc, ← nI_succ]
  refine go_ialdV (cd := cd89) (-1) rfl (vin 7 rfl (by decide) (by decide)) rfl rfl ?_
  refine go_v (cd := cd89) [] 20 rfl ?_
  refine go_lsw (cd := cd89) 244 rfl (by decide) ?_
  refine go_sb K ⟨rfl, rfl, rfl, rfl, ?_, trivial⟩ rfl rfl rfl
  show some (Value.int (nI m + 1)) = some (Value.int (nI (m + 1)))
  rw [nI_succ]
theorem pf_pre20 {x : Int32} {k c m : Nat} (hc : I 0 18 = nI c) (hc20 : c < 20) (hm : m ≤ 30) (K : aTo L xs fv 111 d cd89 (277, [(0, .ref 0), (1, .ref (111 + 3 * k)), (4, .int x), (8, .int (0)), (9, .int (nI (m + 1)))], [], aHp r rr (bdy 0 18 29 I c [30]) J) P) : aCl L xs fv 111 (d + 1) 89 [.ref 0, .ref (111 + 3 * k), .int 2, .int 0, .int x, .int (nI m)] (aHp r rr I J) P := by
  refine cl_of rfl (Nat.le_add_right _ _) ?_
  refine go_v (cd := cd89) [6] 20 rfl ?_
  refine go_sb ?_ (l' := [(7, .int (0)), (6, .int 2), (0, .ref 0), (1, .ref (111 + 3 * k)), (3, .int 0), (4, .int x), (5, .int (nI m))]) ⟨rfl, rfl, rfl, rfl, rfl, rfl, rfl, trivial⟩ rfl rfl rfl
  refine go_v (cd := cd89) [] 20 rfl ?_
  refine go_st (cd := cd89) 1 rfl (go_ifF (by decide) ?_)
  refine go_v (cd := cd89) [] 20 rfl ?_
  refine go_st (cd := cd89) 1 rfl (go_ifF (by decide) ?_)
  refine go_v (cd := cd89) [] 20 rfl ?_
  refine go_ialdV (cd := cd89) (30) rfl (vin 21 rfl (by decide) (by decide)) rfl rfl ?_
  refine go_st (cd := cd89) 1 rfl (go_ifF (by decide) ?_)
  refine go_sb ?_ (l' := [(6, .int 2), (0, .ref 0), (1, .ref (111 + 3 * k)), (3, .int 0), (4, .int x), (5, .int (nI m))]) ⟨rfl, rfl, rfl, rfl, rfl, rfl, trivial⟩ rfl rfl rfl
  refine go_v (cd := cd89) [] 20 rfl ?_
  refine go_st (cd := cd89) 1 rfl (go_ifF (by decide) ?_)
  refine go_v (cd := cd89) [] 20 rfl ?_
  refine go_st (cd := cd89) 1 rfl (go_ifT (nI_le (b := 40) (by omega) (by decide)) ?_)
  refine go_v (cd := cd89) [] 20 rfl ?_
  refine go_ialdV (cd := cd89) (30) rfl (vin 21 rfl (by decide) (by decide)) rfl rfl ?_
  refine go_v (cd := cd89) [71] 20 rfl ?_
  refine go_sb ?_ (l' := [(7, .int 30), (6, .int 2), (0, .ref 0), (1, .ref (111 + 3 * k)), (3, .int 0), (4, .int x), (5, .int (nI m))]) ⟨rfl, rfl, rfl, rfl, rfl, rfl, rfl, trivial⟩ rfl rfl rfl
  refine go_v (cd := cd89) [] 20 rfl ?_
  refine go_st (cd := cd89) 1 rfl (go_ifF (show ¬ 20 ≤ I 0 18 from by rw [hc]; exact nI_ge (b := 20) (by omega) (by decide)) ?_)
  refine go_v (cd := cd89) [] 20 rfl ?_
  show aTo L xs fv 111 _ cd89 (90, _, [.int 30, .int (I 0 18), .ref 29], aHp r rr I J) P
  rw [hc]
  refine go_iast (cd := cd89) rfl (nI_vin (n := 20) (by omega) (by decide)) (lv3 rfl) rfl ?_
  rw [nI_clamp (show c < 2 ^ 31 by omega)]
  refine go_v (cd := cd89) [] 20 rfl ?_
  show aTo L xs fv 111 _ cd89 (106, _, [.int 2, .ref 1000], aHp r rr (up2 (up2 I 29 c 30) 0 18 (I 0 18 + 1)) J) P
  rw [hc, ← nI_succ]
  refine go_ialdV (cd := cd89) (0) rfl (vin 7 rfl (by decide) (by decide)) rfl rfl ?_
  refine go_v (cd := cd89) [] 20 rfl ?_
  refine go_lsw (cd := cd89) 277 rfl (by decide) ?_
  refine go_sb K ⟨rfl, rfl, rfl, rfl, ?_, trivial⟩ rfl rfl rfl
  show some (Value.int (nI m + 1)) = some (Value.int (nI (m + 1)))
  rw [nI_succ]
theorem pf_pre21 {x : Int32} {k c m : Nat} (hc : I 0 18 = nI c) (hc20 : c < 20) (hm : m ≤ 30) (K : aTo L xs fv 111 d cd89 (224, [(0, .ref 0), (1, .ref (111 + 3 * k)), (4, .int x), (8, .int (-1)), (9, .int (nI (m + 1)))], [], aHp r rr (bdy 0 18 29 I c [11]) J) P) : aCl L xs fv 111 (d + 1) 89 [.ref 0, .ref (111 + 3 * k), .int 2, .int 1, .int x, .int (nI m)] (aHp r rr I J) P := by
  refine cl_of rfl (Nat.le_add_right _ _) ?_
  refine go_v (cd := cd89) [6] 20 rfl ?_
  refine go_sb ?_ (l' := [(7, .int (0)), (6, .int 2), (0, .ref 0), (1, .ref (111 + 3 * k)), (3, .int 1), (4, .int x), (5, .int (nI m))]) ⟨rfl, rfl, rfl, rfl, rfl, rfl, rfl, trivial⟩ rfl rfl rfl
  refine go_v (cd := cd89) [] 20 rfl ?_
  refine go_st (cd := cd89) 1 rfl (go_ifF (by decide) ?_)
  refine go_v (cd := cd89) [] 20 rfl ?_
  refine go_st (cd := cd89) 1 rfl (go_ifF (by decide) ?_)
  refine go_v (cd := cd89) [] 20 rfl ?_
  refine go_ialdV (cd := cd89) (0) rfl (vin 21 rfl (by decide) (by decide)) rfl rfl ?_
  refine go_st (cd := cd89) 1 rfl (go_ifT (by decide) ?_)
  refine go_v (cd := cd89) [] 20 rfl ?_
  refine go_ialdV (cd := cd89) (0) rfl (vin 7 rfl (by decide) (by decide)) rfl rfl ?_
  refine go_v (cd := cd89) [6] 20 rfl ?_
  refine go_sb ?_ (l' := [(7, .int (0 + 1)), (6, .int 0), (0, .ref 0), (1, .ref (111 + 3 * k)), (3, .int 1), (4, .int x), (5, .int (nI m))]) ⟨rfl, rfl, rfl, rfl, rfl, rfl, rfl, trivial⟩ rfl rfl rfl
  refine go_v (cd := cd89) [] 20 rfl ?_
  refine go_st (cd := cd89) 1 rfl (go_ifF (by decide) ?_)
  refine go_v (cd := cd89) [] 20 rfl ?_
  refine go_st (cd := cd89) 1 rfl (go_ifT (by decide) ?_)
  refine go_sb ?_ (l' := [(6, .int 0), (0, .ref 0), (1, .ref (111 + 3 * k)), (3, .int 1), (4, .int x), (5, .int (nI m))]) ⟨rfl, rfl, rfl, rfl, rfl, rfl, trivial⟩ rfl rfl rfl
  refine go_v (cd := cd89) [] 20 rfl ?_
  refine go_st (cd := cd89) 1 rfl (go_ifF (by decide) ?_)
  refine go_v (cd := cd89) [] 20 rfl ?_
  refine go_st (cd := cd89) 1 rfl (go_ifT (nI_le (b := 40) (by omega) (by decide)) ?_)
  refine go_v (cd := cd89) [] 20 rfl ?_
  refine go_ialdV (cd := cd89) (11) rfl (vin 21 rfl (by decide) (by decide)) rfl rfl ?_
  refine go_v (cd := cd89) [71] 20 rfl ?_
  refine go_sb ?_ (l' := [(7, .int 11), (6, .int 0), (0, .ref 0), (1, .ref (111 + 3 * k)), (3, .int 1), (4, .int x), (5, .int (nI m))]) ⟨rfl, rfl, rfl, rfl, rfl, rfl, rfl, trivial⟩ rfl rfl rfl
  refine go_v (cd := cd89) [] 20 rfl ?_
  refine go_st (cd := cd89) 1 rfl (go_ifF (show ¬ 20 ≤ I 0 18 from by rw [hc]; exact nI_ge (b := 20) (by omega) (by decide)) ?_)
  refine go_v (cd := cd89) [] 20 rfl ?_
  show aTo L xs fv 111 _ cd89 (90, _, [.int 11, .int (I 0 18), .ref 29], aHp r rr I J) P
  rw [hc]
  refine go_iast (cd := cd89) rfl (nI_vin (n := 20) (by omega) (by decide)) (lv3 rfl) rfl ?_
  rw [nI_clamp (show c < 2 ^ 31 by omega)]
  refine go_v (cd := cd89) [] 20 rfl ?_
  show aTo L xs fv 111 _ cd89 (106, _, [.int 0, .ref 1000], aHp r rr (up2 (up2 I 29 c 11) 0 18 (I 0 18 + 1)) J) P
  rw [hc, ← nI_succ]
  refine go_ialdV (cd := cd89) (-1) rfl (vin 7 rfl (by decide) (by decide)) rfl rfl ?_
  refine go_v (cd := cd89) [] 20 rfl ?_
  refine go_lsw (cd := cd89) 224 rfl (by decide) ?_
  refine go_sb K ⟨rfl, rfl, rfl, rfl, ?_, trivial⟩ rfl rfl rfl
  show some (Value.int (nI m + 1)) = some (Value.int (nI (m + 1)))
  rw [nI_succ]
theorem pf_pre22 {x : Int32} {k c m : Nat} (hc : I 0 18 = nI c) (hc20 : c < 20) (hm : m ≤ 30) (K : aTo L xs fv 111 d cd89 (244, [(0, .ref 0), (1, .ref (111 + 3 * k)), (4, .int x), (8, .int (-1)), (9, .int (nI (m + 1)))], [], aHp r rr (bdy 0 18 29 I c [12]) J) P) : aCl L xs fv 111 (d + 1) 89 [.ref 0, .ref (111 + 3 * k), .int 2, .int 2, .int x, .int (nI m)] (aHp r rr I J) P := by
  refine cl_of rfl (Nat.le_add_right _ _) ?_
  refine go_v (cd := cd89) [6] 20 rfl ?_
  refine go_sb ?_ (l' := [(7, .int (0)), (6, .int 2), (0, .ref 0), (1, .ref (111 + 3 * k)), (3, .int 2), (4, .int x), (5, .int (nI m))]) ⟨rfl, rfl, rfl, rfl, rfl, rfl, rfl, trivial⟩ rfl rfl rfl
  refine go_v (cd := cd89) [] 20 rfl ?_
  refine go_st (cd := cd89) 1 rfl (go_ifF (by decide) ?_)
  refine go_v (cd := cd89) [] 20 rfl ?_
  refine go_st (cd := cd89) 1 rfl (go_ifF (by decide) ?_)
  refine go_v (cd := cd89) [] 20 rfl ?_
  refine go_ialdV (cd := cd89) (0) rfl (vin 21 rfl (by decide) (by decide)) rfl rfl ?_
  refine go_st (cd := cd89) 1 rfl (go_ifT (by decide) ?_)
  refine go_v (cd := cd89) [] 20 rfl ?_
  refine go_ialdV (cd := cd89) (0) rfl (vin 7 rfl (by decide) (by decide)) rfl rfl ?_
  refine go_v (cd := cd89) [6] 20 rfl ?_
  refine go_sb ?_ (l' := [(7, .int (0 + 1)), (6, .int 0), (0, .ref 0), (1, .ref (111 + 3 * k)), (3, .int 2), (4, .int x), (5, .int (nI m))]) ⟨rfl, rfl, rfl, rfl, rfl, rfl, rfl, trivial⟩ rfl rfl rfl
  refine go_v (cd := cd89) [] 20 rfl ?_
  refine go_st (cd := cd89) 1 rfl (go_ifF (by decide) ?_)
  refine go_v (cd := cd89) [] 20 rfl ?_
  refine go_st (cd := cd89) 1 rfl (go_ifT (by decide) ?_)
  refine go_sb ?_ (l' := [(6, .int 0), (0, .ref 0), (1, .ref (111 + 3 * k)), (3, .int 2), (4, .int x), (5, .int (nI m))]) ⟨rfl, rfl, rfl, rfl, rfl, rfl, trivial⟩ rfl rfl rfl
  refine go_v (cd := cd89) [] 20 rfl ?_
  refine go_st (cd := cd89) 1 rfl (go_ifF (by decide) ?_)
  refine go_v (cd := cd89) [] 20 rfl ?_
  refine go_st (cd := cd89) 1 rfl (go_ifT (nI_le (b := 40) (by omega) (by decide)) ?_)
  refine go_v (cd := cd89) [] 20 rfl ?_
  refine go_ialdV (cd := cd89) (12) rfl (vin 21 rfl (by decide) (by decide)) rfl rfl ?_
  refine go_v (cd := cd89) [71] 20 rfl ?_
  refine go_sb ?_ (l' := [(7, .int 12), (6, .int 0), (0, .ref 0), (1, .ref (111 + 3 * k)), (3, .int 2), (4, .int x), (5, .int (nI m))]) ⟨rfl, rfl, rfl, rfl, rfl, rfl, rfl, trivial⟩ rfl rfl rfl
  refine go_v (cd := cd89) [] 20 rfl ?_
  refine go_st (cd := cd89) 1 rfl (go_ifF (show ¬ 20 ≤ I 0 18 from by rw [hc]; exact nI_ge (b := 20) (by omega) (by decide)) ?_)
  refine go_v (cd := cd89) [] 20 rfl ?_
  show aTo L xs fv 111 _ cd89 (90, _, [.int 12, .int (I 0 18), .ref 29], aHp r rr I J) P
  rw [hc]
  refine go_iast (cd := cd89) rfl (nI_vin (n := 20) (by omega) (by decide)) (lv3 rfl) rfl ?_
  rw [nI_clamp (show c < 2 ^ 31 by omega)]
  refine go_v (cd := cd89) [] 20 rfl ?_
  show aTo L xs fv 111 _ cd89 (106, _, [.int 0, .ref 1000], aHp r rr (up2 (up2 I 29 c 12) 0 18 (I 0 18 + 1)) J) P
  rw [hc, ← nI_succ]
  refine go_ialdV (cd := cd89) (-1) rfl (vin 7 rfl (by decide) (by decide)) rfl rfl ?_
  refine go_v (cd := cd89) [] 20 rfl ?_
  refine go_lsw (cd := cd89) 244 rfl (by decide) ?_
  refine go_sb K ⟨rfl, rfl, rfl, rfl, ?_, trivial⟩ rfl rfl rfl
  show some (Value.int (nI m + 1)) = some (Value.int (nI (m + 1)))
  rw [nI_succ]
theorem pf_pre30 {x : Int32} {k c m : Nat} (hc : I 0 18 = nI c) (hc20 : c < 20) (hm : m ≤ 30) (K : aTo L xs fv 111 d cd89 (323, [(0, .ref 0), (1, .ref (111 + 3 * k)), (4, .int x), (8, .int (1)), (9, .int (nI (m + 1)))], [], aHp r rr (bdy 0 18 29 I c [50]) J) P) : aCl L xs fv 111 (d + 1) 89 [.ref 0, .ref (111 + 3 * k), .int 3, .int 0, .int x, .int (nI m)] (aHp r rr I J) P := by
  refine cl_of rfl (Nat.le_add_right _ _) ?_
  refine go_v (cd := cd89) [6] 20 rfl ?_
  refine go_sb ?_ (l' := [(7, .int (0)), (6, .int 3), (0, .ref 0), (1, .ref (111 + 3 * k)), (3, .int 0), (4, .int x), (5, .int (nI m))]) ⟨rfl, rfl, rfl, rfl, rfl, rfl, rfl, trivial⟩ rfl rfl rfl
  refine go_v (cd := cd89) [] 20 rfl ?_
  refine go_st (cd := cd89) 1 rfl (go_ifF (by decide) ?_)
  refine go_v (cd := cd89) [] 20 rfl ?_
  refine go_st (cd := cd89) 1 rfl (go_ifF (by decide) ?_)
  refine go_v (cd := cd89) [] 20 rfl ?_
  refine go_ialdV (cd := cd89) (50) rfl (vin 21 rfl (by decide) (by decide)) rfl rfl ?_
  refine go_st (cd := cd89) 1 rfl (go_ifF (by decide) ?_)
  refine go_sb ?_ (l' := [(6, .int 3), (0, .ref 0), (1, .ref (111 + 3 * k)), (3, .int 0), (4, .int x), (5, .int (nI m))]) ⟨rfl, rfl, rfl, rfl, rfl, rfl, trivial⟩ rfl rfl rfl
  refine go_v (cd := cd89) [] 20 rfl ?_
  refine go_st (cd := cd89) 1 rfl (go_ifF (by decide) ?_)
  refine go_v (cd := cd89) [] 20 rfl ?_
  refine go_st (cd := cd89) 1 rfl (go_ifT (nI_le (b := 40) (by omega) (by decide)) ?_)
  refine go_v (cd := cd89) [] 20 rfl ?_
  refine go_ialdV (cd := cd89) (50) rfl (vin 21 rfl (by decide) (by decide)) rfl rfl ?_
  refine go_v (cd := cd89) [71] 20 rfl ?_
  refine go_sb ?_ (l' := [(7, .int 50), (6, .int 3), (0, .ref 0), (1, .ref (111 + 3 * k)), (3, .int 0), (4, .int x), (5, .int (nI m))]) ⟨rfl, rfl, rfl, rfl, rfl, rfl, rfl, trivial⟩ rfl rfl rfl
  refine go_v (cd := cd89) [] 20 rfl ?_
  refine go_st (cd := cd89) 1 rfl (go_ifF (show ¬ 20 ≤ I 0 18 from by rw [hc]; exact nI_ge (b := 20) (by omega) (by decide)) ?_)
  refine go_v (cd := cd89) [] 20 rfl ?_
  show aTo L xs fv 111 _ cd89 (90, _, [.int 50, .int (I 0 18), .ref 29], aHp r rr I J) P
  rw [hc]
  refine go_iast (cd := cd89) rfl (nI_vin (n := 20) (by omega) (by decide)) (lv3 rfl) rfl ?_
  rw [nI_clamp (show c < 2 ^ 31 by omega)]
  refine go_v (cd := cd89) [] 20 rfl ?_
  show aTo L xs fv 111 _ cd89 (106, _, [.int 3, .ref 1000], aHp r rr (up2 (up2 I 29 c 50) 0 18 (I 0 18 + 1)) J) P
  rw [hc, ← nI_succ]
  refine go_ialdV (cd := cd89) (1) rfl (vin 7 rfl (by decide) (by decide)) rfl rfl ?_
  refine go_v (cd := cd89) [] 20 rfl ?_
  refine go_lsw (cd := cd89) 323 rfl (by decide) ?_
  refine go_sb K ⟨rfl, rfl, rfl, rfl, ?_, trivial⟩ rfl rfl rfl
  show some (Value.int (nI m + 1)) = some (Value.int (nI (m + 1)))
  rw [nI_succ]
theorem pf_pre31 {x : Int32} {k c m : Nat} (hc : I 0 18 = nI c) (hc20 : c < 20) (hm : m ≤ 30) (K : aTo L xs fv 111 d cd89 (337, [(0, .ref 0), (1, .ref (111 + 3 * k)), (4, .int x), (8, .int (1)), (9, .int (nI (m + 1)))], [], aHp r rr (bdy 0 18 29 I c [51]) J) P) : aCl L xs fv 111 (d + 1) 89 [.ref 0, .ref (111 + 3 * k), .int 3, .int 1, .int x, .int (nI m)] (aHp r rr I J) P := by
  refine cl_of rfl (Nat.le_add_right _ _) ?_
  refine go_v (cd := cd89) [6] 20 rfl ?_
  refine go_sb ?_ (l' := [(7, .int (0)), (6, .int 3), (0, .ref 0), (1, .ref (111 + 3 * k)), (3, .int 1), (4, .int x), (5, .int (nI m))]) ⟨rfl, rfl, rfl, rfl, rfl, rfl, rfl, trivial⟩ rfl rfl rfl
  refine go_v (cd := cd89) [] 20 rfl ?_
  refine go_st (cd := cd89) 1 rfl (go_ifF (by decide) ?_)
  refine go_v (cd := cd89) [] 20 rfl ?_
  refine go_st (cd := cd89) 1 rfl (go_ifF (by decide) ?_)
  refine go_v (cd := cd89) [] 20 rfl ?_
  refine go_ialdV (cd := cd89) (51) rfl (vin 21 rfl (by decide) (by decide)) rfl rfl ?_
  refine go_st (cd := cd89) 1 rfl (go_ifF (by decide) ?_)
  refine go_sb ?_ (l' := [(6, .int 3), (0, .ref 0), (1, .ref (111 + 3 * k)), (3, .int 1), (4, .int x), (5, .int (nI m))]) ⟨rfl, rfl, rfl, rfl, rfl, rfl, trivial⟩ rfl rfl rfl
  refine go_v (cd := cd89) [] 20 rfl ?_
  refine go_st (cd := cd89) 1 rfl (go_ifF (by decide) ?_)
  refine go_v (cd := cd89) [] 20 rfl ?_
  refine go_st (cd := cd89) 1 rfl (go_ifT (nI_le (b := 40) (by omega) (by decide)) ?_)
  refine go_v (cd := cd89) [] 20 rfl ?_
  refine go_ialdV (cd := cd89) (51) rfl (vin 21 rfl (by decide) (by decide)) rfl rfl ?_
  refine go_v (cd := cd89) [71] 20 rfl ?_
  refine go_sb ?_ (l' := [(7, .int 51), (6, .int 3), (0, .ref 0), (1, .ref (111 + 3 * k)), (3, .int 1), (4, .int x), (5, .int (nI m))]) ⟨rfl, rfl, rfl, rfl, rfl, rfl, rfl, trivial⟩ rfl rfl rfl
  refine go_v (cd := cd89) [] 20 rfl ?_
  refine go_st (cd := cd89) 1 rfl (go_ifF (show ¬ 20 ≤ I 0 18 from by rw [hc]; exact nI_ge (b := 20) (by omega) (by decide)) ?_)
  refine go_v (cd := cd89) [] 20 rfl ?_
  show aTo L xs fv 111 _ cd89 (90, _, [.int 51, .int (I 0 18), .ref 29], aHp r rr I J) P
  rw [hc]
  refine go_iast (cd := cd89) rfl (nI_vin (n := 20) (by omega) (by decide)) (lv3 rfl) rfl ?_
  rw [nI_clamp (show c < 2 ^ 31 by omega)]
  refine go_v (cd := cd89) [] 20 rfl ?_
  show aTo L xs fv 111 _ cd89 (106, _, [.int 3, .ref 1000], aHp r rr (up2 (up2 I 29 c 51) 0 18 (I 0 18 + 1)) J) P
  rw [hc, ← nI_succ]
  refine go_ialdV (cd := cd89) (1) rfl (vin 7 rfl (by decide) (by decide)) rfl rfl ?_
  refine go_v (cd := cd89) [] 20 rfl ?_
  refine go_lsw (cd := cd89) 337 rfl (by decide) ?_
  refine go_sb K ⟨rfl, rfl, rfl, rfl, ?_, trivial⟩ rfl rfl rfl
  show some (Value.int (nI m + 1)) = some (Value.int (nI (m + 1)))
  rw [nI_succ]
theorem pf_pre32 {x : Int32} {k c m : Nat} (hc : I 0 18 = nI c) (hc20 : c < 20) (hm : m ≤ 30) (K : aTo L xs fv 111 d cd89 (244, [(0, .ref 0), (1, .ref (111 + 3 * k)), (4, .int x), (8, .int (-1)), (9, .int (nI (m + 1)))], [], aHp r rr (bdy 0 18 29 I c [12]) J) P) : aCl L xs fv 111 (d + 1) 89 [.ref 0, .ref (111 + 3 * k), .int 3, .int 2, .int x, .int (nI m)] (aHp r rr I J) P := by
  refine cl_of rfl (Nat.le_add_right _ _) ?_
  refine go_v (cd := cd89) [6] 20 rfl ?_
  refine go_sb ?_ (l' := [(7, .int (0)), (6, .int 3), (0, .ref 0), (1, .ref (111 + 3 * k)), (3, .int 2), (4, .int x), (5, .int (nI m))]) ⟨rfl, rfl, rfl, rfl, rfl, rfl, rfl, trivial⟩ rfl rfl rfl
  refine go_v (cd := cd89) [] 20 rfl ?_
  refine go_st (cd := cd89) 1 rfl (go_ifF (by decide) ?_)
  refine go_v (cd := cd89) [] 20 rfl ?_
  refine go_st (cd := cd89) 1 rfl (go_ifF (by decide) ?_)
  refine go_v (cd := cd89) [] 20 rfl ?_
  refine go_ialdV (cd := cd89) (0) rfl (vin 21 rfl (by decide) (by decide)) rfl rfl ?_
  refine go_st (cd := cd89) 1 rfl (go_ifT (by decide) ?_)
  refine go_v (cd := cd89) [] 20 rfl ?_
  refine go_ialdV (cd := cd89) (1) rfl (vin 7 rfl (by decide) (by decide)) rfl rfl ?_
  refine go_v (cd := cd89) [6] 20 rfl ?_
  refine go_sb ?_ (l' := [(7, .int (0 + 1)), (6, .int 1), (0, .ref 0), (1, .ref (111 + 3 * k)), (3, .int 2), (4, .int x), (5, .int (nI m))]) ⟨rfl, rfl, rfl, rfl, rfl, rfl, rfl, trivial⟩ rfl rfl rfl
  refine go_v (cd := cd89) [] 20 rfl ?_
  refine go_st (cd := cd89) 1 rfl (go_ifF (by decide) ?_)
  refine go_v (cd := cd89) [] 20 rfl ?_
  refine go_st (cd := cd89) 1 rfl (go_ifF (by decide) ?_)
  refine go_v (cd := cd89) [] 20 rfl ?_
  refine go_ialdV (cd := cd89) (0) rfl (vin 21 rfl (by decide) (by decide)) rfl rfl ?_
  refine go_st (cd := cd89) 1 rfl (go_ifT (by decide) ?_)
  refine go_v (cd := cd89) [] 20 rfl ?_
  refine go_ialdV (cd := cd89) (0) rfl (vin 7 rfl (by decide) (by decide)) rfl rfl ?_
  refine go_v (cd := cd89) [6] 20 rfl ?_
  refine go_sb ?_ (l' := [(7, .int (0 + 1 + 1)), (6, .int 0), (0, .ref 0), (1, .ref (111 + 3 * k)), (3, .int 2), (4, .int x), (5, .int (nI m))]) ⟨rfl, rfl, rfl, rfl, rfl, rfl, rfl, trivial⟩ rfl rfl rfl
  refine go_v (cd := cd89) [] 20 rfl ?_
  refine go_st (cd := cd89) 1 rfl (go_ifF (by decide) ?_)
  refine go_v (cd := cd89) [] 20 rfl ?_
  refine go_st (cd := cd89) 1 rfl (go_ifT (by decide) ?_)
  refine go_sb ?_ (l' := [(6, .int 0), (0, .ref 0), (1, .ref (111 + 3 * k)), (3, .int 2), (4, .int x), (5, .int (nI m))]) ⟨rfl, rfl, rfl, rfl, rfl, rfl, trivial⟩ rfl rfl rfl
  refine go_v (cd := cd89) [] 20 rfl ?_
  refine go_st (cd := cd89) 1 rfl (go_ifF (by decide) ?_)
  refine go_v (cd := cd89) [] 20 rfl ?_
  refine go_st (cd := cd89) 1 rfl (go_ifT (nI_le (b := 40) (by omega) (by decide)) ?_)
  refine go_v (cd := cd89) [] 20 rfl ?_
  refine go_ialdV (cd := cd89) (12) rfl (vin 21 rfl (by decide) (by decide)) rfl rfl ?_
  refine go_v (cd := cd89) [71] 20 rfl ?_
  refine go_sb ?_ (l' := [(7, .int 12), (6, .int 0), (0, .ref 0), (1, .ref (111 + 3 * k)), (3, .int 2), (4, .int x), (5, .int (nI m))]) ⟨rfl, rfl, rfl, rfl, rfl, rfl, rfl, trivial⟩ rfl rfl rfl
  refine go_v (cd := cd89) [] 20 rfl ?_
  refine go_st (cd := cd89) 1 rfl (go_ifF (show ¬ 20 ≤ I 0 18 from by rw [hc]; exact nI_ge (b := 20) (by omega) (by decide)) ?_)
  refine go_v (cd := cd89) [] 20 rfl ?_
  show aTo L xs fv 111 _ cd89 (90, _, [.int 12, .int (I 0 18), .ref 29], aHp r rr I J) P
  rw [hc]
  refine go_iast (cd := cd89) rfl (nI_vin (n := 20) (by omega) (by decide)) (lv3 rfl) rfl ?_
  rw [nI_clamp (show c < 2 ^ 31 by omega)]
  refine go_v (cd := cd89) [] 20 rfl ?_
  show aTo L xs fv 111 _ cd89 (106, _, [.int 0, .ref 1000], aHp r rr (up2 (up2 I 29 c 12) 0 18 (I 0 18 + 1)) J) P
  rw [hc, ← nI_succ]
  refine go_ialdV (cd := cd89) (-1) rfl (vin 7 rfl (by decide) (by decide)) rfl rfl ?_
  refine go_v (cd := cd89) [] 20 rfl ?_
  refine go_lsw (cd := cd89) 244 rfl (by decide) ?_
  refine go_sb K ⟨rfl, rfl, rfl, rfl, ?_, trivial⟩ rfl rfl rfl
  show some (Value.int (nI m + 1)) = some (Value.int (nI (m + 1)))
  rw [nI_succ]
theorem pf_pre40 {x : Int32} {k c m : Nat} (hc : I 0 18 = nI c) (hc20 : c < 20) (hm : m ≤ 30) (K : aTo L xs fv 111 d cd89 (277, [(0, .ref 0), (1, .ref (111 + 3 * k)), (4, .int x), (8, .int (0)), (9, .int (nI (m + 1)))], [], aHp r rr (bdy 0 18 29 I c [30]) J) P) : aCl L xs fv 111 (d + 1) 89 [.ref 0, .ref (111 + 3 * k), .int 4, .int 0, .int x, .int (nI m)] (aHp r rr I J) P := by
  refine cl_of rfl (Nat.le_add_right _ _) ?_
  refine go_v (cd := cd89) [6] 20 rfl ?_
  refine go_sb ?_ (l' := [(7, .int (0)), (6, .int 4), (0, .ref 0), (1, .ref (111 + 3 * k)), (3, .int 0), (4, .int x), (5, .int (nI m))]) ⟨rfl, rfl, rfl, rfl, rfl, rfl, rfl, trivial⟩ rfl rfl rfl
  refine go_v (cd := cd89) [] 20 rfl ?_
  refine go_st (cd := cd89) 1 rfl (go_ifF (by decide) ?_)
  refine go_v (cd := cd89) [] 20 rfl ?_
  refine go_st (cd := cd89) 1 rfl (go_ifF (by decide) ?_)
  refine go_v (cd := cd89) [] 20 rfl ?_
  refine go_ialdV (cd := cd89) (0) rfl (vin 21 rfl (by decide) (by decide)) rfl rfl ?_
  refine go_st (cd := cd89) 1 rfl (go_ifT (by decide) ?_)
  refine go_v (cd := cd89) [] 20 rfl ?_
  refine go_ialdV (cd := cd89) (2) rfl (vin 7 rfl (by decide) (by decide)) rfl rfl ?_
  refine go_v (cd := cd89) [6] 20 rfl ?_
  refine go_sb ?_ (l' := [(7, .int (0 + 1)), (6, .int 2), (0, .ref 0), (1, .ref (111 + 3 * k)), (3, .int 0), (4, .int x), (5, .int (nI m))]) ⟨rfl, rfl, rfl, rfl, rfl, rfl, rfl, trivial⟩ rfl rfl rfl
  refine go_v (cd := cd89) [] 20 rfl ?_
  refine go_st (cd := cd89) 1 rfl (go_ifF (by decide) ?_)
  refine go_v (cd := cd89) [] 20 rfl ?_
  refine go_st (cd := cd89) 1 rfl (go_ifF (by decide) ?_)
  refine go_v (cd := cd89) [] 20 rfl ?_
  refine go_ialdV (cd := cd89) (30) rfl (vin 21 rfl (by decide) (by decide)) rfl rfl ?_
  refine go_st (cd := cd89) 1 rfl (go_ifF (by decide) ?_)
  refine go_sb ?_ (l' := [(6, .int 2), (0, .ref 0), (1, .ref (111 + 3 * k)), (3, .int 0), (4, .int x), (5, .int (nI m))]) ⟨rfl, rfl, rfl, rfl, rfl, rfl, trivial⟩ rfl rfl rfl
  refine go_v (cd := cd89) [] 20 rfl ?_
  refine go_st (cd := cd89) 1 rfl (go_ifF (by decide) ?_)
  refine go_v (cd := cd89) [] 20 rfl ?_
  refine go_st (cd := cd89) 1 rfl (go_ifT (nI_le (b := 40) (by omega) (by decide)) ?_)
  refine go_v (cd := cd89) [] 20 rfl ?_
  refine go_ialdV (cd := cd89) (30) rfl (vin 21 rfl (by decide) (by decide)) rfl rfl ?_
  refine go_v (cd := cd89) [71] 20 rfl ?_
  refine go_sb ?_ (l' := [(7, .int 30), (6, .int 2), (0, .ref 0), (1, .ref (111 + 3 * k)), (3, .int 0), (4, .int x), (5, .int (nI m))]) ⟨rfl, rfl, rfl, rfl, rfl, rfl, rfl, trivial⟩ rfl rfl rfl
  refine go_v (cd := cd89) [] 20 rfl ?_
  refine go_st (cd := cd89) 1 rfl (go_ifF (show ¬ 20 ≤ I 0 18 from by rw [hc]; exact nI_ge (b := 20) (by omega) (by decide)) ?_)
  refine go_v (cd := cd89) [] 20 rfl ?_
  show aTo L xs fv 111 _ cd89 (90, _, [.int 30, .int (I 0 18), .ref 29], aHp r rr I J) P
  rw [hc]
  refine go_iast (cd := cd89) rfl (nI_vin (n := 20) (by omega) (by decide)) (lv3 rfl) rfl ?_
  rw [nI_clamp (show c < 2 ^ 31 by omega)]
  refine go_v (cd := cd89) [] 20 rfl ?_
  show aTo L xs fv 111 _ cd89 (106, _, [.int 2, .ref 1000], aHp r rr (up2 (up2 I 29 c 30) 0 18 (I 0 18 + 1)) J) P
  rw [hc, ← nI_succ]
  refine go_ialdV (cd := cd89) (0) rfl (vin 7 rfl (by decide) (by decide)) rfl rfl ?_
  refine go_v (cd := cd89) [] 20 rfl ?_
  refine go_lsw (cd := cd89) 277 rfl (by decide) ?_
  refine go_sb K ⟨rfl, rfl, rfl, rfl, ?_, trivial⟩ rfl rfl rfl
  show some (Value.int (nI m + 1)) = some (Value.int (nI (m + 1)))
  rw [nI_succ]
theorem pf_pre41 {x : Int32} {k c m : Nat} (hc : I 0 18 = nI c) (hc20 : c < 20) (hm : m ≤ 30) (K : aTo L xs fv 111 d cd89 (224, [(0, .ref 0), (1, .ref (111 + 3 * k)), (4, .int x), (8, .int (-1)), (9, .int (nI (m + 1)))], [], aHp r rr (bdy 0 18 29 I c [11]) J) P) : aCl L xs fv 111 (d + 1) 89 [.ref 0, .ref (111 + 3 * k), .int 4, .int 1, .int x, .int (nI m)] (aHp r rr I J) P := by
  refine cl_of rfl (Nat.le_add_right _ _) ?_
  refine go_v (cd := cd89) [6] 20 rfl ?_
  refine go_sb ?_ (l' := [(7, .int (0)), (6, .int 4), (0, .ref 0), (1, .ref (111 + 3 * k)), (3, .int 1), (4, .int x), (5, .int (nI m))]) ⟨rfl, rfl, rfl, rfl, rfl, rfl, rfl, trivial⟩ rfl rfl rfl
  refine go_v (cd := cd89) [] 20 rfl ?_
  refine go_st (cd := cd89) 1 rfl (go_ifF (by decide) ?_)
  refine go_v (cd := cd89) [] 20 rfl ?_
  refine go_st (cd := cd89) 1 rfl (go_ifF (by decide) ?_)
  refine go_v (cd := cd89) [] 20 rfl ?_
  refine go_ialdV (cd := cd89) (0) rfl (vin 21 rfl (by decide) (by decide)) rfl rfl ?_
  refine go_st (cd := cd89) 1 rfl (go_ifT (by decide) ?_)
  refine go_v (cd := cd89) [] 20 rfl ?_
  refine go_ialdV (cd := cd89) (2) rfl (vin 7 rfl (by decide) (by decide)) rfl rfl ?_
  refine go_v (cd := cd89) [6] 20 rfl ?_
  refine go_sb ?_ (l' := [(7, .int (0 + 1)), (6, .int 2), (0, .ref 0), (1, .ref (111 + 3 * k)), (3, .int 1), (4, .int x), (5, .int (nI m))]) ⟨rfl, rfl, rfl, rfl, rfl, rfl, rfl, trivial⟩ rfl rfl rfl
  refine go_v (cd := cd89) [] 20 rfl ?_
  refine go_st (cd := cd89) 1 rfl (go_ifF (by decide) ?_)
  refine go_v (cd := cd89) [] 20 rfl ?_
  refine go_st (cd := cd89) 1 rfl (go_ifF (by decide) ?_)
  refine go_v (cd := cd89) [] 20 rfl ?_
  refine go_ialdV (cd := cd89) (0) rfl (vin 21 rfl (by decide) (by decide)) rfl rfl ?_
  refine go_st (cd := cd89) 1 rfl (go_ifT (by decide) ?_)
  refine go_v (cd := cd89) [] 20 rfl ?_
  refine go_ialdV (cd := cd89) (0) rfl (vin 7 rfl (by decide) (by decide)) rfl rfl ?_
  refine go_v (cd := cd89) [6] 20 rfl ?_
  refine go_sb ?_ (l' := [(7, .int (0 + 1 + 1)), (6, .int 0), (0, .ref 0), (1, .ref (111 + 3 * k)), (3, .int 1), (4, .int x), (5, .int (nI m))]) ⟨rfl, rfl, rfl, rfl, rfl, rfl, rfl, trivial⟩ rfl rfl rfl
  refine go_v (cd := cd89) [] 20 rfl ?_
  refine go_st (cd := cd89) 1 rfl (go_ifF (by decide) ?_)
  refine go_v (cd := cd89) [] 20 rfl ?_
  refine go_st (cd := cd89) 1 rfl (go_ifT (by decide) ?_)
  refine go_sb ?_ (l' := [(6, .int 0), (0, .ref 0), (1, .ref (111 + 3 * k)), (3, .int 1), (4, .int x), (5, .int (nI m))]) ⟨rfl, rfl, rfl, rfl, rfl, rfl, trivial⟩ rfl rfl rfl
  refine go_v (cd := cd89) [] 20 rfl ?_
  refine go_st (cd := cd89) 1 rfl (go_ifF (by decide) ?_)
  refine go_v (cd := cd89) [] 20 rfl ?_
  refine go_st (cd := cd89) 1 rfl (go_ifT (nI_le (b := 40) (by omega) (by decide)) ?_)
  refine go_v (cd := cd89) [] 20 rfl ?_
  refine go_ialdV (cd := cd89) (11) rfl (vin 21 rfl (by decide) (by decide)) rfl rfl ?_
  refine go_v (cd := cd89) [71] 20 rfl ?_
  refine go_sb ?_ (l' := [(7, .int 11), (6, .int 0), (0, .ref 0), (1, .ref (111 + 3 * k)), (3, .int 1), (4, .int x), (5, .int (nI m))]) ⟨rfl, rfl, rfl, rfl, rfl, rfl, rfl, trivial⟩ rfl rfl rfl
  refine go_v (cd := cd89) [] 20 rfl ?_
  refine go_st (cd := cd89) 1 rfl (go_ifF (show ¬ 20 ≤ I 0 18 from by rw [hc]; exact nI_ge (b := 20) (by omega) (by decide)) ?_)
  refine go_v (cd := cd89) [] 20 rfl ?_
  show aTo L xs fv 111 _ cd89 (90, _, [.int 11, .int (I 0 18), .ref 29], aHp r rr I J) P
  rw [hc]
  refine go_iast (cd := cd89) rfl (nI_vin (n := 20) (by omega) (by decide)) (lv3 rfl) rfl ?_
  rw [nI_clamp (show c < 2 ^ 31 by omega)]
  refine go_v (cd := cd89) [] 20 rfl ?_
  show aTo L xs fv 111 _ cd89 (106, _, [.int 0, .ref 1000], aHp r rr (up2 (up2 I 29 c 11) 0 18 (I 0 18 + 1)) J) P
  rw [hc, ← nI_succ]
  refine go_ialdV (cd := cd89) (-1) rfl (vin 7 rfl (by decide) (by decide)) rfl rfl ?_
  refine go_v (cd := cd89) [] 20 rfl ?_
  refine go_lsw (cd := cd89) 224 rfl (by decide) ?_
  refine go_sb K ⟨rfl, rfl, rfl, rfl, ?_, trivial⟩ rfl rfl rfl
  show some (Value.int (nI m + 1)) = some (Value.int (nI (m + 1)))
  rw [nI_succ]
theorem pf_pre42 {x : Int32} {k c m : Nat} (hc : I 0 18 = nI c) (hc20 : c < 20) (hm : m ≤ 30) (K : aTo L xs fv 111 d cd89 (352, [(0, .ref 0), (1, .ref (111 + 3 * k)), (4, .int x), (8, .int (2)), (9, .int (nI (m + 1)))], [], aHp r rr (bdy 0 18 29 I c [60]) J) P) : aCl L xs fv 111 (d + 1) 89 [.ref 0, .ref (111 + 3 * k), .int 4, .int 2, .int x, .int (nI m)] (aHp r rr I J) P := by
  refine cl_of rfl (Nat.le_add_right _ _) ?_
  refine go_v (cd := cd89) [6] 20 rfl ?_
  refine go_sb ?_ (l' := [(7, .int (0)), (6, .int 4), (0, .ref 0), (1, .ref (111 + 3 * k)), (3, .int 2), (4, .int x), (5, .int (nI m))]) ⟨rfl, rfl, rfl, rfl, rfl, rfl, rfl, trivial⟩ rfl rfl rfl
  refine go_v (cd := cd89) [] 20 rfl ?_
  refine go_st (cd := cd89) 1 rfl (go_ifF (by decide) ?_)
  refine go_v (cd := cd89) [] 20 rfl ?_
  refine go_st (cd := cd89) 1 rfl (go_ifF (by decide) ?_)
  refine go_v (cd := cd89) [] 20 rfl ?_
  refine go_ialdV (cd := cd89) (60) rfl (vin 21 rfl (by decide) (by decide)) rfl rfl ?_
  refine go_st (cd := cd89) 1 rfl (go_ifF (by decide) ?_)
  refine go_sb ?_ (l' := [(6, .int 4), (0, .ref 0), (1, .ref (111 + 3 * k)), (3, .int 2), (4, .int x), (5, .int (nI m))]) ⟨rfl, rfl, rfl, rfl, rfl, rfl, trivial⟩ rfl rfl rfl
  refine go_v (cd := cd89) [] 20 rfl ?_
  refine go_st (cd := cd89) 1 rfl (go_ifF (by decide) ?_)
  refine go_v (cd := cd89) [] 20 rfl ?_
  refine go_st (cd := cd89) 1 rfl (go_ifT (nI_le (b := 40) (by omega) (by decide)) ?_)
  refine go_v (cd := cd89) [] 20 rfl ?_
  refine go_ialdV (cd := cd89) (60) rfl (vin 21 rfl (by decide) (by decide)) rfl rfl ?_
  refine go_v (cd := cd89) [71] 20 rfl ?_
  refine go_sb ?_ (l' := [(7, .int 60), (6, .int 4), (0, .ref 0), (1, .ref (111 + 3 * k)), (3, .int 2), (4, .int x), (5, .int (nI m))]) ⟨rfl, rfl, rfl, rfl, rfl, rfl, rfl, trivial⟩ rfl rfl rfl
  refine go_v (cd := cd89) [] 20 rfl ?_
  refine go_st (cd := cd89) 1 rfl (go_ifF (show ¬ 20 ≤ I 0 18 from by rw [hc]; exact nI_ge (b := 20) (by omega) (by decide)) ?_)
  refine go_v (cd := cd89) [] 20 rfl ?_
  show aTo L xs fv 111 _ cd89 (90, _, [.int 60, .int (I 0 18), .ref 29], aHp r rr I J) P
  rw [hc]
  refine go_iast (cd := cd89) rfl (nI_vin (n := 20) (by omega) (by decide)) (lv3 rfl) rfl ?_
  rw [nI_clamp (show c < 2 ^ 31 by omega)]
  refine go_v (cd := cd89) [] 20 rfl ?_
  show aTo L xs fv 111 _ cd89 (106, _, [.int 4, .ref 1000], aHp r rr (up2 (up2 I 29 c 60) 0 18 (I 0 18 + 1)) J) P
  rw [hc, ← nI_succ]
  refine go_ialdV (cd := cd89) (2) rfl (vin 7 rfl (by decide) (by decide)) rfl rfl ?_
  refine go_v (cd := cd89) [] 20 rfl ?_
  refine go_lsw (cd := cd89) 352 rfl (by decide) ?_
  refine go_sb K ⟨rfl, rfl, rfl, rfl, ?_, trivial⟩ rfl rfl rfl
  show some (Value.int (nI m + 1)) = some (Value.int (nI (m + 1)))
  rw [nI_succ]
theorem pf_pre50 {x : Int32} {k c m : Nat} (hc : I 0 18 = nI c) (hc20 : c < 20) (hm : m ≤ 30) (K : aTo L xs fv 111 d cd89 (216, [(0, .ref 0), (1, .ref (111 + 3 * k)), (4, .int x), (8, .int (-1)), (9, .int (nI (m + 1)))], [], aHp r rr (bdy 0 18 29 I c [10]) J) P) : aCl L xs fv 111 (d + 1) 89 [.ref 0, .ref (111 + 3 * k), .int 5, .int 0, .int x, .int (nI m)] (aHp r rr I J) P := by
  refine cl_of rfl (Nat.le_add_right _ _) ?_
  refine go_v (cd := cd89) [6] 20 rfl ?_
  refine go_sb ?_ (l' := [(7, .int (0)), (6, .int 5), (0, .ref 0), (1, .ref (111 + 3 * k)), (3, .int 0), (4, .int x), (5, .int (nI m))]) ⟨rfl, rfl, rfl, rfl, rfl, rfl, rfl, trivial⟩ rfl rfl rfl
  refine go_v (cd := cd89) [] 20 rfl ?_
  refine go_st (cd := cd89) 1 rfl (go_ifF (by decide) ?_)
  refine go_v (cd := cd89) [] 20 rfl ?_
  refine go_st (cd := cd89) 1 rfl (go_ifF (by decide) ?_)
  refine go_v (cd := cd89) [] 20 rfl ?_
  refine go_ialdV (cd := cd89) (0) rfl (vin 21 rfl (by decide) (by decide)) rfl rfl ?_
  refine go_st (cd := cd89) 1 rfl (go_ifT (by decide) ?_)
  refine go_v (cd := cd89) [] 20 rfl ?_
  refine go_ialdV (cd := cd89) (0) rfl (vin 7 rfl (by decide) (by decide)) rfl rfl ?_
  refine go_v (cd := cd89) [6] 20 rfl ?_
  refine go_sb ?_ (l' := [(7, .int (0 + 1)), (6, .int 0), (0, .ref 0), (1, .ref (111 + 3 * k)), (3, .int 0), (4, .int x), (5, .int (nI m))]) ⟨rfl, rfl, rfl, rfl, rfl, rfl, rfl, trivial⟩ rfl rfl rfl
  refine go_v (cd := cd89) [] 20 rfl ?_
  refine go_st (cd := cd89) 1 rfl (go_ifF (by decide) ?_)
  refine go_v (cd := cd89) [] 20 rfl ?_
  refine go_st (cd := cd89) 1 rfl (go_ifT (by decide) ?_)
  refine go_sb ?_ (l' := [(6, .int 0), (0, .ref 0), (1, .ref (111 + 3 * k)), (3, .int 0), (4, .int x), (5, .int (nI m))]) ⟨rfl, rfl, rfl, rfl, rfl, rfl, trivial⟩ rfl rfl rfl
  refine go_v (cd := cd89) [] 20 rfl ?_
  refine go_st (cd := cd89) 1 rfl (go_ifF (by decide) ?_)
  refine go_v (cd := cd89) [] 20 rfl ?_
  refine go_st (cd := cd89) 1 rfl (go_ifT (nI_le (b := 40) (by omega) (by decide)) ?_)
  refine go_v (cd := cd89) [] 20 rfl ?_
  refine go_ialdV (cd := cd89) (10) rfl (vin 21 rfl (by decide) (by decide)) rfl rfl ?_
  refine go_v (cd := cd89) [71] 20 rfl ?_
  refine go_sb ?_ (l' := [(7, .int 10), (6, .int 0), (0, .ref 0), (1, .ref (111 + 3 * k)), (3, .int 0), (4, .int x), (5, .int (nI m))]) ⟨rfl, rfl, rfl, rfl, rfl, rfl, rfl, trivial⟩ rfl rfl rfl
  refine go_v (cd := cd89) [] 20 rfl ?_
  refine go_st (cd := cd89) 1 rfl (go_ifF (show ¬ 20 ≤ I 0 18 from by rw [hc]; exact nI_ge (b := 20) (by omega) (by decide)) ?_)
  refine go_v (cd := cd89) [] 20 rfl ?_
  show aTo L xs fv 111 _ cd89 (90, _, [.int 10, .int (I 0 18), .ref 29], aHp r rr I J) P
  rw [hc]
  refine go_iast (cd := cd89) rfl (nI_vin (n := 20) (by omega) (by decide)) (lv3 rfl) rfl ?_
  rw [nI_clamp (show c < 2 ^ 31 by omega)]
  refine go_v (cd := cd89) [] 20 rfl ?_
  show aTo L xs fv 111 _ cd89 (106, _, [.int 0, .ref 1000], aHp r rr (up2 (up2 I 29 c 10) 0 18 (I 0 18 + 1)) J) P
  rw [hc, ← nI_succ]
  refine go_ialdV (cd := cd89) (-1) rfl (vin 7 rfl (by decide) (by decide)) rfl rfl ?_
  refine go_v (cd := cd89) [] 20 rfl ?_
  refine go_lsw (cd := cd89) 216 rfl (by decide) ?_
  refine go_sb K ⟨rfl, rfl, rfl, rfl, ?_, trivial⟩ rfl rfl rfl
  show some (Value.int (nI m + 1)) = some (Value.int (nI (m + 1)))
  rw [nI_succ]
theorem pf_pre51 {x : Int32} {k c m : Nat} (hc : I 0 18 = nI c) (hc20 : c < 20) (hm : m ≤ 30) (K : aTo L xs fv 111 d cd89 (224, [(0, .ref 0), (1, .ref (111 + 3 * k)), (4, .int x), (8, .int (-1)), (9, .int (nI (m + 1)))], [], aHp r rr (bdy 0 18 29 I c [11]) J) P) : aCl L xs fv 111 (d + 1) 89 [.ref 0, .ref (111 + 3 * k), .int 5, .int 1, .int x, .int (nI m)] (aHp r rr I J) P := by
  refine cl_of rfl (Nat.le_add_right _ _) ?_
  refine go_v (cd := cd89) [6] 20 rfl ?_
  refine go_sb ?_ (l' := [(7, .int (0)), (6, .int 5), (0, .ref 0), (1, .ref (111 + 3 * k)), (3, .int 1), (4, .int x), (5, .int (nI m))]) ⟨rfl, rfl, rfl, rfl, rfl, rfl, rfl, trivial⟩ rfl rfl rfl
  refine go_v (cd := cd89) [] 20 rfl ?_
  refine go_st (cd := cd89) 1 rfl (go_ifF (by decide) ?_)
  refine go_v (cd := cd89) [] 20 rfl ?_
  refine go_st (cd := cd89) 1 rfl (go_ifF (by decide) ?_)
  refine go_v (cd := cd89) [] 20 rfl ?_
  refine go_ialdV (cd := cd89) (0) rfl (vin 21 rfl (by decide) (by decide)) rfl rfl ?_
  refine go_st (cd := cd89) 1 rfl (go_ifT (by decide) ?_)
  refine go_v (cd := cd89) [] 20 rfl ?_
  refine go_ialdV (cd := cd89) (0) rfl (vin 7 rfl (by decide) (by decide)) rfl rfl ?_
  refine go_v (cd := cd89) [6] 20 rfl ?_
  refine go_sb ?_ (l' := [(7, .int (0 + 1)), (6, .int 0), (0, .ref 0), (1, .ref (111 + 3 * k)), (3, .int 1), (4, .int x), (5, .int (nI m))]) ⟨rfl, rfl, rfl, rfl, rfl, rfl, rfl, trivial⟩ rfl rfl rfl
  refine go_v (cd := cd89) [] 20 rfl ?_
  refine go_st (cd := cd89) 1 rfl (go_ifF (by decide) ?_)
  refine go_v (cd := cd89) [] 20 rfl ?_
  refine go_st (cd := cd89) 1 rfl (go_ifT (by decide) ?_)
  refine go_sb ?_ (l' := [(6, .int 0), (0, .ref 0), (1, .ref (111 + 3 * k)), (3, .int 1), (4, .int x), (5, .int (nI m))]) ⟨rfl, rfl, rfl, rfl, rfl, rfl, trivial⟩ rfl rfl rfl
  refine go_v (cd := cd89) [] 20 rfl ?_
  refine go_st (cd := cd89) 1 rfl (go_ifF (by decide) ?_)
  refine go_v (cd := cd89) [] 20 rfl ?_
  refine go_st (cd := cd89) 1 rfl (go_ifT (nI_le (b := 40) (by omega) (by decide)) ?_)
  refine go_v (cd := cd89) [] 20 rfl ?_
  refine go_ialdV (cd := cd89) (11) rfl (vin 21 rfl (by decide) (by decide)) rfl rfl ?_
  refine go_v (cd := cd89) [71] 20 rfl ?_
  refine go_sb ?_ (l' := [(7, .int 11), (6, .int 0), (0, .ref 0), (1, .ref (111 + 3 * k)), (3, .int 1), (4, .int x), (5, .int (nI m))]) ⟨rfl, rfl, rfl, rfl, rfl, rfl, rfl, trivial⟩ rfl rfl rfl
  refine go_v (cd := cd89) [] 20 rfl ?_
  refine go_st (cd := cd89) 1 rfl (go_ifF (show ¬ 20 ≤ I 0 18 from by rw [hc]; exact nI_ge (b := 20) (by omega) (by decide)) ?_)
  refine go_v (cd := cd89) [] 20 rfl ?_
  show aTo L xs fv 111 _ cd89 (90, _, [.int 11, .int (I 0 18), .ref 29], aHp r rr I J) P
  rw [hc]
  refine go_iast (cd := cd89) rfl (nI_vin (n := 20) (by omega) (by decide)) (lv3 rfl) rfl ?_
  rw [nI_clamp (show c < 2 ^ 31 by omega)]
  refine go_v (cd := cd89) [] 20 rfl ?_
  show aTo L xs fv 111 _ cd89 (106, _, [.int 0, .ref 1000], aHp r rr (up2 (up2 I 29 c 11) 0 18 (I 0 18 + 1)) J) P
  rw [hc, ← nI_succ]
  refine go_ialdV (cd := cd89) (-1) rfl (vin 7 rfl (by decide) (by decide)) rfl rfl ?_
  refine go_v (cd := cd89) [] 20 rfl ?_
  refine go_lsw (cd := cd89) 224 rfl (by decide) ?_
  refine go_sb K ⟨rfl, rfl, rfl, rfl, ?_, trivial⟩ rfl rfl rfl
  show some (Value.int (nI m + 1)) = some (Value.int (nI (m + 1)))
  rw [nI_succ]
theorem pf_pre52 {x : Int32} {k c m : Nat} (hc : I 0 18 = nI c) (hc20 : c < 20) (hm : m ≤ 30) (K : aTo L xs fv 111 d cd89 (292, [(0, .ref 0), (1, .ref (111 + 3 * k)), (4, .int x), (8, .int (0)), (9, .int (nI (m + 1)))], [], aHp r rr (bdy 0 18 29 I c [40]) J) P) : aCl L xs fv 111 (d + 1) 89 [.ref 0, .ref (111 + 3 * k), .int 5, .int 2, .int x, .int (nI m)] (aHp r rr I J) P := by
  refine cl_of rfl (Nat.le_add_right _ _) ?_
  refine go_v (cd := cd89) [6] 20 rfl ?_
  refine go_sb ?_ (l' := [(7, .int (0)), (6, .int 5), (0, .ref 0), (1, .ref (111 + 3 * k)), (3, .int 2), (4, .int x), (5, .int (nI m))]) ⟨rfl, rfl, rfl, rfl, rfl, rfl, rfl, trivial⟩ rfl rfl rfl
  refine go_v (cd := cd89) [] 20 rfl ?_
  refine go_st (cd := cd89) 1 rfl (go_ifF (by decide) ?_)
  refine go_v (cd := cd89) [] 20 rfl ?_
  refine go_st (cd := cd89) 1 rfl (go_ifF (by decide) ?_)
  refine go_v (cd := cd89) [] 20 rfl ?_
  refine go_ialdV (cd := cd89) (40) rfl (vin 21 rfl (by decide) (by decide)) rfl rfl ?_
  refine go_st (cd := cd89) 1 rfl (go_ifF (by decide) ?_)
  refine go_sb ?_ (l' := [(6, .int 5), (0, .ref 0), (1, .ref (111 + 3 * k)), (3, .int 2), (4, .int x), (5, .int (nI m))]) ⟨rfl, rfl, rfl, rfl, rfl, rfl, trivial⟩ rfl rfl rfl
  refine go_v (cd := cd89) [] 20 rfl ?_
  refine go_st (cd := cd89) 1 rfl (go_ifF (by decide) ?_)
  refine go_v (cd := cd89) [] 20 rfl ?_
  refine go_st (cd := cd89) 1 rfl (go_ifT (nI_le (b := 40) (by omega) (by decide)) ?_)
  refine go_v (cd := cd89) [] 20 rfl ?_
  refine go_ialdV (cd := cd89) (40) rfl (vin 21 rfl (by decide) (by decide)) rfl rfl ?_
  refine go_v (cd := cd89) [71] 20 rfl ?_
  refine go_sb ?_ (l' := [(7, .int 40), (6, .int 5), (0, .ref 0), (1, .ref (111 + 3 * k)), (3, .int 2), (4, .int x), (5, .int (nI m))]) ⟨rfl, rfl, rfl, rfl, rfl, rfl, rfl, trivial⟩ rfl rfl rfl
  refine go_v (cd := cd89) [] 20 rfl ?_
  refine go_st (cd := cd89) 1 rfl (go_ifF (show ¬ 20 ≤ I 0 18 from by rw [hc]; exact nI_ge (b := 20) (by omega) (by decide)) ?_)
  refine go_v (cd := cd89) [] 20 rfl ?_
  show aTo L xs fv 111 _ cd89 (90, _, [.int 40, .int (I 0 18), .ref 29], aHp r rr I J) P
  rw [hc]
  refine go_iast (cd := cd89) rfl (nI_vin (n := 20) (by omega) (by decide)) (lv3 rfl) rfl ?_
  rw [nI_clamp (show c < 2 ^ 31 by omega)]
  refine go_v (cd := cd89) [] 20 rfl ?_
  show aTo L xs fv 111 _ cd89 (106, _, [.int 5, .ref 1000], aHp r rr (up2 (up2 I 29 c 40) 0 18 (I 0 18 + 1)) J) P
  rw [hc, ← nI_succ]
  refine go_ialdV (cd := cd89) (0) rfl (vin 7 rfl (by decide) (by decide)) rfl rfl ?_
  refine go_v (cd := cd89) [] 20 rfl ?_
  refine go_lsw (cd := cd89) 292 rfl (by decide) ?_
  refine go_sb K ⟨rfl, rfl, rfl, rfl, ?_, trivial⟩ rfl rfl rfl
  show some (Value.int (nI m + 1)) = some (Value.int (nI (m + 1)))
  rw [nI_succ]
theorem pf_pre60 {x : Int32} {k c m : Nat} (hc : I 0 18 = nI c) (hc20 : c < 20) (hm : m ≤ 30) (K : aTo L xs fv 111 d cd89 (399, [(0, .ref 0), (1, .ref (111 + 3 * k)), (4, .int x), (8, .int (5)), (9, .int (nI (m + 1)))], [], aHp r rr (bdy 0 18 29 I c [71]) J) P) : aCl L xs fv 111 (d + 1) 89 [.ref 0, .ref (111 + 3 * k), .int 6, .int 0, .int x, .int (nI m)] (aHp r rr I J) P := by
  refine cl_of rfl (Nat.le_add_right _ _) ?_
  refine go_v (cd := cd89) [6] 20 rfl ?_
  refine go_sb ?_ (l' := [(7, .int (0)), (6, .int 6), (0, .ref 0), (1, .ref (111 + 3 * k)), (3, .int 0), (4, .int x), (5, .int (nI m))]) ⟨rfl, rfl, rfl, rfl, rfl, rfl, rfl, trivial⟩ rfl rfl rfl
  refine go_v (cd := cd89) [] 20 rfl ?_
  refine go_st (cd := cd89) 1 rfl (go_ifF (by decide) ?_)
  refine go_v (cd := cd89) [] 20 rfl ?_
  refine go_st (cd := cd89) 1 rfl (go_ifF (by decide) ?_)
  refine go_v (cd := cd89) [] 20 rfl ?_
  refine go_ialdV (cd := cd89) (71) rfl (vin 21 rfl (by decide) (by decide)) rfl rfl ?_
  refine go_st (cd := cd89) 1 rfl (go_ifF (by decide) ?_)
  refine go_sb ?_ (l' := [(6, .int 6), (0, .ref 0), (1, .ref (111 + 3 * k)), (3, .int 0), (4, .int x), (5, .int (nI m))]) ⟨rfl, rfl, rfl, rfl, rfl, rfl, trivial⟩ rfl rfl rfl
  refine go_v (cd := cd89) [] 20 rfl ?_
  refine go_st (cd := cd89) 1 rfl (go_ifF (by decide) ?_)
  refine go_v (cd := cd89) [] 20 rfl ?_
  refine go_st (cd := cd89) 1 rfl (go_ifT (nI_le (b := 40) (by omega) (by decide)) ?_)
  refine go_v (cd := cd89) [] 20 rfl ?_
  refine go_ialdV (cd := cd89) (71) rfl (vin 21 rfl (by decide) (by decide)) rfl rfl ?_
  refine go_v (cd := cd89) [71] 20 rfl ?_
  refine go_sb ?_ (l' := [(7, .int 71), (6, .int 6), (0, .ref 0), (1, .ref (111 + 3 * k)), (3, .int 0), (4, .int x), (5, .int (nI m))]) ⟨rfl, rfl, rfl, rfl, rfl, rfl, rfl, trivial⟩ rfl rfl rfl
  refine go_v (cd := cd89) [] 20 rfl ?_
  refine go_st (cd := cd89) 1 rfl (go_ifF (show ¬ 20 ≤ I 0 18 from by rw [hc]; exact nI_ge (b := 20) (by omega) (by decide)) ?_)
  refine go_v (cd := cd89) [] 20 rfl ?_
  show aTo L xs fv 111 _ cd89 (90, _, [.int 71, .int (I 0 18), .ref 29], aHp r rr I J) P
  rw [hc]
  refine go_iast (cd := cd89) rfl (nI_vin (n := 20) (by omega) (by decide)) (lv3 rfl) rfl ?_
  rw [nI_clamp (show c < 2 ^ 31 by omega)]
  refine go_v (cd := cd89) [] 20 rfl ?_
  show aTo L xs fv 111 _ cd89 (106, _, [.int 6, .ref 1000], aHp r rr (up2 (up2 I 29 c 71) 0 18 (I 0 18 + 1)) J) P
  rw [hc, ← nI_succ]
  refine go_ialdV (cd := cd89) (5) rfl (vin 7 rfl (by decide) (by decide)) rfl rfl ?_
  refine go_v (cd := cd89) [] 20 rfl ?_
  refine go_lsw (cd := cd89) 399 rfl (by decide) ?_
  refine go_sb K ⟨rfl, rfl, rfl, rfl, ?_, trivial⟩ rfl rfl rfl
  show some (Value.int (nI m + 1)) = some (Value.int (nI (m + 1)))
  rw [nI_succ]
theorem pf_pre61 {x : Int32} {k c m : Nat} (hc : I 0 18 = nI c) (hc20 : c < 20) (hm : m ≤ 30) (K : aTo L xs fv 111 d cd89 (370, [(0, .ref 0), (1, .ref (111 + 3 * k)), (4, .int x), (8, .int (5)), (9, .int (nI (m + 1)))], [], aHp r rr (bdy 0 18 29 I c [70]) J) P) : aCl L xs fv 111 (d + 1) 89 [.ref 0, .ref (111 + 3 * k), .int 6, .int 1, .int x, .int (nI m)] (aHp r rr I J) P := by
  refine cl_of rfl (Nat.le_add_right _ _) ?_
  refine go_v (cd := cd89) [6] 20 rfl ?_
  refine go_sb ?_ (l' := [(7, .int (0)), (6, .int 6), (0, .ref 0), (1, .ref (111 + 3 * k)), (3, .int 1), (4, .int x), (5, .int (nI m))]) ⟨rfl, rfl, rfl, rfl, rfl, rfl, rfl, trivial⟩ rfl rfl rfl
  refine go_v (cd := cd89) [] 20 rfl ?_
  refine go_st (cd := cd89) 1 rfl (go_ifF (by decide) ?_)
  refine go_v (cd := cd89) [] 20 rfl ?_
  refine go_st (cd := cd89) 1 rfl (go_ifF (by decide) ?_)
  refine go_v (cd := cd89) [] 20 rfl ?_
  refine go_ialdV (cd := cd89) (70) rfl (vin 21 rfl (by decide) (by decide)) rfl rfl ?_
  refine go_st (cd := cd89) 1 rfl (go_ifF (by decide) ?_)
  refine go_sb ?_ (l' := [(6, .int 6), (0, .ref 0), (1, .ref (111 + 3 * k)), (3, .int 1), (4, .int x), (5, .int (nI m))]) ⟨rfl, rfl, rfl, rfl, rfl, rfl, trivial⟩ rfl rfl rfl
  refine go_v (cd := cd89) [] 20 rfl ?_
  refine go_st (cd := cd89) 1 rfl (go_ifF (by decide) ?_)
  refine go_v (cd := cd89) [] 20 rfl ?_
  refine go_st (cd := cd89) 1 rfl (go_ifT (nI_le (b := 40) (by omega) (by decide)) ?_)
  refine go_v (cd := cd89) [] 20 rfl ?_
  refine go_ialdV (cd := cd89) (70) rfl (vin 21 rfl (by decide) (by decide)) rfl rfl ?_
  refine go_v (cd := cd89) [71] 20 rfl ?_
  refine go_sb ?_ (l' := [(7, .int 70), (6, .int 6), (0, .ref 0), (1, .ref (111 + 3 * k)), (3, .int 1), (4, .int x), (5, .int (nI m))]) ⟨rfl, rfl, rfl, rfl, rfl, rfl, rfl, trivial⟩ rfl rfl rfl
  refine go_v (cd := cd89) [] 20 rfl ?_
  refine go_st (cd := cd89) 1 rfl (go_ifF (show ¬ 20 ≤ I 0 18 from by rw [hc]; exact nI_ge (b := 20) (by omega) (by decide)) ?_)
  refine go_v (cd := cd89) [] 20 rfl ?_
  show aTo L xs fv 111 _ cd89 (90, _, [.int 70, .int (I 0 18), .ref 29], aHp r rr I J) P
  rw [hc]
  refine go_iast (cd := cd89) rfl (nI_vin (n := 20) (by omega) (by decide)) (lv3 rfl) rfl ?_
  rw [nI_clamp (show c < 2 ^ 31 by omega)]
  refine go_v (cd := cd89) [] 20 rfl ?_
  show aTo L xs fv 111 _ cd89 (106, _, [.int 6, .ref 1000], aHp r rr (up2 (up2 I 29 c 70) 0 18 (I 0 18 + 1)) J) P
  rw [hc, ← nI_succ]
  refine go_ialdV (cd := cd89) (5) rfl (vin 7 rfl (by decide) (by decide)) rfl rfl ?_
  refine go_v (cd := cd89) [] 20 rfl ?_
  refine go_lsw (cd := cd89) 370 rfl (by decide) ?_
  refine go_sb K ⟨rfl, rfl, rfl, rfl, ?_, trivial⟩ rfl rfl rfl
  show some (Value.int (nI m + 1)) = some (Value.int (nI (m + 1)))
  rw [nI_succ]
theorem pf_pre62 {x : Int32} {k c m : Nat} (hc : I 0 18 = nI c) (hc20 : c < 20) (hm : m ≤ 30) (K : aTo L xs fv 111 d cd89 (292, [(0, .ref 0), (1, .ref (111 + 3 * k)), (4, .int x), (8, .int (0)), (9, .int (nI (m + 1)))], [], aHp r rr (bdy 0 18 29 I c [40]) J) P) : aCl L xs fv 111 (d + 1) 89 [.ref 0, .ref (111 + 3 * k), .int 6, .int 2, .int x, .int (nI m)] (aHp r rr I J) P := by
  refine cl_of rfl (Nat.le_add_right _ _) ?_
  refine go_v (cd := cd89) [6] 20 rfl ?_
  refine go_sb ?_ (l' := [(7, .int (0)), (6, .int 6), (0, .ref 0), (1, .ref (111 + 3 * k)), (3, .int 2), (4, .int x), (5, .int (nI m))]) ⟨rfl, rfl, rfl, rfl, rfl, rfl, rfl, trivial⟩ rfl rfl rfl
  refine go_v (cd := cd89) [] 20 rfl ?_
  refine go_st (cd := cd89) 1 rfl (go_ifF (by decide) ?_)
  refine go_v (cd := cd89) [] 20 rfl ?_
  refine go_st (cd := cd89) 1 rfl (go_ifF (by decide) ?_)
  refine go_v (cd := cd89) [] 20 rfl ?_
  refine go_ialdV (cd := cd89) (0) rfl (vin 21 rfl (by decide) (by decide)) rfl rfl ?_
  refine go_st (cd := cd89) 1 rfl (go_ifT (by decide) ?_)
  refine go_v (cd := cd89) [] 20 rfl ?_
  refine go_ialdV (cd := cd89) (5) rfl (vin 7 rfl (by decide) (by decide)) rfl rfl ?_
  refine go_v (cd := cd89) [6] 20 rfl ?_
  refine go_sb ?_ (l' := [(7, .int (0 + 1)), (6, .int 5), (0, .ref 0), (1, .ref (111 + 3 * k)), (3, .int 2), (4, .int x), (5, .int (nI m))]) ⟨rfl, rfl, rfl, rfl, rfl, rfl, rfl, trivial⟩ rfl rfl rfl
  refine go_v (cd := cd89) [] 20 rfl ?_
  refine go_st (cd := cd89) 1 rfl (go_ifF (by decide) ?_)
  refine go_v (cd := cd89) [] 20 rfl ?_
  refine go_st (cd := cd89) 1 rfl (go_ifF (by decide) ?_)
  refine go_v (cd := cd89) [] 20 rfl ?_
  refine go_ialdV (cd := cd89) (40) rfl (vin 21 rfl (by decide) (by decide)) rfl rfl ?_
  refine go_st (cd := cd89) 1 rfl (go_ifF (by decide) ?_)
  refine go_sb ?_ (l' := [(6, .int 5), (0, .ref 0), (1, .ref (111 + 3 * k)), (3, .int 2), (4, .int x), (5, .int (nI m))]) ⟨rfl, rfl, rfl, rfl, rfl, rfl, trivial⟩ rfl rfl rfl
  refine go_v (cd := cd89) [] 20 rfl ?_
  refine go_st (cd := cd89) 1 rfl (go_ifF (by decide) ?_)
  refine go_v (cd := cd89) [] 20 rfl ?_
  refine go_st (cd := cd89) 1 rfl (go_ifT (nI_le (b := 40) (by omega) (by decide)) ?_)
  refine go_v (cd := cd89) [] 20 rfl ?_
  refine go_ialdV (cd := cd89) (40) rfl (vin 21 rfl (by decide) (by decide)) rfl rfl ?_
  refine go_v (cd := cd89) [71] 20 rfl ?_
  refine go_sb ?_ (l' := [(7, .int 40), (6, .int 5), (0, .ref 0), (1, .ref (111 + 3 * k)), (3, .int 2), (4, .int x), (5, .int (nI m))]) ⟨rfl, rfl, rfl, rfl, rfl, rfl, rfl, trivial⟩ rfl rfl rfl
  refine go_v (cd := cd89) [] 20 rfl ?_
  refine go_st (cd := cd89) 1 rfl (go_ifF (show ¬ 20 ≤ I 0 18 from by rw [hc]; exact nI_ge (b := 20) (by omega) (by decide)) ?_)
  refine go_v (cd := cd89) [] 20 rfl ?_
  show aTo L xs fv 111 _ cd89 (90, _, [.int 40, .int (I 0 18), .ref 29], aHp r rr I J) P
  rw [hc]
  refine go_iast (cd := cd89) rfl (nI_vin (n := 20) (by omega) (by decide)) (lv3 rfl) rfl ?_
  rw [nI_clamp (show c < 2 ^ 31 by omega)]
  refine go_v (cd := cd89) [] 20 rfl ?_
  show aTo L xs fv 111 _ cd89 (106, _, [.int 5, .ref 1000], aHp r rr (up2 (up2 I 29 c 40) 0 18 (I 0 18 + 1)) J) P
  rw [hc, ← nI_succ]
  refine go_ialdV (cd := cd89) (0) rfl (vin 7 rfl (by decide) (by decide)) rfl rfl ?_
  refine go_v (cd := cd89) [] 20 rfl ?_
  refine go_lsw (cd := cd89) 292 rfl (by decide) ?_
  refine go_sb K ⟨rfl, rfl, rfl, rfl, ?_, trivial⟩ rfl rfl rfl
  show some (Value.int (nI m + 1)) = some (Value.int (nI (m + 1)))
  rw [nI_succ]
end AC
