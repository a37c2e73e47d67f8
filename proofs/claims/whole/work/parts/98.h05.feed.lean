/-! feed -/
theorem fa_byte_low (x : Int32) : (x &&& 255).toInt8 = x.toInt8 := by
  apply Int8.toBitVec_inj.1
  apply BitVec.eq_of_getLsbD_eq
  intro i hi
  have h2 : (255 : Int32).toBitVec.getLsbD i = true := by
    have : ∀ j : Fin 8, (255 : Int32).toBitVec.getLsbD j.val = true := by decide +kernel
    exact this ⟨i, hi⟩
  have h4 : (x &&& 255).toBitVec.getLsbD i = x.toBitVec.getLsbD i := by
    show (x.toBitVec &&& (255 : Int32).toBitVec).getLsbD i = _
    rw [BitVec.getLsbD_and, h2, Bool.and_true]
  have h3 : i < 32 := by omega
  first
    | (show (((x &&& 255).toBitVec).signExtend 8).getLsbD i = (x.toBitVec.signExtend 8).getLsbD i; rw [BitVec.getLsbD_signExtend, BitVec.getLsbD_signExtend, if_pos h3, if_pos h3, h4])
    | (show (((x &&& 255).toBitVec).setWidth 8).getLsbD i = (x.toBitVec.setWidth 8).getLsbD i; rw [BitVec.getLsbD_setWidth, BitVec.getLsbD_setWidth, h4])
    | (simp [hi, h3, h4]; done)

def fl (f : Nat → Int32) : Nat → List Int32
  | 0 => []
  | m + 1 => f m :: fl f m
def fdC (w : Int32) (j : Nat) : Int32 := (w >>> ((8 * nI j) &&& 31)) &&& 255
def fdR (w : Int32) (j : Nat) : Int32 := (w >>> ((8 * nI j) &&& 31)).toInt8.toInt32
theorem fl_len (f : Nat → Int32) : ∀ m, (fl f m).length = m
  | 0 => rfl
  | m + 1 => by show (fl f m).length + 1 = _; rw [fl_len f m]
theorem fd_byte (w : Int32) (j : Nat) : 0 ≤ fdC w j ∧ fdC w j ≤ 255 ∧ fdR w j = (fdC w j).toInt8.toInt32 := by
  refine ⟨?_, ?_, ?_⟩
  · unfold fdC
    rw [pk_and _ 8 (by decide)]
    exact nI_pos' (by have := Nat.mod_lt (w >>> (8 * nI j &&& 31)).toBitVec.toNat (show 2 ^ 8 > 0 by decide); omega)
  · unfold fdC
    rw [pk_and _ 8 (by decide)]
    exact nI_le (b := 255) (by have := Nat.mod_lt (w >>> (8 * nI j &&& 31)).toBitVec.toNat (show 2 ^ 8 > 0 by decide); omega) (by decide)
  · unfold fdC fdR
    rw [fa_byte_low]
theorem fd_2 (w : Int32) {k : Nat} : ∀ (m : Nat) (X Y : Nat → Nat → Int32) (c : Nat), (0 ≤ X 10 k ∧ X 10 k ≤ 255 ∧ Y 80 k = (X 10 k).toInt8.toInt32) → 0 ≤ bdy 9 1 10 X c (fl (fdC w) m) 10 k ∧ bdy 9 1 10 X c (fl (fdC w) m) 10 k ≤ 255 ∧ bdy 77 12 80 Y c (fl (fdR w) m) 80 k = (bdy 9 1 10 X c (fl (fdC w) m) 10 k).toInt8.toInt32
  | 0, _, _, _, h => h
  | m + 1, X, Y, c, h => by
    show 0 ≤ bdy 9 1 10 (up2 (up2 X 10 c (fdC w m)) 9 1 (nI (c + 1))) (c + 1) (fl (fdC w) m) 10 k ∧ bdy 9 1 10 (up2 (up2 X 10 c (fdC w m)) 9 1 (nI (c + 1))) (c + 1) (fl (fdC w) m) 10 k ≤ 255 ∧ bdy 77 12 80 (up2 (up2 Y 80 c (fdR w m)) 77 12 (nI (c + 1))) (c + 1) (fl (fdR w) m) 80 k = (bdy 9 1 10 (up2 (up2 X 10 c (fdC w m)) 9 1 (nI (c + 1))) (c + 1) (fl (fdC w) m) 10 k).toInt8.toInt32
    refine fd_2 w m _ _ _ ?_
    rw [up2_ne (show 10 ≠ 9 by decide), up2_ne (show 80 ≠ 77 by decide), up2_at, up2_at]
    by_cases hk : k = c
    · rw [if_pos hk, if_pos hk]; exact fd_byte w m
    · rw [if_neg hk, if_neg hk]; exact h
section FE
variable {L : Nat} {xs : Nat → Int32} {fv : Value} {d : Nat} {r : Nat} {rr : Option Nat} {I : Nat → Nat → Int32} {J : Nat → Nat → Int64} {P : Option Value → aH → Prop}
theorem cl_take {c : Nat} {b : Int32} (hc : I 9 1 = nI c) (hc1 : c < 100) (K : P none (aHp r rr (bdy 9 1 10 I c [b]) J)) : aCl L xs fv 111 (d + 1) 8 [.ref 9, .int b] (aHp r rr I J) P := by
  refine cl_of rfl (Nat.le_add_right _ _) ?_
  refine go_v (cd := cd8) [] 20 rfl ?_
  refine go_st (cd := cd8) 1 rfl (go_ifF (show ¬ 100 ≤ I 9 1 from by rw [hc]; exact nI_ge (b := 100) (by omega) (by decide)) ?_)
  refine go_v (cd := cd8) [] 20 rfl ?_
  show aTo L xs fv 111 _ cd8 (18, _, [.int b, .int (I 9 1), .ref 10], aHp r rr I J) P
  rw [hc]
  refine go_iast (cd := cd8) rfl (nI_vin (n := 100) (by omega) (by decide)) (lv3 rfl) rfl ?_
  rw [nI_clamp (show c < 2 ^ 31 by omega)]
  refine go_v (cd := cd8) [] 20 rfl ?_
  show aTo L xs fv 111 _ cd8 (29, _, [], aHp r rr (up2 (up2 I 10 c b) 9 1 (I 9 1 + 1)) J) P
  rw [hc, ← nI_succ]
  exact go_return (cd := cd8) rfl K
theorem fe_cl {w n : Int32} : ∀ (m : Nat) (I : Nat → Nat → Int32) (c : Nat) (z : Int32), I 9 1 = nI c → c + m ≤ 100 → z + 1 = nI m → P (some (.int (nI (c + m)))) (aHp r rr (bdy 9 1 10 I c (fl (fdC w) m)) J) → aTo L xs fv 111 (d + 1) cd36 (33, [(3, .int z), (0, .ref 0), (1, .int w), (2, .int n)], [], aHp r rr I J) P
  | 0, I, c, z, hc, hm, hz, K => by
    have hz : z = -1 := by rw [nI_0] at hz; grind
    subst hz
    refine go_v (cd := cd36) [] 20 rfl ?_
    refine go_st (cd := cd36) 1 rfl (go_ifT (by decide) ?_)
    refine go_v (cd := cd36) [] 20 rfl ?_
    show aTo L xs fv 111 _ cd36 (67, _, [.int (I 9 1)], aHp r rr I J) P
    rw [hc]
    exact go_ireturn (cd := cd36) rfl K
  | m + 1, I, c, z, hc, hm, hz, K => by
    have hz : z = nI m := by rw [nI_succ] at hz; grind
    subst hz
    refine go_v (cd := cd36) [] 20 rfl ?_
    refine go_st (cd := cd36) 1 rfl (go_ifF (nI_pos (by omega)) ?_)
    refine go_v (cd := cd36) [] 20 rfl ?_
    refine go_callv (cd := cd36) rfl rfl rfl rfl rfl (lv3 rfl) rfl (cl_take (b := fdC w m) hc (by omega) ⟨rfl, ?_⟩)
    refine go_v (cd := cd36) [33] 20 rfl ?_
    refine go_sb (fe_cl m (bdy 9 1 10 I c [fdC w m]) (c + 1) (nI m + -1) (bdy_n [fdC w m] I c hc) (by omega) (by grind) ?_) ⟨rfl, rfl, rfl, rfl, trivial⟩ rfl rfl rfl
    rw [show c + 1 + m = c + (m + 1) by omega]
    exact K
theorem fe_rf {w n : Int32} : ∀ (m : Nat) (I : Nat → Nat → Int32) (c : Nat) (z : Int32), I 77 12 = nI c → c + m ≤ 100 → z + 1 = nI m → P (some (.int (nI (c + m)))) (aHp r rr (bdy 77 12 80 I c (fl (fdR w) m)) J) → aTo L xs fv 111 (d + 1) cd102 (31, [(3, .int z), (0, .ref 77), (1, .int w), (2, .int n)], [], aHp r rr I J) P
  | 0, I, c, z, hc, hm, hz, K => by
    have hz : z = -1 := by rw [nI_0] at hz; grind
    subst hz
    refine go_v (cd := cd102) [] 20 rfl ?_
    refine go_st (cd := cd102) 1 rfl (go_ifT (by decide) ?_)
    refine go_v (cd := cd102) [] 20 rfl ?_
    show aTo L xs fv 111 _ cd102 (71, _, [.int (I 77 12)], aHp r rr I J) P
    rw [hc]
    exact go_ireturn (cd := cd102) rfl K
  | m + 1, I, c, z, hc, hm, hz, K => by
    have hz : z = nI m := by rw [nI_succ] at hz; grind
    subst hz
    refine go_v (cd := cd102) [] 20 rfl ?_
    refine go_st (cd := cd102) 1 rfl (go_ifF (nI_pos (by omega)) ?_)
    refine go_v (cd := cd102) [] 20 rfl ?_
    show aTo L xs fv 111 _ cd102 (50, _, [.int (fdR w m), .int (I 77 12), .ref 80], aHp r rr I J) P
    rw [hc]
    refine go_iast (cd := cd102) rfl (nI_vin (n := 100) (by omega) (by decide)) (lv3 rfl) rfl ?_
    rw [nI_clamp (show c < 2 ^ 31 by omega)]
    refine go_v (cd := cd102) [31] 20 rfl ?_
    show aTo L xs fv 111 _ cd102 (31, _, [], aHp r rr (up2 (up2 I 80 c (fdR w m)) 77 12 (I 77 12 + 1)) J) P
    rw [hc, ← nI_succ]
    refine go_sb (fe_rf m (bdy 77 12 80 I c [fdR w m]) (c + 1) (nI m + -1) (bdy_n [fdR w m] I c hc) (by omega) (by grind) ?_) ⟨rfl, rfl, rfl, rfl, trivial⟩ rfl rfl rfl
    rw [show c + 1 + m = c + (m + 1) by omega]
    exact K
/-- what holds between calls, but for the text -/
theorem aIn_T {A : Nat → List Cl} {I' : Nat → Nat → Int32} (hv : aInv r A I J) (h : ∀ j, j ≠ 9 → j ≠ 10 → j ≠ 77 → j ≠ 80 → I' j = I j) (h77 : ∀ q, q ≠ 12 → I' 77 q = I 77 q) (hT : iT I') : aIn (111 + 3 * r, I', J, aRf r rr) := by
  obtain ⟨h1, h2, h3, h4, h5, -, h7, h8, h9, hA, hU, hC, hX⟩ := hv
  have k : ∀ q, Nat.beq q 12 = false → I' 77 q = I 77 q := fun q hq => h77 q (by intro e; subst e; cases hq)
  have e : ∀ j, (!(Nat.beq j 9) && (!(Nat.beq j 10) && (!(Nat.beq j 77) && !(Nat.beq j 80)))) = true → I' j = I j := fun j hj => h j (by intro e; subst e; cases hj) (by intro e; subst e; cases hj) (by intro e; subst e; cases hj) (by intro e; subst e; cases hj)
  refine aIn_mk (A := A) ?_ ?_ ?_ ?_ ?_ hT ?_ ?_ ?_ ?_ ?_ ?_ ?_
  · unfold iS at h1 ⊢; rw [e 1 rfl, k 4 rfl, k 5 rfl, k 6 rfl, k 7 rfl, k 3 rfl, k 0 rfl, k 1 rfl, k 2 rfl, k 11 rfl, k 49 rfl]; exact h1
  · unfold iR at h2 ⊢; rw [e 0 rfl, k 4 rfl, k 5 rfl, k 6 rfl, k 3 rfl, k 0 rfl, k 11 rfl, k 10 rfl, k 49 rfl]; exact h2
  · unfold iQ at h3 ⊢; rw [e 2 rfl, e 104 rfl]; exact h3
  · unfold iK at h4 ⊢; rw [e 0 rfl, e 3 rfl, e 4 rfl, e 105 rfl, k 51 rfl, k 57 rfl, k 58 rfl, k 59 rfl, k 60 rfl, k 56 rfl, k 53 rfl, k 54 rfl, k 55 rfl, k 52 rfl, k 61 rfl, k 0 rfl, k 10 rfl]; exact h4
  · unfold iW at h5 ⊢; rw [e 7 rfl, e 8 rfl, e 78 rfl, e 79 rfl]; exact h5
  · exact iG_c (by rw [e 0 rfl]) (k 29 rfl) (e 91 rfl) (e 92 rfl) (e 93 rfl) (e 94 rfl) (fun j hj => h j (by omega) (by omega) (by omega) (by omega)) h7
  · exact iP_c (e 107 rfl) (e 108 rfl) (fun j hj => by have := hj.1; have := hj.2; exact h j (by omega) (by omega) (by omega) (by omega)) h8
  · unfold iB at h9 ⊢; rw [e 0 rfl, e 29 rfl, k 63 rfl, e 106 rfl]; exact h9
  · unfold iA at hA ⊢; rw [e 21 rfl, e 24 rfl, e 92 rfl]; exact hA
  · unfold iU at hU ⊢; rw [k 4 rfl, k 1 rfl, k 2 rfl, k 51 rfl, k 57 rfl, k 54 rfl, k 55 rfl]; exact hU
  · exact iC_c (k 10 rfl) (e 81 rfl) (e 82 rfl) (e 83 rfl) (e 84 rfl) (e 85 rfl) (e 86 rfl) (e 87 rfl) (fun j hj => h j (by omega) (by omega) (by omega) (by omega)) (fun j hj => h j (by omega) (by omega) (by omega) (by omega)) hC
  · exact iX_c (k 0 rfl) (k 11 rfl) (e 19 rfl) (e 78 rfl) hX
theorem pr_feed {w n : Int32} {h : aH} (hi : aIn h) : aPair L xs fv (d + 4) 36 102 [.int w, .int n] h := by
  obtain ⟨r, rr, A, I, J, rfl, hv⟩ := hi
  have hdone := aIn_of hv rr
  obtain ⟨t1, t2, t3, t4⟩ := hv.2.2.2.2.2.1
  have hc := tnc_nI t2
  have hle : (I 77 12).toNatClampNeg ≤ 100 := tnc_le (n := 100) t2 (by decide) (show I 77 12 ≤ nI 100 from t3)
  generalize (I 77 12).toNatClampNeg = c at hc hle
  have hc1 : I 9 1 = nI c := t1.trans hc
  have hbad : ∀ v, ((¬ (0 ≤ n ∧ n ≤ 4) ∧ v = -2) ∨ ((0 ≤ n ∧ n ≤ 4) ∧ ¬ I 9 1 + n ≤ 100 ∧ v = -4)) → aCl L xs fv 111 (d + 4) 102 [.ref 77, .int w, .int n] (aHp r rr I J) (fun rv2 h2 => h2.1 = 111 + 3 * r ∧ rv2 = some (.int v) ∧ aIn h2) := fun v hb => by
    refine cl_of rfl (Nat.le_add_right _ _) ?_
    refine go_v (cd := cd102) [] 20 rfl ?_
    refine go_callv (cd := cd102) rfl rfl rfl rfl rfl (lv3 rfl) rfl (cl_in (fun hx => ⟨rfl, ?_⟩) (fun hx => ⟨rfl, ?_⟩))
    · rcases hb with ⟨hb, -⟩ | ⟨-, hb, rfl⟩
      · exact absurd hx hb
      · refine go_st (cd := cd102) 1 rfl (go_ifF (by decide) ?_)
        refine go_v (cd := cd102) [] 20 rfl ?_
        refine go_st (cd := cd102) 1 rfl (go_ifF (show ¬ I 77 12 + n ≤ 100 from by rw [← t1]; exact hb) ?_)
        refine go_v (cd := cd102) [] 20 rfl ?_
        exact go_ireturn (cd := cd102) rfl ⟨rfl, rfl, hdone⟩
    · rcases hb with ⟨-, rfl⟩ | ⟨hb, -⟩
      · refine go_st (cd := cd102) 1 rfl (go_ifT rfl ?_)
        refine go_v (cd := cd102) [] 20 rfl ?_
        exact go_ireturn (cd := cd102) rfl ⟨rfl, rfl, hdone⟩
      · exact absurd hb hx
  refine cl_of rfl (Nat.le_add_right _ _) ?_
  refine go_v (cd := cd36) [] 20 rfl ?_
  by_cases hn0 : n < 0
  case pos =>
    refine go_st (cd := cd36) 1 rfl (go_ifT hn0 ?_)
    refine go_v (cd := cd36) [] 20 rfl ?_
    exact go_ireturn (cd := cd36) rfl ⟨Or.inl rfl, _, rfl, hbad _ (Or.inl ⟨by grind, rfl⟩)⟩
  refine go_st (cd := cd36) 1 rfl (go_ifF hn0 ?_)
  refine go_v (cd := cd36) [] 20 rfl ?_
  by_cases hn4 : n ≤ 4
  case neg =>
    refine go_st (cd := cd36) 1 rfl (go_ifF hn4 ?_)
    refine go_v (cd := cd36) [] 20 rfl ?_
    exact go_ireturn (cd := cd36) rfl ⟨Or.inl rfl, _, rfl, hbad _ (Or.inl ⟨by grind, rfl⟩)⟩
  refine go_st (cd := cd36) 1 rfl (go_ifT hn4 ?_)
  refine go_v (cd := cd36) [] 20 rfl ?_
  by_cases hle2 : I 9 1 + n ≤ 100
  case neg =>
    refine go_st (cd := cd36) 1 rfl (go_ifF hle2 ?_)
    refine go_v (cd := cd36) [] 20 rfl ?_
    exact go_ireturn (cd := cd36) rfl ⟨Or.inl rfl, _, rfl, hbad _ (Or.inr ⟨by grind, hle2, rfl⟩)⟩
  refine go_st (cd := cd36) 1 rfl (go_ifT hle2 ?_)
  obtain ⟨m, hm4, rfl⟩ := nI_of2 (M := 4) (n := 4) rfl hn0 hn4
  have hcm : c + m ≤ 100 := by
    rw [hc1, nI_add] at hle2
    exact (nI_leI (b := 100) (by omega) (by decide)).mp hle2
  refine go_v (cd := cd36) [33] 20 rfl ?_
  refine go_sb (fe_cl m I c (nI m - 1) hc1 hcm (by grind) ?_) ⟨rfl, rfl, rfl, rfl, trivial⟩ rfl rfl rfl
  refine ⟨Or.inl rfl, _, rfl, ?_⟩
  have hb77 : ∀ q, bdy 9 1 10 I c (fl (fdC w) m) 77 q = I 77 q := fun q => by rw [bdy_o (by decide) (by decide)]
  have hin : aIn (aHp r rr (bdy 77 12 80 (bdy 9 1 10 I c (fl (fdC w) m)) c (fl (fdR w) m)) J) := by
    refine aIn_T hv (fun j a b e f => ?_) (fun q hq => ?_) ⟨?_, ?_, ?_, fun k hk => ?_⟩
    · rw [bdy_o e f, bdy_o a b]
    · rw [bdy_q hq (by decide), hb77]
    · rw [bdy_o (by decide) (by decide), bdy_n _ _ _ hc1, bdy_n _ _ _ ((hb77 12).trans hc), fl_len, fl_len]
    · rw [bdy_n _ _ _ ((hb77 12).trans hc), fl_len]; exact nI_pos' (by omega)
    · rw [bdy_n _ _ _ ((hb77 12).trans hc), fl_len]; exact nI_le (b := 100) hcm (by decide)
    · have h2 := fd_2 w m I (bdy 9 1 10 I c (fl (fdC w) m)) c (k := k) (by rw [bdy_o (show 80 ≠ 9 by decide) (by decide)]; exact t4 k hk)
      rw [bdy_o (show 10 ≠ 77 by decide) (by decide)]
      exact h2
  generalize hI' : bdy 9 1 10 I c (fl (fdC w) m) = I' at *
  have h12 : I' 77 12 = nI c := (hb77 12).trans hc
  refine cl_of rfl (Nat.le_add_right _ _) ?_
  refine go_v (cd := cd102) [] 20 rfl ?_
  refine go_callv (cd := cd102) rfl rfl rfl rfl rfl (lv3 rfl) rfl (cl_in (fun hx => ⟨rfl, ?_⟩) (fun hx => absurd (show 0 ≤ nI m ∧ nI m ≤ 4 from ⟨Int32.not_lt.mp hn0, hn4⟩) hx))
  refine go_st (cd := cd102) 1 rfl (go_ifF (by decide) ?_)
  refine go_v (cd := cd102) [] 20 rfl ?_
  refine go_st (cd := cd102) 1 rfl (go_ifT (show I' 77 12 + nI m ≤ 100 from by rw [h12, nI_add]; exact nI_le (b := 100) hcm (by decide)) ?_)
  refine go_v (cd := cd102) [31] 20 rfl ?_
  refine go_sb (fe_rf m I' c (nI m - 1) h12 hcm (by grind) ?_) ⟨rfl, rfl, rfl, rfl, trivial⟩ rfl rfl rfl
  exact ⟨rfl, rfl, hin⟩
end FE
