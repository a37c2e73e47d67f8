/-! acts: the reference; the pair -/
section AR
variable {L : Nat} {xs : Nat → Int32} {fv : Value} {d : Nat} {r : Nat} {rr : Option Nat} {I : Nat → Nat → Int32} {J : Nat → Nat → Int64} {P : Option Value → aH → Prop}
def rqr (k : Nat) (K v : Int32) (I : Nat → Nat → Int32) : Prop := I 91 k = K ∧ I 92 k = v
theorem bdy_rqr {k c : Nat} {K v : Int32} (h : rqr k K v I) (l : List Int32) : rqr k K v (bdy 77 63 106 I c l) := by
  unfold rqr at h ⊢
  rw [bdy_o (by decide) (by decide), bdy_o (by decide) (by decide)]
  exact h
theorem rf_body {c : Nat} {b : Int32} (hc : I 77 63 = nI c) (hc20 : c < 20) (K : P none (aHp r rr (bdy 77 63 106 I c [b]) J)) : aCl L xs fv 111 (d + 1) 159 [.ref 77, .int b] (aHp r rr I J) P := by
  refine cl_of rfl (Nat.le_add_right _ _) ?_
  refine go_v (cd := cd159) [] 20 rfl ?_
  refine go_st (cd := cd159) 1 rfl (go_ifF (show ¬ 20 ≤ I 77 63 from by rw [hc]; exact nI_ge (b := 20) (by omega) (by decide)) ?_)
  refine go_v (cd := cd159) [] 20 rfl ?_
  show aTo L xs fv 111 _ cd159 (18, _, [.int b, .int (I 77 63), .ref 106], aHp r rr I J) P
  rw [hc]
  refine go_iast (cd := cd159) rfl (nI_vin (n := 20) (by omega) (by decide)) (lv3 rfl) rfl ?_
  rw [nI_clamp (show c < 2 ^ 31 by omega)]
  refine go_v (cd := cd159) [] 20 rfl ?_
  show aTo L xs fv 111 _ cd159 (29, _, [], aHp r rr (up2 (up2 I 106 c b) 77 63 (I 77 63 + 1)) J) P
  rw [hc, ← nI_succ]
  exact go_return (cd := cd159) rfl K
theorem rf_pp {x : Int32} {k c : Nat} (hc : I 77 63 = nI c) (hc20 : c < 20) (K : P (some (.int (x + nI k))) (aHp r rr (bdy 77 63 106 I c [10]) J)) : aCl L xs fv 111 (d + 2) 160 [.ref 77, .int (nI k), .int x] (aHp r rr I J) P := by
  refine cl_of rfl (Nat.le_add_right _ _) ?_
  refine go_v (cd := cd160) [] 20 rfl ?_
  refine go_callv (cd := cd160) rfl rfl rfl rfl rfl (lv3 rfl) rfl (rf_body hc hc20 ⟨rfl, ?_⟩)
  refine go_v (cd := cd160) [] 20 rfl ?_
  exact go_ireturn (cd := cd160) rfl K
theorem rf_a0_161 {x v : Int32} {k c : Nat} (hk : k < 10) (hr : rqr k 0 v I) (hc : I 77 63 = nI c) (hcm : c + 1 ≤ 20) (K : P (some (.int (x + nI k))) (aHp r rr (bdy 77 63 106 I c [10]) J)) : aCl L xs fv 111 (d + 3) 161 [.ref 77, .int (nI k), .int x] (aHp r rr I J) P := by
  refine cl_of rfl (Nat.le_add_right _ _) ?_
  refine go_v (cd := cd161) [] 20 rfl ?_
  refine go_iald (cd := cd161) rfl (nI_vin (n := 11) (by omega) (by decide)) (lv3 rfl) rfl ?_
  rw [nI_clamp (show k < 2 ^ 31 by omega), (hr).1]
  refine go_tswO (cd := cd161) 89 rfl (by decide) (by decide) ?_
  refine go_v (cd := cd161) [] 20 rfl ?_
  refine go_callv (cd := cd161) rfl rfl rfl rfl rfl (lv3 rfl) rfl (rf_pp (d := d + 0) (c := c + 0) hc (by omega) ⟨rfl, ?_⟩)
  show aTo L xs fv 111 _ cd161 (95, _, [.int (x + nI k)], aHp r rr (bdy 77 63 106 I c [10]) J) P
  exact go_ireturn (cd := cd161) rfl K
theorem rf_a0_162 {x v : Int32} {k c : Nat} (hk : k < 10) (hr : rqr k 0 v I) (hc : I 77 63 = nI c) (hcm : c + 2 ≤ 20) (K : P (some (.int ((x + nI k) - v))) (aHp r rr (bdy 77 63 106 I c [11, 10]) J)) : aCl L xs fv 111 (d + 4) 162 [.ref 77, .int (nI k), .int x] (aHp r rr I J) P := by
  refine cl_of rfl (Nat.le_add_right _ _) ?_
  refine go_v (cd := cd162) [] 20 rfl ?_
  refine go_callv (cd := cd162) rfl rfl rfl rfl rfl (lv3 rfl) rfl (rf_body hc (by omega) ⟨rfl, ?_⟩)
  refine go_v (cd := cd162) [] 20 rfl ?_
  refine go_callv (cd := cd162) rfl rfl rfl rfl rfl (lv3 rfl) rfl (rf_a0_161 (d := d + 0) (c := c + 1) hk (bdy_rqr hr [11]) (bdy_n [11] I c hc) (by omega) ⟨rfl, ?_⟩)
  show aTo L xs fv 111 _ cd162 (12, _, [.int (x + nI k)], aHp r rr (bdy 77 63 106 I c [11, 10]) J) P
  refine go_v (cd := cd162) [] 20 rfl ?_
  refine go_iald (cd := cd162) rfl (nI_vin (n := 11) (by omega) (by decide)) (lv3 rfl) rfl ?_
  rw [nI_clamp (show k < 2 ^ 31 by omega), (bdy_rqr hr [11, 10]).2]
  refine go_v (cd := cd162) [] 20 rfl ?_
  exact go_ireturn (cd := cd162) rfl K
theorem rf_a0_164 {x v : Int32} {k c : Nat} (hk : k < 10) (hr : rqr k 0 v I) (hc : I 77 63 = nI c) (hcm : c + 2 ≤ 20) (K : P (some (.int ((x + nI k) - v))) (aHp r rr (bdy 77 63 106 I c [11, 10]) J)) : aCl L xs fv 111 (d + 5) 164 [.ref 77, .int (nI k), .int x] (aHp r rr I J) P := by
  refine cl_of rfl (Nat.le_add_right _ _) ?_
  refine go_v (cd := cd164) [] 20 rfl ?_
  refine go_iald (cd := cd164) rfl (nI_vin (n := 11) (by omega) (by decide)) (lv3 rfl) rfl ?_
  rw [nI_clamp (show k < 2 ^ 31 by omega), (hr).1]
  refine go_lsw (cd := cd164) 84 rfl (by decide) ?_
  refine go_v (cd := cd164) [] 20 rfl ?_
  refine go_callv (cd := cd164) rfl rfl rfl rfl rfl (lv3 rfl) rfl (rf_a0_162 (d := d + 0) (c := c + 0) hk hr hc (by omega) ⟨rfl, ?_⟩)
  show aTo L xs fv 111 _ cd164 (90, _, [.int ((x + nI k) - v)], aHp r rr (bdy 77 63 106 I c [11, 10]) J) P
  exact go_ireturn (cd := cd164) rfl K
theorem rf_a0_165 {x v : Int32} {k c : Nat} (hk : k < 10) (hr : rqr k 0 v I) (hc : I 77 63 = nI c) (hcm : c + 3 ≤ 20) (K : P (some (.int (((x + nI k) - v) * 2))) (aHp r rr (bdy 77 63 106 I c [12, 11, 10]) J)) : aCl L xs fv 111 (d + 6) 165 [.ref 77, .int (nI k), .int x] (aHp r rr I J) P := by
  refine cl_of rfl (Nat.le_add_right _ _) ?_
  refine go_v (cd := cd165) [] 20 rfl ?_
  refine go_callv (cd := cd165) rfl rfl rfl rfl rfl (lv3 rfl) rfl (rf_body hc (by omega) ⟨rfl, ?_⟩)
  refine go_v (cd := cd165) [] 20 rfl ?_
  refine go_callv (cd := cd165) rfl rfl rfl rfl rfl (lv3 rfl) rfl (rf_a0_164 (d := d + 0) (c := c + 1) hk (bdy_rqr hr [12]) (bdy_n [12] I c hc) (by omega) ⟨rfl, ?_⟩)
  show aTo L xs fv 111 _ cd165 (12, _, [.int ((x + nI k) - v)], aHp r rr (bdy 77 63 106 I c [12, 11, 10]) J) P
  refine go_v (cd := cd165) [] 20 rfl ?_
  exact go_ireturn (cd := cd165) rfl K
theorem rf_a0_166 {x v : Int32} {k c : Nat} (hk : k < 10) (hr : rqr k 0 v I) (hc : I 77 63 = nI c) (hcm : c + 3 ≤ 20) (K : P (some (.int (((x + nI k) - v) * 2))) (aHp r rr (bdy 77 63 106 I c [12, 11, 10]) J)) : aCl L xs fv 111 (d + 7) 166 [.ref 77, .int (nI k), .int x] (aHp r rr I J) P := by
  refine cl_of rfl (Nat.le_add_right _ _) ?_
  refine go_v (cd := cd166) [] 20 rfl ?_
  refine go_iald (cd := cd166) rfl (nI_vin (n := 11) (by omega) (by decide)) (lv3 rfl) rfl ?_
  rw [nI_clamp (show k < 2 ^ 31 by omega), (hr).1]
  refine go_tswO (cd := cd166) 69 rfl (by decide) (by decide) ?_
  refine go_v (cd := cd166) [] 20 rfl ?_
  refine go_callv (cd := cd166) rfl rfl rfl rfl rfl (lv3 rfl) rfl (rf_a0_165 (d := d + 0) (c := c + 0) hk hr hc (by omega) ⟨rfl, ?_⟩)
  show aTo L xs fv 111 _ cd166 (75, _, [.int (((x + nI k) - v) * 2)], aHp r rr (bdy 77 63 106 I c [12, 11, 10]) J) P
  exact go_ireturn (cd := cd166) rfl K
theorem rf_a1_161 {x v : Int32} {k c : Nat} (hk : k < 10) (hr : rqr k 1 v I) (hc : I 77 63 = nI c) (hcm : c + 1 ≤ 20) (K : P (some (.int (x + nI k))) (aHp r rr (bdy 77 63 106 I c [10]) J)) : aCl L xs fv 111 (d + 3) 161 [.ref 77, .int (nI k), .int x] (aHp r rr I J) P := by
  refine cl_of rfl (Nat.le_add_right _ _) ?_
  refine go_v (cd := cd161) [] 20 rfl ?_
  refine go_iald (cd := cd161) rfl (nI_vin (n := 11) (by omega) (by decide)) (lv3 rfl) rfl ?_
  rw [nI_clamp (show k < 2 ^ 31 by omega), (hr).1]
  refine go_tswO (cd := cd161) 89 rfl (by decide) (by decide) ?_
  refine go_v (cd := cd161) [] 20 rfl ?_
  refine go_callv (cd := cd161) rfl rfl rfl rfl rfl (lv3 rfl) rfl (rf_pp (d := d + 0) (c := c + 0) hc (by omega) ⟨rfl, ?_⟩)
  show aTo L xs fv 111 _ cd161 (95, _, [.int (x + nI k)], aHp r rr (bdy 77 63 106 I c [10]) J) P
  exact go_ireturn (cd := cd161) rfl K
theorem rf_a1_162 {x v : Int32} {k c : Nat} (hk : k < 10) (hr : rqr k 1 v I) (hc : I 77 63 = nI c) (hcm : c + 2 ≤ 20) (K : P (some (.int ((x + nI k) - v))) (aHp r rr (bdy 77 63 106 I c [11, 10]) J)) : aCl L xs fv 111 (d + 4) 162 [.ref 77, .int (nI k), .int x] (aHp r rr I J) P := by
  refine cl_of rfl (Nat.le_add_right _ _) ?_
  refine go_v (cd := cd162) [] 20 rfl ?_
  refine go_callv (cd := cd162) rfl rfl rfl rfl rfl (lv3 rfl) rfl (rf_body hc (by omega) ⟨rfl, ?_⟩)
  refine go_v (cd := cd162) [] 20 rfl ?_
  refine go_callv (cd := cd162) rfl rfl rfl rfl rfl (lv3 rfl) rfl (rf_a1_161 (d := d + 0) (c := c + 1) hk (bdy_rqr hr [11]) (bdy_n [11] I c hc) (by omega) ⟨rfl, ?_⟩)
  show aTo L xs fv 111 _ cd162 (12, _, [.int (x + nI k)], aHp r rr (bdy 77 63 106 I c [11, 10]) J) P
  refine go_v (cd := cd162) [] 20 rfl ?_
  refine go_iald (cd := cd162) rfl (nI_vin (n := 11) (by omega) (by decide)) (lv3 rfl) rfl ?_
  rw [nI_clamp (show k < 2 ^ 31 by omega), (bdy_rqr hr [11, 10]).2]
  refine go_v (cd := cd162) [] 20 rfl ?_
  exact go_ireturn (cd := cd162) rfl K
theorem rf_a1_163 {x v : Int32} {k c : Nat} (hk : k < 10) (hr : rqr k 1 v I) (hc : I 77 63 = nI c) (hcm : c + 3 ≤ 20) (K : P (some (.int (((x + nI k) - v) ^^^ 6))) (aHp r rr (bdy 77 63 106 I c [20, 11, 10]) J)) : aCl L xs fv 111 (d + 5) 163 [.ref 77, .int (nI k), .int x] (aHp r rr I J) P := by
  refine cl_of rfl (Nat.le_add_right _ _) ?_
  refine go_v (cd := cd163) [] 20 rfl ?_
  refine go_callv (cd := cd163) rfl rfl rfl rfl rfl (lv3 rfl) rfl (rf_body hc (by omega) ⟨rfl, ?_⟩)
  refine go_v (cd := cd163) [] 20 rfl ?_
  refine go_callv (cd := cd163) rfl rfl rfl rfl rfl (lv3 rfl) rfl (rf_a1_162 (d := d + 0) (c := c + 1) hk (bdy_rqr hr [20]) (bdy_n [20] I c hc) (by omega) ⟨rfl, ?_⟩)
  show aTo L xs fv 111 _ cd163 (12, _, [.int ((x + nI k) - v)], aHp r rr (bdy 77 63 106 I c [20, 11, 10]) J) P
  refine go_v (cd := cd163) [] 20 rfl ?_
  exact go_ireturn (cd := cd163) rfl K
theorem rf_a1_164 {x v : Int32} {k c : Nat} (hk : k < 10) (hr : rqr k 1 v I) (hc : I 77 63 = nI c) (hcm : c + 3 ≤ 20) (K : P (some (.int (((x + nI k) - v) ^^^ 6))) (aHp r rr (bdy 77 63 106 I c [20, 11, 10]) J)) : aCl L xs fv 111 (d + 6) 164 [.ref 77, .int (nI k), .int x] (aHp r rr I J) P := by
  refine cl_of rfl (Nat.le_add_right _ _) ?_
  refine go_v (cd := cd164) [] 20 rfl ?_
  refine go_iald (cd := cd164) rfl (nI_vin (n := 11) (by omega) (by decide)) (lv3 rfl) rfl ?_
  rw [nI_clamp (show k < 2 ^ 31 by omega), (hr).1]
  refine go_lsw (cd := cd164) 40 rfl (by decide) ?_
  refine go_v (cd := cd164) [] 20 rfl ?_
  refine go_callv (cd := cd164) rfl rfl rfl rfl rfl (lv3 rfl) rfl (rf_a1_163 (d := d + 0) (c := c + 0) hk hr hc (by omega) ⟨rfl, ?_⟩)
  show aTo L xs fv 111 _ cd164 (46, _, [.int (((x + nI k) - v) ^^^ 6)], aHp r rr (bdy 77 63 106 I c [20, 11, 10]) J) P
  exact go_ireturn (cd := cd164) rfl K
theorem rf_a1_165 {x v : Int32} {k c : Nat} (hk : k < 10) (hr : rqr k 1 v I) (hc : I 77 63 = nI c) (hcm : c + 4 ≤ 20) (K : P (some (.int ((((x + nI k) - v) ^^^ 6) * 2))) (aHp r rr (bdy 77 63 106 I c [12, 20, 11, 10]) J)) : aCl L xs fv 111 (d + 7) 165 [.ref 77, .int (nI k), .int x] (aHp r rr I J) P := by
  refine cl_of rfl (Nat.le_add_right _ _) ?_
  refine go_v (cd := cd165) [] 20 rfl ?_
  refine go_callv (cd := cd165) rfl rfl rfl rfl rfl (lv3 rfl) rfl (rf_body hc (by omega) ⟨rfl, ?_⟩)
  refine go_v (cd := cd165) [] 20 rfl ?_
  refine go_callv (cd := cd165) rfl rfl rfl rfl rfl (lv3 rfl) rfl (rf_a1_164 (d := d + 0) (c := c + 1) hk (bdy_rqr hr [12]) (bdy_n [12] I c hc) (by omega) ⟨rfl, ?_⟩)
  show aTo L xs fv 111 _ cd165 (12, _, [.int (((x + nI k) - v) ^^^ 6)], aHp r rr (bdy 77 63 106 I c [12, 20, 11, 10]) J) P
  refine go_v (cd := cd165) [] 20 rfl ?_
  exact go_ireturn (cd := cd165) rfl K
theorem rf_a1_166 {x v : Int32} {k c : Nat} (hk : k < 10) (hr : rqr k 1 v I) (hc : I 77 63 = nI c) (hcm : c + 4 ≤ 20) (K : P (some (.int ((((x + nI k) - v) ^^^ 6) * 2))) (aHp r rr (bdy 77 63 106 I c [12, 20, 11, 10]) J)) : aCl L xs fv 111 (d + 8) 166 [.ref 77, .int (nI k), .int x] (aHp r rr I J) P := by
  refine cl_of rfl (Nat.le_add_right _ _) ?_
  refine go_v (cd := cd166) [] 20 rfl ?_
  refine go_iald (cd := cd166) rfl (nI_vin (n := 11) (by omega) (by decide)) (lv3 rfl) rfl ?_
  rw [nI_clamp (show k < 2 ^ 31 by omega), (hr).1]
  refine go_tswO (cd := cd166) 69 rfl (by decide) (by decide) ?_
  refine go_v (cd := cd166) [] 20 rfl ?_
  refine go_callv (cd := cd166) rfl rfl rfl rfl rfl (lv3 rfl) rfl (rf_a1_165 (d := d + 0) (c := c + 0) hk hr hc (by omega) ⟨rfl, ?_⟩)
  show aTo L xs fv 111 _ cd166 (75, _, [.int ((((x + nI k) - v) ^^^ 6) * 2)], aHp r rr (bdy 77 63 106 I c [12, 20, 11, 10]) J) P
  exact go_ireturn (cd := cd166) rfl K
theorem rf_a2_161 {x v : Int32} {k c : Nat} (hk : k < 10) (hr : rqr k 2 v I) (hc : I 77 63 = nI c) (hcm : c + 2 ≤ 20) (K : P (some (.int ((x * 3) + nI k))) (aHp r rr (bdy 77 63 106 I c [30, 10]) J)) : aCl L xs fv 111 (d + 3) 161 [.ref 77, .int (nI k), .int x] (aHp r rr I J) P := by
  refine cl_of rfl (Nat.le_add_right _ _) ?_
  refine go_v (cd := cd161) [] 20 rfl ?_
  refine go_iald (cd := cd161) rfl (nI_vin (n := 11) (by omega) (by decide)) (lv3 rfl) rfl ?_
  rw [nI_clamp (show k < 2 ^ 31 by omega), (hr).1]
  refine go_tswI (cd := cd161) 40 rfl (off := 34) (by decide) (by decide) (by decide) (by decide) ?_
  refine go_v (cd := cd161) [] 20 rfl ?_
  refine go_callv (cd := cd161) rfl rfl rfl rfl rfl (lv3 rfl) rfl (rf_body hc (by omega) ⟨rfl, ?_⟩)
  refine go_v (cd := cd161) [] 20 rfl ?_
  refine go_callv (cd := cd161) rfl rfl rfl rfl rfl (lv3 rfl) rfl (rf_pp (d := d + 0) (c := c + 1) (bdy_n [30] I c hc) (by omega) ⟨rfl, ?_⟩)
  show aTo L xs fv 111 _ cd161 (54, _, [.int ((x * 3) + nI k)], aHp r rr (bdy 77 63 106 I c [30, 10]) J) P
  exact go_ireturn (cd := cd161) rfl K
theorem rf_a2_162 {x v : Int32} {k c : Nat} (hk : k < 10) (hr : rqr k 2 v I) (hc : I 77 63 = nI c) (hcm : c + 3 ≤ 20) (K : P (some (.int (((x * 3) + nI k) - v))) (aHp r rr (bdy 77 63 106 I c [11, 30, 10]) J)) : aCl L xs fv 111 (d + 4) 162 [.ref 77, .int (nI k), .int x] (aHp r rr I J) P := by
  refine cl_of rfl (Nat.le_add_right _ _) ?_
  refine go_v (cd := cd162) [] 20 rfl ?_
  refine go_callv (cd := cd162) rfl rfl rfl rfl rfl (lv3 rfl) rfl (rf_body hc (by omega) ⟨rfl, ?_⟩)
  refine go_v (cd := cd162) [] 20 rfl ?_
  refine go_callv (cd := cd162) rfl rfl rfl rfl rfl (lv3 rfl) rfl (rf_a2_161 (d := d + 0) (c := c + 1) hk (bdy_rqr hr [11]) (bdy_n [11] I c hc) (by omega) ⟨rfl, ?_⟩)
  show aTo L xs fv 111 _ cd162 (12, _, [.int ((x * 3) + nI k)], aHp r rr (bdy 77 63 106 I c [11, 30, 10]) J) P
  refine go_v (cd := cd162) [] 20 rfl ?_
  refine go_iald (cd := cd162) rfl (nI_vin (n := 11) (by omega) (by decide)) (lv3 rfl) rfl ?_
  rw [nI_clamp (show k < 2 ^ 31 by omega), (bdy_rqr hr [11, 30, 10]).2]
  refine go_v (cd := cd162) [] 20 rfl ?_
  exact go_ireturn (cd := cd162) rfl K
theorem rf_a2_164 {x v : Int32} {k c : Nat} (hk : k < 10) (hr : rqr k 2 v I) (hc : I 77 63 = nI c) (hcm : c + 3 ≤ 20) (K : P (some (.int (((x * 3) + nI k) - v))) (aHp r rr (bdy 77 63 106 I c [11, 30, 10]) J)) : aCl L xs fv 111 (d + 5) 164 [.ref 77, .int (nI k), .int x] (aHp r rr I J) P := by
  refine cl_of rfl (Nat.le_add_right _ _) ?_
  refine go_v (cd := cd164) [] 20 rfl ?_
  refine go_iald (cd := cd164) rfl (nI_vin (n := 11) (by omega) (by decide)) (lv3 rfl) rfl ?_
  rw [nI_clamp (show k < 2 ^ 31 by omega), (hr).1]
  refine go_lsw (cd := cd164) 84 rfl (by decide) ?_
  refine go_v (cd := cd164) [] 20 rfl ?_
  refine go_callv (cd := cd164) rfl rfl rfl rfl rfl (lv3 rfl) rfl (rf_a2_162 (d := d + 0) (c := c + 0) hk hr hc (by omega) ⟨rfl, ?_⟩)
  show aTo L xs fv 111 _ cd164 (90, _, [.int (((x * 3) + nI k) - v)], aHp r rr (bdy 77 63 106 I c [11, 30, 10]) J) P
  exact go_ireturn (cd := cd164) rfl K
theorem rf_a2_165 {x v : Int32} {k c : Nat} (hk : k < 10) (hr : rqr k 2 v I) (hc : I 77 63 = nI c) (hcm : c + 4 ≤ 20) (K : P (some (.int ((((x * 3) + nI k) - v) * 2))) (aHp r rr (bdy 77 63 106 I c [12, 11, 30, 10]) J)) : aCl L xs fv 111 (d + 6) 165 [.ref 77, .int (nI k), .int x] (aHp r rr I J) P := by
  refine cl_of rfl (Nat.le_add_right _ _) ?_
  refine go_v (cd := cd165) [] 20 rfl ?_
  refine go_callv (cd := cd165) rfl rfl rfl rfl rfl (lv3 rfl) rfl (rf_body hc (by omega) ⟨rfl, ?_⟩)
  refine go_v (cd := cd165) [] 20 rfl ?_
  refine go_callv (cd := cd165) rfl rfl rfl rfl rfl (lv3 rfl) rfl (rf_a2_164 (d := d + 0) (c := c + 1) hk (bdy_rqr hr [12]) (bdy_n [12] I c hc) (by omega) ⟨rfl, ?_⟩)
  show aTo L xs fv 111 _ cd165 (12, _, [.int (((x * 3) + nI k) - v)], aHp r rr (bdy 77 63 106 I c [12, 11, 30, 10]) J) P
  refine go_v (cd := cd165) [] 20 rfl ?_
  exact go_ireturn (cd := cd165) rfl K
theorem rf_a2_166 {x v : Int32} {k c : Nat} (hk : k < 10) (hr : rqr k 2 v I) (hc : I 77 63 = nI c) (hcm : c + 4 ≤ 20) (K : P (some (.int ((((x * 3) + nI k) - v) * 2))) (aHp r rr (bdy 77 63 106 I c [12, 11, 30, 10]) J)) : aCl L xs fv 111 (d + 7) 166 [.ref 77, .int (nI k), .int x] (aHp r rr I J) P := by
  refine cl_of rfl (Nat.le_add_right _ _) ?_
  refine go_v (cd := cd166) [] 20 rfl ?_
  refine go_iald (cd := cd166) rfl (nI_vin (n := 11) (by omega) (by decide)) (lv3 rfl) rfl ?_
  rw [nI_clamp (show k < 2 ^ 31 by omega), (hr).1]
  refine go_tswO (cd := cd166) 69 rfl (by decide) (by decide) ?_
  refine go_v (cd := cd166) [] 20 rfl ?_
  refine go_callv (cd := cd166) rfl rfl rfl rfl rfl (lv3 rfl) rfl (rf_a2_165 (d := d + 0) (c := c + 0) hk hr hc (by omega) ⟨rfl, ?_⟩)
  show aTo L xs fv 111 _ cd166 (75, _, [.int ((((x * 3) + nI k) - v) * 2)], aHp r rr (bdy 77 63 106 I c [12, 11, 30, 10]) J) P
  exact go_ireturn (cd := cd166) rfl K
theorem rf_a3_161 {x v : Int32} {k c : Nat} (hk : k < 10) (hr : rqr k 3 v I) (hc : I 77 63 = nI c) (hcm : c + 2 ≤ 20) (K : P (some (.int (-(x + nI k)))) (aHp r rr (bdy 77 63 106 I c [50, 10]) J)) : aCl L xs fv 111 (d + 3) 161 [.ref 77, .int (nI k), .int x] (aHp r rr I J) P := by
  refine cl_of rfl (Nat.le_add_right _ _) ?_
  refine go_v (cd := cd161) [] 20 rfl ?_
  refine go_iald (cd := cd161) rfl (nI_vin (n := 11) (by omega) (by decide)) (lv3 rfl) rfl ?_
  rw [nI_clamp (show k < 2 ^ 31 by omega), (hr).1]
  refine go_tswI (cd := cd161) 55 rfl (off := 49) (by decide) (by decide) (by decide) (by decide) ?_
  refine go_v (cd := cd161) [] 20 rfl ?_
  refine go_callv (cd := cd161) rfl rfl rfl rfl rfl (lv3 rfl) rfl (rf_body hc (by omega) ⟨rfl, ?_⟩)
  refine go_v (cd := cd161) [] 20 rfl ?_
  refine go_callv (cd := cd161) rfl rfl rfl rfl rfl (lv3 rfl) rfl (rf_pp (d := d + 0) (c := c + 1) (bdy_n [50] I c hc) (by omega) ⟨rfl, ?_⟩)
  show aTo L xs fv 111 _ cd161 (67, _, [.int (x + nI k)], aHp r rr (bdy 77 63 106 I c [50, 10]) J) P
  refine go_v (cd := cd161) [] 20 rfl ?_
  exact go_ireturn (cd := cd161) rfl K
theorem rf_a3_162 {x v : Int32} {k c : Nat} (hk : k < 10) (hr : rqr k 3 v I) (hc : I 77 63 = nI c) (hcm : c + 3 ≤ 20) (K : P (some (.int ((-(x + nI k)) - v))) (aHp r rr (bdy 77 63 106 I c [11, 50, 10]) J)) : aCl L xs fv 111 (d + 4) 162 [.ref 77, .int (nI k), .int x] (aHp r rr I J) P := by
  refine cl_of rfl (Nat.le_add_right _ _) ?_
  refine go_v (cd := cd162) [] 20 rfl ?_
  refine go_callv (cd := cd162) rfl rfl rfl rfl rfl (lv3 rfl) rfl (rf_body hc (by omega) ⟨rfl, ?_⟩)
  refine go_v (cd := cd162) [] 20 rfl ?_
  refine go_callv (cd := cd162) rfl rfl rfl rfl rfl (lv3 rfl) rfl (rf_a3_161 (d := d + 0) (c := c + 1) hk (bdy_rqr hr [11]) (bdy_n [11] I c hc) (by omega) ⟨rfl, ?_⟩)
  show aTo L xs fv 111 _ cd162 (12, _, [.int (-(x + nI k))], aHp r rr (bdy 77 63 106 I c [11, 50, 10]) J) P
  refine go_v (cd := cd162) [] 20 rfl ?_
  refine go_iald (cd := cd162) rfl (nI_vin (n := 11) (by omega) (by decide)) (lv3 rfl) rfl ?_
  rw [nI_clamp (show k < 2 ^ 31 by omega), (bdy_rqr hr [11, 50, 10]).2]
  refine go_v (cd := cd162) [] 20 rfl ?_
  exact go_ireturn (cd := cd162) rfl K
theorem rf_a3_163 {x v : Int32} {k c : Nat} (hk : k < 10) (hr : rqr k 3 v I) (hc : I 77 63 = nI c) (hcm : c + 4 ≤ 20) (K : P (some (.int (((-(x + nI k)) - v) ^^^ 6))) (aHp r rr (bdy 77 63 106 I c [20, 11, 50, 10]) J)) : aCl L xs fv 111 (d + 5) 163 [.ref 77, .int (nI k), .int x] (aHp r rr I J) P := by
  refine cl_of rfl (Nat.le_add_right _ _) ?_
  refine go_v (cd := cd163) [] 20 rfl ?_
  refine go_callv (cd := cd163) rfl rfl rfl rfl rfl (lv3 rfl) rfl (rf_body hc (by omega) ⟨rfl, ?_⟩)
  refine go_v (cd := cd163) [] 20 rfl ?_
  refine go_callv (cd := cd163) rfl rfl rfl rfl rfl (lv3 rfl) rfl (rf_a3_162 (d := d + 0) (c := c + 1) hk (bdy_rqr hr [20]) (bdy_n [20] I c hc) (by omega) ⟨rfl, ?_⟩)
  show aTo L xs fv 111 _ cd163 (12, _, [.int ((-(x + nI k)) - v)], aHp r rr (bdy 77 63 106 I c [20, 11, 50, 10]) J) P
  refine go_v (cd := cd163) [] 20 rfl ?_
  exact go_ireturn (cd := cd163) rfl K
theorem rf_a3_164 {x v : Int32} {k c : Nat} (hk : k < 10) (hr : rqr k 3 v I) (hc : I 77 63 = nI c) (hcm : c + 5 ≤ 20) (K : P (some (.int (((-((x + 1) + nI k)) - v) ^^^ 6))) (aHp r rr (bdy 77 63 106 I c [51, 20, 11, 50, 10]) J)) : aCl L xs fv 111 (d + 6) 164 [.ref 77, .int (nI k), .int x] (aHp r rr I J) P := by
  refine cl_of rfl (Nat.le_add_right _ _) ?_
  refine go_v (cd := cd164) [] 20 rfl ?_
  refine go_iald (cd := cd164) rfl (nI_vin (n := 11) (by omega) (by decide)) (lv3 rfl) rfl ?_
  rw [nI_clamp (show k < 2 ^ 31 by omega), (hr).1]
  refine go_lsw (cd := cd164) 47 rfl (by decide) ?_
  refine go_v (cd := cd164) [] 20 rfl ?_
  refine go_callv (cd := cd164) rfl rfl rfl rfl rfl (lv3 rfl) rfl (rf_body hc (by omega) ⟨rfl, ?_⟩)
  refine go_v (cd := cd164) [] 20 rfl ?_
  refine go_callv (cd := cd164) rfl rfl rfl rfl rfl (lv3 rfl) rfl (rf_a3_163 (d := d + 0) (c := c + 1) hk (bdy_rqr hr [51]) (bdy_n [51] I c hc) (by omega) ⟨rfl, ?_⟩)
  show aTo L xs fv 111 _ cd164 (61, _, [.int (((-((x + 1) + nI k)) - v) ^^^ 6)], aHp r rr (bdy 77 63 106 I c [51, 20, 11, 50, 10]) J) P
  exact go_ireturn (cd := cd164) rfl K
theorem rf_a3_165 {x v : Int32} {k c : Nat} (hk : k < 10) (hr : rqr k 3 v I) (hc : I 77 63 = nI c) (hcm : c + 6 ≤ 20) (K : P (some (.int ((((-((x + 1) + nI k)) - v) ^^^ 6) * 2))) (aHp r rr (bdy 77 63 106 I c [12, 51, 20, 11, 50, 10]) J)) : aCl L xs fv 111 (d + 7) 165 [.ref 77, .int (nI k), .int x] (aHp r rr I J) P := by
  refine cl_of rfl (Nat.le_add_right _ _) ?_
  refine go_v (cd := cd165) [] 20 rfl ?_
  refine go_callv (cd := cd165) rfl rfl rfl rfl rfl (lv3 rfl) rfl (rf_body hc (by omega) ⟨rfl, ?_⟩)
  refine go_v (cd := cd165) [] 20 rfl ?_
  refine go_callv (cd := cd165) rfl rfl rfl rfl rfl (lv3 rfl) rfl (rf_a3_164 (d := d + 0) (c := c + 1) hk (bdy_rqr hr [12]) (bdy_n [12] I c hc) (by omega) ⟨rfl, ?_⟩)
  show aTo L xs fv 111 _ cd165 (12, _, [.int (((-((x + 1) + nI k)) - v) ^^^ 6)], aHp r rr (bdy 77 63 106 I c [12, 51, 20, 11, 50, 10]) J) P
  refine go_v (cd := cd165) [] 20 rfl ?_
  exact go_ireturn (cd := cd165) rfl K
theorem rf_a3_166 {x v : Int32} {k c : Nat} (hk : k < 10) (hr : rqr k 3 v I) (hc : I 77 63 = nI c) (hcm : c + 6 ≤ 20) (K : P (some (.int ((((-((x + 1) + nI k)) - v) ^^^ 6) * 2))) (aHp r rr (bdy 77 63 106 I c [12, 51, 20, 11, 50, 10]) J)) : aCl L xs fv 111 (d + 8) 166 [.ref 77, .int (nI k), .int x] (aHp r rr I J) P := by
  refine cl_of rfl (Nat.le_add_right _ _) ?_
  refine go_v (cd := cd166) [] 20 rfl ?_
  refine go_iald (cd := cd166) rfl (nI_vin (n := 11) (by omega) (by decide)) (lv3 rfl) rfl ?_
  rw [nI_clamp (show k < 2 ^ 31 by omega), (hr).1]
  refine go_tswO (cd := cd166) 69 rfl (by decide) (by decide) ?_
  refine go_v (cd := cd166) [] 20 rfl ?_
  refine go_callv (cd := cd166) rfl rfl rfl rfl rfl (lv3 rfl) rfl (rf_a3_165 (d := d + 0) (c := c + 0) hk hr hc (by omega) ⟨rfl, ?_⟩)
  show aTo L xs fv 111 _ cd166 (75, _, [.int ((((-((x + 1) + nI k)) - v) ^^^ 6) * 2)], aHp r rr (bdy 77 63 106 I c [12, 51, 20, 11, 50, 10]) J) P
  exact go_ireturn (cd := cd166) rfl K
theorem rf_a4_161 {x v : Int32} {k c : Nat} (hk : k < 10) (hr : rqr k 4 v I) (hc : I 77 63 = nI c) (hcm : c + 2 ≤ 20) (K : P (some (.int ((x * 3) + nI k))) (aHp r rr (bdy 77 63 106 I c [30, 10]) J)) : aCl L xs fv 111 (d + 3) 161 [.ref 77, .int (nI k), .int x] (aHp r rr I J) P := by
  refine cl_of rfl (Nat.le_add_right _ _) ?_
  refine go_v (cd := cd161) [] 20 rfl ?_
  refine go_iald (cd := cd161) rfl (nI_vin (n := 11) (by omega) (by decide)) (lv3 rfl) rfl ?_
  rw [nI_clamp (show k < 2 ^ 31 by omega), (hr).1]
  refine go_tswI (cd := cd161) 40 rfl (off := 34) (by decide) (by decide) (by decide) (by decide) ?_
  refine go_v (cd := cd161) [] 20 rfl ?_
  refine go_callv (cd := cd161) rfl rfl rfl rfl rfl (lv3 rfl) rfl (rf_body hc (by omega) ⟨rfl, ?_⟩)
  refine go_v (cd := cd161) [] 20 rfl ?_
  refine go_callv (cd := cd161) rfl rfl rfl rfl rfl (lv3 rfl) rfl (rf_pp (d := d + 0) (c := c + 1) (bdy_n [30] I c hc) (by omega) ⟨rfl, ?_⟩)
  show aTo L xs fv 111 _ cd161 (54, _, [.int ((x * 3) + nI k)], aHp r rr (bdy 77 63 106 I c [30, 10]) J) P
  exact go_ireturn (cd := cd161) rfl K
theorem rf_a4_162 {x v : Int32} {k c : Nat} (hk : k < 10) (hr : rqr k 4 v I) (hc : I 77 63 = nI c) (hcm : c + 3 ≤ 20) (K : P (some (.int (((x * 3) + nI k) - v))) (aHp r rr (bdy 77 63 106 I c [11, 30, 10]) J)) : aCl L xs fv 111 (d + 4) 162 [.ref 77, .int (nI k), .int x] (aHp r rr I J) P := by
  refine cl_of rfl (Nat.le_add_right _ _) ?_
  refine go_v (cd := cd162) [] 20 rfl ?_
  refine go_callv (cd := cd162) rfl rfl rfl rfl rfl (lv3 rfl) rfl (rf_body hc (by omega) ⟨rfl, ?_⟩)
  refine go_v (cd := cd162) [] 20 rfl ?_
  refine go_callv (cd := cd162) rfl rfl rfl rfl rfl (lv3 rfl) rfl (rf_a4_161 (d := d + 0) (c := c + 1) hk (bdy_rqr hr [11]) (bdy_n [11] I c hc) (by omega) ⟨rfl, ?_⟩)
  show aTo L xs fv 111 _ cd162 (12, _, [.int ((x * 3) + nI k)], aHp r rr (bdy 77 63 106 I c [11, 30, 10]) J) P
  refine go_v (cd := cd162) [] 20 rfl ?_
  refine go_iald (cd := cd162) rfl (nI_vin (n := 11) (by omega) (by decide)) (lv3 rfl) rfl ?_
  rw [nI_clamp (show k < 2 ^ 31 by omega), (bdy_rqr hr [11, 30, 10]).2]
  refine go_v (cd := cd162) [] 20 rfl ?_
  exact go_ireturn (cd := cd162) rfl K
theorem rf_a4_164 {x v : Int32} {k c : Nat} (hk : k < 10) (hr : rqr k 4 v I) (hc : I 77 63 = nI c) (hcm : c + 3 ≤ 20) (K : P (some (.int (((x * 3) + nI k) - v))) (aHp r rr (bdy 77 63 106 I c [11, 30, 10]) J)) : aCl L xs fv 111 (d + 5) 164 [.ref 77, .int (nI k), .int x] (aHp r rr I J) P := by
  refine cl_of rfl (Nat.le_add_right _ _) ?_
  refine go_v (cd := cd164) [] 20 rfl ?_
  refine go_iald (cd := cd164) rfl (nI_vin (n := 11) (by omega) (by decide)) (lv3 rfl) rfl ?_
  rw [nI_clamp (show k < 2 ^ 31 by omega), (hr).1]
  refine go_lsw (cd := cd164) 84 rfl (by decide) ?_
  refine go_v (cd := cd164) [] 20 rfl ?_
  refine go_callv (cd := cd164) rfl rfl rfl rfl rfl (lv3 rfl) rfl (rf_a4_162 (d := d + 0) (c := c + 0) hk hr hc (by omega) ⟨rfl, ?_⟩)
  show aTo L xs fv 111 _ cd164 (90, _, [.int (((x * 3) + nI k) - v)], aHp r rr (bdy 77 63 106 I c [11, 30, 10]) J) P
  exact go_ireturn (cd := cd164) rfl K
theorem rf_a4_165 {x v : Int32} {k c : Nat} (hk : k < 10) (hr : rqr k 4 v I) (hc : I 77 63 = nI c) (hcm : c + 4 ≤ 20) (K : P (some (.int ((((x * 3) + nI k) - v) * 2))) (aHp r rr (bdy 77 63 106 I c [12, 11, 30, 10]) J)) : aCl L xs fv 111 (d + 6) 165 [.ref 77, .int (nI k), .int x] (aHp r rr I J) P := by
  refine cl_of rfl (Nat.le_add_right _ _) ?_
  refine go_v (cd := cd165) [] 20 rfl ?_
  refine go_callv (cd := cd165) rfl rfl rfl rfl rfl (lv3 rfl) rfl (rf_body hc (by omega) ⟨rfl, ?_⟩)
  refine go_v (cd := cd165) [] 20 rfl ?_
  refine go_callv (cd := cd165) rfl rfl rfl rfl rfl (lv3 rfl) rfl (rf_a4_164 (d := d + 0) (c := c + 1) hk (bdy_rqr hr [12]) (bdy_n [12] I c hc) (by omega) ⟨rfl, ?_⟩)
  show aTo L xs fv 111 _ cd165 (12, _, [.int (((x * 3) + nI k) - v)], aHp r rr (bdy 77 63 106 I c [12, 11, 30, 10]) J) P
  refine go_v (cd := cd165) [] 20 rfl ?_
  exact go_ireturn (cd := cd165) rfl K
theorem rf_a4_166 {x v : Int32} {k c : Nat} (hk : k < 10) (hr : rqr k 4 v I) (hc : I 77 63 = nI c) (hcm : c + 5 ≤ 20) (K : P (some (.int (((((x - nI k) * 3) + nI k) - v) * 2))) (aHp r rr (bdy 77 63 106 I c [60, 12, 11, 30, 10]) J)) : aCl L xs fv 111 (d + 7) 166 [.ref 77, .int (nI k), .int x] (aHp r rr I J) P := by
  refine cl_of rfl (Nat.le_add_right _ _) ?_
  refine go_v (cd := cd166) [] 20 rfl ?_
  refine go_iald (cd := cd166) rfl (nI_vin (n := 11) (by omega) (by decide)) (lv3 rfl) rfl ?_
  rw [nI_clamp (show k < 2 ^ 31 by omega), (hr).1]
  refine go_tswI (cd := cd166) 54 rfl (off := 48) (by decide) (by decide) (by decide) (by decide) ?_
  refine go_v (cd := cd166) [] 20 rfl ?_
  refine go_callv (cd := cd166) rfl rfl rfl rfl rfl (lv3 rfl) rfl (rf_body hc (by omega) ⟨rfl, ?_⟩)
  refine go_v (cd := cd166) [] 20 rfl ?_
  refine go_callv (cd := cd166) rfl rfl rfl rfl rfl (lv3 rfl) rfl (rf_a4_165 (d := d + 0) (c := c + 1) hk (bdy_rqr hr [60]) (bdy_n [60] I c hc) (by omega) ⟨rfl, ?_⟩)
  show aTo L xs fv 111 _ cd166 (68, _, [.int (((((x - nI k) * 3) + nI k) - v) * 2)], aHp r rr (bdy 77 63 106 I c [60, 12, 11, 30, 10]) J) P
  exact go_ireturn (cd := cd166) rfl K
theorem rf_a5_161 {x v : Int32} {k c : Nat} (hk : k < 10) (hr : rqr k 5 v I) (hc : I 77 63 = nI c) (hcm : c + 1 ≤ 20) (K : P (some (.int (x + nI k))) (aHp r rr (bdy 77 63 106 I c [10]) J)) : aCl L xs fv 111 (d + 3) 161 [.ref 77, .int (nI k), .int x] (aHp r rr I J) P := by
  refine cl_of rfl (Nat.le_add_right _ _) ?_
  refine go_v (cd := cd161) [] 20 rfl ?_
  refine go_iald (cd := cd161) rfl (nI_vin (n := 11) (by omega) (by decide)) (lv3 rfl) rfl ?_
  rw [nI_clamp (show k < 2 ^ 31 by omega), (hr).1]
  refine go_tswI (cd := cd161) 89 rfl (off := 83) (by decide) (by decide) (by decide) (by decide) ?_
  refine go_v (cd := cd161) [] 20 rfl ?_
  refine go_callv (cd := cd161) rfl rfl rfl rfl rfl (lv3 rfl) rfl (rf_pp (d := d + 0) (c := c + 0) hc (by omega) ⟨rfl, ?_⟩)
  show aTo L xs fv 111 _ cd161 (95, _, [.int (x + nI k)], aHp r rr (bdy 77 63 106 I c [10]) J) P
  exact go_ireturn (cd := cd161) rfl K
theorem rf_a5_162 {x v : Int32} {k c : Nat} (hk : k < 10) (hr : rqr k 5 v I) (hc : I 77 63 = nI c) (hcm : c + 2 ≤ 20) (K : P (some (.int ((x + nI k) - v))) (aHp r rr (bdy 77 63 106 I c [11, 10]) J)) : aCl L xs fv 111 (d + 4) 162 [.ref 77, .int (nI k), .int x] (aHp r rr I J) P := by
  refine cl_of rfl (Nat.le_add_right _ _) ?_
  refine go_v (cd := cd162) [] 20 rfl ?_
  refine go_callv (cd := cd162) rfl rfl rfl rfl rfl (lv3 rfl) rfl (rf_body hc (by omega) ⟨rfl, ?_⟩)
  refine go_v (cd := cd162) [] 20 rfl ?_
  refine go_callv (cd := cd162) rfl rfl rfl rfl rfl (lv3 rfl) rfl (rf_a5_161 (d := d + 0) (c := c + 1) hk (bdy_rqr hr [11]) (bdy_n [11] I c hc) (by omega) ⟨rfl, ?_⟩)
  show aTo L xs fv 111 _ cd162 (12, _, [.int (x + nI k)], aHp r rr (bdy 77 63 106 I c [11, 10]) J) P
  refine go_v (cd := cd162) [] 20 rfl ?_
  refine go_iald (cd := cd162) rfl (nI_vin (n := 11) (by omega) (by decide)) (lv3 rfl) rfl ?_
  rw [nI_clamp (show k < 2 ^ 31 by omega), (bdy_rqr hr [11, 10]).2]
  refine go_v (cd := cd162) [] 20 rfl ?_
  exact go_ireturn (cd := cd162) rfl K
theorem rf_a5_164 {x v : Int32} {k c : Nat} (hk : k < 10) (hr : rqr k 5 v I) (hc : I 77 63 = nI c) (hcm : c + 2 ≤ 20) (K : P (some (.int ((x + nI k) - v))) (aHp r rr (bdy 77 63 106 I c [11, 10]) J)) : aCl L xs fv 111 (d + 5) 164 [.ref 77, .int (nI k), .int x] (aHp r rr I J) P := by
  refine cl_of rfl (Nat.le_add_right _ _) ?_
  refine go_v (cd := cd164) [] 20 rfl ?_
  refine go_iald (cd := cd164) rfl (nI_vin (n := 11) (by omega) (by decide)) (lv3 rfl) rfl ?_
  rw [nI_clamp (show k < 2 ^ 31 by omega), (hr).1]
  refine go_lsw (cd := cd164) 84 rfl (by decide) ?_
  refine go_v (cd := cd164) [] 20 rfl ?_
  refine go_callv (cd := cd164) rfl rfl rfl rfl rfl (lv3 rfl) rfl (rf_a5_162 (d := d + 0) (c := c + 0) hk hr hc (by omega) ⟨rfl, ?_⟩)
  show aTo L xs fv 111 _ cd164 (90, _, [.int ((x + nI k) - v)], aHp r rr (bdy 77 63 106 I c [11, 10]) J) P
  exact go_ireturn (cd := cd164) rfl K
theorem rf_a5_165 {x v : Int32} {k c : Nat} (hk : k < 10) (hr : rqr k 5 v I) (hc : I 77 63 = nI c) (hcm : c + 3 ≤ 20) (K : P (some (.int (((x + nI k) - v) * 2))) (aHp r rr (bdy 77 63 106 I c [12, 11, 10]) J)) : aCl L xs fv 111 (d + 6) 165 [.ref 77, .int (nI k), .int x] (aHp r rr I J) P := by
  refine cl_of rfl (Nat.le_add_right _ _) ?_
  refine go_v (cd := cd165) [] 20 rfl ?_
  refine go_callv (cd := cd165) rfl rfl rfl rfl rfl (lv3 rfl) rfl (rf_body hc (by omega) ⟨rfl, ?_⟩)
  refine go_v (cd := cd165) [] 20 rfl ?_
  refine go_callv (cd := cd165) rfl rfl rfl rfl rfl (lv3 rfl) rfl (rf_a5_164 (d := d + 0) (c := c + 1) hk (bdy_rqr hr [12]) (bdy_n [12] I c hc) (by omega) ⟨rfl, ?_⟩)
  show aTo L xs fv 111 _ cd165 (12, _, [.int ((x + nI k) - v)], aHp r rr (bdy 77 63 106 I c [12, 11, 10]) J) P
  refine go_v (cd := cd165) [] 20 rfl ?_
  exact go_ireturn (cd := cd165) rfl K
theorem rf_a5_166 {x v : Int32} {k c : Nat} (hk : k < 10) (hr : rqr k 5 v I) (hc : I 77 63 = nI c) (hcm : c + 6 ≤ 20) (K : P (some (.int ((((x + nI k) - v) * 2) + ((1 + nI k) - v)))) (aHp r rr (bdy 77 63 106 I c [40, 12, 11, 10, 11, 10]) J)) : aCl L xs fv 111 (d + 7) 166 [.ref 77, .int (nI k), .int x] (aHp r rr I J) P := by
  refine cl_of rfl (Nat.le_add_right _ _) ?_
  refine go_v (cd := cd166) [] 20 rfl ?_
  refine go_iald (cd := cd166) rfl (nI_vin (n := 11) (by omega) (by decide)) (lv3 rfl) rfl ?_
  rw [nI_clamp (show k < 2 ^ 31 by omega), (hr).1]
  refine go_tswI (cd := cd166) 32 rfl (off := 26) (by decide) (by decide) (by decide) (by decide) ?_
  refine go_v (cd := cd166) [] 20 rfl ?_
  refine go_callv (cd := cd166) rfl rfl rfl rfl rfl (lv3 rfl) rfl (rf_body hc (by omega) ⟨rfl, ?_⟩)
  refine go_v (cd := cd166) [] 20 rfl ?_
  refine go_callv (cd := cd166) rfl rfl rfl rfl rfl (lv3 rfl) rfl (rf_a5_165 (d := d + 0) (c := c + 1) hk (bdy_rqr hr [40]) (bdy_n [40] I c hc) (by omega) ⟨rfl, ?_⟩)
  show aTo L xs fv 111 _ cd166 (44, _, [.int (((x + nI k) - v) * 2)], aHp r rr (bdy 77 63 106 I c [40, 12, 11, 10]) J) P
  refine go_v (cd := cd166) [] 20 rfl ?_
  refine go_callv (cd := cd166) rfl rfl rfl rfl rfl (lv3 rfl) rfl (rf_a5_164 (d := d + 1) (c := c + 4) hk (bdy_rqr hr [40, 12, 11, 10]) (bdy_n [40, 12, 11, 10] I c hc) (by omega) ⟨rfl, ?_⟩)
  show aTo L xs fv 111 _ cd166 (52, _, [.int ((1 + nI k) - v), .int (((x + nI k) - v) * 2)], aHp r rr (bdy 77 63 106 I c [40, 12, 11, 10, 11, 10]) J) P
  refine go_v (cd := cd166) [] 20 rfl ?_
  exact go_ireturn (cd := cd166) rfl K
theorem rf_a6_161 {x v : Int32} {k c : Nat} (hk : k < 10) (hr : rqr k 6 v I) (hc : I 77 63 = nI c) (hcm : c + 2 ≤ 20) (K : P (some (.int ((x + nI k) ^^^ v))) (aHp r rr (bdy 77 63 106 I c [71, 10]) J)) : aCl L xs fv 111 (d + 3) 161 [.ref 77, .int (nI k), .int x] (aHp r rr I J) P := by
  refine cl_of rfl (Nat.le_add_right _ _) ?_
  refine go_v (cd := cd161) [] 20 rfl ?_
  refine go_iald (cd := cd161) rfl (nI_vin (n := 11) (by omega) (by decide)) (lv3 rfl) rfl ?_
  rw [nI_clamp (show k < 2 ^ 31 by omega), (hr).1]
  refine go_tswI (cd := cd161) 69 rfl (off := 63) (by decide) (by decide) (by decide) (by decide) ?_
  refine go_v (cd := cd161) [] 20 rfl ?_
  refine go_callv (cd := cd161) rfl rfl rfl rfl rfl (lv3 rfl) rfl (rf_body hc (by omega) ⟨rfl, ?_⟩)
  refine go_v (cd := cd161) [] 20 rfl ?_
  refine go_callv (cd := cd161) rfl rfl rfl rfl rfl (lv3 rfl) rfl (rf_pp (d := d + 0) (c := c + 1) (bdy_n [71] I c hc) (by omega) ⟨rfl, ?_⟩)
  show aTo L xs fv 111 _ cd161 (81, _, [.int (x + nI k)], aHp r rr (bdy 77 63 106 I c [71, 10]) J) P
  refine go_v (cd := cd161) [] 20 rfl ?_
  refine go_iald (cd := cd161) rfl (nI_vin (n := 11) (by omega) (by decide)) (lv3 rfl) rfl ?_
  rw [nI_clamp (show k < 2 ^ 31 by omega), (bdy_rqr hr [71, 10]).2]
  refine go_v (cd := cd161) [] 20 rfl ?_
  exact go_ireturn (cd := cd161) rfl K
theorem rf_a6_162 {x v : Int32} {k c : Nat} (hk : k < 10) (hr : rqr k 6 v I) (hc : I 77 63 = nI c) (hcm : c + 3 ≤ 20) (K : P (some (.int (((x + nI k) ^^^ v) - v))) (aHp r rr (bdy 77 63 106 I c [11, 71, 10]) J)) : aCl L xs fv 111 (d + 4) 162 [.ref 77, .int (nI k), .int x] (aHp r rr I J) P := by
  refine cl_of rfl (Nat.le_add_right _ _) ?_
  refine go_v (cd := cd162) [] 20 rfl ?_
  refine go_callv (cd := cd162) rfl rfl rfl rfl rfl (lv3 rfl) rfl (rf_body hc (by omega) ⟨rfl, ?_⟩)
  refine go_v (cd := cd162) [] 20 rfl ?_
  refine go_callv (cd := cd162) rfl rfl rfl rfl rfl (lv3 rfl) rfl (rf_a6_161 (d := d + 0) (c := c + 1) hk (bdy_rqr hr [11]) (bdy_n [11] I c hc) (by omega) ⟨rfl, ?_⟩)
  show aTo L xs fv 111 _ cd162 (12, _, [.int ((x + nI k) ^^^ v)], aHp r rr (bdy 77 63 106 I c [11, 71, 10]) J) P
  refine go_v (cd := cd162) [] 20 rfl ?_
  refine go_iald (cd := cd162) rfl (nI_vin (n := 11) (by omega) (by decide)) (lv3 rfl) rfl ?_
  rw [nI_clamp (show k < 2 ^ 31 by omega), (bdy_rqr hr [11, 71, 10]).2]
  refine go_v (cd := cd162) [] 20 rfl ?_
  exact go_ireturn (cd := cd162) rfl K
theorem rf_a6_164 {x v : Int32} {k c : Nat} (hk : k < 10) (hr : rqr k 6 v I) (hc : I 77 63 = nI c) (hcm : c + 5 ≤ 20) (K : P (some (.int ((((x + nI k) ^^^ v) - v) + (2 + nI k)))) (aHp r rr (bdy 77 63 106 I c [70, 11, 71, 10, 10]) J)) : aCl L xs fv 111 (d + 5) 164 [.ref 77, .int (nI k), .int x] (aHp r rr I J) P := by
  refine cl_of rfl (Nat.le_add_right _ _) ?_
  refine go_v (cd := cd164) [] 20 rfl ?_
  refine go_iald (cd := cd164) rfl (nI_vin (n := 11) (by omega) (by decide)) (lv3 rfl) rfl ?_
  rw [nI_clamp (show k < 2 ^ 31 by omega), (hr).1]
  refine go_lsw (cd := cd164) 62 rfl (by decide) ?_
  refine go_v (cd := cd164) [] 20 rfl ?_
  refine go_callv (cd := cd164) rfl rfl rfl rfl rfl (lv3 rfl) rfl (rf_body hc (by omega) ⟨rfl, ?_⟩)
  refine go_v (cd := cd164) [] 20 rfl ?_
  refine go_callv (cd := cd164) rfl rfl rfl rfl rfl (lv3 rfl) rfl (rf_a6_162 (d := d + 0) (c := c + 1) hk (bdy_rqr hr [70]) (bdy_n [70] I c hc) (by omega) ⟨rfl, ?_⟩)
  show aTo L xs fv 111 _ cd164 (74, _, [.int (((x + nI k) ^^^ v) - v)], aHp r rr (bdy 77 63 106 I c [70, 11, 71, 10]) J) P
  refine go_v (cd := cd164) [] 20 rfl ?_
  refine go_callv (cd := cd164) rfl rfl rfl rfl rfl (lv3 rfl) rfl (rf_pp (d := d + 2) (c := c + 4) (bdy_n [70, 11, 71, 10] I c hc) (by omega) ⟨rfl, ?_⟩)
  show aTo L xs fv 111 _ cd164 (82, _, [.int (2 + nI k), .int (((x + nI k) ^^^ v) - v)], aHp r rr (bdy 77 63 106 I c [70, 11, 71, 10, 10]) J) P
  refine go_v (cd := cd164) [] 20 rfl ?_
  exact go_ireturn (cd := cd164) rfl K
theorem rf_a6_165 {x v : Int32} {k c : Nat} (hk : k < 10) (hr : rqr k 6 v I) (hc : I 77 63 = nI c) (hcm : c + 6 ≤ 20) (K : P (some (.int (((((x + nI k) ^^^ v) - v) + (2 + nI k)) * 2))) (aHp r rr (bdy 77 63 106 I c [12, 70, 11, 71, 10, 10]) J)) : aCl L xs fv 111 (d + 6) 165 [.ref 77, .int (nI k), .int x] (aHp r rr I J) P := by
  refine cl_of rfl (Nat.le_add_right _ _) ?_
  refine go_v (cd := cd165) [] 20 rfl ?_
  refine go_callv (cd := cd165) rfl rfl rfl rfl rfl (lv3 rfl) rfl (rf_body hc (by omega) ⟨rfl, ?_⟩)
  refine go_v (cd := cd165) [] 20 rfl ?_
  refine go_callv (cd := cd165) rfl rfl rfl rfl rfl (lv3 rfl) rfl (rf_a6_164 (d := d + 0) (c := c + 1) hk (bdy_rqr hr [12]) (bdy_n [12] I c hc) (by omega) ⟨rfl, ?_⟩)
  show aTo L xs fv 111 _ cd165 (12, _, [.int ((((x + nI k) ^^^ v) - v) + (2 + nI k))], aHp r rr (bdy 77 63 106 I c [12, 70, 11, 71, 10, 10]) J) P
  refine go_v (cd := cd165) [] 20 rfl ?_
  exact go_ireturn (cd := cd165) rfl K
theorem rf_a6_166 {x v : Int32} {k c : Nat} (hk : k < 10) (hr : rqr k 6 v I) (hc : I 77 63 = nI c) (hcm : c + 12 ≤ 20) (K : P (some (.int ((((((x + nI k) ^^^ v) - v) + (2 + nI k)) * 2) + ((((1 + nI k) ^^^ v) - v) + (2 + nI k))))) (aHp r rr (bdy 77 63 106 I c [40, 12, 70, 11, 71, 10, 10, 70, 11, 71, 10, 10]) J)) : aCl L xs fv 111 (d + 7) 166 [.ref 77, .int (nI k), .int x] (aHp r rr I J) P := by
  refine cl_of rfl (Nat.le_add_right _ _) ?_
  refine go_v (cd := cd166) [] 20 rfl ?_
  refine go_iald (cd := cd166) rfl (nI_vin (n := 11) (by omega) (by decide)) (lv3 rfl) rfl ?_
  rw [nI_clamp (show k < 2 ^ 31 by omega), (hr).1]
  refine go_tswI (cd := cd166) 32 rfl (off := 26) (by decide) (by decide) (by decide) (by decide) ?_
  refine go_v (cd := cd166) [] 20 rfl ?_
  refine go_callv (cd := cd166) rfl rfl rfl rfl rfl (lv3 rfl) rfl (rf_body hc (by omega) ⟨rfl, ?_⟩)
  refine go_v (cd := cd166) [] 20 rfl ?_
  refine go_callv (cd := cd166) rfl rfl rfl rfl rfl (lv3 rfl) rfl (rf_a6_165 (d := d + 0) (c := c + 1) hk (bdy_rqr hr [40]) (bdy_n [40] I c hc) (by omega) ⟨rfl, ?_⟩)
  show aTo L xs fv 111 _ cd166 (44, _, [.int (((((x + nI k) ^^^ v) - v) + (2 + nI k)) * 2)], aHp r rr (bdy 77 63 106 I c [40, 12, 70, 11, 71, 10, 10]) J) P
  refine go_v (cd := cd166) [] 20 rfl ?_
  refine go_callv (cd := cd166) rfl rfl rfl rfl rfl (lv3 rfl) rfl (rf_a6_164 (d := d + 1) (c := c + 7) hk (bdy_rqr hr [40, 12, 70, 11, 71, 10, 10]) (bdy_n [40, 12, 70, 11, 71, 10, 10] I c hc) (by omega) ⟨rfl, ?_⟩)
  show aTo L xs fv 111 _ cd166 (52, _, [.int ((((1 + nI k) ^^^ v) - v) + (2 + nI k)), .int (((((x + nI k) ^^^ v) - v) + (2 + nI k)) * 2)], aHp r rr (bdy 77 63 106 I c [40, 12, 70, 11, 71, 10, 10, 70, 11, 71, 10, 10]) J) P
  refine go_v (cd := cd166) [] 20 rfl ?_
  exact go_ireturn (cd := cd166) rfl K
/-- what holds between calls, but for the bodies that ran -/
theorem aIn_B {A : Nat → List Cl} {I' : Nat → Nat → Int32} (hv : aInv r A I J) (h : ∀ j, j ≠ 0 → j ≠ 29 → j ≠ 77 → j ≠ 106 → I' j = I j) (h0 : ∀ q, q ≠ 18 → I' 0 q = I 0 q) (h77 : ∀ q, q ≠ 63 → I' 77 q = I 77 q) (hB : iB I') : aIn (111 + 3 * r, I', J, aRf r rr) := by
  obtain ⟨h1, h2, h3, h4, h5, h6, h7, h8, -, hA, hU, hC, hX⟩ := hv
  have k : ∀ q, Nat.beq q 63 = false → I' 77 q = I 77 q := fun q hq => h77 q (by intro e; subst e; cases hq)
  have k0 : ∀ q, Nat.beq q 18 = false → I' 0 q = I 0 q := fun q hq => h0 q (by intro e; subst e; cases hq)
  have e : ∀ j, (!(Nat.beq j 0) && (!(Nat.beq j 29) && (!(Nat.beq j 77) && !(Nat.beq j 106)))) = true → I' j = I j := fun j hj => h j (by intro e; subst e; cases hj) (by intro e; subst e; cases hj) (by intro e; subst e; cases hj) (by intro e; subst e; cases hj)
  refine aIn_mk (A := A) ?_ ?_ ?_ ?_ ?_ ?_ ?_ ?_ hB ?_ ?_ ?_ ?_
  · unfold iS at h1 ⊢; rw [e 1 rfl, k 4 rfl, k 5 rfl, k 6 rfl, k 7 rfl, k 3 rfl, k 0 rfl, k 1 rfl, k 2 rfl, k 11 rfl, k 49 rfl]; exact h1
  · unfold iR at h2 ⊢; rw [k0 9 rfl, k 4 rfl, k 5 rfl, k 6 rfl, k 3 rfl, k 0 rfl, k 11 rfl, k 10 rfl, k 49 rfl]; exact h2
  · unfold iQ at h3 ⊢; rw [e 2 rfl, e 104 rfl]; exact h3
  · unfold iK at h4 ⊢; rw [k0 3 rfl, e 3 rfl, e 4 rfl, e 105 rfl, k 51 rfl, k 57 rfl, k 58 rfl, k 59 rfl, k 60 rfl, k 56 rfl, k 53 rfl, k 54 rfl, k 55 rfl, k 52 rfl, k 61 rfl, k 0 rfl, k 10 rfl]; exact h4
  · unfold iW at h5 ⊢; rw [e 7 rfl, e 8 rfl, e 78 rfl, e 79 rfl]; exact h5
  · unfold iT at h6 ⊢; rw [e 9 rfl, e 10 rfl, e 80 rfl, k 12 rfl]; exact h6
  · exact iG_c (k0 12 rfl) (k 29 rfl) (e 91 rfl) (e 92 rfl) (e 93 rfl) (e 94 rfl) (fun j hj => h j (by omega) (by omega) (by omega) (by omega)) h7
  · exact iP_c (e 107 rfl) (e 108 rfl) (fun j hj => by have := hj.1; have := hj.2; exact h j (by omega) (by omega) (by omega) (by omega)) h8
  · unfold iA at hA ⊢; rw [e 21 rfl, e 24 rfl, e 92 rfl]; exact hA
  · unfold iU at hU ⊢; rw [k 4 rfl, k 1 rfl, k 2 rfl, k 51 rfl, k 57 rfl, k 54 rfl, k 55 rfl]; exact hU
  · exact iC_c (k 10 rfl) (e 81 rfl) (e 82 rfl) (e 83 rfl) (e 84 rfl) (e 85 rfl) (e 86 rfl) (e 87 rfl) (fun j hj => h j (by omega) (by omega) (by omega) (by omega)) (fun j hj => h j (by omega) (by omega) (by omega) (by omega)) hC
  · exact iX_c (k 0 rfl) (k 11 rfl) (e 19 rfl) (e 78 rfl) hX
/-- both sides ran the bodies l -/
theorem ac_done {A : Nat → List Cl} (hv : aInv r A I J) (l : List Int32) (hl : l.length ≤ 20) : aIn (aHp r rr (bdy 77 63 106 (up2 (bdy 0 18 29 (up2 I 0 18 0) 0 l) 77 63 0) 0 l) J) := by
  have hB := hv.2.2.2.2.2.2.2.2.1
  have n1 : bdy 0 18 29 (up2 I 0 18 0) 0 l 0 18 = nI l.length := (bdy_n l _ 0 up2_e).trans (by rw [Nat.zero_add])
  have n2 : ∀ X : Nat → Nat → Int32, bdy 77 63 106 (up2 X 77 63 0) 0 l 77 63 = nI l.length := fun X => (bdy_n l _ 0 up2_e).trans (by rw [Nat.zero_add])
  refine aIn_B hv (fun j a b c e => ?_) (fun q hq => ?_) (fun q hq => ?_) ⟨?_, ?_, ?_, fun k hk => ?_⟩
  · rw [bdy_o c e, up2_ne c, bdy_o a b, up2_ne a]
  · rw [bdy_o (by decide) (by decide), up2_ne (by decide), bdy_q hq (by decide), up2_at, if_neg hq]
  · rw [bdy_q hq (by decide), up2_at, if_neg hq, bdy_o (by decide) (by decide), up2_ne (by decide)]
  · rw [bdy_o (by decide) (by decide), up2_ne (by decide), n1, n2]
  · rw [n2]; exact nI_pos' (by omega)
  · rw [n2]; exact nI_le (b := 1000) (by omega) (by decide)
  · rw [bdy_o (show 29 ≠ 77 by decide) (by decide), up2_ne (by decide)]
    refine bdy_2 l _ _ 0 ?_
    rw [up2_ne (by decide), up2_ne (by decide), bdy_o (show 106 ≠ 0 by decide) (by decide), up2_ne (by decide)]
    exact hB.2.2.2 k hk
theorem cl_isRuleG {w : Int32} (g1 : I 77 29 = nI r) (g3 : r ≤ 10) (k1 : ∀ k, k < r → w = nI k → P (some (.int 1)) (aHp r rr I J)) (k0 : ¬ (0 ≤ w ∧ w < nI r) → P (some (.int 0)) (aHp r rr I J)) : aCl L xs fv 111 (d + 2) 127 [.ref 77, .int w] (aHp r rr I J) P := by
  have hle : w ≤ nI r - 1 ↔ w < nI r := by
    have h1 : (0 : Int32) ≤ nI r := nI_pos' (by omega)
    have h2 : nI r ≤ 10 := nI_le (b := 10) g3 (by decide)
    generalize nI r = z at *
    grind
  refine cl_of rfl (Nat.le_add_right _ _) ?_
  refine go_v (cd := cd127) [] 9 rfl ?_
  refine go_callv (cd := cd127) rfl rfl rfl rfl rfl (lv3 rfl) rfl (cl_in (fun hq => ⟨rfl, ?_⟩) (fun hq => ⟨rfl, ?_⟩))
  · have hq : 0 ≤ w ∧ w ≤ I 77 29 - 1 := hq
    rw [g1, hle] at hq
    obtain ⟨k, hk, he, -⟩ := nI_ex (nI r) (nI_toInt (by omega)) hq.1 hq.2
    exact go_zreturn (cd := cd127) rfl (Or.inr rfl) (k1 k hk he)
  · have hq : ¬ (0 ≤ w ∧ w ≤ I 77 29 - 1) := hq
    rw [g1, hle] at hq
    exact go_zreturn (cd := cd127) rfl (Or.inl rfl) (k0 hq)
/-- the reference's act, up to what it asks of a kind -/
theorem rf_act {w g x : Int32} (h29 : I 77 29 = nI r) (h10 : r ≤ 10) (k0 : ¬ ((0 ≤ w ∧ w < nI r) ∧ 0 ≤ g ∧ g ≤ 2) → P (some (.int 0)) (aHp r rr (up2 I 77 63 0) J))
    (KK : ∀ k, k < r → w = nI k → (0 ≤ g ∧ g ≤ 2) → aTo L xs fv 111 (d + 8) cd167 (25, [(0, .ref 77), (1, .int (nI k)), (2, .int g), (3, .int x)], [], aHp r rr (up2 I 77 63 0) J) P) : aCl L xs fv 111 (d + 9) 167 [.ref 77, .int w, .int g, .int x] (aHp r rr I J) P := by
  refine cl_of rfl (Nat.le_add_right _ _) ?_
  refine go_v (cd := cd167) [] 20 rfl ?_
  show aTo L xs fv 111 _ cd167 (7, _, [.int w, .ref 77], aHp r rr (up2 I 77 63 0) J) P
  have h29' : up2 I 77 63 0 77 29 = nI r := by rw [up2_42 (by decide)]; exact h29
  generalize up2 I 77 63 0 = I' at *
  by_cases hw : 0 ≤ w ∧ w < nI r
  case neg =>
    refine go_callv (cd := cd167) rfl rfl rfl rfl rfl (lv3 rfl) rfl (cl_isRuleG h29' h10 (fun k hk he => absurd ?_ hw) (fun _ => ⟨rfl, ?_⟩))
    · subst he; exact ⟨nI_pos' (by omega), nI_lt hk (by omega)⟩
    · refine go_st (cd := cd167) 1 rfl (go_ifT rfl ?_)
      refine go_v (cd := cd167) [] 20 rfl ?_
      exact go_ireturn (cd := cd167) rfl (k0 (fun h => hw h.1))
  refine go_callv (cd := cd167) rfl rfl rfl rfl rfl (lv3 rfl) rfl (cl_isRuleG h29' h10 (fun k hk he => ⟨rfl, ?_⟩) (fun h => absurd hw h))
  refine go_st (cd := cd167) 1 rfl (go_ifF (by decide) ?_)
  refine go_v (cd := cd167) [] 20 rfl ?_
  refine go_callv (cd := cd167) rfl rfl rfl rfl rfl (lv3 rfl) rfl (cl_in (fun hx => ⟨rfl, ?_⟩) (fun hx => ⟨rfl, ?_⟩))
  · refine go_st (cd := cd167) 1 rfl (go_ifF (by decide) ?_)
    subst he
    exact go_sb (KK k hk rfl hx) ⟨rfl, rfl, rfl, rfl, trivial⟩ rfl rfl rfl
  · refine go_st (cd := cd167) 1 rfl (go_ifT rfl ?_)
    refine go_v (cd := cd167) [] 20 rfl ?_
    exact go_ireturn (cd := cd167) rfl (k0 (fun h => hx h.2))
set_option maxHeartbeats 8000000 in
theorem pr_act {w g x : Int32} {h : aH} (hi : aIn h) : aPair L xs fv (d + 9) 58 167 [.int w, .int g, .int x] h := by
  obtain ⟨r, rr, A, I, J, rfl, hv⟩ := hi
  have hG := hv.2.2.2.2.2.2.1
  have h29 := hG.2.1
  have h10 := hG.2.2.1
  have hd0 : aIn (aHp r rr (up2 (up2 I 0 18 0) 77 63 0) J) := ac_done hv [] (by decide)
  have hG' : iG r (up2 I 0 18 0) := iG_c (I := I) rfl rfl rfl rfl rfl rfl (fun j hj => up2_ne (by omega)) hG
  refine cl_of rfl (Nat.le_add_right _ _) ?_
  refine go_v (cd := cd58) [] 9 rfl ?_
  show aTo L xs fv 111 _ cd58 (7, _, [.int w, .ref 0], aHp r rr (up2 I 0 18 0) J) _
  refine go_callv (cd := cd58) rfl rfl rfl rfl rfl (lv3 rfl) rfl (cl_ruleOf hG' (fun k hk he => ⟨rfl, ?_⟩) (fun hq => ⟨rfl, ?_⟩))
  case refine_2 =>
    refine go_v (cd := cd58) [] 20 rfl ?_
    exact go_ireturn (cd := cd58) rfl ⟨Or.inl rfl, _, rfl, rf_act (d := d) (show up2 I 0 18 0 77 29 = nI r from h29) h10 (fun _ => ⟨rfl, rfl, hd0⟩) (fun k hk he _ => absurd (in_of hv ⟨k, hk, he⟩) hq)⟩
  subst he
  have hk10 : k < 10 := by omega
  refine go_v (cd := cd58) [] 20 rfl ?_
  by_cases hg0 : g < 0
  case pos =>
    refine go_st (cd := cd58) 1 rfl (go_ifT hg0 ?_)
    refine go_v (cd := cd58) [] 20 rfl ?_
    exact go_ireturn (cd := cd58) rfl ⟨Or.inl rfl, _, rfl, rf_act (d := d) (show up2 I 0 18 0 77 29 = nI r from h29) h10 (fun _ => ⟨rfl, rfl, hd0⟩) (fun k hk he h => absurd h (by grind))⟩
  refine go_st (cd := cd58) 1 rfl (go_ifF hg0 ?_)
  refine go_v (cd := cd58) [] 20 rfl ?_
  by_cases hg3 : g < 3
  case neg =>
    refine go_st (cd := cd58) 1 rfl (go_ifF hg3 ?_)
    refine go_v (cd := cd58) [] 20 rfl ?_
    exact go_ireturn (cd := cd58) rfl ⟨Or.inl rfl, _, rfl, rf_act (d := d) (show up2 I 0 18 0 77 29 = nI r from h29) h10 (fun _ => ⟨rfl, rfl, hd0⟩) (fun k hk he h => absurd h (by grind))⟩
  refine go_st (cd := cd58) 1 rfl (go_ifT hg3 ?_)
  have hl := rlq_of hG hk
  have e0 := hl.2.2.1
  have e1 := hl.2.2.2.1
  have e2 := hl.2.2.2.2.2.2.1
  have hrq : rq k (I 91 k) (nI k) (I 92 k) (up2 I 0 18 0) := by
    unfold rq
    rw [up2_ne (by omega)]
    exact ⟨e0, e1, e2⟩
  have hcnt : up2 I 0 18 0 0 18 = nI 0 := up2_e
  refine go_v (cd := cd58) [33] 20 rfl ?_
  refine go_get (cd := cd58) rfl (ru_lt hk) (ru_k hk10) ?_
  rw [show aVal (aHp r rr (up2 I 0 18 0) J) 0 (111 + 3 * k) 1 = .int (I 91 k) from congrArg Value.int hrq.2.1]
  refine go_v (cd := cd58) [] 20 rfl ?_
  have hg012 : g = 0 ∨ g = 1 ∨ g = 2 := by grind
  have h91 : I 91 k = I 91 k := rfl
  have hin2 : 0 ≤ nI k ∧ nI k < nI r := in_of hv ⟨k, hk, rfl⟩
  have R1 : ∀ l : List Int32, bdy 0 18 29 (up2 I 0 18 0) 0 l 77 29 = nI r := fun l => by rw [bdy_o (by decide) (by decide), up2_ne (by decide)]; exact h29
  have R2 : ∀ l : List Int32, rqr k (I 91 k) (I 92 k) (up2 (bdy 0 18 29 (up2 I 0 18 0) 0 l) 77 63 0) := fun l => by
    unfold rqr
    rw [up2_ne (by decide), up2_ne (by decide), bdy_o (by decide) (by decide), bdy_o (by decide) (by decide), up2_ne (by decide), up2_ne (by decide)]
    exact ⟨rfl, rfl⟩
  rcases seven hl.2.2.2.2.1 hl.2.2.2.2.2.1 with h7 | h7 | h7 | h7 | h7 | h7 | h7
  · rw [h7] at hrq R2 ⊢
    rcases hg012 with rfl | rfl | rfl
    · refine go_callv (cd := cd58) rfl rfl rfl rfl rfl (lv3 rfl) rfl (cl_pf0_00 (d := d + 7) (m := 0) (c := 0) (v := I 92 k) (i := nI k) hk hk10 hrq hcnt (by omega) (by omega) ⟨rfl, ?_⟩)
      refine go_ireturn (cd := cd58) rfl ⟨Or.inl rfl, _, rfl, ?_⟩
      refine rf_act (d := d) (R1 [10]) h10 (fun h => absurd ⟨hin2, by decide⟩ h) (fun k2 hk2 he _ => ?_)
      have : k = k2 := (nI_eq (by omega) (by omega)).mp he
      subst this
      refine go_v (cd := cd167) [] 20 rfl ?_
      refine go_st (cd := cd167) 1 rfl (go_ifT (by decide) ?_)
      refine go_v (cd := cd167) [] 20 rfl ?_
      refine go_callv (cd := cd167) rfl rfl rfl rfl rfl (lv3 rfl) rfl (rf_a0_161 (d := d + 5) (c := 0) (v := I 92 k) hk10 (R2 [10]) up2_e (by omega) ⟨rfl, ?_⟩)
      refine go_v (cd := cd167) [] 20 rfl ?_
      exact go_ireturn (cd := cd167) rfl ⟨rfl, rfl, ac_done hv [10] (by decide)⟩
    · refine go_callv (cd := cd58) rfl rfl rfl rfl rfl (lv3 rfl) rfl (cl_pf0_01 (d := d + 6) (m := 0) (c := 0) (v := I 92 k) (i := nI k) hk hk10 hrq hcnt (by omega) (by omega) ⟨rfl, ?_⟩)
      refine go_ireturn (cd := cd58) rfl ⟨Or.inl rfl, _, rfl, ?_⟩
      refine rf_act (d := d) (R1 [11, 10]) h10 (fun h => absurd ⟨hin2, by decide⟩ h) (fun k2 hk2 he _ => ?_)
      have : k = k2 := (nI_eq (by omega) (by omega)).mp he
      subst this
      refine go_v (cd := cd167) [] 20 rfl ?_
      refine go_st (cd := cd167) 1 rfl (go_ifF (by decide) ?_)
      refine go_v (cd := cd167) [] 20 rfl ?_
      refine go_st (cd := cd167) 1 rfl (go_ifT (by decide) ?_)
      refine go_v (cd := cd167) [] 20 rfl ?_
      refine go_callv (cd := cd167) rfl rfl rfl rfl rfl (lv3 rfl) rfl (rf_a0_164 (d := d + 3) (c := 0) (v := I 92 k) hk10 (R2 [11, 10]) up2_e (by omega) ⟨rfl, ?_⟩)
      refine go_v (cd := cd167) [] 20 rfl ?_
      exact go_ireturn (cd := cd167) rfl ⟨rfl, rfl, ac_done hv [11, 10] (by decide)⟩
    · refine go_callv (cd := cd58) rfl rfl rfl rfl rfl (lv3 rfl) rfl (cl_pf0_02 (d := d + 5) (m := 0) (c := 0) (v := I 92 k) (i := nI k) hk hk10 hrq hcnt (by omega) (by omega) ⟨rfl, ?_⟩)
      refine go_ireturn (cd := cd58) rfl ⟨Or.inl rfl, _, rfl, ?_⟩
      refine rf_act (d := d) (R1 [12, 11, 10]) h10 (fun h => absurd ⟨hin2, by decide⟩ h) (fun k2 hk2 he _ => ?_)
      have : k = k2 := (nI_eq (by omega) (by omega)).mp he
      subst this
      refine go_v (cd := cd167) [] 20 rfl ?_
      refine go_st (cd := cd167) 1 rfl (go_ifF (by decide) ?_)
      refine go_v (cd := cd167) [] 20 rfl ?_
      refine go_st (cd := cd167) 1 rfl (go_ifF (by decide) ?_)
      refine go_v (cd := cd167) [] 20 rfl ?_
      refine go_callv (cd := cd167) rfl rfl rfl rfl rfl (lv3 rfl) rfl (rf_a0_166 (d := d + 1) (c := 0) (v := I 92 k) hk10 (R2 [12, 11, 10]) up2_e (by omega) ⟨rfl, ?_⟩)
      exact go_ireturn (cd := cd167) rfl ⟨rfl, rfl, ac_done hv [12, 11, 10] (by decide)⟩
  · rw [h7] at hrq R2 ⊢
    rcases hg012 with rfl | rfl | rfl
    · refine go_callv (cd := cd58) rfl rfl rfl rfl rfl (lv3 rfl) rfl (cl_pf1_10 (d := d + 7) (m := 0) (c := 0) (v := I 92 k) (i := nI k) hk hk10 hrq hcnt (by omega) (by omega) ⟨rfl, ?_⟩)
      refine go_ireturn (cd := cd58) rfl ⟨Or.inl rfl, _, rfl, ?_⟩
      refine rf_act (d := d) (R1 [10]) h10 (fun h => absurd ⟨hin2, by decide⟩ h) (fun k2 hk2 he _ => ?_)
      have : k = k2 := (nI_eq (by omega) (by omega)).mp he
      subst this
      refine go_v (cd := cd167) [] 20 rfl ?_
      refine go_st (cd := cd167) 1 rfl (go_ifT (by decide) ?_)
      refine go_v (cd := cd167) [] 20 rfl ?_
      refine go_callv (cd := cd167) rfl rfl rfl rfl rfl (lv3 rfl) rfl (rf_a1_161 (d := d + 5) (c := 0) (v := I 92 k) hk10 (R2 [10]) up2_e (by omega) ⟨rfl, ?_⟩)
      refine go_v (cd := cd167) [] 20 rfl ?_
      exact go_ireturn (cd := cd167) rfl ⟨rfl, rfl, ac_done hv [10] (by decide)⟩
    · refine go_callv (cd := cd58) rfl rfl rfl rfl rfl (lv3 rfl) rfl (cl_pf1_11 (d := d + 5) (m := 0) (c := 0) (v := I 92 k) (i := nI k) hk hk10 hrq hcnt (by omega) (by omega) ⟨rfl, ?_⟩)
      refine go_ireturn (cd := cd58) rfl ⟨Or.inl rfl, _, rfl, ?_⟩
      refine rf_act (d := d) (R1 [20, 11, 10]) h10 (fun h => absurd ⟨hin2, by decide⟩ h) (fun k2 hk2 he _ => ?_)
      have : k = k2 := (nI_eq (by omega) (by omega)).mp he
      subst this
      refine go_v (cd := cd167) [] 20 rfl ?_
      refine go_st (cd := cd167) 1 rfl (go_ifF (by decide) ?_)
      refine go_v (cd := cd167) [] 20 rfl ?_
      refine go_st (cd := cd167) 1 rfl (go_ifT (by decide) ?_)
      refine go_v (cd := cd167) [] 20 rfl ?_
      refine go_callv (cd := cd167) rfl rfl rfl rfl rfl (lv3 rfl) rfl (rf_a1_164 (d := d + 2) (c := 0) (v := I 92 k) hk10 (R2 [20, 11, 10]) up2_e (by omega) ⟨rfl, ?_⟩)
      refine go_v (cd := cd167) [] 20 rfl ?_
      exact go_ireturn (cd := cd167) rfl ⟨rfl, rfl, ac_done hv [20, 11, 10] (by decide)⟩
    · refine go_callv (cd := cd58) rfl rfl rfl rfl rfl (lv3 rfl) rfl (cl_pf1_12 (d := d + 4) (m := 0) (c := 0) (v := I 92 k) (i := nI k) hk hk10 hrq hcnt (by omega) (by omega) ⟨rfl, ?_⟩)
      refine go_ireturn (cd := cd58) rfl ⟨Or.inl rfl, _, rfl, ?_⟩
      refine rf_act (d := d) (R1 [12, 20, 11, 10]) h10 (fun h => absurd ⟨hin2, by decide⟩ h) (fun k2 hk2 he _ => ?_)
      have : k = k2 := (nI_eq (by omega) (by omega)).mp he
      subst this
      refine go_v (cd := cd167) [] 20 rfl ?_
      refine go_st (cd := cd167) 1 rfl (go_ifF (by decide) ?_)
      refine go_v (cd := cd167) [] 20 rfl ?_
      refine go_st (cd := cd167) 1 rfl (go_ifF (by decide) ?_)
      refine go_v (cd := cd167) [] 20 rfl ?_
      refine go_callv (cd := cd167) rfl rfl rfl rfl rfl (lv3 rfl) rfl (rf_a1_166 (d := d + 0) (c := 0) (v := I 92 k) hk10 (R2 [12, 20, 11, 10]) up2_e (by omega) ⟨rfl, ?_⟩)
      exact go_ireturn (cd := cd167) rfl ⟨rfl, rfl, ac_done hv [12, 20, 11, 10] (by decide)⟩
  · rw [h7] at hrq R2 ⊢
    rcases hg012 with rfl | rfl | rfl
    · refine go_callv (cd := cd58) rfl rfl rfl rfl rfl (lv3 rfl) rfl (cl_pf2_20 (d := d + 6) (m := 0) (c := 0) (v := I 92 k) (i := nI k) hk hk10 hrq hcnt (by omega) (by omega) ⟨rfl, ?_⟩)
      refine go_ireturn (cd := cd58) rfl ⟨Or.inl rfl, _, rfl, ?_⟩
      refine rf_act (d := d) (R1 [30, 10]) h10 (fun h => absurd ⟨hin2, by decide⟩ h) (fun k2 hk2 he _ => ?_)
      have : k = k2 := (nI_eq (by omega) (by omega)).mp he
      subst this
      refine go_v (cd := cd167) [] 20 rfl ?_
      refine go_st (cd := cd167) 1 rfl (go_ifT (by decide) ?_)
      refine go_v (cd := cd167) [] 20 rfl ?_
      refine go_callv (cd := cd167) rfl rfl rfl rfl rfl (lv3 rfl) rfl (rf_a2_161 (d := d + 5) (c := 0) (v := I 92 k) hk10 (R2 [30, 10]) up2_e (by omega) ⟨rfl, ?_⟩)
      refine go_v (cd := cd167) [] 20 rfl ?_
      exact go_ireturn (cd := cd167) rfl ⟨rfl, rfl, ac_done hv [30, 10] (by decide)⟩
    · refine go_callv (cd := cd58) rfl rfl rfl rfl rfl (lv3 rfl) rfl (cl_pf2_21 (d := d + 5) (m := 0) (c := 0) (v := I 92 k) (i := nI k) hk hk10 hrq hcnt (by omega) (by omega) ⟨rfl, ?_⟩)
      refine go_ireturn (cd := cd58) rfl ⟨Or.inl rfl, _, rfl, ?_⟩
      refine rf_act (d := d) (R1 [11, 30, 10]) h10 (fun h => absurd ⟨hin2, by decide⟩ h) (fun k2 hk2 he _ => ?_)
      have : k = k2 := (nI_eq (by omega) (by omega)).mp he
      subst this
      refine go_v (cd := cd167) [] 20 rfl ?_
      refine go_st (cd := cd167) 1 rfl (go_ifF (by decide) ?_)
      refine go_v (cd := cd167) [] 20 rfl ?_
      refine go_st (cd := cd167) 1 rfl (go_ifT (by decide) ?_)
      refine go_v (cd := cd167) [] 20 rfl ?_
      refine go_callv (cd := cd167) rfl rfl rfl rfl rfl (lv3 rfl) rfl (rf_a2_164 (d := d + 3) (c := 0) (v := I 92 k) hk10 (R2 [11, 30, 10]) up2_e (by omega) ⟨rfl, ?_⟩)
      refine go_v (cd := cd167) [] 20 rfl ?_
      exact go_ireturn (cd := cd167) rfl ⟨rfl, rfl, ac_done hv [11, 30, 10] (by decide)⟩
    · refine go_callv (cd := cd58) rfl rfl rfl rfl rfl (lv3 rfl) rfl (cl_pf2_22 (d := d + 4) (m := 0) (c := 0) (v := I 92 k) (i := nI k) hk hk10 hrq hcnt (by omega) (by omega) ⟨rfl, ?_⟩)
      refine go_ireturn (cd := cd58) rfl ⟨Or.inl rfl, _, rfl, ?_⟩
      refine rf_act (d := d) (R1 [12, 11, 30, 10]) h10 (fun h => absurd ⟨hin2, by decide⟩ h) (fun k2 hk2 he _ => ?_)
      have : k = k2 := (nI_eq (by omega) (by omega)).mp he
      subst this
      refine go_v (cd := cd167) [] 20 rfl ?_
      refine go_st (cd := cd167) 1 rfl (go_ifF (by decide) ?_)
      refine go_v (cd := cd167) [] 20 rfl ?_
      refine go_st (cd := cd167) 1 rfl (go_ifF (by decide) ?_)
      refine go_v (cd := cd167) [] 20 rfl ?_
      refine go_callv (cd := cd167) rfl rfl rfl rfl rfl (lv3 rfl) rfl (rf_a2_166 (d := d + 1) (c := 0) (v := I 92 k) hk10 (R2 [12, 11, 30, 10]) up2_e (by omega) ⟨rfl, ?_⟩)
      exact go_ireturn (cd := cd167) rfl ⟨rfl, rfl, ac_done hv [12, 11, 30, 10] (by decide)⟩
  · rw [h7] at hrq R2 ⊢
    rcases hg012 with rfl | rfl | rfl
    · refine go_callv (cd := cd58) rfl rfl rfl rfl rfl (lv3 rfl) rfl (cl_pf3_30 (d := d + 6) (m := 0) (c := 0) (v := I 92 k) (i := nI k) hk hk10 hrq hcnt (by omega) (by omega) ⟨rfl, ?_⟩)
      refine go_ireturn (cd := cd58) rfl ⟨Or.inl rfl, _, rfl, ?_⟩
      refine rf_act (d := d) (R1 [50, 10]) h10 (fun h => absurd ⟨hin2, by decide⟩ h) (fun k2 hk2 he _ => ?_)
      have : k = k2 := (nI_eq (by omega) (by omega)).mp he
      subst this
      refine go_v (cd := cd167) [] 20 rfl ?_
      refine go_st (cd := cd167) 1 rfl (go_ifT (by decide) ?_)
      refine go_v (cd := cd167) [] 20 rfl ?_
      refine go_callv (cd := cd167) rfl rfl rfl rfl rfl (lv3 rfl) rfl (rf_a3_161 (d := d + 5) (c := 0) (v := I 92 k) hk10 (R2 [50, 10]) up2_e (by omega) ⟨rfl, ?_⟩)
      refine go_v (cd := cd167) [] 20 rfl ?_
      exact go_ireturn (cd := cd167) rfl ⟨rfl, rfl, ac_done hv [50, 10] (by decide)⟩
    · refine go_callv (cd := cd58) rfl rfl rfl rfl rfl (lv3 rfl) rfl (cl_pf3_31 (d := d + 3) (m := 0) (c := 0) (v := I 92 k) (i := nI k) hk hk10 hrq hcnt (by omega) (by omega) ⟨rfl, ?_⟩)
      refine go_ireturn (cd := cd58) rfl ⟨Or.inl rfl, _, rfl, ?_⟩
      refine rf_act (d := d) (R1 [51, 20, 11, 50, 10]) h10 (fun h => absurd ⟨hin2, by decide⟩ h) (fun k2 hk2 he _ => ?_)
      have : k = k2 := (nI_eq (by omega) (by omega)).mp he
      subst this
      refine go_v (cd := cd167) [] 20 rfl ?_
      refine go_st (cd := cd167) 1 rfl (go_ifF (by decide) ?_)
      refine go_v (cd := cd167) [] 20 rfl ?_
      refine go_st (cd := cd167) 1 rfl (go_ifT (by decide) ?_)
      refine go_v (cd := cd167) [] 20 rfl ?_
      refine go_callv (cd := cd167) rfl rfl rfl rfl rfl (lv3 rfl) rfl (rf_a3_164 (d := d + 2) (c := 0) (v := I 92 k) hk10 (R2 [51, 20, 11, 50, 10]) up2_e (by omega) ⟨rfl, ?_⟩)
      refine go_v (cd := cd167) [] 20 rfl ?_
      exact go_ireturn (cd := cd167) rfl ⟨rfl, rfl, ac_done hv [51, 20, 11, 50, 10] (by decide)⟩
    · refine go_callv (cd := cd58) rfl rfl rfl rfl rfl (lv3 rfl) rfl (cl_pf3_32 (d := d + 2) (m := 0) (c := 0) (v := I 92 k) (i := nI k) hk hk10 hrq hcnt (by omega) (by omega) ⟨rfl, ?_⟩)
      refine go_ireturn (cd := cd58) rfl ⟨Or.inl rfl, _, rfl, ?_⟩
      refine rf_act (d := d) (R1 [12, 51, 20, 11, 50, 10]) h10 (fun h => absurd ⟨hin2, by decide⟩ h) (fun k2 hk2 he _ => ?_)
      have : k = k2 := (nI_eq (by omega) (by omega)).mp he
      subst this
      refine go_v (cd := cd167) [] 20 rfl ?_
      refine go_st (cd := cd167) 1 rfl (go_ifF (by decide) ?_)
      refine go_v (cd := cd167) [] 20 rfl ?_
      refine go_st (cd := cd167) 1 rfl (go_ifF (by decide) ?_)
      refine go_v (cd := cd167) [] 20 rfl ?_
      refine go_callv (cd := cd167) rfl rfl rfl rfl rfl (lv3 rfl) rfl (rf_a3_166 (d := d + 0) (c := 0) (v := I 92 k) hk10 (R2 [12, 51, 20, 11, 50, 10]) up2_e (by omega) ⟨rfl, ?_⟩)
      exact go_ireturn (cd := cd167) rfl ⟨rfl, rfl, ac_done hv [12, 51, 20, 11, 50, 10] (by decide)⟩
  · rw [h7] at hrq R2 ⊢
    rcases hg012 with rfl | rfl | rfl
    · refine go_callv (cd := cd58) rfl rfl rfl rfl rfl (lv3 rfl) rfl (cl_pf4_40 (d := d + 6) (m := 0) (c := 0) (v := I 92 k) (i := nI k) hk hk10 hrq hcnt (by omega) (by omega) ⟨rfl, ?_⟩)
      refine go_ireturn (cd := cd58) rfl ⟨Or.inl rfl, _, rfl, ?_⟩
      refine rf_act (d := d) (R1 [30, 10]) h10 (fun h => absurd ⟨hin2, by decide⟩ h) (fun k2 hk2 he _ => ?_)
      have : k = k2 := (nI_eq (by omega) (by omega)).mp he
      subst this
      refine go_v (cd := cd167) [] 20 rfl ?_
      refine go_st (cd := cd167) 1 rfl (go_ifT (by decide) ?_)
      refine go_v (cd := cd167) [] 20 rfl ?_
      refine go_callv (cd := cd167) rfl rfl rfl rfl rfl (lv3 rfl) rfl (rf_a4_161 (d := d + 5) (c := 0) (v := I 92 k) hk10 (R2 [30, 10]) up2_e (by omega) ⟨rfl, ?_⟩)
      refine go_v (cd := cd167) [] 20 rfl ?_
      exact go_ireturn (cd := cd167) rfl ⟨rfl, rfl, ac_done hv [30, 10] (by decide)⟩
    · refine go_callv (cd := cd58) rfl rfl rfl rfl rfl (lv3 rfl) rfl (cl_pf4_41 (d := d + 5) (m := 0) (c := 0) (v := I 92 k) (i := nI k) hk hk10 hrq hcnt (by omega) (by omega) ⟨rfl, ?_⟩)
      refine go_ireturn (cd := cd58) rfl ⟨Or.inl rfl, _, rfl, ?_⟩
      refine rf_act (d := d) (R1 [11, 30, 10]) h10 (fun h => absurd ⟨hin2, by decide⟩ h) (fun k2 hk2 he _ => ?_)
      have : k = k2 := (nI_eq (by omega) (by omega)).mp he
      subst this
      refine go_v (cd := cd167) [] 20 rfl ?_
      refine go_st (cd := cd167) 1 rfl (go_ifF (by decide) ?_)
      refine go_v (cd := cd167) [] 20 rfl ?_
      refine go_st (cd := cd167) 1 rfl (go_ifT (by decide) ?_)
      refine go_v (cd := cd167) [] 20 rfl ?_
      refine go_callv (cd := cd167) rfl rfl rfl rfl rfl (lv3 rfl) rfl (rf_a4_164 (d := d + 3) (c := 0) (v := I 92 k) hk10 (R2 [11, 30, 10]) up2_e (by omega) ⟨rfl, ?_⟩)
      refine go_v (cd := cd167) [] 20 rfl ?_
      exact go_ireturn (cd := cd167) rfl ⟨rfl, rfl, ac_done hv [11, 30, 10] (by decide)⟩
    · refine go_callv (cd := cd58) rfl rfl rfl rfl rfl (lv3 rfl) rfl (cl_pf4_42 (d := d + 3) (m := 0) (c := 0) (v := I 92 k) (i := nI k) hk hk10 hrq hcnt (by omega) (by omega) ⟨rfl, ?_⟩)
      refine go_ireturn (cd := cd58) rfl ⟨Or.inl rfl, _, rfl, ?_⟩
      refine rf_act (d := d) (R1 [60, 12, 11, 30, 10]) h10 (fun h => absurd ⟨hin2, by decide⟩ h) (fun k2 hk2 he _ => ?_)
      have : k = k2 := (nI_eq (by omega) (by omega)).mp he
      subst this
      refine go_v (cd := cd167) [] 20 rfl ?_
      refine go_st (cd := cd167) 1 rfl (go_ifF (by decide) ?_)
      refine go_v (cd := cd167) [] 20 rfl ?_
      refine go_st (cd := cd167) 1 rfl (go_ifF (by decide) ?_)
      refine go_v (cd := cd167) [] 20 rfl ?_
      refine go_callv (cd := cd167) rfl rfl rfl rfl rfl (lv3 rfl) rfl (rf_a4_166 (d := d + 1) (c := 0) (v := I 92 k) hk10 (R2 [60, 12, 11, 30, 10]) up2_e (by omega) ⟨rfl, ?_⟩)
      exact go_ireturn (cd := cd167) rfl ⟨rfl, rfl, ac_done hv [60, 12, 11, 30, 10] (by decide)⟩
  · rw [h7] at hrq R2 ⊢
    rcases hg012 with rfl | rfl | rfl
    · refine go_callv (cd := cd58) rfl rfl rfl rfl rfl (lv3 rfl) rfl (cl_pf5_50 (d := d + 7) (m := 0) (c := 0) (v := I 92 k) (i := nI k) hk hk10 hrq hcnt (by omega) (by omega) ⟨rfl, ?_⟩)
      refine go_ireturn (cd := cd58) rfl ⟨Or.inl rfl, _, rfl, ?_⟩
      refine rf_act (d := d) (R1 [10]) h10 (fun h => absurd ⟨hin2, by decide⟩ h) (fun k2 hk2 he _ => ?_)
      have : k = k2 := (nI_eq (by omega) (by omega)).mp he
      subst this
      refine go_v (cd := cd167) [] 20 rfl ?_
      refine go_st (cd := cd167) 1 rfl (go_ifT (by decide) ?_)
      refine go_v (cd := cd167) [] 20 rfl ?_
      refine go_callv (cd := cd167) rfl rfl rfl rfl rfl (lv3 rfl) rfl (rf_a5_161 (d := d + 5) (c := 0) (v := I 92 k) hk10 (R2 [10]) up2_e (by omega) ⟨rfl, ?_⟩)
      refine go_v (cd := cd167) [] 20 rfl ?_
      exact go_ireturn (cd := cd167) rfl ⟨rfl, rfl, ac_done hv [10] (by decide)⟩
    · refine go_callv (cd := cd58) rfl rfl rfl rfl rfl (lv3 rfl) rfl (cl_pf5_51 (d := d + 6) (m := 0) (c := 0) (v := I 92 k) (i := nI k) hk hk10 hrq hcnt (by omega) (by omega) ⟨rfl, ?_⟩)
      refine go_ireturn (cd := cd58) rfl ⟨Or.inl rfl, _, rfl, ?_⟩
      refine rf_act (d := d) (R1 [11, 10]) h10 (fun h => absurd ⟨hin2, by decide⟩ h) (fun k2 hk2 he _ => ?_)
      have : k = k2 := (nI_eq (by omega) (by omega)).mp he
      subst this
      refine go_v (cd := cd167) [] 20 rfl ?_
      refine go_st (cd := cd167) 1 rfl (go_ifF (by decide) ?_)
      refine go_v (cd := cd167) [] 20 rfl ?_
      refine go_st (cd := cd167) 1 rfl (go_ifT (by decide) ?_)
      refine go_v (cd := cd167) [] 20 rfl ?_
      refine go_callv (cd := cd167) rfl rfl rfl rfl rfl (lv3 rfl) rfl (rf_a5_164 (d := d + 3) (c := 0) (v := I 92 k) hk10 (R2 [11, 10]) up2_e (by omega) ⟨rfl, ?_⟩)
      refine go_v (cd := cd167) [] 20 rfl ?_
      exact go_ireturn (cd := cd167) rfl ⟨rfl, rfl, ac_done hv [11, 10] (by decide)⟩
    · refine go_callv (cd := cd58) rfl rfl rfl rfl rfl (lv3 rfl) rfl (cl_pf5_52 (d := d + 4) (m := 0) (c := 0) (v := I 92 k) (i := nI k) hk hk10 hrq hcnt (by omega) (by omega) ⟨rfl, ?_⟩)
      refine go_ireturn (cd := cd58) rfl ⟨Or.inl rfl, _, rfl, ?_⟩
      refine rf_act (d := d) (R1 [40, 12, 11, 10, 11, 10]) h10 (fun h => absurd ⟨hin2, by decide⟩ h) (fun k2 hk2 he _ => ?_)
      have : k = k2 := (nI_eq (by omega) (by omega)).mp he
      subst this
      refine go_v (cd := cd167) [] 20 rfl ?_
      refine go_st (cd := cd167) 1 rfl (go_ifF (by decide) ?_)
      refine go_v (cd := cd167) [] 20 rfl ?_
      refine go_st (cd := cd167) 1 rfl (go_ifF (by decide) ?_)
      refine go_v (cd := cd167) [] 20 rfl ?_
      refine go_callv (cd := cd167) rfl rfl rfl rfl rfl (lv3 rfl) rfl (rf_a5_166 (d := d + 1) (c := 0) (v := I 92 k) hk10 (R2 [40, 12, 11, 10, 11, 10]) up2_e (by omega) ⟨rfl, ?_⟩)
      exact go_ireturn (cd := cd167) rfl ⟨rfl, rfl, ac_done hv [40, 12, 11, 10, 11, 10] (by decide)⟩
  · rw [h7] at hrq R2 ⊢
    rcases hg012 with rfl | rfl | rfl
    · refine go_callv (cd := cd58) rfl rfl rfl rfl rfl (lv3 rfl) rfl (cl_pf6_60 (d := d + 6) (m := 0) (c := 0) (v := I 92 k) (i := nI k) hk hk10 hrq hcnt (by omega) (by omega) ⟨rfl, ?_⟩)
      refine go_ireturn (cd := cd58) rfl ⟨Or.inl rfl, _, rfl, ?_⟩
      refine rf_act (d := d) (R1 [71, 10]) h10 (fun h => absurd ⟨hin2, by decide⟩ h) (fun k2 hk2 he _ => ?_)
      have : k = k2 := (nI_eq (by omega) (by omega)).mp he
      subst this
      refine go_v (cd := cd167) [] 20 rfl ?_
      refine go_st (cd := cd167) 1 rfl (go_ifT (by decide) ?_)
      refine go_v (cd := cd167) [] 20 rfl ?_
      refine go_callv (cd := cd167) rfl rfl rfl rfl rfl (lv3 rfl) rfl (rf_a6_161 (d := d + 5) (c := 0) (v := I 92 k) hk10 (R2 [71, 10]) up2_e (by omega) ⟨rfl, ?_⟩)
      refine go_v (cd := cd167) [] 20 rfl ?_
      exact go_ireturn (cd := cd167) rfl ⟨rfl, rfl, ac_done hv [71, 10] (by decide)⟩
    · refine go_callv (cd := cd58) rfl rfl rfl rfl rfl (lv3 rfl) rfl (cl_pf6_61 (d := d + 4) (m := 0) (c := 0) (v := I 92 k) (i := nI k) hk hk10 hrq hcnt (by omega) (by omega) ⟨rfl, ?_⟩)
      refine go_ireturn (cd := cd58) rfl ⟨Or.inl rfl, _, rfl, ?_⟩
      refine rf_act (d := d) (R1 [70, 11, 71, 10, 10]) h10 (fun h => absurd ⟨hin2, by decide⟩ h) (fun k2 hk2 he _ => ?_)
      have : k = k2 := (nI_eq (by omega) (by omega)).mp he
      subst this
      refine go_v (cd := cd167) [] 20 rfl ?_
      refine go_st (cd := cd167) 1 rfl (go_ifF (by decide) ?_)
      refine go_v (cd := cd167) [] 20 rfl ?_
      refine go_st (cd := cd167) 1 rfl (go_ifT (by decide) ?_)
      refine go_v (cd := cd167) [] 20 rfl ?_
      refine go_callv (cd := cd167) rfl rfl rfl rfl rfl (lv3 rfl) rfl (rf_a6_164 (d := d + 3) (c := 0) (v := I 92 k) hk10 (R2 [70, 11, 71, 10, 10]) up2_e (by omega) ⟨rfl, ?_⟩)
      refine go_v (cd := cd167) [] 20 rfl ?_
      exact go_ireturn (cd := cd167) rfl ⟨rfl, rfl, ac_done hv [70, 11, 71, 10, 10] (by decide)⟩
    · refine go_callv (cd := cd58) rfl rfl rfl rfl rfl (lv3 rfl) rfl (cl_pf6_62 (d := d + 2) (m := 0) (c := 0) (v := I 92 k) (i := nI k) hk hk10 hrq hcnt (by omega) (by omega) ⟨rfl, ?_⟩)
      refine go_ireturn (cd := cd58) rfl ⟨Or.inl rfl, _, rfl, ?_⟩
      refine rf_act (d := d) (R1 [40, 12, 70, 11, 71, 10, 10, 70, 11, 71, 10, 10]) h10 (fun h => absurd ⟨hin2, by decide⟩ h) (fun k2 hk2 he _ => ?_)
      have : k = k2 := (nI_eq (by omega) (by omega)).mp he
      subst this
      refine go_v (cd := cd167) [] 20 rfl ?_
      refine go_st (cd := cd167) 1 rfl (go_ifF (by decide) ?_)
      refine go_v (cd := cd167) [] 20 rfl ?_
      refine go_st (cd := cd167) 1 rfl (go_ifF (by decide) ?_)
      refine go_v (cd := cd167) [] 20 rfl ?_
      refine go_callv (cd := cd167) rfl rfl rfl rfl rfl (lv3 rfl) rfl (rf_a6_166 (d := d + 1) (c := 0) (v := I 92 k) hk10 (R2 [40, 12, 70, 11, 71, 10, 10, 70, 11, 71, 10, 10]) up2_e (by omega) ⟨rfl, ?_⟩)
      exact go_ireturn (cd := cd167) rfl ⟨rfl, rfl, ac_done hv [40, 12, 70, 11, 71, 10, 10, 70, 11, 71, 10, 10] (by decide)⟩
end AR
