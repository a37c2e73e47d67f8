/-! acts: what each body does -/
section AC
variable {L : Nat} {xs : Nat → Int32} {fv : Value} {d : Nat} {r : Nat} {rr : Option Nat} {I : Nat → Nat → Int32} {J : Nat → Nat → Int64} {P : Option Value → aH → Prop}
theorem cl_pf0_00 {x i v : Int32} {k c m : Nat} (hk : k < r) (h10 : k < 10) (hr : rq k 0 i v I) (hc : I 0 18 = nI c) (hcm : c + 1 ≤ 20) (hm : m + 1 ≤ 30) (K : P (some (.int (x + i))) (aHp r rr (bdy 0 18 29 I c [10]) J)) : aCl L xs fv 111 (d + 1) 89 [.ref 0, .ref (111 + 3 * k), .int 0, .int 0, .int x, .int (nI m)] (aHp r rr I J) P := by
  refine pf_pre00 hc (by omega) (by omega) ?_
  refine go_v (cd := cd89) [219] 20 rfl ?_
  refine go_get (cd := cd89) rfl (ru_lt hk) (ru_k h10) ?_
  rw [show aVal (aHp r rr (bdy 0 18 29 I c [10]) J) 0 (111 + 3 * k) 0 = .int i from congrArg Value.int (bdy_rq hr _).1]
  refine go_v (cd := cd89) [] 20 rfl ?_
  exact go_ireturn (cd := cd89) rfl K
theorem cl_pf0_01 {x i v : Int32} {k c m : Nat} (hk : k < r) (h10 : k < 10) (hr : rq k 0 i v I) (hc : I 0 18 = nI c) (hcm : c + 2 ≤ 20) (hm : m + 2 ≤ 30) (K : P (some (.int ((x + i) - v))) (aHp r rr (bdy 0 18 29 I c [11, 10]) J)) : aCl L xs fv 111 (d + 2) 89 [.ref 0, .ref (111 + 3 * k), .int 0, .int 1, .int x, .int (nI m)] (aHp r rr I J) P := by
  refine pf_pre01 hc (by omega) (by omega) ?_
  refine go_v (cd := cd89) [227] 20 rfl ?_
  refine go_get (cd := cd89) rfl (ru_lt hk) (ru_k h10) ?_
  rw [show aVal (aHp r rr (bdy 0 18 29 I c [11]) J) 0 (111 + 3 * k) 1 = .int 0 from congrArg Value.int (bdy_rq hr _).2.1]
  refine go_v (cd := cd89) [] 20 rfl ?_
  refine go_callv (cd := cd89) rfl rfl rfl rfl rfl (lv3 rfl) rfl (cl_pf0_00 (d := d + 0) (m := m + 1) (c := c + 1) hk h10 (bdy_rq hr [11]) (bdy_n [11] I c hc) (by omega) (by omega) ⟨rfl, ?_⟩)
  show aTo L xs fv 111 _ cd89 (238, _, [.int (x + i)], aHp r rr (bdy 0 18 29 I c [11, 10]) J) P
  refine go_v (cd := cd89) [239] 20 rfl ?_
  refine go_get (cd := cd89) rfl (ru_lt hk) (ru_k h10) ?_
  rw [show aVal (aHp r rr (bdy 0 18 29 I c [11, 10]) J) 0 (111 + 3 * k) 2 = .int v from congrArg Value.int (bdy_rq hr _).2.2]
  refine go_v (cd := cd89) [] 20 rfl ?_
  exact go_ireturn (cd := cd89) rfl K
theorem cl_pf0_02 {x i v : Int32} {k c m : Nat} (hk : k < r) (h10 : k < 10) (hr : rq k 0 i v I) (hc : I 0 18 = nI c) (hcm : c + 3 ≤ 20) (hm : m + 3 ≤ 30) (K : P (some (.int (((x + i) - v) * 2))) (aHp r rr (bdy 0 18 29 I c [12, 11, 10]) J)) : aCl L xs fv 111 (d + 3) 89 [.ref 0, .ref (111 + 3 * k), .int 0, .int 2, .int x, .int (nI m)] (aHp r rr I J) P := by
  refine pf_pre02 hc (by omega) (by omega) ?_
  refine go_v (cd := cd89) [247] 20 rfl ?_
  refine go_get (cd := cd89) rfl (ru_lt hk) (ru_k h10) ?_
  rw [show aVal (aHp r rr (bdy 0 18 29 I c [12]) J) 0 (111 + 3 * k) 1 = .int 0 from congrArg Value.int (bdy_rq hr _).2.1]
  refine go_v (cd := cd89) [] 20 rfl ?_
  refine go_callv (cd := cd89) rfl rfl rfl rfl rfl (lv3 rfl) rfl (cl_pf0_01 (d := d + 0) (m := m + 1) (c := c + 1) hk h10 (bdy_rq hr [12]) (bdy_n [12] I c hc) (by omega) (by omega) ⟨rfl, ?_⟩)
  show aTo L xs fv 111 _ cd89 (258, _, [.int ((x + i) - v)], aHp r rr (bdy 0 18 29 I c [12, 11, 10]) J) P
  refine go_v (cd := cd89) [] 20 rfl ?_
  exact go_ireturn (cd := cd89) rfl K
theorem cl_pf1_10 {x i v : Int32} {k c m : Nat} (hk : k < r) (h10 : k < 10) (hr : rq k 1 i v I) (hc : I 0 18 = nI c) (hcm : c + 1 ≤ 20) (hm : m + 1 ≤ 30) (K : P (some (.int (x + i))) (aHp r rr (bdy 0 18 29 I c [10]) J)) : aCl L xs fv 111 (d + 1) 89 [.ref 0, .ref (111 + 3 * k), .int 1, .int 0, .int x, .int (nI m)] (aHp r rr I J) P := by
  refine pf_pre10 hc (by omega) (by omega) ?_
  refine go_v (cd := cd89) [219] 20 rfl ?_
  refine go_get (cd := cd89) rfl (ru_lt hk) (ru_k h10) ?_
  rw [show aVal (aHp r rr (bdy 0 18 29 I c [10]) J) 0 (111 + 3 * k) 0 = .int i from congrArg Value.int (bdy_rq hr _).1]
  refine go_v (cd := cd89) [] 20 rfl ?_
  exact go_ireturn (cd := cd89) rfl K
theorem cl_pf1_01 {x i v : Int32} {k c m : Nat} (hk : k < r) (h10 : k < 10) (hr : rq k 1 i v I) (hc : I 0 18 = nI c) (hcm : c + 2 ≤ 20) (hm : m + 2 ≤ 30) (K : P (some (.int ((x + i) - v))) (aHp r rr (bdy 0 18 29 I c [11, 10]) J)) : aCl L xs fv 111 (d + 2) 89 [.ref 0, .ref (111 + 3 * k), .int 0, .int 1, .int x, .int (nI m)] (aHp r rr I J) P := by
  refine pf_pre01 hc (by omega) (by omega) ?_
  refine go_v (cd := cd89) [227] 20 rfl ?_
  refine go_get (cd := cd89) rfl (ru_lt hk) (ru_k h10) ?_
  rw [show aVal (aHp r rr (bdy 0 18 29 I c [11]) J) 0 (111 + 3 * k) 1 = .int 1 from congrArg Value.int (bdy_rq hr _).2.1]
  refine go_v (cd := cd89) [] 20 rfl ?_
  refine go_callv (cd := cd89) rfl rfl rfl rfl rfl (lv3 rfl) rfl (cl_pf1_10 (d := d + 0) (m := m + 1) (c := c + 1) hk h10 (bdy_rq hr [11]) (bdy_n [11] I c hc) (by omega) (by omega) ⟨rfl, ?_⟩)
  show aTo L xs fv 111 _ cd89 (238, _, [.int (x + i)], aHp r rr (bdy 0 18 29 I c [11, 10]) J) P
  refine go_v (cd := cd89) [239] 20 rfl ?_
  refine go_get (cd := cd89) rfl (ru_lt hk) (ru_k h10) ?_
  rw [show aVal (aHp r rr (bdy 0 18 29 I c [11, 10]) J) 0 (111 + 3 * k) 2 = .int v from congrArg Value.int (bdy_rq hr _).2.2]
  refine go_v (cd := cd89) [] 20 rfl ?_
  exact go_ireturn (cd := cd89) rfl K
theorem cl_pf1_11 {x i v : Int32} {k c m : Nat} (hk : k < r) (h10 : k < 10) (hr : rq k 1 i v I) (hc : I 0 18 = nI c) (hcm : c + 3 ≤ 20) (hm : m + 3 ≤ 30) (K : P (some (.int (((x + i) - v) ^^^ 6))) (aHp r rr (bdy 0 18 29 I c [20, 11, 10]) J)) : aCl L xs fv 111 (d + 3) 89 [.ref 0, .ref (111 + 3 * k), .int 1, .int 1, .int x, .int (nI m)] (aHp r rr I J) P := by
  refine pf_pre11 hc (by omega) (by omega) ?_
  refine go_v (cd := cd89) [] 20 rfl ?_
  refine go_callv (cd := cd89) rfl rfl rfl rfl rfl (lv3 rfl) rfl (cl_pf1_01 (d := d + 0) (m := m + 1) (c := c + 1) hk h10 (bdy_rq hr [20]) (bdy_n [20] I c hc) (by omega) (by omega) ⟨rfl, ?_⟩)
  show aTo L xs fv 111 _ cd89 (273, _, [.int ((x + i) - v)], aHp r rr (bdy 0 18 29 I c [20, 11, 10]) J) P
  refine go_v (cd := cd89) [] 20 rfl ?_
  exact go_ireturn (cd := cd89) rfl K
theorem cl_pf1_12 {x i v : Int32} {k c m : Nat} (hk : k < r) (h10 : k < 10) (hr : rq k 1 i v I) (hc : I 0 18 = nI c) (hcm : c + 4 ≤ 20) (hm : m + 4 ≤ 30) (K : P (some (.int ((((x + i) - v) ^^^ 6) * 2))) (aHp r rr (bdy 0 18 29 I c [12, 20, 11, 10]) J)) : aCl L xs fv 111 (d + 4) 89 [.ref 0, .ref (111 + 3 * k), .int 1, .int 2, .int x, .int (nI m)] (aHp r rr I J) P := by
  refine pf_pre12 hc (by omega) (by omega) ?_
  refine go_v (cd := cd89) [247] 20 rfl ?_
  refine go_get (cd := cd89) rfl (ru_lt hk) (ru_k h10) ?_
  rw [show aVal (aHp r rr (bdy 0 18 29 I c [12]) J) 0 (111 + 3 * k) 1 = .int 1 from congrArg Value.int (bdy_rq hr _).2.1]
  refine go_v (cd := cd89) [] 20 rfl ?_
  refine go_callv (cd := cd89) rfl rfl rfl rfl rfl (lv3 rfl) rfl (cl_pf1_11 (d := d + 0) (m := m + 1) (c := c + 1) hk h10 (bdy_rq hr [12]) (bdy_n [12] I c hc) (by omega) (by omega) ⟨rfl, ?_⟩)
  show aTo L xs fv 111 _ cd89 (258, _, [.int (((x + i) - v) ^^^ 6)], aHp r rr (bdy 0 18 29 I c [12, 20, 11, 10]) J) P
  refine go_v (cd := cd89) [] 20 rfl ?_
  exact go_ireturn (cd := cd89) rfl K
theorem cl_pf2_00 {x i v : Int32} {k c m : Nat} (hk : k < r) (h10 : k < 10) (hr : rq k 2 i v I) (hc : I 0 18 = nI c) (hcm : c + 1 ≤ 20) (hm : m + 1 ≤ 30) (K : P (some (.int (x + i))) (aHp r rr (bdy 0 18 29 I c [10]) J)) : aCl L xs fv 111 (d + 1) 89 [.ref 0, .ref (111 + 3 * k), .int 0, .int 0, .int x, .int (nI m)] (aHp r rr I J) P := by
  refine pf_pre00 hc (by omega) (by omega) ?_
  refine go_v (cd := cd89) [219] 20 rfl ?_
  refine go_get (cd := cd89) rfl (ru_lt hk) (ru_k h10) ?_
  rw [show aVal (aHp r rr (bdy 0 18 29 I c [10]) J) 0 (111 + 3 * k) 0 = .int i from congrArg Value.int (bdy_rq hr _).1]
  refine go_v (cd := cd89) [] 20 rfl ?_
  exact go_ireturn (cd := cd89) rfl K
theorem cl_pf2_20 {x i v : Int32} {k c m : Nat} (hk : k < r) (h10 : k < 10) (hr : rq k 2 i v I) (hc : I 0 18 = nI c) (hcm : c + 2 ≤ 20) (hm : m + 2 ≤ 30) (K : P (some (.int ((x * 3) + i))) (aHp r rr (bdy 0 18 29 I c [30, 10]) J)) : aCl L xs fv 111 (d + 2) 89 [.ref 0, .ref (111 + 3 * k), .int 2, .int 0, .int x, .int (nI m)] (aHp r rr I J) P := by
  refine pf_pre20 hc (by omega) (by omega) ?_
  refine go_v (cd := cd89) [] 20 rfl ?_
  refine go_callv (cd := cd89) rfl rfl rfl rfl rfl (lv3 rfl) rfl (cl_pf2_00 (d := d + 0) (m := m + 1) (c := c + 1) hk h10 (bdy_rq hr [30]) (bdy_n [30] I c hc) (by omega) (by omega) ⟨rfl, ?_⟩)
  show aTo L xs fv 111 _ cd89 (291, _, [.int ((x * 3) + i)], aHp r rr (bdy 0 18 29 I c [30, 10]) J) P
  exact go_ireturn (cd := cd89) rfl K
theorem cl_pf2_21 {x i v : Int32} {k c m : Nat} (hk : k < r) (h10 : k < 10) (hr : rq k 2 i v I) (hc : I 0 18 = nI c) (hcm : c + 3 ≤ 20) (hm : m + 3 ≤ 30) (K : P (some (.int (((x * 3) + i) - v))) (aHp r rr (bdy 0 18 29 I c [11, 30, 10]) J)) : aCl L xs fv 111 (d + 3) 89 [.ref 0, .ref (111 + 3 * k), .int 2, .int 1, .int x, .int (nI m)] (aHp r rr I J) P := by
  refine pf_pre21 hc (by omega) (by omega) ?_
  refine go_v (cd := cd89) [227] 20 rfl ?_
  refine go_get (cd := cd89) rfl (ru_lt hk) (ru_k h10) ?_
  rw [show aVal (aHp r rr (bdy 0 18 29 I c [11]) J) 0 (111 + 3 * k) 1 = .int 2 from congrArg Value.int (bdy_rq hr _).2.1]
  refine go_v (cd := cd89) [] 20 rfl ?_
  refine go_callv (cd := cd89) rfl rfl rfl rfl rfl (lv3 rfl) rfl (cl_pf2_20 (d := d + 0) (m := m + 1) (c := c + 1) hk h10 (bdy_rq hr [11]) (bdy_n [11] I c hc) (by omega) (by omega) ⟨rfl, ?_⟩)
  show aTo L xs fv 111 _ cd89 (238, _, [.int ((x * 3) + i)], aHp r rr (bdy 0 18 29 I c [11, 30, 10]) J) P
  refine go_v (cd := cd89) [239] 20 rfl ?_
  refine go_get (cd := cd89) rfl (ru_lt hk) (ru_k h10) ?_
  rw [show aVal (aHp r rr (bdy 0 18 29 I c [11, 30, 10]) J) 0 (111 + 3 * k) 2 = .int v from congrArg Value.int (bdy_rq hr _).2.2]
  refine go_v (cd := cd89) [] 20 rfl ?_
  exact go_ireturn (cd := cd89) rfl K
theorem cl_pf2_22 {x i v : Int32} {k c m : Nat} (hk : k < r) (h10 : k < 10) (hr : rq k 2 i v I) (hc : I 0 18 = nI c) (hcm : c + 4 ≤ 20) (hm : m + 4 ≤ 30) (K : P (some (.int ((((x * 3) + i) - v) * 2))) (aHp r rr (bdy 0 18 29 I c [12, 11, 30, 10]) J)) : aCl L xs fv 111 (d + 4) 89 [.ref 0, .ref (111 + 3 * k), .int 2, .int 2, .int x, .int (nI m)] (aHp r rr I J) P := by
  refine pf_pre22 hc (by omega) (by omega) ?_
  refine go_v (cd := cd89) [247] 20 rfl ?_
  refine go_get (cd := cd89) rfl (ru_lt hk) (ru_k h10) ?_
  rw [show aVal (aHp r rr (bdy 0 18 29 I c [12]) J) 0 (111 + 3 * k) 1 = .int 2 from congrArg Value.int (bdy_rq hr _).2.1]
  refine go_v (cd := cd89) [] 20 rfl ?_
  refine go_callv (cd := cd89) rfl rfl rfl rfl rfl (lv3 rfl) rfl (cl_pf2_21 (d := d + 0) (m := m + 1) (c := c + 1) hk h10 (bdy_rq hr [12]) (bdy_n [12] I c hc) (by omega) (by omega) ⟨rfl, ?_⟩)
  show aTo L xs fv 111 _ cd89 (258, _, [.int (((x * 3) + i) - v)], aHp r rr (bdy 0 18 29 I c [12, 11, 30, 10]) J) P
  refine go_v (cd := cd89) [] 20 rfl ?_
  exact go_ireturn (cd := cd89) rfl K
theorem cl_pf3_10 {x i v : Int32} {k c m : Nat} (hk : k < r) (h10 : k < 10) (hr : rq k 3 i v I) (hc : I 0 18 = nI c) (hcm : c + 1 ≤ 20) (hm : m + 1 ≤ 30) (K : P (some (.int (x + i))) (aHp r rr (bdy 0 18 29 I c [10]) J)) : aCl L xs fv 111 (d + 1) 89 [.ref 0, .ref (111 + 3 * k), .int 1, .int 0, .int x, .int (nI m)] (aHp r rr I J) P := by
  refine pf_pre10 hc (by omega) (by omega) ?_
  refine go_v (cd := cd89) [219] 20 rfl ?_
  refine go_get (cd := cd89) rfl (ru_lt hk) (ru_k h10) ?_
  rw [show aVal (aHp r rr (bdy 0 18 29 I c [10]) J) 0 (111 + 3 * k) 0 = .int i from congrArg Value.int (bdy_rq hr _).1]
  refine go_v (cd := cd89) [] 20 rfl ?_
  exact go_ireturn (cd := cd89) rfl K
theorem cl_pf3_30 {x i v : Int32} {k c m : Nat} (hk : k < r) (h10 : k < 10) (hr : rq k 3 i v I) (hc : I 0 18 = nI c) (hcm : c + 2 ≤ 20) (hm : m + 2 ≤ 30) (K : P (some (.int (-(x + i)))) (aHp r rr (bdy 0 18 29 I c [50, 10]) J)) : aCl L xs fv 111 (d + 2) 89 [.ref 0, .ref (111 + 3 * k), .int 3, .int 0, .int x, .int (nI m)] (aHp r rr I J) P := by
  refine pf_pre30 hc (by omega) (by omega) ?_
  refine go_v (cd := cd89) [] 20 rfl ?_
  refine go_callv (cd := cd89) rfl rfl rfl rfl rfl (lv3 rfl) rfl (cl_pf3_10 (d := d + 0) (m := m + 1) (c := c + 1) hk h10 (bdy_rq hr [50]) (bdy_n [50] I c hc) (by omega) (by omega) ⟨rfl, ?_⟩)
  show aTo L xs fv 111 _ cd89 (335, _, [.int (x + i)], aHp r rr (bdy 0 18 29 I c [50, 10]) J) P
  refine go_v (cd := cd89) [] 20 rfl ?_
  exact go_ireturn (cd := cd89) rfl K
theorem cl_pf3_01 {x i v : Int32} {k c m : Nat} (hk : k < r) (h10 : k < 10) (hr : rq k 3 i v I) (hc : I 0 18 = nI c) (hcm : c + 3 ≤ 20) (hm : m + 3 ≤ 30) (K : P (some (.int ((-(x + i)) - v))) (aHp r rr (bdy 0 18 29 I c [11, 50, 10]) J)) : aCl L xs fv 111 (d + 3) 89 [.ref 0, .ref (111 + 3 * k), .int 0, .int 1, .int x, .int (nI m)] (aHp r rr I J) P := by
  refine pf_pre01 hc (by omega) (by omega) ?_
  refine go_v (cd := cd89) [227] 20 rfl ?_
  refine go_get (cd := cd89) rfl (ru_lt hk) (ru_k h10) ?_
  rw [show aVal (aHp r rr (bdy 0 18 29 I c [11]) J) 0 (111 + 3 * k) 1 = .int 3 from congrArg Value.int (bdy_rq hr _).2.1]
  refine go_v (cd := cd89) [] 20 rfl ?_
  refine go_callv (cd := cd89) rfl rfl rfl rfl rfl (lv3 rfl) rfl (cl_pf3_30 (d := d + 0) (m := m + 1) (c := c + 1) hk h10 (bdy_rq hr [11]) (bdy_n [11] I c hc) (by omega) (by omega) ⟨rfl, ?_⟩)
  show aTo L xs fv 111 _ cd89 (238, _, [.int (-(x + i))], aHp r rr (bdy 0 18 29 I c [11, 50, 10]) J) P
  refine go_v (cd := cd89) [239] 20 rfl ?_
  refine go_get (cd := cd89) rfl (ru_lt hk) (ru_k h10) ?_
  rw [show aVal (aHp r rr (bdy 0 18 29 I c [11, 50, 10]) J) 0 (111 + 3 * k) 2 = .int v from congrArg Value.int (bdy_rq hr _).2.2]
  refine go_v (cd := cd89) [] 20 rfl ?_
  exact go_ireturn (cd := cd89) rfl K
theorem cl_pf3_11 {x i v : Int32} {k c m : Nat} (hk : k < r) (h10 : k < 10) (hr : rq k 3 i v I) (hc : I 0 18 = nI c) (hcm : c + 4 ≤ 20) (hm : m + 4 ≤ 30) (K : P (some (.int (((-(x + i)) - v) ^^^ 6))) (aHp r rr (bdy 0 18 29 I c [20, 11, 50, 10]) J)) : aCl L xs fv 111 (d + 4) 89 [.ref 0, .ref (111 + 3 * k), .int 1, .int 1, .int x, .int (nI m)] (aHp r rr I J) P := by
  refine pf_pre11 hc (by omega) (by omega) ?_
  refine go_v (cd := cd89) [] 20 rfl ?_
  refine go_callv (cd := cd89) rfl rfl rfl rfl rfl (lv3 rfl) rfl (cl_pf3_01 (d := d + 0) (m := m + 1) (c := c + 1) hk h10 (bdy_rq hr [20]) (bdy_n [20] I c hc) (by omega) (by omega) ⟨rfl, ?_⟩)
  show aTo L xs fv 111 _ cd89 (273, _, [.int ((-(x + i)) - v)], aHp r rr (bdy 0 18 29 I c [20, 11, 50, 10]) J) P
  refine go_v (cd := cd89) [] 20 rfl ?_
  exact go_ireturn (cd := cd89) rfl K
theorem cl_pf3_31 {x i v : Int32} {k c m : Nat} (hk : k < r) (h10 : k < 10) (hr : rq k 3 i v I) (hc : I 0 18 = nI c) (hcm : c + 5 ≤ 20) (hm : m + 5 ≤ 30) (K : P (some (.int (((-((x + 1) + i)) - v) ^^^ 6))) (aHp r rr (bdy 0 18 29 I c [51, 20, 11, 50, 10]) J)) : aCl L xs fv 111 (d + 5) 89 [.ref 0, .ref (111 + 3 * k), .int 3, .int 1, .int x, .int (nI m)] (aHp r rr I J) P := by
  refine pf_pre31 hc (by omega) (by omega) ?_
  refine go_v (cd := cd89) [] 20 rfl ?_
  refine go_callv (cd := cd89) rfl rfl rfl rfl rfl (lv3 rfl) rfl (cl_pf3_11 (d := d + 0) (m := m + 1) (c := c + 1) hk h10 (bdy_rq hr [51]) (bdy_n [51] I c hc) (by omega) (by omega) ⟨rfl, ?_⟩)
  show aTo L xs fv 111 _ cd89 (351, _, [.int (((-((x + 1) + i)) - v) ^^^ 6)], aHp r rr (bdy 0 18 29 I c [51, 20, 11, 50, 10]) J) P
  exact go_ireturn (cd := cd89) rfl K
theorem cl_pf3_32 {x i v : Int32} {k c m : Nat} (hk : k < r) (h10 : k < 10) (hr : rq k 3 i v I) (hc : I 0 18 = nI c) (hcm : c + 6 ≤ 20) (hm : m + 6 ≤ 30) (K : P (some (.int ((((-((x + 1) + i)) - v) ^^^ 6) * 2))) (aHp r rr (bdy 0 18 29 I c [12, 51, 20, 11, 50, 10]) J)) : aCl L xs fv 111 (d + 6) 89 [.ref 0, .ref (111 + 3 * k), .int 3, .int 2, .int x, .int (nI m)] (aHp r rr I J) P := by
  refine pf_pre32 hc (by omega) (by omega) ?_
  refine go_v (cd := cd89) [247] 20 rfl ?_
  refine go_get (cd := cd89) rfl (ru_lt hk) (ru_k h10) ?_
  rw [show aVal (aHp r rr (bdy 0 18 29 I c [12]) J) 0 (111 + 3 * k) 1 = .int 3 from congrArg Value.int (bdy_rq hr _).2.1]
  refine go_v (cd := cd89) [] 20 rfl ?_
  refine go_callv (cd := cd89) rfl rfl rfl rfl rfl (lv3 rfl) rfl (cl_pf3_31 (d := d + 0) (m := m + 1) (c := c + 1) hk h10 (bdy_rq hr [12]) (bdy_n [12] I c hc) (by omega) (by omega) ⟨rfl, ?_⟩)
  show aTo L xs fv 111 _ cd89 (258, _, [.int (((-((x + 1) + i)) - v) ^^^ 6)], aHp r rr (bdy 0 18 29 I c [12, 51, 20, 11, 50, 10]) J) P
  refine go_v (cd := cd89) [] 20 rfl ?_
  exact go_ireturn (cd := cd89) rfl K
theorem cl_pf4_00 {x i v : Int32} {k c m : Nat} (hk : k < r) (h10 : k < 10) (hr : rq k 4 i v I) (hc : I 0 18 = nI c) (hcm : c + 1 ≤ 20) (hm : m + 1 ≤ 30) (K : P (some (.int (x + i))) (aHp r rr (bdy 0 18 29 I c [10]) J)) : aCl L xs fv 111 (d + 1) 89 [.ref 0, .ref (111 + 3 * k), .int 0, .int 0, .int x, .int (nI m)] (aHp r rr I J) P := by
  refine pf_pre00 hc (by omega) (by omega) ?_
  refine go_v (cd := cd89) [219] 20 rfl ?_
  refine go_get (cd := cd89) rfl (ru_lt hk) (ru_k h10) ?_
  rw [show aVal (aHp r rr (bdy 0 18 29 I c [10]) J) 0 (111 + 3 * k) 0 = .int i from congrArg Value.int (bdy_rq hr _).1]
  refine go_v (cd := cd89) [] 20 rfl ?_
  exact go_ireturn (cd := cd89) rfl K
theorem cl_pf4_40 {x i v : Int32} {k c m : Nat} (hk : k < r) (h10 : k < 10) (hr : rq k 4 i v I) (hc : I 0 18 = nI c) (hcm : c + 2 ≤ 20) (hm : m + 2 ≤ 30) (K : P (some (.int ((x * 3) + i))) (aHp r rr (bdy 0 18 29 I c [30, 10]) J)) : aCl L xs fv 111 (d + 2) 89 [.ref 0, .ref (111 + 3 * k), .int 4, .int 0, .int x, .int (nI m)] (aHp r rr I J) P := by
  refine pf_pre40 hc (by omega) (by omega) ?_
  refine go_v (cd := cd89) [] 20 rfl ?_
  refine go_callv (cd := cd89) rfl rfl rfl rfl rfl (lv3 rfl) rfl (cl_pf4_00 (d := d + 0) (m := m + 1) (c := c + 1) hk h10 (bdy_rq hr [30]) (bdy_n [30] I c hc) (by omega) (by omega) ⟨rfl, ?_⟩)
  show aTo L xs fv 111 _ cd89 (291, _, [.int ((x * 3) + i)], aHp r rr (bdy 0 18 29 I c [30, 10]) J) P
  exact go_ireturn (cd := cd89) rfl K
theorem cl_pf4_41 {x i v : Int32} {k c m : Nat} (hk : k < r) (h10 : k < 10) (hr : rq k 4 i v I) (hc : I 0 18 = nI c) (hcm : c + 3 ≤ 20) (hm : m + 3 ≤ 30) (K : P (some (.int (((x * 3) + i) - v))) (aHp r rr (bdy 0 18 29 I c [11, 30, 10]) J)) : aCl L xs fv 111 (d + 3) 89 [.ref 0, .ref (111 + 3 * k), .int 4, .int 1, .int x, .int (nI m)] (aHp r rr I J) P := by
  refine pf_pre41 hc (by omega) (by omega) ?_
  refine go_v (cd := cd89) [227] 20 rfl ?_
  refine go_get (cd := cd89) rfl (ru_lt hk) (ru_k h10) ?_
  rw [show aVal (aHp r rr (bdy 0 18 29 I c [11]) J) 0 (111 + 3 * k) 1 = .int 4 from congrArg Value.int (bdy_rq hr _).2.1]
  refine go_v (cd := cd89) [] 20 rfl ?_
  refine go_callv (cd := cd89) rfl rfl rfl rfl rfl (lv3 rfl) rfl (cl_pf4_40 (d := d + 0) (m := m + 1) (c := c + 1) hk h10 (bdy_rq hr [11]) (bdy_n [11] I c hc) (by omega) (by omega) ⟨rfl, ?_⟩)
  show aTo L xs fv 111 _ cd89 (238, _, [.int ((x * 3) + i)], aHp r rr (bdy 0 18 29 I c [11, 30, 10]) J) P
  refine go_v (cd := cd89) [239] 20 rfl ?_
  refine go_get (cd := cd89) rfl (ru_lt hk) (ru_k h10) ?_
  rw [show aVal (aHp r rr (bdy 0 18 29 I c [11, 30, 10]) J) 0 (111 + 3 * k) 2 = .int v from congrArg Value.int (bdy_rq hr _).2.2]
  refine go_v (cd := cd89) [] 20 rfl ?_
  exact go_ireturn (cd := cd89) rfl K
theorem cl_pf4_22 {x i v : Int32} {k c m : Nat} (hk : k < r) (h10 : k < 10) (hr : rq k 4 i v I) (hc : I 0 18 = nI c) (hcm : c + 4 ≤ 20) (hm : m + 4 ≤ 30) (K : P (some (.int ((((x * 3) + i) - v) * 2))) (aHp r rr (bdy 0 18 29 I c [12, 11, 30, 10]) J)) : aCl L xs fv 111 (d + 4) 89 [.ref 0, .ref (111 + 3 * k), .int 2, .int 2, .int x, .int (nI m)] (aHp r rr I J) P := by
  refine pf_pre22 hc (by omega) (by omega) ?_
  refine go_v (cd := cd89) [247] 20 rfl ?_
  refine go_get (cd := cd89) rfl (ru_lt hk) (ru_k h10) ?_
  rw [show aVal (aHp r rr (bdy 0 18 29 I c [12]) J) 0 (111 + 3 * k) 1 = .int 4 from congrArg Value.int (bdy_rq hr _).2.1]
  refine go_v (cd := cd89) [] 20 rfl ?_
  refine go_callv (cd := cd89) rfl rfl rfl rfl rfl (lv3 rfl) rfl (cl_pf4_41 (d := d + 0) (m := m + 1) (c := c + 1) hk h10 (bdy_rq hr [12]) (bdy_n [12] I c hc) (by omega) (by omega) ⟨rfl, ?_⟩)
  show aTo L xs fv 111 _ cd89 (258, _, [.int (((x * 3) + i) - v)], aHp r rr (bdy 0 18 29 I c [12, 11, 30, 10]) J) P
  refine go_v (cd := cd89) [] 20 rfl ?_
  exact go_ireturn (cd := cd89) rfl K
theorem cl_pf4_42 {x i v : Int32} {k c m : Nat} (hk : k < r) (h10 : k < 10) (hr : rq k 4 i v I) (hc : I 0 18 = nI c) (hcm : c + 5 ≤ 20) (hm : m + 5 ≤ 30) (K : P (some (.int (((((x - i) * 3) + i) - v) * 2))) (aHp r rr (bdy 0 18 29 I c [60, 12, 11, 30, 10]) J)) : aCl L xs fv 111 (d + 5) 89 [.ref 0, .ref (111 + 3 * k), .int 4, .int 2, .int x, .int (nI m)] (aHp r rr I J) P := by
  refine pf_pre42 hc (by omega) (by omega) ?_
  refine go_v (cd := cd89) [360] 20 rfl ?_
  refine go_get (cd := cd89) rfl (ru_lt hk) (ru_k h10) ?_
  rw [show aVal (aHp r rr (bdy 0 18 29 I c [60]) J) 0 (111 + 3 * k) 0 = .int i from congrArg Value.int (bdy_rq hr _).1]
  refine go_v (cd := cd89) [] 20 rfl ?_
  refine go_callv (cd := cd89) rfl rfl rfl rfl rfl (lv3 rfl) rfl (cl_pf4_22 (d := d + 0) (m := m + 1) (c := c + 1) hk h10 (bdy_rq hr [60]) (bdy_n [60] I c hc) (by omega) (by omega) ⟨rfl, ?_⟩)
  show aTo L xs fv 111 _ cd89 (369, _, [.int (((((x - i) * 3) + i) - v) * 2)], aHp r rr (bdy 0 18 29 I c [60, 12, 11, 30, 10]) J) P
  exact go_ireturn (cd := cd89) rfl K
theorem cl_pf5_50 {x i v : Int32} {k c m : Nat} (hk : k < r) (h10 : k < 10) (hr : rq k 5 i v I) (hc : I 0 18 = nI c) (hcm : c + 1 ≤ 20) (hm : m + 1 ≤ 30) (K : P (some (.int (x + i))) (aHp r rr (bdy 0 18 29 I c [10]) J)) : aCl L xs fv 111 (d + 1) 89 [.ref 0, .ref (111 + 3 * k), .int 5, .int 0, .int x, .int (nI m)] (aHp r rr I J) P := by
  refine pf_pre50 hc (by omega) (by omega) ?_
  refine go_v (cd := cd89) [219] 20 rfl ?_
  refine go_get (cd := cd89) rfl (ru_lt hk) (ru_k h10) ?_
  rw [show aVal (aHp r rr (bdy 0 18 29 I c [10]) J) 0 (111 + 3 * k) 0 = .int i from congrArg Value.int (bdy_rq hr _).1]
  refine go_v (cd := cd89) [] 20 rfl ?_
  exact go_ireturn (cd := cd89) rfl K
theorem cl_pf5_51 {x i v : Int32} {k c m : Nat} (hk : k < r) (h10 : k < 10) (hr : rq k 5 i v I) (hc : I 0 18 = nI c) (hcm : c + 2 ≤ 20) (hm : m + 2 ≤ 30) (K : P (some (.int ((x + i) - v))) (aHp r rr (bdy 0 18 29 I c [11, 10]) J)) : aCl L xs fv 111 (d + 2) 89 [.ref 0, .ref (111 + 3 * k), .int 5, .int 1, .int x, .int (nI m)] (aHp r rr I J) P := by
  refine pf_pre51 hc (by omega) (by omega) ?_
  refine go_v (cd := cd89) [227] 20 rfl ?_
  refine go_get (cd := cd89) rfl (ru_lt hk) (ru_k h10) ?_
  rw [show aVal (aHp r rr (bdy 0 18 29 I c [11]) J) 0 (111 + 3 * k) 1 = .int 5 from congrArg Value.int (bdy_rq hr _).2.1]
  refine go_v (cd := cd89) [] 20 rfl ?_
  refine go_callv (cd := cd89) rfl rfl rfl rfl rfl (lv3 rfl) rfl (cl_pf5_50 (d := d + 0) (m := m + 1) (c := c + 1) hk h10 (bdy_rq hr [11]) (bdy_n [11] I c hc) (by omega) (by omega) ⟨rfl, ?_⟩)
  show aTo L xs fv 111 _ cd89 (238, _, [.int (x + i)], aHp r rr (bdy 0 18 29 I c [11, 10]) J) P
  refine go_v (cd := cd89) [239] 20 rfl ?_
  refine go_get (cd := cd89) rfl (ru_lt hk) (ru_k h10) ?_
  rw [show aVal (aHp r rr (bdy 0 18 29 I c [11, 10]) J) 0 (111 + 3 * k) 2 = .int v from congrArg Value.int (bdy_rq hr _).2.2]
  refine go_v (cd := cd89) [] 20 rfl ?_
  exact go_ireturn (cd := cd89) rfl K
theorem cl_pf5_02 {x i v : Int32} {k c m : Nat} (hk : k < r) (h10 : k < 10) (hr : rq k 5 i v I) (hc : I 0 18 = nI c) (hcm : c + 3 ≤ 20) (hm : m + 3 ≤ 30) (K : P (some (.int (((x + i) - v) * 2))) (aHp r rr (bdy 0 18 29 I c [12, 11, 10]) J)) : aCl L xs fv 111 (d + 3) 89 [.ref 0, .ref (111 + 3 * k), .int 0, .int 2, .int x, .int (nI m)] (aHp r rr I J) P := by
  refine pf_pre02 hc (by omega) (by omega) ?_
  refine go_v (cd := cd89) [247] 20 rfl ?_
  refine go_get (cd := cd89) rfl (ru_lt hk) (ru_k h10) ?_
  rw [show aVal (aHp r rr (bdy 0 18 29 I c [12]) J) 0 (111 + 3 * k) 1 = .int 5 from congrArg Value.int (bdy_rq hr _).2.1]
  refine go_v (cd := cd89) [] 20 rfl ?_
  refine go_callv (cd := cd89) rfl rfl rfl rfl rfl (lv3 rfl) rfl (cl_pf5_51 (d := d + 0) (m := m + 1) (c := c + 1) hk h10 (bdy_rq hr [12]) (bdy_n [12] I c hc) (by omega) (by omega) ⟨rfl, ?_⟩)
  show aTo L xs fv 111 _ cd89 (258, _, [.int ((x + i) - v)], aHp r rr (bdy 0 18 29 I c [12, 11, 10]) J) P
  refine go_v (cd := cd89) [] 20 rfl ?_
  exact go_ireturn (cd := cd89) rfl K
theorem cl_pf5_52 {x i v : Int32} {k c m : Nat} (hk : k < r) (h10 : k < 10) (hr : rq k 5 i v I) (hc : I 0 18 = nI c) (hcm : c + 6 ≤ 20) (hm : m + 4 ≤ 30) (K : P (some (.int ((((x + i) - v) * 2) + ((1 + i) - v)))) (aHp r rr (bdy 0 18 29 I c [40, 12, 11, 10, 11, 10]) J)) : aCl L xs fv 111 (d + 4) 89 [.ref 0, .ref (111 + 3 * k), .int 5, .int 2, .int x, .int (nI m)] (aHp r rr I J) P := by
  refine pf_pre52 hc (by omega) (by omega) ?_
  refine go_v (cd := cd89) [] 20 rfl ?_
  refine go_callv (cd := cd89) rfl rfl rfl rfl rfl (lv3 rfl) rfl (cl_pf5_02 (d := d + 0) (m := m + 1) (c := c + 1) hk h10 (bdy_rq hr [40]) (bdy_n [40] I c hc) (by omega) (by omega) ⟨rfl, ?_⟩)
  show aTo L xs fv 111 _ cd89 (304, _, [.int (((x + i) - v) * 2)], aHp r rr (bdy 0 18 29 I c [40, 12, 11, 10]) J) P
  refine go_v (cd := cd89) [311] 20 rfl ?_
  refine go_get (cd := cd89) rfl (ru_lt hk) (ru_k h10) ?_
  rw [show aVal (aHp r rr (bdy 0 18 29 I c [40, 12, 11, 10]) J) 0 (111 + 3 * k) 1 = .int 5 from congrArg Value.int (bdy_rq hr _).2.1]
  refine go_v (cd := cd89) [] 20 rfl ?_
  refine go_callv (cd := cd89) rfl rfl rfl rfl rfl (lv3 rfl) rfl (cl_pf5_51 (d := d + 1) (m := m + 1) (c := c + 4) hk h10 (bdy_rq hr [40, 12, 11, 10]) (bdy_n [40, 12, 11, 10] I c hc) (by omega) (by omega) ⟨rfl, ?_⟩)
  show aTo L xs fv 111 _ cd89 (321, _, [.int ((1 + i) - v), .int (((x + i) - v) * 2)], aHp r rr (bdy 0 18 29 I c [40, 12, 11, 10, 11, 10]) J) P
  refine go_v (cd := cd89) [] 20 rfl ?_
  exact go_ireturn (cd := cd89) rfl K
theorem cl_pf6_50 {x i v : Int32} {k c m : Nat} (hk : k < r) (h10 : k < 10) (hr : rq k 6 i v I) (hc : I 0 18 = nI c) (hcm : c + 1 ≤ 20) (hm : m + 1 ≤ 30) (K : P (some (.int (x + i))) (aHp r rr (bdy 0 18 29 I c [10]) J)) : aCl L xs fv 111 (d + 1) 89 [.ref 0, .ref (111 + 3 * k), .int 5, .int 0, .int x, .int (nI m)] (aHp r rr I J) P := by
  refine pf_pre50 hc (by omega) (by omega) ?_
  refine go_v (cd := cd89) [219] 20 rfl ?_
  refine go_get (cd := cd89) rfl (ru_lt hk) (ru_k h10) ?_
  rw [show aVal (aHp r rr (bdy 0 18 29 I c [10]) J) 0 (111 + 3 * k) 0 = .int i from congrArg Value.int (bdy_rq hr _).1]
  refine go_v (cd := cd89) [] 20 rfl ?_
  exact go_ireturn (cd := cd89) rfl K
theorem cl_pf6_60 {x i v : Int32} {k c m : Nat} (hk : k < r) (h10 : k < 10) (hr : rq k 6 i v I) (hc : I 0 18 = nI c) (hcm : c + 2 ≤ 20) (hm : m + 2 ≤ 30) (K : P (some (.int ((x + i) ^^^ v))) (aHp r rr (bdy 0 18 29 I c [71, 10]) J)) : aCl L xs fv 111 (d + 2) 89 [.ref 0, .ref (111 + 3 * k), .int 6, .int 0, .int x, .int (nI m)] (aHp r rr I J) P := by
  refine pf_pre60 hc (by omega) (by omega) ?_
  refine go_v (cd := cd89) [] 20 rfl ?_
  refine go_callv (cd := cd89) rfl rfl rfl rfl rfl (lv3 rfl) rfl (cl_pf6_50 (d := d + 0) (m := m + 1) (c := c + 1) hk h10 (bdy_rq hr [71]) (bdy_n [71] I c hc) (by omega) (by omega) ⟨rfl, ?_⟩)
  show aTo L xs fv 111 _ cd89 (411, _, [.int (x + i)], aHp r rr (bdy 0 18 29 I c [71, 10]) J) P
  refine go_v (cd := cd89) [412] 20 rfl ?_
  refine go_get (cd := cd89) rfl (ru_lt hk) (ru_k h10) ?_
  rw [show aVal (aHp r rr (bdy 0 18 29 I c [71, 10]) J) 0 (111 + 3 * k) 2 = .int v from congrArg Value.int (bdy_rq hr _).2.2]
  refine go_v (cd := cd89) [] 20 rfl ?_
  exact go_ireturn (cd := cd89) rfl K
theorem cl_pf6_51 {x i v : Int32} {k c m : Nat} (hk : k < r) (h10 : k < 10) (hr : rq k 6 i v I) (hc : I 0 18 = nI c) (hcm : c + 3 ≤ 20) (hm : m + 3 ≤ 30) (K : P (some (.int (((x + i) ^^^ v) - v))) (aHp r rr (bdy 0 18 29 I c [11, 71, 10]) J)) : aCl L xs fv 111 (d + 3) 89 [.ref 0, .ref (111 + 3 * k), .int 5, .int 1, .int x, .int (nI m)] (aHp r rr I J) P := by
  refine pf_pre51 hc (by omega) (by omega) ?_
  refine go_v (cd := cd89) [227] 20 rfl ?_
  refine go_get (cd := cd89) rfl (ru_lt hk) (ru_k h10) ?_
  rw [show aVal (aHp r rr (bdy 0 18 29 I c [11]) J) 0 (111 + 3 * k) 1 = .int 6 from congrArg Value.int (bdy_rq hr _).2.1]
  refine go_v (cd := cd89) [] 20 rfl ?_
  refine go_callv (cd := cd89) rfl rfl rfl rfl rfl (lv3 rfl) rfl (cl_pf6_60 (d := d + 0) (m := m + 1) (c := c + 1) hk h10 (bdy_rq hr [11]) (bdy_n [11] I c hc) (by omega) (by omega) ⟨rfl, ?_⟩)
  show aTo L xs fv 111 _ cd89 (238, _, [.int ((x + i) ^^^ v)], aHp r rr (bdy 0 18 29 I c [11, 71, 10]) J) P
  refine go_v (cd := cd89) [239] 20 rfl ?_
  refine go_get (cd := cd89) rfl (ru_lt hk) (ru_k h10) ?_
  rw [show aVal (aHp r rr (bdy 0 18 29 I c [11, 71, 10]) J) 0 (111 + 3 * k) 2 = .int v from congrArg Value.int (bdy_rq hr _).2.2]
  refine go_v (cd := cd89) [] 20 rfl ?_
  exact go_ireturn (cd := cd89) rfl K
theorem cl_pf6_61 {x i v : Int32} {k c m : Nat} (hk : k < r) (h10 : k < 10) (hr : rq k 6 i v I) (hc : I 0 18 = nI c) (hcm : c + 5 ≤ 20) (hm : m + 4 ≤ 30) (K : P (some (.int ((((x + i) ^^^ v) - v) + (2 + i)))) (aHp r rr (bdy 0 18 29 I c [70, 11, 71, 10, 10]) J)) : aCl L xs fv 111 (d + 4) 89 [.ref 0, .ref (111 + 3 * k), .int 6, .int 1, .int x, .int (nI m)] (aHp r rr I J) P := by
  refine pf_pre61 hc (by omega) (by omega) ?_
  refine go_v (cd := cd89) [] 20 rfl ?_
  refine go_callv (cd := cd89) rfl rfl rfl rfl rfl (lv3 rfl) rfl (cl_pf6_51 (d := d + 0) (m := m + 1) (c := c + 1) hk h10 (bdy_rq hr [70]) (bdy_n [70] I c hc) (by omega) (by omega) ⟨rfl, ?_⟩)
  show aTo L xs fv 111 _ cd89 (382, _, [.int (((x + i) ^^^ v) - v)], aHp r rr (bdy 0 18 29 I c [70, 11, 71, 10]) J) P
  refine go_v (cd := cd89) [] 20 rfl ?_
  refine go_callv (cd := cd89) rfl rfl rfl rfl rfl (lv3 rfl) rfl (cl_pf6_50 (d := d + 2) (m := m + 1) (c := c + 4) hk h10 (bdy_rq hr [70, 11, 71, 10]) (bdy_n [70, 11, 71, 10] I c hc) (by omega) (by omega) ⟨rfl, ?_⟩)
  show aTo L xs fv 111 _ cd89 (397, _, [.int (2 + i), .int (((x + i) ^^^ v) - v)], aHp r rr (bdy 0 18 29 I c [70, 11, 71, 10, 10]) J) P
  refine go_v (cd := cd89) [] 20 rfl ?_
  exact go_ireturn (cd := cd89) rfl K
theorem cl_pf6_02 {x i v : Int32} {k c m : Nat} (hk : k < r) (h10 : k < 10) (hr : rq k 6 i v I) (hc : I 0 18 = nI c) (hcm : c + 6 ≤ 20) (hm : m + 5 ≤ 30) (K : P (some (.int (((((x + i) ^^^ v) - v) + (2 + i)) * 2))) (aHp r rr (bdy 0 18 29 I c [12, 70, 11, 71, 10, 10]) J)) : aCl L xs fv 111 (d + 5) 89 [.ref 0, .ref (111 + 3 * k), .int 0, .int 2, .int x, .int (nI m)] (aHp r rr I J) P := by
  refine pf_pre02 hc (by omega) (by omega) ?_
  refine go_v (cd := cd89) [247] 20 rfl ?_
  refine go_get (cd := cd89) rfl (ru_lt hk) (ru_k h10) ?_
  rw [show aVal (aHp r rr (bdy 0 18 29 I c [12]) J) 0 (111 + 3 * k) 1 = .int 6 from congrArg Value.int (bdy_rq hr _).2.1]
  refine go_v (cd := cd89) [] 20 rfl ?_
  refine go_callv (cd := cd89) rfl rfl rfl rfl rfl (lv3 rfl) rfl (cl_pf6_61 (d := d + 0) (m := m + 1) (c := c + 1) hk h10 (bdy_rq hr [12]) (bdy_n [12] I c hc) (by omega) (by omega) ⟨rfl, ?_⟩)
  show aTo L xs fv 111 _ cd89 (258, _, [.int ((((x + i) ^^^ v) - v) + (2 + i))], aHp r rr (bdy 0 18 29 I c [12, 70, 11, 71, 10, 10]) J) P
  refine go_v (cd := cd89) [] 20 rfl ?_
  exact go_ireturn (cd := cd89) rfl K
theorem cl_pf6_62 {x i v : Int32} {k c m : Nat} (hk : k < r) (h10 : k < 10) (hr : rq k 6 i v I) (hc : I 0 18 = nI c) (hcm : c + 12 ≤ 20) (hm : m + 6 ≤ 30) (K : P (some (.int ((((((x + i) ^^^ v) - v) + (2 + i)) * 2) + ((((1 + i) ^^^ v) - v) + (2 + i))))) (aHp r rr (bdy 0 18 29 I c [40, 12, 70, 11, 71, 10, 10, 70, 11, 71, 10, 10]) J)) : aCl L xs fv 111 (d + 6) 89 [.ref 0, .ref (111 + 3 * k), .int 6, .int 2, .int x, .int (nI m)] (aHp r rr I J) P := by
  refine pf_pre62 hc (by omega) (by omega) ?_
  refine go_v (cd := cd89) [] 20 rfl ?_
  refine go_callv (cd := cd89) rfl rfl rfl rfl rfl (lv3 rfl) rfl (cl_pf6_02 (d := d + 0) (m := m + 1) (c := c + 1) hk h10 (bdy_rq hr [40]) (bdy_n [40] I c hc) (by omega) (by omega) ⟨rfl, ?_⟩)
  show aTo L xs fv 111 _ cd89 (304, _, [.int (((((x + i) ^^^ v) - v) + (2 + i)) * 2)], aHp r rr (bdy 0 18 29 I c [40, 12, 70, 11, 71, 10, 10]) J) P
  refine go_v (cd := cd89) [311] 20 rfl ?_
  refine go_get (cd := cd89) rfl (ru_lt hk) (ru_k h10) ?_
  rw [show aVal (aHp r rr (bdy 0 18 29 I c [40, 12, 70, 11, 71, 10, 10]) J) 0 (111 + 3 * k) 1 = .int 6 from congrArg Value.int (bdy_rq hr _).2.1]
  refine go_v (cd := cd89) [] 20 rfl ?_
  refine go_callv (cd := cd89) rfl rfl rfl rfl rfl (lv3 rfl) rfl (cl_pf6_61 (d := d + 1) (m := m + 1) (c := c + 7) hk h10 (bdy_rq hr [40, 12, 70, 11, 71, 10, 10]) (bdy_n [40, 12, 70, 11, 71, 10, 10] I c hc) (by omega) (by omega) ⟨rfl, ?_⟩)
  show aTo L xs fv 111 _ cd89 (321, _, [.int ((((1 + i) ^^^ v) - v) + (2 + i)), .int (((((x + i) ^^^ v) - v) + (2 + i)) * 2)], aHp r rr (bdy 0 18 29 I c [40, 12, 70, 11, 71, 10, 10, 70, 11, 71, 10, 10]) J) P
  refine go_v (cd := cd89) [] 20 rfl ?_
  exact go_ireturn (cd := cd89) rfl K
end AC
