/-! the law's loop: a call of each kind -/
def lsL (i : Int32) : aL := [(3, .int i), (2, .ref 77), (1, .ref 0), (0, .ref 1003)]
def lwP (L : Nat) (xs : Nat → Int32) (fv : Value) (yx ym : Nat) (as : List Value) (h : aH) (V : Value) : Prop := ∃ h1, aEx (akd L) (aZ0 xs) 0 aMl (cds fv) 40 yx (.ref 0 :: as) h (some V) h1 ∧ 111 ≤ h1.1 ∧ aCl L xs fv 0 40 ym (.ref 77 :: as) h1 (fun rv2 h2 => h2.1 = h1.1 ∧ rv2 = some V ∧ aIn h2)
theorem aIn_ge {h : aH} (hi : aIn h) : 111 ≤ h.1 ∧ h.1 ≤ 141 := by
  obtain ⟨r, rr, A, I, J, rfl, hv⟩ := hi
  have := hv.2.2.2.2.2.2.1.2.2.1
  show 111 ≤ 111 + 3 * r ∧ 111 + 3 * r ≤ 141
  omega
section LW
variable {L : Nat} {xs : Nat → Int32} {fv : Value} {P : Option Value → aH → Prop}
theorem lw_any {yx ym : Nat} {as : List Value} {h : aH} (hy : (mtN yx).2.2.2 = some .int) (hi : aIn h) (hp : aCl L xs fv 111 40 yx (.ref 0 :: as) h (fun rv h1 => ∃ v, rv = some v ∧ aCl L xs fv 111 40 ym (.ref 77 :: as) h1 (fun rv2 h2 => h2.1 = h1.1 ∧ rv2 = some v ∧ aIn h2))) : ∃ x, lwP L xs fv yx ym as h (.int x) := by
  have h111 := (aIn_ge hi).1
  obtain ⟨rv, h1, hx, ⟨x, rfl⟩, hle, v, hv, hk⟩ := cl_n h111 (cl_ri hy hp)
  have e : .int x = v := Option.some.inj hv
  subst e
  exact ⟨x, h1, hx, Nat.le_trans h111 hle, cl_n (Nat.le_trans h111 hle) hk⟩
theorem lw_int {yx ym : Nat} {as : List Value} {h : aH} (hy : (mtN yx).2.2.2 = some .int) (hi : aIn h) (hp : aPair L xs fv 40 yx ym as h) : ∃ x, lwP L xs fv yx ym as h (.int x) := by
  refine lw_any hy hi ?_
  obtain ⟨rv, h1, hx, hh⟩ := hp
  exact ⟨rv, h1, hx, hh.2⟩
theorem lw_long {yx ym : Nat} {as : List Value} {h : aH} (hy : (mtN yx).2.2.2 = some .long) (hi : aIn h) (hp : aPair L xs fv 40 yx ym as h) : ∃ x, lwP L xs fv yx ym as h (.long x) := by
  have h111 := (aIn_ge hi).1
  obtain ⟨rv, h1, hx, ⟨x, rfl⟩, hle, _, v, hv, hk⟩ := cl_n h111 (cl_rl hy hp)
  have e : .long x = v := Option.some.inj hv
  subst e
  exact ⟨x, h1, hx, Nat.le_trans h111 hle, cl_n (Nat.le_trans h111 hle) hk⟩
theorem go_lwA {yx ym pc nx b z : Nat} {v : Value} {ls : aL} {st : List Value} {as : List Value} {h : aH} (hp : ∃ x, lwP L xs fv yx ym as h (.int x)) (hc : cd187 pc = some (.invokevirtual z, nx, yx, b, 5, v)) (hb : Nat.ble b st.length = true) (hws : (st.take b).reverse = .ref 0 :: as) (hrs : st.drop b = []) (h0 : 111 ≤ h.1) (hls : okP h.1 (ls.map (·.2))) (k : ∀ x h1, 111 ≤ h1.1 → aCl L xs fv 0 40 ym (.ref 77 :: as) h1 (fun rv2 h2 => h2.1 = h1.1 ∧ rv2 = some (.int x) ∧ aIn h2) → aTo L xs fv 0 40 cd187 (nx, ls, [.int x], h1) P) : aTo L xs fv 0 40 cd187 (pc, ls, st, h) P := by
  obtain ⟨x, h1, hx, h11, hc2⟩ := hp
  obtain ⟨rv, hh, hr, hpp⟩ := k x h1 h11 hc2
  refine go_spc hc rfl rv hh ⟨some (.int x), h1, Nat.le_of_ble_eq_true hb, by rw [hrs]; exact Nat.zero_le _, ⟨0, by rw [hws]; rfl, Or.inr ⟨Nat.lt_of_lt_of_le (by decide) h0, rfl⟩⟩, by rw [hws]; exact hx, Or.inr ⟨okP_s hls, by rw [hrs]; exact okP_s trivial⟩, by rw [hrs]; exact hr⟩ hpp
theorem go_lwB {V : Value} {ym pc nx b z : Nat} {v : Value} {ls : aL} {st : List Value} {as : List Value} {h : aH} (hk : aCl L xs fv 0 40 ym (.ref 77 :: as) h (fun rv2 h2 => h2.1 = h.1 ∧ rv2 = some V ∧ aIn h2)) (hc : cd187 pc = some (.invokevirtual z, nx, ym, b, 6, v)) (hb : Nat.ble b st.length = true) (hws : (st.take b).reverse = .ref 77 :: as) (hrs : st.drop b = [V]) (h0 : 111 ≤ h.1) (hV : Nat.ble ([V].map fun v => v.category).sum 8 = true) (k : ∀ h2, aIn h2 → aTo L xs fv 0 40 cd187 (nx, ls, [V, V], h2) P) : aTo L xs fv 0 40 cd187 (pc, ls, st, h) P := by
  obtain ⟨rv1, h2, hx, hn, rfl, hi⟩ := hk
  obtain ⟨rv, hh, hr, hpp⟩ := k h2 hi
  exact go_spc hc rfl rv hh ⟨some V, h2, Nat.le_of_ble_eq_true hb, by rw [hrs]; exact Nat.le_of_ble_eq_true hV, ⟨77, by rw [hws]; rfl, Or.inr ⟨Nat.lt_of_lt_of_le (by decide) h0, rfl⟩⟩, by rw [hws]; exact hx, Or.inl hn, by rw [hrs]; exact hr⟩ hpp
theorem go_lwAl {yx ym pc nx b z : Nat} {v : Value} {ls : aL} {st : List Value} {as : List Value} {h : aH} (hp : ∃ x, lwP L xs fv yx ym as h (.long x)) (hc : cd187 pc = some (.invokevirtual z, nx, yx, b, 5, v)) (hb : Nat.ble b st.length = true) (hws : (st.take b).reverse = .ref 0 :: as) (hrs : st.drop b = []) (h0 : 111 ≤ h.1) (hls : okP h.1 (ls.map (·.2))) (k : ∀ x h1, 111 ≤ h1.1 → aCl L xs fv 0 40 ym (.ref 77 :: as) h1 (fun rv2 h2 => h2.1 = h1.1 ∧ rv2 = some (.long x) ∧ aIn h2) → aTo L xs fv 0 40 cd187 (nx, ls, [.long x], h1) P) : aTo L xs fv 0 40 cd187 (pc, ls, st, h) P := by
  obtain ⟨x, h1, hx, h11, hc2⟩ := hp
  obtain ⟨rv, hh, hr, hpp⟩ := k x h1 h11 hc2
  refine go_spc hc rfl rv hh ⟨some (.long x), h1, Nat.le_of_ble_eq_true hb, by rw [hrs]; exact Nat.zero_le _, ⟨0, by rw [hws]; rfl, Or.inr ⟨Nat.lt_of_lt_of_le (by decide) h0, rfl⟩⟩, by rw [hws]; exact hx, Or.inr ⟨okP_s hls, by rw [hrs]; exact okP_s trivial⟩, by rw [hrs]; exact hr⟩ hpp
theorem go_scr {j : Int32} {r : List Value} {pc nx a b t : Nat} {v : Value} {ls : aL} {h : aH} (hc : cd187 pc = some (.iaload, nx, a, b, t, v)) (hin : vp_in j L) (k : aTo L xs fv 0 40 cd187 (nx, ls, .int (xs j.toNatClampNeg) :: r, h) P) : aTo L xs fv 0 40 cd187 (pc, ls, .int j :: .ref 1003 :: r, h) P := by
  obtain ⟨rv, hh, hr, hp⟩ := k
  exact go_spc hc rfl rv hh ⟨hin, Or.inr ⟨rfl, hr⟩⟩ hp
theorem go_ifTh {p : Prop} [Decidable p] {a b : Nat} {ls : aL} {st : List Value} {h : aH} (hp : p) (k : aTo L xs fv 0 40 cd187 (a, ls, st, h) P) : aTo L xs fv 0 40 cd187 (if p then a else b, ls, st, h) P := by rw [if_pos hp]; exact k
theorem go_ifFh {p : Prop} [Decidable p] {a b : Nat} {ls : aL} {st : List Value} {h : aH} (hp : ¬ p) (k : aTo L xs fv 0 40 cd187 (b, ls, st, h) P) : aTo L xs fv 0 40 cd187 (if p then a else b, ls, st, h) P := by rw [if_neg hp]; exact k
theorem lg_same (x : Int64) : lg_cmp x x = 0 := by
  unfold lg_cmp
  rw [if_neg (show ¬ x > x from Int64.lt_irrefl), if_pos rfl]
theorem lw_c0 {i : Int32} {h : aH} (hfv : fv = .null ∨ fv = .ref 3000) (hlines : ∀ (w g : Int32) (h : aH), aIn h → aPair L xs fv 40 51 152 [.int w, .int g] h) (hx1 : vp_in (i + 1) L) (hx2 : vp_in (i + 2) L) (hx3 : vp_in (i + 3) L) (hx4 : vp_in (i + 4) L) (hx5 : vp_in (i + 5) L) (hi : aIn h) (K : ∀ h', aIn h' → aTo L xs fv 0 40 cd187 (1497, lsL i, [], h') P) : aTo L xs fv 0 40 cd187 (192, lsL i, [], h) P := by
  have h111 := (aIn_ge hi).1
  refine go_v (cd := cd187) [] 40 rfl ?_
  refine go_scr rfl hx1 ?_
  refine go_v (cd := cd187) [] 40 rfl ?_
  refine go_scr rfl hx2 ?_
  refine go_lwA (lw_int rfl hi (pr_sail (d := 37) hi)) rfl rfl rfl rfl h111 (ls := lsL i) ⟨trivial, Or.inl (Nat.lt_of_lt_of_le (show 77 < 111 by decide) h111), Or.inl (Nat.lt_of_lt_of_le (show 0 < 111 by decide) h111), Or.inr (show 1000 ≤ 1003 by decide), trivial⟩ (fun x h1 h11 hc => ?_)
  refine go_v (cd := cd187) [] 40 rfl ?_
  refine go_scr rfl hx1 ?_
  refine go_v (cd := cd187) [] 40 rfl ?_
  refine go_scr rfl hx2 ?_
  refine go_lwB hc rfl rfl rfl rfl h11 rfl (fun h2 hi2 => ?_)
  refine go_st (cd := cd187) 1 rfl (go_ifTh rfl ?_)
  exact K h2 hi2
theorem lw_c1 {i : Int32} {h : aH} (hfv : fv = .null ∨ fv = .ref 3000) (hlines : ∀ (w g : Int32) (h : aH), aIn h → aPair L xs fv 40 51 152 [.int w, .int g] h) (hx1 : vp_in (i + 1) L) (hx2 : vp_in (i + 2) L) (hx3 : vp_in (i + 3) L) (hx4 : vp_in (i + 4) L) (hx5 : vp_in (i + 5) L) (hi : aIn h) (K : ∀ h', aIn h' → aTo L xs fv 0 40 cd187 (1497, lsL i, [], h') P) : aTo L xs fv 0 40 cd187 (225, lsL i, [], h) P := by
  have h111 := (aIn_ge hi).1
  by_cases hz : xs (i + 3).toNatClampNeg = 0
  · refine go_v (cd := cd187) [] 40 rfl ?_
    refine go_scr rfl hx1 ?_
    refine go_v (cd := cd187) [] 40 rfl ?_
    refine go_scr rfl hx2 ?_
    refine go_v (cd := cd187) [] 40 rfl ?_
    refine go_scr rfl hx3 ?_
    refine go_st (cd := cd187) 1 rfl (go_ifTh hz ?_)
    refine go_v (cd := cd187) [] 40 rfl ?_
    refine go_lwA (lw_int rfl hi (pr_make (d := 37) (Or.inl rfl) hi)) rfl rfl rfl rfl h111 (ls := lsL i) ⟨trivial, Or.inl (Nat.lt_of_lt_of_le (show 77 < 111 by decide) h111), Or.inl (Nat.lt_of_lt_of_le (show 0 < 111 by decide) h111), Or.inr (show 1000 ≤ 1003 by decide), trivial⟩ (fun x h1 h11 hc => ?_)
    refine go_v (cd := cd187) [] 40 rfl ?_
    refine go_scr rfl hx1 ?_
    refine go_v (cd := cd187) [] 40 rfl ?_
    refine go_scr rfl hx2 ?_
    refine go_v (cd := cd187) [] 40 rfl ?_
    refine go_scr rfl hx3 ?_
    refine go_st (cd := cd187) 1 rfl (go_ifTh hz ?_)
    refine go_v (cd := cd187) [] 40 rfl ?_
    refine go_lwB hc rfl rfl rfl rfl h11 rfl (fun h2 hi2 => ?_)
    refine go_st (cd := cd187) 1 rfl (go_ifTh rfl ?_)
    exact K h2 hi2
  · refine go_v (cd := cd187) [] 40 rfl ?_
    refine go_scr rfl hx1 ?_
    refine go_v (cd := cd187) [] 40 rfl ?_
    refine go_scr rfl hx2 ?_
    refine go_v (cd := cd187) [] 40 rfl ?_
    refine go_scr rfl hx3 ?_
    refine go_st (cd := cd187) 1 rfl (go_ifFh hz ?_)
    refine go_v (cd := cd187) [] 40 rfl ?_
    refine go_lwA (lw_int rfl hi (pr_make (d := 37) (Or.inr rfl) hi)) rfl rfl rfl rfl h111 (ls := lsL i) ⟨trivial, Or.inl (Nat.lt_of_lt_of_le (show 77 < 111 by decide) h111), Or.inl (Nat.lt_of_lt_of_le (show 0 < 111 by decide) h111), Or.inr (show 1000 ≤ 1003 by decide), trivial⟩ (fun x h1 h11 hc => ?_)
    refine go_v (cd := cd187) [] 40 rfl ?_
    refine go_scr rfl hx1 ?_
    refine go_v (cd := cd187) [] 40 rfl ?_
    refine go_scr rfl hx2 ?_
    refine go_v (cd := cd187) [] 40 rfl ?_
    refine go_scr rfl hx3 ?_
    refine go_st (cd := cd187) 1 rfl (go_ifFh hz ?_)
    refine go_v (cd := cd187) [] 40 rfl ?_
    refine go_lwB hc rfl rfl rfl rfl h11 rfl (fun h2 hi2 => ?_)
    refine go_st (cd := cd187) 1 rfl (go_ifTh rfl ?_)
    exact K h2 hi2
theorem lw_c2 {i : Int32} {h : aH} (hfv : fv = .null ∨ fv = .ref 3000) (hlines : ∀ (w g : Int32) (h : aH), aIn h → aPair L xs fv 40 51 152 [.int w, .int g] h) (hx1 : vp_in (i + 1) L) (hx2 : vp_in (i + 2) L) (hx3 : vp_in (i + 3) L) (hx4 : vp_in (i + 4) L) (hx5 : vp_in (i + 5) L) (hi : aIn h) (K : ∀ h', aIn h' → aTo L xs fv 0 40 cd187 (1497, lsL i, [], h') P) : aTo L xs fv 0 40 cd187 (284, lsL i, [], h) P := by
  have h111 := (aIn_ge hi).1
  refine go_v (cd := cd187) [] 40 rfl ?_
  refine go_scr rfl hx1 ?_
  refine go_v (cd := cd187) [] 40 rfl ?_
  refine go_scr rfl hx2 ?_
  refine go_lwA (lw_int rfl hi (pr_of (d := 35) hi)) rfl rfl rfl rfl h111 (ls := lsL i) ⟨trivial, Or.inl (Nat.lt_of_lt_of_le (show 77 < 111 by decide) h111), Or.inl (Nat.lt_of_lt_of_le (show 0 < 111 by decide) h111), Or.inr (show 1000 ≤ 1003 by decide), trivial⟩ (fun x h1 h11 hc => ?_)
  refine go_v (cd := cd187) [] 40 rfl ?_
  refine go_scr rfl hx1 ?_
  refine go_v (cd := cd187) [] 40 rfl ?_
  refine go_scr rfl hx2 ?_
  refine go_lwB hc rfl rfl rfl rfl h11 rfl (fun h2 hi2 => ?_)
  refine go_st (cd := cd187) 1 rfl (go_ifTh rfl ?_)
  exact K h2 hi2
theorem lw_c3 {i : Int32} {h : aH} (hfv : fv = .null ∨ fv = .ref 3000) (hlines : ∀ (w g : Int32) (h : aH), aIn h → aPair L xs fv 40 51 152 [.int w, .int g] h) (hx1 : vp_in (i + 1) L) (hx2 : vp_in (i + 2) L) (hx3 : vp_in (i + 3) L) (hx4 : vp_in (i + 4) L) (hx5 : vp_in (i + 5) L) (hi : aIn h) (K : ∀ h', aIn h' → aTo L xs fv 0 40 cd187 (1497, lsL i, [], h') P) : aTo L xs fv 0 40 cd187 (317, lsL i, [], h) P := by
  have h111 := (aIn_ge hi).1
  refine go_v (cd := cd187) [] 40 rfl ?_
  refine go_scr rfl hx1 ?_
  refine go_v (cd := cd187) [] 40 rfl ?_
  refine go_scr rfl hx2 ?_
  refine go_lwA (lw_int rfl hi (pr_set (d := 37) hi)) rfl rfl rfl rfl h111 (ls := lsL i) ⟨trivial, Or.inl (Nat.lt_of_lt_of_le (show 77 < 111 by decide) h111), Or.inl (Nat.lt_of_lt_of_le (show 0 < 111 by decide) h111), Or.inr (show 1000 ≤ 1003 by decide), trivial⟩ (fun x h1 h11 hc => ?_)
  refine go_v (cd := cd187) [] 40 rfl ?_
  refine go_scr rfl hx1 ?_
  refine go_v (cd := cd187) [] 40 rfl ?_
  refine go_scr rfl hx2 ?_
  refine go_lwB hc rfl rfl rfl rfl h11 rfl (fun h2 hi2 => ?_)
  refine go_st (cd := cd187) 1 rfl (go_ifTh rfl ?_)
  exact K h2 hi2
theorem lw_c4 {i : Int32} {h : aH} (hfv : fv = .null ∨ fv = .ref 3000) (hlines : ∀ (w g : Int32) (h : aH), aIn h → aPair L xs fv 40 51 152 [.int w, .int g] h) (hx1 : vp_in (i + 1) L) (hx2 : vp_in (i + 2) L) (hx3 : vp_in (i + 3) L) (hx4 : vp_in (i + 4) L) (hx5 : vp_in (i + 5) L) (hi : aIn h) (K : ∀ h', aIn h' → aTo L xs fv 0 40 cd187 (1497, lsL i, [], h') P) : aTo L xs fv 0 40 cd187 (350, lsL i, [], h) P := by
  have h111 := (aIn_ge hi).1
  refine go_v (cd := cd187) [] 40 rfl ?_
  refine go_scr rfl hx1 ?_
  refine go_lwA (lw_int rfl hi (pr_hoist (d := 35) hi)) rfl rfl rfl rfl h111 (ls := lsL i) ⟨trivial, Or.inl (Nat.lt_of_lt_of_le (show 77 < 111 by decide) h111), Or.inl (Nat.lt_of_lt_of_le (show 0 < 111 by decide) h111), Or.inr (show 1000 ≤ 1003 by decide), trivial⟩ (fun x h1 h11 hc => ?_)
  refine go_v (cd := cd187) [] 40 rfl ?_
  refine go_scr rfl hx1 ?_
  refine go_lwB hc rfl rfl rfl rfl h11 rfl (fun h2 hi2 => ?_)
  refine go_st (cd := cd187) 1 rfl (go_ifTh rfl ?_)
  exact K h2 hi2
theorem lw_c5 {i : Int32} {h : aH} (hfv : fv = .null ∨ fv = .ref 3000) (hlines : ∀ (w g : Int32) (h : aH), aIn h → aPair L xs fv 40 51 152 [.int w, .int g] h) (hx1 : vp_in (i + 1) L) (hx2 : vp_in (i + 2) L) (hx3 : vp_in (i + 3) L) (hx4 : vp_in (i + 4) L) (hx5 : vp_in (i + 5) L) (hi : aIn h) (K : ∀ h', aIn h' → aTo L xs fv 0 40 cd187 (1497, lsL i, [], h') P) : aTo L xs fv 0 40 cd187 (373, lsL i, [], h) P := by
  have h111 := (aIn_ge hi).1
  refine go_v (cd := cd187) [] 40 rfl ?_
  refine go_scr rfl hx1 ?_
  refine go_lwA (lw_int rfl hi (pr_ship (d := 37) hi)) rfl rfl rfl rfl h111 (ls := lsL i) ⟨trivial, Or.inl (Nat.lt_of_lt_of_le (show 77 < 111 by decide) h111), Or.inl (Nat.lt_of_lt_of_le (show 0 < 111 by decide) h111), Or.inr (show 1000 ≤ 1003 by decide), trivial⟩ (fun x h1 h11 hc => ?_)
  refine go_v (cd := cd187) [] 40 rfl ?_
  refine go_scr rfl hx1 ?_
  refine go_lwB hc rfl rfl rfl rfl h11 rfl (fun h2 hi2 => ?_)
  refine go_st (cd := cd187) 1 rfl (go_ifTh rfl ?_)
  exact K h2 hi2
theorem lw_c6 {i : Int32} {h : aH} (hfv : fv = .null ∨ fv = .ref 3000) (hlines : ∀ (w g : Int32) (h : aH), aIn h → aPair L xs fv 40 51 152 [.int w, .int g] h) (hx1 : vp_in (i + 1) L) (hx2 : vp_in (i + 2) L) (hx3 : vp_in (i + 3) L) (hx4 : vp_in (i + 4) L) (hx5 : vp_in (i + 5) L) (hi : aIn h) (K : ∀ h', aIn h' → aTo L xs fv 0 40 cd187 (1497, lsL i, [], h') P) : aTo L xs fv 0 40 cd187 (396, lsL i, [], h) P := by
  have h111 := (aIn_ge hi).1
  refine go_v (cd := cd187) [] 40 rfl ?_
  refine go_scr rfl hx1 ?_
  refine go_v (cd := cd187) [] 40 rfl ?_
  refine go_scr rfl hx2 ?_
  refine go_lwA (lw_int rfl hi (pr_feed (d := 36) hi)) rfl rfl rfl rfl h111 (ls := lsL i) ⟨trivial, Or.inl (Nat.lt_of_lt_of_le (show 77 < 111 by decide) h111), Or.inl (Nat.lt_of_lt_of_le (show 0 < 111 by decide) h111), Or.inr (show 1000 ≤ 1003 by decide), trivial⟩ (fun x h1 h11 hc => ?_)
  refine go_v (cd := cd187) [] 40 rfl ?_
  refine go_scr rfl hx1 ?_
  refine go_v (cd := cd187) [] 40 rfl ?_
  refine go_scr rfl hx2 ?_
  refine go_lwB hc rfl rfl rfl rfl h11 rfl (fun h2 hi2 => ?_)
  refine go_st (cd := cd187) 1 rfl (go_ifTh rfl ?_)
  exact K h2 hi2
theorem lw_c7 {i : Int32} {h : aH} (hfv : fv = .null ∨ fv = .ref 3000) (hlines : ∀ (w g : Int32) (h : aH), aIn h → aPair L xs fv 40 51 152 [.int w, .int g] h) (hx1 : vp_in (i + 1) L) (hx2 : vp_in (i + 2) L) (hx3 : vp_in (i + 3) L) (hx4 : vp_in (i + 4) L) (hx5 : vp_in (i + 5) L) (hi : aIn h) (K : ∀ h', aIn h' → aTo L xs fv 0 40 cd187 (1497, lsL i, [], h') P) : aTo L xs fv 0 40 cd187 (429, lsL i, [], h) P := by
  have h111 := (aIn_ge hi).1
  refine go_v (cd := cd187) [] 40 rfl ?_
  refine go_lwA (lw_int rfl hi (pr_race (d := 24) hfv hi)) rfl rfl rfl rfl h111 (ls := lsL i) ⟨trivial, Or.inl (Nat.lt_of_lt_of_le (show 77 < 111 by decide) h111), Or.inl (Nat.lt_of_lt_of_le (show 0 < 111 by decide) h111), Or.inr (show 1000 ≤ 1003 by decide), trivial⟩ (fun x h1 h11 hc => ?_)
  refine go_v (cd := cd187) [] 40 rfl ?_
  refine go_lwB hc rfl rfl rfl rfl h11 rfl (fun h2 hi2 => ?_)
  refine go_st (cd := cd187) 1 rfl (go_ifTh rfl ?_)
  exact K h2 hi2
theorem lw_c8 {i : Int32} {h : aH} (hfv : fv = .null ∨ fv = .ref 3000) (hlines : ∀ (w g : Int32) (h : aH), aIn h → aPair L xs fv 40 51 152 [.int w, .int g] h) (hx1 : vp_in (i + 1) L) (hx2 : vp_in (i + 2) L) (hx3 : vp_in (i + 3) L) (hx4 : vp_in (i + 4) L) (hx5 : vp_in (i + 5) L) (hi : aIn h) (K : ∀ h', aIn h' → aTo L xs fv 0 40 cd187 (1497, lsL i, [], h') P) : aTo L xs fv 0 40 cd187 (442, lsL i, [], h) P := by
  have h111 := (aIn_ge hi).1
  refine go_v (cd := cd187) [] 40 rfl ?_
  refine go_scr rfl hx1 ?_
  refine go_v (cd := cd187) [] 40 rfl ?_
  refine go_scr rfl hx2 ?_
  refine go_v (cd := cd187) [] 40 rfl ?_
  refine go_scr rfl hx3 ?_
  refine go_v (cd := cd187) [] 40 rfl ?_
  refine go_scr rfl hx4 ?_
  refine go_lwA (lw_int rfl hi (pr_speed (d := 31) hi)) rfl rfl rfl rfl h111 (ls := lsL i) ⟨trivial, Or.inl (Nat.lt_of_lt_of_le (show 77 < 111 by decide) h111), Or.inl (Nat.lt_of_lt_of_le (show 0 < 111 by decide) h111), Or.inr (show 1000 ≤ 1003 by decide), trivial⟩ (fun x h1 h11 hc => ?_)
  refine go_v (cd := cd187) [] 40 rfl ?_
  refine go_scr rfl hx1 ?_
  refine go_v (cd := cd187) [] 40 rfl ?_
  refine go_scr rfl hx2 ?_
  refine go_v (cd := cd187) [] 40 rfl ?_
  refine go_scr rfl hx3 ?_
  refine go_v (cd := cd187) [] 40 rfl ?_
  refine go_scr rfl hx4 ?_
  refine go_lwB hc rfl rfl rfl rfl h11 rfl (fun h2 hi2 => ?_)
  refine go_st (cd := cd187) 1 rfl (go_ifTh rfl ?_)
  exact K h2 hi2
theorem lw_c9 {i : Int32} {h : aH} (hfv : fv = .null ∨ fv = .ref 3000) (hlines : ∀ (w g : Int32) (h : aH), aIn h → aPair L xs fv 40 51 152 [.int w, .int g] h) (hx1 : vp_in (i + 1) L) (hx2 : vp_in (i + 2) L) (hx3 : vp_in (i + 3) L) (hx4 : vp_in (i + 4) L) (hx5 : vp_in (i + 5) L) (hi : aIn h) (K : ∀ h', aIn h' → aTo L xs fv 0 40 cd187 (1497, lsL i, [], h') P) : aTo L xs fv 0 40 cd187 (495, lsL i, [], h) P := by
  have h111 := (aIn_ge hi).1
  refine go_v (cd := cd187) [] 40 rfl ?_
  refine go_scr rfl hx1 ?_
  refine go_v (cd := cd187) [] 40 rfl ?_
  refine go_scr rfl hx2 ?_
  refine go_lwA (lw_int rfl hi (pr_follows (d := 31) hi)) rfl rfl rfl rfl h111 (ls := lsL i) ⟨trivial, Or.inl (Nat.lt_of_lt_of_le (show 77 < 111 by decide) h111), Or.inl (Nat.lt_of_lt_of_le (show 0 < 111 by decide) h111), Or.inr (show 1000 ≤ 1003 by decide), trivial⟩ (fun x h1 h11 hc => ?_)
  refine go_v (cd := cd187) [] 40 rfl ?_
  refine go_scr rfl hx1 ?_
  refine go_v (cd := cd187) [] 40 rfl ?_
  refine go_scr rfl hx2 ?_
  refine go_lwB hc rfl rfl rfl rfl h11 rfl (fun h2 hi2 => ?_)
  refine go_st (cd := cd187) 1 rfl (go_ifTh rfl ?_)
  exact K h2 hi2
theorem lw_c10 {i : Int32} {h : aH} (hfv : fv = .null ∨ fv = .ref 3000) (hlines : ∀ (w g : Int32) (h : aH), aIn h → aPair L xs fv 40 51 152 [.int w, .int g] h) (hx1 : vp_in (i + 1) L) (hx2 : vp_in (i + 2) L) (hx3 : vp_in (i + 3) L) (hx4 : vp_in (i + 4) L) (hx5 : vp_in (i + 5) L) (hi : aIn h) (K : ∀ h', aIn h' → aTo L xs fv 0 40 cd187 (1497, lsL i, [], h') P) : aTo L xs fv 0 40 cd187 (528, lsL i, [], h) P := by
  have h111 := (aIn_ge hi).1
  refine go_v (cd := cd187) [] 40 rfl ?_
  refine go_scr rfl hx1 ?_
  refine go_v (cd := cd187) [] 40 rfl ?_
  refine go_scr rfl hx2 ?_
  refine go_lwA (lw_any rfl hi (pr_rule (d := 36) hi)) rfl rfl rfl rfl h111 (ls := lsL i) ⟨trivial, Or.inl (Nat.lt_of_lt_of_le (show 77 < 111 by decide) h111), Or.inl (Nat.lt_of_lt_of_le (show 0 < 111 by decide) h111), Or.inr (show 1000 ≤ 1003 by decide), trivial⟩ (fun x h1 h11 hc => ?_)
  refine go_v (cd := cd187) [] 40 rfl ?_
  refine go_scr rfl hx1 ?_
  refine go_v (cd := cd187) [] 40 rfl ?_
  refine go_scr rfl hx2 ?_
  refine go_lwB hc rfl rfl rfl rfl h11 rfl (fun h2 hi2 => ?_)
  refine go_st (cd := cd187) 1 rfl (go_ifTh rfl ?_)
  exact K h2 hi2
theorem lw_c11 {i : Int32} {h : aH} (hfv : fv = .null ∨ fv = .ref 3000) (hlines : ∀ (w g : Int32) (h : aH), aIn h → aPair L xs fv 40 51 152 [.int w, .int g] h) (hx1 : vp_in (i + 1) L) (hx2 : vp_in (i + 2) L) (hx3 : vp_in (i + 3) L) (hx4 : vp_in (i + 4) L) (hx5 : vp_in (i + 5) L) (hi : aIn h) (K : ∀ h', aIn h' → aTo L xs fv 0 40 cd187 (1497, lsL i, [], h') P) : aTo L xs fv 0 40 cd187 (561, lsL i, [], h) P := by
  have h111 := (aIn_ge hi).1
  refine go_v (cd := cd187) [] 40 rfl ?_
  refine go_scr rfl hx1 ?_
  refine go_v (cd := cd187) [] 40 rfl ?_
  refine go_scr rfl hx2 ?_
  refine go_v (cd := cd187) [] 40 rfl ?_
  refine go_scr rfl hx3 ?_
  refine go_lwA (lw_int rfl hi (pr_line (d := 36) hi)) rfl rfl rfl rfl h111 (ls := lsL i) ⟨trivial, Or.inl (Nat.lt_of_lt_of_le (show 77 < 111 by decide) h111), Or.inl (Nat.lt_of_lt_of_le (show 0 < 111 by decide) h111), Or.inr (show 1000 ≤ 1003 by decide), trivial⟩ (fun x h1 h11 hc => ?_)
  refine go_v (cd := cd187) [] 40 rfl ?_
  refine go_scr rfl hx1 ?_
  refine go_v (cd := cd187) [] 40 rfl ?_
  refine go_scr rfl hx2 ?_
  refine go_v (cd := cd187) [] 40 rfl ?_
  refine go_scr rfl hx3 ?_
  refine go_lwB hc rfl rfl rfl rfl h11 rfl (fun h2 hi2 => ?_)
  refine go_st (cd := cd187) 1 rfl (go_ifTh rfl ?_)
  exact K h2 hi2
theorem lw_c12 {i : Int32} {h : aH} (hfv : fv = .null ∨ fv = .ref 3000) (hlines : ∀ (w g : Int32) (h : aH), aIn h → aPair L xs fv 40 51 152 [.int w, .int g] h) (hx1 : vp_in (i + 1) L) (hx2 : vp_in (i + 2) L) (hx3 : vp_in (i + 3) L) (hx4 : vp_in (i + 4) L) (hx5 : vp_in (i + 5) L) (hi : aIn h) (K : ∀ h', aIn h' → aTo L xs fv 0 40 cd187 (1497, lsL i, [], h') P) : aTo L xs fv 0 40 cd187 (604, lsL i, [], h) P := by
  have h111 := (aIn_ge hi).1
  refine go_v (cd := cd187) [] 40 rfl ?_
  refine go_scr rfl hx1 ?_
  refine go_v (cd := cd187) [] 40 rfl ?_
  refine go_scr rfl hx2 ?_
  refine go_v (cd := cd187) [] 40 rfl ?_
  refine go_scr rfl hx3 ?_
  refine go_lwA (lw_int rfl hi (pr_told (d := 36) hi)) rfl rfl rfl rfl h111 (ls := lsL i) ⟨trivial, Or.inl (Nat.lt_of_lt_of_le (show 77 < 111 by decide) h111), Or.inl (Nat.lt_of_lt_of_le (show 0 < 111 by decide) h111), Or.inr (show 1000 ≤ 1003 by decide), trivial⟩ (fun x h1 h11 hc => ?_)
  refine go_v (cd := cd187) [] 40 rfl ?_
  refine go_scr rfl hx1 ?_
  refine go_v (cd := cd187) [] 40 rfl ?_
  refine go_scr rfl hx2 ?_
  refine go_v (cd := cd187) [] 40 rfl ?_
  refine go_scr rfl hx3 ?_
  refine go_lwB hc rfl rfl rfl rfl h11 rfl (fun h2 hi2 => ?_)
  refine go_st (cd := cd187) 1 rfl (go_ifTh rfl ?_)
  exact K h2 hi2
theorem lw_c13 {i : Int32} {h : aH} (hfv : fv = .null ∨ fv = .ref 3000) (hlines : ∀ (w g : Int32) (h : aH), aIn h → aPair L xs fv 40 51 152 [.int w, .int g] h) (hx1 : vp_in (i + 1) L) (hx2 : vp_in (i + 2) L) (hx3 : vp_in (i + 3) L) (hx4 : vp_in (i + 4) L) (hx5 : vp_in (i + 5) L) (hi : aIn h) (K : ∀ h', aIn h' → aTo L xs fv 0 40 cd187 (1497, lsL i, [], h') P) : aTo L xs fv 0 40 cd187 (647, lsL i, [], h) P := by
  have h111 := (aIn_ge hi).1
  refine go_v (cd := cd187) [] 40 rfl ?_
  refine go_scr rfl hx1 ?_
  refine go_lwA (lw_int rfl hi (pr_picks (d := 31) hi)) rfl rfl rfl rfl h111 (ls := lsL i) ⟨trivial, Or.inl (Nat.lt_of_lt_of_le (show 77 < 111 by decide) h111), Or.inl (Nat.lt_of_lt_of_le (show 0 < 111 by decide) h111), Or.inr (show 1000 ≤ 1003 by decide), trivial⟩ (fun x h1 h11 hc => ?_)
  refine go_v (cd := cd187) [] 40 rfl ?_
  refine go_scr rfl hx1 ?_
  refine go_lwB hc rfl rfl rfl rfl h11 rfl (fun h2 hi2 => ?_)
  refine go_st (cd := cd187) 1 rfl (go_ifTh rfl ?_)
  exact K h2 hi2
theorem lw_c14 {i : Int32} {h : aH} (hfv : fv = .null ∨ fv = .ref 3000) (hlines : ∀ (w g : Int32) (h : aH), aIn h → aPair L xs fv 40 51 152 [.int w, .int g] h) (hx1 : vp_in (i + 1) L) (hx2 : vp_in (i + 2) L) (hx3 : vp_in (i + 3) L) (hx4 : vp_in (i + 4) L) (hx5 : vp_in (i + 5) L) (hi : aIn h) (K : ∀ h', aIn h' → aTo L xs fv 0 40 cd187 (1497, lsL i, [], h') P) : aTo L xs fv 0 40 cd187 (670, lsL i, [], h) P := by
  have h111 := (aIn_ge hi).1
  by_cases hz : xs (i + 2).toNatClampNeg = 0
  · refine go_v (cd := cd187) [] 40 rfl ?_
    refine go_scr rfl hx1 ?_
    refine go_v (cd := cd187) [] 40 rfl ?_
    refine go_scr rfl hx2 ?_
    refine go_st (cd := cd187) 1 rfl (go_ifTh hz ?_)
    refine go_v (cd := cd187) [] 40 rfl ?_
    refine go_scr rfl hx3 ?_
    refine go_lwA (lw_int rfl hi (pr_go (d := 31) hi)) rfl rfl rfl rfl h111 (ls := lsL i) ⟨trivial, Or.inl (Nat.lt_of_lt_of_le (show 77 < 111 by decide) h111), Or.inl (Nat.lt_of_lt_of_le (show 0 < 111 by decide) h111), Or.inr (show 1000 ≤ 1003 by decide), trivial⟩ (fun x h1 h11 hc => ?_)
    refine go_v (cd := cd187) [] 40 rfl ?_
    refine go_scr rfl hx1 ?_
    refine go_v (cd := cd187) [] 40 rfl ?_
    refine go_scr rfl hx2 ?_
    refine go_st (cd := cd187) 1 rfl (go_ifTh hz ?_)
    refine go_v (cd := cd187) [] 40 rfl ?_
    refine go_scr rfl hx3 ?_
    refine go_lwB hc rfl rfl rfl rfl h11 rfl (fun h2 hi2 => ?_)
    refine go_st (cd := cd187) 1 rfl (go_ifTh rfl ?_)
    exact K h2 hi2
  · refine go_v (cd := cd187) [] 40 rfl ?_
    refine go_scr rfl hx1 ?_
    refine go_v (cd := cd187) [] 40 rfl ?_
    refine go_scr rfl hx2 ?_
    refine go_st (cd := cd187) 1 rfl (go_ifFh hz ?_)
    refine go_v (cd := cd187) [] 40 rfl ?_
    refine go_scr rfl hx3 ?_
    refine go_lwA (lw_int rfl hi (pr_go (d := 31) hi)) rfl rfl rfl rfl h111 (ls := lsL i) ⟨trivial, Or.inl (Nat.lt_of_lt_of_le (show 77 < 111 by decide) h111), Or.inl (Nat.lt_of_lt_of_le (show 0 < 111 by decide) h111), Or.inr (show 1000 ≤ 1003 by decide), trivial⟩ (fun x h1 h11 hc => ?_)
    refine go_v (cd := cd187) [] 40 rfl ?_
    refine go_scr rfl hx1 ?_
    refine go_v (cd := cd187) [] 40 rfl ?_
    refine go_scr rfl hx2 ?_
    refine go_st (cd := cd187) 1 rfl (go_ifFh hz ?_)
    refine go_v (cd := cd187) [] 40 rfl ?_
    refine go_scr rfl hx3 ?_
    refine go_lwB hc rfl rfl rfl rfl h11 rfl (fun h2 hi2 => ?_)
    refine go_st (cd := cd187) 1 rfl (go_ifTh rfl ?_)
    exact K h2 hi2
theorem lw_c15 {i : Int32} {h : aH} (hfv : fv = .null ∨ fv = .ref 3000) (hlines : ∀ (w g : Int32) (h : aH), aIn h → aPair L xs fv 40 51 152 [.int w, .int g] h) (hx1 : vp_in (i + 1) L) (hx2 : vp_in (i + 2) L) (hx3 : vp_in (i + 3) L) (hx4 : vp_in (i + 4) L) (hx5 : vp_in (i + 5) L) (hi : aIn h) (K : ∀ h', aIn h' → aTo L xs fv 0 40 cd187 (1497, lsL i, [], h') P) : aTo L xs fv 0 40 cd187 (729, lsL i, [], h) P := by
  have h111 := (aIn_ge hi).1
  refine go_v (cd := cd187) [] 40 rfl ?_
  refine go_scr rfl hx1 ?_
  refine go_v (cd := cd187) [] 40 rfl ?_
  refine go_scr rfl hx2 ?_
  refine go_v (cd := cd187) [] 40 rfl ?_
  refine go_scr rfl hx3 ?_
  refine go_lwAl (lw_long rfl hi (pr_mean (d := 31) hi)) rfl rfl rfl rfl h111 (ls := lsL i) ⟨trivial, Or.inl (Nat.lt_of_lt_of_le (show 77 < 111 by decide) h111), Or.inl (Nat.lt_of_lt_of_le (show 0 < 111 by decide) h111), Or.inr (show 1000 ≤ 1003 by decide), trivial⟩ (fun x h1 h11 hc => ?_)
  refine go_v (cd := cd187) [] 40 rfl ?_
  refine go_scr rfl hx1 ?_
  refine go_v (cd := cd187) [] 40 rfl ?_
  refine go_scr rfl hx2 ?_
  refine go_v (cd := cd187) [] 40 rfl ?_
  refine go_scr rfl hx3 ?_
  refine go_lwB hc rfl rfl rfl rfl h11 rfl (fun h2 hi2 => ?_)
  refine go_v (cd := cd187) [] 40 rfl ?_
  refine go_st (cd := cd187) 1 rfl (go_ifTh (lg_same x) ?_)
  exact K h2 hi2
theorem lw_c16 {i : Int32} {h : aH} (hfv : fv = .null ∨ fv = .ref 3000) (hlines : ∀ (w g : Int32) (h : aH), aIn h → aPair L xs fv 40 51 152 [.int w, .int g] h) (hx1 : vp_in (i + 1) L) (hx2 : vp_in (i + 2) L) (hx3 : vp_in (i + 3) L) (hx4 : vp_in (i + 4) L) (hx5 : vp_in (i + 5) L) (hi : aIn h) (K : ∀ h', aIn h' → aTo L xs fv 0 40 cd187 (1497, lsL i, [], h') P) : aTo L xs fv 0 40 cd187 (773, lsL i, [], h) P := by
  have h111 := (aIn_ge hi).1
  refine go_v (cd := cd187) [] 40 rfl ?_
  refine go_scr rfl hx1 ?_
  refine go_v (cd := cd187) [] 40 rfl ?_
  refine go_scr rfl hx2 ?_
  refine go_v (cd := cd187) [] 40 rfl ?_
  refine go_scr rfl hx3 ?_
  refine go_v (cd := cd187) [] 40 rfl ?_
  refine go_scr rfl hx4 ?_
  refine go_lwAl (lw_long rfl hi (pr_sure (d := 31) hi)) rfl rfl rfl rfl h111 (ls := lsL i) ⟨trivial, Or.inl (Nat.lt_of_lt_of_le (show 77 < 111 by decide) h111), Or.inl (Nat.lt_of_lt_of_le (show 0 < 111 by decide) h111), Or.inr (show 1000 ≤ 1003 by decide), trivial⟩ (fun x h1 h11 hc => ?_)
  refine go_v (cd := cd187) [] 40 rfl ?_
  refine go_scr rfl hx1 ?_
  refine go_v (cd := cd187) [] 40 rfl ?_
  refine go_scr rfl hx2 ?_
  refine go_v (cd := cd187) [] 40 rfl ?_
  refine go_scr rfl hx3 ?_
  refine go_v (cd := cd187) [] 40 rfl ?_
  refine go_scr rfl hx4 ?_
  refine go_lwB hc rfl rfl rfl rfl h11 rfl (fun h2 hi2 => ?_)
  refine go_v (cd := cd187) [] 40 rfl ?_
  refine go_st (cd := cd187) 1 rfl (go_ifTh (lg_same x) ?_)
  exact K h2 hi2
theorem lw_c17 {i : Int32} {h : aH} (hfv : fv = .null ∨ fv = .ref 3000) (hlines : ∀ (w g : Int32) (h : aH), aIn h → aPair L xs fv 40 51 152 [.int w, .int g] h) (hx1 : vp_in (i + 1) L) (hx2 : vp_in (i + 2) L) (hx3 : vp_in (i + 3) L) (hx4 : vp_in (i + 4) L) (hx5 : vp_in (i + 5) L) (hi : aIn h) (K : ∀ h', aIn h' → aTo L xs fv 0 40 cd187 (1497, lsL i, [], h') P) : aTo L xs fv 0 40 cd187 (827, lsL i, [], h) P := by
  have h111 := (aIn_ge hi).1
  refine go_v (cd := cd187) [] 40 rfl ?_
  refine go_scr rfl hx1 ?_
  refine go_lwA (lw_int rfl hi (pr_edge (d := 31) hi)) rfl rfl rfl rfl h111 (ls := lsL i) ⟨trivial, Or.inl (Nat.lt_of_lt_of_le (show 77 < 111 by decide) h111), Or.inl (Nat.lt_of_lt_of_le (show 0 < 111 by decide) h111), Or.inr (show 1000 ≤ 1003 by decide), trivial⟩ (fun x h1 h11 hc => ?_)
  refine go_v (cd := cd187) [] 40 rfl ?_
  refine go_scr rfl hx1 ?_
  refine go_lwB hc rfl rfl rfl rfl h11 rfl (fun h2 hi2 => ?_)
  refine go_st (cd := cd187) 1 rfl (go_ifTh rfl ?_)
  exact K h2 hi2
theorem lw_c18 {i : Int32} {h : aH} (hfv : fv = .null ∨ fv = .ref 3000) (hlines : ∀ (w g : Int32) (h : aH), aIn h → aPair L xs fv 40 51 152 [.int w, .int g] h) (hx1 : vp_in (i + 1) L) (hx2 : vp_in (i + 2) L) (hx3 : vp_in (i + 3) L) (hx4 : vp_in (i + 4) L) (hx5 : vp_in (i + 5) L) (hi : aIn h) (K : ∀ h', aIn h' → aTo L xs fv 0 40 cd187 (1497, lsL i, [], h') P) : aTo L xs fv 0 40 cd187 (850, lsL i, [], h) P := by
  have h111 := (aIn_ge hi).1
  refine go_v (cd := cd187) [] 40 rfl ?_
  refine go_scr rfl hx1 ?_
  refine go_v (cd := cd187) [] 40 rfl ?_
  refine go_scr rfl hx2 ?_
  refine go_v (cd := cd187) [] 40 rfl ?_
  refine go_scr rfl hx3 ?_
  refine go_lwA (lw_int rfl hi (pr_few (d := 31) hi)) rfl rfl rfl rfl h111 (ls := lsL i) ⟨trivial, Or.inl (Nat.lt_of_lt_of_le (show 77 < 111 by decide) h111), Or.inl (Nat.lt_of_lt_of_le (show 0 < 111 by decide) h111), Or.inr (show 1000 ≤ 1003 by decide), trivial⟩ (fun x h1 h11 hc => ?_)
  refine go_v (cd := cd187) [] 40 rfl ?_
  refine go_scr rfl hx1 ?_
  refine go_v (cd := cd187) [] 40 rfl ?_
  refine go_scr rfl hx2 ?_
  refine go_v (cd := cd187) [] 40 rfl ?_
  refine go_scr rfl hx3 ?_
  refine go_lwB hc rfl rfl rfl rfl h11 rfl (fun h2 hi2 => ?_)
  refine go_st (cd := cd187) 1 rfl (go_ifTh rfl ?_)
  exact K h2 hi2
theorem lw_c19 {i : Int32} {h : aH} (hfv : fv = .null ∨ fv = .ref 3000) (hlines : ∀ (w g : Int32) (h : aH), aIn h → aPair L xs fv 40 51 152 [.int w, .int g] h) (hx1 : vp_in (i + 1) L) (hx2 : vp_in (i + 2) L) (hx3 : vp_in (i + 3) L) (hx4 : vp_in (i + 4) L) (hx5 : vp_in (i + 5) L) (hi : aIn h) (K : ∀ h', aIn h' → aTo L xs fv 0 40 cd187 (1497, lsL i, [], h') P) : aTo L xs fv 0 40 cd187 (893, lsL i, [], h) P := by
  have h111 := (aIn_ge hi).1
  refine go_v (cd := cd187) [] 40 rfl ?_
  refine go_scr rfl hx1 ?_
  refine go_v (cd := cd187) [] 40 rfl ?_
  refine go_scr rfl hx2 ?_
  refine go_v (cd := cd187) [] 40 rfl ?_
  refine go_scr rfl hx3 ?_
  refine go_v (cd := cd187) [] 40 rfl ?_
  refine go_scr rfl hx4 ?_
  refine go_lwAl (lw_long rfl hi (pr_torn (d := 31) hi)) rfl rfl rfl rfl h111 (ls := lsL i) ⟨trivial, Or.inl (Nat.lt_of_lt_of_le (show 77 < 111 by decide) h111), Or.inl (Nat.lt_of_lt_of_le (show 0 < 111 by decide) h111), Or.inr (show 1000 ≤ 1003 by decide), trivial⟩ (fun x h1 h11 hc => ?_)
  refine go_v (cd := cd187) [] 40 rfl ?_
  refine go_scr rfl hx1 ?_
  refine go_v (cd := cd187) [] 40 rfl ?_
  refine go_scr rfl hx2 ?_
  refine go_v (cd := cd187) [] 40 rfl ?_
  refine go_scr rfl hx3 ?_
  refine go_v (cd := cd187) [] 40 rfl ?_
  refine go_scr rfl hx4 ?_
  refine go_lwB hc rfl rfl rfl rfl h11 rfl (fun h2 hi2 => ?_)
  refine go_v (cd := cd187) [] 40 rfl ?_
  refine go_st (cd := cd187) 1 rfl (go_ifTh (lg_same x) ?_)
  exact K h2 hi2
theorem lw_c20 {i : Int32} {h : aH} (hfv : fv = .null ∨ fv = .ref 3000) (hlines : ∀ (w g : Int32) (h : aH), aIn h → aPair L xs fv 40 51 152 [.int w, .int g] h) (hx1 : vp_in (i + 1) L) (hx2 : vp_in (i + 2) L) (hx3 : vp_in (i + 3) L) (hx4 : vp_in (i + 4) L) (hx5 : vp_in (i + 5) L) (hi : aIn h) (K : ∀ h', aIn h' → aTo L xs fv 0 40 cd187 (1497, lsL i, [], h') P) : aTo L xs fv 0 40 cd187 (947, lsL i, [], h) P := by
  have h111 := (aIn_ge hi).1
  refine go_v (cd := cd187) [] 40 rfl ?_
  refine go_scr rfl hx1 ?_
  refine go_v (cd := cd187) [] 40 rfl ?_
  refine go_scr rfl hx2 ?_
  refine go_v (cd := cd187) [] 40 rfl ?_
  refine go_scr rfl hx3 ?_
  refine go_lwAl (lw_long rfl hi (pr_sleep (d := 31) hi)) rfl rfl rfl rfl h111 (ls := lsL i) ⟨trivial, Or.inl (Nat.lt_of_lt_of_le (show 77 < 111 by decide) h111), Or.inl (Nat.lt_of_lt_of_le (show 0 < 111 by decide) h111), Or.inr (show 1000 ≤ 1003 by decide), trivial⟩ (fun x h1 h11 hc => ?_)
  refine go_v (cd := cd187) [] 40 rfl ?_
  refine go_scr rfl hx1 ?_
  refine go_v (cd := cd187) [] 40 rfl ?_
  refine go_scr rfl hx2 ?_
  refine go_v (cd := cd187) [] 40 rfl ?_
  refine go_scr rfl hx3 ?_
  refine go_lwB hc rfl rfl rfl rfl h11 rfl (fun h2 hi2 => ?_)
  refine go_v (cd := cd187) [] 40 rfl ?_
  refine go_st (cd := cd187) 1 rfl (go_ifTh (lg_same x) ?_)
  exact K h2 hi2
theorem lw_c21 {i : Int32} {h : aH} (hfv : fv = .null ∨ fv = .ref 3000) (hlines : ∀ (w g : Int32) (h : aH), aIn h → aPair L xs fv 40 51 152 [.int w, .int g] h) (hx1 : vp_in (i + 1) L) (hx2 : vp_in (i + 2) L) (hx3 : vp_in (i + 3) L) (hx4 : vp_in (i + 4) L) (hx5 : vp_in (i + 5) L) (hi : aIn h) (K : ∀ h', aIn h' → aTo L xs fv 0 40 cd187 (1497, lsL i, [], h') P) : aTo L xs fv 0 40 cd187 (991, lsL i, [], h) P := by
  have h111 := (aIn_ge hi).1
  refine go_v (cd := cd187) [] 40 rfl ?_
  refine go_scr rfl hx1 ?_
  refine go_v (cd := cd187) [] 40 rfl ?_
  refine go_scr rfl hx2 ?_
  refine go_lwA (lw_int rfl hi (hlines _ _ _ hi)) rfl rfl rfl rfl h111 (ls := lsL i) ⟨trivial, Or.inl (Nat.lt_of_lt_of_le (show 77 < 111 by decide) h111), Or.inl (Nat.lt_of_lt_of_le (show 0 < 111 by decide) h111), Or.inr (show 1000 ≤ 1003 by decide), trivial⟩ (fun x h1 h11 hc => ?_)
  refine go_v (cd := cd187) [] 40 rfl ?_
  refine go_scr rfl hx1 ?_
  refine go_v (cd := cd187) [] 40 rfl ?_
  refine go_scr rfl hx2 ?_
  refine go_lwB hc rfl rfl rfl rfl h11 rfl (fun h2 hi2 => ?_)
  refine go_st (cd := cd187) 1 rfl (go_ifTh rfl ?_)
  exact K h2 hi2
theorem lw_c22 {i : Int32} {h : aH} (hfv : fv = .null ∨ fv = .ref 3000) (hlines : ∀ (w g : Int32) (h : aH), aIn h → aPair L xs fv 40 51 152 [.int w, .int g] h) (hx1 : vp_in (i + 1) L) (hx2 : vp_in (i + 2) L) (hx3 : vp_in (i + 3) L) (hx4 : vp_in (i + 4) L) (hx5 : vp_in (i + 5) L) (hi : aIn h) (K : ∀ h', aIn h' → aTo L xs fv 0 40 cd187 (1497, lsL i, [], h') P) : aTo L xs fv 0 40 cd187 (1024, lsL i, [], h) P := by
  have h111 := (aIn_ge hi).1
  refine go_v (cd := cd187) [] 40 rfl ?_
  refine go_scr rfl hx1 ?_
  refine go_lwA (lw_int rfl hi (pr_squall (d := 37) hi)) rfl rfl rfl rfl h111 (ls := lsL i) ⟨trivial, Or.inl (Nat.lt_of_lt_of_le (show 77 < 111 by decide) h111), Or.inl (Nat.lt_of_lt_of_le (show 0 < 111 by decide) h111), Or.inr (show 1000 ≤ 1003 by decide), trivial⟩ (fun x h1 h11 hc => ?_)
  refine go_v (cd := cd187) [] 40 rfl ?_
  refine go_scr rfl hx1 ?_
  refine go_lwB hc rfl rfl rfl rfl h11 rfl (fun h2 hi2 => ?_)
  refine go_st (cd := cd187) 1 rfl (go_ifTh rfl ?_)
  exact K h2 hi2
theorem lw_c23 {i : Int32} {h : aH} (hfv : fv = .null ∨ fv = .ref 3000) (hlines : ∀ (w g : Int32) (h : aH), aIn h → aPair L xs fv 40 51 152 [.int w, .int g] h) (hx1 : vp_in (i + 1) L) (hx2 : vp_in (i + 2) L) (hx3 : vp_in (i + 3) L) (hx4 : vp_in (i + 4) L) (hx5 : vp_in (i + 5) L) (hi : aIn h) (K : ∀ h', aIn h' → aTo L xs fv 0 40 cd187 (1497, lsL i, [], h') P) : aTo L xs fv 0 40 cd187 (1047, lsL i, [], h) P := by
  have h111 := (aIn_ge hi).1
  refine go_v (cd := cd187) [] 40 rfl ?_
  refine go_scr rfl hx1 ?_
  refine go_lwA (lw_int rfl hi (pr_made (d := 31) hi)) rfl rfl rfl rfl h111 (ls := lsL i) ⟨trivial, Or.inl (Nat.lt_of_lt_of_le (show 77 < 111 by decide) h111), Or.inl (Nat.lt_of_lt_of_le (show 0 < 111 by decide) h111), Or.inr (show 1000 ≤ 1003 by decide), trivial⟩ (fun x h1 h11 hc => ?_)
  refine go_v (cd := cd187) [] 40 rfl ?_
  refine go_scr rfl hx1 ?_
  refine go_lwB hc rfl rfl rfl rfl h11 rfl (fun h2 hi2 => ?_)
  refine go_st (cd := cd187) 1 rfl (go_ifTh rfl ?_)
  exact K h2 hi2
theorem lw_c24 {i : Int32} {h : aH} (hfv : fv = .null ∨ fv = .ref 3000) (hlines : ∀ (w g : Int32) (h : aH), aIn h → aPair L xs fv 40 51 152 [.int w, .int g] h) (hx1 : vp_in (i + 1) L) (hx2 : vp_in (i + 2) L) (hx3 : vp_in (i + 3) L) (hx4 : vp_in (i + 4) L) (hx5 : vp_in (i + 5) L) (hi : aIn h) (K : ∀ h', aIn h' → aTo L xs fv 0 40 cd187 (1497, lsL i, [], h') P) : aTo L xs fv 0 40 cd187 (1070, lsL i, [], h) P := by
  have h111 := (aIn_ge hi).1
  refine go_v (cd := cd187) [] 40 rfl ?_
  refine go_scr rfl hx1 ?_
  refine go_v (cd := cd187) [] 40 rfl ?_
  refine go_scr rfl hx2 ?_
  refine go_lwA (lw_int rfl hi (pr_worst (d := 31) hi)) rfl rfl rfl rfl h111 (ls := lsL i) ⟨trivial, Or.inl (Nat.lt_of_lt_of_le (show 77 < 111 by decide) h111), Or.inl (Nat.lt_of_lt_of_le (show 0 < 111 by decide) h111), Or.inr (show 1000 ≤ 1003 by decide), trivial⟩ (fun x h1 h11 hc => ?_)
  refine go_v (cd := cd187) [] 40 rfl ?_
  refine go_scr rfl hx1 ?_
  refine go_v (cd := cd187) [] 40 rfl ?_
  refine go_scr rfl hx2 ?_
  refine go_lwB hc rfl rfl rfl rfl h11 rfl (fun h2 hi2 => ?_)
  refine go_st (cd := cd187) 1 rfl (go_ifTh rfl ?_)
  exact K h2 hi2
theorem lw_c25 {i : Int32} {h : aH} (hfv : fv = .null ∨ fv = .ref 3000) (hlines : ∀ (w g : Int32) (h : aH), aIn h → aPair L xs fv 40 51 152 [.int w, .int g] h) (hx1 : vp_in (i + 1) L) (hx2 : vp_in (i + 2) L) (hx3 : vp_in (i + 3) L) (hx4 : vp_in (i + 4) L) (hx5 : vp_in (i + 5) L) (hi : aIn h) (K : ∀ h', aIn h' → aTo L xs fv 0 40 cd187 (1497, lsL i, [], h') P) : aTo L xs fv 0 40 cd187 (1103, lsL i, [], h) P := by
  have h111 := (aIn_ge hi).1
  refine go_v (cd := cd187) [] 40 rfl ?_
  refine go_scr rfl hx1 ?_
  refine go_v (cd := cd187) [] 40 rfl ?_
  refine go_scr rfl hx2 ?_
  refine go_lwA (lw_int rfl hi (pr_judge (d := 35) hi)) rfl rfl rfl rfl h111 (ls := lsL i) ⟨trivial, Or.inl (Nat.lt_of_lt_of_le (show 77 < 111 by decide) h111), Or.inl (Nat.lt_of_lt_of_le (show 0 < 111 by decide) h111), Or.inr (show 1000 ≤ 1003 by decide), trivial⟩ (fun x h1 h11 hc => ?_)
  refine go_v (cd := cd187) [] 40 rfl ?_
  refine go_scr rfl hx1 ?_
  refine go_v (cd := cd187) [] 40 rfl ?_
  refine go_scr rfl hx2 ?_
  refine go_lwB hc rfl rfl rfl rfl h11 rfl (fun h2 hi2 => ?_)
  refine go_st (cd := cd187) 1 rfl (go_ifTh rfl ?_)
  exact K h2 hi2
theorem lw_c26 {i : Int32} {h : aH} (hfv : fv = .null ∨ fv = .ref 3000) (hlines : ∀ (w g : Int32) (h : aH), aIn h → aPair L xs fv 40 51 152 [.int w, .int g] h) (hx1 : vp_in (i + 1) L) (hx2 : vp_in (i + 2) L) (hx3 : vp_in (i + 3) L) (hx4 : vp_in (i + 4) L) (hx5 : vp_in (i + 5) L) (hi : aIn h) (K : ∀ h', aIn h' → aTo L xs fv 0 40 cd187 (1497, lsL i, [], h') P) : aTo L xs fv 0 40 cd187 (1136, lsL i, [], h) P := by
  have h111 := (aIn_ge hi).1
  refine go_v (cd := cd187) [] 40 rfl ?_
  refine go_lwA (lw_int rfl hi (pr_image (d := 36) hi)) rfl rfl rfl rfl h111 (ls := lsL i) ⟨trivial, Or.inl (Nat.lt_of_lt_of_le (show 77 < 111 by decide) h111), Or.inl (Nat.lt_of_lt_of_le (show 0 < 111 by decide) h111), Or.inr (show 1000 ≤ 1003 by decide), trivial⟩ (fun x h1 h11 hc => ?_)
  refine go_v (cd := cd187) [] 40 rfl ?_
  refine go_lwB hc rfl rfl rfl rfl h11 rfl (fun h2 hi2 => ?_)
  refine go_st (cd := cd187) 1 rfl (go_ifTh rfl ?_)
  exact K h2 hi2
theorem lw_c27 {i : Int32} {h : aH} (hfv : fv = .null ∨ fv = .ref 3000) (hlines : ∀ (w g : Int32) (h : aH), aIn h → aPair L xs fv 40 51 152 [.int w, .int g] h) (hx1 : vp_in (i + 1) L) (hx2 : vp_in (i + 2) L) (hx3 : vp_in (i + 3) L) (hx4 : vp_in (i + 4) L) (hx5 : vp_in (i + 5) L) (hi : aIn h) (K : ∀ h', aIn h' → aTo L xs fv 0 40 cd187 (1497, lsL i, [], h') P) : aTo L xs fv 0 40 cd187 (1149, lsL i, [], h) P := by
  have h111 := (aIn_ge hi).1
  refine go_v (cd := cd187) [] 40 rfl ?_
  refine go_lwA (lw_int rfl hi (pr_undo (d := 36) hi)) rfl rfl rfl rfl h111 (ls := lsL i) ⟨trivial, Or.inl (Nat.lt_of_lt_of_le (show 77 < 111 by decide) h111), Or.inl (Nat.lt_of_lt_of_le (show 0 < 111 by decide) h111), Or.inr (show 1000 ≤ 1003 by decide), trivial⟩ (fun x h1 h11 hc => ?_)
  refine go_v (cd := cd187) [] 40 rfl ?_
  refine go_lwB hc rfl rfl rfl rfl h11 rfl (fun h2 hi2 => ?_)
  refine go_st (cd := cd187) 1 rfl (go_ifTh rfl ?_)
  exact K h2 hi2
theorem lw_c28 {i : Int32} {h : aH} (hfv : fv = .null ∨ fv = .ref 3000) (hlines : ∀ (w g : Int32) (h : aH), aIn h → aPair L xs fv 40 51 152 [.int w, .int g] h) (hx1 : vp_in (i + 1) L) (hx2 : vp_in (i + 2) L) (hx3 : vp_in (i + 3) L) (hx4 : vp_in (i + 4) L) (hx5 : vp_in (i + 5) L) (hi : aIn h) (K : ∀ h', aIn h' → aTo L xs fv 0 40 cd187 (1497, lsL i, [], h') P) : aTo L xs fv 0 40 cd187 (1162, lsL i, [], h) P := by
  have h111 := (aIn_ge hi).1
  refine go_v (cd := cd187) [] 40 rfl ?_
  refine go_scr rfl hx1 ?_
  refine go_v (cd := cd187) [] 40 rfl ?_
  refine go_scr rfl hx2 ?_
  refine go_v (cd := cd187) [] 40 rfl ?_
  refine go_scr rfl hx3 ?_
  refine go_lwA (lw_int rfl hi (pr_act (d := 31) hi)) rfl rfl rfl rfl h111 (ls := lsL i) ⟨trivial, Or.inl (Nat.lt_of_lt_of_le (show 77 < 111 by decide) h111), Or.inl (Nat.lt_of_lt_of_le (show 0 < 111 by decide) h111), Or.inr (show 1000 ≤ 1003 by decide), trivial⟩ (fun x h1 h11 hc => ?_)
  refine go_v (cd := cd187) [] 40 rfl ?_
  refine go_scr rfl hx1 ?_
  refine go_v (cd := cd187) [] 40 rfl ?_
  refine go_scr rfl hx2 ?_
  refine go_v (cd := cd187) [] 40 rfl ?_
  refine go_scr rfl hx3 ?_
  refine go_lwB hc rfl rfl rfl rfl h11 rfl (fun h2 hi2 => ?_)
  refine go_st (cd := cd187) 1 rfl (go_ifTh rfl ?_)
  exact K h2 hi2
theorem lw_c29 {i : Int32} {h : aH} (hfv : fv = .null ∨ fv = .ref 3000) (hlines : ∀ (w g : Int32) (h : aH), aIn h → aPair L xs fv 40 51 152 [.int w, .int g] h) (hx1 : vp_in (i + 1) L) (hx2 : vp_in (i + 2) L) (hx3 : vp_in (i + 3) L) (hx4 : vp_in (i + 4) L) (hx5 : vp_in (i + 5) L) (hi : aIn h) (K : ∀ h', aIn h' → aTo L xs fv 0 40 cd187 (1497, lsL i, [], h') P) : aTo L xs fv 0 40 cd187 (1205, lsL i, [], h) P := by
  have h111 := (aIn_ge hi).1
  refine go_v (cd := cd187) [] 40 rfl ?_
  refine go_scr rfl hx1 ?_
  refine go_lwA (lw_int rfl hi (pr_trace (d := 37) hi)) rfl rfl rfl rfl h111 (ls := lsL i) ⟨trivial, Or.inl (Nat.lt_of_lt_of_le (show 77 < 111 by decide) h111), Or.inl (Nat.lt_of_lt_of_le (show 0 < 111 by decide) h111), Or.inr (show 1000 ≤ 1003 by decide), trivial⟩ (fun x h1 h11 hc => ?_)
  refine go_v (cd := cd187) [] 40 rfl ?_
  refine go_scr rfl hx1 ?_
  refine go_lwB hc rfl rfl rfl rfl h11 rfl (fun h2 hi2 => ?_)
  refine go_st (cd := cd187) 1 rfl (go_ifTh rfl ?_)
  exact K h2 hi2
theorem lw_c30 {i : Int32} {h : aH} (hfv : fv = .null ∨ fv = .ref 3000) (hlines : ∀ (w g : Int32) (h : aH), aIn h → aPair L xs fv 40 51 152 [.int w, .int g] h) (hx1 : vp_in (i + 1) L) (hx2 : vp_in (i + 2) L) (hx3 : vp_in (i + 3) L) (hx4 : vp_in (i + 4) L) (hx5 : vp_in (i + 5) L) (hi : aIn h) (K : ∀ h', aIn h' → aTo L xs fv 0 40 cd187 (1497, lsL i, [], h') P) : aTo L xs fv 0 40 cd187 (1228, lsL i, [], h) P := by
  have h111 := (aIn_ge hi).1
  refine go_v (cd := cd187) [] 40 rfl ?_
  refine go_scr rfl hx1 ?_
  refine go_v (cd := cd187) [] 40 rfl ?_
  refine go_scr rfl hx2 ?_
  refine go_lwA (lw_int rfl hi (pr_taken (d := 36) hi)) rfl rfl rfl rfl h111 (ls := lsL i) ⟨trivial, Or.inl (Nat.lt_of_lt_of_le (show 77 < 111 by decide) h111), Or.inl (Nat.lt_of_lt_of_le (show 0 < 111 by decide) h111), Or.inr (show 1000 ≤ 1003 by decide), trivial⟩ (fun x h1 h11 hc => ?_)
  refine go_v (cd := cd187) [] 40 rfl ?_
  refine go_scr rfl hx1 ?_
  refine go_v (cd := cd187) [] 40 rfl ?_
  refine go_scr rfl hx2 ?_
  refine go_lwB hc rfl rfl rfl rfl h11 rfl (fun h2 hi2 => ?_)
  refine go_st (cd := cd187) 1 rfl (go_ifTh rfl ?_)
  exact K h2 hi2
theorem lw_c31 {i : Int32} {h : aH} (hfv : fv = .null ∨ fv = .ref 3000) (hlines : ∀ (w g : Int32) (h : aH), aIn h → aPair L xs fv 40 51 152 [.int w, .int g] h) (hx1 : vp_in (i + 1) L) (hx2 : vp_in (i + 2) L) (hx3 : vp_in (i + 3) L) (hx4 : vp_in (i + 4) L) (hx5 : vp_in (i + 5) L) (hi : aIn h) (K : ∀ h', aIn h' → aTo L xs fv 0 40 cd187 (1497, lsL i, [], h') P) : aTo L xs fv 0 40 cd187 (1261, lsL i, [], h) P := by
  have h111 := (aIn_ge hi).1
  refine go_v (cd := cd187) [] 40 rfl ?_
  refine go_scr rfl hx1 ?_
  refine go_lwA (lw_int rfl hi (pr_count (d := 37) hi)) rfl rfl rfl rfl h111 (ls := lsL i) ⟨trivial, Or.inl (Nat.lt_of_lt_of_le (show 77 < 111 by decide) h111), Or.inl (Nat.lt_of_lt_of_le (show 0 < 111 by decide) h111), Or.inr (show 1000 ≤ 1003 by decide), trivial⟩ (fun x h1 h11 hc => ?_)
  refine go_v (cd := cd187) [] 40 rfl ?_
  refine go_scr rfl hx1 ?_
  refine go_lwB hc rfl rfl rfl rfl h11 rfl (fun h2 hi2 => ?_)
  refine go_st (cd := cd187) 1 rfl (go_ifTh rfl ?_)
  exact K h2 hi2
theorem lw_c32 {i : Int32} {h : aH} (hfv : fv = .null ∨ fv = .ref 3000) (hlines : ∀ (w g : Int32) (h : aH), aIn h → aPair L xs fv 40 51 152 [.int w, .int g] h) (hx1 : vp_in (i + 1) L) (hx2 : vp_in (i + 2) L) (hx3 : vp_in (i + 3) L) (hx4 : vp_in (i + 4) L) (hx5 : vp_in (i + 5) L) (hi : aIn h) (K : ∀ h', aIn h' → aTo L xs fv 0 40 cd187 (1497, lsL i, [], h') P) : aTo L xs fv 0 40 cd187 (1284, lsL i, [], h) P := by
  have h111 := (aIn_ge hi).1
  refine go_v (cd := cd187) [] 40 rfl ?_
  refine go_scr rfl hx1 ?_
  refine go_v (cd := cd187) [] 40 rfl ?_
  refine go_scr rfl hx2 ?_
  refine go_v (cd := cd187) [] 40 rfl ?_
  refine go_scr rfl hx3 ?_
  refine go_lwA (lw_int rfl hi (pr_tape (d := 36) hi)) rfl rfl rfl rfl h111 (ls := lsL i) ⟨trivial, Or.inl (Nat.lt_of_lt_of_le (show 77 < 111 by decide) h111), Or.inl (Nat.lt_of_lt_of_le (show 0 < 111 by decide) h111), Or.inr (show 1000 ≤ 1003 by decide), trivial⟩ (fun x h1 h11 hc => ?_)
  refine go_v (cd := cd187) [] 40 rfl ?_
  refine go_scr rfl hx1 ?_
  refine go_v (cd := cd187) [] 40 rfl ?_
  refine go_scr rfl hx2 ?_
  refine go_v (cd := cd187) [] 40 rfl ?_
  refine go_scr rfl hx3 ?_
  refine go_lwB hc rfl rfl rfl rfl h11 rfl (fun h2 hi2 => ?_)
  refine go_st (cd := cd187) 1 rfl (go_ifTh rfl ?_)
  exact K h2 hi2
theorem lw_c33 {i : Int32} {h : aH} (hfv : fv = .null ∨ fv = .ref 3000) (hlines : ∀ (w g : Int32) (h : aH), aIn h → aPair L xs fv 40 51 152 [.int w, .int g] h) (hx1 : vp_in (i + 1) L) (hx2 : vp_in (i + 2) L) (hx3 : vp_in (i + 3) L) (hx4 : vp_in (i + 4) L) (hx5 : vp_in (i + 5) L) (hi : aIn h) (K : ∀ h', aIn h' → aTo L xs fv 0 40 cd187 (1497, lsL i, [], h') P) : aTo L xs fv 0 40 cd187 (1327, lsL i, [], h) P := by
  have h111 := (aIn_ge hi).1
  refine go_v (cd := cd187) [] 40 rfl ?_
  refine go_scr rfl hx1 ?_
  refine go_v (cd := cd187) [] 40 rfl ?_
  refine go_scr rfl hx2 ?_
  refine go_v (cd := cd187) [] 40 rfl ?_
  refine go_scr rfl hx3 ?_
  refine go_v (cd := cd187) [] 40 rfl ?_
  refine go_scr rfl hx4 ?_
  refine go_v (cd := cd187) [] 40 rfl ?_
  refine go_lwA (lw_int rfl hi (pr_item (d := 36) hi)) rfl rfl rfl rfl h111 (ls := lsL i) ⟨trivial, Or.inl (Nat.lt_of_lt_of_le (show 77 < 111 by decide) h111), Or.inl (Nat.lt_of_lt_of_le (show 0 < 111 by decide) h111), Or.inr (show 1000 ≤ 1003 by decide), trivial⟩ (fun x h1 h11 hc => ?_)
  refine go_v (cd := cd187) [] 40 rfl ?_
  refine go_scr rfl hx1 ?_
  refine go_v (cd := cd187) [] 40 rfl ?_
  refine go_scr rfl hx2 ?_
  refine go_v (cd := cd187) [] 40 rfl ?_
  refine go_scr rfl hx3 ?_
  refine go_v (cd := cd187) [] 40 rfl ?_
  refine go_scr rfl hx4 ?_
  refine go_v (cd := cd187) [] 40 rfl ?_
  refine go_lwB hc rfl rfl rfl rfl h11 rfl (fun h2 hi2 => ?_)
  refine go_st (cd := cd187) 1 rfl (go_ifTh rfl ?_)
  exact K h2 hi2
theorem lw_c34 {i : Int32} {h : aH} (hfv : fv = .null ∨ fv = .ref 3000) (hlines : ∀ (w g : Int32) (h : aH), aIn h → aPair L xs fv 40 51 152 [.int w, .int g] h) (hx1 : vp_in (i + 1) L) (hx2 : vp_in (i + 2) L) (hx3 : vp_in (i + 3) L) (hx4 : vp_in (i + 4) L) (hx5 : vp_in (i + 5) L) (hi : aIn h) (K : ∀ h', aIn h' → aTo L xs fv 0 40 cd187 (1497, lsL i, [], h') P) : aTo L xs fv 0 40 cd187 (1400, lsL i, [], h) P := by
  have h111 := (aIn_ge hi).1
  refine go_v (cd := cd187) [] 40 rfl ?_
  refine go_scr rfl hx1 ?_
  refine go_v (cd := cd187) [] 40 rfl ?_
  refine go_scr rfl hx2 ?_
  refine go_lwAl (lw_long rfl hi (pr_read (d := 36) hi)) rfl rfl rfl rfl h111 (ls := lsL i) ⟨trivial, Or.inl (Nat.lt_of_lt_of_le (show 77 < 111 by decide) h111), Or.inl (Nat.lt_of_lt_of_le (show 0 < 111 by decide) h111), Or.inr (show 1000 ≤ 1003 by decide), trivial⟩ (fun x h1 h11 hc => ?_)
  refine go_v (cd := cd187) [] 40 rfl ?_
  refine go_scr rfl hx1 ?_
  refine go_v (cd := cd187) [] 40 rfl ?_
  refine go_scr rfl hx2 ?_
  refine go_lwB hc rfl rfl rfl rfl h11 rfl (fun h2 hi2 => ?_)
  refine go_v (cd := cd187) [] 40 rfl ?_
  refine go_st (cd := cd187) 1 rfl (go_ifTh (lg_same x) ?_)
  exact K h2 hi2
theorem lw_c35 {i : Int32} {h : aH} (hfv : fv = .null ∨ fv = .ref 3000) (hlines : ∀ (w g : Int32) (h : aH), aIn h → aPair L xs fv 40 51 152 [.int w, .int g] h) (hx1 : vp_in (i + 1) L) (hx2 : vp_in (i + 2) L) (hx3 : vp_in (i + 3) L) (hx4 : vp_in (i + 4) L) (hx5 : vp_in (i + 5) L) (hi : aIn h) (K : ∀ h', aIn h' → aTo L xs fv 0 40 cd187 (1497, lsL i, [], h') P) : aTo L xs fv 0 40 cd187 (1434, lsL i, [], h) P := by
  have h111 := (aIn_ge hi).1
  refine go_v (cd := cd187) [] 40 rfl ?_
  refine go_scr rfl hx1 ?_
  refine go_v (cd := cd187) [] 40 rfl ?_
  refine go_scr rfl hx2 ?_
  refine go_v (cd := cd187) [] 40 rfl ?_
  refine go_scr rfl hx3 ?_
  refine go_v (cd := cd187) [] 40 rfl ?_
  refine go_scr rfl hx4 ?_
  refine go_v (cd := cd187) [] 40 rfl ?_
  refine go_scr rfl hx5 ?_
  refine go_lwA (lw_int rfl hi (pr_shift (d := 36) hi)) rfl rfl rfl rfl h111 (ls := lsL i) ⟨trivial, Or.inl (Nat.lt_of_lt_of_le (show 77 < 111 by decide) h111), Or.inl (Nat.lt_of_lt_of_le (show 0 < 111 by decide) h111), Or.inr (show 1000 ≤ 1003 by decide), trivial⟩ (fun x h1 h11 hc => ?_)
  refine go_v (cd := cd187) [] 40 rfl ?_
  refine go_scr rfl hx1 ?_
  refine go_v (cd := cd187) [] 40 rfl ?_
  refine go_scr rfl hx2 ?_
  refine go_v (cd := cd187) [] 40 rfl ?_
  refine go_scr rfl hx3 ?_
  refine go_v (cd := cd187) [] 40 rfl ?_
  refine go_scr rfl hx4 ?_
  refine go_v (cd := cd187) [] 40 rfl ?_
  refine go_scr rfl hx5 ?_
  refine go_lwB hc rfl rfl rfl rfl h11 rfl (fun h2 hi2 => ?_)
  refine go_st (cd := cd187) 1 rfl (go_ifTh rfl ?_)
  exact K h2 hi2
end LW
