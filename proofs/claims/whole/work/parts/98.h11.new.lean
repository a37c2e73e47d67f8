/-! new objects; rule -/
def okP (n : Nat) : List Value → Prop
  | [] => True
  | v :: l => aOk n v ∧ okP n l
theorem okP_s {n : Nat} : ∀ {l : List Value}, okP n l → aOks n l
  | [], _ => fun v hv => by cases hv
  | w :: l, h => fun v hv => by
    rcases List.mem_cons.mp hv with rfl | hv
    · exact h.1
    · exact okP_s h.2 v hv
section NW
variable {L : Nat} {xs : Nat → Int32} {fv : Value} {n0 d : Nat} {cd : Nat → Option aI} {P : Option Value → aH → Prop}
variable {pc nx a b t : Nat} {v : Value} {ls : aL} {st : List Value} {hn : Nat} {hI : Nat → Nat → Int32} {hJ : Nat → Nat → Int64} {hR : Nat → Nat → Option Nat}
theorem go_new {z : Nat} (hc : cd pc = some (.new z, nx, a, b, t, v)) (hk : akd L hn = (a, b)) (h1 : hn < 1000) (o1 : okP hn (ls.map (·.2))) (o2 : okP hn st) (k : aTo L xs fv n0 d cd (nx, ls, .ref hn :: st, (hn + 1, up1 hI hn (fun _ => 0), up1 hJ hn (fun _ => 0), up1 hR hn (fun _ => none))) P) : aTo L xs fv n0 d cd (pc, ls, st, (hn, hI, hJ, hR)) P := by
  obtain ⟨rv, hh, hr, hp⟩ := k
  exact go_spc hc rfl rv hh ⟨hk, h1, okP_s o1, okP_s o2, hr⟩ hp
theorem go_nar {z : ArrayType} {x : Int32} {r : List Value} (hc : cd pc = some (.newarray z, nx, a, b, t, v)) (hx : ¬ x < 0) (hk : akd L hn = (a, x.toNatClampNeg)) (hx2 : x.toNatClampNeg ≤ 10000) (h1 : hn < 1000) (o1 : okP hn (ls.map (·.2))) (o2 : okP hn r) (k : aTo L xs fv n0 d cd (nx, ls, .ref hn :: r, (hn + 1, up1 hI hn (fun _ => 0), up1 hJ hn (fun _ => 0), up1 hR hn (fun _ => none))) P) : aTo L xs fv n0 d cd (pc, ls, .int x :: r, (hn, hI, hJ, hR)) P := by
  obtain ⟨rv, hh, hr, hp⟩ := k
  exact go_spc hc rfl rv hh ⟨hx, hk, hx2, h1, okP_s o1, okP_s o2, hr⟩ hp
theorem go_anar {z : Nat} {x : Int32} {r : List Value} (hc : cd pc = some (.anewarray z, nx, a, b, t, v)) (hx : ¬ x < 0) (hk : akd L hn = (a, x.toNatClampNeg)) (hx2 : x.toNatClampNeg ≤ 10000) (h1 : hn < 1000) (o1 : okP hn (ls.map (·.2))) (o2 : okP hn r) (k : aTo L xs fv n0 d cd (nx, ls, .ref hn :: r, (hn + 1, up1 hI hn (fun _ => 0), up1 hJ hn (fun _ => 0), up1 hR hn (fun _ => none))) P) : aTo L xs fv n0 d cd (pc, ls, .int x :: r, (hn, hI, hJ, hR)) P := by
  obtain ⟨rv, hh, hr, hp⟩ := k
  exact go_spc hc rfl rv hh ⟨hx, hk, hx2, h1, okP_s o1, okP_s o2, hr⟩ hp
theorem go_aast {i q : Nat} {j : Int32} {r : List Value} (hc : cd pc = some (.aastore, nx, a, b, t, v)) (hin : vp_in j (akd L i).2) (hl : i < hn) (hk : 10 ≤ (akd L i).1) (hk2 : (akd L i).1 ≤ 12) (hq : q < hn) (hq1 : (akd L q).1 = a) (hi1 : (akd L i).1 = b) (k : aTo L xs fv n0 d cd (nx, ls, r, (hn, hI, hJ, up2 hR i j.toNatClampNeg (some q))) P) : aTo L xs fv n0 d cd (pc, ls, .ref q :: .int j :: .ref i :: r, (hn, hI, hJ, hR)) P := by
  obtain ⟨rv, hh, hr, hp⟩ := k
  exact go_spc hc rfl rv hh ⟨hin, hl, hk, hk2, hq, hq1, hi1, hr⟩ hp
theorem go_putR {z i j : Nat} {r : List Value} (hc : cd pc = some (.putfield z, nx, a, b, 2, v)) (hl : i < hn) (hk : (akd L i).1 = a) (hj : j < hn) (k : aTo L xs fv n0 d cd (nx, ls, r, (hn, hI, hJ, up2 hR i b (some j))) P) : aTo L xs fv n0 d cd (pc, ls, .ref j :: .ref i :: r, (hn, hI, hJ, hR)) P := by
  refine go_st 1 ?_ k
  unfold aStN
  dsimp only
  rw [hc]
  dsimp only [aStp]
  rw [blt_t hl, blt_t hj, hk, show Nat.beq a a = true from Nat.beq_refl a, Bool.or_true, Bool.or_true]
  rfl
/-- a call of a method that makes objects -/
theorem go_callm {z i : Nat} {ws rest : List Value} (hc : cd pc = some (.invokespecial z, nx, a, b, 0, v)) (hb : Nat.ble b st.length = true) (hws : (st.take b).reverse = .ref i :: ws) (hrs : st.drop b = rest) (hcat : Nat.ble (rest.map fun v => v.category).sum 8 = true) (o1 : okP hn (ls.map (·.2))) (o2 : okP hn rest)
    (k : aCl L xs fv n0 d a (.ref i :: ws) (hn, hI, hJ, hR) (fun rv h1 => rv = none ∧ aTo L xs fv n0 d cd (nx, ls, rest, h1) P)) : aTo L xs fv n0 d cd (pc, ls, st, (hn, hI, hJ, hR)) P := by
  refine go_calli hc hb hws hrs hcat ?_
  obtain ⟨rv1, h1, hx, hn, hk⟩ := k
  exact ⟨rv1, h1, hx, hn, Or.inr ⟨okP_s o1, okP_s o2⟩, hk⟩
theorem fillG_loop {i n : Nat} {x : Int32} (h31 : n < 2 ^ 31) (hk : akd L i = (7, n)) (hl : i < hn) (k : P none (hn, up1 hI i (fun q => if q < n then x else hI i q), hJ, hR)) : ∀ m j, j + m = n → aTo L xs fv n0 d cd185 (5, [(2, .int (nI j)), (3, .int (nI n)), (0, .ref i), (1, .int x)], [], (hn, up1 hI i (fun q => if q < j then x else hI i q), hJ, hR)) P
  | 0, j, hj => by
    have hj : j = n := hj
    subst hj
    refine go_v (cd := cd185) [] 9 rfl ?_
    refine go_st (cd := cd185) 1 rfl (go_ifT (nI_le (Nat.le_refl _) h31) ?_)
    exact go_return (cd := cd185) rfl k
  | m + 1, j, hj => by
    have hjn : j < n := by omega
    refine go_v (cd := cd185) [] 9 rfl ?_
    refine go_st (cd := cd185) 1 rfl (go_ifF (nI_ge hjn h31) ?_)
    refine go_v (cd := cd185) [] 9 rfl ?_
    refine go_iast (cd := cd185) rfl (by rw [hk]; exact nI_vin hjn h31) hl (by rw [hk]) ?_
    refine go_v (cd := cd185) [5] 9 rfl ?_
    refine go_sub (l' := [(2, .int (nI (j + 1))), (3, .int (nI n)), (0, .ref i), (1, .int x)]) ⟨by rw [nI_succ]; rfl, rfl, rfl, rfl, trivial⟩ rfl rfl rfl ?_
    have e : up2 (up1 hI i (fun q => if q < j then x else hI i q)) i (nI j).toNatClampNeg x = up1 hI i (fun q => if q < j + 1 then x else hI i q) := by
      rw [up21_1]
      refine congrArg _ (funext fun q => ?_)
      rw [nI_clamp (by omega)]
      by_cases h1 : q = j
      · rw [if_pos h1, if_pos (by omega)]
      · rw [if_neg h1]
        by_cases h2 : q < j
        · rw [if_pos h2, if_pos (by omega)]
        · rw [if_neg h2, if_neg (by omega)]
    rw [e]
    exact fillG_loop h31 hk hl k m (j + 1) (by omega)
theorem fillG {i n : Nat} {x : Int32} (h31 : n < 2 ^ 31) (hk : akd L i = (7, n)) (hl : i < hn) (h0 : n0 ≤ hn) (k : P none (hn, up1 hI i (fun q => if q < n then x else hI i q), hJ, hR)) : aCl L xs fv n0 (d + 1) 185 [.ref i, .int x] (hn, hI, hJ, hR) P := by
  refine cl_of rfl h0 ?_
  refine go_v (cd := cd185) [3] 9 rfl ?_
  refine go_len (cd := cd185) rfl hl (by rw [hk]) (by rw [hk]; exact (by decide : 7 ≤ 7)) (by rw [hk]; exact (by decide : 7 ≤ 12)) ?_
  refine go_v (cd := cd185) [5] 9 rfl ?_
  refine go_sub (l' := [(2, .int (nI 0)), (3, .int (nI n)), (0, .ref i), (1, .int x)]) ⟨rfl, rfl, rfl, rfl, trivial⟩ rfl rfl rfl ?_
  have e : up1 hI i (fun q => if q < 0 then x else hI i q) = hI := by
    have e1 : (fun q => if q < 0 then x else hI i q) = hI i := by funext q; rw [if_neg (by omega)]
    rw [e1]; exact up1_id
  have h := fillG_loop (P := P) (xs := xs) (fv := fv) (n0 := n0) (d := d) (hI := hI) (hJ := hJ) (hR := hR) h31 hk hl k n 0 (by omega)
  rw [e] at h
  exact h
/-- a rule's own start, at any cell -/
theorem cl_rinit {c : Nat} {x y w : Int32} (hc : c < hn) (hk : akd L c = (2, 5)) (hk1 : akd L hn = (7, 4)) (hk2 : akd L (hn + 1) = (7, 5)) (h1000 : hn + 1 < 1000) (h0 : n0 ≤ hn)
    (K : P none (hn + 2, up1 (up1 (up2 (up2 (up2 (up1 (up1 hI hn (fun _ => 0)) (hn + 1) (fun _ => 0)) c 0 x) c 1 y) c 2 w) hn (fun q => if q < 4 then -1 else 0)) (hn + 1) (fun q => if q < 5 then -1 else 0), up1 (up1 hJ hn (fun _ => 0)) (hn + 1) (fun _ => 0), up2 (up1 (up2 (up1 hR hn (fun _ => none)) c 3 (some hn)) (hn + 1) (fun _ => none)) c 4 (some (hn + 1)))) : aCl L xs fv n0 (d + 2) 22 [.ref c, .int x, .int y, .int w] (hn, hI, hJ, hR) P := by
  have k2 : (akd L c).1 = 2 := by rw [hk]
  refine cl_of rfl h0 ?_
  refine go_v (cd := cd22) [] 9 rfl ?_
  refine go_oinit (cd := cd22) rfl rfl ?_
  refine go_v (cd := cd22) [] 9 rfl ?_
  refine go_nar (cd := cd22) rfl (by decide) (by rw [hk1]; rfl) (by decide) (by omega) ⟨Or.inl hc, trivial, trivial, trivial, trivial⟩ ⟨Or.inl hc, trivial⟩ ?_
  refine go_putR (cd := cd22) rfl (by omega) k2 (by omega) ?_
  refine go_v (cd := cd22) [] 9 rfl ?_
  refine go_nar (cd := cd22) rfl (by decide) (by rw [hk2]; rfl) (by decide) (by omega) ⟨Or.inl (Nat.lt_succ_of_lt hc), trivial, trivial, trivial, trivial⟩ ⟨Or.inl (Nat.lt_succ_of_lt hc), trivial⟩ ?_
  refine go_putR (cd := cd22) rfl (by omega) k2 (by omega) ?_
  refine go_v (cd := cd22) [20] 9 rfl ?_
  refine go_putI (cd := cd22) rfl (by omega) k2 ?_
  refine go_v (cd := cd22) [25] 9 rfl ?_
  refine go_putI (cd := cd22) rfl (by omega) k2 ?_
  refine go_v (cd := cd22) [30] 9 rfl ?_
  refine go_putI (cd := cd22) rfl (by omega) k2 ?_
  refine go_v (cd := cd22) [34] 9 rfl ?_
  refine go_getR (cd := cd22) (q := hn) rfl (by omega) k2 ?_ ?_
  · rw [up2_42 (by decide), up1_ne (by omega), up2_e]
  refine go_v (cd := cd22) [] 9 rfl ?_
  refine go_calls (cd := cd22) rfl rfl rfl rfl rfl (fillG (n := 4) (by decide) hk1 (Nat.lt_succ_of_lt (Nat.lt_succ_self hn)) (Nat.le_succ_of_le (Nat.le_succ_of_le h0)) ⟨rfl, ?_⟩)
  refine go_v (cd := cd22) [42] 9 rfl ?_
  refine go_getR (cd := cd22) (q := hn + 1) rfl (by omega) k2 up2_e ?_
  refine go_v (cd := cd22) [] 9 rfl ?_
  refine go_calls (cd := cd22) rfl rfl rfl rfl rfl (fillG (n := 5) (by decide) hk2 (Nat.lt_succ_self (hn + 1)) (Nat.le_succ_of_le (Nat.le_succ_of_le h0)) ⟨rfl, ?_⟩)
  refine go_return (cd := cd22) rfl ?_
  rw [show (fun q => if q < 4 then (-1 : Int32) else up2 (up2 (up2 (up1 (up1 hI hn (fun _ => 0)) (hn + 1) (fun _ => 0)) c 0 x) c 1 y) c 2 w hn q) = (fun q => if q < 4 then -1 else 0) from by
    funext q
    rw [up2_ne (show hn ≠ c by omega), up2_ne (show hn ≠ c by omega), up2_ne (show hn ≠ c by omega), up1_ne (show hn ≠ hn + 1 by omega), up1_e]]
  rw [show (fun q => if q < 5 then (-1 : Int32) else up1 (up2 (up2 (up2 (up1 (up1 hI hn (fun _ => 0)) (hn + 1) (fun _ => 0)) c 0 x) c 1 y) c 2 w) hn (fun q => if q < 4 then -1 else 0) (hn + 1) q) = (fun q => if q < 5 then -1 else 0) from by
    funext q
    rw [up1_ne (show hn + 1 ≠ hn by omega), up2_ne (show hn + 1 ≠ c by omega), up2_ne (show hn + 1 ≠ c by omega), up2_ne (show hn + 1 ≠ c by omega), up1_e]]
  exact K
end NW
