/-! the class reads a word -/
theorem st_k {L w : Nat} (hw : w < 4) : akd L (2000 + w) = (15, 0) ∧ akd L (2100 + w) = (16, (wdL w).length) := by
  rw [akd_ne (by omega), akd_ne (by omega)]
  have : ∀ w : Fin 4, ak0 (2000 + w.val) = (15, 0) ∧ ak0 (2100 + w.val) = (16, (wdL w.val).length) := by decide +kernel
  exact this ⟨w, hw⟩
theorem st_v {xs : Nat → Int32} {w k c : Nat} (hw : w < 4) (hc : (wdL w)[k]? = some c) : (aZ0 xs).1 (2100 + w) k = nI c ∧ c < 128 ∧ k < 5 := by
  have hl : k < (wdL w).length := (List.getElem?_eq_some_iff.mp hc).1
  have h5 := (wdL_len w).2
  rw [aZ0_st]
  have : ∀ w : Fin 4, ∀ k : Fin 5, ∀ c : Fin 128, (wdL w.val)[k.val]? = some c.val → (azS.getD w.val []).getD k.val 0 = nI c.val := by decide +kernel
  have hc128 : c < 128 := wdL_lt (List.mem_of_getElem? hc)
  exact ⟨this ⟨w, hw⟩ ⟨k, by omega⟩ ⟨c, hc128⟩ hc, hc128, by omega⟩
section JS
variable {L : Nat} {xs : Nat → Int32} {fv : Value} {n0 d : Nat} {cd : Nat → Option aI} {P : Option Value → aH → Prop} {pc nx a b t : Nat} {v : Value} {ls : aL} {st : List Value} {hn : Nat} {hI : Nat → Nat → Int32} {hJ : Nat → Nat → Int64} {hR : Nat → Nat → Option Nat}
theorem go_gS {i z : Nat} {r : List Value} (hc : cd pc = some (.getfield z, nx, 99, b, 15, v)) (hk : (akd L i).1 = 15) (k : aTo L xs fv n0 d cd (nx, ls, .ref (i + 100) :: r, (hn, hI, hJ, hR)) P) : aTo L xs fv n0 d cd (pc, ls, .ref i :: r, (hn, hI, hJ, hR)) P := by
  obtain ⟨rv, hh, hr, hp⟩ := k
  refine go_spc hc ?_ rv hh ⟨hk, Or.inl ⟨rfl, hr⟩⟩ hp
  show (bif (Nat.blt i n0 || Nat.blt i hn) && Nat.beq (akd L i).1 99 then _ else none) = none
  rw [hk]
  cases (Nat.blt i n0 || Nat.blt i hn) <;> rfl
theorem go_gC {i z : Nat} {r : List Value} (hc : cd pc = some (.getfield z, nx, 99, b, 16, v)) (hk : (akd L i).1 = 15) (k : aTo L xs fv n0 d cd (nx, ls, .int 0 :: r, (hn, hI, hJ, hR)) P) : aTo L xs fv n0 d cd (pc, ls, .ref i :: r, (hn, hI, hJ, hR)) P := by
  obtain ⟨rv, hh, hr, hp⟩ := k
  refine go_spc hc ?_ rv hh ⟨hk, Or.inr ⟨rfl, hr⟩⟩ hp
  show (bif (Nat.blt i n0 || Nat.blt i hn) && Nat.beq (akd L i).1 99 then _ else none) = none
  rw [hk]
  cases (Nat.blt i n0 || Nat.blt i hn) <;> rfl
theorem go_alS {i : Nat} {r : List Value} (hc : cd pc = some (.arraylength, nx, a, b, t, v)) (hk : (akd L i).1 = 13 ∨ (akd L i).1 = 16) (k : aTo L xs fv n0 d cd (nx, ls, .int (Int32.ofNat (akd L i).2) :: r, (hn, hI, hJ, hR)) P) : aTo L xs fv n0 d cd (pc, ls, .ref i :: r, (hn, hI, hJ, hR)) P := by
  obtain ⟨rv, hh, hr, hp⟩ := k
  refine go_spc hc ?_ rv hh ⟨hk, hr⟩ hp
  show (bif (Nat.blt i n0 || Nat.blt i hn) && (Nat.ble 7 (akd L i).1 && Nat.ble (akd L i).1 12) then _ else none) = none
  rcases hk with hk | hk
  all_goals
    rw [hk]
    cases (Nat.blt i n0 || Nat.blt i hn) <;> rfl
theorem go_callS {z i : Nat} {ws rest : List Value} (hc : cd pc = some (.invokevirtual z, nx, a, b, 20, v)) (hb : Nat.ble b st.length = true) (hws : (st.take b).reverse = .ref i :: ws) (hrs : st.drop b = rest) (hcat : Nat.ble (rest.map fun v => v.category).sum 8 = true) (hk : (akd L i).1 = 15)
    (k : aCl L xs fv n0 d a (.ref i :: ws) (hn, hI, hJ, hR) (fun rv h1 => h1.1 = hn ∧ aTo L xs fv n0 d cd (nx, ls, rv.toList ++ rest, h1) P)) : aTo L xs fv n0 d cd (pc, ls, st, (hn, hI, hJ, hR)) P := by
  obtain ⟨rv1, h1, hx, hn, rv, hh, hr, hp⟩ := k
  subst hrs
  exact go_spc hc rfl rv hh ⟨rv1, h1, Nat.le_of_ble_eq_true hb, Nat.le_of_ble_eq_true hcat, ⟨i, by rw [hws]; rfl, Or.inl ⟨hk, rfl⟩⟩, by rw [hws]; exact hx, Or.inl hn, hr⟩ hp
theorem go_creturn {x : Int32} (hc : cd pc = some (.ireturn, nx, a, b, 3, v)) (hx : narrow .char (.int x) = .int x) (k : P (some (.int x)) (hn, hI, hJ, hR)) : aTo L xs fv n0 d cd (pc, ls, [.int x], (hn, hI, hJ, hR)) P := go_spc hc rfl _ _ ⟨Or.inr (Or.inr (Or.inr ⟨rfl, hx⟩)), rfl, rfl⟩ k
theorem go_breturn (hc : cd pc = some (.ireturn, nx, a, b, 2, v)) (k : P (some (.int 0)) (hn, hI, hJ, hR)) : aTo L xs fv n0 d cd (pc, ls, [.int 0], (hn, hI, hJ, hR)) P := go_spc hc rfl _ _ ⟨Or.inr (Or.inr (Or.inl ⟨rfl, rfl⟩)), rfl, rfl⟩ k
end JS
section JT
variable {L : Nat} {xs : Nat → Int32} {fv : Value} {d : Nat} {P : Option Value → aH → Prop} {r : Nat} {rr : Option Nat} {I : Nat → Nat → Int32} {J : Nat → Nat → Int64}
theorem cl_coder {w : Nat} (hw : w < 4) (K : P (some (.int 0)) (aHp r rr I J)) : aCl L xs fv 111 (d + 1) 180 [.ref (2000 + w)] (aHp r rr I J) P := by
  refine cl_of rfl (Nat.le_add_right _ _) ?_
  refine go_v (cd := cd180) [3] 20 rfl ?_
  refine go_st (cd := cd180) 1 rfl (go_ifF (by decide) ?_)
  refine go_v (cd := cd180) [7] 20 rfl ?_
  refine go_gC (cd := cd180) rfl (by rw [(st_k hw).1]) ?_
  refine go_v (cd := cd180) [] 20 rfl ?_
  exact go_breturn (cd := cd180) rfl K
theorem cl_latin {w : Nat} (hw : w < 4) (K : P (some (.int 1)) (aHp r rr I J)) : aCl L xs fv 111 (d + 1) 181 [.ref (2000 + w)] (aHp r rr I J) P := by
  refine cl_of rfl (Nat.le_add_right _ _) ?_
  refine go_v (cd := cd181) [3] 20 rfl ?_
  refine go_st (cd := cd181) 1 rfl (go_ifF (by decide) ?_)
  refine go_v (cd := cd181) [7] 20 rfl ?_
  refine go_gC (cd := cd181) rfl (by rw [(st_k hw).1]) ?_
  refine go_st (cd := cd181) 1 rfl (go_ifT rfl ?_)
  refine go_v (cd := cd181) [] 20 rfl ?_
  exact go_zreturn (cd := cd181) rfl (Or.inr rfl) K
theorem cl_slen {w : Nat} (hw : w < 4) (K : P (some (.int (nI (wdL w).length))) (aHp r rr I J)) : aCl L xs fv 111 (d + 2) 178 [.ref (2000 + w)] (aHp r rr I J) P := by
  refine cl_of rfl (Nat.le_add_right _ _) ?_
  refine go_v (cd := cd178) [1] 20 rfl ?_
  refine go_gS (cd := cd178) rfl (by rw [(st_k hw).1]) ?_
  have h2 := (st_k (L := L) hw).2
  rw [show 2000 + w + 100 = 2100 + w by omega]
  refine go_alS (cd := cd178) rfl (Or.inr (by rw [h2])) ?_
  rw [h2]
  refine go_v (cd := cd178) [6] 20 rfl ?_
  refine go_callS (cd := cd178) rfl rfl rfl rfl rfl (by rw [(st_k hw).1]) (cl_coder hw ⟨rfl, ?_⟩)
  refine go_v (cd := cd178) [] 20 rfl ?_
  show aTo L xs fv 111 _ cd178 (10, _, [.int (nI (wdL w).length >>> (0 &&& 31))], aHp r rr I J) _
  have h3 : nI (wdL w).length >>> (0 &&& 31) = nI (wdL w).length := by
    have : ∀ w : Fin 4, nI (wdL w.val).length >>> (0 &&& 31) = nI (wdL w.val).length := by decide +kernel
    exact this ⟨w, hw⟩
  rw [h3]
  exact go_ireturn (cd := cd178) rfl K
theorem cl_check {k n : Nat} (hfv : fv = .null ∨ fv = .ref 3000) (hk : k < n) (hn : n < 2 ^ 31) (K : P none (aHp r rr I J)) : aCl L xs fv 111 (d + 2) 182 [.int (nI k), .int (nI n)] (aHp r rr I J) P := by
  rcases hfv with rfl | rfl
  all_goals
    refine cl_of rfl (Nat.le_add_right _ _) ?_
    refine go_v (cd := cds _ 182) [5] 20 rfl ?_
    refine go_calls (cd := cds _ 182) rfl rfl rfl rfl rfl (cl_of rfl (Nat.le_add_right _ _) ?_)
    refine go_v (cd := cd186) [] 20 rfl ?_
    refine go_st (cd := cd186) 1 rfl (go_ifF (Int32.not_lt.mpr (nI_pos' (by omega))) ?_)
    refine go_v (cd := cd186) [] 20 rfl ?_
    refine go_st (cd := cd186) 1 rfl (go_ifT (nI_lt hk hn) ?_)
    refine go_v (cd := cd186) [] 20 rfl ?_
    refine go_ireturn (cd := cd186) rfl ⟨rfl, ?_⟩
    refine go_v (cd := cds _ 182) [] 20 rfl ?_
    exact go_return (cd := cds _ 182) rfl K
theorem cl_sat {w k c : Nat} (hfv : fv = .null ∨ fv = .ref 3000) (hw : w < 4) (hc : (wdL w)[k]? = some c) (K : P (some (.int (nI c))) (aHp r rr I J)) : aCl L xs fv 111 (d + 4) 179 [.ref (2000 + w), .int (nI k)] (aHp r rr I J) P := by
  have hl : k < (wdL w).length := (List.getElem?_eq_some_iff.mp hc).1
  have h5 := (wdL_len w).2
  have h2 := (st_k (L := L) hw).2
  obtain ⟨v1, v2, v3⟩ := st_v (xs := xs) hw hc
  refine cl_of rfl (Nat.le_add_right _ _) ?_
  refine go_v (cd := cd179) [1] 20 rfl ?_
  refine go_callS (cd := cd179) rfl rfl rfl rfl rfl (by rw [(st_k hw).1]) (cl_latin hw ⟨rfl, ?_⟩)
  refine go_st (cd := cd179) 1 rfl (go_ifF (by decide) ?_)
  refine go_v (cd := cd179) [8] 20 rfl ?_
  refine go_gS (cd := cd179) rfl (by rw [(st_k hw).1]) ?_
  rw [show 2000 + w + 100 = 2100 + w by omega]
  refine go_v (cd := cd179) [12] 20 rfl ?_
  refine go_calls (cd := cd179) rfl rfl rfl rfl rfl (cl_of rfl (Nat.le_add_right _ _) ?_)
  refine go_v (cd := cd183) [2] 20 rfl ?_
  refine go_alS (cd := cd183) rfl (Or.inr (by rw [h2])) ?_
  rw [h2]
  refine go_calls (cd := cd183) rfl rfl rfl rfl rfl (cl_check (n := (wdL w).length) hfv hl (by omega) ⟨rfl, ?_⟩)
  refine go_v (cd := cd183) [8] 20 rfl ?_
  refine go_baldS (cd := cd183) rfl (by rw [h2]; exact nI_vin (n := (wdL w).length) hl (by omega)) (by rw [h2]) ?_
  rw [nI_clamp (show k < 2 ^ 31 by omega), v1]
  refine go_v (cd := cd183) [] 20 rfl ?_
  show aTo L xs fv 111 _ cd183 (14, _, [.int (((nI c) &&& 255).toUInt32 % 65536).toInt32], aHp r rr I J) _
  have h6 : (((nI c) &&& 255).toUInt32 % 65536).toInt32 = nI c ∧ narrow .char (.int (nI c)) = .int (nI c) := by
    have : ∀ c : Fin 128, (((nI c.val) &&& 255).toUInt32 % 65536).toInt32 = nI c.val ∧ narrow .char (.int (nI c.val)) = .int (nI c.val) := by decide +kernel
    exact this ⟨c, v2⟩
  rw [h6.1]
  refine go_creturn (cd := cd183) rfl h6.2 ⟨rfl, ?_⟩
  exact go_creturn (cd := cd179) rfl h6.2 K
end JT
