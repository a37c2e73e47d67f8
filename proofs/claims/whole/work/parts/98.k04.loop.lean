/-! the law's loop -/
def tsA (Q : Nat → Prop) (pc : Nat) : List Int → Prop
  | [] => True
  | o :: l => Q ((pc : Int) + o).toNat ∧ tsA Q pc l
theorem tsA_get {Q : Nat → Prop} {pc : Nat} : ∀ {l : List Int} {k : Nat} {o : Int}, tsA Q pc l → l[k]? = some o → Q ((pc : Int) + o).toNat
  | [], k, o, _, h => by cases h
  | a :: l, 0, o, hA, h => by
    have e : a = o := Option.some.inj h
    rw [← e]; exact hA.1
  | a :: l, k + 1, o, hA, h => tsA_get (l := l) (k := k) hA.2 h
section LP
variable {L : Nat} {xs : Nat → Int32} {fv : Value} {P : Option Value → aH → Prop}
theorem go_ts {x : Int32} {r : List Value} {df lo hi : Int} {offs : Array Int} {pc nx a b t : Nat} {v : Value} {ls : aL} {h : aH} (hc : cd187 pc = some (.tableswitch df lo hi offs, nx, a, b, t, v)) (hsz : (hi - lo).toNat < offs.size) (hd : aTo L xs fv 0 40 cd187 (((pc : Int) + df).toNat, ls, r, h) P) (hA : tsA (fun p => aTo L xs fv 0 40 cd187 (p, ls, r, h) P) pc offs.toList) : aTo L xs fv 0 40 cd187 (pc, ls, .int x :: r, h) P := by
  by_cases hx : x.toInt < lo ∨ hi < x.toInt
  · obtain ⟨rv, hh, hr, hp⟩ := hd
    exact go_spc hc rfl rv hh (Or.inl ⟨hx, hr⟩) hp
  · have hk : (x.toInt - lo).toNat < offs.size := by omega
    have hg : offs[(x.toInt - lo).toNat]? = some offs[(x.toInt - lo).toNat] := Array.getElem?_eq_getElem hk
    have hl : offs.toList[(x.toInt - lo).toNat]? = some offs[(x.toInt - lo).toNat] := by rw [Array.getElem?_toList]; exact hg
    obtain ⟨rv, hh, hr, hp⟩ := tsA_get hA hl
    exact go_spc hc rfl rv hh (Or.inr ⟨_, hg, fun h => hx (Or.inl h), fun h => hx (Or.inr h), hr⟩) hp
theorem go_alS1 {r : List Value} {pc nx a b t : Nat} {v : Value} {ls : aL} {h : aH} (hc : cd187 pc = some (.arraylength, nx, a, b, t, v)) (k : aTo L xs fv 0 40 cd187 (nx, ls, .int (nI L) :: r, h) P) : aTo L xs fv 0 40 cd187 (pc, ls, .ref 1003 :: r, h) P := by
  obtain ⟨hn, hI, hJ, hR⟩ := h
  exact go_alS hc (Or.inl rfl) k
theorem lw_gt {j : Nat} (hL : L ≤ 3072) (hj : j ≤ 4000) : nI L - 6 < nI j ↔ L < j + 6 := by
  by_cases h6 : 6 ≤ L
  · rw [show nI L - 6 = nI (L - 6) from nI_sub (b := 6) h6, nI_ltI (by omega) (by omega)]
    omega
  · have : ∀ l : Fin 6, nI l.val - 6 < 0 := by decide
    refine ⟨fun _ => by omega, fun _ => Int32.lt_of_lt_of_le (this ⟨L, by omega⟩) (nI_pos' (by omega))⟩
set_option maxHeartbeats 4000000 in
theorem lw_loop (hfv : fv = .null ∨ fv = .ref 3000) (hlines : ∀ (w g : Int32) (h : aH), aIn h → aPair L xs fv 40 51 152 [.int w, .int g] h) (hL : L ≤ 3072) : ∀ (m j : Nat) (h : aH), L < j + 6 * m + 6 → j ≤ L + 6 → aIn h → aTo L xs fv 0 40 cd187 (18, lsL (nI j), [], h) (fun rv hh => rv = some (.int 1) ∧ hh.1 ≤ 141)
  | m, j, h, hm, hj, hi => by
    have h111 := aIn_ge hi
    refine go_v (cd := cd187) [20] 40 rfl ?_
    refine go_alS1 rfl ?_
    refine go_v (cd := cd187) [] 40 rfl ?_
    by_cases hd : L < j + 6
    · refine go_st (cd := cd187) 1 rfl (go_ifTh ((lw_gt hL (by omega)).mpr hd) ?_)
      refine go_v (cd := cd187) [] 40 rfl ?_
      obtain ⟨hn, hI, hJ, hR⟩ := h
      exact go_zreturn (cd := cd187) rfl (Or.inr rfl) ⟨rfl, h111.2⟩
    refine go_st (cd := cd187) 1 rfl (go_ifFh (fun h => hd ((lw_gt hL (by omega)).mp h)) ?_)
    have hx : ∀ k, k < 6 → vp_in (nI j + nI k) L := fun k hk => by rw [nI_add]; exact nI_vin (n := L) (by omega) (by omega)
    refine go_v (cd := cd187) [] 40 rfl ?_
    refine go_scr rfl (nI_vin (n := L) (by omega) (by omega)) ?_
    refine go_v (cd := cd187) [] 40 rfl ?_
    match m, hm with
    | 0, hm => exact absurd hm (by omega)
    | m + 1, hm =>
    have K : ∀ h', aIn h' → aTo L xs fv 0 40 cd187 (1497, lsL (nI j), [], h') (fun rv hh => rv = some (.int 1) ∧ hh.1 ≤ 141) := fun h' hi' => by
      refine go_v (cd := cd187) [18] 40 rfl ?_
      have ih := lw_loop hfv hlines hL m (j + 6) h' (by omega) (by omega) hi'
      rw [show nI (j + 6) = nI j + 6 from (nI_add (a := j) (b := 6)).symm] at ih
      exact go_sb ih ⟨rfl, rfl, rfl, rfl, trivial⟩ rfl rfl rfl
    refine go_ts rfl (by decide) (K h hi) ⟨lw_c0 hfv hlines (hx 1 (by decide)) (hx 2 (by decide)) (hx 3 (by decide)) (hx 4 (by decide)) (hx 5 (by decide)) hi K, lw_c1 hfv hlines (hx 1 (by decide)) (hx 2 (by decide)) (hx 3 (by decide)) (hx 4 (by decide)) (hx 5 (by decide)) hi K, lw_c2 hfv hlines (hx 1 (by decide)) (hx 2 (by decide)) (hx 3 (by decide)) (hx 4 (by decide)) (hx 5 (by decide)) hi K, lw_c3 hfv hlines (hx 1 (by decide)) (hx 2 (by decide)) (hx 3 (by decide)) (hx 4 (by decide)) (hx 5 (by decide)) hi K, lw_c4 hfv hlines (hx 1 (by decide)) (hx 2 (by decide)) (hx 3 (by decide)) (hx 4 (by decide)) (hx 5 (by decide)) hi K, lw_c5 hfv hlines (hx 1 (by decide)) (hx 2 (by decide)) (hx 3 (by decide)) (hx 4 (by decide)) (hx 5 (by decide)) hi K, lw_c6 hfv hlines (hx 1 (by decide)) (hx 2 (by decide)) (hx 3 (by decide)) (hx 4 (by decide)) (hx 5 (by decide)) hi K, lw_c7 hfv hlines (hx 1 (by decide)) (hx 2 (by decide)) (hx 3 (by decide)) (hx 4 (by decide)) (hx 5 (by decide)) hi K, lw_c8 hfv hlines (hx 1 (by decide)) (hx 2 (by decide)) (hx 3 (by decide)) (hx 4 (by decide)) (hx 5 (by decide)) hi K, lw_c9 hfv hlines (hx 1 (by decide)) (hx 2 (by decide)) (hx 3 (by decide)) (hx 4 (by decide)) (hx 5 (by decide)) hi K, lw_c10 hfv hlines (hx 1 (by decide)) (hx 2 (by decide)) (hx 3 (by decide)) (hx 4 (by decide)) (hx 5 (by decide)) hi K, lw_c11 hfv hlines (hx 1 (by decide)) (hx 2 (by decide)) (hx 3 (by decide)) (hx 4 (by decide)) (hx 5 (by decide)) hi K, lw_c12 hfv hlines (hx 1 (by decide)) (hx 2 (by decide)) (hx 3 (by decide)) (hx 4 (by decide)) (hx 5 (by decide)) hi K, lw_c13 hfv hlines (hx 1 (by decide)) (hx 2 (by decide)) (hx 3 (by decide)) (hx 4 (by decide)) (hx 5 (by decide)) hi K, lw_c14 hfv hlines (hx 1 (by decide)) (hx 2 (by decide)) (hx 3 (by decide)) (hx 4 (by decide)) (hx 5 (by decide)) hi K, lw_c15 hfv hlines (hx 1 (by decide)) (hx 2 (by decide)) (hx 3 (by decide)) (hx 4 (by decide)) (hx 5 (by decide)) hi K, lw_c16 hfv hlines (hx 1 (by decide)) (hx 2 (by decide)) (hx 3 (by decide)) (hx 4 (by decide)) (hx 5 (by decide)) hi K, lw_c17 hfv hlines (hx 1 (by decide)) (hx 2 (by decide)) (hx 3 (by decide)) (hx 4 (by decide)) (hx 5 (by decide)) hi K, lw_c18 hfv hlines (hx 1 (by decide)) (hx 2 (by decide)) (hx 3 (by decide)) (hx 4 (by decide)) (hx 5 (by decide)) hi K, lw_c19 hfv hlines (hx 1 (by decide)) (hx 2 (by decide)) (hx 3 (by decide)) (hx 4 (by decide)) (hx 5 (by decide)) hi K, lw_c20 hfv hlines (hx 1 (by decide)) (hx 2 (by decide)) (hx 3 (by decide)) (hx 4 (by decide)) (hx 5 (by decide)) hi K, lw_c21 hfv hlines (hx 1 (by decide)) (hx 2 (by decide)) (hx 3 (by decide)) (hx 4 (by decide)) (hx 5 (by decide)) hi K, lw_c22 hfv hlines (hx 1 (by decide)) (hx 2 (by decide)) (hx 3 (by decide)) (hx 4 (by decide)) (hx 5 (by decide)) hi K, lw_c23 hfv hlines (hx 1 (by decide)) (hx 2 (by decide)) (hx 3 (by decide)) (hx 4 (by decide)) (hx 5 (by decide)) hi K, lw_c24 hfv hlines (hx 1 (by decide)) (hx 2 (by decide)) (hx 3 (by decide)) (hx 4 (by decide)) (hx 5 (by decide)) hi K, lw_c25 hfv hlines (hx 1 (by decide)) (hx 2 (by decide)) (hx 3 (by decide)) (hx 4 (by decide)) (hx 5 (by decide)) hi K, lw_c26 hfv hlines (hx 1 (by decide)) (hx 2 (by decide)) (hx 3 (by decide)) (hx 4 (by decide)) (hx 5 (by decide)) hi K, lw_c27 hfv hlines (hx 1 (by decide)) (hx 2 (by decide)) (hx 3 (by decide)) (hx 4 (by decide)) (hx 5 (by decide)) hi K, lw_c28 hfv hlines (hx 1 (by decide)) (hx 2 (by decide)) (hx 3 (by decide)) (hx 4 (by decide)) (hx 5 (by decide)) hi K, lw_c29 hfv hlines (hx 1 (by decide)) (hx 2 (by decide)) (hx 3 (by decide)) (hx 4 (by decide)) (hx 5 (by decide)) hi K, lw_c30 hfv hlines (hx 1 (by decide)) (hx 2 (by decide)) (hx 3 (by decide)) (hx 4 (by decide)) (hx 5 (by decide)) hi K, lw_c31 hfv hlines (hx 1 (by decide)) (hx 2 (by decide)) (hx 3 (by decide)) (hx 4 (by decide)) (hx 5 (by decide)) hi K, lw_c32 hfv hlines (hx 1 (by decide)) (hx 2 (by decide)) (hx 3 (by decide)) (hx 4 (by decide)) (hx 5 (by decide)) hi K, lw_c33 hfv hlines (hx 1 (by decide)) (hx 2 (by decide)) (hx 3 (by decide)) (hx 4 (by decide)) (hx 5 (by decide)) hi K, lw_c34 hfv hlines (hx 1 (by decide)) (hx 2 (by decide)) (hx 3 (by decide)) (hx 4 (by decide)) (hx 5 (by decide)) hi K, lw_c35 hfv hlines (hx 1 (by decide)) (hx 2 (by decide)) (hx 3 (by decide)) (hx 4 (by decide)) (hx 5 (by decide)) hi K, trivial⟩
end LP
