/-! the reference goes through the ways of a depth -/
section DW
variable {L : Nat} {xs : Nat → Int32} {fv : Value} {d : Nat} {r : Nat} {rr : Option Nat} {I : Nat → Nat → Int32} {J : Nat → Nat → Int64} {P : Option Value → aH → Prop}
variable {W : Wd} {F : Nat} {S : Sc} {R : Ru} {q : Nat} {I0 : Nat → Nat → Int32} {J0 : Nat → Nat → Int64}
def mnZ (a b : Int) : Int := if a < b then a else b
def leW (le mi : Int) : Option Int → Int
  | none => le
  | some y => mnZ (mi + y) le
set_option maxHeartbeats 8000000 in
theorem way_loop {dd H hr n w tr : Nat} {now p : Option Nat} {x : Int32} {mi md wg due su al le : Int} {n' f' : Int32} {f1 f2 f3 : Nat → Int} (hW : rwl W F I0) (hS : rsc S I0) (hR : rrl R q I0) (hhr : I0 77 6 = nI hr) (hr1 : hr ≤ 200) (hfol : ∀ a b, a < 4 → b < 4 → I0 90 (4 * a + b) = nI (folA W.1 a b)) (hH : H ≤ 4) (hdd : dd < H) (hw : w < 4) (hnow : ∀ u, now = some u → u < W.2.2.2) (hp : ∀ s, p = some s → s < W.2.2.2) (htr : tr ≤ 100) (htp : p = none → tr = 0) (hmd : md = mlW W (hr + dd) now w p) (hmi : -400 ≤ mi ∧ mi ≤ 400) (hle : -1000 ≤ le ∧ le ≤ 1000000) (hf3 : ∀ j, -500 ≤ f3 j ∧ f3 j ≤ 500)
    (hrec : ∀ (j : Nat) (I : Nat → Nat → Int32) (J : Nat → Nat → Int64) (x2 : Int32) (su al le : Int), j < 8 → fr I0 I → frJ J0 J → ent I J (dd + 1) (nxU p j) (j % 4) x2 (mi + md) (wg * chW W w tr j) → bt x2 = nxF p j (bt x) → pkd W R S hr I (dd + 1) H (nxU p j) (j % 4) x2 → -1000 ≤ le ∧ le ≤ 1000000 → J 77 44 = lZ su → J 77 45 = lZ al → I 77 47 = iZ le →
      (∀ I' J', fr I0 I' → frJ J0 J' → low (dd + 1) I I' J J' → J' 77 44 = lZ (su + wg * chW W w tr j * ((mi + md) * 1000 ^ n + f1 j)) → J' 77 45 = lZ (al + wg * chW W w tr j * f2 j) → I' 77 47 = iZ (mnZ (mi + md + f3 j) le) → aTo L xs fv 111 (d + 7) cd141 (98, [(6, .int (nI (dd + 1) - 1)), (0, .ref 77), (1, .int (nI q)), (2, .int (nI H)), (3, .int n'), (4, .int f'), (5, .int (iZ due))], [], aHp r rr I' J') P) →
      aTo L xs fv 111 (d + 7) cd141 (98, [(6, .int (nI (dd + 1))), (0, .ref 77), (1, .int (nI q)), (2, .int (nI H)), (3, .int n'), (4, .int f'), (5, .int (iZ due))], [], aHp r rr I J) P)
    {Ia : Nat → Nat → Int32} {Ja : Nat → Nat → Int64}
    (K : ∀ I' J', fr I0 I' → frJ J0 J' → low dd Ia I' Ja J' → J' 77 44 = lZ (su + wg * sumW (fun i => (chW W w tr i : Int) * ((mi + md) * 1000 ^ n + f1 i)) 8) → J' 77 45 = lZ (al + wg * sumW (fun i => (chW W w tr i : Int) * f2 i) 8) → I' 77 47 = iZ (leW le (mi + md) (minW (chW W w tr) f3 8)) → aTo L xs fv 111 (d + 7) cd141 (98, [(6, .int (nI dd - 1)), (0, .ref 77), (1, .int (nI q)), (2, .int (nI H)), (3, .int n'), (4, .int f'), (5, .int (iZ due))], [], aHp r rr I' J') P) :
    ∀ mm j I J, j + mm = 8 → fr I0 I → frJ J0 J → low dd Ia I Ja J → ent I J dd now w x mi wg → I 99 dd = oI p → I 100 dd = nI tr → I 101 dd = nI j → J 77 44 = lZ (su + wg * sumW (fun i => (chW W w tr i : Int) * ((mi + md) * 1000 ^ n + f1 i)) j) → J 77 45 = lZ (al + wg * sumW (fun i => (chW W w tr i : Int) * f2 i) j) → I 77 47 = iZ (leW le (mi + md) (minW (chW W w tr) f3 j)) →
    aTo L xs fv 111 (d + 7) cd141 (98, [(6, .int (nI dd)), (0, .ref 77), (1, .int (nI q)), (2, .int (nI H)), (3, .int n'), (4, .int f'), (5, .int (iZ due))], [], aHp r rr I J) P
  | 0, j, I, J, hj, hf, hfJ, hlo, he, a99, a100, a101, s44, s45, s47 => by
    have hj : j = 8 := hj
    subst hj
    have hcl : (nI dd).toNatClampNeg = dd := nI_clamp (by omega)
    refine go_v (cd := cd141) [] 9 rfl ?_
    refine go_st (cd := cd141) 1 rfl (go_ifF (nI_pos (by omega)) ?_)
    refine go_v (cd := cd141) [] 9 rfl ?_
    refine go_st (cd := cd141) 1 rfl (go_ifF (by rw [nI_eq (by omega) (by omega)]; omega) ?_)
    refine go_v (cd := cd141) [] 9 rfl ?_
    refine go_iald (cd := cd141) rfl (nI_vin (n := 5) (by omega) (by decide)) (lv3 rfl) rfl ?_
    rw [hcl, a101]
    refine go_v (cd := cd141) [] 9 rfl ?_
    refine go_st (cd := cd141) 1 rfl (go_ifT (by decide) ?_)
    refine go_v (cd := cd141) [98] 9 rfl ?_
    refine go_sb (K I J hf hfJ hlo s44 s45 s47) ⟨by rw [Int32.sub_eq_add_neg]; rfl, rfl, rfl, rfl, rfl, rfl, rfl, trivial⟩ rfl rfl rfl
  | mm + 1, j, I, J, hj, hf, hfJ, hlo, he, a99, a100, a101, s44, s45, s47 => by
    have hj8 : j < 8 := by omega
    have ih := way_loop hW hS hR hhr hr1 hfol hH hdd hw hnow hp htr htp hmd hmi hle hf3 hrec K mm (j + 1)
    obtain ⟨a95, a96, a97, a98, a102⟩ := he
    have hcl : (nI dd).toNatClampNeg = dd := nI_clamp (by omega)
    have hcl1 : (nI (dd + 1)).toNatClampNeg = dd + 1 := nI_clamp (by omega)
    have hch : chW W w tr j = (if j < 4 then 100 - tr else tr) * folA W.1 w (j % 4) := rfl
    have hfl := folA_le W.1 w (j % 4)
    have hcb : chW W w tr j ≤ 1000 := by
      rw [hch]
      have h1 : (if j < 4 then 100 - tr else tr) ≤ 100 := by split <;> omega
      exact (Nat.mul_le_mul h1 hfl : _ ≤ 100 * 10)
    have hmdb := ml_abs hW.1.2.1 (hr + dd) now w p
    rw [← hmd] at hmdb
    have hs1 : sumW (fun i => (chW W w tr i : Int) * ((mi + md) * 1000 ^ n + f1 i)) (j + 1) = sumW (fun i => (chW W w tr i : Int) * ((mi + md) * 1000 ^ n + f1 i)) j + (chW W w tr j : Int) * ((mi + md) * 1000 ^ n + f1 j) := rfl
    have hs2 : sumW (fun i => (chW W w tr i : Int) * f2 i) (j + 1) = sumW (fun i => (chW W w tr i : Int) * f2 i) j + (chW W w tr j : Int) * f2 j := rfl
    have hs3 : minW (chW W w tr) f3 (j + 1) = if chW W w tr j = 0 then minW (chW W w tr) f3 j else (match minW (chW W w tr) f3 j with | none => some (f3 j) | some x => some (if f3 j < x then f3 j else x)) := rfl
    refine go_v (cd := cd141) [] 9 rfl ?_
    refine go_st (cd := cd141) 1 rfl (go_ifF (nI_pos (by omega)) ?_)
    refine go_v (cd := cd141) [] 9 rfl ?_
    refine go_st (cd := cd141) 1 rfl (go_ifF (by rw [nI_eq (by omega) (by omega)]; omega) ?_)
    refine go_v (cd := cd141) [] 9 rfl ?_
    refine go_iald (cd := cd141) rfl (nI_vin (n := 5) (by omega) (by decide)) (lv3 rfl) rfl ?_
    rw [hcl, a101]
    refine go_v (cd := cd141) [] 9 rfl ?_
    refine go_st (cd := cd141) 1 rfl (go_ifF (by rw [show (8 : Int32) = nI 8 from rfl, nI_eq (by omega) (by decide)]; omega) ?_)
    refine go_v (cd := cd141) [] 9 rfl ?_
    refine go_iald (cd := cd141) rfl (nI_vin (n := 5) (by omega) (by decide)) (lv3 rfl) rfl ?_
    rw [hcl, a101]
    refine go_v (cd := cd141) [] 9 rfl ?_
    have h238 : ∀ z : Nat, z = (if j < 4 then 0 else 1) → aTo L xs fv 111 (d + 7) cd141 (238, [(6, .int (nI dd)), (0, .ref 77), (1, .int (nI q)), (2, .int (nI H)), (3, .int n'), (4, .int f'), (5, .int (iZ due))], [.int (nI z)], aHp r rr I J) P := fun z hz => by
      have hz1 : z < 2 := by rw [hz]; split <;> decide
      refine go_v (cd := cd141) [] 9 rfl ?_
      refine go_iald (cd := cd141) rfl (nI_vin (n := 5) (by omega) (by decide)) (lv3 rfl) rfl ?_
      rw [hcl, a101]
      refine go_v (cd := cd141) [] 9 rfl ?_
      refine go_irem (cd := cd141) rfl (by decide) ?_
      rw [show nI j - nI j / 4 * 4 = nI (j % 4) from nI_rem (b := 4) (by omega) (by decide)]
      refine go_v (cd := cd141) [] 9 rfl ?_
      refine go_iald (cd := cd141) rfl (nI_vin (n := 5) (by omega) (by decide)) (lv3 rfl) rfl ?_
      rw [hcl, a101]
      refine go_v (cd := cd141) [] 9 rfl ?_
      refine go_iast (cd := cd141) rfl (nI_vin (n := 5) (by omega) (by decide)) (lv3 rfl) rfl ?_
      rw [hcl, show nI j + 1 = nI (j + 1) from nI_1 j]
      refine go_sub (l' := [(8, .int (nI (j % 4))), (7, .int (nI z)), (6, .int (nI dd)), (0, .ref 77), (1, .int (nI q)), (2, .int (nI H)), (3, .int n'), (4, .int f'), (5, .int (iZ due))]) ⟨rfl, rfl, rfl, rfl, rfl, rfl, rfl, rfl, rfl, trivial⟩ rfl rfl rfl ?_
      generalize hI1 : up2 I 101 dd (nI (j + 1)) = I1
      have hf1 : fr I0 I1 := by rw [← hI1]; exact fr_arr hf (by decide) (by decide)
      have o1 : ∀ i, Nat.beq i 101 = false → I1 i = I i := fun i hi => by rw [← hI1]; exact up2_o hi
      have b1 : I1 101 dd = nI (j + 1) := by rw [← hI1]; exact up2_e
      have b2 : ∀ p, p < dd → I1 101 p = I 101 p := fun p hp => by rw [← hI1]; exact up2_42 (by omega)
      have hlo1 : low dd Ia I1 Ja J := fun p hp => ⟨fun i h1 h2 => by
        by_cases hi : i = 101
        · subst hi; rw [b2 p hp]; exact (hlo p hp).1 101 h1 h2
        · rw [o1 i (nbeq hi)]; exact (hlo p hp).1 i h1 h2, (hlo p hp).2⟩
      have h287 : ∀ y : Nat, y = (if j < 4 then 100 - tr else tr) → aTo L xs fv 111 (d + 7) cd141 (287, [(8, .int (nI (j % 4))), (7, .int (nI z)), (6, .int (nI dd)), (0, .ref 77), (1, .int (nI q)), (2, .int (nI H)), (3, .int n'), (4, .int f'), (5, .int (iZ due))], [.int (nI y)], aHp r rr I1 J) P := fun y hy => by
        refine go_v (cd := cd141) [] 9 rfl ?_
        refine go_iald (cd := cd141) rfl (nI_vin (n := 5) (by omega) (by decide)) (lv3 rfl) rfl ?_
        rw [hcl, o1 96 rfl, a96]
        refine go_v (cd := cd141) [] 9 rfl ?_
        rw [show (4 : Int32) * nI w + nI (j % 4) = nI (4 * w + j % 4) by rw [show (4 : Int32) = nI 4 from rfl, nI_mul, nI_add]]
        refine go_iald (cd := cd141) rfl (nI_vin (n := 16) (by omega) (by decide)) (lv3 rfl) rfl ?_
        rw [nI_clamp (by omega), hf1.1 90 (by decide) (by decide) (by decide), hfol w (j % 4) hw (by omega)]
        refine go_v (cd := cd141) [] 9 rfl ?_
        rw [nI_mul, hy, ← hch, nI_iZ (chW W w tr j), iZ_l (by omega) (by omega)]
        have hl0 := lg_0 (a := (chW W w tr j : Int)) (by omega) (by omega)
        by_cases hc0 : chW W w tr j = 0
        · refine go_st (cd := cd141) 1 rfl (go_ifT (hl0.mpr (by omega)) ?_)
          refine go_v (cd := cd141) [98] 9 rfl ?_
          refine go_sb (ih I1 J (by omega) hf1 hfJ hlo1 ⟨by rw [o1 95 rfl]; exact a95, by rw [o1 96 rfl]; exact a96, by rw [o1 97 rfl]; exact a97, by rw [o1 98 rfl]; exact a98, a102⟩ (by rw [o1 99 rfl]; exact a99) (by rw [o1 100 rfl]; exact a100) b1 ?_ ?_ ?_) ⟨rfl, rfl, rfl, rfl, rfl, rfl, rfl, trivial⟩ rfl rfl rfl
          · rw [hs1, hc0, s44]; simp
          · rw [hs2, hc0, s45]; simp
          · rw [hs3, if_pos hc0, o1 77 rfl]; exact s47
        · refine go_st (cd := cd141) 1 rfl (go_ifF (fun h => hc0 (by have := hl0.mp h; omega)) ?_)
          refine go_sub (l' := [(9, .long (lZ (chW W w tr j))), (8, .int (nI (j % 4))), (7, .int (nI z)), (6, .int (nI dd)), (0, .ref 77), (1, .int (nI q)), (2, .int (nI H)), (3, .int n'), (4, .int f'), (5, .int (iZ due))]) ⟨rfl, rfl, rfl, rfl, rfl, rfl, rfl, rfl, rfl, rfl, trivial⟩ rfl rfl rfl ?_
          have hx2 : ∃ x2 : Int32, bt x2 = nxF p j (bt x) ∧ (j < 4 → x2 = x) ∧ (∀ s, ¬ j < 4 → p = some s → x2 = x &&& ((1 <<< (nI s &&& 31)) ^^^ -1)) := by
            by_cases h4 : j < 4
            · exact ⟨x, by unfold nxF; rw [if_pos h4], fun _ => rfl, fun s h => absurd h4 h⟩
            · cases hp0 : p with
              | none =>
                have := htp hp0
                rw [hch, if_neg h4, this, Nat.zero_mul] at hc0
                exact absurd rfl hc0
              | some s =>
                refine ⟨x &&& ((1 <<< (nI s &&& 31)) ^^^ -1), ?_, fun h => absurd h h4, fun s' _ h => by cases h; rfl⟩
                unfold nxF
                rw [if_neg h4, bt_clr_all (by have := hp s hp0; have := hW.2.1; omega)]
          obtain ⟨x2, hb2, hx4, hx5⟩ := hx2
          -- behind the two conditional stores
          have h386 : aTo L xs fv 111 (d + 7) cd141 (386, [(9, .long (lZ (chW W w tr j))), (8, .int (nI (j % 4))), (7, .int (nI z)), (6, .int (nI dd)), (0, .ref 77), (1, .int (nI q)), (2, .int (nI H)), (3, .int n'), (4, .int f'), (5, .int (iZ due))], [], aHp r rr (up2 (up2 I1 95 (dd + 1) (oI (nxU p j))) 97 (dd + 1) x2) J) P := by
            refine go_v (cd := cd141) [] 9 rfl ?_
            rw [show nI dd + 1 = nI (dd + 1) from nI_1 dd]
            refine go_iast (cd := cd141) rfl (nI_vin (n := 5) (by omega) (by decide)) (lv3 rfl) rfl ?_
            rw [hcl1]
            generalize hI4 : up2 (up2 (up2 I1 95 (dd + 1) (oI (nxU p j))) 97 (dd + 1) x2) 96 (dd + 1) (nI (j % 4)) = I4
            have hf4 : fr I0 I4 := by rw [← hI4]; exact fr_arr (fr_arr (fr_arr hf1 (by decide) (by decide)) (by decide) (by decide)) (by decide) (by decide)
            have o4 : ∀ i, Nat.beq i 95 = false → Nat.beq i 96 = false → Nat.beq i 97 = false → I4 i = I1 i := fun i h1 h2 h3 => by rw [← hI4, up2_o h2, up2_o h3, up2_o h1]
            have q95 : ∀ p, p ≠ dd + 1 → I4 95 p = I 95 p := fun p hp => by rw [← hI4, up2_o rfl, up2_o rfl, up2_42 hp, o1 95 rfl]
            have q96 : ∀ p, p ≠ dd + 1 → I4 96 p = I 96 p := fun p hp => by rw [← hI4, up2_42 hp, up2_o rfl, up2_o rfl, o1 96 rfl]
            have q97 : ∀ p, p ≠ dd + 1 → I4 97 p = I 97 p := fun p hp => by rw [← hI4, up2_o rfl, up2_42 hp, up2_o rfl, o1 97 rfl]
            have t95 : I4 95 (dd + 1) = oI (nxU p j) := by rw [← hI4, up2_o rfl, up2_o rfl, up2_e]
            have t96 : I4 96 (dd + 1) = nI (j % 4) := by rw [← hI4, up2_e]
            have t97 : I4 97 (dd + 1) = x2 := by rw [← hI4, up2_o rfl, up2_e]
            refine go_v (cd := cd141) [] 9 rfl ?_
            refine go_iald (cd := cd141) rfl (nI_vin (n := 5) (by omega) (by decide)) (lv3 rfl) rfl ?_
            rw [hcl, o4 98 rfl rfl rfl, o1 98 rfl, a98, show nI dd + 1 = nI (dd + 1) from nI_1 dd]
            refine go_v (cd := cd141) [] 9 rfl ?_
            refine go_iald (cd := cd141) rfl (nI_vin (n := 5) (by omega) (by decide)) (lv3 rfl) rfl ?_
            rw [hcl, o4 99 rfl rfl rfl, o1 99 rfl, a99]
            refine go_v (cd := cd141) [] 9 rfl ?_
            refine go_iald (cd := cd141) rfl (nI_vin (n := 5) (by omega) (by decide)) (lv3 rfl) rfl ?_
            rw [hcl, q95 dd (by omega), a95]
            refine go_v (cd := cd141) [] 9 rfl ?_
            refine go_iald (cd := cd141) rfl (nI_vin (n := 5) (by omega) (by decide)) (lv3 rfl) rfl ?_
            rw [hcl, q96 dd (by omega), a96]
            refine go_v (cd := cd141) [] 9 rfl ?_
            rw [show ((111 + 3 * r, I4, J, aRf r rr) : aH).2.1 77 6 = nI hr from (hf4.2 6 (by decide)).trans hhr, nI_add]
            have hI489 : I4 = up1 I4 89 (I4 89) := up1_id.symm
            rw [hI489]
            refine go_callv (cd := cd141) rfl rfl rfl rfl rfl (lv3 rfl) rfl (cl_rmiles (p := p) (now := now) (w := w) (h := hr + dd) (rwl_fr hf4 hW) rfl rfl rfl rfl hw (by omega) (fun u hu => by have := hnow u hu; have := hW.2.1; omega) (fun u hu => by have := hp u hu; have := hW.2.1; omega) _ (fun c => ⟨rfl, ?_⟩))
            rw [← hmd]
            refine go_v (cd := cd141) [] 9 rfl ?_
            rw [iZ_add]
            refine go_iast (cd := cd141) rfl (nI_vin (n := 5) (by omega) (by decide)) (lv3 rfl) rfl ?_
            rw [hcl1]
            generalize hI5 : up2 (up1 I4 89 c) 98 (dd + 1) (iZ (mi + md)) = I5
            have hf5 : fr I0 I5 := by rw [← hI5]; exact fr_arr (fr_89 hf4) (by decide) (by decide)
            have o5 : ∀ i, Nat.beq i 98 = false → Nat.beq i 89 = false → I5 i = I4 i := fun i h1 h2 => by rw [← hI5, up2_o h1, up1_o h2]
            have t98 : I5 98 (dd + 1) = iZ (mi + md) := by rw [← hI5, up2_e]
            have q98 : ∀ p, p ≠ dd + 1 → I5 98 p = I 98 p := fun p hp => by rw [← hI5, up2_42 hp, up1_o rfl, o4 98 rfl rfl rfl, o1 98 rfl]
            refine go_v (cd := cd141) [] 9 rfl ?_
            refine go_lald (cd := cd141) rfl (nI_vin (n := 5) (by omega) (by decide)) (lv3 rfl) rfl ?_
            rw [hcl, a102, show nI dd + 1 = nI (dd + 1) from nI_1 dd]
            refine go_v (cd := cd141) [] 9 rfl ?_
            rw [lZ_mul]
            refine go_last (cd := cd141) rfl (nI_vin (n := 5) (by omega) (by decide)) (lv3 rfl) rfl ?_
            rw [hcl1]
            refine go_v (cd := cd141) [468] 9 rfl ?_
            refine go_sub (l' := [(6, .int (nI (dd + 1))), (0, .ref 77), (1, .int (nI q)), (2, .int (nI H)), (3, .int n'), (4, .int f'), (5, .int (iZ due))]) ⟨by rw [nI_succ]; rfl, rfl, rfl, rfl, rfl, rfl, rfl, trivial⟩ rfl rfl rfl ?_
            refine go_v (cd := cd141) [] 9 rfl ?_
            -- all depths up to dd stand as they were, but for the way's number
            have hold : ∀ p, p ≤ dd → (∀ i, 95 ≤ i → i ≤ 100 → I5 i p = I i p) ∧ I5 101 p = I1 101 p := fun p hp => ⟨fun i h1 h2 => by
              by_cases h98 : i = 98
              · subst h98; exact q98 p (by omega)
              · rw [o5 i (nbeq h98) (nbeq (by omega))]
                by_cases h95 : i = 95
                · subst h95; exact q95 p (by omega)
                · by_cases h96 : i = 96
                  · subst h96; exact q96 p (by omega)
                  · by_cases h97 : i = 97
                    · subst h97; exact q97 p (by omega)
                    · rw [o4 i (nbeq h95) (nbeq h96) (nbeq h97), o1 i (nbeq (by omega))], by
              rw [o5 101 rfl rfl, o4 101 rfl rfl rfl]⟩
            refine go_callv (cd := cd141) rfl rfl rfl rfl rfl (lv3 rfl) rfl (cl_enter (dd := dd + 1) (H := H) (hr := hr) (w := j % 4) (now := nxU p j) (x := x2) (mi := mi + md) (wg := wg * chW W w tr j) hf5 hW hS hR hhr hr1 rfl rfl rfl (by omega) hH ⟨by rw [o5 95 rfl rfl]; exact t95, by rw [o5 96 rfl rfl]; exact t96, by rw [o5 97 rfl rfl]; exact t97, t98, up2_e⟩ (by omega) (fun u hu => by
              unfold nxU at hu
              split at hu
              next => exact hp u hu
              next => cases hu) (fun I6 hf6 he6 hp6 hlo6 h77 => ⟨rfl, ?_⟩))
            refine go_v (cd := cd141) [98] 9 rfl ?_
            have hleb : -1000 ≤ leW le (mi + md) (minW (chW W w tr) f3 j) ∧ leW le (mi + md) (minW (chW W w tr) f3 j) ≤ 1000000 := by
              cases hm : minW (chW W w tr) f3 j with
              | none => exact hle
              | some y =>
                have := minW_le (ch := chW W w tr) (f := f3) (B := 500) j (fun i _ => hf3 i) y hm
                show -1000 ≤ mnZ _ _ ∧ mnZ _ _ ≤ 1000000
                unfold mnZ
                split <;> omega
            refine hrec j I6 (up2 J 102 (dd + 1) (lZ (wg * chW W w tr j))) x2 (su + wg * sumW (fun i => (chW W w tr i : Int) * ((mi + md) * 1000 ^ n + f1 i)) j) (al + wg * sumW (fun i => (chW W w tr i : Int) * f2 i) j) (leW le (mi + md) (minW (chW W w tr) f3 j)) hj8 hf6 (frJ_102 hfJ) he6 hb2 hp6 hleb (by rw [up2_o rfl]; exact s44) (by rw [up2_o rfl]; exact s45) (by rw [h77, o5 77 rfl rfl, o4 77 rfl rfl rfl, o1 77 rfl]; exact s47) (fun I7 J7 hf7 hfJ7 hlo7 k44 k45 k47 => ?_)
            rw [show nI (dd + 1) - 1 = nI dd from nI_pred dd]
            have g7 : ∀ p, p ≤ dd → (∀ i, 95 ≤ i → i ≤ 100 → I7 i p = I i p) ∧ I7 101 p = I1 101 p ∧ J7 102 p = J 102 p := fun p hp => by
              have h1 := hlo7 p (by omega)
              have h2 := hlo6 p (by omega)
              have h3 := hold p hp
              refine ⟨fun i h4 h5 => ?_, ?_, ?_⟩
              · rw [h1.1 i h4 (by omega), h2.1 i h4 (by omega), h3.1 i h4 h5]
              · rw [h1.1 101 (by omega) (by omega), h2.1 101 (by omega) (by omega), h3.2]
              · rw [h1.2, up2_42 (by omega)]
            have gd := g7 dd (Nat.le_refl _)
            refine ih I7 J7 (by omega) hf7 hfJ7 (fun p hp => ⟨fun i h1 h2 => ?_, ?_⟩) ⟨?_, ?_, ?_, ?_, ?_⟩ ?_ ?_ ?_ ?_ ?_ ?_
            · by_cases h101 : i = 101
              · subst h101; rw [(g7 p (by omega)).2.1, b2 p hp]; exact (hlo p hp).1 101 h1 h2
              · rw [(g7 p (by omega)).1 i h1 (by omega)]; exact (hlo p hp).1 i h1 h2
            · rw [(g7 p (by omega)).2.2]; exact (hlo p hp).2
            · rw [gd.1 95 (by omega) (by omega)]; exact a95
            · rw [gd.1 96 (by omega) (by omega)]; exact a96
            · rw [gd.1 97 (by omega) (by omega)]; exact a97
            · rw [gd.1 98 (by omega) (by omega)]; exact a98
            · rw [gd.2.2]; exact a102
            · rw [gd.1 99 (by omega) (by omega)]; exact a99
            · rw [gd.1 100 (by omega) (by omega)]; exact a100
            · rw [gd.2.1]; exact b1
            · rw [k44, hs1]
              generalize (mi + md) * 1000 ^ n + f1 j = y
              congr 1
              rw [Int.mul_add, ← Int.mul_assoc, Int.add_assoc]
            · rw [k45, hs2]; congr 1; rw [Int.mul_add, ← Int.mul_assoc, Int.add_assoc]
            · rw [k47, hs3, if_neg hc0]
              congr 1
              cases hm : minW (chW W w tr) f3 j with
              | none => rfl
              | some y =>
                show mnZ (mi + md + f3 j) (mnZ (mi + md + y) le) = mnZ (mi + md + (if f3 j < y then f3 j else y)) le
                unfold mnZ
                repeat' split
                all_goals omega
          by_cases h4 : j < 4
          · rw [if_pos h4] at hz
            subst hz
            refine go_v (cd := cd141) [] 9 rfl ?_
            rw [show nI dd + 1 = nI (dd + 1) from nI_1 dd]
            refine go_st (cd := cd141) 1 rfl (go_ifT rfl ?_)
            refine go_v (cd := cd141) [] 9 rfl ?_
            refine go_iald (cd := cd141) rfl (nI_vin (n := 5) (by omega) (by decide)) (lv3 rfl) rfl ?_
            rw [hcl, o1 99 rfl, a99]
            refine go_iast (cd := cd141) rfl (nI_vin (n := 5) (by omega) (by decide)) (lv3 rfl) rfl ?_
            rw [hcl1]
            refine go_v (cd := cd141) [] 9 rfl ?_
            rw [show nI dd + 1 = nI (dd + 1) from nI_1 dd]
            refine go_st (cd := cd141) 1 rfl (go_ifT rfl ?_)
            refine go_v (cd := cd141) [] 9 rfl ?_
            refine go_iald (cd := cd141) rfl (nI_vin (n := 5) (by omega) (by decide)) (lv3 rfl) rfl ?_
            rw [hcl, up2_o rfl, o1 97 rfl, a97]
            refine go_iast (cd := cd141) rfl (nI_vin (n := 5) (by omega) (by decide)) (lv3 rfl) rfl ?_
            rw [hcl1]
            rw [hx4 h4, show nxU p j = p by unfold nxU; exact if_pos h4] at h386
            exact h386
          · rw [if_neg h4] at hz
            subst hz
            cases hp0 : p with
            | none =>
              have := htp hp0
              rw [hch, if_neg h4, this, Nat.zero_mul] at hc0
              exact absurd rfl hc0
            | some s =>
            refine go_v (cd := cd141) [] 9 rfl ?_
            rw [show nI dd + 1 = nI (dd + 1) from nI_1 dd]
            refine go_st (cd := cd141) 1 rfl (go_ifF (by decide) ?_)
            refine go_v (cd := cd141) [] 9 rfl ?_
            refine go_iast (cd := cd141) rfl (nI_vin (n := 5) (by omega) (by decide)) (lv3 rfl) rfl ?_
            rw [hcl1]
            refine go_v (cd := cd141) [] 9 rfl ?_
            rw [show nI dd + 1 = nI (dd + 1) from nI_1 dd]
            refine go_st (cd := cd141) 1 rfl (go_ifF (by decide) ?_)
            refine go_v (cd := cd141) [] 9 rfl ?_
            refine go_iald (cd := cd141) rfl (nI_vin (n := 5) (by omega) (by decide)) (lv3 rfl) rfl ?_
            rw [hcl, up2_o rfl, o1 97 rfl, a97]
            refine go_v (cd := cd141) [] 9 rfl ?_
            refine go_iald (cd := cd141) rfl (nI_vin (n := 5) (by omega) (by decide)) (lv3 rfl) rfl ?_
            rw [hcl, up2_o rfl, o1 99 rfl, a99, hp0, show oI (some s) = nI s from rfl]
            refine go_v (cd := cd141) [] 9 rfl ?_
            refine go_iast (cd := cd141) rfl (nI_vin (n := 5) (by omega) (by decide)) (lv3 rfl) rfl ?_
            rw [hcl1]
            rw [hx5 s h4 hp0, show nxU p j = none by unfold nxU; exact if_neg h4] at h386
            exact h386
      by_cases h4 : j < 4
      · have hz' := hz
        rw [if_pos h4] at hz'
        subst hz'
        refine go_v (cd := cd141) [] 9 rfl ?_
        refine go_st (cd := cd141) 1 rfl (go_ifT rfl ?_)
        refine go_v (cd := cd141) [] 9 rfl ?_
        refine go_iald (cd := cd141) rfl (nI_vin (n := 5) (by omega) (by decide)) (lv3 rfl) rfl ?_
        rw [hcl, o1 100 rfl, a100]
        refine go_v (cd := cd141) [287] 9 rfl ?_
        rw [show (100 : Int32) - nI tr = nI (100 - tr) from nI_sub (a := 100) htr]
        exact h287 _ (by rw [if_pos h4])
      · have hz' := hz
        rw [if_neg h4] at hz'
        subst hz'
        refine go_v (cd := cd141) [] 9 rfl ?_
        refine go_st (cd := cd141) 1 rfl (go_ifF (by decide) ?_)
        refine go_v (cd := cd141) [] 9 rfl ?_
        refine go_iald (cd := cd141) rfl (nI_vin (n := 5) (by omega) (by decide)) (lv3 rfl) rfl ?_
        rw [hcl, o1 100 rfl, a100]
        refine go_v (cd := cd141) [287] 9 rfl ?_
        exact h287 _ (by rw [if_neg h4])
    by_cases h4 : j < 4
    · refine go_st (cd := cd141) 1 rfl (go_ifT (nI_le (b := 3) (by omega) (by decide)) ?_)
      refine go_v (cd := cd141) [238] 9 rfl ?_
      exact h238 0 (by rw [if_pos h4])
    · refine go_st (cd := cd141) 1 rfl (go_ifF (nI_ge (a := 3) (by omega) (by omega)) ?_)
      refine go_v (cd := cd141) [238] 9 rfl ?_
      exact h238 1 (by rw [if_neg h4])
end DW
