/-! the reference goes all ways, whole -/
theorem sumW_plus {ch : Nat → Nat} {f : Nat → Int} {k : Int} : ∀ n, sumW (fun j => (ch j : Int) * (k + f j)) n = k * sumW (fun j => (ch j : Int)) n + sumW (fun j => (ch j : Int) * f j) n
  | 0 => by simp [sumW]
  | n + 1 => by
    show sumW (fun j => (ch j : Int) * (k + f j)) n + (ch n : Int) * (k + f n) = k * (sumW (fun j => (ch j : Int)) n + (ch n : Int)) + (sumW (fun j => (ch j : Int) * f j) n + (ch n : Int) * f n)
    rw [sumW_plus n, Int.mul_add, Int.mul_add, Int.mul_comm (ch n : Int) k]
    omega
section DG
variable {L : Nat} {xs : Nat → Int32} {fv : Value} {d : Nat} {r : Nat} {rr : Option Nat} {I : Nat → Nat → Int32} {J : Nat → Nat → Int64} {P : Option Value → aH → Prop}
variable {W : Wd} {F : Nat} {S : Sc} {R : Ru} {q : Nat} {I0 : Nat → Nat → Int32} {J0 : Nat → Nat → Int64}
set_option maxHeartbeats 8000000 in
theorem dfs {H hr : Nat} {due : Int} {n' f' : Int32} (hW : rwl W F I0) (hS : rsc S I0) (hR : rrl R q I0) (hhr : I0 77 6 = nI hr) (hr1 : hr ≤ 200) (hfol : ∀ a b, a < 4 → b < 4 → I0 90 (4 * a + b) = nI (folA W.1 a b)) (hH : H ≤ 4) (hdue : -400 ≤ due ∧ due ≤ 400) : ∀ (n dd : Nat) (I : Nat → Nat → Int32) (J : Nat → Nat → Int64) (now : Option Nat) (w : Nat) (x : Int32) (mi wg su al le : Int), dd + n = H → fr I0 I → frJ J0 J → ent I J dd now w x mi wg → pkd W R S hr I dd H now w x → w < 4 → (∀ u, now = some u → u < W.2.2.2) → -(99 * (dd : Int)) ≤ mi → mi ≤ 99 * (dd : Int) → -1000 ≤ le → le ≤ 1000000 → J 77 44 = lZ su → J 77 45 = lZ al → I 77 47 = iZ le →
    (∀ I' J', fr I0 I' → frJ J0 J' → low dd I I' J J' → J' 77 44 = lZ (su + wg * (mi * 1000 ^ n + RV W R S n (hr + dd) now w (bt x))) → J' 77 45 = lZ (al + wg * RS W R S n (hr + dd) now w (bt x) (due - mi)) → I' 77 47 = iZ (mnZ (mi + RWo W R S n (hr + dd) now w (bt x)) le) → aTo L xs fv 111 (d + 7) cd141 (98, [(6, .int (nI dd - 1)), (0, .ref 77), (1, .int (nI q)), (2, .int (nI H)), (3, .int n'), (4, .int f'), (5, .int (iZ due))], [], aHp r rr I' J') P) →
    aTo L xs fv 111 (d + 7) cd141 (98, [(6, .int (nI dd)), (0, .ref 77), (1, .int (nI q)), (2, .int (nI H)), (3, .int n'), (4, .int f'), (5, .int (iZ due))], [], aHp r rr I J) P
  | 0, dd, I, J, now, w, x, mi, wg, su, al, le, hdn, hf, hfJ, he, hp, hw, hnow, m1, m2, l1, l2, s44, s45, s47, K => by
    have hdH : dd = H := hdn
    obtain ⟨a95, a96, a97, a98, a102⟩ := he
    have hcl : (nI dd).toNatClampNeg = dd := nI_clamp (by omega)
    have hmi : -1000 ≤ mi ∧ mi ≤ 1000 := by omega
    refine go_v (cd := cd141) [] 9 rfl ?_
    refine go_st (cd := cd141) 1 rfl (go_ifF (nI_pos (by omega)) ?_)
    refine go_v (cd := cd141) [] 9 rfl ?_
    refine go_st (cd := cd141) 1 rfl (go_ifT (by rw [hdH]) ?_)
    refine go_v (cd := cd141) [] 9 rfl ?_
    refine go_lald (cd := cd141) rfl (nI_vin (n := 5) (by omega) (by decide)) (lv3 rfl) rfl ?_
    rw [hcl, a102]
    refine go_v (cd := cd141) [] 9 rfl ?_
    refine go_iald (cd := cd141) rfl (nI_vin (n := 5) (by omega) (by decide)) (lv3 rfl) rfl ?_
    rw [hcl, a98]
    refine go_v (cd := cd141) [134] 9 rfl ?_
    rw [show ((111 + 3 * r, I, J, aRf r rr) : aH).2.2.1 77 44 = lZ su from s44, iZ_l (by omega) (by omega), lZ_mul, lZ_add]
    show aTo L xs fv 111 (d + 7) cd141 (134, [(6, .int (nI dd)), (0, .ref 77), (1, .int (nI q)), (2, .int (nI H)), (3, .int n'), (4, .int f'), (5, .int (iZ due))], [], aHp r rr I (up2 J 77 44 (lZ (su + wg * mi)))) P
    generalize hJ1 : up2 J 77 44 (lZ (su + wg * mi)) = J1
    have hfJ1 : frJ J0 J1 := by rw [← hJ1]; exact frJ_77 hfJ (Or.inl rfl)
    have j102 : J1 102 = J 102 := by rw [← hJ1]; exact up2_o rfl
    have j44 : J1 77 44 = lZ (su + wg * mi) := by rw [← hJ1]; exact up2_e
    have j45 : J1 77 45 = lZ al := by rw [← hJ1, up2_42 (by decide)]; exact s45
    refine go_v (cd := cd141) [] 9 rfl ?_
    refine go_iald (cd := cd141) rfl (nI_vin (n := 5) (by omega) (by decide)) (lv3 rfl) rfl ?_
    rw [hcl, a98]
    refine go_v (cd := cd141) [] 9 rfl ?_
    have hcmp := iZ_le (a := due) (b := mi) (by omega) (by omega) (by omega) (by omega)
    have h162 : ∀ v : Int, v = (if due - mi ≤ 0 then wg else 0) → aTo L xs fv 111 (d + 7) cd141 (162, [(6, .int (nI dd)), (0, .ref 77), (1, .int (nI q)), (2, .int (nI H)), (3, .int n'), (4, .int f'), (5, .int (iZ due))], [.long (lZ v), .long (lZ al), .ref 77], aHp r rr I J1) P := fun v hv => by
      refine go_v (cd := cd141) [166] 9 rfl ?_
      rw [lZ_add]
      show aTo L xs fv 111 (d + 7) cd141 (166, [(6, .int (nI dd)), (0, .ref 77), (1, .int (nI q)), (2, .int (nI H)), (3, .int n'), (4, .int f'), (5, .int (iZ due))], [], aHp r rr I (up2 J1 77 45 (lZ (al + v)))) P
      generalize hJ2 : up2 J1 77 45 (lZ (al + v)) = J2
      have hfJ2 : frJ J0 J2 := by rw [← hJ2]; exact frJ_77 hfJ1 (Or.inr rfl)
      have j2 : J2 102 = J 102 := by rw [← hJ2, up2_o rfl]; exact j102
      have k44 : J2 77 44 = lZ (su + wg * mi) := by rw [← hJ2, up2_42 (by decide)]; exact j44
      have k45 : J2 77 45 = lZ (al + v) := by rw [← hJ2]; exact up2_e
      have hal : al + v = al + wg * RS W R S 0 (hr + dd) now w (bt x) (due - mi) := by
        rw [hv]
        show _ = al + wg * (if due - mi ≤ 0 then 1 else 0)
        split
        · rw [Int.mul_one]
        · rw [Int.mul_zero]
      have hsu : su + wg * mi = su + wg * (mi * 1000 ^ 0 + RV W R S 0 (hr + dd) now w (bt x)) := by
        show _ = su + wg * (mi * 1000 ^ 0 + 0)
        rw [Int.pow_zero, Int.mul_one, Int.add_zero]
      have h195 : ∀ y : Int, y = mnZ mi le → aTo L xs fv 111 (d + 7) cd141 (195, [(6, .int (nI dd)), (0, .ref 77), (1, .int (nI q)), (2, .int (nI H)), (3, .int n'), (4, .int f'), (5, .int (iZ due))], [.int (iZ y), .ref 77], aHp r rr I J2) P := fun y hy => by
        refine go_v (cd := cd141) [98] 9 rfl ?_
        refine go_sb (K _ J2 (fr_47 hf) hfJ2 (fun p hp => ⟨fun i h1 h2 => by rw [up2_ne (by omega)], by rw [j2]⟩) (by rw [k44, hsu]) (by rw [k45, hal]) (by rw [up2_e, hy]; show _ = iZ (mnZ (mi + 0) le); rw [Int.add_zero])) ⟨by rw [Int32.sub_eq_add_neg]; rfl, rfl, rfl, rfl, rfl, rfl, rfl, trivial⟩ rfl rfl rfl
      refine go_v (cd := cd141) [] 9 rfl ?_
      refine go_iald (cd := cd141) rfl (nI_vin (n := 5) (by omega) (by decide)) (lv3 rfl) rfl ?_
      rw [hcl, a98]
      refine go_v (cd := cd141) [] 9 rfl ?_
      rw [av0, s47]
      have hc2 := iZ_toInt (x := mi) (by omega) (by omega)
      have hc3 : (iZ le).toInt = le := Int32.toInt_ofInt_of_le (by omega) (by omega)
      have hcm : iZ le ≤ iZ mi ↔ le ≤ mi := by rw [Int32.le_iff_toInt_le, hc2, hc3]
      by_cases hc : le ≤ mi
      · refine go_st (cd := cd141) 1 rfl (go_ifT (hcm.mpr hc) ?_)
        refine go_v (cd := cd141) [195] 9 rfl ?_
        rw [av0, s47]
        exact h195 le (by unfold mnZ; rw [if_neg (by omega)])
      · refine go_st (cd := cd141) 1 rfl (go_ifF (fun h => hc (hcm.mp h)) ?_)
        refine go_v (cd := cd141) [] 9 rfl ?_
        refine go_iald (cd := cd141) rfl (nI_vin (n := 5) (by omega) (by decide)) (lv3 rfl) rfl ?_
        rw [hcl, a98]
        refine go_v (cd := cd141) [195] 9 rfl ?_
        exact h195 mi (by unfold mnZ; rw [if_pos (by omega)])
    rw [show aVal (aHp r rr I J1) 1 77 45 = .long (lZ al) from congrArg Value.long j45]
    by_cases hc : due ≤ mi
    · refine go_st (cd := cd141) 1 rfl (go_ifF (Int32.not_lt.mpr (hcmp.mpr hc)) ?_)
      refine go_v (cd := cd141) [] 9 rfl ?_
      refine go_lald (cd := cd141) rfl (nI_vin (n := 5) (by omega) (by decide)) (lv3 rfl) rfl ?_
      rw [hcl, j102, a102]
      refine go_v (cd := cd141) [162] 9 rfl ?_
      exact h162 wg (by rw [if_pos (by omega)])
    · refine go_st (cd := cd141) 1 rfl (go_ifT (Int32.not_le.mp (fun h => hc (hcmp.mp h))) ?_)
      refine go_v (cd := cd141) [162] 9 rfl ?_
      exact h162 0 (by rw [if_neg (by omega)])
  | n + 1, dd, I, J, now, w, x, mi, wg, su, al, le, hdn, hf, hfJ, he, hp, hw, hnow, m1, m2, l1, l2, s44, s45, s47, K => by
    obtain ⟨p1, p2⟩ := hp
    obtain ⟨p3, p4⟩ := p2 (by omega)
    have htr := trW_le W (hr + dd) w (pkW W R S (hr + dd) now w (bt x))
    have hch := ch_sum W hw htr
    refine way_loop (n := n) (dd := dd) (H := H) (hr := hr) (w := w) (tr := trW W (hr + dd) w (pkW W R S (hr + dd) now w (bt x))) (now := now) (p := pkW W R S (hr + dd) now w (bt x)) (x := x) (mi := mi) (md := mlW W (hr + dd) now w (pkW W R S (hr + dd) now w (bt x))) (wg := wg) (due := due) (su := su) (al := al) (le := le)
      (f1 := fun j => RV W R S n (hr + dd + 1) (nxU (pkW W R S (hr + dd) now w (bt x)) j) (j % 4) (nxF (pkW W R S (hr + dd) now w (bt x)) j (bt x)))
      (f2 := fun j => RS W R S n (hr + dd + 1) (nxU (pkW W R S (hr + dd) now w (bt x)) j) (j % 4) (nxF (pkW W R S (hr + dd) now w (bt x)) j (bt x)) (due - mi - mlW W (hr + dd) now w (pkW W R S (hr + dd) now w (bt x))))
      (f3 := fun j => RWo W R S n (hr + dd + 1) (nxU (pkW W R S (hr + dd) now w (bt x)) j) (j % 4) (nxF (pkW W R S (hr + dd) now w (bt x)) j (bt x)))
      (Ia := I) (Ja := J) hW hS hR hhr hr1 hfol hH (by omega) hw hnow pkW_lt htr (fun e => by rw [e]; rfl) rfl (by omega) ⟨l1, l2⟩ (fun j => ?_) (fun j I1 J1 x2 su1 al1 le1 hj g1 g2 g3 g4 g5 g6 g7 g8 g9 K1 => ?_) (fun I1 J1 g1 g2 g3 g4 g5 g6 => ?_) 8 0 I J rfl hf hfJ (fun p hp => ⟨fun _ _ _ => rfl, rfl⟩) he p3 p4 p1 ?_ ?_ s47
    · have := RWo_abs hW.1.2.1 R S n (hr + dd + 1) (nxU (pkW W R S (hr + dd) now w (bt x)) j) (j % 4) (nxF (pkW W R S (hr + dd) now w (bt x)) j (bt x))
      omega
    · have hmd := ml_abs hW.1.2.1 (hr + dd) now w (pkW W R S (hr + dd) now w (bt x))
      refine dfs hW hS hR hhr hr1 hfol hH hdue n (dd + 1) I1 J1 (nxU (pkW W R S (hr + dd) now w (bt x)) j) (j % 4) x2 (mi + mlW W (hr + dd) now w (pkW W R S (hr + dd) now w (bt x))) (wg * chW W w (trW W (hr + dd) w (pkW W R S (hr + dd) now w (bt x))) j) su1 al1 le1 (by omega) g1 g2 g3 g5 (by omega) (fun u hu => ?_) (by push_cast; omega) (by push_cast; omega) g6.1 g6.2 g7 g8 g9 (fun I2 J2 k1 k2 k3 k4 k5 k6 => ?_)
      · unfold nxU at hu
        split at hu
        next => exact pkW_lt u hu
        next => cases hu
      · rw [g4] at k4 k5 k6
        refine K1 I2 J2 k1 k2 k3 k4 ?_ k6
        rw [k5, show due - (mi + mlW W (hr + dd) now w (pkW W R S (hr + dd) now w (bt x))) = due - mi - mlW W (hr + dd) now w (pkW W R S (hr + dd) now w (bt x)) by omega]
        rfl
    · refine K I1 J1 g1 g2 g3 ?_ g5 ?_
      · rw [g4, sumW_plus, hch]
        refine congrArg (fun z => lZ (su + wg * z)) ?_
        show _ = mi * 1000 ^ (n + 1) + (mlW W (hr + dd) now w (pkW W R S (hr + dd) now w (bt x)) * 1000 ^ (n + 1) + _)
        rw [Int.pow_succ]
        generalize (1000 : Int) ^ n = y
        rw [← Int.add_assoc, ← Int.add_mul, Int.mul_assoc]
      · rw [g6]
        congr 1
        cases hm : minW (chW W w (trW W (hr + dd) w (pkW W R S (hr + dd) now w (bt x)))) (fun j => RWo W R S n (hr + dd + 1) (nxU (pkW W R S (hr + dd) now w (bt x)) j) (j % 4) (nxF (pkW W R S (hr + dd) now w (bt x)) j (bt x))) 8 with
        | none =>
          have := minW_none 8 hm
          rw [hch] at this
          exact absurd this (by decide)
        | some y =>
          show mnZ _ le = mnZ (mi + (mlW W (hr + dd) now w (pkW W R S (hr + dd) now w (bt x)) + (minW _ _ 8).getD 0)) le
          rw [hm]
          show mnZ _ le = mnZ (mi + (mlW W (hr + dd) now w (pkW W R S (hr + dd) now w (bt x)) + y)) le
          rw [Int.add_assoc]
    · rw [s44]; congr 1; show su = su + wg * 0; omega
    · rw [s45]; congr 1; show al = al + wg * 0; omega
/-- what all ways leave behind -/
theorem below_loop {H : Nat} {n' f' : Int32} {due : Int} (hH : H ≤ 4) (K : aTo L xs fv 111 d cd141 (49, [(6, .int (nI H)), (0, .ref 77), (1, .int (nI q)), (2, .int (nI H)), (3, .int n'), (4, .int f'), (5, .int (iZ due))], [], aHp r rr I (up2 J 77 46 (lZ (1000 ^ H)))) P) : ∀ m k, k + m = H → aTo L xs fv 111 d cd141 (25, [(6, .int (nI k)), (0, .ref 77), (1, .int (nI q)), (2, .int (nI H)), (3, .int n'), (4, .int f'), (5, .int (iZ due))], [], aHp r rr I (up2 J 77 46 (lZ (1000 ^ k)))) P
  | 0, k, hk => by
    have hk : k = H := hk
    subst hk
    refine go_v (cd := cd141) [] 9 rfl ?_
    refine go_st (cd := cd141) 1 rfl (go_ifT (nI_le (Nat.le_refl _) (by omega)) ?_)
    exact K
  | m + 1, k, hk => by
    have ih := below_loop hH K m (k + 1) (by omega)
    refine go_v (cd := cd141) [] 9 rfl ?_
    refine go_st (cd := cd141) 1 rfl (go_ifF (nI_ge (by omega) (by omega)) ?_)
    refine go_v (cd := cd141) [43] 9 rfl ?_
    rw [show ((111 + 3 * r, I, up2 J 77 46 (lZ (1000 ^ k)), aRf r rr) : aH).2.2.1 77 46 = lZ (1000 ^ k) from (up2_e : up2 J 77 46 (lZ (1000 ^ k)) 77 46 = lZ (1000 ^ k))]
    rw [show (1000 : Int64) = lZ 1000 from by decide +kernel, lZ_mul]
    show aTo L xs fv 111 d cd141 (43, [(6, .int (nI k)), (0, .ref 77), (1, .int (nI q)), (2, .int (nI H)), (3, .int n'), (4, .int f'), (5, .int (iZ due))], [], aHp r rr I (up2 (up2 J 77 46 (lZ (1000 ^ k))) 77 46 (lZ (1000 ^ k * 1000)))) P
    have e : up2 (up2 J 77 46 (lZ (1000 ^ k))) 77 46 (lZ (1000 ^ k * 1000)) = up2 J 77 46 (lZ (1000 ^ (k + 1))) := by
      rw [Int.pow_succ]
      funext a b
      by_cases ha : a = 77
      · subst ha
        by_cases hb : b = 46
        · subst hb; rw [up2_e, up2_e]
        · rw [up2_42 hb, up2_42 hb, up2_42 hb]
      · rw [up2_ne ha, up2_ne ha, up2_ne ha]
    rw [e]
    refine go_v (cd := cd141) [25] 9 rfl ?_
    exact go_sb ih ⟨by rw [nI_succ]; rfl, rfl, rfl, rfl, rfl, rfl, rfl, trivial⟩ rfl rfl rfl
set_option maxHeartbeats 4000000 in
theorem cl_goAll {H hr w : Nat} {now : Option Nat} {x : Int32} {due : Int} {r' h' n' f' d' : Int32} (hW : rwl W F I) (hS : rsc S I) (hR : rrl R q I) (hhr : I 77 6 = nI hr) (hr1 : hr ≤ 200) (hwd : I 77 5 = nI w) (hfol : ∀ a b, a < 4 → b < 4 → I 90 (4 * a + b) = nI (folA W.1 a b)) (h1 : 1 ≤ H) (hH : H ≤ 4) (hdue : -400 ≤ due ∧ due ≤ 400) (hw : w < 4) (hnow : ∀ u, now = some u → u < W.2.2.2) (hr' : r' = nI q) (hh' : h' = nI H) (hn' : n' = oI now) (hf' : f' = x) (hd' : d' = iZ due)
    (k : ∀ I' J', fr I I' → (∀ j, j ≠ 77 → j ≠ 102 → J' j = J j) → J' 77 44 = lZ (RV W R S H hr now w (bt x)) → J' 77 45 = lZ (RS W R S H hr now w (bt x) due) → J' 77 46 = lZ (1000 ^ H) → I' 77 47 = iZ (mnZ (RWo W R S H hr now w (bt x)) 1000000) → P none (aHp r rr I' J')) : aCl L xs fv 111 (d + 8) 141 [.ref 77, .int r', .int h', .int n', .int f', .int d'] (aHp r rr I J) P := by
  refine cl_of rfl (Nat.le_add_right _ _) ?_
  subst hr'; subst hh'; subst hn'; subst hf'; subst hd'
  refine go_v (cd := cd141) [25] 40 rfl ?_
  have e0 : up2 (up2 (up2 J 77 44 0) 77 45 0) 77 46 1 = up2 (up2 (up2 J 77 44 0) 77 45 0) 77 46 (lZ (1000 ^ 0)) := by rw [show (1 : Int64) = lZ (1000 ^ 0) from by decide +kernel]
  show aTo L xs fv 111 (d + 7) cd141 (25, [(6, .int 0), (0, .ref 77), (1, .int (nI q)), (2, .int (nI H)), (3, .int (oI now)), (4, .int f'), (5, .int (iZ due))], [], aHp r rr (up2 I 77 47 1000000) (up2 (up2 (up2 J 77 44 0) 77 45 0) 77 46 1)) P
  rw [e0]
  refine below_loop (n' := oI now) (f' := f') hH ?_ H 0 (by omega)
  generalize hJ1 : up2 (up2 (up2 J 77 44 0) 77 45 0) 77 46 (lZ (1000 ^ H)) = J1
  have j44 : J1 77 44 = lZ 0 := by rw [← hJ1, up2_42 (by decide), up2_42 (by decide), up2_e]; decide +kernel
  have j45 : J1 77 45 = lZ 0 := by rw [← hJ1, up2_42 (by decide), up2_e]; decide +kernel
  have j46 : J1 77 46 = lZ (1000 ^ H) := by rw [← hJ1, up2_e]
  have jo : ∀ j, j ≠ 77 → J1 j = J j := fun j hj => by rw [← hJ1, up2_ne hj, up2_ne hj, up2_ne hj]
  refine go_v (cd := cd141) [] 9 rfl ?_
  refine go_iast (cd := cd141) rfl (nI_vin (j := 0) (n := 5) (by omega) (by decide)) (lv3 rfl) rfl ?_
  refine go_v (cd := cd141) [] 9 rfl ?_
  rw [show aVal (111 + 3 * r, up2 (up2 I 77 47 1000000) 95 (Int32.toNatClampNeg 0) (oI now), J1, aRf r rr) 0 77 5 = .int (nI w) from congrArg Value.int hwd]
  refine go_iast (cd := cd141) rfl (nI_vin (j := 0) (n := 5) (by omega) (by decide)) (lv3 rfl) rfl ?_
  refine go_v (cd := cd141) [] 9 rfl ?_
  refine go_iast (cd := cd141) rfl (nI_vin (j := 0) (n := 5) (by omega) (by decide)) (lv3 rfl) rfl ?_
  refine go_v (cd := cd141) [] 9 rfl ?_
  refine go_iast (cd := cd141) rfl (nI_vin (j := 0) (n := 5) (by omega) (by decide)) (lv3 rfl) rfl ?_
  refine go_v (cd := cd141) [] 9 rfl ?_
  refine go_last (cd := cd141) rfl (nI_vin (j := 0) (n := 5) (by omega) (by decide)) (lv3 rfl) rfl ?_
  refine go_v (cd := cd141) [91] 9 rfl ?_
  refine go_sub (l' := [(6, .int (nI 0)), (0, .ref 77), (1, .int (nI q)), (2, .int (nI H)), (3, .int (oI now)), (4, .int f'), (5, .int (iZ due))]) ⟨rfl, rfl, rfl, rfl, rfl, rfl, rfl, trivial⟩ rfl rfl rfl ?_
  show aTo L xs fv 111 (d + 7) cd141 (91, [(6, .int (nI 0)), (0, .ref 77), (1, .int (nI q)), (2, .int (nI H)), (3, .int (oI now)), (4, .int f'), (5, .int (iZ due))], [], aHp r rr (up2 (up2 (up2 (up2 (up2 I 77 47 1000000) 95 0 (oI now)) 96 0 (nI w)) 97 0 f') 98 0 0) (up2 J1 102 0 1)) P
  generalize hI1 : up2 (up2 (up2 (up2 (up2 I 77 47 1000000) 95 0 (oI now)) 96 0 (nI w)) 97 0 f') 98 0 0 = I1
  have hf1 : fr I I1 := by rw [← hI1]; exact fr_arr (fr_arr (fr_arr (fr_arr (fr_47 fr_refl) (by decide) (by decide)) (by decide) (by decide)) (by decide) (by decide)) (by decide) (by decide)
  have i47 : I1 77 47 = iZ 1000000 := by rw [← hI1, up2_o rfl, up2_o rfl, up2_o rfl, up2_o rfl, up2_e]; decide +kernel
  have he1 : ent I1 (up2 J1 102 0 1) 0 now w f' 0 1 := by
    rw [← hI1]
    refine ⟨?_, ?_, ?_, ?_, ?_⟩
    · rw [up2_o rfl, up2_o rfl, up2_o rfl, up2_e]
    · rw [up2_o rfl, up2_o rfl, up2_e]
    · rw [up2_o rfl, up2_e]
    · rw [up2_e]; decide +kernel
    · rw [up2_e]; decide +kernel
  refine go_v (cd := cd141) [] 9 rfl ?_
  refine go_callv (cd := cd141) rfl rfl rfl rfl rfl (lv3 rfl) rfl (cl_enter (dd := 0) (H := H) (hr := hr) (w := w) (now := now) (x := f') (mi := 0) (wg := 1) hf1 hW hS hR hhr hr1 rfl rfl rfl (by decide) hH he1 hw hnow (fun I2 hf2 he2 hp2 hlo2 h77 => ⟨rfl, ?_⟩))
  refine dfs (J0 := up2 J1 102 0 1) hW hS hR hhr hr1 hfol hH hdue H 0 I2 (up2 J1 102 0 1) now w f' 0 1 0 0 1000000 (by omega) hf2 ⟨fun _ _ _ => rfl, fun _ _ _ => rfl⟩ he2 hp2 hw hnow (by omega) (by omega) (by omega) (by omega) (by rw [up2_o rfl]; exact j44) (by rw [up2_o rfl]; exact j45) (by rw [h77]; exact i47) (fun I3 J3 hf3 hfJ3 hlo3 k44 k45 k47 => ?_)
  refine go_v (cd := cd141) [] 9 rfl ?_
  refine go_st (cd := cd141) 1 rfl (go_ifT (by decide) ?_)
  refine go_return (cd := cd141) rfl (k I3 J3 hf3 (fun j a b => by rw [hfJ3.1 j a b, up2_ne b, jo j a]) ?_ ?_ ?_ ?_)
  · rw [k44]; congr 1; rw [Int.zero_mul, Int.zero_add, Int.zero_add, Int.one_mul]; rfl
  · rw [k45]; congr 1; rw [Int.sub_zero, Int.zero_add, Int.one_mul]; rfl
  · rw [hfJ3.2 46 (by decide) (by decide), up2_o rfl]; exact j46
  · rw [k47]; congr 1; rw [Int.zero_add]; rfl
end DG
