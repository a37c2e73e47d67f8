/-! the class looks n hours ahead, whole -/
section AW
variable {L : Nat} {xs : Nat → Int32} {fv : Value} {d : Nat} {r : Nat} {rr : Option Nat} {I : Nat → Nat → Int32} {J : Nat → Nat → Int64} {P : Option Value → aH → Prop}
variable {A : Nat → List Cl} {W : Wd} {S : Sc} {R : Ru} {b : Nat}
/-- what the last hour brings -/
theorem AV_0 {t : Nat} (ht : t ≤ 2) {h w : Nat} {now : Option Nat} {fit : Nat → Bool} {m : Int} : AV t W R S 0 h now w fit m = if t = 1 then (if m ≤ mlW W h now w (pkW W R S h now w fit) then 1 else 0) else mlW W h now w (pkW W R S h now w fit) := by
  unfold AV VV SV LV
  by_cases h0 : t = 0
  · subst h0; rfl
  · rw [if_neg h0]
set_option maxHeartbeats 8000000 in
theorem cl_ahead {t : Nat} {t' : Int32} (ht : t ≤ 2) (ht' : t' = nI t) (hW : wld A W I) (hb : isR r b) (hR : rul R b I) (hR5 : ∀ g, rul R b (up1 I 5 g)) : ∀ (n : Nat) (h w : Nat) (now : Option Nat) (fit : Nat → Bool) (m : Int) (n' m' : Int32) (g c : Nat → Int32) (P : Option Value → aH → Prop), n ≤ 3 → h + n + 10 < 900 → -1000 + 100 * (n : Int) ≤ m → m ≤ 1000 - 100 * (n : Int) → n' = nI (n + 1) → m' = iZ m → scn W S h now w fit 5 (up1 I 5 g) → iX A (hpT I g c) →
    (∀ c, iX A (hpT I g c) → P (some (.long (lZ (AV t W R S n h now w fit m)))) (aHp r rr (hpT I g c) J)) → aCl L xs fv 111 (d + n + 5) 85 [.ref 0, .int t', .ref b, .int n', .int m'] (aHp r rr (hpT I g c) J) P := by
  intro n
  induction n with
  | zero =>
    intro h w now fit m n' m' g c P hn hh hm1 hm2 hn' hm' hS hX k
    subst hn'; subst hm'; subst ht'
    show aCl L xs fv 111 (d + 4 + 1) 85 _ _ P
    refine cl_of rfl (Nat.le_add_right _ _) ?_
    have hml := ml_abs hW.2.2.2.2.1 h now w (pkW W R S h now w fit)
    rw [AV_0 ht] at k
    refine go_v (cd := cd85) [] 9 rfl ?_
    refine go_callv (cd := cd85) rfl rfl rfl rfl rfl (lv3 rfl) rfl (cl_choice5 (wld_5 hW) hS hb (hR5 g) c hX (fun c hX => ⟨rfl, ?_⟩))
    refine go_v (cd := cd85) [] 9 rfl ?_
    refine go_callv (cd := cd85) rfl rfl rfl rfl rfl (lv3 rfl) rfl (cl_miles5 (p := pkW W R S h now w fit) (wld_5 hW) hS rfl pkW_lt c hX (fun c hX => ⟨rfl, ?_⟩))
    refine go_v (cd := cd85) [] 9 rfl ?_
    refine go_st (cd := cd85) 1 rfl (go_ifF (by decide) ?_)
    refine go_v (cd := cd85) [] 9 rfl ?_
    have h3 : t = 0 ∨ t = 1 ∨ t = 2 := by omega
    rcases h3 with h3 | h3 | h3
    · subst h3
      rw [if_neg (by decide)] at k
      refine go_st (cd := cd85) 1 rfl (go_ifF (by decide) ?_)
      refine go_v (cd := cd85) [] 9 rfl ?_
      refine go_lreturn (cd := cd85) rfl ?_
      rw [iZ_l (by omega) (by omega)]
      exact k c hX
    · subst h3
      rw [if_pos rfl] at k
      refine go_st (cd := cd85) 1 rfl (go_ifT rfl ?_)
      refine go_v (cd := cd85) [] 9 rfl ?_
      have hcmp := iZ_le (a := m) (b := mlW W h now w (pkW W R S h now w fit)) (by omega) (by omega) (by omega) (by omega)
      by_cases hc : m ≤ mlW W h now w (pkW W R S h now w fit)
      · rw [if_pos hc] at k
        refine go_st (cd := cd85) 1 rfl (go_ifF (Int32.not_lt.mpr (hcmp.mpr hc)) ?_)
        refine go_v (cd := cd85) [] 9 rfl ?_
        exact go_lreturn (cd := cd85) rfl (k c hX)
      · rw [if_neg hc] at k
        refine go_st (cd := cd85) 1 rfl (go_ifT (Int32.not_le.mp (fun hl => hc (hcmp.mp hl))) ?_)
        refine go_v (cd := cd85) [] 9 rfl ?_
        exact go_lreturn (cd := cd85) rfl (k c hX)
    · subst h3
      rw [if_neg (by decide)] at k
      refine go_st (cd := cd85) 1 rfl (go_ifF (by decide) ?_)
      refine go_v (cd := cd85) [] 9 rfl ?_
      refine go_lreturn (cd := cd85) rfl ?_
      rw [iZ_l (by omega) (by omega)]
      exact k c hX
  | succ n ih =>
    intro h w now fit m n' m' g c P hn hh hm1 hm2 hn' hm' hS hX k
    subst hn'; subst hm'; subst ht'
    show aCl L xs fv 111 (d + (n + 1) + 4 + 1) 85 _ _ P
    refine cl_of rfl (Nat.le_add_right _ _) ?_
    have hlw := hW.2.2.2.2.1
    have hml := ml_abs hlw h now w (pkW W R S h now w fit)
    have htr := trW_le W h w (pkW W R S h now w fit)
    have hS0 := hS
    obtain ⟨e0, e1, e2, e4, e5, e6, e7, e8, e9, eA, eB⟩ := hS0
    rw [up1_e] at e0 e1 e2
    obtain ⟨hB1, hB2, hB3⟩ := hbR_ok hW
    refine go_v (cd := cd85) [] 9 rfl ?_
    refine go_callv (cd := cd85) rfl rfl rfl rfl rfl (lv3 rfl) rfl (cl_choice5 (wld_5 hW) hS hb (hR5 g) c hX (fun c hX => ⟨rfl, ?_⟩))
    refine go_v (cd := cd85) [] 9 rfl ?_
    refine go_callv (cd := cd85) rfl rfl rfl rfl rfl (lv3 rfl) rfl (cl_miles5 (p := pkW W R S h now w fit) (wld_5 hW) hS rfl pkW_lt c hX (fun c hX => ⟨rfl, ?_⟩))
    refine go_v (cd := cd85) [23] 9 rfl ?_
    refine go_sub (l' := [(6, .int (iZ (mlW W h now w (pkW W R S h now w fit)))), (5, .int (oI (pkW W R S h now w fit))), (0, .ref 0), (1, .int (nI t)), (2, .ref b), (3, .int (nI (n + 2))), (4, .int (iZ m))]) ⟨rfl, rfl, rfl, rfl, rfl, rfl, rfl, trivial⟩ rfl rfl rfl ?_
    refine go_v (cd := cd85) [] 9 rfl ?_
    refine go_st (cd := cd85) 1 rfl (go_ifT (nI_lt (a := 1) (by omega) (by omega)) ?_)
    refine go_v (cd := cd85) [79] 40 rfl ?_
    refine go_sub (l' := [(9, .int (g 6)), (8, .int (g 1)), (7, .int (g 0)), (6, .int (iZ (mlW W h now w (pkW W R S h now w fit)))), (5, .int (oI (pkW W R S h now w fit))), (0, .ref 0), (1, .int (nI t)), (2, .ref b), (3, .int (nI (n + 2))), (4, .int (iZ m))]) ⟨rfl, rfl, rfl, rfl, rfl, rfl, rfl, rfl, rfl, rfl, trivial⟩ rfl rfl rfl ?_
    rw [e0, e1]
    refine go_v (cd := cd85) [] 40 rfl ?_
    rw [av0, show up1 (up1 I 5 g) 19 c 5 = g from hp_5, e2]
    refine go_callv (cd := cd85) rfl rfl rfl rfl rfl (lv3 rfl) rfl (cl_pace (z := 1) (w := w) (h := h) (o := pkW W R S h now w fit) (wld_5 hW) rfl rfl rfl rfl (by decide) pkW_lt e8 (by omega) c hX (fun c hX => ⟨rfl, ?_⟩))
    refine go_v (cd := cd85) [97] 9 rfl ?_
    refine go_sub (l' := [(10, .int (nI (trW W h w (pkW W R S h now w fit)))), (9, .int (g 6)), (8, .int (nI w)), (7, .int (oI now)), (6, .int (iZ (mlW W h now w (pkW W R S h now w fit)))), (5, .int (oI (pkW W R S h now w fit))), (0, .ref 0), (1, .int (nI t)), (2, .ref b), (3, .int (nI (n + 2))), (4, .int (iZ m))]) ⟨rfl, rfl, rfl, rfl, rfl, rfl, rfl, rfl, rfl, rfl, rfl, trivial⟩ rfl rfl rfl ?_
    refine go_v (cd := cd85) [] 9 rfl ?_
    refine go_callv (cd := cd85) rfl rfl rfl rfl rfl (lv3 rfl) rfl (cl_holding (wld_19 (wld_5 hW)) ⟨rfl, ?_⟩)
    rw [show up1 (up1 I 5 g) 19 c 77 = I 77 from rfl]
    refine go_getR (cd := cd85) rfl (isB_lt hB1) (isB_k hB1) (isB_R hB1).2.2.2.2.2 ?_
    refine go_v (cd := cd85) [114] 40 rfl ?_
    refine go_sub (l' := [(14, .long (lmA none)), (12, .long (lZ 0)), (11, .ref (hbR (I 77 11) + 6)), (10, .int (nI (trW W h w (pkW W R S h now w fit)))), (9, .int (g 6)), (8, .int (nI w)), (7, .int (oI now)), (6, .int (iZ (mlW W h now w (pkW W R S h now w fit)))), (5, .int (oI (pkW W R S h now w fit))), (0, .ref 0), (1, .int (nI t)), (2, .ref b), (3, .int (nI (n + 2))), (4, .int (iZ m))]) ⟨rfl, by rw [show lZ 0 = (0 : Int64) from by decide +kernel]; rfl, rfl, rfl, rfl, rfl, rfl, rfl, rfl, rfl, rfl, rfl, rfl, rfl, trivial⟩ rfl rfl rfl ?_
    refine go_v (cd := cd85) [130] 40 rfl ?_
    rw [hp_put]
    refine go_sub (l' := [(16, .int (nI 0)), (14, .long (lmA none)), (12, .long (lZ 0)), (11, .ref (hbR (I 77 11) + 6)), (10, .int (nI (trW W h w (pkW W R S h now w fit)))), (9, .int (g 6)), (8, .int (nI w)), (7, .int (oI now)), (6, .int (iZ (mlW W h now w (pkW W R S h now w fit)))), (5, .int (oI (pkW W R S h now w fit))), (0, .ref 0), (1, .int (nI t)), (2, .ref b), (3, .int (nI (n + 2))), (4, .int (iZ m))]) ⟨rfl, rfl, rfl, rfl, rfl, rfl, rfl, rfl, rfl, rfl, rfl, rfl, rfl, rfl, rfl, trivial⟩ rfl rfl rfl ?_
    refine ahead_loop (f := fun j => AV t W R S n (h + 1) (nxU (pkW W R S h now w fit) j) (j % 4) (nxF (pkW W R S h now w fit) j fit) (m - mlW W h now w (pkW W R S h now w fit))) (md := mlW W h now w (pkW W R S h now w fit)) (tr := trW W h w (pkW W R S h now w fit)) (p := pkW W R S h now w fit) (x := g 6) (g := g) hW hb hS (by omega) (by omega) rfl pkW_lt htr (fun e => by rw [e]; rfl) (fun j => AV_abs hlw R S (by omega) (by omega)) (fun j gg c P' hj hsc hX hk => ?_) (fun gg c hg hX => ?_) 8 0 _ c rfl (fun q h0 h1 h6 => ?_) (iX_5 hX)
    · rw [show d + (n + 1) + 4 = d + n + 5 by omega]
      exact ih (h + 1) (j % 4) _ _ (m - mlW W h now w (pkW W R S h now w fit)) _ _ gg c P' (by omega) (by omega) (by omega) (by omega) rfl rfl hsc hX hk
    · have hgf : ∀ y, y = gg 2 - 1 → (fun q => if q = 6 then g 6 else if q = 1 then nI w else if q = 0 then oI now else if q = 2 then y else gg q) = g := fun y hy => by
        funext q
        by_cases h6 : q = 6
        · rw [if_pos h6, h6]
        rw [if_neg h6]
        by_cases h1 : q = 1
        · rw [if_pos h1, h1, e1]
        rw [if_neg h1]
        by_cases h0 : q = 0
        · rw [if_pos h0, h0, e0]
        rw [if_neg h0]
        by_cases h2 : q = 2
        · rw [if_pos h2, h2, hy, hg 2 (by decide) (by decide) (by decide), if_pos rfl, Int32.add_sub_cancel]
        rw [if_neg h2, hg q h0 h1 h6, if_neg h2]
      have hsum1 := ch_sum W e8 htr
      have hav := AV_succ (t := t) (W := W) (R := R) (S := S) (n := n) (h := h) (now := now) (w := w) (fit := fit) (m := m)
      refine go_v (cd := cd85) [] 60 rfl ?_
      rw [hp_put, hp_put, hp_put, hp_put, hgf]
      rotate_left
      · rfl
      have h3 : t = 0 ∨ t = 1 ∨ t = 2 := by omega
      rcases h3 with h3 | h3 | h3
      · rw [h3, if_pos rfl] at hav
        rw [h3] at k ⊢
        refine go_st (cd := cd85) 1 rfl (go_ifF (by decide) ?_)
        refine go_v (cd := cd85) [] 9 rfl ?_
        refine go_st (cd := cd85) 1 rfl (go_ifF (by decide) ?_)
        refine go_v (cd := cd85) [] 9 rfl ?_
        refine go_laldS (cd := cd85) rfl (nI_vin (n := 5) (by omega) (by decide)) rfl ?_
        have hodds : (aZ0 xs).2 1002 (nI (n + 2)).toNatClampNeg = lZ (1000 ^ (n + 1)) := by
          have hn2 : n = 0 ∨ n = 1 ∨ n = 2 := by omega
          rcases hn2 with rfl | rfl | rfl
          · exact (azW2).trans (by decide +kernel)
          · exact (azW3).trans (by decide +kernel)
          · exact (azW4).trans (by decide +kernel)
        rw [hodds]
        refine go_v (cd := cd85) [] 9 rfl ?_
        rw [iZ_l (by omega) (by omega), lZ_mul, lZ_add, ← hav]
        exact go_lreturn (cd := cd85) rfl (k c hX)
      · rw [h3, if_neg (by decide), if_pos rfl] at hav
        rw [h3] at k ⊢
        refine go_st (cd := cd85) 1 rfl (go_ifF (by decide) ?_)
        refine go_v (cd := cd85) [] 9 rfl ?_
        refine go_st (cd := cd85) 1 rfl (go_ifT rfl ?_)
        refine go_v (cd := cd85) [] 9 rfl ?_
        rw [← hav]
        exact go_lreturn (cd := cd85) rfl (k c hX)
      · rw [h3, if_neg (by decide), if_neg (by decide)] at hav
        rw [h3] at k ⊢
        refine go_st (cd := cd85) 1 rfl (go_ifT rfl ?_)
        refine go_v (cd := cd85) [] 9 rfl ?_
        cases hm : minW (chW W w (trW W h w (pkW W R S h now w fit))) (fun j => AV 2 W R S n (h + 1) (nxU (pkW W R S h now w fit) j) (j % 4) (nxF (pkW W R S h now w fit) j fit) (m - mlW W h now w (pkW W R S h now w fit))) 8 with
        | none =>
          have := minW_none 8 hm
          rw [hsum1] at this
          exact absurd this (by decide)
        | some y =>
          rw [hm] at hav
          rw [iZ_l (by omega) (by omega), show lmA (some y) = lZ y from rfl, lZ_add]
          rw [show mlW W h now w (pkW W R S h now w fit) + y = AV 2 W R S (n + 1) h now w fit m from hav.symm]
          exact go_lreturn (cd := cd85) rfl (k c hX)
    · show (if q = 2 then _ else g q) = _
      by_cases h2 : q = 2
      · rw [if_pos h2, if_pos h2]; rfl
      · rw [if_neg h2, if_neg h2]
end AW
