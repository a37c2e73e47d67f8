/-! the class looks n hours ahead -/
def lmA : Option Int → Int64
  | none => 9223372036854775807
  | some x => lZ x
theorem isB_5 {b k : Nat} (h : isB b) (hk : k < 7) : b + k ≠ 5 := by
  rcases h with h | ⟨f, h, h2⟩ <;> omega
/-- the trial scene's cell and the paces' cell -/
abbrev hpT (I : Nat → Nat → Int32) (g c : Nat → Int32) : Nat → Nat → Int32 := up1 (up1 I 5 g) 19 c
theorem hp_put {I : Nat → Nat → Int32} {g c : Nat → Int32} {k : Nat} {v : Int32} : up2 (hpT I g c) 5 k v = hpT I (fun q => if q = k then v else g q) c := by
  unfold hpT
  rw [up2_1, up1_o (show Nat.beq 5 19 = false from rfl), up1_e, up1_sw (show 19 ≠ 5 by decide), up1_1]
theorem hp_5 {I : Nat → Nat → Int32} {g c : Nat → Int32} : hpT I g c 5 = g := by
  unfold hpT
  rw [up1_o rfl, up1_e]
theorem wld_5 {A : Nat → List Cl} {W : Wd} {I : Nat → Nat → Int32} {g : Nat → Int32} (hW : wld A W I) : wld A W (up1 I 5 g) := by
  obtain ⟨w1, w2, w3, w4, w5, w6, w7, w8, w9, wA, wB⟩ := hW
  exact ⟨w1, w2, w3, w4, w5, iC_c (I := I) rfl rfl rfl rfl rfl rfl rfl rfl (fun j hj => up1_ne (by omega)) (fun j hj => up1_ne (by omega)) w6, w7, w8, w9, wA, wB⟩
theorem iX_5 {A : Nat → List Cl} {I : Nat → Nat → Int32} {g g' c : Nat → Int32} (hX : iX A (hpT I g c)) : iX A (hpT I g' c) := iX_c (I := hpT I g c) rfl rfl rfl rfl hX
theorem bt_clr_all {s : Nat} (hs : s < 6) (x : Int32) : bt (x &&& ((1 <<< (nI s &&& 31)) ^^^ -1)) = fun k => bt x k && !(decide (k = s)) := by
  have h : ∀ s' : Fin 6, ∀ k' : Fin 32, bt ((1 <<< (nI s'.val &&& 31)) ^^^ -1) k'.val = !(decide (k'.val = s'.val)) := by decide +kernel
  funext k
  rw [bt_and]
  by_cases hk : k < 32
  · rw [h ⟨s, hs⟩ ⟨k, hk⟩]
  · have hz : ∀ y : Int32, bt y k = false := fun y => by
      unfold bt; exact BitVec.getLsbD_of_ge _ _ (by omega)
    rw [hz x, Bool.false_and, Bool.false_and]
/-- which scene contents are as g, but for up, wind and whole, an hour on -/
def scH (g gg : Nat → Int32) : Prop := ∀ q, q ≠ 0 → q ≠ 1 → q ≠ 6 → gg q = if q = 2 then g 2 + 1 else g q
section AH
variable {L : Nat} {xs : Nat → Int32} {fv : Value} {d : Nat} {r : Nat} {rr : Option Nat} {I : Nat → Nat → Int32} {J : Nat → Nat → Int64} {P : Option Value → aH → Prop}
variable {A : Nat → List Cl} {W : Wd} {S : Sc} {R : Ru} {b : Nat}
set_option maxHeartbeats 8000000 in
theorem ahead_loop {t n h w tr : Nat} {now p : Option Nat} {fit : Nat → Bool} {md m : Int} {x : Int32} {g : Nat → Int32} {f : Nat → Int} (hW : wld A W I) (hb : isR r b) (hS : scn W S h now w fit 5 (up1 I 5 g)) (hh : h + 10 < 900) (hn : n ≤ 2) (hx : x = g 6) (hp : ∀ s, p = some s → s < W.2.2.2) (htr : tr ≤ 100) (htp : p = none → tr = 0) (hf : ∀ j, -1000000000000 ≤ f j ∧ f j ≤ 1000000000000)
    (hrec : ∀ j gg c (P' : Option Value → aH → Prop), j < 8 → scn W S (h + 1) (nxU p j) (j % 4) (nxF p j fit) 5 (up1 I 5 gg) → iX A (hpT I gg c) → (∀ c, iX A (hpT I gg c) → P' (some (.long (lZ (f j)))) (aHp r rr (hpT I gg c) J)) → aCl L xs fv 111 d 85 [.ref 0, .int (nI t), .ref b, .int (nI (n + 1)), .int (iZ (m - md))] (aHp r rr (hpT I gg c) J) P')
    (kend : ∀ gg c, scH g gg → iX A (hpT I gg c) → aTo L xs fv 111 d cd85 (284, [(16, .int (nI 8)), (14, .long (lmA (minW (chW W w tr) f 8))), (12, .long (lZ (sumW (fun j => (chW W w tr j : Int) * f j) 8))), (11, .ref (hbR (I 77 11) + 6)), (10, .int (nI tr)), (9, .int x), (8, .int (nI w)), (7, .int (oI now)), (6, .int (iZ md)), (5, .int (oI p)), (0, .ref 0), (1, .int (nI t)), (2, .ref b), (3, .int (nI (n + 2))), (4, .int (iZ m))], [], aHp r rr (hpT I gg c) J) P) :
    ∀ mm j gg c, j + mm = 8 → scH g gg → iX A (hpT I gg c) → aTo L xs fv 111 d cd85 (130, [(16, .int (nI j)), (14, .long (lmA (minW (chW W w tr) f j))), (12, .long (lZ (sumW (fun j => (chW W w tr j : Int) * f j) j))), (11, .ref (hbR (I 77 11) + 6)), (10, .int (nI tr)), (9, .int x), (8, .int (nI w)), (7, .int (oI now)), (6, .int (iZ md)), (5, .int (oI p)), (0, .ref 0), (1, .int (nI t)), (2, .ref b), (3, .int (nI (n + 2))), (4, .int (iZ m))], [], aHp r rr (hpT I gg c) J) P
  | 0, j, gg, c, hj, hg, hX => by
    have hj : j = 8 := hj
    subst hj
    refine go_v (cd := cd85) [] 9 rfl ?_
    refine go_st (cd := cd85) 1 rfl (go_ifT (by decide) ?_)
    exact kend gg c hg hX
  | mm + 1, j, gg, c, hj, hg, hX => by
    have hj8 : j < 8 := by omega
    obtain ⟨e0, e1, e2, e4, e5, e6, e7, e8, e9, eA, eB⟩ := hS
    have hc6 := hW.1
    have ih := ahead_loop hW hb ⟨e0, e1, e2, e4, e5, e6, e7, e8, e9, eA, eB⟩ hh hn hx hp htr htp hf hrec kend mm (j + 1)
    obtain ⟨hB1, hB2, hB3⟩ := hbR_ok hW
    have hch : chW W w tr j = (if j < 4 then 100 - tr else tr) * folA W.1 w (j % 4) := rfl
    have hfl := folA_le W.1 w (j % 4)
    have hcb : chW W w tr j ≤ 1000 := by
      rw [hch]
      have h1 : (if j < 4 then 100 - tr else tr) ≤ 100 := by split <;> omega
      exact (Nat.mul_le_mul h1 hfl : _ ≤ 100 * 10)
    have hsum : sumW (fun j => (chW W w tr j : Int) * f j) (j + 1) = sumW (fun j => (chW W w tr j : Int) * f j) j + (chW W w tr j : Int) * f j := rfl
    refine go_v (cd := cd85) [] 9 rfl ?_
    refine go_st (cd := cd85) 1 rfl (go_ifF (nI_ge (b := 8) hj8 (by decide)) ?_)
    refine go_v (cd := cd85) [] 9 rfl ?_
    -- from 148 on: tore
    have h148 : ∀ z : Nat, z = (if j < 4 then 0 else 1) → aTo L xs fv 111 d cd85 (148, [(16, .int (nI j)), (14, .long (lmA (minW (chW W w tr) f j))), (12, .long (lZ (sumW (fun j => (chW W w tr j : Int) * f j) j))), (11, .ref (hbR (I 77 11) + 6)), (10, .int (nI tr)), (9, .int x), (8, .int (nI w)), (7, .int (oI now)), (6, .int (iZ md)), (5, .int (oI p)), (0, .ref 0), (1, .int (nI t)), (2, .ref b), (3, .int (nI (n + 2))), (4, .int (iZ m))], [.int (nI z)], aHp r rr (hpT I gg c) J) P := fun z hz => by
      have hz1 : z < 2 := by rw [hz]; split <;> decide
      refine go_v (cd := cd85) [] 9 rfl ?_
      refine go_irem (cd := cd85) rfl (by decide) ?_
      rw [show nI j - nI j / 4 * 4 = nI (j % 4) from nI_rem (b := 4) (by omega) (by decide)]
      refine go_v (cd := cd85) [] 9 rfl ?_
      have h171 : ∀ y : Nat, y = (if j < 4 then 100 - tr else tr) → aTo L xs fv 111 d cd85 (171, (18, .int (nI (j % 4))) :: (17, .int (nI z)) :: [(16, .int (nI j)), (14, .long (lmA (minW (chW W w tr) f j))), (12, .long (lZ (sumW (fun j => (chW W w tr j : Int) * f j) j))), (11, .ref (hbR (I 77 11) + 6)), (10, .int (nI tr)), (9, .int x), (8, .int (nI w)), (7, .int (oI now)), (6, .int (iZ md)), (5, .int (oI p)), (0, .ref 0), (1, .int (nI t)), (2, .ref b), (3, .int (nI (n + 2))), (4, .int (iZ m))], [.int (nI y)], aHp r rr (hpT I gg c) J) P := fun y hy => by
        have hix : nI w * 4 + nI (j % 4) = nI (4 * w + j % 4) := by
          rw [show (4 : Int32) = nI 4 from rfl, nI_mul, nI_add]; congr 1; omega
        refine go_v (cd := cd85) [] 20 rfl ?_
        rw [hix]
        refine go_iald (cd := cd85) rfl (isB_i6 hB1 (by omega)) (isB_lt7 hB1 (by decide)) (isB_k1 hB1).2.2.2.2.2 ?_
        have hod : hpT I gg c (hbR (I 77 11) + 6) = I (hbR (I 77 11) + 6) := by
          unfold hpT
          rw [up1_ne (isB_19 hB1 (by decide)), up1_ne (isB_5 hB1 (by decide))]
        rw [hod, nI_clamp (by omega), hB3.2 w (j % 4) e8 (by omega)]
        refine go_v (cd := cd85) [] 9 rfl ?_
        rw [nI_mul, hy, ← hch]
        have hskip : sumW (fun j => (chW W w tr j : Int) * f j) (j + 1) = sumW (fun j => (chW W w tr j : Int) * f j) j → minW (chW W w tr) f (j + 1) = minW (chW W w tr) f j → ∀ gg c, scH g gg → iX A (hpT I gg c) → aTo L xs fv 111 d cd85 (278, (19, .int (nI (chW W w tr j))) :: (18, .int (nI (j % 4))) :: (17, .int (nI z)) :: [(16, .int (nI j)), (14, .long (lmA (minW (chW W w tr) f j))), (12, .long (lZ (sumW (fun j => (chW W w tr j : Int) * f j) j))), (11, .ref (hbR (I 77 11) + 6)), (10, .int (nI tr)), (9, .int x), (8, .int (nI w)), (7, .int (oI now)), (6, .int (iZ md)), (5, .int (oI p)), (0, .ref 0), (1, .int (nI t)), (2, .ref b), (3, .int (nI (n + 2))), (4, .int (iZ m))], [], aHp r rr (hpT I gg c) J) P := fun h1 h2 gg c hg hX => by
          have ih' := ih gg c (by omega) hg hX
          rw [h1, h2, nI_succ] at ih'
          refine go_v (cd := cd85) [130] 9 rfl ?_
          exact go_sb ih' ⟨rfl, rfl, rfl, rfl, rfl, rfl, rfl, rfl, rfl, rfl, rfl, rfl, rfl, rfl, rfl, trivial⟩ rfl rfl rfl
        by_cases hc0 : chW W w tr j = 0
        · rw [hc0] at hskip hsum ⊢
          refine go_st (cd := cd85) 1 rfl (go_ifT (by decide) ?_)
          refine hskip (by rw [hsum]; simp) ?_ gg c hg hX
          show (if chW W w tr j = 0 then minW (chW W w tr) f j else _) = minW (chW W w tr) f j
          exact if_pos hc0
        · refine go_st (cd := cd85) 1 rfl (go_ifF (nI_nle (by omega) (by omega)) ?_)
          -- the scene of the way
          have hx2 : ∃ x2 : Int32, bt x2 = nxF p j fit ∧ (j < 4 → x2 = x) ∧ (∀ s, ¬ j < 4 → p = some s → x2 = x &&& ((1 <<< (nI s &&& 31)) ^^^ -1)) := by
            have e6' : bt x = fit := by rw [hx]; exact e6
            by_cases h4 : j < 4
            · exact ⟨x, by unfold nxF; rw [if_pos h4]; exact e6', fun _ => rfl, fun s h => absurd h4 h⟩
            · cases hp0 : p with
              | none =>
                have := htp hp0
                rw [hch, if_neg h4, this, Nat.zero_mul] at hc0
                exact absurd rfl hc0
              | some s =>
                refine ⟨x &&& ((1 <<< (nI s &&& 31)) ^^^ -1), ?_, fun h => absurd h h4, fun s' _ h => by cases h; rfl⟩
                unfold nxF
                rw [if_neg h4, bt_clr_all (by have := hp s hp0; omega), e6']
          obtain ⟨x2, hb2, hx4, hx5⟩ := hx2
          let g1 : Nat → Int32 := fun q => if q = 1 then nI (j % 4) else if q = 6 then x2 else if q = 0 then oI (nxU p j) else gg q
          have hg1 : scH g g1 := fun q h0 h1 h6 => by
            show (if q = 1 then _ else if q = 6 then _ else if q = 0 then _ else gg q) = _
            rw [if_neg h1, if_neg h6, if_neg h0]; exact hg q h0 h1 h6
          have hsc : scn W S (h + 1) (nxU p j) (j % 4) (nxF p j fit) 5 (up1 I 5 g1) := by
            have k2 := hg1 2 (by decide) (by decide) (by decide)
            have k4 := hg1 4 (by decide) (by decide) (by decide)
            have k5 := hg1 5 (by decide) (by decide) (by decide)
            have k7 := hg1 7 (by decide) (by decide) (by decide)
            rw [up1_e] at e2 e4 e5 e7
            refine ⟨rfl, rfl, ?_, ?_, ?_, ?_, ?_, by omega, by omega, eA, ?_⟩
            · rw [up1_e, k2, if_pos rfl, e2, nI_succ]
            · rw [up1_e, k4, if_neg (by decide), e4]
            · rw [up1_e, k5, if_neg (by decide), e5]
            · exact hb2
            · rw [up1_e, k7, if_neg (by decide), e7]
            · intro u hu
              unfold nxU at hu
              split at hu
              next => exact hp u hu
              next => cases hu
          have hcall : aTo L xs fv 111 d cd85 (242, (19, .int (nI (chW W w tr j))) :: (18, .int (nI (j % 4))) :: (17, .int (nI z)) :: [(16, .int (nI j)), (14, .long (lmA (minW (chW W w tr) f j))), (12, .long (lZ (sumW (fun j => (chW W w tr j : Int) * f j) j))), (11, .ref (hbR (I 77 11) + 6)), (10, .int (nI tr)), (9, .int x), (8, .int (nI w)), (7, .int (oI now)), (6, .int (iZ md)), (5, .int (oI p)), (0, .ref 0), (1, .int (nI t)), (2, .ref b), (3, .int (nI (n + 2))), (4, .int (iZ m))], [], aHp r rr (hpT I g1 c) J) P := by
            refine go_v (cd := cd85) [] 20 rfl ?_
            rw [show nI (n + 2) - 1 = nI (n + 1) from nI_pred (n + 1), iZ_sub]
            refine go_callv (cd := cd85) rfl rfl rfl rfl rfl (lv3 rfl) rfl (hrec j g1 c _ hj8 hsc (iX_5 hX) (fun c hX => ⟨rfl, ?_⟩))
            refine go_v (cd := cd85) [] 20 rfl ?_
            refine go_minl (cd := cd85) rfl rfl ?_
            have hmin : (if lZ (f j) < lmA (minW (chW W w tr) f j) then lZ (f j) else lmA (minW (chW W w tr) f j)) = lmA (minW (chW W w tr) f (j + 1)) := by
              have hfj := hf j
              show _ = lmA (if chW W w tr j = 0 then minW (chW W w tr) f j else (match minW (chW W w tr) f j with | none => some (f j) | some x => some (if f j < x then f j else x)))
              rw [if_neg hc0]
              cases hm : minW (chW W w tr) f j with
              | none =>
                refine if_pos ?_
                show lZ (f j) < lZ 9223372036854775807
                rw [Int64.lt_iff_toInt_lt, lZ_toInt (by omega) (by omega)]
                show f j < 9223372036854775807
                omega
              | some y =>
                have hy := minW_le (ch := chW W w tr) (f := f) (B := 1000000000000) j (fun i _ => by have := hf i; omega) y hm
                show (if lZ (f j) < lZ y then lZ (f j) else lZ y) = lZ (if f j < y then f j else y)
                by_cases hl : f j < y
                · rw [if_pos hl, if_pos ((lZ_lt (by omega) (by omega) (by omega) (by omega)).mpr hl)]
                · rw [if_neg hl, if_neg (fun h => hl ((lZ_lt (by omega) (by omega) (by omega) (by omega)).mp h))]
            have hs2 : lZ (sumW (fun j => (chW W w tr j : Int) * f j) j) + (nI (chW W w tr j)).toInt64 * lZ (f j) = lZ (sumW (fun j => (chW W w tr j : Int) * f j) (j + 1)) := by
              rw [nI_iZ, iZ_l (by omega) (by omega), lZ_mul, lZ_add, hsum]
            rw [hmin]
            have ih' := ih g1 c (by omega) hg1 hX
            rw [nI_succ] at ih'
            refine go_v (cd := cd85) [130] 20 rfl ?_
            exact go_sb ih' ⟨rfl, rfl, by rw [← hs2]; rfl, rfl, rfl, rfl, rfl, rfl, rfl, rfl, rfl, rfl, rfl, rfl, rfl, trivial⟩ rfl rfl rfl
          by_cases h4 : j < 4
          · rw [if_pos h4] at hz
            subst hz
            refine go_v (cd := cd85) [] 9 rfl ?_
            refine go_st (cd := cd85) 1 rfl (go_ifT rfl ?_)
            refine go_v (cd := cd85) [] 9 rfl ?_
            refine go_st (cd := cd85) 1 rfl (go_ifT rfl ?_)
            refine go_v (cd := cd85) [242] 9 rfl ?_
            rw [hp_put, hp_put, hp_put]
            have hg2 : (fun q => if q = 1 then nI (j % 4) else if q = 6 then x else if q = 0 then oI p else gg q) = g1 := by
              funext q
              show _ = (if q = 1 then nI (j % 4) else if q = 6 then x2 else if q = 0 then oI (nxU p j) else gg q)
              rw [hx4 h4]; unfold nxU; rw [if_pos h4]
            rw [hg2]
            exact hcall
          · rw [if_neg h4] at hz
            subst hz
            cases hp0 : p with
            | none =>
              have := htp hp0
              rw [hch, if_neg h4, this, Nat.zero_mul] at hc0
              exact absurd rfl hc0
            | some s =>
            refine go_v (cd := cd85) [] 9 rfl ?_
            refine go_st (cd := cd85) 1 rfl (go_ifF (by decide) ?_)
            refine go_v (cd := cd85) [] 9 rfl ?_
            refine go_st (cd := cd85) 1 rfl (go_ifF (by decide) ?_)
            refine go_v (cd := cd85) [242] 20 rfl ?_
            rw [hp_put, hp_put, hp_put]
            have hg2 : (fun q => if q = 1 then nI (j % 4) else if q = 6 then x &&& ((1 <<< (nI s &&& 31)) ^^^ -1) else if q = 0 then -1 else gg q) = g1 := by
              funext q
              show _ = (if q = 1 then nI (j % 4) else if q = 6 then x2 else if q = 0 then oI (nxU p j) else gg q)
              rw [hx5 s h4 hp0]; unfold nxU; rw [if_neg h4]; rfl
            have hg3 := hg2
            rw [show oI (some s) = nI s from rfl, hg3]
            rw [hp0] at hcall
            exact hcall
      by_cases h4 : j < 4
      · rw [if_pos h4] at hz
        subst hz
        refine go_st (cd := cd85) 1 rfl (go_ifT rfl ?_)
        refine go_v (cd := cd85) [171] 9 rfl ?_
        rw [show (100 : Int32) - nI tr = nI (100 - tr) from nI_sub (a := 100) htr]
        exact h171 _ (by rw [if_pos h4])
      · rw [if_neg h4] at hz
        subst hz
        refine go_st (cd := cd85) 1 rfl (go_ifF (by decide) ?_)
        refine go_v (cd := cd85) [171] 9 rfl ?_
        exact h171 _ (by rw [if_neg h4])
    by_cases h4 : j < 4
    · refine go_st (cd := cd85) 1 rfl (go_ifT (nI_lt (b := 4) h4 (by decide)) ?_)
      refine go_v (cd := cd85) [148] 9 rfl ?_
      exact h148 0 (by rw [if_pos h4])
    · refine go_st (cd := cd85) 1 rfl (go_ifF (nI_nlt (a := j) (b := 4) (by omega) (by omega)) ?_)
      refine go_v (cd := cd85) [148] 9 rfl ?_
      exact h148 1 (by rw [if_neg h4])
end AH
