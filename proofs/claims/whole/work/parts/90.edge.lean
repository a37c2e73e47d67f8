def edW (f : Nat → Int) : Nat → Nat × Int
  | 0 => (0, 0)
  | v + 1 => if v = 0 ∨ (edW f v).2 < f v then (v, f v) else edW f v
def edB (f : Nat → Int) (v : Nat) : Int32 := if v = 0 then -1 else nI (edW f v).1
def edR (v : Nat) : Ru := (2, v, fun _ => none, fun _ => none)
theorem edW_abs {f : Nat → Int} (hf : ∀ v, -1000000000000 ≤ f v ∧ f v ≤ 1000000000000) : ∀ v, -1000000000000 ≤ (edW f v).2 ∧ (edW f v).2 ≤ 1000000000000
  | 0 => ⟨show (-1000000000000 : Int) ≤ 0 by decide, show (0 : Int) ≤ 1000000000000 by decide⟩
  | v + 1 => by
    unfold edW
    split
    · exact hf v
    · exact edW_abs hf v
theorem edW_le {f : Nat → Int} : ∀ v, (edW f v).1 ≤ v
  | 0 => Nat.le_refl _
  | v + 1 => by
    unfold edW
    split
    · exact Nat.le_succ v
    · exact Nat.le_trans (edW_le v) (Nat.le_succ v)
theorem lgZ {a b : Int} (h1 : -4000000000000000 ≤ a) (h2 : a ≤ 4000000000000000) (h3 : -4000000000000000 ≤ b) (h4 : b ≤ 4000000000000000) : (lg_cmp (lZ a) (lZ b) ≤ 0 ↔ ¬ b < a) ∧ (0 < lg_cmp (lZ a) (lZ b) ↔ b < a) := by
  unfold lg_cmp
  have e1 : (lZ a > lZ b) ↔ b < a := by
    rw [gt_iff_lt, lZ_lt h3 h4 h1 h2]
  have e2 : (lZ a = lZ b) ↔ a = b := lZ_inj h1 h2 h3 h4
  by_cases ha : b < a
  · rw [if_pos (e1.mpr ha)]
    exact ⟨⟨fun h => absurd h (by decide), fun h => absurd ha h⟩, ⟨fun _ => ha, fun _ => by decide⟩⟩
  · rw [if_neg (fun h => ha (e1.mp h))]
    by_cases hb : a = b
    · rw [if_pos (e2.mpr hb)]
      exact ⟨⟨fun _ => ha, fun _ => by decide⟩, ⟨fun h => absurd h (by decide), fun h => absurd h ha⟩⟩
    · rw [if_neg (fun h => hb (e2.mp h))]
      exact ⟨⟨fun _ => ha, fun _ => by decide⟩, ⟨fun h => absurd h (by decide), fun h => absurd h ha⟩⟩
theorem hp_21 {I : Nat → Nat → Int32} {g c : Nat → Int32} {k : Nat} {x v : Int32} : up2 (hpT (up2 I 21 k x) g c) 21 k v = hpT (up2 I 21 k v) g c := by
  funext i q
  by_cases h1 : i = 21
  · subst h1
    by_cases h2 : q = k
    · subst h2
      rw [up2_e]
      unfold hpT
      rw [up1_ne (show 21 ≠ 19 by decide), up1_ne (show 21 ≠ 5 by decide), up2_e]
    · rw [up2_42 h2]
      unfold hpT
      rw [up1_ne (show 21 ≠ 19 by decide), up1_ne (show 21 ≠ 5 by decide), up1_ne (show 21 ≠ 19 by decide), up1_ne (show 21 ≠ 5 by decide), up2_42 h2, up2_42 h2]
  · rw [up2_ne h1]
    unfold hpT
    by_cases h3 : i = 19
    · subst h3; rw [up1_e, up1_e]
    · rw [up1_ne h3, up1_ne h3]
      by_cases h4 : i = 5
      · subst h4; rw [up1_e, up1_e]
      · rw [up1_ne h4, up1_ne h4, up2_ne h1, up2_ne h1]
theorem up2_id {I : Nat → Nat → Int32} {i k : Nat} : up2 I i k (I i k) = I := by
  funext j q
  by_cases h1 : j = i
  · subst h1
    by_cases h2 : q = k
    · subst h2; rw [up2_e]
    · rw [up2_42 h2]
  · rw [up2_ne h1]
section ED
variable {L : Nat} {xs : Nat → Int32} {fv : Value} {d : Nat} {r : Nat} {rr : Option Nat} {I : Nat → Nat → Int32} {J : Nat → Nat → Int64} {P : Option Value → aH → Prop}
variable {A : Nat → List Cl} {W : Wd} {F : Nat} {S : Sc}
theorem wld_21 {v : Int32} (hW : wld A W I) : wld A W (up2 I 21 2 v) := by
  obtain ⟨w1, w2, w3, w4, w5, w6, w7, w8, w9, wA, wB⟩ := hW
  exact ⟨w1, w2, w3, w4, w5, iC_c (I := I) rfl rfl rfl rfl rfl rfl rfl rfl (fun j hj => up2_ne (by omega)) (fun j hj => up2_ne (by omega)) w6, w7, w8, w9, wA, wB⟩
theorem rul_21 {v : Nat} (h1 : I 21 1 = 2) (hv : v ≤ 9) : rul (edR v) 21 (up2 I 21 2 (nI v)) := ⟨by rw [up2_42 (by decide)]; exact h1, up2_e, (show (2 : Nat) ≤ 6 by decide), hv, fun h => absurd (show (5 : Nat) ≤ 2 from h) (by decide), fun h => absurd (show (2 : Nat) = 6 from h) (by decide)⟩
theorem rul_215 {v : Nat} {g : Nat → Int32} (h1 : I 21 1 = 2) (hv : v ≤ 9) : rul (edR v) 21 (up1 (up2 I 21 2 (nI v)) 5 g) := ⟨by rw [up1_ne (by decide), up2_42 (by decide)]; exact h1, by rw [up1_ne (by decide)]; exact up2_e, (show (2 : Nat) ≤ 6 by decide), hv, fun h => absurd (show (5 : Nat) ≤ 2 from h) (by decide), fun h => absurd (show (2 : Nat) = 6 from h) (by decide)⟩
theorem ed9 {v : Nat} (hv : v < 10) : ¬ (9 : Int32) < nI v := by
  have : ∀ v : Fin 10, ¬ (9 : Int32) < nI v.val := by decide
  exact this ⟨v, hv⟩
theorem ed10 {v : Nat} (hv : v < 10) : ¬ (10 : Int32) ≤ nI v := by
  have : ∀ v : Fin 10, ¬ (10 : Int32) ≤ nI v.val := by decide
  exact this ⟨v, hv⟩
theorem ed0 {v : Nat} (hv : v < 11) : (nI v = 0 ↔ v = 0) ∧ ¬ nI v < 0 := by
  have : ∀ v : Fin 11, (nI v.val = 0 ↔ v.val = 0) ∧ ¬ nI v.val < 0 := by decide
  exact this ⟨v, hv⟩
set_option maxHeartbeats 2000000 in
theorem edc_loop {n h w : Nat} {now : Option Nat} {fit : Nat → Bool} {g : Nat → Int32} {f : Nat → Int} (hfd : ∀ v, f v = VV W (edR v) S n h now w fit) (hf : ∀ v, -1000000000000 ≤ f v ∧ f v ≤ 1000000000000) (hW : wld A W I) (h1 : I 21 1 = 2) (hn3 : n ≤ 3) (hh : h ≤ 200) (hS : ∀ x, scn W S h now w fit 5 (up1 (up2 I 21 2 x) 5 g))
    (K : ∀ x c, iX A (hpT (up2 I 21 2 x) g c) → P (some (.int (nI (edW f 10).1))) (aHp r rr (hpT (up2 I 21 2 x) g c) J)) : ∀ m v x c, v + m = 10 → iX A (hpT (up2 I 21 2 x) g c) → aTo L xs fv 111 (d + 8) cd47 (28, [(5, .int (nI v)), (3, .long (lZ (edW f v).2)), (2, .int (nI (edW f v).1)), (0, .ref 0), (1, .int (nI (n + 1)))], [], aHp r rr (hpT (up2 I 21 2 x) g c) J) P
  | 0, v, x, c, hv, hX => by
    have hv : v = 10 := hv
    subst hv
    refine go_v (cd := cd47) [] 9 rfl ?_
    refine go_st (cd := cd47) 1 rfl (go_ifT (by decide) ?_)
    refine go_v (cd := cd47) [] 9 rfl ?_
    exact go_ireturn (cd := cd47) rfl (K x c hX)
  | m + 1, v, x, c, hv, hX => by
    have ih := fun x c => edc_loop hfd hf hW h1 hn3 hh hS K m (v + 1) x c (by omega)
    refine go_v (cd := cd47) [] 9 rfl ?_
    refine go_st (cd := cd47) 1 rfl (go_ifF (ed9 (by omega)) ?_)
    refine go_v (cd := cd47) [44] 9 rfl ?_
    rw [hp_21]
    refine go_v (cd := cd47) [] 9 rfl ?_
    refine go_callv (cd := cd47) rfl rfl rfl rfl rfl (lv3 rfl) rfl (cl_aheadX (R := edR v) (t := 0) (n := n) (m := 0) (wld_21 hW) (Or.inl rfl) (rul_21 h1 (by omega)) (fun g => rul_215 h1 (by omega)) (by decide) rfl hn3 hh (by omega) rfl rfl (hS _) (iX_c (I := hpT (up2 I 21 2 x) g c) rfl rfl rfl rfl hX) (fun c' hX' => ⟨rfl, ?_⟩))
    have hav : AV 0 W (edR v) S n h now w fit 0 = f v := (hfd v).symm
    rw [hav]
    have hfv := hf v
    have hev := edW_abs hf v
    refine go_v (cd := cd47) [] 9 rfl ?_
    by_cases hv0 : v = 0
    · refine go_st (cd := cd47) 1 rfl (go_ifT ((ed0 (by omega)).1.mpr hv0) ?_)
      refine go_v (cd := cd47) [28] 9 rfl ?_
      have e : edW f (v + 1) = (v, f v) := by
        show (if v = 0 ∨ (edW f v).2 < f v then (v, f v) else edW f v) = _
        rw [if_pos (Or.inl hv0)]
      refine go_sb ?_ (l' := [(5, .int (nI (v + 1))), (3, .long (lZ (edW f (v + 1)).2)), (2, .int (nI (edW f (v + 1)).1)), (0, .ref 0), (1, .int (nI (n + 1)))]) ⟨by rw [nI_succ v]; rfl, by rw [e]; rfl, by rw [e]; rfl, rfl, rfl, trivial⟩ rfl rfl rfl
      exact ih _ c' hX'
    · refine go_st (cd := cd47) 1 rfl (go_ifF (fun h => hv0 ((ed0 (by omega)).1.mp h)) ?_)
      refine go_v (cd := cd47) [] 9 rfl ?_
      have hl := (lgZ (a := f v) (b := (edW f v).2) (by omega) (by omega) (by omega) (by omega)).1
      by_cases hc : (edW f v).2 < f v
      · refine go_st (cd := cd47) 1 rfl (go_ifF (fun h => hl.mp h hc) ?_)
        refine go_v (cd := cd47) [28] 9 rfl ?_
        have e : edW f (v + 1) = (v, f v) := by
          show (if v = 0 ∨ (edW f v).2 < f v then (v, f v) else edW f v) = _
          rw [if_pos (Or.inr hc)]
        refine go_sb ?_ (l' := [(5, .int (nI (v + 1))), (3, .long (lZ (edW f (v + 1)).2)), (2, .int (nI (edW f (v + 1)).1)), (0, .ref 0), (1, .int (nI (n + 1)))]) ⟨by rw [nI_succ v]; rfl, by rw [e]; rfl, by rw [e]; rfl, rfl, rfl, trivial⟩ rfl rfl rfl
        exact ih _ c' hX'
      · refine go_st (cd := cd47) 1 rfl (go_ifT (hl.mpr hc) ?_)
        refine go_v (cd := cd47) [28] 9 rfl ?_
        have e : edW f (v + 1) = edW f v := by
          show (if v = 0 ∨ (edW f v).2 < f v then (v, f v) else edW f v) = _
          rw [if_neg (by omega)]
        refine go_sb ?_ (l' := [(5, .int (nI (v + 1))), (3, .long (lZ (edW f (v + 1)).2)), (2, .int (nI (edW f (v + 1)).1)), (0, .ref 0), (1, .int (nI (n + 1)))]) ⟨by rw [nI_succ v]; rfl, by rw [e]; rfl, by rw [e]; rfl, rfl, rfl, trivial⟩ rfl rfl rfl
        exact ih _ c' hX'
def edI (W : Wd) (F : Nat) (S : Sc) (h w : Nat) (now : Option Nat) (x : Int32) (I0 I : Nat → Nat → Int32) : Prop := rwl W F I ∧ rsc S I ∧ I 91 10 = 2 ∧ I 77 6 = nI h ∧ I 77 5 = nI w ∧ I 77 4 = oI now ∧ I 77 1 = x ∧ (∀ a b, a < 4 → b < 4 → I 90 (4 * a + b) = nI (folA W.1 a b)) ∧ relI I0 I ∧ I 77 0 = I0 77 0 ∧ I 77 11 = I0 77 11 ∧ I 19 = I0 19 ∧ I 78 = I0 78
theorem edI_92 {h w : Nat} {now : Option Nat} {x v : Int32} {I0 : Nat → Nat → Int32} (hv9 : 0 ≤ v ∧ v ≤ 9) (hE : edI W F S h w now x I0 I) : edI W F S h w now x I0 (up2 I 92 10 v) := by
  obtain ⟨e1, e2, e3, e4, e5, e6, e7, e8, ⟨g0, g77, g91, g93, g21, g24, g92⟩, eA, eB, eC, eD⟩ := hE
  refine ⟨⟨rH_c (I := I) rfl rfl rfl rfl rfl rfl rfl rfl e1.1, e1.2.1, e1.2.2.1, e1.2.2.2⟩, e2, e3, e4, e5, e6, e7, e8, ⟨fun j hj => by rw [up2_ne (by omega)]; exact g0 j hj, fun q => by rw [up2_ne (by omega)]; exact g77 q, fun k hk => by rw [up2_ne (show 91 ≠ 92 by decide), up2_42 (by omega)]; exact g91 k hk, fun k hk => by rw [up2_ne (by omega)]; exact g93 k hk, by rw [up2_ne (by omega)]; exact g21, by rw [up2_ne (by omega)]; exact g24, fun _ => by rw [up2_e]; exact hv9⟩, eA, eB, eC, eD⟩
theorem edI_fr {h w : Nat} {now : Option Nat} {x : Int32} {I0 I' : Nat → Nat → Int32} (hE : edI W F S h w now x I0 I) (hf : fr I I') : edI W F S h w now x I0 I' := by
  obtain ⟨e1, e2, e3, e4, e5, e6, e7, e8, e9, eA, eB, eC, eD⟩ := hE
  refine ⟨rwl_fr hf e1, rsc_fr hf e2, ?_, ?_, ?_, ?_, ?_, fun a b ha hb => ?_, relI_fr e9 hf, ?_, ?_, ?_, ?_⟩
  · rw [hf.1 91 (by decide) (by decide) (by decide)]; exact e3
  · rw [hf.2 6 (by decide)]; exact e4
  · rw [hf.2 5 (by decide)]; exact e5
  · rw [hf.2 4 (by decide)]; exact e6
  · rw [hf.2 1 (by decide)]; exact e7
  · rw [hf.1 90 (by decide) (by decide) (by decide)]; exact e8 a b ha hb
  · rw [hf.2 0 (by decide)]; exact eA
  · rw [hf.2 11 (by decide)]; exact eB
  · rw [hf.1 19 (by decide) (by decide) (by decide)]; exact eC
  · rw [hf.1 78 (by decide) (by decide) (by decide)]; exact eD
theorem rrl_ed {v : Nat} (h1 : I 91 10 = 2) (hv : v ≤ 9) : rrl (edR v) 10 (up2 I 92 10 (nI v)) := ⟨by decide, by rw [up2_ne (by decide)]; exact h1, up2_e, (show (2 : Nat) ≤ 6 by decide), hv, fun h => absurd (show (5 : Nat) ≤ 2 from h) (by decide), fun h => absurd (show (2 : Nat) = 6 from h) (by decide)⟩
set_option maxHeartbeats 2000000 in
theorem edr_loop {n h w : Nat} {now : Option Nat} {x : Int32} {I0 : Nat → Nat → Int32} {J0 : Nat → Nat → Int64} {f : Nat → Int} (hfd : ∀ v, f v = VV W (edR v) S n h now w (bt x)) (hf : ∀ v, -1000000000000 ≤ f v ∧ f v ≤ 1000000000000) (hn3 : n ≤ 3) (hh : h ≤ 200) (hw : w < 4) (hnow : ∀ u, now = some u → u < W.2.2.2)
    (K : ∀ I J, edI W F S h w now x I0 I → (∀ j, j ≠ 77 → j ≠ 102 → J j = J0 j) → P (some (.int (nI (edW f 10).1))) (aHp r rr I J)) : ∀ m v I J, v + m = 10 → edI W F S h w now x I0 I → (∀ j, j ≠ 77 → j ≠ 102 → J j = J0 j) → aTo L xs fv 111 (d + 8) cd147 (30, [(5, .int (nI v)), (3, .long (lZ (1000 * (edW f v).2))), (2, .int (edB f v)), (0, .ref 77), (1, .int (nI (n + 1)))], [], aHp r rr I J) P
  | 0, v, I, J, hv, hE, hJ => by
    have hv : v = 10 := hv
    subst hv
    refine go_v (cd := cd147) [] 9 rfl ?_
    refine go_st (cd := cd147) 1 rfl (go_ifT (by decide) ?_)
    refine go_v (cd := cd147) [] 9 rfl ?_
    exact go_ireturn (cd := cd147) rfl (K I J hE hJ)
  | m + 1, v, I, J, hv, hE, hJ => by
    have ih := fun I J => edr_loop hfd hf hn3 hh hw hnow K m (v + 1) I J (by omega)
    refine go_v (cd := cd147) [] 9 rfl ?_
    refine go_st (cd := cd147) 1 rfl (go_ifF (ed10 (by omega)) ?_)
    refine go_v (cd := cd147) [] 9 rfl ?_
    refine go_iast (cd := cd147) rfl (nI_vin (j := 10) (n := 11) (by omega) (by decide)) (lv3 rfl) rfl ?_
    rw [show (10 : Int32).toNatClampNeg = 10 from by decide]
    have hE2 : edI W F S h w now x I0 (up2 I 92 10 (nI v)) := edI_92 ⟨nI_pos' (by omega), nI_le (b := 9) (by omega) (by decide)⟩ hE
    have hrl := rrl_ed (I := I) (v := v) hE.2.2.1 (by omega)
    generalize hI2 : up2 I 92 10 (nI v) = I2 at *
    obtain ⟨e1, e2, e3, e4, e5, e6, e7, e8, e9, eA⟩ := hE2
    refine go_v (cd := cd147) [] 9 rfl ?_
    refine go_callv (cd := cd147) rfl rfl rfl rfl rfl (lv3 rfl) rfl (cl_goR (n := n) (due := 0) (x := x) e1 e2 hrl e4 hh e5 e8 hn3 (by omega) hw hnow rfl rfl e6 e7 rfl (fun I3 J3 hf3 hJ3 k44 k45 k46 k47 => ⟨rfl, ?_⟩))
    have hE3 : edI W F S h w now x I0 I3 := edI_fr ⟨e1, e2, e3, e4, e5, e6, e7, e8, e9, eA⟩ hf3
    have hJ4 : ∀ j, j ≠ 77 → j ≠ 102 → J3 j = J0 j := fun j a b => (hJ3 j a b).trans (hJ j a b)
    have hfv := hf v
    have hev := edW_abs hf v
    have k44' : J3 77 44 = lZ (1000 * f v) := by rw [hfd v]; exact k44
    have r1 : ((111 + 3 * r, I3, J3, aRf r rr) : aH).2.2.1 77 44 = lZ (1000 * f v) := k44'
    have r2 : aVal (aHp r rr I3 J3) 1 77 44 = .long (lZ (1000 * f v)) := congrArg Value.long k44'
    have h78 : (v = 0 ∨ (edW f v).2 < f v) → aTo L xs fv 111 (d + 8) cd147 (78, [(5, .int (nI v)), (3, .long (lZ (1000 * (edW f v).2))), (2, .int (edB f v)), (0, .ref 77), (1, .int (nI (n + 1)))], [], aHp r rr I3 J3) P := fun hc => by
      refine go_v (cd := cd147) [30] 20 rfl ?_
      first | rw [r1] | rw [r2]
      have e : edW f (v + 1) = (v, f v) := by
        show (if v = 0 ∨ (edW f v).2 < f v then (v, f v) else edW f v) = _
        rw [if_pos hc]
      refine go_sb ?_ (l' := [(5, .int (nI (v + 1))), (3, .long (lZ (1000 * (edW f (v + 1)).2))), (2, .int (edB f (v + 1))), (0, .ref 77), (1, .int (nI (n + 1)))]) ⟨by rw [nI_succ v]; rfl, by rw [e]; rfl, by unfold edB; rw [if_neg (Nat.succ_ne_zero v), e]; rfl, rfl, rfl, trivial⟩ rfl rfl rfl
      exact ih I3 J3 hE3 hJ4
    refine go_v (cd := cd147) [] 9 rfl ?_
    by_cases hv0 : v = 0
    · refine go_st (cd := cd147) 1 rfl (go_ifT (by unfold edB; rw [if_pos hv0]; decide) ?_)
      exact h78 (Or.inl hv0)
    · have hb : edB f v = nI (edW f v).1 := by unfold edB; rw [if_neg hv0]
      have hle := edW_le (f := f) v
      refine go_st (cd := cd147) 1 rfl (go_ifF (by rw [hb]; exact (ed0 (by omega)).2) ?_)
      refine go_v (cd := cd147) [] 9 rfl ?_
      first | rw [r1] | rw [r2]
      have hl := (lgZ (a := 1000 * f v) (b := 1000 * (edW f v).2) (by omega) (by omega) (by omega) (by omega)).2
      by_cases hc : (edW f v).2 < f v
      · refine go_st (cd := cd147) 1 rfl (go_ifT (hl.mpr (by omega)) ?_)
        exact h78 (Or.inr hc)
      · refine go_st (cd := cd147) 1 rfl (go_ifF (fun h => hc (by have := hl.mp h; omega)) ?_)
        refine go_v (cd := cd147) [30] 20 rfl ?_
        have e : edW f (v + 1) = edW f v := by
          show (if v = 0 ∨ (edW f v).2 < f v then (v, f v) else edW f v) = _
          rw [if_neg (by omega)]
        refine go_sb ?_ (l' := [(5, .int (nI (v + 1))), (3, .long (lZ (1000 * (edW f (v + 1)).2))), (2, .int (edB f (v + 1))), (0, .ref 77), (1, .int (nI (n + 1)))]) ⟨by rw [nI_succ v]; rfl, by rw [e]; rfl, by rw [show edB f (v + 1) = edB f v from by unfold edB; rw [if_neg (Nat.succ_ne_zero v), if_neg hv0, e]]; rfl, rfl, rfl, trivial⟩ rfl rfl rfl
        exact ih I3 J3 hE3 hJ4
end ED
section PR
variable {L : Nat} {xs : Nat → Int32} {fv : Value} {d : Nat}
theorem relI_21 {I I' : Nat → Nat → Int32} {v : Int32} (h : relI I I') : relI I (up2 I' 21 2 v) := by
  obtain ⟨g0, g77, g91, g93, g21, g24, g92⟩ := h
  exact ⟨fun j hj => by rw [up2_ne (by omega)]; exact g0 j hj, fun q => by rw [up2_ne (by omega)]; exact g77 q, fun k hk => by rw [up2_ne (by omega), up2_ne (by omega)]; exact g91 k hk, fun k hk => by rw [up2_ne (by omega)]; exact g93 k hk, by rw [up2_42 (by omega)]; exact g21, by rw [up2_ne (by omega)]; exact g24, fun h => by rw [up2_ne (by omega)]; exact g92 h⟩
theorem relI_91 {I I' : Nat → Nat → Int32} {v : Int32} (h : relI I I') : relI I (up2 I' 91 10 v) := by
  obtain ⟨g0, g77, g91, g93, g21, g24, g92⟩ := h
  exact ⟨fun j hj => by rw [up2_ne (by omega)]; exact g0 j hj, fun q => by rw [up2_ne (by omega)]; exact g77 q, fun k hk => by rw [up2_ne (show 92 ≠ 91 by decide), up2_42 (by omega)]; exact g91 k hk, fun k hk => by rw [up2_ne (by omega)]; exact g93 k hk, by rw [up2_ne (by omega)]; exact g21, by rw [up2_ne (by omega)]; exact g24, fun h => by rw [up2_ne (by omega)]; exact g92 h⟩
theorem edI_0 {r : Nat} {A : Nat → List Cl} {I : Nat → Nat → Int32} {J : Nat → Nat → Int64} {c : Nat → Int32} (hv : aInv r A I J) (hc : ∀ a b, a < 4 → b < 4 → c (4 * a + b) = nI (folA (hol A I) a b)) : edI (wdI A I) (fI I) (scI I) (I 77 6).toNatClampNeg (I 77 5).toNatClampNeg (upN (I 77 4)) (I 77 1) I (up2 (asH I c) 91 10 2) := by
  obtain ⟨n1, n2, n3, n4, n5, n6⟩ := nums_of hv
  obtain ⟨u1, u2⟩ := now_of hv
  have e1 := as_rwl hv (c := c)
  exact ⟨⟨rH_c (I := asH I c) rfl rfl rfl rfl rfl rfl rfl rfl e1.1, e1.2.1, e1.2.2.1, e1.2.2.2⟩, as_rsc hv (c := c), up2_e, n3, n1, u1, rfl, as_fol hv hc, relI_91 as_rel, rfl, rfl, rfl, rfl⟩
set_option maxHeartbeats 4000000 in
theorem pr_edge {g : Int32} {h : aH} (hi : aIn h) : aPair L xs fv (d + 9) 47 147 [.int g] h := by
  obtain ⟨r, rr, A, I, J, rfl, hv⟩ := hi
  refine cl_of rfl (Nat.le_add_right _ _) ?_
  refine go_v (cd := cd47) [] 9 rfl ?_
  refine go_calls (cd := cd47) rfl rfl rfl rfl rfl (cl_isHours (fun hq => ⟨rfl, ?_⟩) (fun hq => ⟨rfl, ?_⟩))
  · refine go_st (cd := cd47) 1 rfl (go_ifF (by decide) ?_)
    have hhours := hq
    obtain ⟨n, hn3, rfl⟩ := hours_ex hq
    have hwf := (wld_of hv).2.2.2.2.1
    have h99 := (nums_of hv).2.2.2.1
    have hw4 := (nums_of hv).2.1
    refine go_v (cd := cd47) [] 9 rfl ?_
    refine go_callv (cd := cd47) rfl rfl rfl rfl rfl (lv3 rfl) rfl (cl_become51 ⟨rfl, ?_⟩)
    rw [tr_heap]
    obtain ⟨f, hfd⟩ : ∃ f : Nat → Int, f = fun v => VV (wdI A I) (edR v) (scI I) n (I 77 6).toNatClampNeg (upN (I 77 4)) (I 77 5).toNatClampNeg (bt (I 77 1)) := ⟨_, rfl⟩
    have hf : ∀ v, -1000000000000 ≤ f v ∧ f v ≤ 1000000000000 := fun v => by
      rw [hfd]
      exact AV_abs (t := 0) hwf (edR v) (scI I) (n := n) (h := (I 77 6).toNatClampNeg) (now := upN (I 77 4)) (w := (I 77 5).toNatClampNeg) (fit := bt (I 77 1)) (m := 0) hw4 hn3
    have hW6 : wld A (wdI A I) (up1 I 6 (cpN 6 (I 2) (I 6))) := wld_6 (wld_of hv)
    have h21 : up1 I 6 (cpN 6 (I 2) (I 6)) 21 1 = 2 := hv.2.2.2.2.2.2.2.2.2.1.1
    have hS6 : ∀ x, scn (wdI A I) (scI I) (I 77 6).toNatClampNeg (upN (I 77 4)) (I 77 5).toNatClampNeg (bt (I 77 1)) 5 (up1 (up2 (up1 I 6 (cpN 6 (I 2) (I 6))) 21 2 x) 5 (cpN 10 (I 1) (I 5))) := fun x => scn_tr (scn_of hv)
    have hX6 : iX A (hpT (up1 I 6 (cpN 6 (I 2) (I 6))) (cpN 10 (I 1) (I 5)) (I 19)) := iX_tr hv
    refine go_v (cd := cd47) [28] 20 rfl ?_
    refine go_sb ?_ (l' := [(5, .int (nI 0)), (3, .long (lZ (edW f 0).2)), (2, .int (nI (edW f 0).1)), (0, .ref 0), (1, .int (nI (n + 1)))]) ⟨rfl, by show some (Value.long 0) = some (Value.long (lZ 0)); rw [lZ_0], rfl, rfl, rfl, trivial⟩ rfl rfl rfl
    rw [show hpT (up1 I 6 (cpN 6 (I 2) (I 6))) (cpN 10 (I 1) (I 5)) (I 19) = hpT (up2 (up1 I 6 (cpN 6 (I 2) (I 6))) 21 2 (up1 I 6 (cpN 6 (I 2) (I 6)) 21 2)) (cpN 10 (I 1) (I 5)) (I 19) from by rw [up2_id]]
    rw [← up2_id (I := up1 I 6 (cpN 6 (I 2) (I 6))) (i := 21) (k := 2)] at hX6
    refine edc_loop (fun v => by rw [hfd]) hf hW6 h21 hn3 (by omega) hS6 (fun x c hX => ?_) 10 0 _ _ rfl hX6
    refine ⟨Or.inl rfl, _, rfl, ?_⟩
    have hrel : relI I (hpT (up2 (up1 I 6 (cpN 6 (I 2) (I 6))) 21 2 x) (cpN 10 (I 1) (I 5)) c) := relI_up1 (relI_up1 (relI_21 (relI_up1 relI_refl (by omega))) (by omega)) (by omega)
    have hv' := inv_rel hv hrel (fun _ _ => rfl) hX
    generalize hI0 : hpT (up2 (up1 I 6 (cpN 6 (I 2) (I 6))) 21 2 x) (cpN 10 (I 1) (I 5)) c = I0 at *
    have hfd' : ∀ v, f v = VV (wdI A I0) (edR v) (scI I0) n (I0 77 6).toNatClampNeg (upN (I0 77 4)) (I0 77 5).toNatClampNeg (bt (I0 77 1)) := fun v => by rw [hfd, ← hI0]; rfl
    obtain ⟨n1, n2, n3, n4, n5, n6⟩ := nums_of hv'
    obtain ⟨u1, u2⟩ := now_of hv'
    refine cl_of rfl (Nat.le_add_right _ _) ?_
    refine go_v (cd := cd147) [] 9 rfl ?_
    refine go_callv (cd := cd147) rfl rfl rfl rfl rfl (lv3 rfl) rfl (cl_misHours (fun _ => ⟨rfl, ?_⟩) (fun hx => absurd hhours hx))
    refine go_st (cd := cd147) 1 rfl (go_ifF (by decide) ?_)
    refine go_v (cd := cd147) [] 9 rfl ?_
    refine go_callv (cd := cd147) rfl rfl rfl rfl rfl (lv3 rfl) rfl (cl_asIs (rwl_of hv').1 (fun c2 hc2 => ⟨rfl, ?_⟩))
    refine go_v (cd := cd147) [] 20 rfl ?_
    refine go_iast (cd := cd147) rfl (nI_vin (j := 10) (n := 11) (by omega) (by decide)) (lv3 rfl) rfl ?_
    rw [show (10 : Int32).toNatClampNeg = 10 from by decide]
    have hE := edI_0 hv' hc2
    refine go_v (cd := cd147) [30] 9 rfl ?_
    refine go_sb ?_ (l' := [(5, .int (nI 0)), (3, .long (lZ (1000 * (edW f 0).2))), (2, .int (edB f 0)), (0, .ref 77), (1, .int (nI (n + 1)))]) ⟨rfl, by show some (Value.long 0) = some (Value.long (lZ 0)); rw [lZ_0], rfl, rfl, rfl, trivial⟩ rfl rfl rfl
    refine edr_loop (I0 := I0) (J0 := J) hfd' hf hn3 (by omega) n2 u2 (fun I2 J2 hE2 hJ2 => ?_) 10 0 _ _ rfl hE (fun _ _ _ => rfl)
    obtain ⟨-, -, -, -, -, -, -, -, e9, eA, eB, eC, eD⟩ := hE2
    exact ⟨rfl, rfl, aIn_of (inv_rel hv' e9 (fun j hj => hJ2 j (by omega) (by omega)) (iX_c (I := I0) eA eB eC eD hv'.2.2.2.2.2.2.2.2.2.2.2.2)) rr⟩
  · refine go_st (cd := cd47) 1 rfl (go_ifT rfl ?_)
    refine go_v (cd := cd47) [] 9 rfl ?_
    refine go_ireturn (cd := cd47) rfl ⟨Or.inl rfl, _, rfl, ?_⟩
    refine cl_of rfl (Nat.le_add_right _ _) ?_
    refine go_v (cd := cd147) [] 9 rfl ?_
    refine go_callv (cd := cd147) rfl rfl rfl rfl rfl (lv3 rfl) rfl (cl_misHours (fun hx => absurd hx hq) (fun _ => ⟨rfl, ?_⟩))
    refine go_st (cd := cd147) 1 rfl (go_ifT rfl ?_)
    refine go_v (cd := cd147) [] 9 rfl ?_
    exact go_ireturn (cd := cd147) rfl ⟨rfl, rfl, aIn_of hv rr⟩
end PR
