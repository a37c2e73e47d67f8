/-! the class's choice and its miles -/
section CC
variable {L : Nat} {xs : Nat → Int32} {fv : Value} {d : Nat} {r : Nat} {rr : Option Nat} {I : Nat → Nat → Int32} {J : Nat → Nat → Int64} {P : Option Value → aH → Prop}
variable {A : Nat → List Cl} {W : Wd} {S : Sc} {h w : Nat} {now : Option Nat} {fit : Nat → Bool} {R : Ru} {b : Nat}
theorem cl_rowAt {h' : Int32} (hh' : h' = nI h) (hh : h < 1000) (hb : isR r b) (hR : rul R b I) (h6 : R.1 = 6) (k : P (some (.int (oI (if h < 5 then R.2.2.2 h else none)))) (aHp r rr I J)) : aCl L xs fv 111 (d + 1) 80 [.ref b, .int h'] (aHp r rr I J) P := by
  refine cl_of rfl (Nat.le_add_right _ _) ?_
  subst hh'
  refine go_v (cd := cd80) [] 9 rfl ?_
  refine go_st (cd := cd80) 1 rfl (go_ifF (nI_pos (by omega)) ?_)
  refine go_v (cd := cd80) [] 9 rfl ?_
  by_cases h5 : h < 5
  · rw [if_pos h5] at k
    refine go_st (cd := cd80) 1 rfl (go_ifF (nI_ge (b := 5) h5 (by decide)) ?_)
    refine go_v (cd := cd80) [10] 9 rfl ?_
    refine go_getR (cd := cd80) rfl (isR_lt (k := 0) hb (by decide)) (isR_k hb).1 (isR_R hb).2 ?_
    refine go_v (cd := cd80) [] 9 rfl ?_
    refine go_iald (cd := cd80) rfl (isR_i2 hb h5) (isR_lt hb (by decide)) (isR_k hb).2.2 ?_
    rw [nI_clamp (by omega), (hR.2.2.2.2.2 h6 h h5).1]
    refine go_v (cd := cd80) [] 9 rfl ?_
    exact go_ireturn (cd := cd80) rfl k
  · rw [if_neg h5] at k
    refine go_st (cd := cd80) 1 rfl (go_ifT (nI_le (a := 5) (by omega) (by omega)) ?_)
    refine go_v (cd := cd80) [] 9 rfl ?_
    exact go_ireturn (cd := cd80) rfl k
theorem cl_told1 {o : Option Nat} {s' : Int32} (hW : wld A W I) (hS : scn W S h now w fit 1 I) (hb : isR r b) (hR : rul R b I) (h56 : 5 ≤ R.1) (hs' : s' = oI o) (ho : ∀ s, o = some s → s < 6) (c : Nat → Int32)
    (k : P (some (.int (oI (toldW (mayW W.2.2.1 W.2.2.2 now fit S.1 S.2) o (toldW (mayW W.2.2.1 W.2.2.2 now fit S.1 S.2) (R.2.2.1 w) (asUpW (mayW W.2.2.1 W.2.2.2 now fit S.1 S.2) now)))))) (aHp r rr (up1 I 19 c) J)) : aCl L xs fv 111 (d + 3) 84 [.ref 0, .ref b, .ref 1, .int s'] (aHp r rr (up1 I 19 c) J) P := by
  refine cl_of rfl (Nat.le_add_right _ _) ?_
  subst hs'
  have hS0 := hS
  obtain ⟨e0, e1, e2, e4, e5, e6, e7, e8, e9, eA, eB⟩ := hS0
  have hR' := rul_19 (c := c) hb hR
  have u1 : ∀ c, up1 I 19 c 1 = I 1 := fun c => up1_o rfl
  refine go_v (cd := cd84) [] 9 rfl ?_
  refine go_callv (cd := cd84) rfl rfl rfl rfl rfl (lv3 rfl) rfl (cl_cmay1 (o := o) hW hS rfl ho c (fun hm => ⟨rfl, ?_⟩) (fun hm => ⟨rfl, ?_⟩))
  · refine go_st (cd := cd84) 1 rfl (go_ifF (by decide) ?_)
    refine go_v (cd := cd84) [] 9 rfl ?_
    refine go_ireturn (cd := cd84) rfl ?_
    have : toldW (mayW W.2.2.1 W.2.2.2 now fit S.1 S.2) o (toldW (mayW W.2.2.1 W.2.2.2 now fit S.1 S.2) (R.2.2.1 w) (asUpW (mayW W.2.2.1 W.2.2.2 now fit S.1 S.2) now)) = o := by
      cases o with
      | none => cases hm
      | some s => exact if_pos hm
    rw [this] at k
    exact k
  · have ht : toldW (mayW W.2.2.1 W.2.2.2 now fit S.1 S.2) o (toldW (mayW W.2.2.1 W.2.2.2 now fit S.1 S.2) (R.2.2.1 w) (asUpW (mayW W.2.2.1 W.2.2.2 now fit S.1 S.2) now)) = toldW (mayW W.2.2.1 W.2.2.2 now fit S.1 S.2) (R.2.2.1 w) (asUpW (mayW W.2.2.1 W.2.2.2 now fit S.1 S.2) now) := by
      cases o with
      | none => rfl
      | some s => exact if_neg (by rw [show (mayW W.2.2.1 W.2.2.2 now fit S.1 S.2) s = false from hm]; decide)
    rw [ht] at k
    refine go_st (cd := cd84) 1 rfl (go_ifT rfl ?_)
    refine go_v (cd := cd84) [12] 9 rfl ?_
    refine go_getR (cd := cd84) rfl (isR_lt (k := 0) hb (by decide)) (isR_k hb).1 (isR_R hb).1 ?_
    refine go_v (cd := cd84) [] 9 rfl ?_
    rw [av0, u1, e1]
    refine go_iald (cd := cd84) rfl (isR_i1 hb e8) (isR_lt hb (by decide)) (isR_k hb).2.1 ?_
    rw [nI_clamp (by omega), (hR'.2.2.2.2.1 h56 w e8).1]
    refine go_v (cd := cd84) [] 9 rfl ?_
    refine go_callv (cd := cd84) rfl rfl rfl rfl rfl (lv3 rfl) rfl (cl_cmay1 (o := R.2.2.1 w) hW hS rfl (hR.2.2.2.2.1 h56 w e8).2 c (fun hm2 => ⟨rfl, ?_⟩) (fun hm2 => ⟨rfl, ?_⟩))
    · refine go_st (cd := cd84) 1 rfl (go_ifF (by decide) ?_)
      refine go_v (cd := cd84) [] 9 rfl ?_
      refine go_ireturn (cd := cd84) rfl ?_
      have : toldW (mayW W.2.2.1 W.2.2.2 now fit S.1 S.2) (R.2.2.1 w) (asUpW (mayW W.2.2.1 W.2.2.2 now fit S.1 S.2) now) = R.2.2.1 w := by
        cases hl : R.2.2.1 w with
        | none => rw [hl] at hm2; cases hm2
        | some s => rw [hl] at hm2; exact if_pos hm2
      rw [this] at k
      exact k
    · refine go_st (cd := cd84) 1 rfl (go_ifT rfl ?_)
      refine go_v (cd := cd84) [] 9 rfl ?_
      refine go_callv (cd := cd84) rfl rfl rfl rfl rfl (lv3 rfl) rfl (cl_asUp1 hW hS c ⟨rfl, ?_⟩)
      refine go_ireturn (cd := cd84) rfl ?_
      have : toldW (mayW W.2.2.1 W.2.2.2 now fit S.1 S.2) (R.2.2.1 w) (asUpW (mayW W.2.2.1 W.2.2.2 now fit S.1 S.2) now) = asUpW (mayW W.2.2.1 W.2.2.2 now fit S.1 S.2) now := by
        cases hl : R.2.2.1 w with
        | none => rfl
        | some s => rw [hl] at hm2; exact if_neg (by rw [show (mayW W.2.2.1 W.2.2.2 now fit S.1 S.2) s = false from hm2]; decide)
      rw [this] at k
      exact k
theorem cl_choice1 (hW : wld A W I) (hS : scn W S h now w fit 1 I) (hb : isR r b) (hR : rul R b I) (c : Nat → Int32) (hX : iX A (up1 I 19 c))
    (k : ∀ c, iX A (up1 I 19 c) → P (some (.int (oI (pkW W R S h now w fit)))) (aHp r rr (up1 I 19 c) J)) : aCl L xs fv 111 (d + 4) 79 [.ref 0, .ref b, .ref 1] (aHp r rr (up1 I 19 c) J) P := by
  refine cl_of rfl (Nat.le_add_right _ _) ?_
  have hS0 := hS
  obtain ⟨e0, e1, e2, e4, e5, e6, e7, e8, e9, eA, eB⟩ := hS0
  have hR' := rul_19 (c := c) hb hR
  have u1 : ∀ c, up1 I 19 c 1 = I 1 := fun c => up1_o rfl
  have ub : ∀ c, up1 I 19 c b = I b := fun c => up1_ne (isR_far (k := 0) hb (by decide))
  have h6 : R.1 = 0 ∨ R.1 = 1 ∨ R.1 = 2 ∨ R.1 = 3 ∨ R.1 = 4 ∨ R.1 = 5 ∨ R.1 = 6 := by have := hR.2.2.1; omega
  refine go_v (cd := cd79) [1] 9 rfl ?_
  refine go_get (cd := cd79) rfl (isR_lt (k := 0) hb (by decide)) (isR_k hb).1 ?_
  rw [av0, ub, hR.1]
  unfold pkW pickW at k
  rcases h6 with h6 | h6 | h6 | h6 | h6 | h6 | h6
  · rw [h6] at k ⊢
    refine go_tsw (cd := cd79) 1 6 rfl rfl rfl rfl (fun _ => ?_) ⟨fun hq => absurd hq (by decide), fun hq => absurd hq (by decide), fun hq => absurd hq (by decide), fun hq => absurd hq (by decide), fun hq => absurd hq (by decide), fun hq => absurd hq (by decide), trivial⟩
    refine go_v (cd := cd79) [] 9 rfl ?_
    refine go_callv (cd := cd79) rfl rfl rfl rfl rfl (lv3 rfl) rfl (cl_asUp1 hW hS c ⟨rfl, ?_⟩)
    exact go_ireturn (cd := cd79) rfl (k c hX)
  · rw [h6] at k ⊢
    refine go_tsw (cd := cd79) 1 6 rfl rfl rfl rfl (fun hq => absurd hq (by decide)) ⟨fun _ => ?_, fun hq => absurd hq (by decide), fun hq => absurd hq (by decide), fun hq => absurd hq (by decide), fun hq => absurd hq (by decide), fun hq => absurd hq (by decide), trivial⟩
    refine go_v (cd := cd79) [] 9 rfl ?_
    rw [av0, u1, e1]
    refine go_callv (cd := cd79) rfl rfl rfl rfl rfl (lv3 rfl) rfl (cl_fast1 hW hS rfl e8 c hX (fun c hX => ⟨rfl, ?_⟩))
    exact go_ireturn (cd := cd79) rfl (k c hX)
  · rw [h6] at k ⊢
    refine go_tsw (cd := cd79) 1 6 rfl rfl rfl rfl (fun hq => absurd hq (by decide)) ⟨fun hq => absurd hq (by decide), fun _ => ?_, fun hq => absurd hq (by decide), fun hq => absurd hq (by decide), fun hq => absurd hq (by decide), fun hq => absurd hq (by decide), trivial⟩
    refine go_v (cd := cd79) [] 9 rfl ?_
    rw [av0, u1, e1]
    refine go_callv (cd := cd79) rfl rfl rfl rfl rfl (lv3 rfl) rfl (cl_fast1 hW hS rfl e8 c hX (fun c hX => ⟨rfl, ?_⟩))
    refine go_v (cd := cd79) [] 9 rfl ?_
    rw [av0, av0, u1, e1, e2]
    have hft : ∀ s, (fasW (mayW W.2.2.1 W.2.2.2 now fit S.1 S.2) (fun s => SPw W 0 s w h) W.2.2.2).map (·.1) = some s → s < W.2.2.2 := fun s hs => by
      cases hf : fasW (mayW W.2.2.1 W.2.2.2 now fit S.1 S.2) (fun s => SPw W 0 s w h) W.2.2.2 with
      | none => rw [hf] at hs; cases hs
      | some q =>
        obtain ⟨q1, q2⟩ := q
        rw [hf] at hs; cases hs
        exact (fasW_lt hf).1
    refine go_callv (cd := cd79) rfl rfl rfl rfl rfl (lv3 rfl) rfl (cl_pace (z := 0) (w := w) (h := h) hW rfl rfl rfl rfl (by decide) hft e8 (by omega) c hX (fun c hX => ⟨rfl, ?_⟩))
    refine go_v (cd := cd79) [] 9 rfl ?_
    rw [av0, av0, av0, u1, e0, e1, e2]
    refine go_callv (cd := cd79) rfl rfl rfl rfl rfl (lv3 rfl) rfl (cl_pace (z := 0) (w := w) (h := h) (o := now) hW rfl rfl rfl rfl (by decide) eB e8 (by omega) c hX (fun c hX => ⟨rfl, ?_⟩))
    refine go_v (cd := cd79) [101] 9 rfl ?_
    refine go_get (cd := cd79) rfl (isR_lt (k := 0) hb (by decide)) (isR_k hb).1 ?_
    rw [av0, ub, hR.2.1]
    rw [if_neg (by decide), if_pos rfl] at k
    have hsp : ∀ o, spO (fun s => SPw W 0 s w h) o ≤ 99 := fun o => by
      cases o with
      | none => exact Nat.zero_le _
      | some s => exact SP_le W s w h
    have g1 := hsp ((fasW (mayW W.2.2.1 W.2.2.2 now fit S.1 S.2) (fun s => SPw W 0 s w h) W.2.2.2).map (·.1))
    have g2 := hsp now
    have g3 := hR.2.2.2.1
    rw [nI_iZ (spO _ _), nI_iZ (spO _ now), nI_iZ R.2.1, iZ_sub]
    have hcmp := iZ_le (a := (R.2.1 : Int)) (b := (spO (fun s => SPw W 0 s w h) ((fasW (mayW W.2.2.1 W.2.2.2 now fit S.1 S.2) (fun s => SPw W 0 s w h) W.2.2.2).map (·.1)) : Int) - spO (fun s => SPw W 0 s w h) now) (by omega) (by omega) (by omega) (by omega)
    by_cases hc : spO (fun s => SPw W 0 s w h) now + R.2.1 ≤ spO (fun s => SPw W 0 s w h) ((fasW (mayW W.2.2.1 W.2.2.2 now fit S.1 S.2) (fun s => SPw W 0 s w h) W.2.2.2).map (·.1))
    · rw [if_pos hc] at k
      refine go_st (cd := cd79) 1 rfl (go_ifF (Int32.not_lt.mpr (hcmp.mpr (by omega))) ?_)
      refine go_v (cd := cd79) [] 9 rfl ?_
      exact go_ireturn (cd := cd79) rfl (k c hX)
    · rw [if_neg hc] at k
      refine go_st (cd := cd79) 1 rfl (go_ifT (Int32.not_le.mp (fun hl => by have := hcmp.mp hl; omega)) ?_)
      refine go_v (cd := cd79) [] 9 rfl ?_
      refine go_callv (cd := cd79) rfl rfl rfl rfl rfl (lv3 rfl) rfl (cl_asUp1 hW hS c ⟨rfl, ?_⟩)
      exact go_ireturn (cd := cd79) rfl (k c hX)
  · rw [h6] at k ⊢
    refine go_tsw (cd := cd79) 1 6 rfl rfl rfl rfl (fun hq => absurd hq (by decide)) ⟨fun hq => absurd hq (by decide), fun hq => absurd hq (by decide), fun _ => ?_, fun hq => absurd hq (by decide), fun hq => absurd hq (by decide), fun hq => absurd hq (by decide), trivial⟩
    refine go_v (cd := cd79) [] 9 rfl ?_
    rw [show ((111 + 3 * r, up1 I 19 c, J, aRf r rr) : aH).2.1 1 1 = nI w from e1]
    refine go_min (cd := cd79) rfl rfl ?_
    have hmin : (if 3 < nI w + 1 then 3 else nI w + 1) = nI (if w < 3 then w + 1 else 3) := by
      have : ∀ w : Fin 4, (if 3 < nI w.val + 1 then 3 else nI w.val + 1) = nI (if w.val < 3 then w.val + 1 else 3) := by decide
      exact this ⟨w, e8⟩
    rw [hmin]
    refine go_callv (cd := cd79) rfl rfl rfl rfl rfl (lv3 rfl) rfl (cl_fast1 hW hS rfl (by split <;> omega) c hX (fun c hX => ⟨rfl, ?_⟩))
    exact go_ireturn (cd := cd79) rfl (k c hX)
  · rw [h6] at k ⊢
    refine go_tsw (cd := cd79) 1 6 rfl rfl rfl rfl (fun hq => absurd hq (by decide)) ⟨fun hq => absurd hq (by decide), fun hq => absurd hq (by decide), fun hq => absurd hq (by decide), fun _ => ?_, fun hq => absurd hq (by decide), fun hq => absurd hq (by decide), trivial⟩
    refine go_v (cd := cd79) [] 9 rfl ?_
    refine go_callv (cd := cd79) rfl rfl rfl rfl rfl (lv3 rfl) rfl (cl_wor1 hW hS hb hR c hX (fun c hX => ⟨rfl, ?_⟩))
    exact go_ireturn (cd := cd79) rfl (k c hX)
  · rw [h6] at k ⊢
    refine go_tsw (cd := cd79) 1 6 rfl rfl rfl rfl (fun hq => absurd hq (by decide)) ⟨fun hq => absurd hq (by decide), fun hq => absurd hq (by decide), fun hq => absurd hq (by decide), fun hq => absurd hq (by decide), fun _ => ?_, fun hq => absurd hq (by decide), trivial⟩
    refine go_v (cd := cd79) [] 9 rfl ?_
    refine go_callv (cd := cd79) rfl rfl rfl rfl rfl (lv3 rfl) rfl (cl_told1 (o := none) hW hS hb hR (by omega) rfl (fun s hs => by cases hs) c ⟨rfl, ?_⟩)
    exact go_ireturn (cd := cd79) rfl (k c hX)
  · rw [h6] at k ⊢
    refine go_tsw (cd := cd79) 1 6 rfl rfl rfl rfl (fun hq => absurd hq (by decide)) ⟨fun hq => absurd hq (by decide), fun hq => absurd hq (by decide), fun hq => absurd hq (by decide), fun hq => absurd hq (by decide), fun hq => absurd hq (by decide), fun _ => ?_, trivial⟩
    refine go_v (cd := cd79) [] 9 rfl ?_
    rw [av0, u1, e2]
    refine go_calls (cd := cd79) rfl rfl rfl rfl rfl (cl_rowAt (h := h) rfl (by omega) hb hR' h6 ⟨rfl, ?_⟩)
    refine go_callv (cd := cd79) rfl rfl rfl rfl rfl (lv3 rfl) rfl (cl_told1 (o := if h < 5 then R.2.2.2 h else none) hW hS hb hR (by omega) rfl (fun s hs => by
      split at hs
      next h5 => exact (hR.2.2.2.2.2 h6 h h5).2 s hs
      next => cases hs) c ⟨rfl, ?_⟩)
    exact go_ireturn (cd := cd79) rfl (k c hX)
theorem cl_miles1 {p : Option Nat} {s' : Int32} (hW : wld A W I) (hS : scn W S h now w fit 1 I) (hs' : s' = oI p) (hp : ∀ s, p = some s → s < W.2.2.2) (c : Nat → Int32) (hX : iX A (up1 I 19 c))
    (k : ∀ c, iX A (up1 I 19 c) → P (some (.int (iZ (mlW W h now w p)))) (aHp r rr (up1 I 19 c) J)) : aCl L xs fv 111 (d + 3) 78 [.ref 0, .ref 1, .int s'] (aHp r rr (up1 I 19 c) J) P := by
  refine cl_of rfl (Nat.le_add_right _ _) ?_
  subst hs'
  have hc := hW.1
  have hS0 := hS
  obtain ⟨e0, e1, e2, e4, e5, e6, e7, e8, e9, eA, eB⟩ := hS0
  have u1 : ∀ c, up1 I 19 c 1 = I 1 := fun c => up1_o rfl
  have hfin : ∀ x : Nat, iZ (spO (fun s => SPw W 0 s w h) p) - nI x = iZ (mlW W h now w p) → aTo L xs fv 111 (d + 2) cd78 (24, [(0, .ref 0), (1, .ref 1), (2, .int (oI p))], [.int (nI x)], aHp r rr (up1 I 19 c) J) P := fun x hx => by
    refine go_v (cd := cd78) [] 9 rfl ?_
    rw [av0, av0, u1, e1, e2]
    refine go_callv (cd := cd78) rfl rfl rfl rfl rfl (lv3 rfl) rfl (cl_pace (z := 0) (w := w) (h := h) (o := p) hW rfl rfl rfl rfl (by decide) hp e8 (by omega) c hX (fun c hX => ⟨rfl, ?_⟩))
    refine go_v (cd := cd78) [] 9 rfl ?_
    rw [nI_iZ (spO _ _), hx]
    exact go_ireturn (cd := cd78) rfl (k c hX)
  refine go_v (cd := cd78) [] 9 rfl ?_
  cases p with
  | none =>
    refine go_st (cd := cd78) 1 rfl (go_ifT rfl ?_)
    refine go_v (cd := cd78) [24] 9 rfl ?_
    exact hfin 0 (by rw [show iZ ((spO (fun s => SPw W 0 s w h) none : Nat) : Int) = iZ 0 from rfl, show nI 0 = iZ 0 from rfl, iZ_sub]; rfl)
  | some s =>
    have hsc := hp s rfl
    refine go_st (cd := cd78) 1 rfl (go_ifF (fun hx => by have h0 : (0 : Int32) ≤ nI s := nI_pos' (by omega); rw [show nI s = -1 from hx] at h0; exact absurd h0 (by decide)) ?_)
    refine go_v (cd := cd78) [] 9 rfl ?_
    rw [av0, u1, e0]
    by_cases hn : now = some s
    · refine go_st (cd := cd78) 1 rfl (go_ifT (by rw [hn]) ?_)
      refine go_v (cd := cd78) [24] 9 rfl ?_
      refine hfin 0 ?_
      unfold mlW
      dsimp only
      rw [if_pos hn, show nI 0 = iZ 0 from rfl, iZ_sub]; rfl
    · refine go_st (cd := cd78) 1 rfl (go_ifF (fun hx => hn ((oI_inj (fun u hu => by have := eB u hu; omega) (by omega)).mp (show oI now = nI s from hx.symm))) ?_)
      refine go_v (cd := cd78) [] 9 rfl ?_
      obtain ⟨hB1, hB2, hB3⟩ := hbR_ok hW
      refine go_callv (cd := cd78) rfl rfl rfl rfl rfl (lv3 rfl) rfl (cl_holding (wld_19 hW) ⟨rfl, ?_⟩)
      rw [show up1 I 19 c 77 = I 77 from up1_o rfl]
      refine go_get (cd := cd78) rfl (isB_lt hB1) (isB_k hB1) ?_
      rw [av0, up1_ne (show hbR (I 77 11) ≠ 19 from isB_19 (k := 0) hB1 (by decide)), hB3.1]
      refine go_v (cd := cd78) [24] 9 rfl ?_
      refine hfin _ ?_
      unfold mlW
      dsimp only
      rw [if_neg hn, nI_iZ (lastA W.1 2 0), iZ_sub]; rfl
theorem cl_told5 {o : Option Nat} {s' : Int32} (hW : wld A W I) (hS : scn W S h now w fit 5 I) (hb : isR r b) (hR : rul R b I) (h56 : 5 ≤ R.1) (hs' : s' = oI o) (ho : ∀ s, o = some s → s < 6) (c : Nat → Int32)
    (k : P (some (.int (oI (toldW (mayW W.2.2.1 W.2.2.2 now fit S.1 S.2) o (toldW (mayW W.2.2.1 W.2.2.2 now fit S.1 S.2) (R.2.2.1 w) (asUpW (mayW W.2.2.1 W.2.2.2 now fit S.1 S.2) now)))))) (aHp r rr (up1 I 19 c) J)) : aCl L xs fv 111 (d + 3) 84 [.ref 0, .ref b, .ref 5, .int s'] (aHp r rr (up1 I 19 c) J) P := by
  refine cl_of rfl (Nat.le_add_right _ _) ?_
  subst hs'
  have hS0 := hS
  obtain ⟨e0, e1, e2, e4, e5, e6, e7, e8, e9, eA, eB⟩ := hS0
  have hR' := rul_19 (c := c) hb hR
  have u1 : ∀ c, up1 I 19 c 5 = I 5 := fun c => up1_o rfl
  refine go_v (cd := cd84) [] 9 rfl ?_
  refine go_callv (cd := cd84) rfl rfl rfl rfl rfl (lv3 rfl) rfl (cl_cmay5 (o := o) hW hS rfl ho c (fun hm => ⟨rfl, ?_⟩) (fun hm => ⟨rfl, ?_⟩))
  · refine go_st (cd := cd84) 1 rfl (go_ifF (by decide) ?_)
    refine go_v (cd := cd84) [] 9 rfl ?_
    refine go_ireturn (cd := cd84) rfl ?_
    have : toldW (mayW W.2.2.1 W.2.2.2 now fit S.1 S.2) o (toldW (mayW W.2.2.1 W.2.2.2 now fit S.1 S.2) (R.2.2.1 w) (asUpW (mayW W.2.2.1 W.2.2.2 now fit S.1 S.2) now)) = o := by
      cases o with
      | none => cases hm
      | some s => exact if_pos hm
    rw [this] at k
    exact k
  · have ht : toldW (mayW W.2.2.1 W.2.2.2 now fit S.1 S.2) o (toldW (mayW W.2.2.1 W.2.2.2 now fit S.1 S.2) (R.2.2.1 w) (asUpW (mayW W.2.2.1 W.2.2.2 now fit S.1 S.2) now)) = toldW (mayW W.2.2.1 W.2.2.2 now fit S.1 S.2) (R.2.2.1 w) (asUpW (mayW W.2.2.1 W.2.2.2 now fit S.1 S.2) now) := by
      cases o with
      | none => rfl
      | some s => exact if_neg (by rw [show (mayW W.2.2.1 W.2.2.2 now fit S.1 S.2) s = false from hm]; decide)
    rw [ht] at k
    refine go_st (cd := cd84) 1 rfl (go_ifT rfl ?_)
    refine go_v (cd := cd84) [12] 9 rfl ?_
    refine go_getR (cd := cd84) rfl (isR_lt (k := 0) hb (by decide)) (isR_k hb).1 (isR_R hb).1 ?_
    refine go_v (cd := cd84) [] 9 rfl ?_
    rw [av0, u1, e1]
    refine go_iald (cd := cd84) rfl (isR_i1 hb e8) (isR_lt hb (by decide)) (isR_k hb).2.1 ?_
    rw [nI_clamp (by omega), (hR'.2.2.2.2.1 h56 w e8).1]
    refine go_v (cd := cd84) [] 9 rfl ?_
    refine go_callv (cd := cd84) rfl rfl rfl rfl rfl (lv3 rfl) rfl (cl_cmay5 (o := R.2.2.1 w) hW hS rfl (hR.2.2.2.2.1 h56 w e8).2 c (fun hm2 => ⟨rfl, ?_⟩) (fun hm2 => ⟨rfl, ?_⟩))
    · refine go_st (cd := cd84) 1 rfl (go_ifF (by decide) ?_)
      refine go_v (cd := cd84) [] 9 rfl ?_
      refine go_ireturn (cd := cd84) rfl ?_
      have : toldW (mayW W.2.2.1 W.2.2.2 now fit S.1 S.2) (R.2.2.1 w) (asUpW (mayW W.2.2.1 W.2.2.2 now fit S.1 S.2) now) = R.2.2.1 w := by
        cases hl : R.2.2.1 w with
        | none => rw [hl] at hm2; cases hm2
        | some s => rw [hl] at hm2; exact if_pos hm2
      rw [this] at k
      exact k
    · refine go_st (cd := cd84) 1 rfl (go_ifT rfl ?_)
      refine go_v (cd := cd84) [] 9 rfl ?_
      refine go_callv (cd := cd84) rfl rfl rfl rfl rfl (lv3 rfl) rfl (cl_asUp5 hW hS c ⟨rfl, ?_⟩)
      refine go_ireturn (cd := cd84) rfl ?_
      have : toldW (mayW W.2.2.1 W.2.2.2 now fit S.1 S.2) (R.2.2.1 w) (asUpW (mayW W.2.2.1 W.2.2.2 now fit S.1 S.2) now) = asUpW (mayW W.2.2.1 W.2.2.2 now fit S.1 S.2) now := by
        cases hl : R.2.2.1 w with
        | none => rfl
        | some s => rw [hl] at hm2; exact if_neg (by rw [show (mayW W.2.2.1 W.2.2.2 now fit S.1 S.2) s = false from hm2]; decide)
      rw [this] at k
      exact k
theorem cl_choice5 (hW : wld A W I) (hS : scn W S h now w fit 5 I) (hb : isR r b) (hR : rul R b I) (c : Nat → Int32) (hX : iX A (up1 I 19 c))
    (k : ∀ c, iX A (up1 I 19 c) → P (some (.int (oI (pkW W R S h now w fit)))) (aHp r rr (up1 I 19 c) J)) : aCl L xs fv 111 (d + 4) 79 [.ref 0, .ref b, .ref 5] (aHp r rr (up1 I 19 c) J) P := by
  refine cl_of rfl (Nat.le_add_right _ _) ?_
  have hS0 := hS
  obtain ⟨e0, e1, e2, e4, e5, e6, e7, e8, e9, eA, eB⟩ := hS0
  have hR' := rul_19 (c := c) hb hR
  have u1 : ∀ c, up1 I 19 c 5 = I 5 := fun c => up1_o rfl
  have ub : ∀ c, up1 I 19 c b = I b := fun c => up1_ne (isR_far (k := 0) hb (by decide))
  have h6 : R.1 = 0 ∨ R.1 = 1 ∨ R.1 = 2 ∨ R.1 = 3 ∨ R.1 = 4 ∨ R.1 = 5 ∨ R.1 = 6 := by have := hR.2.2.1; omega
  refine go_v (cd := cd79) [1] 9 rfl ?_
  refine go_get (cd := cd79) rfl (isR_lt (k := 0) hb (by decide)) (isR_k hb).1 ?_
  rw [av0, ub, hR.1]
  unfold pkW pickW at k
  rcases h6 with h6 | h6 | h6 | h6 | h6 | h6 | h6
  · rw [h6] at k ⊢
    refine go_tsw (cd := cd79) 1 6 rfl rfl rfl rfl (fun _ => ?_) ⟨fun hq => absurd hq (by decide), fun hq => absurd hq (by decide), fun hq => absurd hq (by decide), fun hq => absurd hq (by decide), fun hq => absurd hq (by decide), fun hq => absurd hq (by decide), trivial⟩
    refine go_v (cd := cd79) [] 9 rfl ?_
    refine go_callv (cd := cd79) rfl rfl rfl rfl rfl (lv3 rfl) rfl (cl_asUp5 hW hS c ⟨rfl, ?_⟩)
    exact go_ireturn (cd := cd79) rfl (k c hX)
  · rw [h6] at k ⊢
    refine go_tsw (cd := cd79) 1 6 rfl rfl rfl rfl (fun hq => absurd hq (by decide)) ⟨fun _ => ?_, fun hq => absurd hq (by decide), fun hq => absurd hq (by decide), fun hq => absurd hq (by decide), fun hq => absurd hq (by decide), fun hq => absurd hq (by decide), trivial⟩
    refine go_v (cd := cd79) [] 9 rfl ?_
    rw [av0, u1, e1]
    refine go_callv (cd := cd79) rfl rfl rfl rfl rfl (lv3 rfl) rfl (cl_fast5 hW hS rfl e8 c hX (fun c hX => ⟨rfl, ?_⟩))
    exact go_ireturn (cd := cd79) rfl (k c hX)
  · rw [h6] at k ⊢
    refine go_tsw (cd := cd79) 1 6 rfl rfl rfl rfl (fun hq => absurd hq (by decide)) ⟨fun hq => absurd hq (by decide), fun _ => ?_, fun hq => absurd hq (by decide), fun hq => absurd hq (by decide), fun hq => absurd hq (by decide), fun hq => absurd hq (by decide), trivial⟩
    refine go_v (cd := cd79) [] 9 rfl ?_
    rw [av0, u1, e1]
    refine go_callv (cd := cd79) rfl rfl rfl rfl rfl (lv3 rfl) rfl (cl_fast5 hW hS rfl e8 c hX (fun c hX => ⟨rfl, ?_⟩))
    refine go_v (cd := cd79) [] 9 rfl ?_
    rw [av0, av0, u1, e1, e2]
    have hft : ∀ s, (fasW (mayW W.2.2.1 W.2.2.2 now fit S.1 S.2) (fun s => SPw W 0 s w h) W.2.2.2).map (·.1) = some s → s < W.2.2.2 := fun s hs => by
      cases hf : fasW (mayW W.2.2.1 W.2.2.2 now fit S.1 S.2) (fun s => SPw W 0 s w h) W.2.2.2 with
      | none => rw [hf] at hs; cases hs
      | some q =>
        obtain ⟨q1, q2⟩ := q
        rw [hf] at hs; cases hs
        exact (fasW_lt hf).1
    refine go_callv (cd := cd79) rfl rfl rfl rfl rfl (lv3 rfl) rfl (cl_pace (z := 0) (w := w) (h := h) hW rfl rfl rfl rfl (by decide) hft e8 (by omega) c hX (fun c hX => ⟨rfl, ?_⟩))
    refine go_v (cd := cd79) [] 9 rfl ?_
    rw [av0, av0, av0, u1, e0, e1, e2]
    refine go_callv (cd := cd79) rfl rfl rfl rfl rfl (lv3 rfl) rfl (cl_pace (z := 0) (w := w) (h := h) (o := now) hW rfl rfl rfl rfl (by decide) eB e8 (by omega) c hX (fun c hX => ⟨rfl, ?_⟩))
    refine go_v (cd := cd79) [101] 9 rfl ?_
    refine go_get (cd := cd79) rfl (isR_lt (k := 0) hb (by decide)) (isR_k hb).1 ?_
    rw [av0, ub, hR.2.1]
    rw [if_neg (by decide), if_pos rfl] at k
    have hsp : ∀ o, spO (fun s => SPw W 0 s w h) o ≤ 99 := fun o => by
      cases o with
      | none => exact Nat.zero_le _
      | some s => exact SP_le W s w h
    have g1 := hsp ((fasW (mayW W.2.2.1 W.2.2.2 now fit S.1 S.2) (fun s => SPw W 0 s w h) W.2.2.2).map (·.1))
    have g2 := hsp now
    have g3 := hR.2.2.2.1
    rw [nI_iZ (spO _ _), nI_iZ (spO _ now), nI_iZ R.2.1, iZ_sub]
    have hcmp := iZ_le (a := (R.2.1 : Int)) (b := (spO (fun s => SPw W 0 s w h) ((fasW (mayW W.2.2.1 W.2.2.2 now fit S.1 S.2) (fun s => SPw W 0 s w h) W.2.2.2).map (·.1)) : Int) - spO (fun s => SPw W 0 s w h) now) (by omega) (by omega) (by omega) (by omega)
    by_cases hc : spO (fun s => SPw W 0 s w h) now + R.2.1 ≤ spO (fun s => SPw W 0 s w h) ((fasW (mayW W.2.2.1 W.2.2.2 now fit S.1 S.2) (fun s => SPw W 0 s w h) W.2.2.2).map (·.1))
    · rw [if_pos hc] at k
      refine go_st (cd := cd79) 1 rfl (go_ifF (Int32.not_lt.mpr (hcmp.mpr (by omega))) ?_)
      refine go_v (cd := cd79) [] 9 rfl ?_
      exact go_ireturn (cd := cd79) rfl (k c hX)
    · rw [if_neg hc] at k
      refine go_st (cd := cd79) 1 rfl (go_ifT (Int32.not_le.mp (fun hl => by have := hcmp.mp hl; omega)) ?_)
      refine go_v (cd := cd79) [] 9 rfl ?_
      refine go_callv (cd := cd79) rfl rfl rfl rfl rfl (lv3 rfl) rfl (cl_asUp5 hW hS c ⟨rfl, ?_⟩)
      exact go_ireturn (cd := cd79) rfl (k c hX)
  · rw [h6] at k ⊢
    refine go_tsw (cd := cd79) 1 6 rfl rfl rfl rfl (fun hq => absurd hq (by decide)) ⟨fun hq => absurd hq (by decide), fun hq => absurd hq (by decide), fun _ => ?_, fun hq => absurd hq (by decide), fun hq => absurd hq (by decide), fun hq => absurd hq (by decide), trivial⟩
    refine go_v (cd := cd79) [] 9 rfl ?_
    rw [show ((111 + 3 * r, up1 I 19 c, J, aRf r rr) : aH).2.1 5 1 = nI w from e1]
    refine go_min (cd := cd79) rfl rfl ?_
    have hmin : (if 3 < nI w + 1 then 3 else nI w + 1) = nI (if w < 3 then w + 1 else 3) := by
      have : ∀ w : Fin 4, (if 3 < nI w.val + 1 then 3 else nI w.val + 1) = nI (if w.val < 3 then w.val + 1 else 3) := by decide
      exact this ⟨w, e8⟩
    rw [hmin]
    refine go_callv (cd := cd79) rfl rfl rfl rfl rfl (lv3 rfl) rfl (cl_fast5 hW hS rfl (by split <;> omega) c hX (fun c hX => ⟨rfl, ?_⟩))
    exact go_ireturn (cd := cd79) rfl (k c hX)
  · rw [h6] at k ⊢
    refine go_tsw (cd := cd79) 1 6 rfl rfl rfl rfl (fun hq => absurd hq (by decide)) ⟨fun hq => absurd hq (by decide), fun hq => absurd hq (by decide), fun hq => absurd hq (by decide), fun _ => ?_, fun hq => absurd hq (by decide), fun hq => absurd hq (by decide), trivial⟩
    refine go_v (cd := cd79) [] 9 rfl ?_
    refine go_callv (cd := cd79) rfl rfl rfl rfl rfl (lv3 rfl) rfl (cl_wor5 hW hS hb hR c hX (fun c hX => ⟨rfl, ?_⟩))
    exact go_ireturn (cd := cd79) rfl (k c hX)
  · rw [h6] at k ⊢
    refine go_tsw (cd := cd79) 1 6 rfl rfl rfl rfl (fun hq => absurd hq (by decide)) ⟨fun hq => absurd hq (by decide), fun hq => absurd hq (by decide), fun hq => absurd hq (by decide), fun hq => absurd hq (by decide), fun _ => ?_, fun hq => absurd hq (by decide), trivial⟩
    refine go_v (cd := cd79) [] 9 rfl ?_
    refine go_callv (cd := cd79) rfl rfl rfl rfl rfl (lv3 rfl) rfl (cl_told5 (o := none) hW hS hb hR (by omega) rfl (fun s hs => by cases hs) c ⟨rfl, ?_⟩)
    exact go_ireturn (cd := cd79) rfl (k c hX)
  · rw [h6] at k ⊢
    refine go_tsw (cd := cd79) 1 6 rfl rfl rfl rfl (fun hq => absurd hq (by decide)) ⟨fun hq => absurd hq (by decide), fun hq => absurd hq (by decide), fun hq => absurd hq (by decide), fun hq => absurd hq (by decide), fun hq => absurd hq (by decide), fun _ => ?_, trivial⟩
    refine go_v (cd := cd79) [] 9 rfl ?_
    rw [av0, u1, e2]
    refine go_calls (cd := cd79) rfl rfl rfl rfl rfl (cl_rowAt (h := h) rfl (by omega) hb hR' h6 ⟨rfl, ?_⟩)
    refine go_callv (cd := cd79) rfl rfl rfl rfl rfl (lv3 rfl) rfl (cl_told5 (o := if h < 5 then R.2.2.2 h else none) hW hS hb hR (by omega) rfl (fun s hs => by
      split at hs
      next h5 => exact (hR.2.2.2.2.2 h6 h h5).2 s hs
      next => cases hs) c ⟨rfl, ?_⟩)
    exact go_ireturn (cd := cd79) rfl (k c hX)
theorem cl_miles5 {p : Option Nat} {s' : Int32} (hW : wld A W I) (hS : scn W S h now w fit 5 I) (hs' : s' = oI p) (hp : ∀ s, p = some s → s < W.2.2.2) (c : Nat → Int32) (hX : iX A (up1 I 19 c))
    (k : ∀ c, iX A (up1 I 19 c) → P (some (.int (iZ (mlW W h now w p)))) (aHp r rr (up1 I 19 c) J)) : aCl L xs fv 111 (d + 3) 78 [.ref 0, .ref 5, .int s'] (aHp r rr (up1 I 19 c) J) P := by
  refine cl_of rfl (Nat.le_add_right _ _) ?_
  subst hs'
  have hc := hW.1
  have hS0 := hS
  obtain ⟨e0, e1, e2, e4, e5, e6, e7, e8, e9, eA, eB⟩ := hS0
  have u1 : ∀ c, up1 I 19 c 5 = I 5 := fun c => up1_o rfl
  have hfin : ∀ x : Nat, iZ (spO (fun s => SPw W 0 s w h) p) - nI x = iZ (mlW W h now w p) → aTo L xs fv 111 (d + 2) cd78 (24, [(0, .ref 0), (1, .ref 5), (2, .int (oI p))], [.int (nI x)], aHp r rr (up1 I 19 c) J) P := fun x hx => by
    refine go_v (cd := cd78) [] 9 rfl ?_
    rw [av0, av0, u1, e1, e2]
    refine go_callv (cd := cd78) rfl rfl rfl rfl rfl (lv3 rfl) rfl (cl_pace (z := 0) (w := w) (h := h) (o := p) hW rfl rfl rfl rfl (by decide) hp e8 (by omega) c hX (fun c hX => ⟨rfl, ?_⟩))
    refine go_v (cd := cd78) [] 9 rfl ?_
    rw [nI_iZ (spO _ _), hx]
    exact go_ireturn (cd := cd78) rfl (k c hX)
  refine go_v (cd := cd78) [] 9 rfl ?_
  cases p with
  | none =>
    refine go_st (cd := cd78) 1 rfl (go_ifT rfl ?_)
    refine go_v (cd := cd78) [24] 9 rfl ?_
    exact hfin 0 (by rw [show iZ ((spO (fun s => SPw W 0 s w h) none : Nat) : Int) = iZ 0 from rfl, show nI 0 = iZ 0 from rfl, iZ_sub]; rfl)
  | some s =>
    have hsc := hp s rfl
    refine go_st (cd := cd78) 1 rfl (go_ifF (fun hx => by have h0 : (0 : Int32) ≤ nI s := nI_pos' (by omega); rw [show nI s = -1 from hx] at h0; exact absurd h0 (by decide)) ?_)
    refine go_v (cd := cd78) [] 9 rfl ?_
    rw [av0, u1, e0]
    by_cases hn : now = some s
    · refine go_st (cd := cd78) 1 rfl (go_ifT (by rw [hn]) ?_)
      refine go_v (cd := cd78) [24] 9 rfl ?_
      refine hfin 0 ?_
      unfold mlW
      dsimp only
      rw [if_pos hn, show nI 0 = iZ 0 from rfl, iZ_sub]; rfl
    · refine go_st (cd := cd78) 1 rfl (go_ifF (fun hx => hn ((oI_inj (fun u hu => by have := eB u hu; omega) (by omega)).mp (show oI now = nI s from hx.symm))) ?_)
      refine go_v (cd := cd78) [] 9 rfl ?_
      obtain ⟨hB1, hB2, hB3⟩ := hbR_ok hW
      refine go_callv (cd := cd78) rfl rfl rfl rfl rfl (lv3 rfl) rfl (cl_holding (wld_19 hW) ⟨rfl, ?_⟩)
      rw [show up1 I 19 c 77 = I 77 from up1_o rfl]
      refine go_get (cd := cd78) rfl (isB_lt hB1) (isB_k hB1) ?_
      rw [av0, up1_ne (show hbR (I 77 11) ≠ 19 from isB_19 (k := 0) hB1 (by decide)), hB3.1]
      refine go_v (cd := cd78) [24] 9 rfl ?_
      refine hfin _ ?_
      unfold mlW
      dsimp only
      rw [if_neg hn, nI_iZ (lastA W.1 2 0), iZ_sub]; rfl
end CC
