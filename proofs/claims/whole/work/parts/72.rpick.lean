/-! the reference's choice, miles and followers -/
section RQ
variable {L : Nat} {xs : Nat → Int32} {fv : Value} {d : Nat} {r : Nat} {rr : Option Nat} {I : Nat → Nat → Int32} {J : Nat → Nat → Int64} {P : Option Value → aH → Prop}
variable {W : Wd} {F : Nat} {S : Sc} {h w : Nat} {now : Option Nat} {x : Int32} {R : Ru} {q : Nat}
theorem spO_spA {z : Nat} (o : Option Nat) : spA W.1 W.2.1 z o w h = spO (fun s => SPw W z s w h) o := by
  cases o <;> rfl
theorem fas_lt {M : Nat → Bool} {sp : Nat → Nat} {n : Nat} : ∀ s, (fasW M sp n).map (·.1) = some s → s < n := fun s hs => by
  cases hf : fasW M sp n with
  | none => rw [hf] at hs; cases hs
  | some p =>
    obtain ⟨q1, q2⟩ := p
    rw [hf] at hs; cases hs
    exact (fasW_lt hf).1
set_option maxHeartbeats 4000000 in
theorem cl_pickOf {q' n' w' h' : Int32} (hW : rwl W F I) (hS : rsc S I) (hR : rrl R q I) (hq' : q' = nI q) (hn' : n' = oI now) (hw' : w' = nI w) (hh' : h' = nI h) (hw : w < 4) (hh : h < 1000) (hnow : ∀ u, now = some u → u < W.2.2.2) (c : Nat → Int32)
    (k : ∀ c, P (some (.int (oI (pkW W R S h now w (bt x))))) (aHp r rr (up1 I 89 c) J)) : aCl L xs fv 111 (d + 6) 135 [.ref 77, .int q', .int n', .int w', .int h', .int x] (aHp r rr (up1 I 89 c) J) P := by
  refine cl_of rfl (Nat.le_add_right _ _) ?_
  subst hq'; subst hn'; subst hw'; subst hh'
  have hc := hW.2.1
  obtain ⟨f0, f1, f2, f3, f4, f5, f6⟩ := hR
  have u91 : ∀ c, up1 I 89 c 91 = I 91 := fun c => up1_o rfl
  have u92 : ∀ c, up1 I 89 c 92 = I 92 := fun c => up1_o rfl
  have u93 : ∀ c, up1 I 89 c 93 = I 93 := fun c => up1_o rfl
  have u94 : ∀ c, up1 I 89 c 94 = I 94 := fun c => up1_o rfl
  have hcl : (nI q).toNatClampNeg = q := nI_clamp (by omega)
  have h6 : R.1 = 0 ∨ R.1 = 1 ∨ R.1 = 2 ∨ R.1 = 3 ∨ R.1 = 4 ∨ R.1 = 5 ∨ R.1 = 6 := by omega
  refine go_v (cd := cd135) [] 9 rfl ?_
  refine go_iald (cd := cd135) rfl (nI_vin (n := 11) (by omega) (by decide)) (lv3 rfl) rfl ?_
  rw [hcl, u91, f1]
  unfold pkW pickW at k
  have hline : ∀ c, 5 ≤ R.1 → (∀ c, P (some (.int (oI (toldW (mayW W.2.2.1 W.2.2.2 now (bt x) S.1 S.2) (R.2.2.1 w) (asUpW (mayW W.2.2.1 W.2.2.2 now (bt x) S.1 S.2) now))))) (aHp r rr (up1 I 89 c) J)) → aTo L xs fv 111 (d + 5) cd135 (202, [(0, .ref 77), (1, .int (nI q)), (2, .int (oI now)), (3, .int (nI w)), (4, .int (nI h)), (5, .int x)], [], aHp r rr (up1 I 89 c) J) P := fun c h5 k => by
    have hl := f5 h5 w hw
    have hix : (4 * nI q + nI w).toNatClampNeg = 4 * q + w := by
      rw [show (4 : Int32) = nI 4 from rfl, nI_mul, nI_add]; exact nI_clamp (by omega)
    have hin : vp_in (4 * nI q + nI w) 44 := by
      rw [show (4 : Int32) = nI 4 from rfl, nI_mul, nI_add]; exact nI_vin (by omega) (by decide)
    refine go_v (cd := cd135) [] 9 rfl ?_
    refine go_iald (cd := cd135) rfl hin (lv3 rfl) rfl ?_
    rw [hix, u93, hl.1]
    refine go_v (cd := cd135) [] 9 rfl ?_
    refine go_callv (cd := cd135) rfl rfl rfl rfl rfl (lv3 rfl) rfl (cl_rmay (o := R.2.2.1 w) (now := now) hW hS rfl rfl hl.2 hnow c (fun hm => ⟨rfl, ?_⟩) (fun hm => ⟨rfl, ?_⟩))
    · refine go_st (cd := cd135) 1 rfl (go_ifF (by decide) ?_)
      refine go_v (cd := cd135) [] 9 rfl ?_
      refine go_iald (cd := cd135) rfl hin (lv3 rfl) rfl ?_
      rw [hix, u93, hl.1]
      refine go_v (cd := cd135) [] 9 rfl ?_
      refine go_ireturn (cd := cd135) rfl ?_
      have : toldW (mayW W.2.2.1 W.2.2.2 now (bt x) S.1 S.2) (R.2.2.1 w) (asUpW (mayW W.2.2.1 W.2.2.2 now (bt x) S.1 S.2) now) = R.2.2.1 w := by
        cases hl : R.2.2.1 w with
        | none => rw [hl] at hm; cases hm
        | some s => rw [hl] at hm; exact if_pos hm
      rw [this] at k
      exact k c
    · refine go_st (cd := cd135) 1 rfl (go_ifT rfl ?_)
      refine go_v (cd := cd135) [] 9 rfl ?_
      refine go_callv (cd := cd135) rfl rfl rfl rfl rfl (lv3 rfl) rfl (cl_plain (now := now) hW hS rfl hnow c ⟨rfl, ?_⟩)
      refine go_ireturn (cd := cd135) rfl ?_
      have : toldW (mayW W.2.2.1 W.2.2.2 now (bt x) S.1 S.2) (R.2.2.1 w) (asUpW (mayW W.2.2.1 W.2.2.2 now (bt x) S.1 S.2) now) = asUpW (mayW W.2.2.1 W.2.2.2 now (bt x) S.1 S.2) now := by
        cases hl : R.2.2.1 w with
        | none => rfl
        | some s => rw [hl] at hm; exact if_neg (by rw [show (mayW W.2.2.1 W.2.2.2 now (bt x) S.1 S.2) s = false from hm]; decide)
      rw [this] at k
      exact k c
  rcases h6 with h6 | h6 | h6 | h6 | h6 | h6 | h6
  · rw [h6] at k ⊢
    refine go_tsw (cd := cd135) 0 4 rfl rfl rfl rfl (fun hq => absurd hq (by decide)) ⟨fun _ => ?_, fun hq => absurd hq (by decide), fun hq => absurd hq (by decide), fun hq => absurd hq (by decide), fun hq => absurd hq (by decide), trivial⟩
    refine go_v (cd := cd135) [] 9 rfl ?_
    refine go_callv (cd := cd135) rfl rfl rfl rfl rfl (lv3 rfl) rfl (cl_plain (now := now) hW hS rfl hnow c ⟨rfl, ?_⟩)
    exact go_ireturn (cd := cd135) rfl (k c)
  · rw [h6] at k ⊢
    refine go_tsw (cd := cd135) 0 4 rfl rfl rfl rfl (fun hq => absurd hq (by decide)) ⟨fun hq => absurd hq (by decide), fun _ => ?_, fun hq => absurd hq (by decide), fun hq => absurd hq (by decide), fun hq => absurd hq (by decide), trivial⟩
    refine go_v (cd := cd135) [] 9 rfl ?_
    refine go_callv (cd := cd135) rfl rfl rfl rfl rfl (lv3 rfl) rfl (cl_rfast (now := now) hW hS rfl rfl rfl hw hh hnow c (fun c => ⟨rfl, ?_⟩))
    exact go_ireturn (cd := cd135) rfl (k c)
  · rw [h6] at k ⊢
    refine go_tsw (cd := cd135) 0 4 rfl rfl rfl rfl (fun hq => absurd hq (by decide)) ⟨fun hq => absurd hq (by decide), fun hq => absurd hq (by decide), fun _ => ?_, fun hq => absurd hq (by decide), fun hq => absurd hq (by decide), trivial⟩
    refine go_v (cd := cd135) [] 9 rfl ?_
    refine go_callv (cd := cd135) rfl rfl rfl rfl rfl (lv3 rfl) rfl (cl_rfast (now := now) hW hS rfl rfl rfl hw hh hnow c (fun c => ⟨rfl, ?_⟩))
    refine go_v (cd := cd135) [] 9 rfl ?_
    refine go_callv (cd := cd135) rfl rfl rfl rfl rfl (lv3 rfl) rfl (cl_rsum (z := 0) (w := w) (h := h) (o := ((fasW (mayW W.2.2.1 W.2.2.2 now (bt x) S.1 S.2) (fun s => SPw W 0 s w h) W.2.2.2).map (·.1))) (wt := W.2.1) hW.1 rfl rfl rfl rfl (by decide) (fun s hs => by have := fas_lt s hs; omega) hw hh (fun s hs => ⟨(hW.2.2.2 s hs).1, (hW.2.2.2 s hs).2.1⟩) c (fun c => ⟨rfl, ?_⟩))
    refine go_v (cd := cd135) [] 9 rfl ?_
    refine go_callv (cd := cd135) rfl rfl rfl rfl rfl (lv3 rfl) rfl (cl_rsum (z := 0) (w := w) (h := h) (o := now) (wt := W.2.1) hW.1 rfl rfl rfl rfl (by decide) (fun s hs => by have := hnow s hs; omega) hw hh (fun s hs => ⟨(hW.2.2.2 s hs).1, (hW.2.2.2 s hs).2.1⟩) c (fun c => ⟨rfl, ?_⟩))
    refine go_v (cd := cd135) [] 9 rfl ?_
    refine go_iald (cd := cd135) rfl (nI_vin (n := 11) (by omega) (by decide)) (lv3 rfl) rfl ?_
    rw [hcl, u92, f2]
    refine go_v (cd := cd135) [] 9 rfl ?_
    rw [if_neg (by decide), if_pos rfl] at k
    have hsp : ∀ o, spO (fun s => SPw W 0 s w h) o ≤ 99 := fun o => by
      cases o with
      | none => exact Nat.zero_le _
      | some s => exact SP_le W s w h
    have g1 := hsp ((fasW (mayW W.2.2.1 W.2.2.2 now (bt x) S.1 S.2) (fun s => SPw W 0 s w h) W.2.2.2).map (·.1))
    have g2 := hsp now
    rw [spO_spA, spO_spA, nI_add]
    by_cases hcc : spO (fun s => SPw W 0 s w h) now + R.2.1 ≤ spO (fun s => SPw W 0 s w h) ((fasW (mayW W.2.2.1 W.2.2.2 now (bt x) S.1 S.2) (fun s => SPw W 0 s w h) W.2.2.2).map (·.1))
    · rw [if_pos hcc] at k
      refine go_st (cd := cd135) 1 rfl (go_ifF (nI_nlt hcc (by omega)) ?_)
      refine go_v (cd := cd135) [] 9 rfl ?_
      exact go_ireturn (cd := cd135) rfl (k c)
    · rw [if_neg hcc] at k
      refine go_st (cd := cd135) 1 rfl (go_ifT (nI_lt (by omega) (by omega)) ?_)
      refine go_v (cd := cd135) [] 9 rfl ?_
      refine go_callv (cd := cd135) rfl rfl rfl rfl rfl (lv3 rfl) rfl (cl_plain (now := now) hW hS rfl hnow c ⟨rfl, ?_⟩)
      exact go_ireturn (cd := cd135) rfl (k c)
  · rw [h6] at k ⊢
    refine go_tsw (cd := cd135) 0 4 rfl rfl rfl rfl (fun hq => absurd hq (by decide)) ⟨fun hq => absurd hq (by decide), fun hq => absurd hq (by decide), fun hq => absurd hq (by decide), fun _ => ?_, fun hq => absurd hq (by decide), trivial⟩
    refine go_v (cd := cd135) [] 9 rfl ?_
    have hfin : ∀ y : Int32, y = nI (if w < 3 then w + 1 else 3) → aTo L xs fv 111 (d + 5) cd135 (73, [(0, .ref 77), (1, .int (nI q)), (2, .int (oI now)), (3, .int (nI w)), (4, .int (nI h)), (5, .int x)], [.int y, .int (oI now), .ref 77], aHp r rr (up1 I 89 c) J) P := fun y hy => by
      refine go_v (cd := cd135) [] 9 rfl ?_
      refine go_callv (cd := cd135) rfl rfl rfl rfl rfl (lv3 rfl) rfl (cl_rfast (now := now) (w := if w < 3 then w + 1 else 3) hW hS rfl hy rfl (by split <;> omega) hh hnow c (fun c => ⟨rfl, ?_⟩))
      exact go_ireturn (cd := cd135) rfl (k c)
    by_cases h3 : w < 3
    · refine go_st (cd := cd135) 1 rfl (go_ifF (nI_ge (b := 3) h3 (by decide)) ?_)
      refine go_v (cd := cd135) [73] 9 rfl ?_
      exact hfin _ (by rw [if_pos h3, nI_succ])
    · refine go_st (cd := cd135) 1 rfl (go_ifT (nI_le (a := 3) (by omega) (by omega)) ?_)
      refine go_v (cd := cd135) [73] 9 rfl ?_
      exact hfin _ (by rw [if_neg h3]; rfl)
  · rw [h6] at k ⊢
    refine go_tsw (cd := cd135) 0 4 rfl rfl rfl rfl (fun hq => absurd hq (by decide)) ⟨fun hq => absurd hq (by decide), fun hq => absurd hq (by decide), fun hq => absurd hq (by decide), fun hq => absurd hq (by decide), fun _ => ?_, trivial⟩
    refine go_v (cd := cd135) [] 9 rfl ?_
    refine go_iald (cd := cd135) rfl (nI_vin (n := 11) (by omega) (by decide)) (lv3 rfl) rfl ?_
    rw [hcl, u92, f2]
    refine go_callv (cd := cd135) rfl rfl rfl rfl rfl (lv3 rfl) rfl (cl_dear (now := now) hW hS rfl rfl rfl rfl hw hh f4 hnow c (fun c => ⟨rfl, ?_⟩))
    exact go_ireturn (cd := cd135) rfl (k c)
  · rw [h6] at k ⊢
    refine go_tsw (cd := cd135) 0 4 rfl rfl rfl rfl (fun _ => ?_) ⟨fun hq => absurd hq (by decide), fun hq => absurd hq (by decide), fun hq => absurd hq (by decide), fun hq => absurd hq (by decide), fun hq => absurd hq (by decide), trivial⟩
    refine go_v (cd := cd135) [] 9 rfl ?_
    refine go_iald (cd := cd135) rfl (nI_vin (n := 11) (by omega) (by decide)) (lv3 rfl) rfl ?_
    rw [hcl, u91, f1, h6]
    refine go_v (cd := cd135) [] 9 rfl ?_
    refine go_st (cd := cd135) 1 rfl (go_ifF (by decide) ?_)
    exact hline c (by omega) k
  · rw [h6] at k ⊢
    refine go_tsw (cd := cd135) 0 4 rfl rfl rfl rfl (fun _ => ?_) ⟨fun hq => absurd hq (by decide), fun hq => absurd hq (by decide), fun hq => absurd hq (by decide), fun hq => absurd hq (by decide), fun hq => absurd hq (by decide), trivial⟩
    refine go_v (cd := cd135) [] 9 rfl ?_
    refine go_iald (cd := cd135) rfl (nI_vin (n := 11) (by omega) (by decide)) (lv3 rfl) rfl ?_
    rw [hcl, u91, f1, h6]
    refine go_v (cd := cd135) [] 9 rfl ?_
    refine go_st (cd := cd135) 1 rfl (go_ifT (by decide) ?_)
    refine go_v (cd := cd135) [] 9 rfl ?_
    by_cases h5 : h < 5
    · have hl := f6 h6 h h5
      have hix : (5 * nI q + nI h).toNatClampNeg = 5 * q + h := by
        rw [show (5 : Int32) = nI 5 from rfl, nI_mul, nI_add]; exact nI_clamp (by omega)
      have hin : vp_in (5 * nI q + nI h) 55 := by
        rw [show (5 : Int32) = nI 5 from rfl, nI_mul, nI_add]; exact nI_vin (by omega) (by decide)
      refine go_st (cd := cd135) 1 rfl (go_ifF (nI_ge (b := 5) h5 (by decide)) ?_)
      refine go_v (cd := cd135) [] 9 rfl ?_
      refine go_iald (cd := cd135) rfl hin (lv3 rfl) rfl ?_
      rw [hix, u94, hl.1]
      refine go_v (cd := cd135) [] 9 rfl ?_
      refine go_callv (cd := cd135) rfl rfl rfl rfl rfl (lv3 rfl) rfl (cl_rmay (o := R.2.2.2 h) (now := now) hW hS rfl rfl hl.2 hnow c (fun hm => ⟨rfl, ?_⟩) (fun hm => ⟨rfl, ?_⟩))
      · refine go_st (cd := cd135) 1 rfl (go_ifF (by decide) ?_)
        refine go_v (cd := cd135) [] 9 rfl ?_
        refine go_iald (cd := cd135) rfl hin (lv3 rfl) rfl ?_
        rw [hix, u94, hl.1]
        refine go_ireturn (cd := cd135) rfl ?_
        have : toldW (mayW W.2.2.1 W.2.2.2 now (bt x) S.1 S.2) (if h < 5 then R.2.2.2 h else none) (toldW (mayW W.2.2.1 W.2.2.2 now (bt x) S.1 S.2) (R.2.2.1 w) (asUpW (mayW W.2.2.1 W.2.2.2 now (bt x) S.1 S.2) now)) = R.2.2.2 h := by
          rw [if_pos h5]
          cases hl : R.2.2.2 h with
          | none => rw [hl] at hm; cases hm
          | some s => rw [hl] at hm; exact if_pos hm
        have k1 : ∀ c, P (some (.int (oI (toldW (mayW W.2.2.1 W.2.2.2 now (bt x) S.1 S.2) (if h < 5 then R.2.2.2 h else none) (toldW (mayW W.2.2.1 W.2.2.2 now (bt x) S.1 S.2) (R.2.2.1 w) (asUpW (mayW W.2.2.1 W.2.2.2 now (bt x) S.1 S.2) now)))))) (aHp r rr (up1 I 89 c) J) := k
        rw [this] at k1
        exact k1 c
      · have : toldW (mayW W.2.2.1 W.2.2.2 now (bt x) S.1 S.2) (if h < 5 then R.2.2.2 h else none) (toldW (mayW W.2.2.1 W.2.2.2 now (bt x) S.1 S.2) (R.2.2.1 w) (asUpW (mayW W.2.2.1 W.2.2.2 now (bt x) S.1 S.2) now)) = toldW (mayW W.2.2.1 W.2.2.2 now (bt x) S.1 S.2) (R.2.2.1 w) (asUpW (mayW W.2.2.1 W.2.2.2 now (bt x) S.1 S.2) now) := by
          rw [if_pos h5]
          cases hl : R.2.2.2 h with
          | none => rfl
          | some s => rw [hl] at hm; exact if_neg (by rw [show (mayW W.2.2.1 W.2.2.2 now (bt x) S.1 S.2) s = false from hm]; decide)
        have k1 : ∀ c, P (some (.int (oI (toldW (mayW W.2.2.1 W.2.2.2 now (bt x) S.1 S.2) (if h < 5 then R.2.2.2 h else none) (toldW (mayW W.2.2.1 W.2.2.2 now (bt x) S.1 S.2) (R.2.2.1 w) (asUpW (mayW W.2.2.1 W.2.2.2 now (bt x) S.1 S.2) now)))))) (aHp r rr (up1 I 89 c) J) := k
        rw [this] at k1
        refine go_st (cd := cd135) 1 rfl (go_ifT rfl ?_)
        exact hline c (by omega) k1
    · have k1 : ∀ c, P (some (.int (oI (toldW (mayW W.2.2.1 W.2.2.2 now (bt x) S.1 S.2) (if h < 5 then R.2.2.2 h else none) (toldW (mayW W.2.2.1 W.2.2.2 now (bt x) S.1 S.2) (R.2.2.1 w) (asUpW (mayW W.2.2.1 W.2.2.2 now (bt x) S.1 S.2) now)))))) (aHp r rr (up1 I 89 c) J) := k
      rw [if_neg h5] at k1
      refine go_st (cd := cd135) 1 rfl (go_ifT (nI_le (a := 5) (by omega) (by omega)) ?_)
      exact hline c (by omega) k1
theorem cl_rmiles {p : Option Nat} {p' n' w' h' : Int32} (hW : rwl W F I) (hp' : p' = oI p) (hn' : n' = oI now) (hw' : w' = nI w) (hh' : h' = nI h) (hw : w < 4) (hh : h < 1000) (hnow : ∀ u, now = some u → u < 6) (hp : ∀ s, p = some s → s < 6) (c : Nat → Int32)
    (k : ∀ c, P (some (.int (iZ (mlW W h now w p)))) (aHp r rr (up1 I 89 c) J)) : aCl L xs fv 111 (d + 3) 138 [.ref 77, .int p', .int n', .int w', .int h'] (aHp r rr (up1 I 89 c) J) P := by
  refine cl_of rfl (Nat.le_add_right _ _) ?_
  subst hp'; subst hn'; subst hw'; subst hh'
  refine go_v (cd := cd138) [] 9 rfl ?_
  cases p with
  | none =>
    refine go_st (cd := cd138) 1 rfl (go_ifF (by decide) ?_)
    refine go_v (cd := cd138) [] 9 rfl ?_
    exact go_ireturn (cd := cd138) rfl (k c)
  | some s =>
    have hs6 := hp s rfl
    refine go_st (cd := cd138) 1 rfl (go_ifT (nI_pos' (n := s) (by omega)) ?_)
    refine go_v (cd := cd138) [] 9 rfl ?_
    refine go_callv (cd := cd138) rfl rfl rfl rfl rfl (lv3 rfl) rfl (cl_rsum (z := 0) (w := w) (h := h) (o := some s) (wt := W.2.1) hW.1 rfl rfl rfl rfl (by decide) hp hw hh (fun s hs => ⟨(hW.2.2.2 s hs).1, (hW.2.2.2 s hs).2.1⟩) c (fun c => ⟨rfl, ?_⟩))
    rw [show spA W.1 W.2.1 0 (some s) w h = SPw W 0 s w h from rfl]
    refine go_v (cd := cd138) [] 9 rfl ?_
    have hml : mlW W h now w (some s) = (SPw W 0 s w h : Int) - (if now = some s then 0 else (lsW W : Int)) := rfl
    by_cases hn : now = some s
    · rw [if_pos hn] at hml
      refine go_st (cd := cd138) 1 rfl (go_ifT (by rw [hn]) ?_)
      refine go_v (cd := cd138) [] 9 rfl ?_
      refine go_ireturn (cd := cd138) rfl ?_
      rw [nI_iZ, show (0 : Int32) = iZ 0 from rfl, iZ_sub, ← hml]
      exact k c
    · rw [if_neg hn] at hml
      refine go_st (cd := cd138) 1 rfl (go_ifF (fun hx => hn ((oI_inj (fun u hu => by have := hnow u hu; omega) (by omega)).mp (show oI now = nI s from hx.symm))) ?_)
      refine go_v (cd := cd138) [] 9 rfl ?_
      refine go_callv (cd := cd138) rfl rfl rfl rfl rfl (lv3 rfl) rfl (cl_rlast (w := 2) (p := 0) (rwl_89 hW).1 rfl rfl (Or.inl ⟨rfl, rfl⟩) ⟨rfl, ?_⟩)
      refine go_v (cd := cd138) [] 9 rfl ?_
      refine go_ireturn (cd := cd138) rfl ?_
      have e : nI (SPw W 0 s w h) - nI (lastA W.1 2 0) = iZ (mlW W h now w (some s)) := by
        rw [nI_iZ, nI_iZ, iZ_sub, hml]; rfl
      rw [e]
      exact k c
end RQ
