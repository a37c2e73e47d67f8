/-! scenes and rules of the class, in numbers -/
def scn (W : Wd) (S : Sc) (h : Nat) (now : Option Nat) (w : Nat) (fit : Nat → Bool) (i : Nat) (I : Nat → Nat → Int32) : Prop := I i 0 = oI now ∧ I i 1 = nI w ∧ I i 2 = nI h ∧ I i 4 = nI S.2 ∧ I i 5 = nI W.2.2.2 ∧ bt (I i 6) = fit ∧ bt (I i 7) = S.1 ∧ w < 4 ∧ h < 900 ∧ S.2 ≤ 9 ∧ ∀ u, now = some u → u < W.2.2.2
def isR (r b : Nat) : Prop := b = 21 ∨ b = 24 ∨ ∃ k, k < r ∧ k < 10 ∧ b = 111 + 3 * k
theorem isR_lt {b r k : Nat} (h : isR r b) (hk : k < 3) : b + k < 111 + 3 * r := by
  rcases h with h | h | ⟨f, h, h1, h2⟩ <;> omega
theorem isR_far {b r k : Nat} (h : isR r b) (hk : k < 3) : b + k ≠ 19 := by
  rcases h with h | h | ⟨f, h, h1, h2⟩ <;> omega
theorem isR_all {L b r : Nat} (h : isR r b) : akd L b = (2, 5) ∧ akd L (b + 1) = (7, 4) ∧ akd L (b + 2) = (7, 5) := by
  rcases h with rfl | rfl | ⟨f, -, h1, rfl⟩
  · exact ⟨rfl, rfl, rfl⟩
  · exact ⟨rfl, rfl, rfl⟩
  · have := akd_ru (L := L) h1
    rw [show 111 + 3 * f + 1 = 112 + 3 * f by omega, show 111 + 3 * f + 2 = 113 + 3 * f by omega]
    exact this
theorem isR_k {L b r : Nat} (h : isR r b) : (akd L b).1 = 2 ∧ (akd L (b + 1)).1 = 7 ∧ (akd L (b + 2)).1 = 7 := by
  obtain ⟨h1, h2, h3⟩ := isR_all (L := L) h
  rw [h1, h2, h3]; exact ⟨rfl, rfl, rfl⟩
theorem isR_i1 {L b r j : Nat} (h : isR r b) (hj : j < 4) : vp_in (nI j) (akd L (b + 1)).2 := by
  rw [(isR_all (L := L) h).2.1]; exact nI_vin (n := 4) hj (by decide)
theorem isR_i2 {L b r j : Nat} (h : isR r b) (hj : j < 5) : vp_in (nI j) (akd L (b + 2)).2 := by
  rw [(isR_all (L := L) h).2.2]; exact nI_vin (n := 5) hj (by decide)
theorem isR_R {b r : Nat} {rr : Option Nat} (h : isR r b) : aRf r rr b 3 = some (b + 1) ∧ aRf r rr b 4 = some (b + 2) := by
  rcases h with rfl | rfl | ⟨f, h0, h1, rfl⟩
  · exact ⟨rfl, rfl⟩
  · exact ⟨rfl, rfl⟩
  · have := aRf_ru (rr := rr) h0
    rw [show 111 + 3 * f + 1 = 112 + 3 * f by omega, show 111 + 3 * f + 2 = 113 + 3 * f by omega]
    exact this
def rul (R : Ru) (b : Nat) (I : Nat → Nat → Int32) : Prop := I b 1 = nI R.1 ∧ I b 2 = nI R.2.1 ∧ R.1 ≤ 6 ∧ R.2.1 ≤ 9 ∧ (5 ≤ R.1 → ∀ w, w < 4 → I (b + 1) w = oI (R.2.2.1 w) ∧ ∀ s, R.2.2.1 w = some s → s < 6) ∧ (R.1 = 6 → ∀ j, j < 5 → I (b + 2) j = oI (R.2.2.2 j) ∧ ∀ s, R.2.2.2 j = some s → s < 6)
def mayO (may : Nat → Bool) : Option Nat → Bool
  | none => false
  | some s => may s
theorem oI_inj {o : Option Nat} {s : Nat} (ho : ∀ u, o = some u → u < 1000) (hs : s < 1000) : oI o = nI s ↔ o = some s := by
  cases o with
  | none =>
    refine ⟨fun h => ?_, fun h => by cases h⟩
    have h0 : (0 : Int32) ≤ nI s := nI_pos' (by omega)
    rw [← h] at h0
    exact absurd h0 (by decide)
  | some u =>
    have := ho u rfl
    rw [show oI (some u) = nI u from rfl, nI_eq (by omega) (by omega)]
    exact ⟨fun h => by rw [h], fun h => Option.some.inj h⟩
theorem oI_m1 {o : Option Nat} (ho : ∀ u, o = some u → u < 1000) : oI o = -1 ↔ o = none := by
  cases o with
  | none => exact ⟨fun _ => rfl, fun _ => rfl⟩
  | some u =>
    have := ho u rfl
    refine ⟨fun h => ?_, fun h => by cases h⟩
    have h0 : (0 : Int32) ≤ nI u := nI_pos' (by omega)
    rw [show nI u = -1 from h] at h0
    exact absurd h0 (by decide)
theorem mayQ_W {nd : Nat → Int32} {ndN : Nat → Nat} {cnt many : Nat} {now o : Option Nat} {x y : Int32} (hnd : ∀ s, s < 6 → nd s = nI (ndN s) ∧ ndN s ≤ 9) (hm : many ≤ 9) (hc : cnt ≤ 6) (hnow : ∀ u, now = some u → u < cnt) (ho : ∀ u, o = some u → u < 6) : mayQ nd (nI cnt) (oI o) (oI now) x y (nI many) ↔ mayO (mayW ndN cnt now (bt x) (bt y) many) o = true := by
  cases o with
  | none =>
    refine ⟨fun h => absurd h.1.1 (by decide), fun h => by cases h⟩
  | some s =>
    have hs := ho s rfl
    unfold mayQ mayO mayW
    rw [show oI (some s) = nI s from rfl, nI_clamp (by omega), (hnd s hs).1, nI_ltI (by omega) (by omega), nI_leI (by have := (hnd s hs).2; omega) (by omega), oI_inj (fun u hu => by have := hnow u hu; omega) (by omega)]
    have h0 : (0 : Int32) ≤ nI s := nI_pos' (by omega)
    simp [h0]
def mI : Option (Nat × Nat) → Int32
  | none => -1
  | some q => nI q.2
theorem fasW_lt {may : Nat → Bool} {sp : Nat → Nat} : ∀ {n b m : Nat}, fasW may sp n = some (b, m) → b < n ∧ m = sp b ∧ may b = true
  | 0, b, m, h => by cases h
  | n + 1, b, m, h => by
    unfold fasW at h
    cases hf : fasW may sp n with
    | none =>
      rw [hf] at h
      dsimp only at h
      by_cases hm : may n = true
      · rw [if_pos hm] at h; cases h; exact ⟨Nat.lt_succ_self _, rfl, hm⟩
      · rw [if_neg hm] at h; cases h
    | some q =>
      obtain ⟨b', m'⟩ := q
      rw [hf] at h
      dsimp only at h
      by_cases hm : may n = true ∧ m' < sp n
      · rw [if_pos hm] at h; cases h; exact ⟨Nat.lt_succ_self _, rfl, hm.1⟩
      · rw [if_neg hm] at h; cases h
        obtain ⟨h1, h2, h3⟩ := fasW_lt hf
        exact ⟨by omega, h2, h3⟩
section CH
variable {L : Nat} {xs : Nat → Int32} {fv : Value} {d : Nat} {r : Nat} {rr : Option Nat} {I : Nat → Nat → Int32} {J : Nat → Nat → Int64} {P : Option Value → aH → Prop}
variable {A : Nat → List Cl} {W : Wd} {S : Sc} {h w : Nat} {now : Option Nat} {fit : Nat → Bool} {R : Ru} {b : Nat}
theorem cl_cmay1 {o : Option Nat} {s' : Int32} (hW : wld A W I) (hS : scn W S h now w fit 1 I) (hs' : s' = oI o) (ho : ∀ s, o = some s → s < 6) (c : Nat → Int32) (k1 : mayO (mayW W.2.2.1 W.2.2.2 now fit S.1 S.2) o = true → P (some (.int 1)) (aHp r rr (up1 I 19 c) J)) (k0 : mayO (mayW W.2.2.1 W.2.2.2 now fit S.1 S.2) o = false → P (some (.int 0)) (aHp r rr (up1 I 19 c) J)) : aCl L xs fv 111 (d + 1) 76 [.ref 0, .ref 1, .int s'] (aHp r rr (up1 I 19 c) J) P := by
  obtain ⟨e0, e1, e2, e4, e5, e6, e7, e8, e9, eA, eB⟩ := hS
  have hc := hW.1
  have hq : mayQ (up1 I 19 c 8) (up1 I 19 c 1 5) s' (up1 I 19 c 1 0) (up1 I 19 c 1 6) (up1 I 19 c 1 7) (up1 I 19 c 1 4) ↔ mayO (mayW W.2.2.1 W.2.2.2 now fit S.1 S.2) o = true := by
    rw [show up1 I 19 c 8 = I 8 from up1_o rfl, show up1 I 19 c 1 = I 1 from up1_o rfl, e0, e4, e5, hs', ← e6, ← e7]
    exact mayQ_W (fun s hs => ⟨(hW.2.2.1 s hs).2.2.2.1, (hW.2.2.1 s hs).2.2.2.2.2⟩) eA hc eB ho
  refine cl_may1 ?_ (fun h => k1 (hq.mp h)) (fun h => k0 ?_)
  · rw [show up1 I 19 c 1 = I 1 from up1_o rfl, e5]; exact nI_le (b := 6) hc (by decide)
  · cases hm : mayO (mayW W.2.2.1 W.2.2.2 now fit S.1 S.2) o with
    | true => exact absurd (hq.mpr hm) h
    | false => rfl
theorem cl_asUp1 (hW : wld A W I) (hS : scn W S h now w fit 1 I) (c : Nat → Int32) (k : P (some (.int (oI (asUpW (mayW W.2.2.1 W.2.2.2 now fit S.1 S.2) now)))) (aHp r rr (up1 I 19 c) J)) : aCl L xs fv 111 (d + 2) 81 [.ref 0, .ref 1] (aHp r rr (up1 I 19 c) J) P := by
  refine cl_of rfl (Nat.le_add_right _ _) ?_
  have e0 := hS.1
  have hc := hW.1
  have hB := hS.2.2.2.2.2.2.2.2.2.2
  have u1 : up1 I 19 c 1 = I 1 := up1_o rfl
  refine go_v (cd := cd81) [] 9 rfl ?_
  refine go_callv (cd := cd81) rfl rfl rfl rfl rfl (lv3 rfl) rfl (cl_cmay1 (o := now) hW hS e0 (fun s hs => by have := hB s hs; omega) c (fun hm => ⟨rfl, ?_⟩) (fun hm => ⟨rfl, ?_⟩))
  · refine go_st (cd := cd81) 1 rfl (go_ifF (by decide) ?_)
    refine go_v (cd := cd81) [] 9 rfl ?_
    rw [av0, u1, e0]
    refine go_ireturn (cd := cd81) rfl ?_
    have : asUpW (mayW W.2.2.1 W.2.2.2 now fit S.1 S.2) now = now := by
      cases now with
      | none => rfl
      | some u => exact if_pos hm
    rw [this] at k
    exact k
  · refine go_st (cd := cd81) 1 rfl (go_ifT rfl ?_)
    refine go_v (cd := cd81) [] 9 rfl ?_
    refine go_ireturn (cd := cd81) rfl ?_
    have : asUpW (mayW W.2.2.1 W.2.2.2 now fit S.1 S.2) now = none := by
      cases now with
      | none => rfl
      | some u =>
        have hm' : mayW W.2.2.1 W.2.2.2 (some u) fit S.1 S.2 u = false := hm
        exact if_neg (by rw [hm']; decide)
    rw [this] at k
    exact k
theorem fast_loop1 {w2 : Nat} (hW : wld A W I) (hS : scn W S h now w fit 1 I) (hw2 : w2 < 4)
    (k : ∀ c, iX A (up1 I 19 c) → P (some (.int (oI ((fasW (mayW W.2.2.1 W.2.2.2 now fit S.1 S.2) (fun s => SPw W 0 s w2 h) W.2.2.2).map (·.1))))) (aHp r rr (up1 I 19 c) J)) : ∀ m j c, j + m = W.2.2.2 → iX A (up1 I 19 c) →
    aTo L xs fv 111 (d + 2) cd82 (8, [(5, .int (nI j)), (4, .int (mI (fasW (mayW W.2.2.1 W.2.2.2 now fit S.1 S.2) (fun s => SPw W 0 s w2 h) j))), (3, .int (oI ((fasW (mayW W.2.2.1 W.2.2.2 now fit S.1 S.2) (fun s => SPw W 0 s w2 h) j).map (·.1)))), (0, .ref 0), (1, .ref 1), (2, .int (nI w2))], [], aHp r rr (up1 I 19 c) J) P
  | 0, j, c, hj, hX => by
    have hc := hW.1
    have hj : j = W.2.2.2 := hj
    obtain ⟨e0, e1, e2, e4, e5, e6, e7, e8, e9, eA, eB⟩ := hS
    have u1 : up1 I 19 c 1 = I 1 := up1_o rfl
    refine go_v (cd := cd82) [] 9 rfl ?_
    rw [av0, u1, e5]
    refine go_st (cd := cd82) 1 rfl (go_ifT (by rw [hj]; exact nI_le (Nat.le_refl _) (by omega)) ?_)
    refine go_v (cd := cd82) [] 9 rfl ?_
    rw [hj]
    exact go_ireturn (cd := cd82) rfl (k c hX)
  | m + 1, j, c, hj, hX => by
    have hc := hW.1
    have hjl : j < W.2.2.2 := by omega
    have hS0 := hS
    obtain ⟨e0, e1, e2, e4, e5, e6, e7, e8, e9, eA, eB⟩ := hS0
    have u1 : ∀ c, up1 I 19 c 1 = I 1 := fun c => up1_o rfl
    refine go_v (cd := cd82) [] 9 rfl ?_
    rw [av0, u1, e5]
    refine go_st (cd := cd82) 1 rfl (go_ifF (nI_ge hjl (by omega)) ?_)
    refine go_v (cd := cd82) [] 9 rfl ?_
    have hnext : ∀ c ls', iX A (up1 I 19 c) → sbA [(5, .int (nI (j + 1))), (4, .int (mI (fasW (mayW W.2.2.1 W.2.2.2 now fit S.1 S.2) (fun s => SPw W 0 s w2 h) (j + 1)))), (3, .int (oI ((fasW (mayW W.2.2.1 W.2.2.2 now fit S.1 S.2) (fun s => SPw W 0 s w2 h) (j + 1)).map (·.1)))), (0, .ref 0), (1, .ref 1), (2, .int (nI w2))] ls' → sbB [(5, .int (nI (j + 1))), (4, .int (mI (fasW (mayW W.2.2.1 W.2.2.2 now fit S.1 S.2) (fun s => SPw W 0 s w2 h) (j + 1)))), (3, .int (oI ((fasW (mayW W.2.2.1 W.2.2.2 now fit S.1 S.2) (fun s => SPw W 0 s w2 h) (j + 1)).map (·.1)))), (0, .ref 0), (1, .ref 1), (2, .int (nI w2))] ls' = true → sbN ls' = true → aTo L xs fv 111 (d + 2) cd82 (8, ls', [], aHp r rr (up1 I 19 c) J) P := fun c ls' hX h1 h2 h3 => go_sub h1 h2 h3 rfl (fast_loop1 hW hS hw2 k m (j + 1) c (by omega) hX)
    refine go_callv (cd := cd82) rfl rfl rfl rfl rfl (lv3 rfl) rfl (cl_cmay1 (o := some j) hW hS rfl (fun s hs => by cases hs; omega) c (fun hm => ⟨rfl, ?_⟩) (fun hm => ⟨rfl, ?_⟩))
    · have hm' : mayW W.2.2.1 W.2.2.2 now fit S.1 S.2 j = true := hm
      refine go_st (cd := cd82) 1 rfl (go_ifF (by decide) ?_)
      refine go_v (cd := cd82) [] 9 rfl ?_
      rw [av0, u1, e2]
      refine go_callv (cd := cd82) rfl rfl rfl rfl rfl (lv3 rfl) rfl (cl_pace (z := 0) (w := w2) (h := h) (o := some j) hW rfl rfl rfl rfl (by decide) (fun s hs => by cases hs; omega) hw2 (by omega) c hX (fun c hX => ⟨rfl, ?_⟩))
      rw [show spO (fun s => SPw W 0 s w2 h) (some j) = SPw W 0 j w2 h from rfl]
      have hsp := SP_le W j w2 h
      refine go_v (cd := cd82) [] 9 rfl ?_
      cases hf : fasW (mayW W.2.2.1 W.2.2.2 now fit S.1 S.2) (fun s => SPw W 0 s w2 h) j with
      | none =>
        have he : fasW (mayW W.2.2.1 W.2.2.2 now fit S.1 S.2) (fun s => SPw W 0 s w2 h) (j + 1) = some (j, SPw W 0 j w2 h) := by
          unfold fasW; rw [hf]; exact if_pos hm'
        rw [he] at hnext
        refine go_st (cd := cd82) 1 rfl (go_ifF (fun hle => absurd (Int32.le_trans (nI_pos' (by omega)) hle) (by decide)) ?_)
        refine go_v (cd := cd82) [8] 20 rfl ?_
        exact hnext c _ hX ⟨by rw [nI_succ]; rfl, rfl, rfl, rfl, rfl, rfl, trivial⟩ rfl rfl
      | some q =>
        obtain ⟨q1, q2⟩ := q
        have hq := fasW_lt hf
        have hq2 : q2 ≤ 99 := by rw [hq.2.1]; exact SP_le _ _ _ _
        by_cases hlt : q2 < SPw W 0 j w2 h
        · have he : fasW (mayW W.2.2.1 W.2.2.2 now fit S.1 S.2) (fun s => SPw W 0 s w2 h) (j + 1) = some (j, SPw W 0 j w2 h) := by
            unfold fasW; rw [hf]; exact if_pos ⟨hm', hlt⟩
          rw [he] at hnext
          refine go_st (cd := cd82) 1 rfl (go_ifF (nI_ge hlt (by omega)) ?_)
          refine go_v (cd := cd82) [8] 20 rfl ?_
          exact hnext c _ hX ⟨by rw [nI_succ]; rfl, rfl, rfl, rfl, rfl, rfl, trivial⟩ rfl rfl
        · have he : fasW (mayW W.2.2.1 W.2.2.2 now fit S.1 S.2) (fun s => SPw W 0 s w2 h) (j + 1) = some (q1, q2) := by
            unfold fasW; rw [hf]; exact if_neg (fun h => hlt h.2)
          rw [he] at hnext
          refine go_st (cd := cd82) 1 rfl (go_ifT (nI_le (by omega) (by omega)) ?_)
          refine go_v (cd := cd82) [8] 20 rfl ?_
          exact hnext c _ hX ⟨by rw [nI_succ]; rfl, rfl, rfl, rfl, rfl, rfl, trivial⟩ rfl rfl
    · have hm' : mayW W.2.2.1 W.2.2.2 now fit S.1 S.2 j = false := hm
      have he : fasW (mayW W.2.2.1 W.2.2.2 now fit S.1 S.2) (fun s => SPw W 0 s w2 h) (j + 1) = fasW (mayW W.2.2.1 W.2.2.2 now fit S.1 S.2) (fun s => SPw W 0 s w2 h) j := by
        show (match fasW (mayW W.2.2.1 W.2.2.2 now fit S.1 S.2) (fun s => SPw W 0 s w2 h) j with | none => _ | some (b, m) => _) = _
        rw [hm']
        cases fasW (mayW W.2.2.1 W.2.2.2 now fit S.1 S.2) (fun s => SPw W 0 s w2 h) j <;> simp
      rw [he] at hnext
      refine go_st (cd := cd82) 1 rfl (go_ifT rfl ?_)
      refine go_v (cd := cd82) [8] 20 rfl ?_
      exact hnext c _ hX ⟨by rw [nI_succ]; rfl, rfl, rfl, rfl, rfl, rfl, trivial⟩ rfl rfl
theorem cl_fast1 {w2 : Nat} {w' : Int32} (hW : wld A W I) (hS : scn W S h now w fit 1 I) (hw' : w' = nI w2) (hw2 : w2 < 4) (c : Nat → Int32) (hX : iX A (up1 I 19 c))
    (k : ∀ c, iX A (up1 I 19 c) → P (some (.int (oI ((fasW (mayW W.2.2.1 W.2.2.2 now fit S.1 S.2) (fun s => SPw W 0 s w2 h) W.2.2.2).map (·.1))))) (aHp r rr (up1 I 19 c) J)) : aCl L xs fv 111 (d + 3) 82 [.ref 0, .ref 1, .int w'] (aHp r rr (up1 I 19 c) J) P := by
  refine cl_of rfl (Nat.le_add_right _ _) ?_
  subst hw'
  refine go_v (cd := cd82) [8] 9 rfl ?_
  refine go_sub (l' := [(5, .int (nI 0)), (4, .int (mI (fasW (mayW W.2.2.1 W.2.2.2 now fit S.1 S.2) (fun s => SPw W 0 s w2 h) 0))), (3, .int (oI ((fasW (mayW W.2.2.1 W.2.2.2 now fit S.1 S.2) (fun s => SPw W 0 s w2 h) 0).map (·.1)))), (0, .ref 0), (1, .ref 1), (2, .int (nI w2))]) ⟨rfl, rfl, rfl, rfl, rfl, rfl, trivial⟩ rfl rfl rfl ?_
  exact fast_loop1 hW hS hw2 k W.2.2.2 0 c (by omega) hX
theorem cl_cmay5 {o : Option Nat} {s' : Int32} (hW : wld A W I) (hS : scn W S h now w fit 5 I) (hs' : s' = oI o) (ho : ∀ s, o = some s → s < 6) (c : Nat → Int32) (k1 : mayO (mayW W.2.2.1 W.2.2.2 now fit S.1 S.2) o = true → P (some (.int 1)) (aHp r rr (up1 I 19 c) J)) (k0 : mayO (mayW W.2.2.1 W.2.2.2 now fit S.1 S.2) o = false → P (some (.int 0)) (aHp r rr (up1 I 19 c) J)) : aCl L xs fv 111 (d + 1) 76 [.ref 0, .ref 5, .int s'] (aHp r rr (up1 I 19 c) J) P := by
  obtain ⟨e0, e1, e2, e4, e5, e6, e7, e8, e9, eA, eB⟩ := hS
  have hc := hW.1
  have hq : mayQ (up1 I 19 c 8) (up1 I 19 c 5 5) s' (up1 I 19 c 5 0) (up1 I 19 c 5 6) (up1 I 19 c 5 7) (up1 I 19 c 5 4) ↔ mayO (mayW W.2.2.1 W.2.2.2 now fit S.1 S.2) o = true := by
    rw [show up1 I 19 c 8 = I 8 from up1_o rfl, show up1 I 19 c 5 = I 5 from up1_o rfl, e0, e4, e5, hs', ← e6, ← e7]
    exact mayQ_W (fun s hs => ⟨(hW.2.2.1 s hs).2.2.2.1, (hW.2.2.1 s hs).2.2.2.2.2⟩) eA hc eB ho
  refine cl_may5 ?_ (fun h => k1 (hq.mp h)) (fun h => k0 ?_)
  · rw [show up1 I 19 c 5 = I 5 from up1_o rfl, e5]; exact nI_le (b := 6) hc (by decide)
  · cases hm : mayO (mayW W.2.2.1 W.2.2.2 now fit S.1 S.2) o with
    | true => exact absurd (hq.mpr hm) h
    | false => rfl
theorem cl_asUp5 (hW : wld A W I) (hS : scn W S h now w fit 5 I) (c : Nat → Int32) (k : P (some (.int (oI (asUpW (mayW W.2.2.1 W.2.2.2 now fit S.1 S.2) now)))) (aHp r rr (up1 I 19 c) J)) : aCl L xs fv 111 (d + 2) 81 [.ref 0, .ref 5] (aHp r rr (up1 I 19 c) J) P := by
  refine cl_of rfl (Nat.le_add_right _ _) ?_
  have e0 := hS.1
  have hc := hW.1
  have hB := hS.2.2.2.2.2.2.2.2.2.2
  have u1 : up1 I 19 c 5 = I 5 := up1_o rfl
  refine go_v (cd := cd81) [] 9 rfl ?_
  refine go_callv (cd := cd81) rfl rfl rfl rfl rfl (lv3 rfl) rfl (cl_cmay5 (o := now) hW hS e0 (fun s hs => by have := hB s hs; omega) c (fun hm => ⟨rfl, ?_⟩) (fun hm => ⟨rfl, ?_⟩))
  · refine go_st (cd := cd81) 1 rfl (go_ifF (by decide) ?_)
    refine go_v (cd := cd81) [] 9 rfl ?_
    rw [av0, u1, e0]
    refine go_ireturn (cd := cd81) rfl ?_
    have : asUpW (mayW W.2.2.1 W.2.2.2 now fit S.1 S.2) now = now := by
      cases now with
      | none => rfl
      | some u => exact if_pos hm
    rw [this] at k
    exact k
  · refine go_st (cd := cd81) 1 rfl (go_ifT rfl ?_)
    refine go_v (cd := cd81) [] 9 rfl ?_
    refine go_ireturn (cd := cd81) rfl ?_
    have : asUpW (mayW W.2.2.1 W.2.2.2 now fit S.1 S.2) now = none := by
      cases now with
      | none => rfl
      | some u =>
        have hm' : mayW W.2.2.1 W.2.2.2 (some u) fit S.1 S.2 u = false := hm
        exact if_neg (by rw [hm']; decide)
    rw [this] at k
    exact k
theorem fast_loop5 {w2 : Nat} (hW : wld A W I) (hS : scn W S h now w fit 5 I) (hw2 : w2 < 4)
    (k : ∀ c, iX A (up1 I 19 c) → P (some (.int (oI ((fasW (mayW W.2.2.1 W.2.2.2 now fit S.1 S.2) (fun s => SPw W 0 s w2 h) W.2.2.2).map (·.1))))) (aHp r rr (up1 I 19 c) J)) : ∀ m j c, j + m = W.2.2.2 → iX A (up1 I 19 c) →
    aTo L xs fv 111 (d + 2) cd82 (8, [(5, .int (nI j)), (4, .int (mI (fasW (mayW W.2.2.1 W.2.2.2 now fit S.1 S.2) (fun s => SPw W 0 s w2 h) j))), (3, .int (oI ((fasW (mayW W.2.2.1 W.2.2.2 now fit S.1 S.2) (fun s => SPw W 0 s w2 h) j).map (·.1)))), (0, .ref 0), (1, .ref 5), (2, .int (nI w2))], [], aHp r rr (up1 I 19 c) J) P
  | 0, j, c, hj, hX => by
    have hc := hW.1
    have hj : j = W.2.2.2 := hj
    obtain ⟨e0, e1, e2, e4, e5, e6, e7, e8, e9, eA, eB⟩ := hS
    have u1 : up1 I 19 c 5 = I 5 := up1_o rfl
    refine go_v (cd := cd82) [] 9 rfl ?_
    rw [av0, u1, e5]
    refine go_st (cd := cd82) 1 rfl (go_ifT (by rw [hj]; exact nI_le (Nat.le_refl _) (by omega)) ?_)
    refine go_v (cd := cd82) [] 9 rfl ?_
    rw [hj]
    exact go_ireturn (cd := cd82) rfl (k c hX)
  | m + 1, j, c, hj, hX => by
    have hc := hW.1
    have hjl : j < W.2.2.2 := by omega
    have hS0 := hS
    obtain ⟨e0, e1, e2, e4, e5, e6, e7, e8, e9, eA, eB⟩ := hS0
    have u1 : ∀ c, up1 I 19 c 5 = I 5 := fun c => up1_o rfl
    refine go_v (cd := cd82) [] 9 rfl ?_
    rw [av0, u1, e5]
    refine go_st (cd := cd82) 1 rfl (go_ifF (nI_ge hjl (by omega)) ?_)
    refine go_v (cd := cd82) [] 9 rfl ?_
    have hnext : ∀ c ls', iX A (up1 I 19 c) → sbA [(5, .int (nI (j + 1))), (4, .int (mI (fasW (mayW W.2.2.1 W.2.2.2 now fit S.1 S.2) (fun s => SPw W 0 s w2 h) (j + 1)))), (3, .int (oI ((fasW (mayW W.2.2.1 W.2.2.2 now fit S.1 S.2) (fun s => SPw W 0 s w2 h) (j + 1)).map (·.1)))), (0, .ref 0), (1, .ref 5), (2, .int (nI w2))] ls' → sbB [(5, .int (nI (j + 1))), (4, .int (mI (fasW (mayW W.2.2.1 W.2.2.2 now fit S.1 S.2) (fun s => SPw W 0 s w2 h) (j + 1)))), (3, .int (oI ((fasW (mayW W.2.2.1 W.2.2.2 now fit S.1 S.2) (fun s => SPw W 0 s w2 h) (j + 1)).map (·.1)))), (0, .ref 0), (1, .ref 5), (2, .int (nI w2))] ls' = true → sbN ls' = true → aTo L xs fv 111 (d + 2) cd82 (8, ls', [], aHp r rr (up1 I 19 c) J) P := fun c ls' hX h1 h2 h3 => go_sub h1 h2 h3 rfl (fast_loop5 hW hS hw2 k m (j + 1) c (by omega) hX)
    refine go_callv (cd := cd82) rfl rfl rfl rfl rfl (lv3 rfl) rfl (cl_cmay5 (o := some j) hW hS rfl (fun s hs => by cases hs; omega) c (fun hm => ⟨rfl, ?_⟩) (fun hm => ⟨rfl, ?_⟩))
    · have hm' : mayW W.2.2.1 W.2.2.2 now fit S.1 S.2 j = true := hm
      refine go_st (cd := cd82) 1 rfl (go_ifF (by decide) ?_)
      refine go_v (cd := cd82) [] 9 rfl ?_
      rw [av0, u1, e2]
      refine go_callv (cd := cd82) rfl rfl rfl rfl rfl (lv3 rfl) rfl (cl_pace (z := 0) (w := w2) (h := h) (o := some j) hW rfl rfl rfl rfl (by decide) (fun s hs => by cases hs; omega) hw2 (by omega) c hX (fun c hX => ⟨rfl, ?_⟩))
      rw [show spO (fun s => SPw W 0 s w2 h) (some j) = SPw W 0 j w2 h from rfl]
      have hsp := SP_le W j w2 h
      refine go_v (cd := cd82) [] 9 rfl ?_
      cases hf : fasW (mayW W.2.2.1 W.2.2.2 now fit S.1 S.2) (fun s => SPw W 0 s w2 h) j with
      | none =>
        have he : fasW (mayW W.2.2.1 W.2.2.2 now fit S.1 S.2) (fun s => SPw W 0 s w2 h) (j + 1) = some (j, SPw W 0 j w2 h) := by
          unfold fasW; rw [hf]; exact if_pos hm'
        rw [he] at hnext
        refine go_st (cd := cd82) 1 rfl (go_ifF (fun hle => absurd (Int32.le_trans (nI_pos' (by omega)) hle) (by decide)) ?_)
        refine go_v (cd := cd82) [8] 20 rfl ?_
        exact hnext c _ hX ⟨by rw [nI_succ]; rfl, rfl, rfl, rfl, rfl, rfl, trivial⟩ rfl rfl
      | some q =>
        obtain ⟨q1, q2⟩ := q
        have hq := fasW_lt hf
        have hq2 : q2 ≤ 99 := by rw [hq.2.1]; exact SP_le _ _ _ _
        by_cases hlt : q2 < SPw W 0 j w2 h
        · have he : fasW (mayW W.2.2.1 W.2.2.2 now fit S.1 S.2) (fun s => SPw W 0 s w2 h) (j + 1) = some (j, SPw W 0 j w2 h) := by
            unfold fasW; rw [hf]; exact if_pos ⟨hm', hlt⟩
          rw [he] at hnext
          refine go_st (cd := cd82) 1 rfl (go_ifF (nI_ge hlt (by omega)) ?_)
          refine go_v (cd := cd82) [8] 20 rfl ?_
          exact hnext c _ hX ⟨by rw [nI_succ]; rfl, rfl, rfl, rfl, rfl, rfl, trivial⟩ rfl rfl
        · have he : fasW (mayW W.2.2.1 W.2.2.2 now fit S.1 S.2) (fun s => SPw W 0 s w2 h) (j + 1) = some (q1, q2) := by
            unfold fasW; rw [hf]; exact if_neg (fun h => hlt h.2)
          rw [he] at hnext
          refine go_st (cd := cd82) 1 rfl (go_ifT (nI_le (by omega) (by omega)) ?_)
          refine go_v (cd := cd82) [8] 20 rfl ?_
          exact hnext c _ hX ⟨by rw [nI_succ]; rfl, rfl, rfl, rfl, rfl, rfl, trivial⟩ rfl rfl
    · have hm' : mayW W.2.2.1 W.2.2.2 now fit S.1 S.2 j = false := hm
      have he : fasW (mayW W.2.2.1 W.2.2.2 now fit S.1 S.2) (fun s => SPw W 0 s w2 h) (j + 1) = fasW (mayW W.2.2.1 W.2.2.2 now fit S.1 S.2) (fun s => SPw W 0 s w2 h) j := by
        show (match fasW (mayW W.2.2.1 W.2.2.2 now fit S.1 S.2) (fun s => SPw W 0 s w2 h) j with | none => _ | some (b, m) => _) = _
        rw [hm']
        cases fasW (mayW W.2.2.1 W.2.2.2 now fit S.1 S.2) (fun s => SPw W 0 s w2 h) j <;> simp
      rw [he] at hnext
      refine go_st (cd := cd82) 1 rfl (go_ifT rfl ?_)
      refine go_v (cd := cd82) [8] 20 rfl ?_
      exact hnext c _ hX ⟨by rw [nI_succ]; rfl, rfl, rfl, rfl, rfl, rfl, trivial⟩ rfl rfl
theorem cl_fast5 {w2 : Nat} {w' : Int32} (hW : wld A W I) (hS : scn W S h now w fit 5 I) (hw' : w' = nI w2) (hw2 : w2 < 4) (c : Nat → Int32) (hX : iX A (up1 I 19 c))
    (k : ∀ c, iX A (up1 I 19 c) → P (some (.int (oI ((fasW (mayW W.2.2.1 W.2.2.2 now fit S.1 S.2) (fun s => SPw W 0 s w2 h) W.2.2.2).map (·.1))))) (aHp r rr (up1 I 19 c) J)) : aCl L xs fv 111 (d + 3) 82 [.ref 0, .ref 5, .int w'] (aHp r rr (up1 I 19 c) J) P := by
  refine cl_of rfl (Nat.le_add_right _ _) ?_
  subst hw'
  refine go_v (cd := cd82) [8] 9 rfl ?_
  refine go_sub (l' := [(5, .int (nI 0)), (4, .int (mI (fasW (mayW W.2.2.1 W.2.2.2 now fit S.1 S.2) (fun s => SPw W 0 s w2 h) 0))), (3, .int (oI ((fasW (mayW W.2.2.1 W.2.2.2 now fit S.1 S.2) (fun s => SPw W 0 s w2 h) 0).map (·.1)))), (0, .ref 0), (1, .ref 5), (2, .int (nI w2))]) ⟨rfl, rfl, rfl, rfl, rfl, rfl, trivial⟩ rfl rfl rfl ?_
  exact fast_loop5 hW hS hw2 k W.2.2.2 0 c (by omega) hX
end CH
