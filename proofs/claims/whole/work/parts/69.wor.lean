/-! what rules of the class pick -/
def iZ (x : Int) : Int32 := Int32.ofInt x
theorem nI_iZ (n : Nat) : nI n = iZ n := (Int32.ofInt_eq_ofNat).symm
theorem iZ_toInt {x : Int} (h1 : -100000 ≤ x) (h2 : x ≤ 100000) : (iZ x).toInt = x := Int32.toInt_ofInt_of_le (by omega) (by omega)
theorem iZ_le {a b : Int} (h1 : -100000 ≤ a) (h2 : a ≤ 100000) (h3 : -100000 ≤ b) (h4 : b ≤ 100000) : iZ a ≤ iZ b ↔ a ≤ b := by
  rw [Int32.le_iff_toInt_le, iZ_toInt h1 h2, iZ_toInt h3 h4]
theorem iZ_sub (a b : Int) : iZ a - iZ b = iZ (a - b) := (Int32.ofInt_sub a b).symm
theorem iZ_add (a b : Int) : iZ a + iZ b = iZ (a + b) := (Int32.ofInt_add a b).symm
theorem iZ_mul (a b : Int) : iZ a * iZ b = iZ (a * b) := (Int32.ofInt_mul a b).symm
def dI : Option (Nat × Int) → Int32
  | none => iZ 0
  | some q => iZ q.2
theorem desW_ok {may : Nat → Bool} {wo : Nat → Int} {now : Option Nat} {o : Option (Nat × Int)} {cnt : Nat} (hw : ∀ s, -1000 ≤ wo s ∧ wo s ≤ 1000) (ho : ∀ b m, o = some (b, m) → b < cnt ∧ -1000 ≤ m ∧ m ≤ 1000) : ∀ {n b m}, n ≤ cnt → desW may wo now o n = some (b, m) → b < cnt ∧ -1000 ≤ m ∧ m ≤ 1000
  | 0, b, m, _, h => ho b m h
  | n + 1, b, m, hn, h => by
    unfold desW at h
    cases hf : desW may wo now o n with
    | none =>
      rw [hf] at h
      dsimp only at h
      by_cases hm : may n = true ∧ now ≠ some n
      · rw [if_pos hm] at h; cases h; exact ⟨hn, hw _⟩
      · rw [if_neg hm] at h; cases h
    | some q =>
      obtain ⟨b', m'⟩ := q
      rw [hf] at h
      dsimp only at h
      by_cases hm : may n = true ∧ now ≠ some n ∧ m' < wo n
      · rw [if_pos hm] at h; cases h; exact ⟨hn, hw _⟩
      · rw [if_neg hm] at h; cases h
        exact desW_ok hw ho (by omega) hf
theorem wo_ok {W : Wd} (hW : rcWf W.1) {v : Nat} (hv : v ≤ 9) (s w h : Nat) : -1000 ≤ (SPw W 0 s w h : Int) * v - lsW W ∧ (SPw W 0 s w h : Int) * v - lsW W ≤ 1000 := by
  have h1 := SP_le W s w h
  have h2 : lsW W ≤ 99 := lastA_le hW 2 0
  have h3 : SPw W 0 s w h * v ≤ 99 * 9 := Nat.mul_le_mul h1 hv
  have h4 : ((SPw W 0 s w h * v : Nat) : Int) = (SPw W 0 s w h : Int) * v := by push_cast; rfl
  omega
theorem desO_ok {may : Nat → Bool} {W : Wd} {w h v : Nat} {now : Option Nat} (hv : v ≤ 9) (hn : ∀ u, now = some u → u < W.2.2.2) : ∀ b m, desO may (fun s => SPw W 0 s w h) v now = some (b, m) → b < W.2.2.2 ∧ -1000 ≤ m ∧ m ≤ 1000 := by
  intro b m hb
  cases now with
  | none => cases hb
  | some u =>
    unfold desO at hb
    dsimp only at hb
    by_cases hm : may u = true
    · rw [if_pos hm] at hb
      have h1 := SP_le W u w h
      have h3 : SPw W 0 u w h * v ≤ 99 * 9 := Nat.mul_le_mul h1 hv
      have h4 : ((SPw W 0 u w h * v : Nat) : Int) = (SPw W 0 u w h : Int) * v := by push_cast; rfl
      have hn1 := hn u rfl
      cases hb
      exact ⟨hn1, by omega, by omega⟩
    · rw [if_neg hm] at hb; cases hb
section WO
variable {L : Nat} {xs : Nat → Int32} {fv : Value} {d : Nat} {r : Nat} {rr : Option Nat} {I : Nat → Nat → Int32} {J : Nat → Nat → Int64} {P : Option Value → aH → Prop}
variable {A : Nat → List Cl} {W : Wd} {S : Sc} {h w : Nat} {now : Option Nat} {fit : Nat → Bool} {R : Ru} {b : Nat}
theorem wld_19 {c : Nat → Int32} (hW : wld A W I) : wld A W (up1 I 19 c) := by
  obtain ⟨w1, w2, w3, w4, w5, w6, w7, w8, w9, wA, wB⟩ := hW
  exact ⟨w1, w2, w3, w4, w5, iC_c (I := I) rfl rfl rfl rfl rfl rfl rfl rfl (fun j hj => up1_ne (by omega)) (fun j hj => up1_ne (by omega)) w6, w7, w8, w9, wA, wB⟩
theorem rul_19 {c : Nat → Int32} (hb : isR r b) (hR : rul R b I) : rul R b (up1 I 19 c) := by
  unfold rul at hR ⊢
  rw [up1_ne (show b ≠ 19 from isR_far (k := 0) hb (by decide)), up1_ne (show b + 1 ≠ 19 from isR_far hb (by decide)), up1_ne (show b + 2 ≠ 19 from isR_far hb (by decide))]
  exact hR
theorem wor_loop1 (hW : wld A W I) (hS : scn W S h now w fit 1 I) (hb : isR r b) (hR : rul R b I)
    (k : ∀ c, iX A (up1 I 19 c) → P (some (.int (oI ((desW (mayW W.2.2.1 W.2.2.2 now fit S.1 S.2) (fun s => (SPw W 0 s w h : Int) * R.2.1 - lsW W) now (desO (mayW W.2.2.1 W.2.2.2 now fit S.1 S.2) (fun s => SPw W 0 s w h) R.2.1 now) (W.2.2.2)).map (·.1))))) (aHp r rr (up1 I 19 c) J)) : ∀ m j c, j + m = W.2.2.2 → iX A (up1 I 19 c) →
    aTo L xs fv 111 (d + 2) cd83 (39, [(6, .int (nI (j))), (5, .int (nI (lsW W))), (4, .int (dI (desW (mayW W.2.2.1 W.2.2.2 now fit S.1 S.2) (fun s => (SPw W 0 s w h : Int) * R.2.1 - lsW W) now (desO (mayW W.2.2.1 W.2.2.2 now fit S.1 S.2) (fun s => SPw W 0 s w h) R.2.1 now) (j)))), (3, .int (oI ((desW (mayW W.2.2.1 W.2.2.2 now fit S.1 S.2) (fun s => (SPw W 0 s w h : Int) * R.2.1 - lsW W) now (desO (mayW W.2.2.1 W.2.2.2 now fit S.1 S.2) (fun s => SPw W 0 s w h) R.2.1 now) (j)).map (·.1)))), (0, .ref 0), (1, .ref b), (2, .ref 1)], [], aHp r rr (up1 I 19 c) J) P
  | 0, j, c, hj, hX => by
    have hc := hW.1
    have hj : j = W.2.2.2 := hj
    obtain ⟨e0, e1, e2, e4, e5, e6, e7, e8, e9, eA, eB⟩ := hS
    have u1 : up1 I 19 c 1 = I 1 := up1_o rfl
    refine go_v (cd := cd83) [] 9 rfl ?_
    rw [av0, u1, e5]
    refine go_st (cd := cd83) 1 rfl (go_ifT (by rw [hj]; exact nI_le (Nat.le_refl _) (by omega)) ?_)
    refine go_v (cd := cd83) [] 9 rfl ?_
    rw [hj]
    exact go_ireturn (cd := cd83) rfl (k c hX)
  | m + 1, j, c, hj, hX => by
    have hc := hW.1
    have hjl : j < W.2.2.2 := by omega
    have hS0 := hS
    obtain ⟨e0, e1, e2, e4, e5, e6, e7, e8, e9, eA, eB⟩ := hS0
    obtain ⟨f1, f2, f3, f4, f5, f6⟩ := hR
    have u1 : ∀ c, up1 I 19 c 1 = I 1 := fun c => up1_o rfl
    have ub : ∀ c, up1 I 19 c b = I b := fun c => up1_ne (isR_far (k := 0) hb (by decide))
    have hok := fun {bb : Nat} {mm : Int} => desW_ok (may := (mayW W.2.2.1 W.2.2.2 now fit S.1 S.2)) (wo := fun s => (SPw W 0 s w h : Int) * R.2.1 - lsW W) (now := now) (o := desO (mayW W.2.2.1 W.2.2.2 now fit S.1 S.2) (fun s => SPw W 0 s w h) R.2.1 now) (cnt := W.2.2.2) (fun s => wo_ok hW.2.2.2.2.1 f4 s w h) (desO_ok f4 eB) (n := j) (b := bb) (m := mm) (by omega)
    refine go_v (cd := cd83) [] 9 rfl ?_
    rw [av0, u1, e5]
    refine go_st (cd := cd83) 1 rfl (go_ifF (nI_ge hjl (by omega)) ?_)
    refine go_v (cd := cd83) [] 9 rfl ?_
    rw [av0, u1, e0]
    have hnext : ∀ c ls', iX A (up1 I 19 c) → sbA [(6, .int (nI (j + 1))), (5, .int (nI (lsW W))), (4, .int (dI (desW (mayW W.2.2.1 W.2.2.2 now fit S.1 S.2) (fun s => (SPw W 0 s w h : Int) * R.2.1 - lsW W) now (desO (mayW W.2.2.1 W.2.2.2 now fit S.1 S.2) (fun s => SPw W 0 s w h) R.2.1 now) (j + 1)))), (3, .int (oI ((desW (mayW W.2.2.1 W.2.2.2 now fit S.1 S.2) (fun s => (SPw W 0 s w h : Int) * R.2.1 - lsW W) now (desO (mayW W.2.2.1 W.2.2.2 now fit S.1 S.2) (fun s => SPw W 0 s w h) R.2.1 now) (j + 1)).map (·.1)))), (0, .ref 0), (1, .ref b), (2, .ref 1)] ls' → sbB [(6, .int (nI (j + 1))), (5, .int (nI (lsW W))), (4, .int (dI (desW (mayW W.2.2.1 W.2.2.2 now fit S.1 S.2) (fun s => (SPw W 0 s w h : Int) * R.2.1 - lsW W) now (desO (mayW W.2.2.1 W.2.2.2 now fit S.1 S.2) (fun s => SPw W 0 s w h) R.2.1 now) (j + 1)))), (3, .int (oI ((desW (mayW W.2.2.1 W.2.2.2 now fit S.1 S.2) (fun s => (SPw W 0 s w h : Int) * R.2.1 - lsW W) now (desO (mayW W.2.2.1 W.2.2.2 now fit S.1 S.2) (fun s => SPw W 0 s w h) R.2.1 now) (j + 1)).map (·.1)))), (0, .ref 0), (1, .ref b), (2, .ref 1)] ls' = true → sbN ls' = true → aTo L xs fv 111 (d + 2) cd83 (39, ls', [], aHp r rr (up1 I 19 c) J) P := fun c ls' hX h1 h2 h3 => go_sub h1 h2 h3 rfl (wor_loop1 hW hS hb ⟨f1, f2, f3, f4, f5, f6⟩ k m (j + 1) c (by omega) hX)
    have hsame : (desW (mayW W.2.2.1 W.2.2.2 now fit S.1 S.2) (fun s => (SPw W 0 s w h : Int) * R.2.1 - lsW W) now (desO (mayW W.2.2.1 W.2.2.2 now fit S.1 S.2) (fun s => SPw W 0 s w h) R.2.1 now) (j + 1)) = (desW (mayW W.2.2.1 W.2.2.2 now fit S.1 S.2) (fun s => (SPw W 0 s w h : Int) * R.2.1 - lsW W) now (desO (mayW W.2.2.1 W.2.2.2 now fit S.1 S.2) (fun s => SPw W 0 s w h) R.2.1 now) (j)) → ∀ c, iX A (up1 I 19 c) → aTo L xs fv 111 (d + 2) cd83 (111, [(6, .int (nI (j))), (5, .int (nI (lsW W))), (4, .int (dI (desW (mayW W.2.2.1 W.2.2.2 now fit S.1 S.2) (fun s => (SPw W 0 s w h : Int) * R.2.1 - lsW W) now (desO (mayW W.2.2.1 W.2.2.2 now fit S.1 S.2) (fun s => SPw W 0 s w h) R.2.1 now) (j)))), (3, .int (oI ((desW (mayW W.2.2.1 W.2.2.2 now fit S.1 S.2) (fun s => (SPw W 0 s w h : Int) * R.2.1 - lsW W) now (desO (mayW W.2.2.1 W.2.2.2 now fit S.1 S.2) (fun s => SPw W 0 s w h) R.2.1 now) (j)).map (·.1)))), (0, .ref 0), (1, .ref b), (2, .ref 1)], [], aHp r rr (up1 I 19 c) J) P := fun he c hX => by
      rw [he] at hnext
      refine go_v (cd := cd83) [39] 20 rfl ?_
      exact hnext c _ hX ⟨by rw [nI_succ]; rfl, rfl, rfl, rfl, rfl, rfl, rfl, trivial⟩ rfl rfl
    by_cases hnow : now = some j
    · refine go_st (cd := cd83) 1 rfl (go_ifT (by rw [hnow]; rfl) ?_)
      refine hsame ?_ c hX
      show (match (desW (mayW W.2.2.1 W.2.2.2 now fit S.1 S.2) (fun s => (SPw W 0 s w h : Int) * R.2.1 - lsW W) now (desO (mayW W.2.2.1 W.2.2.2 now fit S.1 S.2) (fun s => SPw W 0 s w h) R.2.1 now) (j)) with | none => _ | some (b, m) => _) = _
      cases (desW (mayW W.2.2.1 W.2.2.2 now fit S.1 S.2) (fun s => (SPw W 0 s w h : Int) * R.2.1 - lsW W) now (desO (mayW W.2.2.1 W.2.2.2 now fit S.1 S.2) (fun s => SPw W 0 s w h) R.2.1 now) (j)) with
      | none => exact if_neg (fun h => h.2 hnow)
      | some q => exact if_neg (fun h => h.2.1 hnow)
    · refine go_st (cd := cd83) 1 rfl (go_ifF (fun h => hnow ((oI_inj (fun u hu => by have := eB u hu; omega) (by omega)).mp h.symm)) ?_)
      refine go_v (cd := cd83) [] 9 rfl ?_
      refine go_callv (cd := cd83) rfl rfl rfl rfl rfl (lv3 rfl) rfl (cl_cmay1 (o := some j) hW hS rfl (fun s hs => by cases hs; omega) c (fun hm => ⟨rfl, ?_⟩) (fun hm => ⟨rfl, ?_⟩))
      · have hm' : (mayW W.2.2.1 W.2.2.2 now fit S.1 S.2) j = true := hm
        refine go_st (cd := cd83) 1 rfl (go_ifF (by decide) ?_)
        refine go_v (cd := cd83) [] 9 rfl ?_
        rw [av0, av0, u1, e1, e2]
        refine go_callv (cd := cd83) rfl rfl rfl rfl rfl (lv3 rfl) rfl (cl_pace (z := 0) (w := w) (h := h) (o := some j) hW rfl rfl rfl rfl (by decide) (fun s hs => by cases hs; omega) e8 (by omega) c hX (fun c hX => ⟨rfl, ?_⟩))
        rw [show spO (fun s => SPw W 0 s w h) (some j) = SPw W 0 j w h from rfl]
        refine go_v (cd := cd83) [83] 9 rfl ?_
        refine go_get (cd := cd83) rfl (isR_lt (k := 0) hb (by decide)) (isR_k hb).1 ?_
        rw [av0, ub, f2]
        refine go_v (cd := cd83) [] 9 rfl ?_
        rw [nI_iZ (SPw W 0 j w h), nI_iZ R.2.1, nI_iZ (lsW W), iZ_mul, iZ_sub]
        have hwo := wo_ok hW.2.2.2.2.1 f4 j w h
        have htake : (desW (mayW W.2.2.1 W.2.2.2 now fit S.1 S.2) (fun s => (SPw W 0 s w h : Int) * R.2.1 - lsW W) now (desO (mayW W.2.2.1 W.2.2.2 now fit S.1 S.2) (fun s => SPw W 0 s w h) R.2.1 now) (j + 1)) = some (j, (SPw W 0 j w h : Int) * R.2.1 - lsW W) → ∀ y, aTo L xs fv 111 (d + 2) cd83 (104, [(7, .int (iZ ((SPw W 0 j w h : Int) * R.2.1 - lsW W))), (6, .int (nI j)), (5, .int (iZ (lsW W))), (4, .int y), (3, .int (oI ((desW (mayW W.2.2.1 W.2.2.2 now fit S.1 S.2) (fun s => (SPw W 0 s w h : Int) * R.2.1 - lsW W) now (desO (mayW W.2.2.1 W.2.2.2 now fit S.1 S.2) (fun s => SPw W 0 s w h) R.2.1 now) (j)).map (·.1)))), (0, .ref 0), (1, .ref b), (2, .ref 1)], [], aHp r rr (up1 I 19 c) J) P := fun he y => by
          rw [he] at hnext
          refine go_v (cd := cd83) [39] 20 rfl ?_
          exact hnext c _ hX ⟨by rw [nI_succ]; rfl, by rw [nI_iZ]; rfl, rfl, rfl, rfl, rfl, rfl, trivial⟩ rfl rfl
        have hd1 : (desW (mayW W.2.2.1 W.2.2.2 now fit S.1 S.2) (fun s => (SPw W 0 s w h : Int) * R.2.1 - lsW W) now (desO (mayW W.2.2.1 W.2.2.2 now fit S.1 S.2) (fun s => SPw W 0 s w h) R.2.1 now) (j + 1)) = (match (desW (mayW W.2.2.1 W.2.2.2 now fit S.1 S.2) (fun s => (SPw W 0 s w h : Int) * R.2.1 - lsW W) now (desO (mayW W.2.2.1 W.2.2.2 now fit S.1 S.2) (fun s => SPw W 0 s w h) R.2.1 now) (j)) with | none => if (mayW W.2.2.1 W.2.2.2 now fit S.1 S.2) j = true ∧ now ≠ some j then some (j, (SPw W 0 j w h : Int) * R.2.1 - lsW W) else none | some (b, m) => if (mayW W.2.2.1 W.2.2.2 now fit S.1 S.2) j = true ∧ now ≠ some j ∧ m < (SPw W 0 j w h : Int) * R.2.1 - lsW W then some (j, (SPw W 0 j w h : Int) * R.2.1 - lsW W) else some (b, m)) := rfl
        cases hf : (desW (mayW W.2.2.1 W.2.2.2 now fit S.1 S.2) (fun s => (SPw W 0 s w h : Int) * R.2.1 - lsW W) now (desO (mayW W.2.2.1 W.2.2.2 now fit S.1 S.2) (fun s => SPw W 0 s w h) R.2.1 now) (j)) with
        | none =>
          rw [hf] at hd1 htake
          refine go_st (cd := cd83) 1 rfl (go_ifT rfl ?_)
          exact htake (hd1.trans (if_pos ⟨hm', hnow⟩)) _
        | some q =>
          obtain ⟨q1, q2⟩ := q
          have hq := hok hf
          rw [hf] at hd1 htake hsame
          refine go_st (cd := cd83) 1 rfl (go_ifF (fun h => by have h0 : (0 : Int32) ≤ nI q1 := nI_pos' (by omega); rw [show nI q1 = -1 from h] at h0; exact absurd h0 (by decide)) ?_)
          refine go_v (cd := cd83) [] 9 rfl ?_
          by_cases hlt : q2 < (SPw W 0 j w h : Int) * R.2.1 - lsW W
          · refine go_st (cd := cd83) 1 rfl (go_ifF (fun h => by have := (iZ_le (by omega) (by omega) (by omega) (by omega)).mp h; omega) ?_)
            exact htake (hd1.trans (if_pos ⟨hm', hnow, hlt⟩)) _
          · refine go_st (cd := cd83) 1 rfl (go_ifT ((iZ_le (by omega) (by omega) (by omega) (by omega)).mpr (by omega)) ?_)
            refine go_sub (l' := [(6, .int (nI j)), (5, .int (nI (lsW W))), (4, .int (dI (some (q1, q2)))), (3, .int (oI ((some (q1, q2)).map (·.1)))), (0, .ref 0), (1, .ref b), (2, .ref 1)]) ⟨rfl, by rw [nI_iZ]; rfl, rfl, rfl, rfl, rfl, rfl, trivial⟩ rfl rfl rfl (hsame (hd1.trans (if_neg (fun h => hlt h.2.2))) c hX)
      · have hm' : (mayW W.2.2.1 W.2.2.2 now fit S.1 S.2) j = false := hm
        refine go_st (cd := cd83) 1 rfl (go_ifT rfl ?_)
        refine hsame ?_ c hX
        show (match (desW (mayW W.2.2.1 W.2.2.2 now fit S.1 S.2) (fun s => (SPw W 0 s w h : Int) * R.2.1 - lsW W) now (desO (mayW W.2.2.1 W.2.2.2 now fit S.1 S.2) (fun s => SPw W 0 s w h) R.2.1 now) (j)) with | none => _ | some (b, m) => _) = _
        rw [hm']
        cases (desW (mayW W.2.2.1 W.2.2.2 now fit S.1 S.2) (fun s => (SPw W 0 s w h : Int) * R.2.1 - lsW W) now (desO (mayW W.2.2.1 W.2.2.2 now fit S.1 S.2) (fun s => SPw W 0 s w h) R.2.1 now) (j)) <;> simp
theorem cl_wor1 (hW : wld A W I) (hS : scn W S h now w fit 1 I) (hb : isR r b) (hR : rul R b I) (c : Nat → Int32) (hX : iX A (up1 I 19 c))
    (k : ∀ c, iX A (up1 I 19 c) → P (some (.int (oI ((desW (mayW W.2.2.1 W.2.2.2 now fit S.1 S.2) (fun s => (SPw W 0 s w h : Int) * R.2.1 - lsW W) now (desO (mayW W.2.2.1 W.2.2.2 now fit S.1 S.2) (fun s => SPw W 0 s w h) R.2.1 now) (W.2.2.2)).map (·.1))))) (aHp r rr (up1 I 19 c) J)) : aCl L xs fv 111 (d + 3) 83 [.ref 0, .ref b, .ref 1] (aHp r rr (up1 I 19 c) J) P := by
  refine cl_of rfl (Nat.le_add_right _ _) ?_
  have hc := hW.1
  have hS0 := hS
  obtain ⟨e0, e1, e2, e4, e5, e6, e7, e8, e9, eA, eB⟩ := hS0
  have hR0 := hR
  obtain ⟨f1, f2, f3, f4, f5, f6⟩ := hR0
  have u1 : ∀ c, up1 I 19 c 1 = I 1 := fun c => up1_o rfl
  have ub : ∀ c, up1 I 19 c b = I b := fun c => up1_ne (isR_far (k := 0) hb (by decide))
  refine go_v (cd := cd83) [] 9 rfl ?_
  refine go_callv (cd := cd83) rfl rfl rfl rfl rfl (lv3 rfl) rfl (cl_asUp1 hW hS c ⟨rfl, ?_⟩)
  refine go_v (cd := cd83) [] 9 rfl ?_
  rw [av0, av0, u1, e1, e2]
  have hup : ∀ s, asUpW (mayW W.2.2.1 W.2.2.2 now fit S.1 S.2) now = some s → now = some s ∧ (mayW W.2.2.1 W.2.2.2 now fit S.1 S.2) s = true := fun s hs => by
    unfold asUpW at hs
    cases now with
    | none => cases hs
    | some u =>
      dsimp only at hs
      split at hs
      next hm => cases hs; exact ⟨rfl, hm⟩
      next => cases hs
  refine go_callv (cd := cd83) rfl rfl rfl rfl rfl (lv3 rfl) rfl (cl_pace (z := 0) (w := w) (h := h) (o := asUpW (mayW W.2.2.1 W.2.2.2 now fit S.1 S.2) now) hW rfl rfl rfl rfl (by decide) (fun s hs => eB s (hup s hs).1) e8 (by omega) c hX (fun c hX => ⟨rfl, ?_⟩))
  refine go_v (cd := cd83) [21] 9 rfl ?_
  refine go_get (cd := cd83) rfl (isR_lt (k := 0) hb (by decide)) (isR_k hb).1 ?_
  rw [av0, ub, f2]
  refine go_v (cd := cd83) [] 9 rfl ?_
  obtain ⟨hB1, hB2, hB3⟩ := hbR_ok hW
  have hW' : wld A W (up1 I 19 c) := wld_19 hW
  refine go_callv (cd := cd83) rfl rfl rfl rfl rfl (lv3 rfl) rfl (cl_holding hW' ⟨rfl, ?_⟩)
  rw [show up1 I 19 c 77 = I 77 from up1_o rfl]
  refine go_get (cd := cd83) rfl (isB_lt hB1) (isB_k hB1) ?_
  rw [av0, up1_ne (show hbR (I 77 11) ≠ 19 from isB_19 (k := 0) hB1 (by decide)), hB3.1]
  refine go_v (cd := cd83) [39] 9 rfl ?_
  have hd : (desW (mayW W.2.2.1 W.2.2.2 now fit S.1 S.2) (fun s => (SPw W 0 s w h : Int) * R.2.1 - lsW W) now (desO (mayW W.2.2.1 W.2.2.2 now fit S.1 S.2) (fun s => SPw W 0 s w h) R.2.1 now) (0)) = desO (mayW W.2.2.1 W.2.2.2 now fit S.1 S.2) (fun s => SPw W 0 s w h) R.2.1 now := rfl
  have e4' : nI (spO (fun s => SPw W 0 s w h) (asUpW (mayW W.2.2.1 W.2.2.2 now fit S.1 S.2) now)) * nI R.2.1 = dI (desW (mayW W.2.2.1 W.2.2.2 now fit S.1 S.2) (fun s => (SPw W 0 s w h : Int) * R.2.1 - lsW W) now (desO (mayW W.2.2.1 W.2.2.2 now fit S.1 S.2) (fun s => SPw W 0 s w h) R.2.1 now) (0)) := by
    rw [hd]
    cases now with
    | none => show nI 0 * nI R.2.1 = iZ 0; rw [nI_mul, Nat.zero_mul]; rfl
    | some u =>
      unfold asUpW desO
      dsimp only
      by_cases hm : mayW W.2.2.1 W.2.2.2 (some u) fit S.1 S.2 u = true
      · rw [if_pos hm, if_pos hm]
        show nI (SPw W 0 u w h) * nI R.2.1 = iZ ((SPw W 0 u w h : Int) * R.2.1)
        rw [nI_iZ, nI_iZ, iZ_mul]
      · rw [if_neg hm, if_neg hm]
        show nI 0 * nI R.2.1 = iZ 0; rw [nI_mul, Nat.zero_mul]; rfl
  have e3' : oI (asUpW (mayW W.2.2.1 W.2.2.2 now fit S.1 S.2) now) = oI ((desW (mayW W.2.2.1 W.2.2.2 now fit S.1 S.2) (fun s => (SPw W 0 s w h : Int) * R.2.1 - lsW W) now (desO (mayW W.2.2.1 W.2.2.2 now fit S.1 S.2) (fun s => SPw W 0 s w h) R.2.1 now) (0)).map (·.1)) := by
    rw [hd]
    cases now with
    | none => rfl
    | some u =>
      unfold asUpW desO
      dsimp only
      by_cases hm : mayW W.2.2.1 W.2.2.2 (some u) fit S.1 S.2 u = true
      · rw [if_pos hm, if_pos hm]; rfl
      · rw [if_neg hm, if_neg hm]; rfl
  refine go_sub (l' := [(6, .int (nI (0))), (5, .int (nI (lsW W))), (4, .int (dI (desW (mayW W.2.2.1 W.2.2.2 now fit S.1 S.2) (fun s => (SPw W 0 s w h : Int) * R.2.1 - lsW W) now (desO (mayW W.2.2.1 W.2.2.2 now fit S.1 S.2) (fun s => SPw W 0 s w h) R.2.1 now) (0)))), (3, .int (oI ((desW (mayW W.2.2.1 W.2.2.2 now fit S.1 S.2) (fun s => (SPw W 0 s w h : Int) * R.2.1 - lsW W) now (desO (mayW W.2.2.1 W.2.2.2 now fit S.1 S.2) (fun s => SPw W 0 s w h) R.2.1 now) (0)).map (·.1)))), (0, .ref 0), (1, .ref b), (2, .ref 1)]) ⟨rfl, rfl, by rw [← e4']; rfl, by rw [← e3']; rfl, rfl, rfl, rfl, trivial⟩ rfl rfl rfl ?_
  exact wor_loop1 hW hS hb hR k W.2.2.2 0 c (by omega) hX
theorem wor_loop5 (hW : wld A W I) (hS : scn W S h now w fit 5 I) (hb : isR r b) (hR : rul R b I)
    (k : ∀ c, iX A (up1 I 19 c) → P (some (.int (oI ((desW (mayW W.2.2.1 W.2.2.2 now fit S.1 S.2) (fun s => (SPw W 0 s w h : Int) * R.2.1 - lsW W) now (desO (mayW W.2.2.1 W.2.2.2 now fit S.1 S.2) (fun s => SPw W 0 s w h) R.2.1 now) (W.2.2.2)).map (·.1))))) (aHp r rr (up1 I 19 c) J)) : ∀ m j c, j + m = W.2.2.2 → iX A (up1 I 19 c) →
    aTo L xs fv 111 (d + 2) cd83 (39, [(6, .int (nI (j))), (5, .int (nI (lsW W))), (4, .int (dI (desW (mayW W.2.2.1 W.2.2.2 now fit S.1 S.2) (fun s => (SPw W 0 s w h : Int) * R.2.1 - lsW W) now (desO (mayW W.2.2.1 W.2.2.2 now fit S.1 S.2) (fun s => SPw W 0 s w h) R.2.1 now) (j)))), (3, .int (oI ((desW (mayW W.2.2.1 W.2.2.2 now fit S.1 S.2) (fun s => (SPw W 0 s w h : Int) * R.2.1 - lsW W) now (desO (mayW W.2.2.1 W.2.2.2 now fit S.1 S.2) (fun s => SPw W 0 s w h) R.2.1 now) (j)).map (·.1)))), (0, .ref 0), (1, .ref b), (2, .ref 5)], [], aHp r rr (up1 I 19 c) J) P
  | 0, j, c, hj, hX => by
    have hc := hW.1
    have hj : j = W.2.2.2 := hj
    obtain ⟨e0, e1, e2, e4, e5, e6, e7, e8, e9, eA, eB⟩ := hS
    have u1 : up1 I 19 c 5 = I 5 := up1_o rfl
    refine go_v (cd := cd83) [] 9 rfl ?_
    rw [av0, u1, e5]
    refine go_st (cd := cd83) 1 rfl (go_ifT (by rw [hj]; exact nI_le (Nat.le_refl _) (by omega)) ?_)
    refine go_v (cd := cd83) [] 9 rfl ?_
    rw [hj]
    exact go_ireturn (cd := cd83) rfl (k c hX)
  | m + 1, j, c, hj, hX => by
    have hc := hW.1
    have hjl : j < W.2.2.2 := by omega
    have hS0 := hS
    obtain ⟨e0, e1, e2, e4, e5, e6, e7, e8, e9, eA, eB⟩ := hS0
    obtain ⟨f1, f2, f3, f4, f5, f6⟩ := hR
    have u1 : ∀ c, up1 I 19 c 5 = I 5 := fun c => up1_o rfl
    have ub : ∀ c, up1 I 19 c b = I b := fun c => up1_ne (isR_far (k := 0) hb (by decide))
    have hok := fun {bb : Nat} {mm : Int} => desW_ok (may := (mayW W.2.2.1 W.2.2.2 now fit S.1 S.2)) (wo := fun s => (SPw W 0 s w h : Int) * R.2.1 - lsW W) (now := now) (o := desO (mayW W.2.2.1 W.2.2.2 now fit S.1 S.2) (fun s => SPw W 0 s w h) R.2.1 now) (cnt := W.2.2.2) (fun s => wo_ok hW.2.2.2.2.1 f4 s w h) (desO_ok f4 eB) (n := j) (b := bb) (m := mm) (by omega)
    refine go_v (cd := cd83) [] 9 rfl ?_
    rw [av0, u1, e5]
    refine go_st (cd := cd83) 1 rfl (go_ifF (nI_ge hjl (by omega)) ?_)
    refine go_v (cd := cd83) [] 9 rfl ?_
    rw [av0, u1, e0]
    have hnext : ∀ c ls', iX A (up1 I 19 c) → sbA [(6, .int (nI (j + 1))), (5, .int (nI (lsW W))), (4, .int (dI (desW (mayW W.2.2.1 W.2.2.2 now fit S.1 S.2) (fun s => (SPw W 0 s w h : Int) * R.2.1 - lsW W) now (desO (mayW W.2.2.1 W.2.2.2 now fit S.1 S.2) (fun s => SPw W 0 s w h) R.2.1 now) (j + 1)))), (3, .int (oI ((desW (mayW W.2.2.1 W.2.2.2 now fit S.1 S.2) (fun s => (SPw W 0 s w h : Int) * R.2.1 - lsW W) now (desO (mayW W.2.2.1 W.2.2.2 now fit S.1 S.2) (fun s => SPw W 0 s w h) R.2.1 now) (j + 1)).map (·.1)))), (0, .ref 0), (1, .ref b), (2, .ref 5)] ls' → sbB [(6, .int (nI (j + 1))), (5, .int (nI (lsW W))), (4, .int (dI (desW (mayW W.2.2.1 W.2.2.2 now fit S.1 S.2) (fun s => (SPw W 0 s w h : Int) * R.2.1 - lsW W) now (desO (mayW W.2.2.1 W.2.2.2 now fit S.1 S.2) (fun s => SPw W 0 s w h) R.2.1 now) (j + 1)))), (3, .int (oI ((desW (mayW W.2.2.1 W.2.2.2 now fit S.1 S.2) (fun s => (SPw W 0 s w h : Int) * R.2.1 - lsW W) now (desO (mayW W.2.2.1 W.2.2.2 now fit S.1 S.2) (fun s => SPw W 0 s w h) R.2.1 now) (j + 1)).map (·.1)))), (0, .ref 0), (1, .ref b), (2, .ref 5)] ls' = true → sbN ls' = true → aTo L xs fv 111 (d + 2) cd83 (39, ls', [], aHp r rr (up1 I 19 c) J) P := fun c ls' hX h1 h2 h3 => go_sub h1 h2 h3 rfl (wor_loop5 hW hS hb ⟨f1, f2, f3, f4, f5, f6⟩ k m (j + 1) c (by omega) hX)
    have hsame : (desW (mayW W.2.2.1 W.2.2.2 now fit S.1 S.2) (fun s => (SPw W 0 s w h : Int) * R.2.1 - lsW W) now (desO (mayW W.2.2.1 W.2.2.2 now fit S.1 S.2) (fun s => SPw W 0 s w h) R.2.1 now) (j + 1)) = (desW (mayW W.2.2.1 W.2.2.2 now fit S.1 S.2) (fun s => (SPw W 0 s w h : Int) * R.2.1 - lsW W) now (desO (mayW W.2.2.1 W.2.2.2 now fit S.1 S.2) (fun s => SPw W 0 s w h) R.2.1 now) (j)) → ∀ c, iX A (up1 I 19 c) → aTo L xs fv 111 (d + 2) cd83 (111, [(6, .int (nI (j))), (5, .int (nI (lsW W))), (4, .int (dI (desW (mayW W.2.2.1 W.2.2.2 now fit S.1 S.2) (fun s => (SPw W 0 s w h : Int) * R.2.1 - lsW W) now (desO (mayW W.2.2.1 W.2.2.2 now fit S.1 S.2) (fun s => SPw W 0 s w h) R.2.1 now) (j)))), (3, .int (oI ((desW (mayW W.2.2.1 W.2.2.2 now fit S.1 S.2) (fun s => (SPw W 0 s w h : Int) * R.2.1 - lsW W) now (desO (mayW W.2.2.1 W.2.2.2 now fit S.1 S.2) (fun s => SPw W 0 s w h) R.2.1 now) (j)).map (·.1)))), (0, .ref 0), (1, .ref b), (2, .ref 5)], [], aHp r rr (up1 I 19 c) J) P := fun he c hX => by
      rw [he] at hnext
      refine go_v (cd := cd83) [39] 20 rfl ?_
      exact hnext c _ hX ⟨by rw [nI_succ]; rfl, rfl, rfl, rfl, rfl, rfl, rfl, trivial⟩ rfl rfl
    by_cases hnow : now = some j
    · refine go_st (cd := cd83) 1 rfl (go_ifT (by rw [hnow]; rfl) ?_)
      refine hsame ?_ c hX
      show (match (desW (mayW W.2.2.1 W.2.2.2 now fit S.1 S.2) (fun s => (SPw W 0 s w h : Int) * R.2.1 - lsW W) now (desO (mayW W.2.2.1 W.2.2.2 now fit S.1 S.2) (fun s => SPw W 0 s w h) R.2.1 now) (j)) with | none => _ | some (b, m) => _) = _
      cases (desW (mayW W.2.2.1 W.2.2.2 now fit S.1 S.2) (fun s => (SPw W 0 s w h : Int) * R.2.1 - lsW W) now (desO (mayW W.2.2.1 W.2.2.2 now fit S.1 S.2) (fun s => SPw W 0 s w h) R.2.1 now) (j)) with
      | none => exact if_neg (fun h => h.2 hnow)
      | some q => exact if_neg (fun h => h.2.1 hnow)
    · refine go_st (cd := cd83) 1 rfl (go_ifF (fun h => hnow ((oI_inj (fun u hu => by have := eB u hu; omega) (by omega)).mp h.symm)) ?_)
      refine go_v (cd := cd83) [] 9 rfl ?_
      refine go_callv (cd := cd83) rfl rfl rfl rfl rfl (lv3 rfl) rfl (cl_cmay5 (o := some j) hW hS rfl (fun s hs => by cases hs; omega) c (fun hm => ⟨rfl, ?_⟩) (fun hm => ⟨rfl, ?_⟩))
      · have hm' : (mayW W.2.2.1 W.2.2.2 now fit S.1 S.2) j = true := hm
        refine go_st (cd := cd83) 1 rfl (go_ifF (by decide) ?_)
        refine go_v (cd := cd83) [] 9 rfl ?_
        rw [av0, av0, u1, e1, e2]
        refine go_callv (cd := cd83) rfl rfl rfl rfl rfl (lv3 rfl) rfl (cl_pace (z := 0) (w := w) (h := h) (o := some j) hW rfl rfl rfl rfl (by decide) (fun s hs => by cases hs; omega) e8 (by omega) c hX (fun c hX => ⟨rfl, ?_⟩))
        rw [show spO (fun s => SPw W 0 s w h) (some j) = SPw W 0 j w h from rfl]
        refine go_v (cd := cd83) [83] 9 rfl ?_
        refine go_get (cd := cd83) rfl (isR_lt (k := 0) hb (by decide)) (isR_k hb).1 ?_
        rw [av0, ub, f2]
        refine go_v (cd := cd83) [] 9 rfl ?_
        rw [nI_iZ (SPw W 0 j w h), nI_iZ R.2.1, nI_iZ (lsW W), iZ_mul, iZ_sub]
        have hwo := wo_ok hW.2.2.2.2.1 f4 j w h
        have htake : (desW (mayW W.2.2.1 W.2.2.2 now fit S.1 S.2) (fun s => (SPw W 0 s w h : Int) * R.2.1 - lsW W) now (desO (mayW W.2.2.1 W.2.2.2 now fit S.1 S.2) (fun s => SPw W 0 s w h) R.2.1 now) (j + 1)) = some (j, (SPw W 0 j w h : Int) * R.2.1 - lsW W) → ∀ y, aTo L xs fv 111 (d + 2) cd83 (104, [(7, .int (iZ ((SPw W 0 j w h : Int) * R.2.1 - lsW W))), (6, .int (nI j)), (5, .int (iZ (lsW W))), (4, .int y), (3, .int (oI ((desW (mayW W.2.2.1 W.2.2.2 now fit S.1 S.2) (fun s => (SPw W 0 s w h : Int) * R.2.1 - lsW W) now (desO (mayW W.2.2.1 W.2.2.2 now fit S.1 S.2) (fun s => SPw W 0 s w h) R.2.1 now) (j)).map (·.1)))), (0, .ref 0), (1, .ref b), (2, .ref 5)], [], aHp r rr (up1 I 19 c) J) P := fun he y => by
          rw [he] at hnext
          refine go_v (cd := cd83) [39] 20 rfl ?_
          exact hnext c _ hX ⟨by rw [nI_succ]; rfl, by rw [nI_iZ]; rfl, rfl, rfl, rfl, rfl, rfl, trivial⟩ rfl rfl
        have hd1 : (desW (mayW W.2.2.1 W.2.2.2 now fit S.1 S.2) (fun s => (SPw W 0 s w h : Int) * R.2.1 - lsW W) now (desO (mayW W.2.2.1 W.2.2.2 now fit S.1 S.2) (fun s => SPw W 0 s w h) R.2.1 now) (j + 1)) = (match (desW (mayW W.2.2.1 W.2.2.2 now fit S.1 S.2) (fun s => (SPw W 0 s w h : Int) * R.2.1 - lsW W) now (desO (mayW W.2.2.1 W.2.2.2 now fit S.1 S.2) (fun s => SPw W 0 s w h) R.2.1 now) (j)) with | none => if (mayW W.2.2.1 W.2.2.2 now fit S.1 S.2) j = true ∧ now ≠ some j then some (j, (SPw W 0 j w h : Int) * R.2.1 - lsW W) else none | some (b, m) => if (mayW W.2.2.1 W.2.2.2 now fit S.1 S.2) j = true ∧ now ≠ some j ∧ m < (SPw W 0 j w h : Int) * R.2.1 - lsW W then some (j, (SPw W 0 j w h : Int) * R.2.1 - lsW W) else some (b, m)) := rfl
        cases hf : (desW (mayW W.2.2.1 W.2.2.2 now fit S.1 S.2) (fun s => (SPw W 0 s w h : Int) * R.2.1 - lsW W) now (desO (mayW W.2.2.1 W.2.2.2 now fit S.1 S.2) (fun s => SPw W 0 s w h) R.2.1 now) (j)) with
        | none =>
          rw [hf] at hd1 htake
          refine go_st (cd := cd83) 1 rfl (go_ifT rfl ?_)
          exact htake (hd1.trans (if_pos ⟨hm', hnow⟩)) _
        | some q =>
          obtain ⟨q1, q2⟩ := q
          have hq := hok hf
          rw [hf] at hd1 htake hsame
          refine go_st (cd := cd83) 1 rfl (go_ifF (fun h => by have h0 : (0 : Int32) ≤ nI q1 := nI_pos' (by omega); rw [show nI q1 = -1 from h] at h0; exact absurd h0 (by decide)) ?_)
          refine go_v (cd := cd83) [] 9 rfl ?_
          by_cases hlt : q2 < (SPw W 0 j w h : Int) * R.2.1 - lsW W
          · refine go_st (cd := cd83) 1 rfl (go_ifF (fun h => by have := (iZ_le (by omega) (by omega) (by omega) (by omega)).mp h; omega) ?_)
            exact htake (hd1.trans (if_pos ⟨hm', hnow, hlt⟩)) _
          · refine go_st (cd := cd83) 1 rfl (go_ifT ((iZ_le (by omega) (by omega) (by omega) (by omega)).mpr (by omega)) ?_)
            refine go_sub (l' := [(6, .int (nI j)), (5, .int (nI (lsW W))), (4, .int (dI (some (q1, q2)))), (3, .int (oI ((some (q1, q2)).map (·.1)))), (0, .ref 0), (1, .ref b), (2, .ref 5)]) ⟨rfl, by rw [nI_iZ]; rfl, rfl, rfl, rfl, rfl, rfl, trivial⟩ rfl rfl rfl (hsame (hd1.trans (if_neg (fun h => hlt h.2.2))) c hX)
      · have hm' : (mayW W.2.2.1 W.2.2.2 now fit S.1 S.2) j = false := hm
        refine go_st (cd := cd83) 1 rfl (go_ifT rfl ?_)
        refine hsame ?_ c hX
        show (match (desW (mayW W.2.2.1 W.2.2.2 now fit S.1 S.2) (fun s => (SPw W 0 s w h : Int) * R.2.1 - lsW W) now (desO (mayW W.2.2.1 W.2.2.2 now fit S.1 S.2) (fun s => SPw W 0 s w h) R.2.1 now) (j)) with | none => _ | some (b, m) => _) = _
        rw [hm']
        cases (desW (mayW W.2.2.1 W.2.2.2 now fit S.1 S.2) (fun s => (SPw W 0 s w h : Int) * R.2.1 - lsW W) now (desO (mayW W.2.2.1 W.2.2.2 now fit S.1 S.2) (fun s => SPw W 0 s w h) R.2.1 now) (j)) <;> simp
theorem cl_wor5 (hW : wld A W I) (hS : scn W S h now w fit 5 I) (hb : isR r b) (hR : rul R b I) (c : Nat → Int32) (hX : iX A (up1 I 19 c))
    (k : ∀ c, iX A (up1 I 19 c) → P (some (.int (oI ((desW (mayW W.2.2.1 W.2.2.2 now fit S.1 S.2) (fun s => (SPw W 0 s w h : Int) * R.2.1 - lsW W) now (desO (mayW W.2.2.1 W.2.2.2 now fit S.1 S.2) (fun s => SPw W 0 s w h) R.2.1 now) (W.2.2.2)).map (·.1))))) (aHp r rr (up1 I 19 c) J)) : aCl L xs fv 111 (d + 3) 83 [.ref 0, .ref b, .ref 5] (aHp r rr (up1 I 19 c) J) P := by
  refine cl_of rfl (Nat.le_add_right _ _) ?_
  have hc := hW.1
  have hS0 := hS
  obtain ⟨e0, e1, e2, e4, e5, e6, e7, e8, e9, eA, eB⟩ := hS0
  have hR0 := hR
  obtain ⟨f1, f2, f3, f4, f5, f6⟩ := hR0
  have u1 : ∀ c, up1 I 19 c 5 = I 5 := fun c => up1_o rfl
  have ub : ∀ c, up1 I 19 c b = I b := fun c => up1_ne (isR_far (k := 0) hb (by decide))
  refine go_v (cd := cd83) [] 9 rfl ?_
  refine go_callv (cd := cd83) rfl rfl rfl rfl rfl (lv3 rfl) rfl (cl_asUp5 hW hS c ⟨rfl, ?_⟩)
  refine go_v (cd := cd83) [] 9 rfl ?_
  rw [av0, av0, u1, e1, e2]
  have hup : ∀ s, asUpW (mayW W.2.2.1 W.2.2.2 now fit S.1 S.2) now = some s → now = some s ∧ (mayW W.2.2.1 W.2.2.2 now fit S.1 S.2) s = true := fun s hs => by
    unfold asUpW at hs
    cases now with
    | none => cases hs
    | some u =>
      dsimp only at hs
      split at hs
      next hm => cases hs; exact ⟨rfl, hm⟩
      next => cases hs
  refine go_callv (cd := cd83) rfl rfl rfl rfl rfl (lv3 rfl) rfl (cl_pace (z := 0) (w := w) (h := h) (o := asUpW (mayW W.2.2.1 W.2.2.2 now fit S.1 S.2) now) hW rfl rfl rfl rfl (by decide) (fun s hs => eB s (hup s hs).1) e8 (by omega) c hX (fun c hX => ⟨rfl, ?_⟩))
  refine go_v (cd := cd83) [21] 9 rfl ?_
  refine go_get (cd := cd83) rfl (isR_lt (k := 0) hb (by decide)) (isR_k hb).1 ?_
  rw [av0, ub, f2]
  refine go_v (cd := cd83) [] 9 rfl ?_
  obtain ⟨hB1, hB2, hB3⟩ := hbR_ok hW
  have hW' : wld A W (up1 I 19 c) := wld_19 hW
  refine go_callv (cd := cd83) rfl rfl rfl rfl rfl (lv3 rfl) rfl (cl_holding hW' ⟨rfl, ?_⟩)
  rw [show up1 I 19 c 77 = I 77 from up1_o rfl]
  refine go_get (cd := cd83) rfl (isB_lt hB1) (isB_k hB1) ?_
  rw [av0, up1_ne (show hbR (I 77 11) ≠ 19 from isB_19 (k := 0) hB1 (by decide)), hB3.1]
  refine go_v (cd := cd83) [39] 9 rfl ?_
  have hd : (desW (mayW W.2.2.1 W.2.2.2 now fit S.1 S.2) (fun s => (SPw W 0 s w h : Int) * R.2.1 - lsW W) now (desO (mayW W.2.2.1 W.2.2.2 now fit S.1 S.2) (fun s => SPw W 0 s w h) R.2.1 now) (0)) = desO (mayW W.2.2.1 W.2.2.2 now fit S.1 S.2) (fun s => SPw W 0 s w h) R.2.1 now := rfl
  have e4' : nI (spO (fun s => SPw W 0 s w h) (asUpW (mayW W.2.2.1 W.2.2.2 now fit S.1 S.2) now)) * nI R.2.1 = dI (desW (mayW W.2.2.1 W.2.2.2 now fit S.1 S.2) (fun s => (SPw W 0 s w h : Int) * R.2.1 - lsW W) now (desO (mayW W.2.2.1 W.2.2.2 now fit S.1 S.2) (fun s => SPw W 0 s w h) R.2.1 now) (0)) := by
    rw [hd]
    cases now with
    | none => show nI 0 * nI R.2.1 = iZ 0; rw [nI_mul, Nat.zero_mul]; rfl
    | some u =>
      unfold asUpW desO
      dsimp only
      by_cases hm : mayW W.2.2.1 W.2.2.2 (some u) fit S.1 S.2 u = true
      · rw [if_pos hm, if_pos hm]
        show nI (SPw W 0 u w h) * nI R.2.1 = iZ ((SPw W 0 u w h : Int) * R.2.1)
        rw [nI_iZ, nI_iZ, iZ_mul]
      · rw [if_neg hm, if_neg hm]
        show nI 0 * nI R.2.1 = iZ 0; rw [nI_mul, Nat.zero_mul]; rfl
  have e3' : oI (asUpW (mayW W.2.2.1 W.2.2.2 now fit S.1 S.2) now) = oI ((desW (mayW W.2.2.1 W.2.2.2 now fit S.1 S.2) (fun s => (SPw W 0 s w h : Int) * R.2.1 - lsW W) now (desO (mayW W.2.2.1 W.2.2.2 now fit S.1 S.2) (fun s => SPw W 0 s w h) R.2.1 now) (0)).map (·.1)) := by
    rw [hd]
    cases now with
    | none => rfl
    | some u =>
      unfold asUpW desO
      dsimp only
      by_cases hm : mayW W.2.2.1 W.2.2.2 (some u) fit S.1 S.2 u = true
      · rw [if_pos hm, if_pos hm]; rfl
      · rw [if_neg hm, if_neg hm]; rfl
  refine go_sub (l' := [(6, .int (nI (0))), (5, .int (nI (lsW W))), (4, .int (dI (desW (mayW W.2.2.1 W.2.2.2 now fit S.1 S.2) (fun s => (SPw W 0 s w h : Int) * R.2.1 - lsW W) now (desO (mayW W.2.2.1 W.2.2.2 now fit S.1 S.2) (fun s => SPw W 0 s w h) R.2.1 now) (0)))), (3, .int (oI ((desW (mayW W.2.2.1 W.2.2.2 now fit S.1 S.2) (fun s => (SPw W 0 s w h : Int) * R.2.1 - lsW W) now (desO (mayW W.2.2.1 W.2.2.2 now fit S.1 S.2) (fun s => SPw W 0 s w h) R.2.1 now) (0)).map (·.1)))), (0, .ref 0), (1, .ref b), (2, .ref 5)]) ⟨rfl, rfl, by rw [← e4']; rfl, by rw [← e3']; rfl, rfl, rfl, rfl, trivial⟩ rfl rfl rfl ?_
  exact wor_loop5 hW hS hb hR k W.2.2.2 0 c (by omega) hX
end WO
