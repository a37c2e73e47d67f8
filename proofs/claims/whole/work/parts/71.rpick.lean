/-! what rules pick, as the reference finds it -/
def rwl (W : Wd) (F : Nat) (I : Nat → Nat → Int32) : Prop := rH W.1 F I ∧ W.2.2.2 ≤ 6 ∧ I 77 0 = nI W.2.2.2 ∧ ∀ s, s < 6 → I 78 s = nI (W.2.1 s) ∧ W.2.1 s ≤ 9 ∧ I 79 s = nI (W.2.2.1 s) ∧ W.2.2.1 s ≤ 9
def rsc (S : Sc) (I : Nat → Nat → Int32) : Prop := bt (I 77 34) = S.1 ∧ I 77 35 = nI S.2 ∧ S.2 ≤ 9
def rrl (R : Ru) (q : Nat) (I : Nat → Nat → Int32) : Prop := q ≤ 10 ∧ I 91 q = nI R.1 ∧ I 92 q = nI R.2.1 ∧ R.1 ≤ 6 ∧ R.2.1 ≤ 9 ∧ (5 ≤ R.1 → ∀ w, w < 4 → I 93 (4 * q + w) = oI (R.2.2.1 w) ∧ ∀ s, R.2.2.1 w = some s → s < 6) ∧ (R.1 = 6 → ∀ j, j < 5 → I 94 (5 * q + j) = oI (R.2.2.2 j) ∧ ∀ s, R.2.2.2 j = some s → s < 6)
def mR : Option (Nat × Nat) → Int32
  | none => 0
  | some q => nI q.2
/-- one more sail looked at -/
def stepD (may : Nat → Bool) (o : Option Nat) (wo : Int) (st : Option (Nat × Int)) : Option (Nat × Int) := match o with
  | none => st
  | some s => if may s = true then (match st with | none => some (s, wo) | some (b, m) => if m < wo then some (s, wo) else some (b, m)) else st
theorem desW_up {may : Nat → Bool} {wo : Nat → Int} {now : Option Nat} {b0 : Nat} {m0 : Int} : ∀ n, ∃ b m, desW may wo now (some (b0, m0)) n = some (b, m) ∧ m0 ≤ m
  | 0 => ⟨b0, m0, rfl, Int.le_refl _⟩
  | n + 1 => by
    obtain ⟨b, m, h1, h2⟩ := desW_up (may := may) (wo := wo) (now := now) (b0 := b0) (m0 := m0) n
    unfold desW
    rw [h1]
    dsimp only
    by_cases hc : may n = true ∧ now ≠ some n ∧ m < wo n
    · rw [if_pos hc]; exact ⟨n, wo n, rfl, by omega⟩
    · rw [if_neg hc]; exact ⟨b, m, rfl, h2⟩
theorem desW_eq {may : Nat → Bool} {wo : Nat → Int} {now : Option Nat} {o : Option (Nat × Int)} (n : Nat) : desW may wo now o (n + 1) = (match desW may wo now o n with | none => if may n = true ∧ now ≠ some n then some (n, wo n) else none | some (b, m) => if may n = true ∧ now ≠ some n ∧ m < wo n then some (n, wo n) else some (b, m)) := rfl
theorem stepD_some {may : Nat → Bool} {s : Nat} {wo : Int} {st : Option (Nat × Int)} : stepD may (some s) wo st = (if may s = true then (match st with | none => some (s, wo) | some (b, m) => if m < wo then some (s, wo) else some (b, m)) else st) := rfl
theorem desW_step {may : Nat → Bool} {sp : Nat → Nat} {v ls : Nat} {now : Option Nat} (n : Nat) : desW may (fun s => (sp s : Int) * v - ls) now (desO may sp v now) (n + 1) = stepD may (some n) ((sp n : Int) * v - (if now = some n then (0 : Int) else ls)) (desW may (fun s => (sp s : Int) * v - ls) now (desO may sp v now) n) := by
  rw [desW_eq, stepD_some]
  by_cases hm : may n = true
  · rw [if_pos hm]
    by_cases hn : now = some n
    · have ho : desO may sp v now = some (n, (sp n : Int) * v) := by rw [hn]; exact if_pos hm
      obtain ⟨b, m, h1, h2⟩ := desW_up (may := may) (wo := fun s => (sp s : Int) * v - ls) (now := now) (b0 := n) (m0 := (sp n : Int) * v) n
      rw [← ho] at h1
      rw [h1]
      dsimp only
      simp only [if_pos hn]
      rw [if_neg (fun h => h.2.1 hn), if_neg (by omega)]
    · simp only [if_neg hn]
      cases desW may (fun s => (sp s : Int) * v - ls) now (desO may sp v now) n with
      | none => exact if_pos ⟨hm, hn⟩
      | some q =>
        obtain ⟨b, m⟩ := q
        dsimp only
        by_cases hc : m < (sp n : Int) * v - ls
        · rw [if_pos ⟨hm, hn, hc⟩, if_pos hc]
        · rw [if_neg (fun h => hc h.2.2), if_neg hc]
  · rw [if_neg hm]
    cases desW may (fun s => (sp s : Int) * v - ls) now (desO may sp v now) n with
    | none => exact if_neg (fun h => hm h.1)
    | some q => exact if_neg (fun h => hm h.1)
theorem go_sb {L : Nat} {xs : Nat → Int32} {fv : Value} {n0 d : Nat} {cd : Nat → Option aI} {P : Option Value → aH → Prop} {pc : Nat} {l l' : aL} {st : List Value} {h : aH} (k : aTo L xs fv n0 d cd (pc, l', st, h) P) (hA : sbA l' l) (hB : sbB l' l = true) (h1 : sbN l = true) (h2 : sbN l' = true) : aTo L xs fv n0 d cd (pc, l, st, h) P := go_sub hA hB h1 h2 k
section RP
variable {L : Nat} {xs : Nat → Int32} {fv : Value} {d : Nat} {r : Nat} {rr : Option Nat} {I : Nat → Nat → Int32} {J : Nat → Nat → Int64} {P : Option Value → aH → Prop}
variable {W : Wd} {F : Nat} {S : Sc} {h w : Nat} {now : Option Nat} {x : Int32} {R : Ru} {q : Nat}
theorem rwl_89 {c : Nat → Int32} (hW : rwl W F I) : rwl W F (up1 I 89 c) := ⟨rH_c (I := I) rfl rfl rfl rfl rfl rfl rfl rfl hW.1, hW.2.1, hW.2.2.1, hW.2.2.2⟩
theorem cl_rmay {o : Option Nat} {s' n' : Int32} (hW : rwl W F I) (hS : rsc S I) (hs' : s' = oI o) (hn' : n' = oI now) (ho : ∀ s, o = some s → s < 6) (hnow : ∀ u, now = some u → u < W.2.2.2) (c : Nat → Int32) (k1 : mayO (mayW W.2.2.1 W.2.2.2 now (bt x) S.1 S.2) o = true → P (some (.int 1)) (aHp r rr (up1 I 89 c) J)) (k0 : mayO (mayW W.2.2.1 W.2.2.2 now (bt x) S.1 S.2) o = false → P (some (.int 0)) (aHp r rr (up1 I 89 c) J)) : aCl L xs fv 111 (d + 4) 131 [.ref 77, .int s', .int n', .int x] (aHp r rr (up1 I 89 c) J) P := by
  refine cl_of rfl (Nat.le_add_right _ _) ?_
  have hc := hW.2.1
  have u77 : up1 I 89 c 77 = I 77 := up1_o rfl
  have hq : mayQ (up1 I 89 c 79) (up1 I 89 c 77 0) s' n' x (I 77 34) (I 77 35) ↔ mayO (mayW W.2.2.1 W.2.2.2 now (bt x) S.1 S.2) o = true := by
    rw [show up1 I 89 c 79 = I 79 from up1_o rfl, u77, hW.2.2.1, hS.2.1, hs', hn', ← hS.1]
    exact mayQ_W (fun s hs => ⟨(hW.2.2.2 s hs).2.2.1, (hW.2.2.2 s hs).2.2.2⟩) hS.2.2 hc hnow ho
  refine go_v (cd := cd131) [] 20 rfl ?_
  rw [av0, av0, u77]
  refine go_callv (cd := cd131) rfl rfl rfl rfl rfl (lv3 rfl) rfl (cl_mayBe (by rw [u77, hW.2.2.1]; exact nI_pos' (by omega)) (by rw [u77, hW.2.2.1]; exact nI_le (b := 6) hc (by decide)) (fun hm => ⟨rfl, ?_⟩) (fun hm => ⟨rfl, ?_⟩))
  · exact go_zreturn (cd := cd131) rfl (Or.inr rfl) (k1 (hq.mp hm))
  · refine go_zreturn (cd := cd131) rfl (Or.inl rfl) (k0 ?_)
    cases hm2 : mayO (mayW W.2.2.1 W.2.2.2 now (bt x) S.1 S.2) o with
    | true => exact absurd (hq.mpr hm2) hm
    | false => rfl
theorem cl_plain {n' : Int32} (hW : rwl W F I) (hS : rsc S I) (hn' : n' = oI now) (hnow : ∀ u, now = some u → u < W.2.2.2) (c : Nat → Int32) (k : P (some (.int (oI (asUpW (mayW W.2.2.1 W.2.2.2 now (bt x) S.1 S.2) now)))) (aHp r rr (up1 I 89 c) J)) : aCl L xs fv 111 (d + 5) 132 [.ref 77, .int n', .int x] (aHp r rr (up1 I 89 c) J) P := by
  refine cl_of rfl (Nat.le_add_right _ _) ?_
  have hc := hW.2.1
  refine go_v (cd := cd132) [] 20 rfl ?_
  refine go_callv (cd := cd132) rfl rfl rfl rfl rfl (lv3 rfl) rfl (cl_rmay (o := now) (now := now) hW hS hn' hn' (fun s hs => by have := hnow s hs; omega) hnow c (fun hm => ⟨rfl, ?_⟩) (fun hm => ⟨rfl, ?_⟩))
  · refine go_st (cd := cd132) 1 rfl (go_ifF (by decide) ?_)
    refine go_v (cd := cd132) [] 9 rfl ?_
    refine go_ireturn (cd := cd132) rfl ?_
    have : asUpW (mayW W.2.2.1 W.2.2.2 now (bt x) S.1 S.2) now = now := by
      cases now with
      | none => rfl
      | some u => exact if_pos hm
    rw [this] at k
    rw [hn']
    exact k
  · refine go_st (cd := cd132) 1 rfl (go_ifT rfl ?_)
    refine go_v (cd := cd132) [] 9 rfl ?_
    refine go_ireturn (cd := cd132) rfl ?_
    have : asUpW (mayW W.2.2.1 W.2.2.2 now (bt x) S.1 S.2) now = none := by
      cases now with
      | none => rfl
      | some u =>
        have hm' : mayW W.2.2.1 W.2.2.2 (some u) (bt x) S.1 S.2 u = false := hm
        exact if_neg (by rw [hm']; decide)
    rw [this] at k
    exact k
theorem rfast_loop (hW : rwl W F I) (hS : rsc S I) (hw : w < 4) (hh : h < 1000) (hnow : ∀ u, now = some u → u < W.2.2.2)
    (k : ∀ c, P (some (.int (oI ((fasW (mayW W.2.2.1 W.2.2.2 now (bt x) S.1 S.2) (fun s => SPw W 0 s w h) (W.2.2.2)).map (·.1))))) (aHp r rr (up1 I 89 c) J)) : ∀ m j c, j + m = W.2.2.2 →
    aTo L xs fv 111 (d + 4) cd133 (9, [(7, .int (nI j)), (6, .int (mR (fasW (mayW W.2.2.1 W.2.2.2 now (bt x) S.1 S.2) (fun s => SPw W 0 s w h) (j)))), (5, .int (oI ((fasW (mayW W.2.2.1 W.2.2.2 now (bt x) S.1 S.2) (fun s => SPw W 0 s w h) (j)).map (·.1)))), (0, .ref 77), (1, .int (oI now)), (2, .int (nI w)), (3, .int (nI h)), (4, .int x)], [], aHp r rr (up1 I 89 c) J) P
  | 0, j, c, hj => by
    have hc := hW.2.1
    have hj : j = W.2.2.2 := hj
    have u77 : up1 I 89 c 77 = I 77 := up1_o rfl
    refine go_v (cd := cd133) [] 9 rfl ?_
    rw [av0, u77, hW.2.2.1]
    refine go_st (cd := cd133) 1 rfl (go_ifT (by rw [hj]; exact nI_le (Nat.le_refl _) (by omega)) ?_)
    refine go_v (cd := cd133) [] 9 rfl ?_
    rw [hj]
    exact go_ireturn (cd := cd133) rfl (k c)
  | m + 1, j, c, hj => by
    have hc := hW.2.1
    have hjl : j < W.2.2.2 := by omega
    have u77 : ∀ c, up1 I 89 c 77 = I 77 := fun c => up1_o rfl
    refine go_v (cd := cd133) [] 9 rfl ?_
    rw [av0, u77, hW.2.2.1]
    refine go_st (cd := cd133) 1 rfl (go_ifF (nI_ge hjl (by omega)) ?_)
    refine go_v (cd := cd133) [] 9 rfl ?_
    have hnext : ∀ c ls', sbA [(7, .int (nI (j + 1))), (6, .int (mR (fasW (mayW W.2.2.1 W.2.2.2 now (bt x) S.1 S.2) (fun s => SPw W 0 s w h) (j + 1)))), (5, .int (oI ((fasW (mayW W.2.2.1 W.2.2.2 now (bt x) S.1 S.2) (fun s => SPw W 0 s w h) (j + 1)).map (·.1)))), (0, .ref 77), (1, .int (oI now)), (2, .int (nI w)), (3, .int (nI h)), (4, .int x)] ls' → sbB [(7, .int (nI (j + 1))), (6, .int (mR (fasW (mayW W.2.2.1 W.2.2.2 now (bt x) S.1 S.2) (fun s => SPw W 0 s w h) (j + 1)))), (5, .int (oI ((fasW (mayW W.2.2.1 W.2.2.2 now (bt x) S.1 S.2) (fun s => SPw W 0 s w h) (j + 1)).map (·.1)))), (0, .ref 77), (1, .int (oI now)), (2, .int (nI w)), (3, .int (nI h)), (4, .int x)] ls' = true → sbN ls' = true → aTo L xs fv 111 (d + 4) cd133 (9, ls', [], aHp r rr (up1 I 89 c) J) P := fun c ls' h1 h2 h3 => go_sub h1 h2 h3 rfl (rfast_loop hW hS hw hh hnow k m (j + 1) c (by omega))
    have hd1 : (fasW (mayW W.2.2.1 W.2.2.2 now (bt x) S.1 S.2) (fun s => SPw W 0 s w h) (j + 1)) = (match (fasW (mayW W.2.2.1 W.2.2.2 now (bt x) S.1 S.2) (fun s => SPw W 0 s w h) (j)) with | none => if (mayW W.2.2.1 W.2.2.2 now (bt x) S.1 S.2) j = true then some (j, SPw W 0 j w h) else none | some (b, m) => if (mayW W.2.2.1 W.2.2.2 now (bt x) S.1 S.2) j = true ∧ m < SPw W 0 j w h then some (j, SPw W 0 j w h) else some (b, m)) := rfl
    refine go_callv (cd := cd133) rfl rfl rfl rfl rfl (lv3 rfl) rfl (cl_rmay (o := some j) (now := now) hW hS rfl rfl (fun s hs => by cases hs; omega) hnow c (fun hm => ⟨rfl, ?_⟩) (fun hm => ⟨rfl, ?_⟩))
    · have hm' : (mayW W.2.2.1 W.2.2.2 now (bt x) S.1 S.2) j = true := hm
      refine go_st (cd := cd133) 1 rfl (go_ifF (by decide) ?_)
      refine go_v (cd := cd133) [] 9 rfl ?_
      refine go_callv (cd := cd133) rfl rfl rfl rfl rfl (lv3 rfl) rfl (cl_rsum (z := 0) (w := w) (h := h) (o := some j) (wt := W.2.1) hW.1 rfl rfl rfl rfl (by decide) (fun s hs => by cases hs; omega) hw hh (fun s hs => ⟨(hW.2.2.2 s hs).1, (hW.2.2.2 s hs).2.1⟩) c (fun c => ⟨rfl, ?_⟩))
      rw [show spA W.1 W.2.1 0 (some j) w h = SPw W 0 j w h from rfl]
      have hsp := SP_le W j w h
      refine go_v (cd := cd133) [] 9 rfl ?_
      cases hf : (fasW (mayW W.2.2.1 W.2.2.2 now (bt x) S.1 S.2) (fun s => SPw W 0 s w h) (j)) with
      | none =>
        have he : (fasW (mayW W.2.2.1 W.2.2.2 now (bt x) S.1 S.2) (fun s => SPw W 0 s w h) (j + 1)) = some (j, SPw W 0 j w h) := by rw [hd1, hf]; exact if_pos hm'
        rw [he] at hnext
        refine go_st (cd := cd133) 1 rfl (go_ifT (by decide) ?_)
        refine go_v (cd := cd133) [9] 20 rfl ?_
        exact hnext c _ ⟨by rw [nI_succ]; rfl, rfl, rfl, rfl, rfl, rfl, rfl, rfl, trivial⟩ rfl rfl
      | some q =>
        obtain ⟨q1, q2⟩ := q
        have hq := fasW_lt hf
        have hq2 : q2 ≤ 99 := by rw [hq.2.1]; exact SP_le _ _ _ _
        refine go_st (cd := cd133) 1 rfl (go_ifF (nI_pos (n := q1) (by omega)) ?_)
        refine go_v (cd := cd133) [] 9 rfl ?_
        by_cases hlt : q2 < SPw W 0 j w h
        · have he : (fasW (mayW W.2.2.1 W.2.2.2 now (bt x) S.1 S.2) (fun s => SPw W 0 s w h) (j + 1)) = some (j, SPw W 0 j w h) := by rw [hd1, hf]; exact if_pos ⟨hm', hlt⟩
          rw [he] at hnext
          refine go_st (cd := cd133) 1 rfl (go_ifT (nI_lt hlt (by omega)) ?_)
          refine go_v (cd := cd133) [9] 20 rfl ?_
          exact hnext c _ ⟨by rw [nI_succ]; rfl, rfl, rfl, rfl, rfl, rfl, rfl, rfl, trivial⟩ rfl rfl
        · have he : (fasW (mayW W.2.2.1 W.2.2.2 now (bt x) S.1 S.2) (fun s => SPw W 0 s w h) (j + 1)) = some (q1, q2) := by rw [hd1, hf]; exact if_neg (fun h => hlt h.2)
          rw [he] at hnext
          refine go_st (cd := cd133) 1 rfl (go_ifF (nI_nlt (by omega) (by omega)) ?_)
          refine go_v (cd := cd133) [9] 20 rfl ?_
          exact hnext c _ ⟨by rw [nI_succ]; rfl, rfl, rfl, rfl, rfl, rfl, rfl, rfl, trivial⟩ rfl rfl
    · have hm' : (mayW W.2.2.1 W.2.2.2 now (bt x) S.1 S.2) j = false := hm
      have he : (fasW (mayW W.2.2.1 W.2.2.2 now (bt x) S.1 S.2) (fun s => SPw W 0 s w h) (j + 1)) = (fasW (mayW W.2.2.1 W.2.2.2 now (bt x) S.1 S.2) (fun s => SPw W 0 s w h) (j)) := by
        rw [hd1, hm']
        cases (fasW (mayW W.2.2.1 W.2.2.2 now (bt x) S.1 S.2) (fun s => SPw W 0 s w h) (j)) <;> simp
      rw [he] at hnext
      refine go_st (cd := cd133) 1 rfl (go_ifT rfl ?_)
      refine go_v (cd := cd133) [9] 20 rfl ?_
      exact hnext c _ ⟨by rw [nI_succ]; rfl, rfl, rfl, rfl, rfl, rfl, rfl, rfl, trivial⟩ rfl rfl
theorem cl_rfast {n' w' h' : Int32} (hW : rwl W F I) (hS : rsc S I) (hn' : n' = oI now) (hw' : w' = nI w) (hh' : h' = nI h) (hw : w < 4) (hh : h < 1000) (hnow : ∀ u, now = some u → u < W.2.2.2) (c : Nat → Int32)
    (k : ∀ c, P (some (.int (oI ((fasW (mayW W.2.2.1 W.2.2.2 now (bt x) S.1 S.2) (fun s => SPw W 0 s w h) (W.2.2.2)).map (·.1))))) (aHp r rr (up1 I 89 c) J)) : aCl L xs fv 111 (d + 5) 133 [.ref 77, .int n', .int w', .int h', .int x] (aHp r rr (up1 I 89 c) J) P := by
  refine cl_of rfl (Nat.le_add_right _ _) ?_
  subst hn'; subst hw'; subst hh'
  refine go_v (cd := cd133) [9] 9 rfl ?_
  refine go_sub (l' := [(7, .int (nI 0)), (6, .int (mR (fasW (mayW W.2.2.1 W.2.2.2 now (bt x) S.1 S.2) (fun s => SPw W 0 s w h) (0)))), (5, .int (oI ((fasW (mayW W.2.2.1 W.2.2.2 now (bt x) S.1 S.2) (fun s => SPw W 0 s w h) (0)).map (·.1)))), (0, .ref 77), (1, .int (oI now)), (2, .int (nI w)), (3, .int (nI h)), (4, .int x)]) ⟨rfl, rfl, rfl, rfl, rfl, rfl, rfl, rfl, trivial⟩ rfl rfl rfl ?_
  exact rfast_loop hW hS hw hh hnow k W.2.2.2 0 c (by omega)
theorem dear_step {o : Option Nat} {v : Nat} {kk : Int32} {st : Option (Nat × Int)} (hW : rwl W F I) (hS : rsc S I) (hw : w < 4) (hh : h < 1000) (hv : v ≤ 9) (hnow : ∀ u, now = some u → u < W.2.2.2) (ho : ∀ s, o = some s → s < W.2.2.2) (hst : ∀ b m, st = some (b, m) → b < 6 ∧ -1000 ≤ m ∧ m ≤ 1000)
    (hk : ∀ c, aTo L xs fv 111 (d + 4) cd134 (9, [(8, .int (kk + 1)), (7, .int (dI (stepD (mayW W.2.2.1 W.2.2.2 now (bt x) S.1 S.2) o ((spO (fun s => SPw W 0 s w h) o : Int) * v - (if now = o then (0 : Int) else lsW W)) st))), (6, .int (oI ((stepD (mayW W.2.2.1 W.2.2.2 now (bt x) S.1 S.2) o ((spO (fun s => SPw W 0 s w h) o : Int) * v - (if now = o then (0 : Int) else lsW W)) st).map (·.1)))), (0, .ref 77), (1, .int (oI now)), (2, .int (nI w)), (3, .int (nI h)), (4, .int x), (5, .int (nI v))], [], aHp r rr (up1 I 89 c) J) P) (c : Nat → Int32) :
    aTo L xs fv 111 (d + 4) cd134 (29, [(8, .int kk), (7, .int (dI st)), (6, .int (oI (st.map (·.1)))), (0, .ref 77), (1, .int (oI now)), (2, .int (nI w)), (3, .int (nI h)), (4, .int x), (5, .int (nI v))], [.int (oI o)], aHp r rr (up1 I 89 c) J) P := by
  have hc := hW.2.1
  have hlen := hW.1.2.1
  refine go_v (cd := cd134) [] 9 rfl ?_
  refine go_callv (cd := cd134) rfl rfl rfl rfl rfl (lv3 rfl) rfl (cl_rmay (o := o) (now := now) hW hS rfl rfl (fun s hs => by have := ho s hs; omega) hnow c (fun hm => ⟨rfl, ?_⟩) (fun hm => ⟨rfl, ?_⟩))
  · cases o with
    | none => cases hm
    | some s =>
      have hs6 := ho s rfl
      have hm' : (mayW W.2.2.1 W.2.2.2 now (bt x) S.1 S.2) s = true := hm
      refine go_st (cd := cd134) 1 rfl (go_ifF (by decide) ?_)
      refine go_v (cd := cd134) [] 9 rfl ?_
      refine go_callv (cd := cd134) rfl rfl rfl rfl rfl (lv3 rfl) rfl (cl_rsum (z := 0) (w := w) (h := h) (o := some s) (wt := W.2.1) hW.1 rfl rfl rfl rfl (by decide) (fun u hu => by cases hu; omega) hw hh (fun s hs => ⟨(hW.2.2.2 s hs).1, (hW.2.2.2 s hs).2.1⟩) c (fun c => ⟨rfl, ?_⟩))
      rw [show spA W.1 W.2.1 0 (some s) w h = SPw W 0 s w h from rfl]
      rw [show spO (fun s => SPw W 0 s w h) (some s) = SPw W 0 s w h from rfl] at hk
      have hsp := SP_le W s w h
      have hls : lsW W ≤ 99 := lastA_le hlen 2 0
      have h3 : SPw W 0 s w h * v ≤ 99 * 9 := Nat.mul_le_mul hsp hv
      have h4 : ((SPw W 0 s w h * v : Nat) : Int) = (SPw W 0 s w h : Int) * v := by push_cast; rfl
      refine go_v (cd := cd134) [] 9 rfl ?_
      have hfin : ∀ (wo : Int) (c : Nat → Int32), wo = (SPw W 0 s w h : Int) * v - (if now = some s then (0 : Int) else lsW W) → aTo L xs fv 111 (d + 4) cd134 (75, [(9, .int (oI (some s))), (8, .int kk), (7, .int (dI st)), (6, .int (oI (st.map (·.1)))), (0, .ref 77), (1, .int (oI now)), (2, .int (nI w)), (3, .int (nI h)), (4, .int x), (5, .int (nI v))], [.int (iZ wo)], aHp r rr (up1 I 89 c) J) P := fun wo c hwo => by
        rw [← hwo] at hk
        have hwb : -1000 ≤ wo ∧ wo ≤ 1000 := by rw [hwo]; split <;> omega
        unfold stepD at hk
        dsimp only at hk
        rw [if_pos hm'] at hk
        refine go_v (cd := cd134) [] 9 rfl ?_
        cases st with
        | none =>
          refine go_st (cd := cd134) 1 rfl (go_ifT (by decide) ?_)
          refine go_v (cd := cd134) [9] 20 rfl ?_
          exact go_sb (hk c) ⟨rfl, rfl, rfl, rfl, rfl, rfl, rfl, rfl, rfl, trivial⟩ rfl rfl rfl
        | some p =>
          obtain ⟨p1, p2⟩ := p
          have hp := hst p1 p2 rfl
          dsimp only at hk
          refine go_st (cd := cd134) 1 rfl (go_ifF (nI_pos (n := p1) (by omega)) ?_)
          refine go_v (cd := cd134) [] 9 rfl ?_
          by_cases hlt : p2 < wo
          · rw [if_pos hlt] at hk
            refine go_st (cd := cd134) 1 rfl (go_ifT (Int32.not_le.mp (fun hl => by have := (iZ_le (by omega) (by omega) (by omega) (by omega)).mp hl; omega)) ?_)
            refine go_v (cd := cd134) [9] 20 rfl ?_
            exact go_sb (hk c) ⟨rfl, rfl, rfl, rfl, rfl, rfl, rfl, rfl, rfl, trivial⟩ rfl rfl rfl
          · rw [if_neg hlt] at hk
            refine go_st (cd := cd134) 1 rfl (go_ifF (Int32.not_lt.mpr ((iZ_le (by omega) (by omega) (by omega) (by omega)).mpr (by omega))) ?_)
            refine go_v (cd := cd134) [9] 20 rfl ?_
            exact go_sb (hk c) ⟨rfl, rfl, rfl, rfl, rfl, rfl, rfl, rfl, rfl, trivial⟩ rfl rfl rfl
      by_cases hn : now = some s
      · refine go_st (cd := cd134) 1 rfl (go_ifT (by rw [hn]) ?_)
        refine go_v (cd := cd134) [75] 9 rfl ?_
        have e : nI (SPw W 0 s w h) * nI v - 0 = iZ ((SPw W 0 s w h : Int) * v) := by
          rw [nI_iZ, nI_iZ, iZ_mul, show (0 : Int32) = iZ 0 from rfl, iZ_sub, Int.sub_zero]
        rw [e]
        exact hfin _ c (by rw [if_pos hn, Int.sub_zero])
      · refine go_st (cd := cd134) 1 rfl (go_ifF (fun hx => hn ((oI_inj (fun u hu => by have := hnow u hu; omega) (by omega)).mp (show oI now = nI s from hx.symm))) ?_)
        refine go_v (cd := cd134) [] 9 rfl ?_
        refine go_callv (cd := cd134) rfl rfl rfl rfl rfl (lv3 rfl) rfl (cl_rlast (w := 2) (p := 0) (rwl_89 hW).1 rfl rfl (Or.inl ⟨rfl, rfl⟩) ⟨rfl, ?_⟩)
        refine go_v (cd := cd134) [75] 9 rfl ?_
        have e : nI (SPw W 0 s w h) * nI v - nI (lastA W.1 2 0) = iZ ((SPw W 0 s w h : Int) * v - lsW W) := by
          rw [nI_iZ, nI_iZ, iZ_mul, nI_iZ, iZ_sub]; rfl
        rw [e]
        exact hfin _ c (by rw [if_neg hn])
  · have he : stepD (mayW W.2.2.1 W.2.2.2 now (bt x) S.1 S.2) o ((spO (fun s => SPw W 0 s w h) o : Int) * v - (if now = o then (0 : Int) else lsW W)) st = st := by
      cases o with
      | none => rfl
      | some s => exact if_neg (by rw [show (mayW W.2.2.1 W.2.2.2 now (bt x) S.1 S.2) s = false from hm]; decide)
    rw [he] at hk
    refine go_st (cd := cd134) 1 rfl (go_ifT rfl ?_)
    refine go_v (cd := cd134) [9] 20 rfl ?_
    exact go_sb (hk c) ⟨rfl, rfl, rfl, rfl, rfl, rfl, rfl, rfl, rfl, trivial⟩ rfl rfl rfl
theorem dear_loop {v : Nat} (hW : rwl W F I) (hS : rsc S I) (hw : w < 4) (hh : h < 1000) (hv : v ≤ 9) (hnow : ∀ u, now = some u → u < W.2.2.2)
    (k : ∀ c, P (some (.int (oI ((desW (mayW W.2.2.1 W.2.2.2 now (bt x) S.1 S.2) (fun s => (SPw W 0 s w h : Int) * v - lsW W) now (desO (mayW W.2.2.1 W.2.2.2 now (bt x) S.1 S.2) (fun s => SPw W 0 s w h) v now) (W.2.2.2)).map (·.1))))) (aHp r rr (up1 I 89 c) J)) : ∀ m j c, j + m = W.2.2.2 →
    aTo L xs fv 111 (d + 4) cd134 (9, [(8, .int (nI j)), (7, .int (dI (desW (mayW W.2.2.1 W.2.2.2 now (bt x) S.1 S.2) (fun s => (SPw W 0 s w h : Int) * v - lsW W) now (desO (mayW W.2.2.1 W.2.2.2 now (bt x) S.1 S.2) (fun s => SPw W 0 s w h) v now) (j)))), (6, .int (oI ((desW (mayW W.2.2.1 W.2.2.2 now (bt x) S.1 S.2) (fun s => (SPw W 0 s w h : Int) * v - lsW W) now (desO (mayW W.2.2.1 W.2.2.2 now (bt x) S.1 S.2) (fun s => SPw W 0 s w h) v now) (j)).map (·.1)))), (0, .ref 77), (1, .int (oI now)), (2, .int (nI w)), (3, .int (nI h)), (4, .int x), (5, .int (nI v))], [], aHp r rr (up1 I 89 c) J) P
  | 0, j, c, hj => by
    have hc := hW.2.1
    have hj : j = W.2.2.2 := hj
    have u77 : up1 I 89 c 77 = I 77 := up1_o rfl
    refine go_v (cd := cd134) [] 9 rfl ?_
    rw [av0, u77, hW.2.2.1]
    refine go_st (cd := cd134) 1 rfl (go_ifT (by rw [hj]; exact nI_le (Nat.le_refl _) (by omega)) ?_)
    refine go_v (cd := cd134) [] 9 rfl ?_
    rw [hj]
    exact go_ireturn (cd := cd134) rfl (k c)
  | m + 1, j, c, hj => by
    have hc := hW.2.1
    have hjl : j < W.2.2.2 := by omega
    have u77 : ∀ c, up1 I 89 c 77 = I 77 := fun c => up1_o rfl
    refine go_v (cd := cd134) [] 9 rfl ?_
    rw [av0, u77, hW.2.2.1]
    refine go_st (cd := cd134) 1 rfl (go_ifF (nI_ge hjl (by omega)) ?_)
    refine go_v (cd := cd134) [] 9 rfl ?_
    refine go_st (cd := cd134) 1 rfl (go_ifT (nI_pos' (by omega)) ?_)
    refine go_v (cd := cd134) [29] 9 rfl ?_
    refine dear_step (o := some j) hW hS hw hh hv hnow (fun s hs => by cases hs; omega) (fun b m hb => ?_) (fun c => ?_) c
    · have := desW_ok (cnt := W.2.2.2) (fun s => wo_ok hW.1.2.1 hv s w h) (desO_ok hv hnow) (by omega) hb
      exact ⟨by omega, this.2⟩
    · have hd := desW_step (may := (mayW W.2.2.1 W.2.2.2 now (bt x) S.1 S.2)) (sp := fun s => SPw W 0 s w h) (v := v) (ls := lsW W) (now := now) j
      have hl := dear_loop hW hS hw hh hv hnow k m (j + 1) c (by omega)
      rw [hd, nI_succ] at hl
      exact hl
theorem cl_dear {v : Nat} {n' w' h' v' : Int32} (hW : rwl W F I) (hS : rsc S I) (hn' : n' = oI now) (hw' : w' = nI w) (hh' : h' = nI h) (hv' : v' = nI v) (hw : w < 4) (hh : h < 1000) (hv : v ≤ 9) (hnow : ∀ u, now = some u → u < W.2.2.2) (c : Nat → Int32)
    (k : ∀ c, P (some (.int (oI ((desW (mayW W.2.2.1 W.2.2.2 now (bt x) S.1 S.2) (fun s => (SPw W 0 s w h : Int) * v - lsW W) now (desO (mayW W.2.2.1 W.2.2.2 now (bt x) S.1 S.2) (fun s => SPw W 0 s w h) v now) (W.2.2.2)).map (·.1))))) (aHp r rr (up1 I 89 c) J)) : aCl L xs fv 111 (d + 5) 134 [.ref 77, .int n', .int w', .int h', .int x, .int v'] (aHp r rr (up1 I 89 c) J) P := by
  refine cl_of rfl (Nat.le_add_right _ _) ?_
  subst hn'; subst hw'; subst hh'; subst hv'
  have u77 : ∀ c, up1 I 89 c 77 = I 77 := fun c => up1_o rfl
  have hc := hW.2.1
  refine go_v (cd := cd134) [] 9 rfl ?_
  rw [av0, u77, hW.2.2.1]
  refine go_st (cd := cd134) 1 rfl (go_ifF (fun hl => absurd (Int32.le_trans (nI_pos' (n := W.2.2.2) (by omega)) hl) (by decide)) ?_)
  refine go_v (cd := cd134) [] 9 rfl ?_
  refine go_st (cd := cd134) 1 rfl (go_ifF (by decide) ?_)
  refine go_v (cd := cd134) [29] 9 rfl ?_
  refine go_sub (l' := [(8, .int (-1)), (7, .int (dI none)), (6, .int (oI ((none : Option (Nat × Int)).map (·.1)))), (0, .ref 77), (1, .int (oI now)), (2, .int (nI w)), (3, .int (nI h)), (4, .int x), (5, .int (nI v))]) ⟨rfl, rfl, rfl, rfl, rfl, rfl, rfl, rfl, rfl, trivial⟩ rfl rfl rfl ?_
  refine dear_step (o := now) (st := none) hW hS hw hh hv hnow hnow (fun b m hb => by cases hb) (fun c => ?_) c
  have hl := dear_loop (L := L) (xs := xs) (fv := fv) (d := d) hW hS hw hh hv hnow k W.2.2.2 0 c (by omega)
  have hd : (desW (mayW W.2.2.1 W.2.2.2 now (bt x) S.1 S.2) (fun s => (SPw W 0 s w h : Int) * v - lsW W) now (desO (mayW W.2.2.1 W.2.2.2 now (bt x) S.1 S.2) (fun s => SPw W 0 s w h) v now) (0)) = stepD (mayW W.2.2.1 W.2.2.2 now (bt x) S.1 S.2) now ((spO (fun s => SPw W 0 s w h) now : Int) * v - (if now = now then (0 : Int) else lsW W)) none := by
    show desO (mayW W.2.2.1 W.2.2.2 now (bt x) S.1 S.2) (fun s => SPw W 0 s w h) v now = _
    rw [if_pos rfl, Int.sub_zero]
    cases now with
    | none => rfl
    | some u => rfl
  rw [hd] at hl
  rw [show (-1 : Int32) + 1 = nI 0 from by decide]
  exact hl
end RP
