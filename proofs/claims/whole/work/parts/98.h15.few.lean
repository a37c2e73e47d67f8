/-! few: the pair -/
section FP
variable {L : Nat} {xs : Nat → Int32} {fv : Value} {d : Nat} {r : Nat} {rr : Option Nat} {I : Nat → Nat → Int32} {J : Nat → Nat → Int64} {P : Option Value → aH → Prop}
variable {A : Nat → List Cl} {W : Wd} {S : Sc}
theorem us_loop {h w : Nat} {now : Option Nat} {fit : Nat → Bool} (hW : wld A W I) (hS : scn W S h now w fit 1 I) (K : P (some (.int (nI (uN (mayW W.2.2.1 W.2.2.2 now fit S.1 S.2) W.2.2.2)))) (aHp r rr I J)) : ∀ m j, j + m = W.2.2.2 → aTo L xs fv 111 (d + 1) cd77 (4, [(2, .int (nI j)), (1, .int (nI (uN (mayW W.2.2.1 W.2.2.2 now fit S.1 S.2) j))), (0, .ref 0)], [], aHp r rr I J) P
  | 0, j, hj => by
    have hj : j = W.2.2.2 := hj
    subst hj
    have h6 := hW.1
    refine go_v (cd := cd77) [] 20 rfl ?_
    refine go_st (cd := cd77) 1 rfl (go_ifT (show I 1 5 ≤ nI W.2.2.2 from by rw [hS.2.2.2.2.1]; exact nI_le (Nat.le_refl _) (by omega)) ?_)
    refine go_v (cd := cd77) [] 20 rfl ?_
    exact go_ireturn (cd := cd77) rfl K
  | m + 1, j, hj => by
    have h6 := hW.1
    have ih := us_loop hW hS K m (j + 1) (by omega)
    obtain ⟨c1, c2, c3, c4, c5, c6, c7, c8, c9, cA, cB⟩ := hS
    have hq : mayQ (I 8) (I 1 5) (nI j) (I 1 0) (I 1 6) (I 1 7) (I 1 4) ↔ mayW W.2.2.1 W.2.2.2 now fit S.1 S.2 j = true := by
      have h := mayQ_W (nd := I 8) (ndN := W.2.2.1) (cnt := W.2.2.2) (many := S.2) (now := now) (o := some j) (x := I 1 6) (y := I 1 7) (fun s hs => ⟨(hW.2.2.1 s hs).2.2.2.1, (hW.2.2.1 s hs).2.2.2.2.2⟩) cA h6 cB (fun u hu => by cases hu; omega)
      rw [c6, c7] at h
      rw [c5, c1, c4]
      exact h
    refine go_v (cd := cd77) [] 20 rfl ?_
    refine go_st (cd := cd77) 1 rfl (go_ifF (show ¬ I 1 5 ≤ nI j from by rw [c5]; exact nI_ge (by omega) (by omega)) ?_)
    refine go_v (cd := cd77) [] 20 rfl ?_
    refine go_callv (cd := cd77) rfl rfl rfl rfl rfl (lv3 rfl) rfl (cl_may1 (by rw [c5]; exact nI_le (b := 6) h6 (by decide)) (fun hm => ⟨rfl, ?_⟩) (fun hm => ⟨rfl, ?_⟩))
    · have hm := hq.mp hm
      refine go_st (cd := cd77) 1 rfl (go_ifF (by decide) ?_)
      refine go_v (cd := cd77) [32] 20 rfl ?_
      rw [(st_add (by omega) (uN_lt _ j)).1]
      refine go_v (cd := cd77) [4] 20 rfl ?_
      refine go_sb ih ⟨by rw [nI_succ j]; rfl, ?_, rfl, trivial⟩ rfl rfl rfl
      rw [show uN (mayW W.2.2.1 W.2.2.2 now fit S.1 S.2) (j + 1) = uN (mayW W.2.2.1 W.2.2.2 now fit S.1 S.2) j + 2 ^ j from if_pos hm]
      rfl
    · have hm := fun h => hm (hq.mpr h)
      refine go_st (cd := cd77) 1 rfl (go_ifT rfl ?_)
      refine go_v (cd := cd77) [4] 20 rfl ?_
      refine go_sb ih ⟨by rw [nI_succ j]; rfl, ?_, rfl, trivial⟩ rfl rfl rfl
      rw [show uN (mayW W.2.2.1 W.2.2.2 now fit S.1 S.2) (j + 1) = uN (mayW W.2.2.1 W.2.2.2 now fit S.1 S.2) j from if_neg hm]
      rfl
theorem cl_useful {h w : Nat} {now : Option Nat} {fit : Nat → Bool} (hW : wld A W I) (hS : scn W S h now w fit 1 I) (K : P (some (.int (nI (uN (mayW W.2.2.1 W.2.2.2 now fit S.1 S.2) W.2.2.2)))) (aHp r rr I J)) : aCl L xs fv 111 (d + 2) 77 [.ref 0] (aHp r rr I J) P := by
  refine cl_of rfl (Nat.le_add_right _ _) ?_
  refine go_v (cd := cd77) [4] 20 rfl ?_
  exact go_sb (us_loop (d := d) hW hS K W.2.2.2 0 (by omega)) ⟨rfl, rfl, rfl, trivial⟩ rfl rfl rfl
theorem bt_m1 {i : Nat} (h : i < 32) : bt (-1) i = true := by
  have : ∀ i : Fin 32, bt (-1) i.val = true := by decide
  exact this ⟨i, h⟩
/-- sets of sails that may, and all sets: the best is the same -/
theorem few_same {R : Ru} {n h w m k : Nat} {now : Option Nat} {x ab : Int32} {f : Nat → Int} (hfd : ∀ B, f B = VV W R (bt (nI B), m) n h (upB now B) w (bt x)) (hcnt : W.2.2.2 ≤ 6) (hnow : ∀ u, now = some u → u < W.2.2.2 ∧ bt x u = true ∧ bt ab u = true) : feB (fewW f pcN (okS (uN (bt ab) 6) k) (2 ^ W.2.2.2)) = nI (feN (fewW f pcN (okS (uN (mayW W.2.2.1 W.2.2.2 now (bt x) (bt ab) m) W.2.2.2) k) (uN (mayW W.2.2.1 W.2.2.2 now (bt x) (bt ab) m) W.2.2.2 + 1))) := by
  have hp : ∀ s, mayW W.2.2.1 W.2.2.2 now (bt x) (bt ab) m s = true ↔ s < W.2.2.2 ∧ bt x s = true ∧ bt ab s = true ∧ (now = some s ∨ W.2.2.1 s ≤ m) := fun s => by
    unfold mayW
    simp only [Bool.and_eq_true, Bool.or_eq_true, decide_eq_true_eq]
  generalize hpd : mayW W.2.2.1 W.2.2.2 now (bt x) (bt ab) m = p at *
  have hU : uN p W.2.2.2 < 64 := uN_64 p hcnt
  have hA : uN (bt ab) 6 < 64 := uN_64 (bt ab) (Nat.le_refl _)
  have hUb : ∀ s, s < 6 → bt (nI (uN p W.2.2.2)) s = (decide (s < W.2.2.2) && p s) := fun s hs => uN_bit p hs W.2.2.2 hcnt
  have hAb : ∀ s, s < 6 → bt (nI (uN (bt ab) 6)) s = bt ab s := fun s hs => by
    rw [uN_bit (bt ab) hs 6 (Nat.le_refl _), decide_eq_true hs, Bool.true_and]
  have hUA : uN p W.2.2.2 &&& uN (bt ab) 6 = uN p W.2.2.2 := by
    refine (st_any hU ab).mp ?_
    apply Int32.toBitVec_inj.mp
    apply BitVec.eq_of_getLsbD_eq
    intro i hi
    show bt (nI (uN p W.2.2.2) &&& (ab ^^^ -1)) i = bt 0 i
    rw [bt_and, bt_xor, bt_m1 hi, show bt 0 i = false from BitVec.getLsbD_zero]
    by_cases h6 : i < 6
    · rw [hUb i h6]
      by_cases hpi : p i = true
      · rw [((hp i).mp hpi).2.2.1]; simp
      · simp at hpi; rw [hpi]; simp
    · rw [st_bit hU (by omega)]; rfl
  generalize hUd : uN p W.2.2.2 = U at *
  generalize hAd : uN (bt ab) 6 = A' at *
  have hlt : ∀ {B}, B &&& A' = B → B < 64 := fun {B} h => by
    have : B &&& A' ≤ A' := Nat.and_le_right
    omega
  have hok : ∀ {V B}, okS V k B = true ↔ B &&& V = B ∧ pcN B ≤ k := fun {V B} => by
    unfold okS; rw [Bool.and_eq_true, decide_eq_true_eq, decide_eq_true_eq]
  have hfB : ∀ B, B &&& A' = B → f (B &&& U) = f B := fun B hB => by
    have hB64 := hlt hB
    have hon : ∀ s, bt (nI (B &&& U)) s = (bt (nI B) s && bt (nI U) s) := fun s => by rw [← st_and hB64 hU, bt_and]
    have hBa : ∀ s, s < 6 → bt (nI B) s = true → bt ab s = true := fun s hs h => by
      have h1 : bt (nI B &&& nI A') s = bt (nI B) s := by rw [st_and hB64 hA, hB]
      rw [bt_and, h, Bool.true_and, hAb s hs] at h1
      exact h1
    have hup : upB now (B &&& U) = upB now B := by
      unfold upB
      cases hn : now with
      | none => rfl
      | some u =>
        dsimp only
        obtain ⟨u1, u2, u3⟩ := hnow u hn
        have hpu : p u = true := (hp u).mpr ⟨u1, u2, u3, Or.inl hn⟩
        rw [hon, hUb u (by omega), hpu, decide_eq_true u1]
        simp
    rw [hfd, hfd, hup]
    refine (VV_on (U := fun s => p s = true) (fit0 := bt x) (fun s now' fit' hn' hf' => ?_) (fun s now' fit' hn' hf' hm => ?_) n h (upB now B) w (bt x) (fun s hs => ?_) (fun s hs => hs)).symm
    · unfold mayW
      by_cases hs : s < W.2.2.2
      · rw [hon, hUb s (by omega), decide_eq_true hs, Bool.true_and, Bool.true_and]
        by_cases hps : p s = true
        · rw [hps]; simp only [Bool.and_true]
        · have hps' : p s = false := by simpa using hps
          rw [hps']
          simp only [Bool.and_false, Bool.false_and]
          refine Bool.eq_false_iff.mpr (fun hc => hps ?_)
          rw [Bool.and_eq_true, Bool.and_eq_true, Bool.or_eq_true, decide_eq_true_eq, decide_eq_true_eq] at hc
          obtain ⟨q1, q2, q3⟩ := hc
          rcases q3 with q3 | q3
          · exact hn' s q3
          · exact (hp s).mpr ⟨hs, hf' s q1, hBa s (by omega) q2, Or.inr q3⟩
      · rw [decide_eq_false hs, Bool.false_and, Bool.false_and]
    · unfold mayW at hm
      simp only [Bool.and_eq_true, Bool.or_eq_true, decide_eq_true_eq] at hm
      have h1 := hm.2.2.1
      rw [hon, hUb s (by omega), Bool.and_eq_true, Bool.and_eq_true] at h1
      exact h1.2.2
    · unfold upB at hs
      cases hn : now with
      | none => rw [hn] at hs; cases hs
      | some u =>
        rw [hn] at hs
        dsimp only at hs
        obtain ⟨u1, u2, u3⟩ := hnow u hn
        split at hs
        · have e := Option.some.inj hs
          subst e
          exact (hp u).mpr ⟨u1, u2, u3, Or.inl hn⟩
        · cases hs
  have hsame : fewW f pcN (okS A' k) (2 ^ W.2.2.2) = fewW f pcN (okS U k) (2 ^ W.2.2.2) := few_eq (fun B hB => by
      obtain ⟨b1, b2⟩ := hok.mp hB
      refine hok.mpr ⟨?_, b2⟩
      rw [← b1, Nat.and_assoc, hUA]) (fun B hB hC => by
      obtain ⟨b1, b2⟩ := hok.mp hB
      have hne : B &&& U ≠ B := fun h => by rw [hok.mpr ⟨h, b2⟩] at hC; cases hC
      obtain ⟨c1, c2⟩ := st_pc (hlt b1) hU hne
      refine ⟨B &&& U, c1, hok.mpr ⟨?_, by omega⟩, hfB B b1, c2⟩
      rw [Nat.and_assoc, hUA]) _
  have hcut : fewW f pcN (okS U k) (2 ^ W.2.2.2) = fewW f pcN (okS U k) (U + 1) := few_cut (fun B hB => by
      refine okS_f (Or.inl (fun h => ?_))
      have : B &&& U ≤ U := Nat.and_le_right
      omega) _ (by have := uN_lt p W.2.2.2; rw [hUd] at this; omega)
  rw [hsame, hcut]
  obtain ⟨q, hq⟩ := few_some (f := f) (pc := pcN) (ok := okS U k) (N := U + 1) (by unfold okS; rw [Nat.zero_and]; rfl) (by omega)
  rw [hq]
  rfl
theorem rf_few0 {w k n v : Int32} (hG : iG r I) (K : P (some (.int v)) (aHp r rr I J)) (h : (¬ (0 ≤ w ∧ w < nI r) ∧ v = -1) ∨ ((0 ≤ w ∧ w < nI r) ∧ ¬ ((0 ≤ k ∧ k ≤ 6) ∧ 1 ≤ n ∧ n ≤ 3) ∧ v = -2)) : aCl L xs fv 111 (d + 9) 149 [.ref 77, .int w, .int k, .int n] (aHp r rr I J) P := by
  refine cl_of rfl (Nat.le_add_right _ _) ?_
  refine go_v (cd := cd149) [] 20 rfl ?_
  by_cases hw : 0 ≤ w ∧ w < nI r
  case neg =>
    rcases h with ⟨-, rfl⟩ | ⟨h, -⟩
    · refine go_callv (cd := cd149) rfl rfl rfl rfl rfl (lv3 rfl) rfl (cl_isRuleF hG hw ⟨rfl, ?_⟩)
      refine go_st (cd := cd149) 1 rfl (go_ifT rfl ?_)
      refine go_v (cd := cd149) [] 20 rfl ?_
      exact go_ireturn (cd := cd149) rfl K
    · exact absurd h hw
  obtain ⟨-, h2, h3⟩ := h.resolve_left (fun h => h.1 hw)
  subst h3
  refine go_callv (cd := cd149) rfl rfl rfl rfl rfl (lv3 rfl) rfl (cl_isRule hG (fun k hk he => ⟨rfl, ?_⟩) (fun hx => absurd hw hx))
  refine go_st (cd := cd149) 1 rfl (go_ifF (by decide) ?_)
  refine go_v (cd := cd149) [] 20 rfl ?_
  refine go_callv (cd := cd149) rfl rfl rfl rfl rfl (lv3 rfl) rfl (cl_in (fun hk6 => ⟨rfl, ?_⟩) (fun hk6 => ⟨rfl, ?_⟩))
  · refine go_st (cd := cd149) 1 rfl (go_ifF (by decide) ?_)
    refine go_v (cd := cd149) [] 20 rfl ?_
    refine go_callv (cd := cd149) rfl rfl rfl rfl rfl (lv3 rfl) rfl (cl_in (fun hn3 => absurd ⟨hk6, hn3⟩ h2) (fun hn3 => ⟨rfl, ?_⟩))
    refine go_st (cd := cd149) 1 rfl (go_ifT rfl ?_)
    refine go_v (cd := cd149) [] 20 rfl ?_
    exact go_ireturn (cd := cd149) rfl K
  · refine go_st (cd := cd149) 1 rfl (go_ifT rfl ?_)
    refine go_v (cd := cd149) [] 20 rfl ?_
    exact go_ireturn (cd := cd149) rfl K
end FP
