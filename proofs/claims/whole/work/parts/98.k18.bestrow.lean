/-! lines: the reference's best row -/
section LZ
variable {L : Nat} {xs : Nat → Int32} {fv : Value} {d : Nat} {r : Nat} {rr : Option Nat} {I : Nat → Nat → Int32} {J : Nat → Nat → Int64} {P : Option Value → aH → Prop}
variable {W : Wd} {F : Nat} {S : Sc}
def soI (c : Nat) : Int32 := if c = 0 then 0 else 1
theorem ro_le {N c : Nat} (hN : 0 < N) (hN7 : N ≤ 7) : ∀ y, y < 4 → roN N c y ≤ 6 := fun y _ => by
  have := Nat.mod_lt (lfN N c (3 - y)) hN
  show lfN N c (3 - y) % N ≤ 6
  omega
set_option maxHeartbeats 4000000 in
theorem ln_rf {n h w j N M : Nat} {now : Option Nat} {x : Int32} {I0 : Nat → Nat → Int32} {J0 : Nat → Nat → Int64} {C : Nat → Int} {T : Nat → Nat → Nat → Int} {f : Nat → Int} (hN : N = W.2.2.2 + 1) (hN7 : N ≤ 7) (hM : M = N * N * N * N) (hM4 : M ≤ 2401) (hfd : ∀ c, f c = lnV C T w (roN N c)) (hV : ∀ (v : Nat) (p : Nat → Nat), VV W (5, v, fun y => dO (p y), fun _ => none) S n h now w (bt x) = lnV C T w p) (hf : ∀ p, -1000000000000 ≤ lnV C T w p ∧ lnV C T w p ≤ 1000000000000) (hn1 : n ≤ 1) (hh : h ≤ 200) (hw : w < 4) (hj : j < 4) (hnow : ∀ u, now = some u → u < W.2.2.2)
    (K : ∀ I J, lrI W F S h w now x I0 I → (∀ j, j ≠ 77 → j ≠ 102 → J j = J0 j) → P (some (.int (lnA (roN N (edW f M).1 j)))) (aHp r rr I J)) :
    ∀ m c I J, c + m = M → lrI W F S h w now x I0 I → (∀ j, j ≠ 77 → j ≠ 102 → J j = J0 j) → (c ≠ 0 → ∀ y, y < 4 → I 103 y = dgI (roN N (edW f c).1 y)) → aTo L xs fv 111 (d + 9) cd152 (72, [(7, .int (nI c)), (5, .long (lZ (1000 * (edW f c).2))), (4, .int (soI c)), (3, .int (nI M)), (0, .ref 77), (1, .int (nI (n + 1))), (2, .int (nI j))], [], aHp r rr I J) P
  | 0, c, I, J, hc, hE, hJ, hb => by
    have hc : c = M := hc
    rw [hc] at hb ⊢
    have hM0 : M ≠ 0 := by
      have : 0 < N * N * N * N := Nat.mul_pos (Nat.mul_pos (Nat.mul_pos (by omega) (by omega)) (by omega)) (by omega)
      omega
    have hb := hb hM0 j hj
    have h6 := ro_le (N := N) (c := (edW f M).1) (by omega) hN7 j hj
    have hK := K I J hE hJ
    generalize roN N (edW f M).1 j = e at hb h6 hK
    obtain ⟨m1, m2⟩ := dg_m1 (e := e) (by omega)
    refine go_v (cd := cd152) [] 20 rfl ?_
    refine go_st (cd := cd152) 1 rfl (go_ifT (nI_le (Nat.le_refl _) (by omega)) ?_)
    refine go_v (cd := cd152) [] 20 rfl ?_
    refine go_iald (cd := cd152) rfl (nI_vin (j := j) (n := 4) hj (by decide)) (lv3 rfl) rfl ?_
    rw [nI_clamp (show j < 2 ^ 31 by omega), hb]
    unfold lnA at hK
    by_cases he : e = 0
    · rw [if_pos he] at hK
      refine go_st (cd := cd152) 1 rfl (go_ifF (by rw [he]; decide) ?_)
      refine go_v (cd := cd152) [229] 20 rfl ?_
      exact go_ireturn (cd := cd152) rfl hK
    · rw [if_neg he] at hK
      refine go_st (cd := cd152) 1 rfl (go_ifT (Int32.not_lt.mp (fun h => he (m2.mp h))) ?_)
      refine go_v (cd := cd152) [] 20 rfl ?_
      refine go_iald (cd := cd152) rfl (nI_vin (j := j) (n := 4) hj (by decide)) (lv3 rfl) rfl ?_
      rw [nI_clamp (show j < 2 ^ 31 by omega), hb]
      exact go_ireturn (cd := cd152) rfl hK
  | m + 1, c, I, J, hc, hE, hJ, hb => by
    have ih := fun I J => ln_rf hN hN7 hM hM4 hfd hV hf hn1 hh hw hj hnow K m (c + 1) I J (by omega)
    have hes : edW f (c + 1) = if c = 0 ∨ (edW f c).2 < f c then (c, f c) else edW f c := rfl
    refine go_v (cd := cd152) [] 20 rfl ?_
    refine go_st (cd := cd152) 1 rfl (go_ifF (nI_ge (by omega) (by omega)) ?_)
    refine go_v (cd := cd152) [85] 20 rfl ?_
    refine go_sb (rl_dig (N := N) (code := c) (h := h) (w := w) (now := now) (x := x) (I0 := I0) hN hN7 (by omega) (I 103) (fun I2 hE2 ha2 h32 => ?_) 4 I (Nat.le_refl _) hE (fun y hy h => absurd h (by omega)) rfl) ⟨rfl, rfl, rfl, rfl, rfl, rfl, rfl, rfl, rfl, trivial⟩ rfl rfl rfl
    obtain ⟨e1, e2, e3, e4, e5, e6, e7, e8, e9, eA, eB⟩ := id hE2
    obtain ⟨v, hv9, hv, -⟩ := nI_ex (s := I2 92 10) (n := 10) 10 rfl e4.1 (by have := e4.2; grind)
    have hrl := rrl_ln (I := I2) (p := roN N c) e3 hv (by omega) ha2 (ro_le (by omega) hN7)
    have hI103 : c ≠ 0 → ∀ y, y < 4 → I2 103 y = dgI (roN N (edW f c).1 y) := fun h y hy => by rw [h32]; exact hb h y hy
    refine go_v (cd := cd152) [] 20 rfl ?_
    refine go_callv (cd := cd152) rfl rfl rfl rfl rfl (lv3 rfl) rfl (cl_goR (d := d + 1) (n := n) (due := 0) (x := x) e1 e2 hrl e5 hh e6 e9 (by omega) (by omega) hw hnow rfl rfl e7 e8 rfl (fun I3 J3 hf3 hJ3 k44 k45 k46 k47 => ⟨rfl, ?_⟩))
    have hE3 := lrI_fr hE2 hf3
    have hJ4 : ∀ j, j ≠ 77 → j ≠ 102 → J3 j = J0 j := fun j a b => (hJ3 j a b).trans (hJ j a b)
    have k44' : J3 77 44 = lZ (1000 * f c) := by rw [hfd c, ← hV v (roN N c)]; exact k44
    have ha3 : ∀ y, y < 4 → I3 93 (40 + y) = dgI (roN N c y) := fun y hy => by rw [hf3.1 93 (by decide) (by decide) (by decide)]; exact ha2 y hy
    have hb3 : c ≠ 0 → ∀ y, y < 4 → I3 103 y = dgI (roN N (edW f c).1 y) := fun h y hy => by rw [hf3.1 103 (by decide) (by decide) (by decide)]; exact hI103 h y hy
    have hfv : -1000000000000 ≤ f c ∧ f c ≤ 1000000000000 := by rw [hfd]; exact hf _
    have hev := edW_abs (f := f) (fun v => by rw [hfd]; exact hf _) c
    have h162 : (c = 0 ∨ (edW f c).2 < f c) → aTo L xs fv 111 (d + 9) cd152 (162, [(7, .int (nI c)), (5, .long (lZ (1000 * (edW f c).2))), (4, .int (soI c)), (3, .int (nI M)), (0, .ref 77), (1, .int (nI (n + 1))), (2, .int (nI j))], [], aHp r rr I3 J3) P := fun ht => by
      rw [if_pos ht] at hes
      refine go_v (cd := cd152) [169] 20 rfl ?_
      show aTo L xs fv 111 _ cd152 (169, _, [.long (J3 77 44)], aHp r rr I3 J3) _
      rw [k44']
      refine go_v (cd := cd152) [174] 20 rfl ?_
      refine go_sb (rl_cpy (n := n) (h := h) (w := w) (j := j) (code := c) (now := now) (x := x) (I0 := I0) (p := roN N c) (fun I4 hE4 hb4 => ?_) 4 0 I3 rfl hE3 ha3 (fun y hy => absurd hy (by omega))) (l' := [(9, .int (nI 0)), (7, .int (nI c)), (5, .long (lZ (1000 * f c))), (4, .int 1), (3, .int (nI M)), (0, .ref 77), (1, .int (nI (n + 1))), (2, .int (nI j))]) ⟨rfl, rfl, rfl, rfl, rfl, rfl, rfl, rfl, trivial⟩ rfl rfl rfl
      have ih := ih I4 J3 hE4 hJ4 (fun _ y hy => by rw [hes]; exact hb4 y hy)
      rw [hes] at ih
      refine go_v (cd := cd152) [72] 20 rfl ?_
      exact go_sb ih ⟨by rw [nI_succ c]; rfl, rfl, by unfold soI; rw [if_neg (Nat.succ_ne_zero c)]; rfl, rfl, rfl, rfl, rfl, trivial⟩ rfl rfl rfl
    refine go_v (cd := cd152) [] 20 rfl ?_
    by_cases hc0 : c = 0
    · refine go_st (cd := cd152) 1 rfl (go_ifT (by unfold soI; rw [if_pos hc0]) ?_)
      exact go_sb (h162 (Or.inl hc0)) ⟨rfl, rfl, rfl, rfl, rfl, rfl, rfl, trivial⟩ rfl rfl rfl
    refine go_st (cd := cd152) 1 rfl (go_ifF (by unfold soI; rw [if_neg hc0]; decide) ?_)
    refine go_v (cd := cd152) [153] 20 rfl ?_
    show aTo L xs fv 111 _ cd152 (153, _, [.long (J3 77 44)], aHp r rr I3 J3) _
    rw [k44']
    refine go_v (cd := cd152) [] 20 rfl ?_
    have hl := (lgZ (a := 1000 * f c) (b := 1000 * (edW f c).2) (by omega) (by omega) (by omega) (by omega)).2
    by_cases hgt : (edW f c).2 < f c
    · refine go_st (cd := cd152) 1 rfl (go_ifT (hl.mpr (by omega)) ?_)
      exact go_sb (h162 (Or.inr hgt)) ⟨rfl, rfl, rfl, rfl, rfl, rfl, rfl, trivial⟩ rfl rfl rfl
    · refine go_st (cd := cd152) 1 rfl (go_ifF (fun h => hgt (by have := hl.mp h; omega)) ?_)
      rw [if_neg (show ¬ (c = 0 ∨ (edW f c).2 < f c) from fun h => h.elim hc0 hgt)] at hes
      have ih := ih I3 J3 hE3 hJ4 (fun _ y hy => by rw [hes]; exact hb3 hc0 y hy)
      rw [hes] at ih
      refine go_v (cd := cd152) [72] 20 rfl ?_
      exact go_sb ih ⟨by rw [nI_succ c]; rfl, rfl, by unfold soI; rw [if_neg (Nat.succ_ne_zero c), if_neg hc0]; rfl, rfl, rfl, rfl, rfl, trivial⟩ rfl rfl rfl
end LZ
