/-! the reference goes all ways -/
def RV (W : Wd) (R : Ru) (S : Sc) : Nat → Nat → Option Nat → Nat → (Nat → Bool) → Int
  | 0, _, _, _, _ => 0
  | n + 1, h, now, w, fit => mlW W h now w (pkW W R S h now w fit) * 1000 ^ (n + 1) + sumW (fun j => (chW W w (trW W h w (pkW W R S h now w fit)) j : Int) * RV W R S n (h + 1) (nxU (pkW W R S h now w fit) j) (j % 4) (nxF (pkW W R S h now w fit) j fit)) 8
def RS (W : Wd) (R : Ru) (S : Sc) : Nat → Nat → Option Nat → Nat → (Nat → Bool) → Int → Int
  | 0, _, _, _, _, m => if m ≤ 0 then 1 else 0
  | n + 1, h, now, w, fit, m => sumW (fun j => (chW W w (trW W h w (pkW W R S h now w fit)) j : Int) * RS W R S n (h + 1) (nxU (pkW W R S h now w fit) j) (j % 4) (nxF (pkW W R S h now w fit) j fit) (m - mlW W h now w (pkW W R S h now w fit))) 8
def RWo (W : Wd) (R : Ru) (S : Sc) : Nat → Nat → Option Nat → Nat → (Nat → Bool) → Int
  | 0, _, _, _, _ => 0
  | n + 1, h, now, w, fit => mlW W h now w (pkW W R S h now w fit) + (minW (chW W w (trW W h w (pkW W R S h now w fit))) (fun j => RWo W R S n (h + 1) (nxU (pkW W R S h now w fit) j) (j % 4) (nxF (pkW W R S h now w fit) j fit)) 8).getD 0
theorem sumW_scale {ch : Nat → Nat} {f : Nat → Int} {k : Int} : ∀ n, sumW (fun j => (ch j : Int) * (k * f j)) n = k * sumW (fun j => (ch j : Int) * f j) n
  | 0 => by simp [sumW]
  | n + 1 => by
    show sumW (fun j => (ch j : Int) * (k * f j)) n + (ch n : Int) * (k * f n) = k * (sumW (fun j => (ch j : Int) * f j) n + (ch n : Int) * f n)
    rw [sumW_scale n, Int.mul_add, ← Int.mul_assoc, ← Int.mul_assoc, Int.mul_comm (ch n : Int) k]
theorem sumW_const {ch : Nat → Nat} {k : Int} : ∀ n, sumW (fun j => (ch j : Int) * k) n = k * sumW (fun j => (ch j : Int)) n
  | 0 => by simp [sumW]
  | n + 1 => by
    show sumW (fun j => (ch j : Int) * k) n + (ch n : Int) * k = k * (sumW (fun j => (ch j : Int)) n + (ch n : Int))
    rw [sumW_const n, Int.mul_add, Int.mul_comm (ch n : Int) k]
theorem RV_VV {W : Wd} {R : Ru} {S : Sc} : ∀ (n h : Nat) (now : Option Nat) (w : Nat) (fit : Nat → Bool), RV W R S (n + 1) h now w fit = 1000 * VV W R S n h now w fit
  | 0, h, now, w, fit => by
    unfold RV VV
    have e : (fun j => (chW W w (trW W h w (pkW W R S h now w fit)) j : Int) * RV W R S 0 (h + 1) (nxU (pkW W R S h now w fit) j) (j % 4) (nxF (pkW W R S h now w fit) j fit)) = fun j => (chW W w (trW W h w (pkW W R S h now w fit)) j : Int) * 0 := by
      funext j; rfl
    rw [e, sumW_const, Int.zero_mul, Int.add_zero]
    show _ * (1000 : Int) ^ 1 = _
    rw [Int.pow_succ, Int.pow_zero, Int.one_mul, Int.mul_comm]
  | n + 1, h, now, w, fit => by
    have e : (fun j => (chW W w (trW W h w (pkW W R S h now w fit)) j : Int) * RV W R S (n + 1) (h + 1) (nxU (pkW W R S h now w fit) j) (j % 4) (nxF (pkW W R S h now w fit) j fit)) = fun j => (chW W w (trW W h w (pkW W R S h now w fit)) j : Int) * (1000 * VV W R S n (h + 1) (nxU (pkW W R S h now w fit) j) (j % 4) (nxF (pkW W R S h now w fit) j fit)) := by
      funext j; rw [RV_VV n]
    show mlW W h now w (pkW W R S h now w fit) * 1000 ^ (n + 2) + sumW (fun j => (chW W w (trW W h w (pkW W R S h now w fit)) j : Int) * RV W R S (n + 1) (h + 1) (nxU (pkW W R S h now w fit) j) (j % 4) (nxF (pkW W R S h now w fit) j fit)) 8 = 1000 * (mlW W h now w (pkW W R S h now w fit) * 1000 ^ (n + 1) + sumW (fun j => (chW W w (trW W h w (pkW W R S h now w fit)) j : Int) * VV W R S n (h + 1) (nxU (pkW W R S h now w fit) j) (j % 4) (nxF (pkW W R S h now w fit) j fit)) 8)
    rw [e, sumW_scale, Int.mul_add, Int.pow_succ (1000 : Int) (n + 1)]
    generalize (1000 : Int) ^ (n + 1) = y
    congr 1
    rw [Int.mul_comm y 1000, ← Int.mul_assoc, Int.mul_comm _ 1000, Int.mul_assoc]
theorem RS_SV {W : Wd} {R : Ru} {S : Sc} : ∀ (n h : Nat) (now : Option Nat) (w : Nat) (fit : Nat → Bool) (m : Int), w < 4 → RS W R S (n + 1) h now w fit m = 1000 * SV W R S n h now w fit m
  | 0, h, now, w, fit, m, hw => by
    have e : (fun j => (chW W w (trW W h w (pkW W R S h now w fit)) j : Int) * RS W R S 0 (h + 1) (nxU (pkW W R S h now w fit) j) (j % 4) (nxF (pkW W R S h now w fit) j fit) (m - mlW W h now w (pkW W R S h now w fit))) = fun j => (chW W w (trW W h w (pkW W R S h now w fit)) j : Int) * SV W R S 0 h now w fit m := by
      funext j
      congr 1
      show (if m - mlW W h now w (pkW W R S h now w fit) ≤ 0 then (1 : Int) else 0) = if m ≤ mlW W h now w (pkW W R S h now w fit) then 1 else 0
      by_cases hc : m ≤ mlW W h now w (pkW W R S h now w fit)
      · rw [if_pos hc, if_pos (by omega)]
      · rw [if_neg hc, if_neg (by omega)]
    show sumW (fun j => (chW W w (trW W h w (pkW W R S h now w fit)) j : Int) * RS W R S 0 (h + 1) (nxU (pkW W R S h now w fit) j) (j % 4) (nxF (pkW W R S h now w fit) j fit) (m - mlW W h now w (pkW W R S h now w fit))) 8 = _
    rw [e, sumW_const, ch_sum W hw (trW_le _ _ _ _), Int.mul_comm]
  | n + 1, h, now, w, fit, m, hw => by
    have e : (fun j => (chW W w (trW W h w (pkW W R S h now w fit)) j : Int) * RS W R S (n + 1) (h + 1) (nxU (pkW W R S h now w fit) j) (j % 4) (nxF (pkW W R S h now w fit) j fit) (m - mlW W h now w (pkW W R S h now w fit))) = fun j => (chW W w (trW W h w (pkW W R S h now w fit)) j : Int) * (1000 * SV W R S n (h + 1) (nxU (pkW W R S h now w fit) j) (j % 4) (nxF (pkW W R S h now w fit) j fit) (m - mlW W h now w (pkW W R S h now w fit))) := by
      funext j; rw [RS_SV n _ _ _ _ _ (by omega)]
    show sumW (fun j => (chW W w (trW W h w (pkW W R S h now w fit)) j : Int) * RS W R S (n + 1) (h + 1) (nxU (pkW W R S h now w fit) j) (j % 4) (nxF (pkW W R S h now w fit) j fit) (m - mlW W h now w (pkW W R S h now w fit))) 8 = 1000 * sumW (fun j => (chW W w (trW W h w (pkW W R S h now w fit)) j : Int) * SV W R S n (h + 1) (nxU (pkW W R S h now w fit) j) (j % 4) (nxF (pkW W R S h now w fit) j fit) (m - mlW W h now w (pkW W R S h now w fit))) 8
    rw [e, sumW_scale]
theorem minW_0 {ch : Nat → Nat} : ∀ n x, minW ch (fun _ => 0) n = some x → x = 0
  | 0, x, h => by cases h
  | n + 1, x, h => by
    unfold minW at h
    by_cases hc : ch n = 0
    · rw [if_pos hc] at h; exact minW_0 n x h
    · rw [if_neg hc] at h
      cases hm : minW ch (fun _ => 0) n with
      | none => rw [hm] at h; cases h; rfl
      | some y =>
        rw [hm] at h
        have := minW_0 n y hm
        subst this
        cases h; rfl
theorem RWo_LV {W : Wd} {R : Ru} {S : Sc} : ∀ (n h : Nat) (now : Option Nat) (w : Nat) (fit : Nat → Bool), RWo W R S (n + 1) h now w fit = LV W R S n h now w fit
  | 0, h, now, w, fit => by
    show _ + (minW (chW W w (trW W h w (pkW W R S h now w fit))) (fun _ => 0) 8).getD 0 = mlW W h now w (pkW W R S h now w fit)
    cases hm : minW (chW W w (trW W h w (pkW W R S h now w fit))) (fun _ => 0) 8 with
    | none => exact Int.add_zero _
    | some y =>
      have := minW_0 8 y hm
      subst this
      exact Int.add_zero _
  | n + 1, h, now, w, fit => by
    have e : (fun j => RWo W R S (n + 1) (h + 1) (nxU (pkW W R S h now w fit) j) (j % 4) (nxF (pkW W R S h now w fit) j fit)) = fun j => LV W R S n (h + 1) (nxU (pkW W R S h now w fit) j) (j % 4) (nxF (pkW W R S h now w fit) j fit) := by
      funext j; rw [RWo_LV n]
    show _ + (minW (chW W w (trW W h w (pkW W R S h now w fit))) (fun j => RWo W R S (n + 1) (h + 1) (nxU (pkW W R S h now w fit) j) (j % 4) (nxF (pkW W R S h now w fit) j fit)) 8).getD 0 = _
    rw [e]; rfl
theorem RWo_abs {W : Wd} (hW : rcWf W.1) (R : Ru) (S : Sc) : ∀ (n h : Nat) (now : Option Nat) (w : Nat) (fit : Nat → Bool), - (99 * (n : Int)) ≤ RWo W R S n h now w fit ∧ RWo W R S n h now w fit ≤ 99 * (n : Int)
  | 0, h, now, w, fit => by show _ ≤ (0 : Int) ∧ (0 : Int) ≤ _; omega
  | n + 1, h, now, w, fit => by
    rw [RWo_LV]
    have := LV_abs hW R S n h now w fit
    push_cast
    exact this
/-- what the goings may touch -/
def fr (I0 I : Nat → Nat → Int32) : Prop := (∀ j, j ≠ 77 → j ≠ 89 → (j < 95 ∨ 101 < j) → I j = I0 j) ∧ ∀ q, q ≠ 47 → I 77 q = I0 77 q
def frJ (J0 J : Nat → Nat → Int64) : Prop := (∀ j, j ≠ 77 → j ≠ 102 → J j = J0 j) ∧ ∀ q, q ≠ 44 → q ≠ 45 → J 77 q = J0 77 q
/-- one depth's entries -/
def ent (I : Nat → Nat → Int32) (J : Nat → Nat → Int64) (d : Nat) (now : Option Nat) (w : Nat) (x : Int32) (mi wg : Int) : Prop := I 95 d = oI now ∧ I 96 d = nI w ∧ I 97 d = x ∧ I 98 d = iZ mi ∧ J 102 d = lZ wg
/-- nothing ahead of depth d has changed -/
def low (d : Nat) (I I' : Nat → Nat → Int32) (J J' : Nat → Nat → Int64) : Prop := ∀ q, q < d → (∀ j, 95 ≤ j → j ≤ 101 → I' j q = I j q) ∧ J' 102 q = J 102 q
theorem fr_refl {I : Nat → Nat → Int32} : fr I I := ⟨fun _ _ _ _ => rfl, fun _ _ => rfl⟩
theorem fr_arr {I0 I : Nat → Nat → Int32} {i k : Nat} {v : Int32} (h : fr I0 I) (h1 : 95 ≤ i) (h2 : i ≤ 101) : fr I0 (up2 I i k v) := ⟨fun j a b c => by rw [up2_ne (by omega)]; exact h.1 j a b c, fun q hq => by rw [up2_ne (by omega)]; exact h.2 q hq⟩
theorem fr_89 {I0 I : Nat → Nat → Int32} {c : Nat → Int32} (h : fr I0 I) : fr I0 (up1 I 89 c) := ⟨fun j a b c' => by rw [up1_ne b]; exact h.1 j a b c', fun q hq => by rw [up1_ne (by decide)]; exact h.2 q hq⟩
theorem fr_47 {I0 I : Nat → Nat → Int32} {v : Int32} (h : fr I0 I) : fr I0 (up2 I 77 47 v) := ⟨fun j a b c => by rw [up2_ne a]; exact h.1 j a b c, fun q hq => by rw [up2_at, if_neg hq]; exact h.2 q hq⟩
theorem frJ_102 {J0 J : Nat → Nat → Int64} {k : Nat} {v : Int64} (h : frJ J0 J) : frJ J0 (up2 J 102 k v) := ⟨fun j a b => by rw [up2_ne b]; exact h.1 j a b, fun q a b => by rw [up2_ne (by decide)]; exact h.2 q a b⟩
theorem frJ_77 {J0 J : Nat → Nat → Int64} {k : Nat} {v : Int64} (h : frJ J0 J) (hk : k = 44 ∨ k = 45) : frJ J0 (up2 J 77 k v) := ⟨fun j a b => by rw [up2_ne a]; exact h.1 j a b, fun q a b => by rw [up2_at, if_neg (by omega)]; exact h.2 q a b⟩
theorem rwl_fr {W : Wd} {F : Nat} {I0 I : Nat → Nat → Int32} (h : fr I0 I) (hW : rwl W F I0) : rwl W F I := by
  obtain ⟨h1, h2⟩ := h
  have k := fun j a b c => h1 j a b (Or.inl c)
  refine ⟨rH_c (I := I0) (h2 11 (by decide)) (h1 81 (by decide) (by decide) (by decide)) (h1 82 (by decide) (by decide) (by decide)) (h1 83 (by decide) (by decide) (by decide)) (h1 84 (by decide) (by decide) (by decide)) (h1 85 (by decide) (by decide) (by decide)) (h1 86 (by decide) (by decide) (by decide)) (h1 87 (by decide) (by decide) (by decide)) hW.1, hW.2.1, ?_, ?_⟩
  · rw [h2 0 (by decide)]; exact hW.2.2.1
  · rw [h1 78 (by decide) (by decide) (by decide), h1 79 (by decide) (by decide) (by decide)]; exact hW.2.2.2
theorem rsc_fr {S : Sc} {I0 I : Nat → Nat → Int32} (h : fr I0 I) (hS : rsc S I0) : rsc S I := by
  unfold rsc at hS ⊢
  rw [h.2 34 (by decide), h.2 35 (by decide)]; exact hS
theorem rrl_fr {R : Ru} {q : Nat} {I0 I : Nat → Nat → Int32} (h : fr I0 I) (hR : rrl R q I0) : rrl R q I := by
  unfold rrl at hR ⊢
  rw [h.1 91 (by decide) (by decide) (by decide), h.1 92 (by decide) (by decide) (by decide), h.1 93 (by decide) (by decide) (by decide), h.1 94 (by decide) (by decide) (by decide)]; exact hR
theorem lg_0 {a : Int} (h1 : -4000000000000000 ≤ a) (h2 : a ≤ 4000000000000000) : lg_cmp (lZ a) 0 = 0 ↔ a = 0 := by
  unfold lg_cmp
  have e1 : (lZ a > (0 : Int64)) ↔ 0 < a := by
    rw [gt_iff_lt, Int64.lt_iff_toInt_lt, lZ_toInt h1 h2]; rfl
  have e2 : (lZ a = (0 : Int64)) ↔ a = 0 := by
    rw [← Int64.toInt_inj, lZ_toInt h1 h2]; rfl
  by_cases ha : 0 < a
  · rw [if_pos (e1.mpr ha)]
    exact ⟨fun h => absurd h (by decide), fun h => by omega⟩
  · rw [if_neg (fun h => ha (e1.mp h))]
    by_cases hb : a = 0
    · rw [if_pos (e2.mpr hb)]; exact ⟨fun _ => hb, fun _ => rfl⟩
    · rw [if_neg (fun h => hb (e2.mp h))]
      exact ⟨fun h => absurd h (by decide), fun h => absurd h hb⟩
