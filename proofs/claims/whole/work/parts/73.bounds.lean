/-! what n hours bring: bounds, and one value for the three questions -/
def lZ (x : Int) : Int64 := Int64.ofInt x
theorem lZ_add (a b : Int) : lZ a + lZ b = lZ (a + b) := (Int64.ofInt_add a b).symm
theorem lZ_sub (a b : Int) : lZ a - lZ b = lZ (a - b) := (Int64.ofInt_sub a b).symm
theorem lZ_mul (a b : Int) : lZ a * lZ b = lZ (a * b) := (Int64.ofInt_mul a b).symm
theorem lZ_toInt {x : Int} (h1 : -4000000000000000 ≤ x) (h2 : x ≤ 4000000000000000) : (lZ x).toInt = x := Int64.toInt_ofInt_of_le (by omega) (by omega)
theorem lZ_lt {a b : Int} (h1 : -4000000000000000 ≤ a) (h2 : a ≤ 4000000000000000) (h3 : -4000000000000000 ≤ b) (h4 : b ≤ 4000000000000000) : lZ a < lZ b ↔ a < b := by
  rw [Int64.lt_iff_toInt_lt, lZ_toInt h1 h2, lZ_toInt h3 h4]
theorem lZ_le {a b : Int} (h1 : -4000000000000000 ≤ a) (h2 : a ≤ 4000000000000000) (h3 : -4000000000000000 ≤ b) (h4 : b ≤ 4000000000000000) : lZ a ≤ lZ b ↔ a ≤ b := by
  rw [Int64.le_iff_toInt_le, lZ_toInt h1 h2, lZ_toInt h3 h4]
theorem lZ_inj {a b : Int} (h1 : -4000000000000000 ≤ a) (h2 : a ≤ 4000000000000000) (h3 : -4000000000000000 ≤ b) (h4 : b ≤ 4000000000000000) : lZ a = lZ b ↔ a = b := by
  rw [← Int64.toInt_inj, lZ_toInt h1 h2, lZ_toInt h3 h4]
theorem iZ_l {x : Int} (h1 : -100000 ≤ x) (h2 : x ≤ 100000) : (iZ x).toInt64 = lZ x := by
  rw [← Int64.toInt_inj, Int32.toInt_toInt64, iZ_toInt h1 h2, lZ_toInt (by omega) (by omega)]
theorem mayW_lt {nd : Nat → Nat} {cnt many s : Nat} {now : Option Nat} {fit on : Nat → Bool} (h : mayW nd cnt now fit on many s = true) : s < cnt := by
  unfold mayW at h
  simp only [Bool.and_eq_true, decide_eq_true_eq] at h
  exact h.1
theorem asUpW_lt {nd : Nat → Nat} {cnt many : Nat} {now : Option Nat} {fit on : Nat → Bool} : ∀ s, asUpW (mayW nd cnt now fit on many) now = some s → s < cnt := by
  intro s hs
  unfold asUpW at hs
  cases now with
  | none => cases hs
  | some u =>
    dsimp only at hs
    split at hs
    next hm => cases hs; exact mayW_lt hm
    next => cases hs
theorem toldW_lt {may : Nat → Bool} {cnt : Nat} {o e : Option Nat} (hm : ∀ s, may s = true → s < cnt) (he : ∀ s, e = some s → s < cnt) : ∀ s, toldW may o e = some s → s < cnt := by
  intro s hs
  unfold toldW at hs
  cases o with
  | none => exact he s hs
  | some u =>
    dsimp only at hs
    split at hs
    next h => cases hs; exact hm _ h
    next => exact he s hs
theorem desW_lt {may : Nat → Bool} {wo : Nat → Int} {now : Option Nat} {o : Option (Nat × Int)} {cnt : Nat} (ho : ∀ b m, o = some (b, m) → b < cnt) : ∀ {n b m}, n ≤ cnt → desW may wo now o n = some (b, m) → b < cnt
  | 0, b, m, _, h => ho b m h
  | n + 1, b, m, hn, h => by
    unfold desW at h
    cases hf : desW may wo now o n with
    | none =>
      rw [hf] at h
      dsimp only at h
      by_cases hm : may n = true ∧ now ≠ some n
      · rw [if_pos hm] at h; cases h; exact hn
      · rw [if_neg hm] at h; cases h
    | some q =>
      obtain ⟨b', m'⟩ := q
      rw [hf] at h
      dsimp only at h
      by_cases hm : may n = true ∧ now ≠ some n ∧ m' < wo n
      · rw [if_pos hm] at h; cases h; exact hn
      · rw [if_neg hm] at h; cases h
        exact desW_lt ho (by omega) hf
theorem pkW_lt {W : Wd} {R : Ru} {S : Sc} {h w : Nat} {now : Option Nat} {fit : Nat → Bool} : ∀ s, pkW W R S h now w fit = some s → s < W.2.2.2 := by
  intro s hs
  unfold pkW pickW at hs
  have ha := asUpW_lt (nd := W.2.2.1) (cnt := W.2.2.2) (many := S.2) (now := now) (fit := fit) (on := S.1)
  have hm := fun u => mayW_lt (nd := W.2.2.1) (cnt := W.2.2.2) (many := S.2) (now := now) (fit := fit) (on := S.1) (s := u)
  by_cases h1 : R.1 = 1
  · rw [if_pos h1] at hs; exact fas_lt s hs
  rw [if_neg h1] at hs
  by_cases h2 : R.1 = 2
  · rw [if_pos h2] at hs
    split at hs
    next => exact fas_lt s hs
    next => exact ha s hs
  rw [if_neg h2] at hs
  by_cases h3 : R.1 = 3
  · rw [if_pos h3] at hs; exact fas_lt s hs
  rw [if_neg h3] at hs
  by_cases h4 : R.1 = 4
  · rw [if_pos h4] at hs
    cases hf : desW (mayW W.2.2.1 W.2.2.2 now fit S.1 S.2) (fun s => (SPw W 0 s w h : Int) * R.2.1 - lsW W) now (desO (mayW W.2.2.1 W.2.2.2 now fit S.1 S.2) (fun s => SPw W 0 s w h) R.2.1 now) W.2.2.2 with
    | none => rw [hf] at hs; cases hs
    | some q =>
      obtain ⟨q1, q2⟩ := q
      rw [hf] at hs; cases hs
      refine desW_lt (fun b m hb => ?_) (Nat.le_refl _) hf
      unfold desO at hb
      cases now with
      | none => cases hb
      | some u =>
        dsimp only at hb
        split at hb
        next h5 => cases hb; exact mayW_lt h5
        next => cases hb
  rw [if_neg h4] at hs
  by_cases h5 : R.1 = 5
  · rw [if_pos h5] at hs; exact toldW_lt hm ha s hs
  rw [if_neg h5] at hs
  by_cases h6 : R.1 = 6
  · rw [if_pos h6] at hs; exact toldW_lt hm (toldW_lt hm ha) s hs
  · rw [if_neg h6] at hs; exact ha s hs
theorem SV_abs {W : Wd} (R : Ru) (S : Sc) : ∀ (n h : Nat) (now : Option Nat) (w : Nat) (fit : Nat → Bool) (m : Int), w < 4 → - (1000 : Int) ^ n ≤ SV W R S n h now w fit m ∧ SV W R S n h now w fit m ≤ 1000 ^ n
  | 0, h, now, w, fit, m, _ => by
    unfold SV
    split <;> simp
  | n + 1, h, now, w, fit, m, hw => by
    have h2 := sumW_abs (ch := chW W w (trW W h w (pkW W R S h now w fit))) (f := fun j => SV W R S n (h + 1) (nxU (pkW W R S h now w fit) j) (j % 4) (nxF (pkW W R S h now w fit) j fit) (m - mlW W h now w (pkW W R S h now w fit))) (B := 1000 ^ n) 8 (fun j _ => SV_abs R S n (h + 1) (nxU (pkW W R S h now w fit) j) (j % 4) (nxF (pkW W R S h now w fit) j fit) (m - mlW W h now w (pkW W R S h now w fit)) (by omega))
    rw [ch_sum W hw (trW_le _ _ _ _)] at h2
    unfold SV
    rw [Int.pow_succ]
    omega
theorem minW_le {ch : Nat → Nat} {f : Nat → Int} {B : Int} : ∀ n, (∀ j, j < n → - B ≤ f j ∧ f j ≤ B) → ∀ x, minW ch f n = some x → - B ≤ x ∧ x ≤ B
  | 0, _, x, h => by cases h
  | n + 1, hf, x, h => by
    unfold minW at h
    have ih := minW_le (ch := ch) n (fun j hj => hf j (by omega))
    by_cases hc : ch n = 0
    · rw [if_pos hc] at h; exact ih x h
    · rw [if_neg hc] at h
      cases hm : minW ch f n with
      | none => rw [hm] at h; cases h; exact hf n (by omega)
      | some y =>
        rw [hm] at h
        have h := Option.some.inj h
        subst h
        have h1 := ih y hm
        have h2 := hf n (by omega)
        split
        · exact h2
        · exact h1
theorem minW_none {ch : Nat → Nat} {f : Nat → Int} : ∀ n, minW ch f n = none → sumW (fun j => (ch j : Int)) n = 0
  | 0, _ => rfl
  | n + 1, h => by
    unfold minW at h
    by_cases hc : ch n = 0
    · rw [if_pos hc] at h
      show sumW _ n + (ch n : Int) = 0
      rw [minW_none n h, hc]; rfl
    · rw [if_neg hc] at h
      cases hm : minW ch f n with
      | none => rw [hm] at h; cases h
      | some y => rw [hm] at h; cases h
theorem LV_abs {W : Wd} (hW : rcWf W.1) (R : Ru) (S : Sc) : ∀ (n h : Nat) (now : Option Nat) (w : Nat) (fit : Nat → Bool), - (99 * ((n : Int) + 1)) ≤ LV W R S n h now w fit ∧ LV W R S n h now w fit ≤ 99 * ((n : Int) + 1)
  | 0, h, now, w, fit => by
    have := ml_abs hW h now w (pkW W R S h now w fit)
    unfold LV
    omega
  | n + 1, h, now, w, fit => by
    have h1 := ml_abs hW h now w (pkW W R S h now w fit)
    have h2 := minW_le (ch := chW W w (trW W h w (pkW W R S h now w fit))) (f := fun j => LV W R S n (h + 1) (nxU (pkW W R S h now w fit) j) (j % 4) (nxF (pkW W R S h now w fit) j fit)) (B := 99 * ((n : Int) + 1)) 8 (fun j _ => LV_abs hW R S n (h + 1) _ _ _)
    unfold LV
    cases hm : minW (chW W w (trW W h w (pkW W R S h now w fit))) (fun j => LV W R S n (h + 1) (nxU (pkW W R S h now w fit) j) (j % 4) (nxF (pkW W R S h now w fit) j fit)) 8 with
    | none =>
      show _ ≤ _ + (0 : Int) ∧ _ + (0 : Int) ≤ _
      push_cast; omega
    | some y =>
      have := h2 y hm
      show _ ≤ _ + y ∧ _ + y ≤ _
      push_cast; omega
/-- the three questions in one: mean, sure, worst -/
def AV (t : Nat) (W : Wd) (R : Ru) (S : Sc) (n h : Nat) (now : Option Nat) (w : Nat) (fit : Nat → Bool) (m : Int) : Int := if t = 0 then VV W R S n h now w fit else if t = 1 then SV W R S n h now w fit m else LV W R S n h now w fit
theorem AV_abs {t : Nat} {W : Wd} (hW : rcWf W.1) (R : Ru) (S : Sc) {n h : Nat} {now : Option Nat} {w : Nat} {fit : Nat → Bool} {m : Int} (hw : w < 4) (hn : n ≤ 3) : -1000000000000 ≤ AV t W R S n h now w fit m ∧ AV t W R S n h now w fit m ≤ 1000000000000 := by
  have h1 := VV_abs hW R S n h now w fit hw
  have h2 := SV_abs (W := W) R S n h now w fit m hw
  have h3 := LV_abs hW R S n h now w fit
  have h4 : ∀ x y z : Int, (-1000000000000 ≤ x ∧ x ≤ 1000000000000) → (-1000000000000 ≤ y ∧ y ≤ 1000000000000) → (-1000000000000 ≤ z ∧ z ≤ 1000000000000) → -1000000000000 ≤ (if t = 0 then x else if t = 1 then y else z) ∧ (if t = 0 then x else if t = 1 then y else z) ≤ 1000000000000 := fun x y z hx hy hz => by
    split
    · exact hx
    · split
      · exact hy
      · exact hz
  unfold AV
  match n, hn with
  | 0, _ => simp at h1 h2 h3; exact h4 _ _ _ (by omega) (by omega) (by omega)
  | 1, _ => simp at h1 h2 h3; exact h4 _ _ _ (by omega) (by omega) (by omega)
  | 2, _ => simp at h1 h2 h3; exact h4 _ _ _ (by omega) (by omega) (by omega)
  | 3, _ => simp at h1 h2 h3; exact h4 _ _ _ (by omega) (by omega) (by omega)
theorem AV_succ {t : Nat} {W : Wd} {R : Ru} {S : Sc} {n h : Nat} {now : Option Nat} {w : Nat} {fit : Nat → Bool} {m : Int} : AV t W R S (n + 1) h now w fit m = if t = 0 then mlW W h now w (pkW W R S h now w fit) * 1000 ^ (n + 1) + sumW (fun j => (chW W w (trW W h w (pkW W R S h now w fit)) j : Int) * AV t W R S n (h + 1) (nxU (pkW W R S h now w fit) j) (j % 4) (nxF (pkW W R S h now w fit) j fit) (m - mlW W h now w (pkW W R S h now w fit))) 8
    else if t = 1 then sumW (fun j => (chW W w (trW W h w (pkW W R S h now w fit)) j : Int) * AV t W R S n (h + 1) (nxU (pkW W R S h now w fit) j) (j % 4) (nxF (pkW W R S h now w fit) j fit) (m - mlW W h now w (pkW W R S h now w fit))) 8
    else mlW W h now w (pkW W R S h now w fit) + (minW (chW W w (trW W h w (pkW W R S h now w fit))) (fun j => AV t W R S n (h + 1) (nxU (pkW W R S h now w fit) j) (j % 4) (nxF (pkW W R S h now w fit) j fit) (m - mlW W h now w (pkW W R S h now w fit))) 8).getD 0 := by
  by_cases h0 : t = 0
  · subst h0; rfl
  · by_cases h1 : t = 1
    · subst h1; rfl
    · unfold AV
      rw [if_neg h0, if_neg h1, if_neg h0, if_neg h1]
      simp only [if_neg h0, if_neg h1]
      rfl
