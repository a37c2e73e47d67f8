/-! sails, rules, hours: in numbers -/
/-- a sail or none, as the machine has it -/
def oI : Option Nat → Int32
  | none => -1
  | some s => nI s
def mayW (nd : Nat → Nat) (cnt : Nat) (now : Option Nat) (fit on : Nat → Bool) (many s : Nat) : Bool := decide (s < cnt) && (fit s && (on s && (decide (now = some s) || decide (nd s ≤ many))))
def fasW (may : Nat → Bool) (sp : Nat → Nat) : Nat → Option (Nat × Nat)
  | 0 => none
  | n + 1 => match fasW may sp n with
    | none => if may n = true then some (n, sp n) else none
    | some (b, m) => if may n = true ∧ m < sp n then some (n, sp n) else some (b, m)
def desW (may : Nat → Bool) (wo : Nat → Int) (now : Option Nat) (o : Option (Nat × Int)) : Nat → Option (Nat × Int)
  | 0 => o
  | n + 1 => match desW may wo now o n with
    | none => if may n = true ∧ now ≠ some n then some (n, wo n) else none
    | some (b, m) => if may n = true ∧ now ≠ some n ∧ m < wo n then some (n, wo n) else some (b, m)
def asUpW (may : Nat → Bool) (now : Option Nat) : Option Nat := match now with | some u => if may u = true then some u else none | none => none
def toldW (may : Nat → Bool) (o e : Option Nat) : Option Nat := match o with | some s => if may s = true then some s else e | none => e
def spO (sp : Nat → Nat) : Option Nat → Nat
  | none => 0
  | some s => sp s
/-- a rule: kind, v, lines, row -/
abbrev Ru : Type := Nat × Nat × (Nat → Option Nat) × (Nat → Option Nat)
/-- the race that holds, weights, needs, how many sails -/
abbrev Wd : Type := List Cl × (Nat → Nat) × (Nat → Nat) × Nat
def SPw (W : Wd) (z s w h : Nat) : Nat := spN W.1 (W.2.1 s) z s w (h % 24)
def lsW (W : Wd) : Nat := lastA W.1 2 0
def desO (may : Nat → Bool) (sp : Nat → Nat) (v : Nat) (now : Option Nat) : Option (Nat × Int) := match now with | some u => if may u = true then some (u, (sp u : Int) * v) else none | none => none
def pickW (W : Wd) (R : Ru) (may : Nat → Bool) (now : Option Nat) (w h : Nat) : Option Nat :=
  if R.1 = 1 then (fasW may (fun s => SPw W 0 s w h) W.2.2.2).map (·.1)
  else if R.1 = 2 then
    (if spO (fun s => SPw W 0 s w h) now + R.2.1 ≤ spO (fun s => SPw W 0 s w h) ((fasW may (fun s => SPw W 0 s w h) W.2.2.2).map (·.1)) then (fasW may (fun s => SPw W 0 s w h) W.2.2.2).map (·.1) else asUpW may now)
  else if R.1 = 3 then (fasW may (fun s => SPw W 0 s (if w < 3 then w + 1 else 3) h) W.2.2.2).map (·.1)
  else if R.1 = 4 then (desW may (fun s => (SPw W 0 s w h : Int) * R.2.1 - lsW W) now (desO may (fun s => SPw W 0 s w h) R.2.1 now) W.2.2.2).map (·.1)
  else if R.1 = 5 then toldW may (R.2.2.1 w) (asUpW may now)
  else if R.1 = 6 then toldW may (if h < 5 then R.2.2.2 h else none) (toldW may (R.2.2.1 w) (asUpW may now))
  else asUpW may now
/-- a scene's fixed part: who is aboard, how many are awake -/
abbrev Sc : Type := (Nat → Bool) × Nat
def pkW (W : Wd) (R : Ru) (S : Sc) (h : Nat) (now : Option Nat) (w : Nat) (fit : Nat → Bool) : Option Nat := pickW W R (mayW W.2.2.1 W.2.2.2 now fit S.1 S.2) now w h
def mlW (W : Wd) (h : Nat) (now : Option Nat) (w : Nat) (p : Option Nat) : Int := match p with | none => 0 | some s => (SPw W 0 s w h : Int) - (if now = some s then 0 else (lsW W : Int))
def trW (W : Wd) (h w : Nat) (p : Option Nat) : Nat := spO (fun s => SPw W 1 s w h) p
def chW (W : Wd) (w tr j : Nat) : Nat := (if j < 4 then 100 - tr else tr) * folA W.1 w (j % 4)
def nxU (p : Option Nat) (j : Nat) : Option Nat := if j < 4 then p else none
def nxF (p : Option Nat) (j : Nat) (fit : Nat → Bool) : Nat → Bool := if j < 4 then fit else (match p with | none => fit | some q => fun s => fit s && !(decide (s = q)))
def sumW (f : Nat → Int) : Nat → Int
  | 0 => 0
  | n + 1 => sumW f n + f n
def VV (W : Wd) (R : Ru) (S : Sc) : Nat → Nat → Option Nat → Nat → (Nat → Bool) → Int
  | 0, h, now, w, fit => mlW W h now w (pkW W R S h now w fit)
  | n + 1, h, now, w, fit => mlW W h now w (pkW W R S h now w fit) * 1000 ^ (n + 1) + sumW (fun j => (chW W w (trW W h w (pkW W R S h now w fit)) j : Int) * VV W R S n (h + 1) (nxU (pkW W R S h now w fit) j) (j % 4) (nxF (pkW W R S h now w fit) j fit)) 8
def SV (W : Wd) (R : Ru) (S : Sc) : Nat → Nat → Option Nat → Nat → (Nat → Bool) → Int → Int
  | 0, h, now, w, fit, m => if m ≤ mlW W h now w (pkW W R S h now w fit) then 1 else 0
  | n + 1, h, now, w, fit, m => sumW (fun j => (chW W w (trW W h w (pkW W R S h now w fit)) j : Int) * SV W R S n (h + 1) (nxU (pkW W R S h now w fit) j) (j % 4) (nxF (pkW W R S h now w fit) j fit) (m - mlW W h now w (pkW W R S h now w fit))) 8
def minW (ch : Nat → Nat) (f : Nat → Int) : Nat → Option Int
  | 0 => none
  | j + 1 => if ch j = 0 then minW ch f j else (match minW ch f j with | none => some (f j) | some x => some (if f j < x then f j else x))
def LV (W : Wd) (R : Ru) (S : Sc) : Nat → Nat → Option Nat → Nat → (Nat → Bool) → Int
  | 0, h, now, w, fit => mlW W h now w (pkW W R S h now w fit)
  | n + 1, h, now, w, fit => mlW W h now w (pkW W R S h now w fit) + (minW (chW W w (trW W h w (pkW W R S h now w fit))) (fun j => LV W R S n (h + 1) (nxU (pkW W R S h now w fit) j) (j % 4) (nxF (pkW W R S h now w fit) j fit)) 8).getD 0
theorem spN_le (A : List Cl) (h z s w t : Nat) : spN A h z s w t ≤ (if z = 0 then 99 else 100) := Nat.min_le_left _ _
theorem lastA_mem (A : List Cl) (w p : Nat) : lastA A w p = 0 ∨ ∃ q ∈ A, q.1 = w ∧ q.2.2.1 = p ∧ lastA A w p = q.2.1 := by
  unfold lastA
  have h : ∀ (l : List Cl) (v : Nat), l.foldl (fun v q => if q.1 = w ∧ q.2.2.1 = p then q.2.1 else v) v = v ∨ ∃ q ∈ l, q.1 = w ∧ q.2.2.1 = p ∧ l.foldl (fun v q => if q.1 = w ∧ q.2.2.1 = p then q.2.1 else v) v = q.2.1 := by
    intro l
    induction l with
    | nil => exact fun v => Or.inl rfl
    | cons q l ih =>
      intro v
      rw [List.foldl_cons]
      rcases ih (if q.1 = w ∧ q.2.2.1 = p then q.2.1 else v) with e | ⟨q2, h1, h2, h3, h4⟩
      · by_cases hq : q.1 = w ∧ q.2.2.1 = p
        · rw [if_pos hq] at e ⊢
          exact Or.inr ⟨q, List.mem_cons_self, hq.1, hq.2, e⟩
        · rw [if_neg hq] at e ⊢
          exact Or.inl e
      · exact Or.inr ⟨q2, List.mem_cons_of_mem _ h1, h2, h3, h4⟩
  exact h A 0
theorem lastA_le {A : List Cl} (hA : rcWf A) (w p : Nat) : lastA A w p ≤ 99 := by
  rcases lastA_mem A w p with e | ⟨q, h1, -, -, e⟩
  · rw [e]; exact Nat.zero_le _
  · rw [e]; exact (hA.2.2 q h1).2.1
theorem folL_le (A : List Cl) (a : Nat) : ∀ n, folL A a n ≤ 10
  | 0 => Nat.le_refl _
  | n + 1 => by
    have := folL_le A a n
    unfold folL
    split <;> omega
theorem folA_le (A : List Cl) (a b : Nat) : folA A a b ≤ 10 := by
  unfold folA
  split
  · exact folL_le A a 4
  · have := folL_le A a b
    omega
theorem folL_sum (A : List Cl) (a : Nat) : ∀ n, folL A a n + ((List.range n).map (fun b => if b = a then 0 else folA A a b)).sum = 10
  | 0 => rfl
  | n + 1 => by
    have h := folL_sum A a n
    rw [List.range_succ, List.map_append, List.sum_append]
    simp only [List.map_cons, List.map_nil, List.sum_cons, List.sum_nil, Nat.add_zero]
    by_cases hn : n = a
    · rw [if_pos hn]
      unfold folL
      rw [if_pos hn]
      omega
    · rw [if_neg hn]
      unfold folA
      rw [if_neg hn]
      show (if n = a then folL A a n else folL A a n - min (folL A a n) (lastA A 3 (4 * a + n))) + _ = 10
      rw [if_neg hn]
      have : min (folL A a n) (lastA A 3 (4 * a + n)) ≤ folL A a n := Nat.min_le_left _ _
      unfold folA at h
      omega
theorem fol_ten (A : List Cl) {a : Nat} (ha : a < 4) : folA A a 0 + folA A a 1 + folA A a 2 + folA A a 3 = 10 := by
  have h := folL_sum A a 4
  simp only [show List.range 4 = [0, 1, 2, 3] from rfl, List.map_cons, List.map_nil, List.sum_cons, List.sum_nil] at h
  have hd : folA A a a = folL A a 4 := if_pos rfl
  match a, ha with
  | 0, _ => simp at h; omega
  | 1, _ => simp at h; omega
  | 2, _ => simp at h; omega
  | 3, _ => simp at h; omega
theorem SP_le (W : Wd) (s w h : Nat) : SPw W 0 s w h ≤ 99 := spN_le _ _ 0 _ _ _
theorem SP1_le (W : Wd) (s w h : Nat) : SPw W 1 s w h ≤ 100 := spN_le _ _ 1 _ _ _
theorem trW_le (W : Wd) (h w : Nat) (p : Option Nat) : trW W h w p ≤ 100 := by
  cases p with
  | none => exact Nat.zero_le _
  | some s => exact SP1_le W s w h
theorem sumW_8 (f : Nat → Int) : sumW f 8 = f 0 + f 1 + f 2 + f 3 + f 4 + f 5 + f 6 + f 7 := by
  simp [sumW]
theorem ch_sum (W : Wd) {w tr : Nat} (hw : w < 4) (ht : tr ≤ 100) : sumW (fun j => (chW W w tr j : Int)) 8 = 1000 := by
  have h := fol_ten W.1 hw
  rw [sumW_8]
  simp only [chW]
  simp only [show (0 : Nat) < 4 from by decide, show (1 : Nat) < 4 from by decide, show (2 : Nat) < 4 from by decide, show (3 : Nat) < 4 from by decide, show ¬ (4 : Nat) < 4 from by decide, show ¬ (5 : Nat) < 4 from by decide, show ¬ (6 : Nat) < 4 from by decide, show ¬ (7 : Nat) < 4 from by decide, if_true, if_false, show 0 % 4 = 0 from rfl, show 1 % 4 = 1 from rfl, show 2 % 4 = 2 from rfl, show 3 % 4 = 3 from rfl, show 4 % 4 = 0 from rfl, show 5 % 4 = 1 from rfl, show 6 % 4 = 2 from rfl, show 7 % 4 = 3 from rfl]
  have e : ((100 - tr : Nat) : Int) = 100 - (tr : Int) := by omega
  push_cast
  rw [e]
  have h' : (folA W.1 w 0 : Int) + folA W.1 w 1 + folA W.1 w 2 + folA W.1 w 3 = 10 := by exact_mod_cast h
  generalize (folA W.1 w 0 : Int) = a at *
  generalize (folA W.1 w 1 : Int) = b at *
  generalize (folA W.1 w 2 : Int) = c at *
  generalize (folA W.1 w 3 : Int) = e2 at *
  have : (100 - (tr : Int)) * a + (100 - tr) * b + (100 - tr) * c + (100 - tr) * e2 + tr * a + tr * b + tr * c + tr * e2 = 100 * (a + b + c + e2) := by grind
  rw [this, h']
  rfl
theorem sumW_mono {ch : Nat → Nat} {f : Nat → Int} {B : Int} : ∀ n, (∀ j, j < n → f j ≤ B) → sumW (fun j => (ch j : Int) * f j) n ≤ B * sumW (fun j => (ch j : Int)) n
  | 0, _ => by simp [sumW]
  | n + 1, h => by
    have h1 := sumW_mono (ch := ch) n (fun j hj => h j (by omega))
    have h2 : (ch n : Int) * f n ≤ (ch n : Int) * B := Int.mul_le_mul_of_nonneg_left (h n (by omega)) (Int.natCast_nonneg _)
    show sumW _ n + (ch n : Int) * f n ≤ B * (sumW _ n + (ch n : Int))
    rw [Int.mul_add, Int.mul_comm B (ch n : Int)]
    omega
theorem sumW_neg {f : Nat → Int} : ∀ n, sumW (fun j => - f j) n = - sumW f n
  | 0 => rfl
  | n + 1 => by
    show sumW (fun j => - f j) n + - f n = - (sumW f n + f n)
    rw [sumW_neg n]; omega
theorem sumW_abs {ch : Nat → Nat} {f : Nat → Int} {B : Int} (n : Nat) (h : ∀ j, j < n → - B ≤ f j ∧ f j ≤ B) : - (B * sumW (fun j => (ch j : Int)) n) ≤ sumW (fun j => (ch j : Int) * f j) n ∧ sumW (fun j => (ch j : Int) * f j) n ≤ B * sumW (fun j => (ch j : Int)) n := by
  refine ⟨?_, sumW_mono n (fun j hj => (h j hj).2)⟩
  have h1 := sumW_mono (ch := ch) (f := fun j => - f j) (B := B) n (fun j hj => by have := (h j hj).1; omega)
  have e : (fun j => (ch j : Int) * - f j) = fun j => - ((ch j : Int) * f j) := by
    funext j; exact Int.mul_neg _ _
  rw [e, sumW_neg] at h1
  omega
theorem ml_abs {W : Wd} (hW : rcWf W.1) (h : Nat) (now : Option Nat) (w : Nat) (p : Option Nat) : -99 ≤ mlW W h now w p ∧ mlW W h now w p ≤ 99 := by
  cases p with
  | none => exact ⟨by show (-99 : Int) ≤ 0; omega, by show (0 : Int) ≤ 99; omega⟩
  | some s =>
    have h1 := SP_le W s w h
    have h2 := lastA_le hW 2 0
    unfold mlW lsW
    dsimp only
    split <;> omega
theorem VV_abs {W : Wd} (hW : rcWf W.1) (R : Ru) (S : Sc) : ∀ (n h : Nat) (now : Option Nat) (w : Nat) (fit : Nat → Bool), w < 4 → - (99 * (n + 1) * 1000 ^ n) ≤ VV W R S n h now w fit ∧ VV W R S n h now w fit ≤ 99 * (n + 1) * 1000 ^ n
  | 0, h, now, w, fit, _ => by
    have := ml_abs hW h now w (pkW W R S h now w fit)
    unfold VV
    simp
    omega
  | n + 1, h, now, w, fit, hw => by
    have h1 := ml_abs hW h now w (pkW W R S h now w fit)
    have h2 := sumW_abs (ch := chW W w (trW W h w (pkW W R S h now w fit))) (B := 99 * (n + 1) * 1000 ^ n) 8 (fun j _ => VV_abs hW R S n (h + 1) (nxU (pkW W R S h now w fit) j) (j % 4) (nxF (pkW W R S h now w fit) j fit) (by omega))
    rw [ch_sum W hw (trW_le _ _ _ _)] at h2
    unfold VV
    generalize sumW _ 8 = x at h2 ⊢
    generalize mlW W h now w (pkW W R S h now w fit) = m at h1 ⊢
    have e : (1000 : Int) ^ (n + 1) = 1000 ^ n * 1000 := Int.pow_succ _ _
    rw [e]
    have hp : (0 : Int) ≤ 1000 ^ n := Int.pow_nonneg (by omega)
    generalize (1000 : Int) ^ n = y at *
    push_cast
    have a1 : m * (y * 1000) ≤ 99 * (y * 1000) := Int.mul_le_mul_of_nonneg_right h1.2 (by omega)
    have a2 : -99 * (y * 1000) ≤ m * (y * 1000) := Int.mul_le_mul_of_nonneg_right h1.1 (by omega)
    have e2 : 99 * ((n : Int) + 1 + 1) * (y * 1000) = 99 * (n + 1) * y * 1000 + 99 * (y * 1000) := by grind
    rw [e2]
    generalize 99 * ((n : Int) + 1) * y * 1000 = q at *
    omega
