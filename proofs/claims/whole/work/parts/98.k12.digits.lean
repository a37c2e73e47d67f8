/-! lines: rows of digits (0 is none, s + 1 the sail s), the first best row -/
def dO : Nat → Option Nat
  | 0 => none
  | s + 1 => some s
def goodD (may : Nat → Bool) : Nat → Bool
  | 0 => true
  | s + 1 => may s
def lnV (C : Nat → Int) (T : Nat → Nat → Nat → Int) (w : Nat) (p : Nat → Nat) : Int := C (p w) + (T (p w) 0 (p 0) + T (p w) 1 (p 1) + T (p w) 2 (p 2) + T (p w) 3 (p 3))
def rowN (N : Nat) (p : Nat → Nat) : Nat := ((p 0 * N + p 1) * N + p 2) * N + p 3
def setR (p : Nat → Nat) (x e : Nat) : Nat → Nat := fun y => if y = x then e else p y
/-- the first best digit -/
def gB (f : Nat → Int) (good : Nat → Bool) : Nat → Nat
  | 0 => 0
  | m + 1 => if good (m + 1) = true ∧ f (gB f good m) < f (m + 1) then m + 1 else gB f good m
theorem gB_s {f : Nat → Int} {good : Nat → Bool} (m : Nat) : gB f good (m + 1) = if good (m + 1) = true ∧ f (gB f good m) < f (m + 1) then m + 1 else gB f good m := rfl
theorem gB_le {f : Nat → Int} {good : Nat → Bool} : ∀ m, gB f good m ≤ m
  | 0 => Nat.le_refl _
  | m + 1 => by
    have := gB_le (f := f) (good := good) m
    rw [gB_s]
    split <;> omega
theorem gB_dom {f : Nat → Int} {good : Nat → Bool} : ∀ m e, e ≤ m → good e = true → f e ≤ f (gB f good m) ∧ (f e = f (gB f good m) → gB f good m ≤ e)
  | 0, e, h, _ => by
    have h0 : e = 0 := by omega
    rw [h0]
    exact ⟨Int.le_refl _, fun _ => Nat.le_refl _⟩
  | m + 1, e, h, hg => by
    have hle := gB_le (f := f) (good := good) m
    rw [gB_s]
    by_cases he : e = m + 1
    · rw [he] at hg ⊢
      by_cases hc : good (m + 1) = true ∧ f (gB f good m) < f (m + 1)
      · rw [if_pos hc]
        exact ⟨Int.le_refl _, fun _ => Nat.le_refl _⟩
      · rw [if_neg hc]
        exact ⟨Int.not_lt.mp (fun hl => hc ⟨hg, hl⟩), fun _ => by omega⟩
    · obtain ⟨h1, h2⟩ := gB_dom (f := f) m e (by omega) hg
      by_cases hc : good (m + 1) = true ∧ f (gB f good m) < f (m + 1)
      · rw [if_pos hc]
        have h3 := hc.2
        exact ⟨by omega, fun h => by omega⟩
      · rw [if_neg hc]
        exact ⟨h1, h2⟩
theorem gB_all {f : Nat → Int} {good : Nat → Bool} (hb : ∀ e, good e = false → f e = f 0) (h0 : good 0 = true) {m e : Nat} (h : e ≤ m) : f e ≤ f (gB f good m) ∧ (f e = f (gB f good m) → gB f good m ≤ e) := by
  cases hg : good e with
  | true => exact gB_dom m e h hg
  | false =>
    obtain ⟨h1, h2⟩ := gB_dom (f := f) (good := good) m 0 (Nat.zero_le _) h0
    rw [hb e hg]
    exact ⟨h1, fun h => Nat.le_trans (h2 h) (Nat.zero_le _)⟩
theorem gB_0 {f : Nat → Int} {good : Nat → Bool} (h : ∀ e, f e = 0) : ∀ m, gB f good m = 0
  | 0 => rfl
  | m + 1 => by
    rw [gB_s, gB_0 h m, h, h, if_neg (fun hc => absurd hc.2 (Int.lt_irrefl _))]
def gRow (T : Nat → Nat → Nat → Int) (good : Nat → Bool) (w m s : Nat) : Nat → Nat := fun x => if x = w then s else gB (T s x) good m
theorem four {x : Nat} (hx : x < 4) : x = 0 ∨ x = 1 ∨ x = 2 ∨ x = 3 := by omega
theorem row_mono {N : Nat} {p q : Nat → Nat} (h : ∀ x, x < 4 → p x ≤ q x) : rowN N p ≤ rowN N q := by
  unfold rowN
  exact Nat.add_le_add (Nat.mul_le_mul_right _ (Nat.add_le_add (Nat.mul_le_mul_right _ (Nat.add_le_add (Nat.mul_le_mul_right _ (h 0 (by decide))) (h 1 (by decide)))) (h 2 (by decide)))) (h 3 (by decide))
theorem gRow_best {C : Nat → Int} {T : Nat → Nat → Nat → Int} {good : Nat → Bool} {w m s N : Nat} {p : Nat → Nat} (h0 : good 0 = true) (hb : ∀ s x e, good e = false → T s x e = T s x 0) (hp : ∀ x, x < 4 → p x ≤ m) (hs : p w = s) : lnV C T w p ≤ lnV C T w (gRow T good w m s) ∧ (lnV C T w p = lnV C T w (gRow T good w m s) → rowN N (gRow T good w m s) ≤ rowN N p) := by
  have hgw : gRow T good w m s w = s := if_pos rfl
  have key : ∀ x, x < 4 → T s x (p x) ≤ T s x (gRow T good w m s x) ∧ (T s x (p x) = T s x (gRow T good w m s x) → gRow T good w m s x ≤ p x) := fun x hx => by
    by_cases hxw : x = w
    · rw [hxw, hgw, hs]
      exact ⟨Int.le_refl _, fun _ => Nat.le_refl _⟩
    · rw [show gRow T good w m s x = gB (T s x) good m from if_neg hxw]
      exact gB_all (hb s x) h0 (hp x hx)
  obtain ⟨a0, b0⟩ := key 0 (by decide)
  obtain ⟨a1, b1⟩ := key 1 (by decide)
  obtain ⟨a2, b2⟩ := key 2 (by decide)
  obtain ⟨a3, b3⟩ := key 3 (by decide)
  unfold lnV
  rw [hgw, hs]
  refine ⟨by omega, fun h => row_mono (fun x hx => ?_)⟩
  rcases four hx with rfl | rfl | rfl | rfl
  · exact b0 (by omega)
  · exact b1 (by omega)
  · exact b2 (by omega)
  · exact b3 (by omega)
theorem lnV_bad {C : Nat → Int} {T : Nat → Nat → Nat → Int} {good : Nat → Bool} {w : Nat} {p : Nat → Nat} (hC : ∀ e, good e = false → C e = C 0 ∧ ∀ x y, T e x y = T 0 x y) (hb : ∀ s x e, good e = false → T s x e = T s x 0) (hp : good (p w) = false) : lnV C T w (setR p w 0) = lnV C T w p := by
  have e1 : setR p w 0 w = 0 := if_pos rfl
  have key : ∀ x, T 0 x (setR p w 0 x) = T (p w) x (p x) := fun x => by
    rw [(hC _ hp).2]
    by_cases hx : x = w
    · rw [hx, e1]
      exact (hb 0 w (p w) hp).symm
    · rw [show setR p w 0 x = p x from if_neg hx]
  have k0 := key 0
  have k1 := key 1
  have k2 := key 2
  have k3 := key 3
  have kc := (hC _ hp).1
  unfold lnV
  rw [e1]
  omega
theorem lnV_ext {C : Nat → Int} {T : Nat → Nat → Nat → Int} {w : Nat} {p q : Nat → Nat} (hw : w < 4) (h : ∀ x, x < 4 → p x = q x) : lnV C T w p = lnV C T w q := by
  unfold lnV
  rw [h w hw, h 0 (by decide), h 1 (by decide), h 2 (by decide), h 3 (by decide)]
theorem lnV_set {C : Nat → Int} {T : Nat → Nat → Nat → Int} {w x e e' : Nat} {p : Nat → Nat} (hx : x < 4) (hxw : x ≠ w) : lnV C T w (setR p x e) + T (p w) x e' = lnV C T w (setR p x e') + T (p w) x e := by
  have h1 : ∀ z, setR p x z w = p w := fun z => if_neg (Ne.symm hxw)
  have hy : ∀ z y, y ≠ x → setR p x z y = p y := fun z y h => if_neg h
  have hx1 : ∀ z, setR p x z x = z := fun z => if_pos rfl
  unfold lnV
  rw [h1 e, h1 e']
  rcases four hx with rfl | rfl | rfl | rfl
  · rw [hx1 e, hx1 e', hy e 1 (by decide), hy e 2 (by decide), hy e 3 (by decide), hy e' 1 (by decide), hy e' 2 (by decide), hy e' 3 (by decide)]
    omega
  · rw [hx1 e, hx1 e', hy e 0 (by decide), hy e 2 (by decide), hy e 3 (by decide), hy e' 0 (by decide), hy e' 2 (by decide), hy e' 3 (by decide)]
    omega
  · rw [hx1 e, hx1 e', hy e 0 (by decide), hy e 1 (by decide), hy e 3 (by decide), hy e' 0 (by decide), hy e' 1 (by decide), hy e' 3 (by decide)]
    omega
  · rw [hx1 e, hx1 e', hy e 0 (by decide), hy e 1 (by decide), hy e 2 (by decide), hy e' 0 (by decide), hy e' 1 (by decide), hy e' 2 (by decide)]
    omega
theorem dig_lt {N a b a' b' : Nat} (hb : b < N) (hb' : b' < N) : (a * N + b < a' * N + b' ↔ a < a' ∨ (a = a' ∧ b < b')) ∧ (a * N + b = a' * N + b' ↔ a = a' ∧ b = b') := by
  rcases Nat.lt_trichotomy a a' with h | h | h
  · have h1 := Nat.mul_le_mul_right N (show a + 1 ≤ a' from h)
    rw [Nat.add_one_mul] at h1
    constructor <;> omega
  · subst h
    constructor <;> omega
  · have h1 := Nat.mul_le_mul_right N (show a' + 1 ≤ a from h)
    rw [Nat.add_one_mul] at h1
    constructor <;> omega
theorem dig_bd {N M a b : Nat} (ha : a < M) (hb : b < N) : a * N + b < M * N := by
  have h1 := Nat.mul_le_mul_right N (show a + 1 ≤ M from ha)
  rw [Nat.add_one_mul] at h1
  omega
theorem row_lt {N : Nat} {p : Nat → Nat} (hp : ∀ x, x < 4 → p x < N) : rowN N p < N * N * N * N := dig_bd (dig_bd (dig_bd (hp 0 (by decide)) (hp 1 (by decide))) (hp 2 (by decide))) (hp 3 (by decide))
theorem row_inj {N : Nat} {p q : Nat → Nat} (hp : ∀ x, x < 4 → p x < N) (hq : ∀ x, x < 4 → q x < N) (h : rowN N p = rowN N q) : ∀ x, x < 4 → p x = q x := by
  obtain ⟨h1, e3⟩ := (dig_lt (hp 3 (by decide)) (hq 3 (by decide))).2.mp h
  obtain ⟨h2, e2⟩ := (dig_lt (hp 2 (by decide)) (hq 2 (by decide))).2.mp h1
  obtain ⟨e0, e1⟩ := (dig_lt (hp 1 (by decide)) (hq 1 (by decide))).2.mp h2
  intro x hx
  rcases four hx with rfl | rfl | rfl | rfl
  · exact e0
  · exact e1
  · exact e2
  · exact e3
/-- the most, and of these the earliest -/
def bestR (V : (Nat → Nat) → Int) (N : Nat) (p : Nat → Nat) : Prop := (∀ x, x < 4 → p x < N) ∧ ∀ q, (∀ x, x < 4 → q x < N) → V q ≤ V p ∧ (V q = V p → rowN N p ≤ rowN N q)
theorem best_uniq {V : (Nat → Nat) → Int} {N : Nat} {p q : Nat → Nat} (hp : bestR V N p) (hq : bestR V N q) : ∀ x, x < 4 → p x = q x := by
  obtain ⟨p1, p2⟩ := hp
  obtain ⟨q1, q2⟩ := hq
  have a := p2 q q1
  have b := q2 p p1
  have e : V p = V q := Int.le_antisymm b.1 a.1
  exact row_inj p1 q1 (Nat.le_antisymm (a.2 e.symm) (b.2 e))
theorem cl_best {C : Nat → Int} {T : Nat → Nat → Nat → Int} {good : Nat → Bool} {w m : Nat} {q : Nat × Int} (hw : w < 4) (h0 : good 0 = true) (hC : ∀ e, good e = false → C e = C 0 ∧ ∀ x y, T e x y = T 0 x y) (hb : ∀ s x e, good e = false → T s x e = T s x 0) (hq : fewW (fun s => lnV C T w (gRow T good w m s)) (fun s => rowN (m + 1) (gRow T good w m s)) good (m + 1) = some q) : bestR (lnV C T w) (m + 1) (gRow T good w m q.1) := by
  obtain ⟨l1, l2⟩ := few_le _ _ hq
  have l2 : q.2 = lnV C T w (gRow T good w m q.1) := l2
  have hgood : ∀ p : Nat → Nat, (∀ x, x < 4 → p x < m + 1) → good (p w) = true → lnV C T w p ≤ lnV C T w (gRow T good w m q.1) ∧ (lnV C T w p = lnV C T w (gRow T good w m q.1) → rowN (m + 1) (gRow T good w m q.1) ≤ rowN (m + 1) p) := fun p hp hg => by
    obtain ⟨q', e1, e2, e3⟩ := few_dom (f := fun s => lnV C T w (gRow T good w m s)) (pc := fun s => rowN (m + 1) (gRow T good w m s)) (ok := good) (m + 1) (p w) (hp w hw) hg
    rw [hq] at e1
    cases e1
    obtain ⟨g1, g2⟩ := gRow_best (C := C) (T := T) (good := good) (w := w) (m := m) (N := m + 1) h0 hb (fun x hx => Nat.le_of_lt_succ (hp x hx)) (rfl : p w = p w)
    have e2 : lnV C T w (gRow T good w m (p w)) ≤ q.2 := e2
    have e3 : lnV C T w (gRow T good w m (p w)) = q.2 → rowN (m + 1) (gRow T good w m q.1) ≤ rowN (m + 1) (gRow T good w m (p w)) := e3
    rw [l2] at e2 e3
    exact ⟨Int.le_trans g1 e2, fun h => Nat.le_trans (e3 (by omega)) (g2 (by omega))⟩
  refine ⟨fun x hx => ?_, fun p hp => ?_⟩
  · show (if x = w then q.1 else gB (T q.1 x) good m) < m + 1
    have := gB_le (f := T q.1 x) (good := good) m
    split <;> omega
  cases hg : good (p w) with
  | true => exact hgood p hp hg
  | false =>
    have eV := lnV_bad hC hb hg
    have h1 := hgood (setR p w 0) (fun x hx => by
      show (if x = w then 0 else p x) < m + 1
      have := hp x hx
      split <;> omega) (by rw [show setR p w 0 w = 0 from if_pos rfl]; exact h0)
    rw [eV] at h1
    exact ⟨h1.1, fun h => Nat.le_trans (h1.2 h) (row_mono (fun x hx => by
      show (if x = w then 0 else p x) ≤ p x
      split <;> omega))⟩
theorem edW_dom {f : Nat → Int} : ∀ M, 1 ≤ M → (edW f M).1 < M ∧ (edW f M).2 = f (edW f M).1 ∧ ∀ v, v < M → f v ≤ (edW f M).2 ∧ (f v = (edW f M).2 → (edW f M).1 ≤ v)
  | 0, h => absurd h (by decide)
  | M + 1, _ => by
    have e : edW f (M + 1) = if M = 0 ∨ (edW f M).2 < f M then (M, f M) else edW f M := rfl
    rw [e]
    by_cases h0 : M = 0
    · rw [if_pos (Or.inl h0)]
      refine ⟨Nat.lt_succ_self _, rfl, fun v hv => ?_⟩
      have hv0 : v = M := by omega
      rw [hv0]
      exact ⟨Int.le_refl _, fun _ => Nat.le_refl _⟩
    · obtain ⟨i1, i2, i3⟩ := edW_dom (f := f) M (by omega)
      by_cases hc : (edW f M).2 < f M
      · rw [if_pos (Or.inr hc)]
        refine ⟨Nat.lt_succ_self _, rfl, fun v hv => ?_⟩
        show f v ≤ f M ∧ (f v = f M → M ≤ v)
        by_cases hv2 : v = M
        · rw [hv2]
          exact ⟨Int.le_refl _, fun _ => Nat.le_refl _⟩
        · have h3 := (i3 v (by omega)).1
          exact ⟨by omega, fun h => by omega⟩
      · rw [if_neg (show ¬ (M = 0 ∨ (edW f M).2 < f M) from fun h => h.elim h0 hc)]
        refine ⟨by omega, i2, fun v hv => ?_⟩
        by_cases hv2 : v = M
        · rw [hv2]
          exact ⟨by omega, fun h => by omega⟩
        · exact i3 v (by omega)
/-- what is left of a code -/
def lfN (N c : Nat) : Nat → Nat
  | 0 => c
  | j + 1 => lfN N c j / N
def roN (N c : Nat) : Nat → Nat := fun x => lfN N c (3 - x) % N
theorem row_ro {N c : Nat} (hN : 0 < N) (hc : c < N * N * N * N) : rowN N (roN N c) = c := by
  have h1 : c / N < N * N * N := (Nat.div_lt_iff_lt_mul hN).mpr hc
  have h2 : c / N / N < N * N := (Nat.div_lt_iff_lt_mul hN).mpr h1
  have h3 : c / N / N / N < N := (Nat.div_lt_iff_lt_mul hN).mpr h2
  show ((c / N / N / N % N * N + c / N / N % N) * N + c / N % N) * N + c % N = c
  rw [Nat.mod_eq_of_lt h3, Nat.div_add_mod', Nat.div_add_mod', Nat.div_add_mod']
theorem ro_row {N : Nat} {p : Nat → Nat} (hp : ∀ x, x < 4 → p x < N) : ∀ x, x < 4 → roN N (rowN N p) x = p x := by
  have hN : 0 < N := Nat.lt_of_le_of_lt (Nat.zero_le _) (hp 0 (by decide))
  exact row_inj (fun x _ => Nat.mod_lt _ hN) hp (row_ro hN (row_lt hp))
theorem rf_best {C : Nat → Int} {T : Nat → Nat → Nat → Int} {w N : Nat} (hw : w < 4) (hN : 0 < N) : bestR (lnV C T w) N (roN N (edW (fun c => lnV C T w (roN N c)) (N * N * N * N)).1) := by
  have h4 : 1 ≤ N * N * N * N := Nat.mul_pos (Nat.mul_pos (Nat.mul_pos hN hN) hN) hN
  obtain ⟨d1, d2, d3⟩ := edW_dom (f := fun c => lnV C T w (roN N c)) (N * N * N * N) h4
  generalize edW (fun c => lnV C T w (roN N c)) (N * N * N * N) = z at *
  have d2 : z.2 = lnV C T w (roN N z.1) := d2
  refine ⟨fun x _ => Nat.mod_lt _ hN, fun p hp => ?_⟩
  have hV : lnV C T w (roN N (rowN N p)) = lnV C T w p := lnV_ext hw (ro_row hp)
  have e1 : lnV C T w (roN N (rowN N p)) ≤ z.2 := (d3 _ (row_lt hp)).1
  have e2 : lnV C T w (roN N (rowN N p)) = z.2 → z.1 ≤ rowN N p := (d3 _ (row_lt hp)).2
  rw [hV, d2] at e1 e2
  rw [row_ro hN d1]
  exact ⟨e1, e2⟩
