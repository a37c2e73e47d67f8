/-! races as lists of clauses: word, number, pair, codes -/
abbrev Cl : Type := Nat × Nat × Nat × List Nat
def tsB (s h w t c : Nat) : Bool :=
  if c / 100 % 3 = 0 then decide ((if c / 300 = 0 then s else if c / 300 = 1 then h else if c / 300 = 2 then w else t) < c % 100)
  else if c / 100 % 3 = 1 then decide ((if c / 300 = 0 then s else if c / 300 = 1 then h else if c / 300 = 2 then w else t) = c % 100)
  else decide (c % 100 < (if c / 300 = 0 then s else if c / 300 = 1 then h else if c / 300 = 2 then w else t))
/-- one code over the truths that wait -/
def evS (s h w t : Nat) (st : List Bool) (c : Nat) : List Bool :=
  if c = 2000 then (match st with | b :: r => (!b) :: r | [] => [])
  else if 2000 < c then (match st with | b :: a :: r => (if c = 2001 then (a && b) else (a || b)) :: r | l => l)
  else tsB s h w t c :: st
/-- how many truths wait behind a code -/
def htS (n c : Nat) : Option Nat :=
  if c = 2000 then (if 1 ≤ n then some n else none)
  else if c = 2001 ∨ c = 2002 then (if 2 ≤ n then some (n - 1) else none)
  else if c < 1200 ∧ n < 12 then some (n + 1) else none
def htL : Nat → List Nat → Option Nat
  | n, [] => some n
  | n, c :: l => match htS n c with | none => none | some m => htL m l
def clT (s h w t : Nat) (q : Cl) : Bool := (q.2.2.2.foldl (evS s h w t) []).headD false
def spN (A : List Cl) (h z s w t : Nat) : Nat := min (if z = 0 then 99 else 100) (A.foldl (fun n q => if q.1 = z ∧ clT s h w t q = true then n + q.2.1 else n) 0)
def lastA (A : List Cl) (w p : Nat) : Nat := A.foldl (fun v q => if q.1 = w ∧ q.2.2.1 = p then q.2.1 else v) 0
def folL (A : List Cl) (a : Nat) : Nat → Nat
  | 0 => 10
  | b + 1 => if b = a then folL A a b else folL A a b - min (folL A a b) (lastA A 3 (4 * a + b))
def folA (A : List Cl) (a b : Nat) : Nat := if b = a then folL A a 4 else min (folL A a b) (lastA A 3 (4 * a + b))
/-- how many codes stand ahead of clause c -/
def stA (A : List Cl) (c : Nat) : Nat := ((A.take c).map (fun q => q.2.2.2.length)).sum
def rcWf (A : List Cl) : Prop := A.length ≤ 10 ∧ stA A A.length ≤ 100 ∧ ∀ q ∈ A, q.1 ≤ 3 ∧ q.2.1 ≤ 99 ∧ q.2.2.1 ≤ 15 ∧ (q.1 ≠ 3 → q.2.2.1 = 0) ∧ (q.1 ≤ 1 → htL 0 q.2.2.2 = some 1) ∧ (1 < q.1 → q.2.2.2 = [])
/-- the reference's sign for a code -/
def rcI (c : Nat) : Int32 := if c = 2000 then -33 else if c = 2001 then -38 else if c = 2002 then -124 else nI (1000 * (c / 300) + c % 300)
def rcR (A : List Cl) (f : Nat) (I : Nat → Nat → Int32) : Prop := I 81 f = nI A.length ∧ ∀ c q, A[c]? = some q → I 82 (10 * f + c) = nI q.1 ∧ I 83 (10 * f + c) = nI q.2.1 ∧ (q.1 = 3 → I 84 (10 * f + c) = nI q.2.2.1) ∧
  (q.1 ≤ 1 → I 85 (10 * f + c) = nI (100 * f + stA A c) ∧ I 86 (10 * f + c) = nI (100 * f + stA A (c + 1)) ∧ ∀ j e, q.2.2.2[j]? = some e → I 87 (100 * f + stA A c + j) = rcI e)
def rcC (A : List Cl) (b : Nat) (I : Nat → Nat → Int32) : Prop := I b 0 = nI A.length ∧ ∀ c q, A[c]? = some q → I (b + 1) c = nI q.1 ∧ I (b + 2) c = nI q.2.1 ∧ I (b + 3) c = nI q.2.2.1 ∧ I (b + 4) c = nI (stA A (c + 1)) ∧ ∀ j e, q.2.2.2[j]? = some e → I (b + 5) (stA A c + j) = nI e
def rcD (A : List Cl) (b : Nat) (I : Nat → Nat → Int32) : Prop := I b 7 = nI (lastA A 2 0) ∧ ∀ a k, a < 4 → k < 4 → I (b + 6) (4 * a + k) = nI (folA A a k)
/-- which race holds -/
def hol (A : Nat → List Cl) (I : Nat → Nat → Int32) : List Cl := if I 77 11 < 0 then [] else A (I 77 11).toNatClampNeg
def iU (I : Nat → Nat → Int32) : Prop := (0 ≤ I 77 4 → bt (I 77 1) (I 77 4).toNatClampNeg = true ∧ bt (I 77 2) (I 77 4).toNatClampNeg = true) ∧ (I 77 51 = 1 → 0 ≤ I 77 57 → bt (I 77 54) (I 77 57).toNatClampNeg = true ∧ bt (I 77 55) (I 77 57).toNatClampNeg = true)
def iC (A : Nat → List Cl) (I : Nat → Nat → Int32) : Prop := (∀ f, f < 5 → nI f < I 77 10 → rcWf (A f) ∧ rcR (A f) f I ∧ rcC (A f) (30 + 7 * f) I ∧ rcD (A f) (30 + 7 * f) I) ∧ rcC [] 12 I ∧ rcD [] 12 I
def iX (A : Nat → List Cl) (I : Nat → Nat → Int32) : Prop := ∀ z s w t, z < 2 → s < 6 → w < 4 → t < 24 → (I 19 (((z * 6 + s) * 4 + w) * 24 + t) = -1 ∨ (nI s < I 77 0 ∧ I 19 (((z * 6 + s) * 4 + w) * 24 + t) = nI (spN (hol A I) (I 78 s).toNatClampNeg z s w t)))
theorem rcR_c {A : List Cl} {f : Nat} {I I' : Nat → Nat → Int32} (h1 : I' 81 = I 81) (h2 : I' 82 = I 82) (h3 : I' 83 = I 83) (h4 : I' 84 = I 84) (h5 : I' 85 = I 85) (h6 : I' 86 = I 86) (h7 : I' 87 = I 87) (h : rcR A f I) : rcR A f I' := by
  unfold rcR at h ⊢
  rw [h1, h2, h3, h4, h5, h6, h7]
  exact h
theorem rcC_c {A : List Cl} {b : Nat} {I I' : Nat → Nat → Int32} (hj : ∀ j, b ≤ j → j < b + 7 → I' j = I j) (h : rcC A b I) : rcC A b I' := by
  unfold rcC at h ⊢
  rw [hj b (by omega) (by omega), hj (b + 1) (by omega) (by omega), hj (b + 2) (by omega) (by omega), hj (b + 3) (by omega) (by omega), hj (b + 4) (by omega) (by omega), hj (b + 5) (by omega) (by omega)]
  exact h
theorem rcD_c {A : List Cl} {b : Nat} {I I' : Nat → Nat → Int32} (hj : ∀ j, b ≤ j → j < b + 7 → I' j = I j) (h : rcD A b I) : rcD A b I' := by
  unfold rcD at h ⊢
  rw [hj b (by omega) (by omega), hj (b + 6) (by omega) (by omega)]
  exact h
theorem iC_c {A : Nat → List Cl} {I I' : Nat → Nat → Int32} (h0 : I' 77 10 = I 77 10) (h1 : I' 81 = I 81) (h2 : I' 82 = I 82) (h3 : I' 83 = I 83) (h4 : I' 84 = I 84) (h5 : I' 85 = I 85) (h6 : I' 86 = I 86) (h7 : I' 87 = I 87) (h8 : ∀ j, 12 ≤ j ∧ j < 19 → I' j = I j) (h9 : ∀ j, 30 ≤ j ∧ j < 65 → I' j = I j) (h : iC A I) : iC A I' := by
  refine ⟨fun f hf hr => ?_, rcC_c (fun j a b => h8 j ⟨a, b⟩) h.2.1, rcD_c (fun j a b => h8 j ⟨a, b⟩) h.2.2⟩
  rw [h0] at hr
  obtain ⟨a, b, c, d⟩ := h.1 f hf hr
  exact ⟨a, rcR_c h1 h2 h3 h4 h5 h6 h7 b, rcC_c (fun j a b => h9 j ⟨by omega, by omega⟩) c, rcD_c (fun j a b => h9 j ⟨by omega, by omega⟩) d⟩
theorem iX_c {A : Nat → List Cl} {I I' : Nat → Nat → Int32} (h0 : I' 77 0 = I 77 0) (h1 : I' 77 11 = I 77 11) (h2 : I' 19 = I 19) (h3 : I' 78 = I 78) (h : iX A I) : iX A I' := by
  unfold iX hol at h ⊢
  rw [h0, h1, h2, h3]
  exact h
