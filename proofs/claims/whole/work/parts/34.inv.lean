/-! what holds between two calls of the law: both programs show the same -/
def iS (I : Nat → Nat → Int32) : Prop := I 1 0 = I 77 4 ∧ I 1 1 = I 77 5 ∧ I 1 2 = I 77 6 ∧ I 1 3 = I 77 7 ∧ I 1 4 = I 77 3 ∧ I 1 5 = I 77 0 ∧ I 1 6 = I 77 1 ∧ I 1 7 = I 77 2 ∧ I 1 8 = I 77 11 ∧ I 1 9 = I 77 49
def iR (I : Nat → Nat → Int32) : Prop := 0 ≤ I 77 0 ∧ I 77 0 ≤ 6 ∧ -1 ≤ I 77 4 ∧ I 77 4 < I 77 0 ∧ 0 ≤ I 77 5 ∧ I 77 5 ≤ 3 ∧ 0 ≤ I 77 6 ∧ I 77 6 ≤ 99 ∧ 0 ≤ I 77 3 ∧ I 77 3 ≤ 9 ∧ -1 ≤ I 77 11 ∧ I 77 11 < I 77 10 ∧ I 77 10 ≤ 5 ∧ 0 ≤ I 77 49 ∧ I 77 49 ≤ 6 ∧ I 0 9 = I 77 10
def iQ (I : Nat → Nat → Int32) : Prop := ∀ k, k < 6 → I 2 k = I 104 k ∧ 0 ≤ I 104 k ∧ I 104 k ≤ 3
def iK (I : Nat → Nat → Int32) : Prop := I 0 3 = I 77 51 ∧ (I 0 3 = 0 ∨ I 0 3 = 1) ∧ (I 0 3 = 1 → (I 3 0 = I 77 57 ∧ I 3 1 = I 77 58 ∧ I 3 2 = I 77 59 ∧ I 3 3 = I 77 60 ∧ I 3 4 = I 77 56 ∧ I 3 5 = I 77 53 ∧ I 3 6 = I 77 54 ∧ I 3 7 = I 77 55 ∧ I 3 8 = I 77 52 ∧ I 3 9 = I 77 61) ∧
  (0 ≤ I 77 53 ∧ I 77 53 ≤ I 77 0 ∧ -1 ≤ I 77 57 ∧ I 77 57 < I 77 53 ∧ 0 ≤ I 77 58 ∧ I 77 58 ≤ 3 ∧ 0 ≤ I 77 59 ∧ I 77 59 ≤ 99 ∧ 0 ≤ I 77 56 ∧ I 77 56 ≤ 9 ∧ -1 ≤ I 77 52 ∧ I 77 52 < I 77 10 ∧ 0 ≤ I 77 61 ∧ I 77 61 ≤ 6) ∧
  ∀ k, k < 6 → I 4 k = I 105 k ∧ 0 ≤ I 105 k ∧ I 105 k ≤ 3)
def iW (I : Nat → Nat → Int32) : Prop := ∀ k, k < 6 → I 7 k = I 78 k ∧ I 8 k = I 79 k ∧ 0 ≤ I 78 k ∧ I 78 k ≤ 9 ∧ 0 ≤ I 79 k ∧ I 79 k ≤ 9
def iT (I : Nat → Nat → Int32) : Prop := I 9 1 = I 77 12 ∧ 0 ≤ I 77 12 ∧ I 77 12 ≤ 100 ∧ ∀ k, k < 100 → 0 ≤ I 10 k ∧ I 10 k ≤ 255 ∧ I 80 k = (I 10 k).toInt8.toInt32
def iG (r : Nat) (I : Nat → Nat → Int32) : Prop := I 0 12 = nI r ∧ I 77 29 = nI r ∧ r ≤ 10 ∧ ∀ k, k < r → I (111 + 3 * k) 0 = nI k ∧ I (111 + 3 * k) 1 = I 91 k ∧ 0 ≤ I 91 k ∧ I 91 k ≤ 6 ∧ I (111 + 3 * k) 2 = I 92 k ∧ 0 ≤ I 92 k ∧ I 92 k ≤ 9 ∧
  (∀ w, w < 4 → I (112 + 3 * k) w = I 93 (4 * k + w) ∧ -1 ≤ I 93 (4 * k + w) ∧ I 93 (4 * k + w) ≤ 5) ∧ (∀ j, j < 5 → I (113 + 3 * k) j = I 94 (5 * k + j) ∧ -1 ≤ I 94 (5 * k + j) ∧ I 94 (5 * k + j) ≤ 5)
def iP (I : Nat → Nat → Int32) (J : Nat → Nat → Int64) : Prop := ∀ t, t < 6 → I (65 + 2 * t) 0 = I 107 t ∧ -1 ≤ I 107 t ∧ I 107 t ≤ 4 ∧ I (65 + 2 * t) 1 = I 108 t ∧ 0 ≤ I 108 t ∧ I 108 t ≤ 60 ∧ ∀ k, k < 60 → J (66 + 2 * t) k = J 109 (60 * t + k) ∧ (I 107 t = 0 → -128 ≤ J 109 (60 * t + k) ∧ J 109 (60 * t + k) ≤ 127) ∧ (I 107 t = -1 → I 108 t = 0)
def iB (I : Nat → Nat → Int32) : Prop := I 0 18 = I 77 63 ∧ 0 ≤ I 77 63 ∧ I 77 63 ≤ 1000 ∧ ∀ k, k < 20 → I 29 k = I 106 k
def iA (I : Nat → Nat → Int32) : Prop := I 21 1 = 2 ∧ I 24 1 = 5 ∧ I 24 2 = 0 ∧ 0 ≤ I 92 10 ∧ I 92 10 ≤ 9
def aInv (r : Nat) (A : Nat → List Cl) (I : Nat → Nat → Int32) (J : Nat → Nat → Int64) : Prop := iS I ∧ iR I ∧ iQ I ∧ iK I ∧ iW I ∧ iT I ∧ iG r I ∧ iP I J ∧ iB I ∧ iA I ∧ iU I ∧ iC A I ∧ iX A I
/-- a heap between two calls of the law -/
def aIn (h : aH) : Prop := ∃ r rr A I J, h = aHp r rr I J ∧ aInv r A I J
theorem vin {j : Int32} {n : Nat} (N : Int32) (hN : N.toInt = n) (h0 : 0 ≤ j) (h1 : j < N) : vp_in j n := by
  have a1 := Int32.le_iff_toInt_le.mp h0
  have a2 := Int32.lt_iff_toInt_lt.mp h1
  rw [hN] at a2
  rw [show (0 : Int32).toInt = 0 from rfl] at a1
  exact vp_in_iff.mpr ⟨a1, a2⟩
theorem vlt {j : Int32} {n : Nat} (h : vp_in j n) : j.toNatClampNeg < n := Nat.not_le.mp fun q => h (Or.inr q)
section CB
variable {L : Nat} {xs : Nat → Int32} {fv : Value} {d : Nat} {P : Option Value → aH → Prop}
/-- both programs answer a call alike, and what holds between calls holds again -/
def aPair (L : Nat) (xs : Nat → Int32) (fv : Value) (d yx ym : Nat) (as : List Value) (h : aH) : Prop := aCl L xs fv 111 d yx (.ref 0 :: as) h (fun rv h1 => (h1.1 = h.1 ∨ yx = 41) ∧ ∃ v, rv = some v ∧ aCl L xs fv 111 d ym (.ref 77 :: as) h1 (fun rv2 h2 => h2.1 = h1.1 ∧ rv2 = some v ∧ aIn h2))
end CB
