/-! what the static arrays hold, by places -/
section ZZ
variable {xs : Nat → Int32}
theorem azA0 : (aZ0 xs).1 1000 (Int32.toNatClampNeg 0) = (-1) := rfl
theorem azA1 : (aZ0 xs).1 1000 (Int32.toNatClampNeg 1) = 0 := rfl
theorem azA2 : (aZ0 xs).1 1000 (Int32.toNatClampNeg 2) = 0 := rfl
theorem azA3 : (aZ0 xs).1 1000 (Int32.toNatClampNeg 3) = 1 := rfl
theorem azA4 : (aZ0 xs).1 1000 (Int32.toNatClampNeg 4) = 2 := rfl
theorem azA5 : (aZ0 xs).1 1000 (Int32.toNatClampNeg 5) = 0 := rfl
theorem azA6 : (aZ0 xs).1 1000 (Int32.toNatClampNeg 6) = 5 := rfl
theorem azB0 : (aZ0 xs).1 1001 (Int32.toNatClampNeg 0) = 10 := rfl
theorem azB1 : (aZ0 xs).1 1001 (Int32.toNatClampNeg 1) = 11 := rfl
theorem azB2 : (aZ0 xs).1 1001 (Int32.toNatClampNeg 2) = 12 := rfl
theorem azB3 : (aZ0 xs).1 1001 (Int32.toNatClampNeg 3) = 0 := rfl
theorem azB4 : (aZ0 xs).1 1001 (Int32.toNatClampNeg 4) = 20 := rfl
theorem azB5 : (aZ0 xs).1 1001 (Int32.toNatClampNeg 5) = 0 := rfl
theorem azB6 : (aZ0 xs).1 1001 (Int32.toNatClampNeg 6) = 30 := rfl
theorem azB7 : (aZ0 xs).1 1001 (Int32.toNatClampNeg 7) = 0 := rfl
theorem azB8 : (aZ0 xs).1 1001 (Int32.toNatClampNeg 8) = 0 := rfl
theorem azB9 : (aZ0 xs).1 1001 (Int32.toNatClampNeg 9) = 50 := rfl
theorem azB10 : (aZ0 xs).1 1001 (Int32.toNatClampNeg 10) = 51 := rfl
theorem azB11 : (aZ0 xs).1 1001 (Int32.toNatClampNeg 11) = 0 := rfl
theorem azB12 : (aZ0 xs).1 1001 (Int32.toNatClampNeg 12) = 0 := rfl
theorem azB13 : (aZ0 xs).1 1001 (Int32.toNatClampNeg 13) = 0 := rfl
theorem azB14 : (aZ0 xs).1 1001 (Int32.toNatClampNeg 14) = 60 := rfl
theorem azB15 : (aZ0 xs).1 1001 (Int32.toNatClampNeg 15) = 0 := rfl
theorem azB16 : (aZ0 xs).1 1001 (Int32.toNatClampNeg 16) = 0 := rfl
theorem azB17 : (aZ0 xs).1 1001 (Int32.toNatClampNeg 17) = 40 := rfl
theorem azB18 : (aZ0 xs).1 1001 (Int32.toNatClampNeg 18) = 71 := rfl
theorem azB19 : (aZ0 xs).1 1001 (Int32.toNatClampNeg 19) = 70 := rfl
theorem azB20 : (aZ0 xs).1 1001 (Int32.toNatClampNeg 20) = 0 := rfl
theorem azW0 : (aZ0 xs).2 1002 (Int32.toNatClampNeg 0) = 1 := rfl
theorem azW1 : (aZ0 xs).2 1002 (Int32.toNatClampNeg 1) = 1 := rfl
theorem azW2 : (aZ0 xs).2 1002 (Int32.toNatClampNeg 2) = 1000 := rfl
theorem azW3 : (aZ0 xs).2 1002 (Int32.toNatClampNeg 3) = 1000000 := rfl
theorem azW4 : (aZ0 xs).2 1002 (Int32.toNatClampNeg 4) = 1000000000 := rfl
theorem seven {s : Int32} (h0 : 0 ≤ s) (h1 : s ≤ 6) : s = 0 ∨ s = 1 ∨ s = 2 ∨ s = 3 ∨ s = 4 ∨ s = 5 ∨ s = 6 := by grind
theorem five {s : Int32} (h0 : 0 ≤ s) (h1 : s ≤ 4) : s = 0 ∨ s = 1 ∨ s = 2 ∨ s = 3 ∨ s = 4 := by grind
end ZZ
