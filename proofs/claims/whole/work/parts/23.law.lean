/-- what the numbered cells are: a kind and a size -/
def akT (i : Nat) : Nat × Nat := (bif Nat.blt i 55 then (bif Nat.blt i 27 then (bif Nat.blt i 13 then (bif Nat.blt i 6 then (bif Nat.blt i 3 then (bif Nat.blt i 1 then (5, 19) else (bif Nat.blt i 2 then (3, 11) else (7, 6))) else (bif Nat.blt i 4 then (3, 11) else (bif Nat.blt i 5 then (7, 6) else (3, 11)))) else (bif Nat.blt i 9 then (bif Nat.blt i 7 then (7, 6) else (bif Nat.blt i 8 then (7, 6) else (7, 6))) else (bif Nat.blt i 11 then (bif Nat.blt i 10 then (1, 5) else (7, 100)) else (bif Nat.blt i 12 then (10, 5) else (0, 9))))) else (bif Nat.blt i 20 then (bif Nat.blt i 16 then (bif Nat.blt i 14 then (7, 10) else (bif Nat.blt i 15 then (7, 10) else (7, 10))) else (bif Nat.blt i 18 then (bif Nat.blt i 17 then (7, 10) else (7, 100)) else (bif Nat.blt i 19 then (7, 16) else (7, 1152)))) else (bif Nat.blt i 23 then (bif Nat.blt i 21 then (11, 10) else (bif Nat.blt i 22 then (2, 5) else (7, 4))) else (bif Nat.blt i 25 then (bif Nat.blt i 24 then (7, 5) else (2, 5)) else (bif Nat.blt i 26 then (7, 4) else (7, 5)))))) else (bif Nat.blt i 41 then (bif Nat.blt i 34 then (bif Nat.blt i 30 then (bif Nat.blt i 28 then (7, 4) else (bif Nat.blt i 29 then (12, 6) else (7, 20))) else (bif Nat.blt i 32 then (bif Nat.blt i 31 then (0, 9) else (7, 10)) else (bif Nat.blt i 33 then (7, 10) else (7, 10)))) else (bif Nat.blt i 37 then (bif Nat.blt i 35 then (7, 10) else (bif Nat.blt i 36 then (7, 100) else (7, 16))) else (bif Nat.blt i 39 then (bif Nat.blt i 38 then (0, 9) else (7, 10)) else (bif Nat.blt i 40 then (7, 10) else (7, 10))))) else (bif Nat.blt i 48 then (bif Nat.blt i 44 then (bif Nat.blt i 42 then (7, 10) else (bif Nat.blt i 43 then (7, 100) else (7, 16))) else (bif Nat.blt i 46 then (bif Nat.blt i 45 then (0, 9) else (7, 10)) else (bif Nat.blt i 47 then (7, 10) else (7, 10)))) else (bif Nat.blt i 51 then (bif Nat.blt i 49 then (7, 10) else (bif Nat.blt i 50 then (7, 100) else (7, 16))) else (bif Nat.blt i 53 then (bif Nat.blt i 52 then (0, 9) else (7, 10)) else (bif Nat.blt i 54 then (7, 10) else (7, 10))))))) else (bif Nat.blt i 83 then (bif Nat.blt i 69 then (bif Nat.blt i 62 then (bif Nat.blt i 58 then (bif Nat.blt i 56 then (7, 10) else (bif Nat.blt i 57 then (7, 100) else (7, 16))) else (bif Nat.blt i 60 then (bif Nat.blt i 59 then (0, 9) else (7, 10)) else (bif Nat.blt i 61 then (7, 10) else (7, 10)))) else (bif Nat.blt i 65 then (bif Nat.blt i 63 then (7, 10) else (bif Nat.blt i 64 then (7, 100) else (7, 16))) else (bif Nat.blt i 67 then (bif Nat.blt i 66 then (4, 3) else (8, 60)) else (bif Nat.blt i 68 then (4, 3) else (8, 60))))) else (bif Nat.blt i 76 then (bif Nat.blt i 72 then (bif Nat.blt i 70 then (4, 3) else (bif Nat.blt i 71 then (8, 60) else (4, 3))) else (bif Nat.blt i 74 then (bif Nat.blt i 73 then (8, 60) else (4, 3)) else (bif Nat.blt i 75 then (8, 60) else (4, 3)))) else (bif Nat.blt i 79 then (bif Nat.blt i 77 then (8, 60) else (bif Nat.blt i 78 then (6, 69) else (7, 6))) else (bif Nat.blt i 81 then (bif Nat.blt i 80 then (7, 6) else (7, 100)) else (bif Nat.blt i 82 then (7, 5) else (7, 50)))))) else (bif Nat.blt i 97 then (bif Nat.blt i 90 then (bif Nat.blt i 86 then (bif Nat.blt i 84 then (7, 50) else (bif Nat.blt i 85 then (7, 50) else (7, 50))) else (bif Nat.blt i 88 then (bif Nat.blt i 87 then (7, 50) else (7, 500)) else (bif Nat.blt i 89 then (7, 101) else (9, 100)))) else (bif Nat.blt i 93 then (bif Nat.blt i 91 then (7, 16) else (bif Nat.blt i 92 then (7, 11) else (7, 11))) else (bif Nat.blt i 95 then (bif Nat.blt i 94 then (7, 44) else (7, 55)) else (bif Nat.blt i 96 then (7, 5) else (7, 5))))) else (bif Nat.blt i 104 then (bif Nat.blt i 100 then (bif Nat.blt i 98 then (7, 5) else (bif Nat.blt i 99 then (7, 5) else (7, 5))) else (bif Nat.blt i 102 then (bif Nat.blt i 101 then (7, 5) else (7, 5)) else (bif Nat.blt i 103 then (8, 5) else (7, 4)))) else (bif Nat.blt i 107 then (bif Nat.blt i 105 then (7, 6) else (bif Nat.blt i 106 then (7, 6) else (7, 20))) else (bif Nat.blt i 109 then (bif Nat.blt i 108 then (7, 6) else (7, 6)) else (bif Nat.blt i 110 then (8, 360) else (8, 60))))))))
def akR (r : Nat) : Nat × Nat := bif Nat.beq r 0 then (2, 5) else bif Nat.beq r 1 then (7, 4) else (7, 5)
def ak0 (i : Nat) : Nat × Nat := bif Nat.blt i 111 then akT i else bif Nat.blt i 141 then akR ((i - 111) % 3) else bif Nat.blt i 1000 then (12, 0) else bif Nat.beq i 1000 then (13, 7) else bif Nat.beq i 1001 then (13, 21) else bif Nat.beq i 1002 then (14, 5) else bif Nat.beq i 2000 || (Nat.beq i 2001 || (Nat.beq i 2002 || Nat.beq i 2003)) then (15, 0) else bif Nat.beq i 2100 then (16, 3) else bif Nat.beq i 2101 || (Nat.beq i 2102 || Nat.beq i 2103) then (16, 5) else (12, 0)
def akd (L i : Nat) : Nat × Nat := bif Nat.beq i 1003 then (13, L) else ak0 i
def azA : List Int32 := [(-1), 0, 0, 1, 2, 0, 5]
def azB : List Int32 := [10, 11, 12, 0, 20, 0, 30, 0, 0, 50, 51, 0, 0, 0, 60, 0, 0, 40, 71, 70, 0]
def azW : List Int64 := [1, 1, 1000, 1000000, 1000000000]
def azS : List (List Int32) := [[103, 111, 32], [116, 101, 97, 114, 32], [108, 111, 115, 101, 32], [119, 105, 110, 100, 32]]
/-- what the static arrays hold: the script xs at 1003 -/
def aZ0 (xs : Nat → Int32) : aZ := (fun i j => bif Nat.beq i 1003 then xs j else bif Nat.beq i 1000 then azA.getD j 0 else bif Nat.beq i 1001 then azB.getD j 0 else (azS.getD (i - 2100) []).getD j 0, fun _ j => azW.getD j 0)
def aMl (y : Nat) : Nat := (mtN y).2.2.1
def aH0 : aH := (0, fun _ _ => 0, fun _ _ => 0, fun _ _ => none)
/-- THE LAW, over the abstract machine -/
def aPure : Prop := ∀ (L : Nat) (xs : Nat → Int32) (fv : Value), (fv = .null ∨ fv = .ref 3000) → L ≤ 3072 → ∃ (F : Nat) (hh : aH), aRun (akd L) (aZ0 xs) 0 (aEx (akd L) (aZ0 xs) 0 aMl (cds fv) 40) cd187 F (0, [(0, .ref 1003)], [], aH0) (some (.int 1)) hh ∧ hh.1 ≤ 141
theorem akd_ne {L i : Nat} (h : i ≠ 1003) : akd L i = ak0 i := by
  unfold akd
  cases hb : Nat.beq i 1003 with
  | false => rfl
  | true => exact absurd (Nat.eq_of_beq_eq_true hb) h
theorem ak0_small : ∀ i, i < 141 → (ak0 i).1 < 13 ∧ (ak0 i).2 ≤ 2000 ∧ ((ak0 i).1 < 7 → ∃ q, vwCl[(ak0 i).1]? = some q ∧ q.2.2 = (ak0 i).2) := by
  have h : ∀ i, i < 141 → (ak0 i).1 < 13 ∧ (ak0 i).2 ≤ 2000 ∧ ((ak0 i).1 < 7 → (vwCl.map (fun q => q.2.2))[(ak0 i).1]? = some (ak0 i).2) := by decide +kernel
  intro i hi
  obtain ⟨h1, h2, h3⟩ := h i hi
  refine ⟨h1, h2, fun h7 => ?_⟩
  have h4 := h3 h7
  rw [List.getElem?_map] at h4
  cases hq : vwCl[(ak0 i).1]? with
  | none => rw [hq] at h4; cases h4
  | some q => rw [hq] at h4; exact ⟨q, rfl, Option.some.inj h4⟩
theorem blt_f {i n : Nat} (h : n ≤ i) : Nat.blt i n = false := by
  cases hb : Nat.blt i n with
  | false => rfl
  | true =>
    have h1 : i + 1 ≤ n := Nat.le_of_ble_eq_true hb
    omega
theorem blt_t {i n : Nat} (h : i < n) : Nat.blt i n = true := Nat.ble_eq_true_of_le h
theorem ak0_mid {i : Nat} (h1 : 141 ≤ i) (h2 : i < 1000) : ak0 i = (12, 0) := by
  unfold ak0
  rw [blt_f (show 111 ≤ i by omega), blt_f (show 141 ≤ i by omega), blt_t h2]
  rfl
theorem ak0_far {i : Nat} (h : 1000 ≤ i) : (ak0 i).1 < 20 ∧ 7 ≤ (ak0 i).1 := by
  unfold ak0
  rw [blt_f (show 111 ≤ i by omega), blt_f (show 141 ≤ i by omega), blt_f h]
  generalize Nat.beq i 1000 = b1
  generalize Nat.beq i 1001 = b2
  generalize Nat.beq i 1002 = b3
  generalize (Nat.beq i 2000 || (Nat.beq i 2001 || (Nat.beq i 2002 || Nat.beq i 2003))) = b4
  generalize Nat.beq i 2100 = b5
  generalize (Nat.beq i 2101 || (Nat.beq i 2102 || Nat.beq i 2103)) = b6
  simp only [cond_false]
  revert b1 b2 b3 b4 b5 b6
  decide
theorem akd_20 (L i : Nat) : (akd L i).1 < 20 := by
  by_cases h : i = 1003
  · subst h; exact (by decide : 13 < 20)
  · rw [akd_ne h]
    by_cases h1 : i < 141
    · exact Nat.lt_of_lt_of_le (ak0_small i h1).1 (by decide)
    · by_cases h2 : i < 1000
      · rw [ak0_mid (by omega) h2]; decide
      · exact (ak0_far (by omega)).1
theorem akd_13 (L i : Nat) (h13 : 13 ≤ (akd L i).1) : 1000 ≤ i := by
  by_cases h : i = 1003
  · omega
  · rw [akd_ne h] at h13
    by_cases h1 : i < 141
    · have := (ak0_small i h1).1; omega
    · by_cases h2 : i < 1000
      · rw [ak0_mid (by omega) h2] at h13; exact absurd h13 (by decide)
      · omega
theorem akd_7 (L i : Nat) (h7 : (akd L i).1 < 7) : ∃ C T, vwCl[(akd L i).1]? = some (C, T, (akd L i).2) := by
  by_cases h : i = 1003
  · subst h; exact absurd h7 (by show ¬ 13 < 7; decide)
  · rw [akd_ne h] at h7 ⊢
    by_cases h1 : i < 141
    · obtain ⟨⟨C, T, N⟩, hq, rfl⟩ := (ak0_small i h1).2.2 h7
      exact ⟨C, T, hq⟩
    · by_cases h2 : i < 1000
      · rw [ak0_mid (by omega) h2] at h7; exact absurd h7 (by decide)
      · have := (ak0_far (i := i) (by omega)).2; omega
theorem aZs_bound {kd : Nat → Nat × Nat} {c : Nat} : ∀ n, (∀ i, i < n → (kd i).2 ≤ c) → aZs kd n ≤ n * c
  | 0, _ => Nat.zero_le _
  | n + 1, h => by
    have h1 := aZs_bound n (fun i hi => h i (Nat.lt_succ_of_lt hi))
    have h2 := h n (Nat.lt_succ_self n)
    show aZs kd n + (kd n).2 ≤ (n + 1) * c
    rw [Nat.succ_mul]; omega
theorem akd_zs (L : Nat) {n : Nat} (hn : n ≤ 141) : aZs (akd L) n ≤ 2000 * 1000 := by
  refine Nat.le_trans (aZs_bound (c := 2000) n (fun i hi => ?_)) ?_
  · rw [akd_ne (by omega)]; exact (ak0_small i (by omega)).2.1
  · omega

