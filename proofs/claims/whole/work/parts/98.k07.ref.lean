/-! the second of the two is made -/
def stR2 : List (Nat × Nat × Nat) := [(77, 8, 78), (77, 9, 79), (77, 15, 80), (77, 16, 81), (77, 17, 82), (77, 18, 83), (77, 19, 84), (77, 20, 85), (77, 21, 86), (77, 22, 87), (77, 23, 88), (77, 27, 89), (77, 28, 90), (77, 30, 91), (77, 31, 92), (77, 32, 93), (77, 33, 94), (77, 36, 95), (77, 37, 96), (77, 38, 97), (77, 39, 98), (77, 40, 99), (77, 41, 100), (77, 42, 101), (77, 43, 102), (77, 48, 103), (77, 50, 104), (77, 62, 105), (77, 64, 106), (77, 65, 107), (77, 66, 108), (77, 67, 109), (77, 68, 110)]
def stI2 (I : Nat → Nat → Int32) : Nat → Nat → Int32 := (up2 (up2 (up2 (up2 (up2 (up2 (up2 (up2 (up2 (up2 (up2 (up2 (up2 (up2 (up2 (up2 (up2 (up2 (up2 (up2 (up2 (up2 (up2 (up2 (up2 (up2 (up2 (up2 (up2 (up2 (up2 (up2 (up2 (up2 (up2 (up2 (up2 (up2 (up2 I 77 0 (0)) 77 1 (0)) 77 2 (0)) 77 3 (4)) 77 4 (-1)) 77 5 (0)) 77 6 (0)) 77 7 (0)) 77 10 (0)) 77 11 (-1)) 77 12 (0)) 77 13 (0)) 77 14 (0)) 77 24 (0)) 77 25 (0)) 77 26 (0)) 77 29 (0)) 77 34 (0)) 77 35 (0)) 77 47 (0)) 77 49 (0)) 77 51 (0)) 77 52 (-1)) 77 53 (0)) 77 54 (0)) 77 55 (0)) 77 56 (0)) 77 57 (-1)) 77 58 (0)) 77 59 (0)) 77 60 (0)) 77 61 (0)) 77 63 (0)) 107 0 (-1)) 107 1 (-1)) 107 2 (-1)) 107 3 (-1)) 107 4 (-1)) 107 5 (-1))
def stJ2 (J : Nat → Nat → Int64) : Nat → Nat → Int64 := (up2 (up2 (up2 J 77 44 (0)) 77 45 (0)) 77 46 (1))
section SY
theorem go_putLx {L : Nat} {xs : Nat → Int32} {fv : Value} {n0 d : Nat} {cd : Nat → Option aI} {P : Option Value → aH → Prop} {pc nx a b : Nat} {v : Value} {ls : aL} {hn : Nat} {hI : Nat → Nat → Int32} {hJ : Nat → Nat → Int64} {hR : Nat → Nat → Option Nat} {z i : Nat} {x : Int64} {r : List Value} (hc : cd pc = some (.putfield z, nx, a, b, 1, v)) (hl : i < hn) (hk : (akd L i).1 = a) (k : aTo L xs fv n0 d cd (nx, ls, r, (hn, hI, up2 hJ i b x, hR)) P) : aTo L xs fv n0 d cd (pc, ls, .long x :: .ref i :: r, (hn, hI, hJ, hR)) P := by
  refine go_st 1 ?_ k
  unfold aStN
  dsimp only
  rw [hc]
  dsimp only [aStp]
  rw [blt_t hl, hk, show Nat.beq a a = true from Nat.beq_refl a, Bool.or_true]
  rfl
variable {L : Nat} {xs : Nat → Int32} {fv : Value} {d : Nat} {P : Option Value → aH → Prop} {I : Nat → Nat → Int32} {J : Nat → Nat → Int64} {R : Nat → Nat → Option Nat}
set_option maxHeartbeats 16000000 in
set_option maxRecDepth 4000 in
theorem in_ref (hz0 : zrH 78 I J R) (K : zrH 111 (stI2 I) (stJ2 J) (wrR stR2 R) → P none (111, stI2 I, stJ2 J, wrR stR2 R)) : aCl L xs fv 0 (d + 1) 90 [.ref 77] (78, I, J, R) P := by
  refine cl_of rfl (Nat.zero_le _) ?_
  refine go_v (cd := cd90) [] 9 rfl ?_
  refine go_oinit (cd := cd90) rfl rfl ?_
  refine go_v (cd := cd90) [6] 9 rfl ?_
  refine go_putI (cd := cd90) rfl (show 77 < _ by decide) rfl ?_
  refine go_v (cd := cd90) [11] 9 rfl ?_
  refine go_putI (cd := cd90) rfl (show 77 < _ by decide) rfl ?_
  refine go_v (cd := cd90) [16] 9 rfl ?_
  refine go_putI (cd := cd90) rfl (show 77 < _ by decide) rfl ?_
  refine go_v (cd := cd90) [21] 9 rfl ?_
  refine go_putI (cd := cd90) rfl (show 77 < _ by decide) rfl ?_
  refine go_v (cd := cd90) [26] 9 rfl ?_
  refine go_putI (cd := cd90) rfl (show 77 < _ by decide) rfl ?_
  refine go_v (cd := cd90) [31] 9 rfl ?_
  refine go_putI (cd := cd90) rfl (show 77 < _ by decide) rfl ?_
  refine go_v (cd := cd90) [36] 9 rfl ?_
  refine go_putI (cd := cd90) rfl (show 77 < _ by decide) rfl ?_
  refine go_v (cd := cd90) [41] 9 rfl ?_
  refine go_putI (cd := cd90) rfl (show 77 < _ by decide) rfl ?_
  refine go_v (cd := cd90) [] 200 rfl ?_
  refine gz_nar (cd := cd90) (zr_I (zr_I (zr_I (zr_I (zr_I (zr_I (zr_I (zr_I hz0 (show 77 < _ by decide)) (show 77 < _ by decide)) (show 77 < _ by decide)) (show 77 < _ by decide)) (show 77 < _ by decide)) (show 77 < _ by decide)) (show 77 < _ by decide)) (show 77 < _ by decide)) rfl (by decide) rfl (by decide) (by decide) ⟨Or.inl (by decide), trivial⟩ ⟨Or.inl (by decide), trivial⟩ (fun hz1 => ?_)
  refine go_putR (cd := cd90) rfl (show 77 < _ by decide) rfl (show 78 < _ by decide) ?_
  refine go_v (cd := cd90) [] 200 rfl ?_
  refine gz_nar (cd := cd90) (zr_R hz1 (show 77 < _ by decide)) rfl (by decide) rfl (by decide) (by decide) ⟨Or.inl (by decide), trivial⟩ ⟨Or.inl (by decide), trivial⟩ (fun hz2 => ?_)
  refine go_putR (cd := cd90) rfl (show 77 < _ by decide) rfl (show 79 < _ by decide) ?_
  refine go_v (cd := cd90) [62] 9 rfl ?_
  refine go_putI (cd := cd90) rfl (show 77 < _ by decide) rfl ?_
  refine go_v (cd := cd90) [67] 9 rfl ?_
  refine go_putI (cd := cd90) rfl (show 77 < _ by decide) rfl ?_
  refine go_v (cd := cd90) [72] 9 rfl ?_
  refine go_putI (cd := cd90) rfl (show 77 < _ by decide) rfl ?_
  refine go_v (cd := cd90) [77] 9 rfl ?_
  refine go_putI (cd := cd90) rfl (show 77 < _ by decide) rfl ?_
  refine go_v (cd := cd90) [82] 9 rfl ?_
  refine go_putI (cd := cd90) rfl (show 77 < _ by decide) rfl ?_
  refine go_v (cd := cd90) [] 200 rfl ?_
  refine gz_nar (cd := cd90) (zr_I (zr_I (zr_I (zr_I (zr_I (zr_R hz2 (show 77 < _ by decide)) (show 77 < _ by decide)) (show 77 < _ by decide)) (show 77 < _ by decide)) (show 77 < _ by decide)) (show 77 < _ by decide)) rfl (by decide) rfl (by decide) (by decide) ⟨Or.inl (by decide), trivial⟩ ⟨Or.inl (by decide), trivial⟩ (fun hz3 => ?_)
  refine go_putR (cd := cd90) rfl (show 77 < _ by decide) rfl (show 80 < _ by decide) ?_
  refine go_v (cd := cd90) [] 200 rfl ?_
  refine gz_nar (cd := cd90) (zr_R hz3 (show 77 < _ by decide)) rfl (by decide) rfl (by decide) (by decide) ⟨Or.inl (by decide), trivial⟩ ⟨Or.inl (by decide), trivial⟩ (fun hz4 => ?_)
  refine go_putR (cd := cd90) rfl (show 77 < _ by decide) rfl (show 81 < _ by decide) ?_
  refine go_v (cd := cd90) [] 200 rfl ?_
  refine gz_nar (cd := cd90) (zr_R hz4 (show 77 < _ by decide)) rfl (by decide) rfl (by decide) (by decide) ⟨Or.inl (by decide), trivial⟩ ⟨Or.inl (by decide), trivial⟩ (fun hz5 => ?_)
  refine go_putR (cd := cd90) rfl (show 77 < _ by decide) rfl (show 82 < _ by decide) ?_
  refine go_v (cd := cd90) [] 200 rfl ?_
  refine gz_nar (cd := cd90) (zr_R hz5 (show 77 < _ by decide)) rfl (by decide) rfl (by decide) (by decide) ⟨Or.inl (by decide), trivial⟩ ⟨Or.inl (by decide), trivial⟩ (fun hz6 => ?_)
  refine go_putR (cd := cd90) rfl (show 77 < _ by decide) rfl (show 83 < _ by decide) ?_
  refine go_v (cd := cd90) [] 200 rfl ?_
  refine gz_nar (cd := cd90) (zr_R hz6 (show 77 < _ by decide)) rfl (by decide) rfl (by decide) (by decide) ⟨Or.inl (by decide), trivial⟩ ⟨Or.inl (by decide), trivial⟩ (fun hz7 => ?_)
  refine go_putR (cd := cd90) rfl (show 77 < _ by decide) rfl (show 84 < _ by decide) ?_
  refine go_v (cd := cd90) [] 200 rfl ?_
  refine gz_nar (cd := cd90) (zr_R hz7 (show 77 < _ by decide)) rfl (by decide) rfl (by decide) (by decide) ⟨Or.inl (by decide), trivial⟩ ⟨Or.inl (by decide), trivial⟩ (fun hz8 => ?_)
  refine go_putR (cd := cd90) rfl (show 77 < _ by decide) rfl (show 85 < _ by decide) ?_
  refine go_v (cd := cd90) [] 200 rfl ?_
  refine gz_nar (cd := cd90) (zr_R hz8 (show 77 < _ by decide)) rfl (by decide) rfl (by decide) (by decide) ⟨Or.inl (by decide), trivial⟩ ⟨Or.inl (by decide), trivial⟩ (fun hz9 => ?_)
  refine go_putR (cd := cd90) rfl (show 77 < _ by decide) rfl (show 86 < _ by decide) ?_
  refine go_v (cd := cd90) [] 200 rfl ?_
  refine gz_nar (cd := cd90) (zr_R hz9 (show 77 < _ by decide)) rfl (by decide) rfl (by decide) (by decide) ⟨Or.inl (by decide), trivial⟩ ⟨Or.inl (by decide), trivial⟩ (fun hz10 => ?_)
  refine go_putR (cd := cd90) rfl (show 77 < _ by decide) rfl (show 87 < _ by decide) ?_
  refine go_v (cd := cd90) [] 200 rfl ?_
  refine gz_nar (cd := cd90) (zr_R hz10 (show 77 < _ by decide)) rfl (by decide) rfl (by decide) (by decide) ⟨Or.inl (by decide), trivial⟩ ⟨Or.inl (by decide), trivial⟩ (fun hz11 => ?_)
  refine go_putR (cd := cd90) rfl (show 77 < _ by decide) rfl (show 88 < _ by decide) ?_
  refine go_v (cd := cd90) [159] 9 rfl ?_
  refine go_putI (cd := cd90) rfl (show 77 < _ by decide) rfl ?_
  refine go_v (cd := cd90) [164] 9 rfl ?_
  refine go_putI (cd := cd90) rfl (show 77 < _ by decide) rfl ?_
  refine go_v (cd := cd90) [169] 9 rfl ?_
  refine go_putI (cd := cd90) rfl (show 77 < _ by decide) rfl ?_
  refine go_v (cd := cd90) [] 200 rfl ?_
  refine gz_nar (cd := cd90) (zr_I (zr_I (zr_I (zr_R hz11 (show 77 < _ by decide)) (show 77 < _ by decide)) (show 77 < _ by decide)) (show 77 < _ by decide)) rfl (by decide) rfl (by decide) (by decide) ⟨Or.inl (by decide), trivial⟩ ⟨Or.inl (by decide), trivial⟩ (fun hz12 => ?_)
  refine go_putR (cd := cd90) rfl (show 77 < _ by decide) rfl (show 89 < _ by decide) ?_
  refine go_v (cd := cd90) [] 200 rfl ?_
  refine gz_nar (cd := cd90) (zr_R hz12 (show 77 < _ by decide)) rfl (by decide) rfl (by decide) (by decide) ⟨Or.inl (by decide), trivial⟩ ⟨Or.inl (by decide), trivial⟩ (fun hz13 => ?_)
  refine go_putR (cd := cd90) rfl (show 77 < _ by decide) rfl (show 90 < _ by decide) ?_
  refine go_v (cd := cd90) [190] 9 rfl ?_
  refine go_putI (cd := cd90) rfl (show 77 < _ by decide) rfl ?_
  refine go_v (cd := cd90) [] 200 rfl ?_
  refine gz_nar (cd := cd90) (zr_I (zr_R hz13 (show 77 < _ by decide)) (show 77 < _ by decide)) rfl (by decide) rfl (by decide) (by decide) ⟨Or.inl (by decide), trivial⟩ ⟨Or.inl (by decide), trivial⟩ (fun hz14 => ?_)
  refine go_putR (cd := cd90) rfl (show 77 < _ by decide) rfl (show 91 < _ by decide) ?_
  refine go_v (cd := cd90) [] 200 rfl ?_
  refine gz_nar (cd := cd90) (zr_R hz14 (show 77 < _ by decide)) rfl (by decide) rfl (by decide) (by decide) ⟨Or.inl (by decide), trivial⟩ ⟨Or.inl (by decide), trivial⟩ (fun hz15 => ?_)
  refine go_putR (cd := cd90) rfl (show 77 < _ by decide) rfl (show 92 < _ by decide) ?_
  refine go_v (cd := cd90) [] 200 rfl ?_
  refine gz_nar (cd := cd90) (zr_R hz15 (show 77 < _ by decide)) rfl (by decide) rfl (by decide) (by decide) ⟨Or.inl (by decide), trivial⟩ ⟨Or.inl (by decide), trivial⟩ (fun hz16 => ?_)
  refine go_putR (cd := cd90) rfl (show 77 < _ by decide) rfl (show 93 < _ by decide) ?_
  refine go_v (cd := cd90) [] 200 rfl ?_
  refine gz_nar (cd := cd90) (zr_R hz16 (show 77 < _ by decide)) rfl (by decide) rfl (by decide) (by decide) ⟨Or.inl (by decide), trivial⟩ ⟨Or.inl (by decide), trivial⟩ (fun hz17 => ?_)
  refine go_putR (cd := cd90) rfl (show 77 < _ by decide) rfl (show 94 < _ by decide) ?_
  refine go_v (cd := cd90) [227] 9 rfl ?_
  refine go_putI (cd := cd90) rfl (show 77 < _ by decide) rfl ?_
  refine go_v (cd := cd90) [232] 9 rfl ?_
  refine go_putI (cd := cd90) rfl (show 77 < _ by decide) rfl ?_
  refine go_v (cd := cd90) [] 200 rfl ?_
  refine gz_nar (cd := cd90) (zr_I (zr_I (zr_R hz17 (show 77 < _ by decide)) (show 77 < _ by decide)) (show 77 < _ by decide)) rfl (by decide) rfl (by decide) (by decide) ⟨Or.inl (by decide), trivial⟩ ⟨Or.inl (by decide), trivial⟩ (fun hz18 => ?_)
  refine go_putR (cd := cd90) rfl (show 77 < _ by decide) rfl (show 95 < _ by decide) ?_
  refine go_v (cd := cd90) [] 200 rfl ?_
  refine gz_nar (cd := cd90) (zr_R hz18 (show 77 < _ by decide)) rfl (by decide) rfl (by decide) (by decide) ⟨Or.inl (by decide), trivial⟩ ⟨Or.inl (by decide), trivial⟩ (fun hz19 => ?_)
  refine go_putR (cd := cd90) rfl (show 77 < _ by decide) rfl (show 96 < _ by decide) ?_
  refine go_v (cd := cd90) [] 200 rfl ?_
  refine gz_nar (cd := cd90) (zr_R hz19 (show 77 < _ by decide)) rfl (by decide) rfl (by decide) (by decide) ⟨Or.inl (by decide), trivial⟩ ⟨Or.inl (by decide), trivial⟩ (fun hz20 => ?_)
  refine go_putR (cd := cd90) rfl (show 77 < _ by decide) rfl (show 97 < _ by decide) ?_
  refine go_v (cd := cd90) [] 200 rfl ?_
  refine gz_nar (cd := cd90) (zr_R hz20 (show 77 < _ by decide)) rfl (by decide) rfl (by decide) (by decide) ⟨Or.inl (by decide), trivial⟩ ⟨Or.inl (by decide), trivial⟩ (fun hz21 => ?_)
  refine go_putR (cd := cd90) rfl (show 77 < _ by decide) rfl (show 98 < _ by decide) ?_
  refine go_v (cd := cd90) [] 200 rfl ?_
  refine gz_nar (cd := cd90) (zr_R hz21 (show 77 < _ by decide)) rfl (by decide) rfl (by decide) (by decide) ⟨Or.inl (by decide), trivial⟩ ⟨Or.inl (by decide), trivial⟩ (fun hz22 => ?_)
  refine go_putR (cd := cd90) rfl (show 77 < _ by decide) rfl (show 99 < _ by decide) ?_
  refine go_v (cd := cd90) [] 200 rfl ?_
  refine gz_nar (cd := cd90) (zr_R hz22 (show 77 < _ by decide)) rfl (by decide) rfl (by decide) (by decide) ⟨Or.inl (by decide), trivial⟩ ⟨Or.inl (by decide), trivial⟩ (fun hz23 => ?_)
  refine go_putR (cd := cd90) rfl (show 77 < _ by decide) rfl (show 100 < _ by decide) ?_
  refine go_v (cd := cd90) [] 200 rfl ?_
  refine gz_nar (cd := cd90) (zr_R hz23 (show 77 < _ by decide)) rfl (by decide) rfl (by decide) (by decide) ⟨Or.inl (by decide), trivial⟩ ⟨Or.inl (by decide), trivial⟩ (fun hz24 => ?_)
  refine go_putR (cd := cd90) rfl (show 77 < _ by decide) rfl (show 101 < _ by decide) ?_
  refine go_v (cd := cd90) [] 200 rfl ?_
  refine gz_nar (cd := cd90) (zr_R hz24 (show 77 < _ by decide)) rfl (by decide) rfl (by decide) (by decide) ⟨Or.inl (by decide), trivial⟩ ⟨Or.inl (by decide), trivial⟩ (fun hz25 => ?_)
  refine go_putR (cd := cd90) rfl (show 77 < _ by decide) rfl (show 102 < _ by decide) ?_
  refine go_v (cd := cd90) [293] 9 rfl ?_
  refine go_putLx (cd := cd90) rfl (show 77 < _ by decide) rfl ?_
  refine go_v (cd := cd90) [298] 9 rfl ?_
  refine go_putLx (cd := cd90) rfl (show 77 < _ by decide) rfl ?_
  refine go_v (cd := cd90) [303] 9 rfl ?_
  refine go_putLx (cd := cd90) rfl (show 77 < _ by decide) rfl ?_
  refine go_v (cd := cd90) [308] 9 rfl ?_
  refine go_putI (cd := cd90) rfl (show 77 < _ by decide) rfl ?_
  refine go_v (cd := cd90) [] 200 rfl ?_
  refine gz_nar (cd := cd90) (zr_I (zr_J (zr_J (zr_J (zr_R hz25 (show 77 < _ by decide)) (show 77 < _ by decide)) (show 77 < _ by decide)) (show 77 < _ by decide)) (show 77 < _ by decide)) rfl (by decide) rfl (by decide) (by decide) ⟨Or.inl (by decide), trivial⟩ ⟨Or.inl (by decide), trivial⟩ (fun hz26 => ?_)
  refine go_putR (cd := cd90) rfl (show 77 < _ by decide) rfl (show 103 < _ by decide) ?_
  refine go_v (cd := cd90) [320] 9 rfl ?_
  refine go_putI (cd := cd90) rfl (show 77 < _ by decide) rfl ?_
  refine go_v (cd := cd90) [] 200 rfl ?_
  refine gz_nar (cd := cd90) (zr_I (zr_R hz26 (show 77 < _ by decide)) (show 77 < _ by decide)) rfl (by decide) rfl (by decide) (by decide) ⟨Or.inl (by decide), trivial⟩ ⟨Or.inl (by decide), trivial⟩ (fun hz27 => ?_)
  refine go_putR (cd := cd90) rfl (show 77 < _ by decide) rfl (show 104 < _ by decide) ?_
  refine go_v (cd := cd90) [] 200 rfl ?_
  refine go_putz (cd := cd90) rfl (show 77 < _ by decide) rfl (Or.inl rfl) rfl ?_
  refine go_v (cd := cd90) [338] 9 rfl ?_
  refine go_putI (cd := cd90) rfl (show 77 < _ by decide) rfl ?_
  refine go_v (cd := cd90) [343] 9 rfl ?_
  refine go_putI (cd := cd90) rfl (show 77 < _ by decide) rfl ?_
  refine go_v (cd := cd90) [348] 9 rfl ?_
  refine go_putI (cd := cd90) rfl (show 77 < _ by decide) rfl ?_
  refine go_v (cd := cd90) [353] 9 rfl ?_
  refine go_putI (cd := cd90) rfl (show 77 < _ by decide) rfl ?_
  refine go_v (cd := cd90) [358] 9 rfl ?_
  refine go_putI (cd := cd90) rfl (show 77 < _ by decide) rfl ?_
  refine go_v (cd := cd90) [363] 9 rfl ?_
  refine go_putI (cd := cd90) rfl (show 77 < _ by decide) rfl ?_
  refine go_v (cd := cd90) [368] 9 rfl ?_
  refine go_putI (cd := cd90) rfl (show 77 < _ by decide) rfl ?_
  refine go_v (cd := cd90) [373] 9 rfl ?_
  refine go_putI (cd := cd90) rfl (show 77 < _ by decide) rfl ?_
  refine go_v (cd := cd90) [378] 9 rfl ?_
  refine go_putI (cd := cd90) rfl (show 77 < _ by decide) rfl ?_
  refine go_v (cd := cd90) [383] 9 rfl ?_
  refine go_putI (cd := cd90) rfl (show 77 < _ by decide) rfl ?_
  refine go_v (cd := cd90) [] 200 rfl ?_
  refine gz_nar (cd := cd90) (zr_I (zr_I (zr_I (zr_I (zr_I (zr_I (zr_I (zr_I (zr_I (zr_I (zr_I (zr_R hz27 (show 77 < _ by decide)) (show 77 < _ by decide)) (show 77 < _ by decide)) (show 77 < _ by decide)) (show 77 < _ by decide)) (show 77 < _ by decide)) (show 77 < _ by decide)) (show 77 < _ by decide)) (show 77 < _ by decide)) (show 77 < _ by decide)) (show 77 < _ by decide)) (show 77 < _ by decide)) rfl (by decide) rfl (by decide) (by decide) ⟨Or.inl (by decide), trivial⟩ ⟨Or.inl (by decide), trivial⟩ (fun hz28 => ?_)
  refine go_putR (cd := cd90) rfl (show 77 < _ by decide) rfl (show 105 < _ by decide) ?_
  refine go_v (cd := cd90) [396] 9 rfl ?_
  refine go_putI (cd := cd90) rfl (show 77 < _ by decide) rfl ?_
  refine go_v (cd := cd90) [] 200 rfl ?_
  refine gz_nar (cd := cd90) (zr_I (zr_R hz28 (show 77 < _ by decide)) (show 77 < _ by decide)) rfl (by decide) rfl (by decide) (by decide) ⟨Or.inl (by decide), trivial⟩ ⟨Or.inl (by decide), trivial⟩ (fun hz29 => ?_)
  refine go_putR (cd := cd90) rfl (show 77 < _ by decide) rfl (show 106 < _ by decide) ?_
  refine go_v (cd := cd90) [] 200 rfl ?_
  refine gz_nar (cd := cd90) (zr_R hz29 (show 77 < _ by decide)) rfl (by decide) rfl (by decide) (by decide) ⟨Or.inl (by decide), trivial⟩ ⟨Or.inl (by decide), trivial⟩ (fun hz30 => ?_)
  refine go_v (cd := cd90) [] 200 rfl ?_
  refine go_iast (cd := cd90) rfl (show vp_in (nI 0) _ from nI_vin (n := 6) (by decide) (by decide)) (show 107 < _ by decide) rfl ?_
  rw [show (0 : Int32).toNatClampNeg = 0 from rfl]
  refine go_v (cd := cd90) [] 200 rfl ?_
  refine go_iast (cd := cd90) rfl (show vp_in (nI 1) _ from nI_vin (n := 6) (by decide) (by decide)) (show 107 < _ by decide) rfl ?_
  rw [show (1 : Int32).toNatClampNeg = 1 from rfl]
  refine go_v (cd := cd90) [] 200 rfl ?_
  refine go_iast (cd := cd90) rfl (show vp_in (nI 2) _ from nI_vin (n := 6) (by decide) (by decide)) (show 107 < _ by decide) rfl ?_
  rw [show (2 : Int32).toNatClampNeg = 2 from rfl]
  refine go_v (cd := cd90) [] 200 rfl ?_
  refine go_iast (cd := cd90) rfl (show vp_in (nI 3) _ from nI_vin (n := 6) (by decide) (by decide)) (show 107 < _ by decide) rfl ?_
  rw [show (3 : Int32).toNatClampNeg = 3 from rfl]
  refine go_v (cd := cd90) [] 200 rfl ?_
  refine go_iast (cd := cd90) rfl (show vp_in (nI 4) _ from nI_vin (n := 6) (by decide) (by decide)) (show 107 < _ by decide) rfl ?_
  rw [show (4 : Int32).toNatClampNeg = 4 from rfl]
  refine go_v (cd := cd90) [] 200 rfl ?_
  refine go_iast (cd := cd90) rfl (show vp_in (nI 5) _ from nI_vin (n := 6) (by decide) (by decide)) (show 107 < _ by decide) rfl ?_
  rw [show (5 : Int32).toNatClampNeg = 5 from rfl]
  refine go_putR (cd := cd90) rfl (show 77 < _ by decide) rfl (show 107 < _ by decide) ?_
  refine go_v (cd := cd90) [] 200 rfl ?_
  refine gz_nar (cd := cd90) (zr_R (zr_I (zr_I (zr_I (zr_I (zr_I (zr_I hz30 (show 107 < _ by decide)) (show 107 < _ by decide)) (show 107 < _ by decide)) (show 107 < _ by decide)) (show 107 < _ by decide)) (show 107 < _ by decide)) (show 77 < _ by decide)) rfl (by decide) rfl (by decide) (by decide) ⟨Or.inl (by decide), trivial⟩ ⟨Or.inl (by decide), trivial⟩ (fun hz31 => ?_)
  refine go_putR (cd := cd90) rfl (show 77 < _ by decide) rfl (show 108 < _ by decide) ?_
  refine go_v (cd := cd90) [] 200 rfl ?_
  refine gz_nar (cd := cd90) (zr_R hz31 (show 77 < _ by decide)) rfl (by decide) rfl (by decide) (by decide) ⟨Or.inl (by decide), trivial⟩ ⟨Or.inl (by decide), trivial⟩ (fun hz32 => ?_)
  refine go_putR (cd := cd90) rfl (show 77 < _ by decide) rfl (show 109 < _ by decide) ?_
  refine go_v (cd := cd90) [] 200 rfl ?_
  refine gz_nar (cd := cd90) (zr_R hz32 (show 77 < _ by decide)) rfl (by decide) rfl (by decide) (by decide) ⟨Or.inl (by decide), trivial⟩ ⟨Or.inl (by decide), trivial⟩ (fun hz33 => ?_)
  refine go_putR (cd := cd90) rfl (show 77 < _ by decide) rfl (show 110 < _ by decide) ?_
  exact go_return (cd := cd90) rfl (K (zr_R hz33 (show 77 < _ by decide)))
end SY
