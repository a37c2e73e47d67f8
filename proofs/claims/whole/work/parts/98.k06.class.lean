/-! the first of the two is made -/
def wrR : List (Nat × Nat × Nat) → (Nat → Nat → Option Nat) → Nat → Nat → Option Nat
  | [], f => f
  | p :: l, f => wrR l (up2 f p.1 p.2.1 (some p.2.2))
def stR1 : List (Nat × Nat × Nat) := [(1, 10, 2), (0, 0, 1), (3, 10, 4), (0, 1, 3), (5, 10, 6), (0, 2, 5), (0, 4, 7), (0, 5, 8), (9, 0, 10), (0, 6, 9), (0, 7, 11), (12, 1, 13), (12, 2, 14), (12, 3, 15), (12, 4, 16), (12, 5, 17), (12, 8, 18), (0, 8, 12), (0, 10, 19), (0, 11, 20), (21, 3, 22), (21, 4, 23), (0, 13, 21), (24, 3, 25), (24, 4, 26), (0, 14, 24), (0, 15, 27), (0, 16, 28), (0, 17, 29), (30, 1, 31), (30, 2, 32), (30, 3, 33), (30, 4, 34), (30, 5, 35), (30, 8, 36), (11, 0, 30), (37, 1, 38), (37, 2, 39), (37, 3, 40), (37, 4, 41), (37, 5, 42), (37, 8, 43), (11, 1, 37), (44, 1, 45), (44, 2, 46), (44, 3, 47), (44, 4, 48), (44, 5, 49), (44, 8, 50), (11, 2, 44), (51, 1, 52), (51, 2, 53), (51, 3, 54), (51, 4, 55), (51, 5, 56), (51, 8, 57), (11, 3, 51), (58, 1, 59), (58, 2, 60), (58, 3, 61), (58, 4, 62), (58, 5, 63), (58, 8, 64), (11, 4, 58), (65, 2, 66), (28, 0, 65), (67, 2, 68), (28, 1, 67), (69, 2, 70), (28, 2, 69), (71, 2, 72), (28, 3, 71), (73, 2, 74), (28, 4, 73), (75, 2, 76), (28, 5, 75)]
def stI0 (g0 g1 g2 g3 g4 g5 : Nat → Int32) : Nat → Nat → Int32 := (up2 (up2 (up2 (up2 (up2 (up2 (up1 (up1 (up1 (up1 (up1 (up1 (up1 (up2 (up2 (up2 (up1 (up1 (up2 (up2 (up2 (up1 (up2 (up2 (up2 (up2 (up2 (up2 (up2 (up2 (up2 (fun _ _ => 0) 1 0 (-1)) 1 4 (4)) 1 8 (-1)) 3 0 (-1)) 3 4 (4)) 3 8 (-1)) 5 0 (-1)) 5 4 (4)) 5 8 (-1)) 18 g0) 21 0 (0)) 21 1 (2)) 21 2 (0)) 22 (fun q => if q < 4 then -1 else 0)) 23 (fun q => if q < 5 then -1 else 0)) 24 0 (0)) 24 1 (5)) 24 2 (0)) 25 (fun q => if q < 4 then -1 else 0)) 26 (fun q => if q < 5 then -1 else 0)) 36 g1) 43 g2) 50 g3) 57 g4) 64 g5) 65 0 (-1)) 67 0 (-1)) 69 0 (-1)) 71 0 (-1)) 73 0 (-1)) 75 0 (-1))
def stI1 (g0 g1 g2 g3 g4 g5 : Nat → Int32) : Nat → Nat → Int32 := up1 (stI0 g0 g1 g2 g3 g4 g5) 19 (fun q => if q < 1152 then -1 else stI0 g0 g1 g2 g3 g4 g5 19 q)
section SX
variable {L : Nat} {xs : Nat → Int32} {fv : Value} {d : Nat} {P : Option Value → aH → Prop}
set_option maxHeartbeats 16000000 in
set_option maxRecDepth 4000 in
theorem in_class (hz0 : zrH 1 (fun _ _ => 0) (fun _ _ => 0) (fun _ _ => none)) (K : ∀ g0 g1 g2 g3 g4 g5, gFol g0 → gFol g1 → gFol g2 → gFol g3 → gFol g4 → gFol g5 → zrH 77 (stI1 g0 g1 g2 g3 g4 g5) (fun _ _ => 0) (wrR stR1 (fun _ _ => none)) → P none (77, stI1 g0 g1 g2 g3 g4 g5, fun _ _ => 0, wrR stR1 (fun _ _ => none))) : aCl L xs fv 0 (d + 4) 29 [.ref 0] (1, fun _ _ => 0, fun _ _ => 0, fun _ _ => none) P := by
  refine cl_of rfl (Nat.zero_le _) ?_
  refine go_v (cd := cd29) [] 9 rfl ?_
  refine go_oinit (cd := cd29) rfl rfl ?_
  refine go_v (cd := cd29) [] 20 rfl ?_
  refine gz_new (cd := cd29) hz0 rfl rfl (by decide) ⟨Or.inl (by decide), trivial⟩ ⟨Or.inl (by decide), trivial⟩ (fun hz1 => ?_)
  refine go_v (cd := cd29) [] 20 rfl ?_
  refine go_callm (cd := cd29) rfl rfl rfl rfl rfl ⟨Or.inl (by decide), trivial⟩ ⟨Or.inl (by decide), Or.inl (by decide), trivial⟩ (in_now (c := 1) hz1 (by decide) rfl rfl (by decide) (fun hz2 => ⟨rfl, ?_⟩))
  refine go_putR (cd := cd29) rfl (show 0 < _ by decide) rfl (show 1 < _ by decide) ?_
  refine go_v (cd := cd29) [] 20 rfl ?_
  refine gz_new (cd := cd29) (zr_R hz2 (show 0 < _ by decide)) rfl rfl (by decide) ⟨Or.inl (by decide), trivial⟩ ⟨Or.inl (by decide), trivial⟩ (fun hz3 => ?_)
  refine go_v (cd := cd29) [] 20 rfl ?_
  refine go_callm (cd := cd29) rfl rfl rfl rfl rfl ⟨Or.inl (by decide), trivial⟩ ⟨Or.inl (by decide), Or.inl (by decide), trivial⟩ (in_now (c := 3) hz3 (by decide) rfl rfl (by decide) (fun hz4 => ⟨rfl, ?_⟩))
  refine go_putR (cd := cd29) rfl (show 0 < _ by decide) rfl (show 3 < _ by decide) ?_
  refine go_v (cd := cd29) [] 20 rfl ?_
  refine gz_new (cd := cd29) (zr_R hz4 (show 0 < _ by decide)) rfl rfl (by decide) ⟨Or.inl (by decide), trivial⟩ ⟨Or.inl (by decide), trivial⟩ (fun hz5 => ?_)
  refine go_v (cd := cd29) [] 20 rfl ?_
  refine go_callm (cd := cd29) rfl rfl rfl rfl rfl ⟨Or.inl (by decide), trivial⟩ ⟨Or.inl (by decide), Or.inl (by decide), trivial⟩ (in_now (c := 5) hz5 (by decide) rfl rfl (by decide) (fun hz6 => ⟨rfl, ?_⟩))
  refine go_putR (cd := cd29) rfl (show 0 < _ by decide) rfl (show 5 < _ by decide) ?_
  refine go_v (cd := cd29) [] 20 rfl ?_
  refine gz_nar (cd := cd29) (zr_R hz6 (show 0 < _ by decide)) rfl (by decide) rfl (by decide) (by decide) ⟨Or.inl (by decide), trivial⟩ ⟨Or.inl (by decide), trivial⟩ (fun hz7 => ?_)
  refine go_putR (cd := cd29) rfl (show 0 < _ by decide) rfl (show 7 < _ by decide) ?_
  refine go_v (cd := cd29) [] 20 rfl ?_
  refine gz_nar (cd := cd29) (zr_R hz7 (show 0 < _ by decide)) rfl (by decide) rfl (by decide) (by decide) ⟨Or.inl (by decide), trivial⟩ ⟨Or.inl (by decide), trivial⟩ (fun hz8 => ?_)
  refine go_putR (cd := cd29) rfl (show 0 < _ by decide) rfl (show 8 < _ by decide) ?_
  refine go_v (cd := cd29) [] 20 rfl ?_
  refine gz_new (cd := cd29) (zr_R hz8 (show 0 < _ by decide)) rfl rfl (by decide) ⟨Or.inl (by decide), trivial⟩ ⟨Or.inl (by decide), trivial⟩ (fun hz9 => ?_)
  refine go_v (cd := cd29) [] 20 rfl ?_
  refine go_callm (cd := cd29) rfl rfl rfl rfl rfl ⟨Or.inl (by decide), trivial⟩ ⟨Or.inl (by decide), Or.inl (by decide), trivial⟩ (in_reader (c := 9) hz9 (by decide) rfl rfl (by decide) (fun hz10 => ⟨rfl, ?_⟩))
  refine go_putR (cd := cd29) rfl (show 0 < _ by decide) rfl (show 9 < _ by decide) ?_
  refine go_v (cd := cd29) [] 20 rfl ?_
  refine gz_anar (cd := cd29) (zr_R hz10 (show 0 < _ by decide)) rfl (by decide) rfl (by decide) (by decide) ⟨Or.inl (by decide), trivial⟩ ⟨Or.inl (by decide), trivial⟩ (fun hz11 => ?_)
  refine go_putR (cd := cd29) rfl (show 0 < _ by decide) rfl (show 11 < _ by decide) ?_
  refine go_v (cd := cd29) [] 20 rfl ?_
  refine gz_new (cd := cd29) (zr_R hz11 (show 0 < _ by decide)) rfl rfl (by decide) ⟨Or.inl (by decide), trivial⟩ ⟨Or.inl (by decide), trivial⟩ (fun hz12 => ?_)
  refine go_v (cd := cd29) [] 20 rfl ?_
  refine go_callm (cd := cd29) rfl rfl rfl rfl rfl ⟨Or.inl (by decide), trivial⟩ ⟨Or.inl (by decide), Or.inl (by decide), trivial⟩ (in_race (d := d) (b := 12) (Or.inl rfl) hz12 rfl (fun g0 hg0 hz13 => ⟨rfl, ?_⟩))
  refine go_putR (cd := cd29) rfl (show 0 < _ by decide) rfl (show 12 < _ by decide) ?_
  refine go_v (cd := cd29) [] 20 rfl ?_
  refine gz_nar (cd := cd29) (zr_R hz13 (show 0 < _ by decide)) rfl (by decide) rfl (by decide) (by decide) ⟨Or.inl (by decide), trivial⟩ ⟨Or.inl (by decide), trivial⟩ (fun hz14 => ?_)
  refine go_putR (cd := cd29) rfl (show 0 < _ by decide) rfl (show 19 < _ by decide) ?_
  refine go_v (cd := cd29) [] 20 rfl ?_
  refine gz_anar (cd := cd29) (zr_R hz14 (show 0 < _ by decide)) rfl (by decide) rfl (by decide) (by decide) ⟨Or.inl (by decide), trivial⟩ ⟨Or.inl (by decide), trivial⟩ (fun hz15 => ?_)
  refine go_putR (cd := cd29) rfl (show 0 < _ by decide) rfl (show 20 < _ by decide) ?_
  refine go_v (cd := cd29) [] 20 rfl ?_
  refine gz_new (cd := cd29) (zr_R hz15 (show 0 < _ by decide)) rfl rfl (by decide) ⟨Or.inl (by decide), trivial⟩ ⟨Or.inl (by decide), trivial⟩ (fun hz16 => ?_)
  refine go_v (cd := cd29) [] 20 rfl ?_
  refine go_callm (cd := cd29) rfl rfl rfl rfl rfl ⟨Or.inl (by decide), trivial⟩ ⟨Or.inl (by decide), Or.inl (by decide), trivial⟩ (in_rule (d := d + 1) (c := 21) hz16 (by decide) rfl rfl rfl (by decide) (fun hz17 => ⟨rfl, ?_⟩))
  refine go_putR (cd := cd29) rfl (show 0 < _ by decide) rfl (show 21 < _ by decide) ?_
  refine go_v (cd := cd29) [] 20 rfl ?_
  refine gz_new (cd := cd29) (zr_R hz17 (show 0 < _ by decide)) rfl rfl (by decide) ⟨Or.inl (by decide), trivial⟩ ⟨Or.inl (by decide), trivial⟩ (fun hz18 => ?_)
  refine go_v (cd := cd29) [] 20 rfl ?_
  refine go_callm (cd := cd29) rfl rfl rfl rfl rfl ⟨Or.inl (by decide), trivial⟩ ⟨Or.inl (by decide), Or.inl (by decide), trivial⟩ (in_rule (d := d + 1) (c := 24) hz18 (by decide) rfl rfl rfl (by decide) (fun hz19 => ⟨rfl, ?_⟩))
  refine go_putR (cd := cd29) rfl (show 0 < _ by decide) rfl (show 24 < _ by decide) ?_
  refine go_v (cd := cd29) [] 20 rfl ?_
  refine gz_nar (cd := cd29) (zr_R hz19 (show 0 < _ by decide)) rfl (by decide) rfl (by decide) (by decide) ⟨Or.inl (by decide), trivial⟩ ⟨Or.inl (by decide), trivial⟩ (fun hz20 => ?_)
  refine go_putR (cd := cd29) rfl (show 0 < _ by decide) rfl (show 27 < _ by decide) ?_
  refine go_v (cd := cd29) [] 20 rfl ?_
  refine gz_anar (cd := cd29) (zr_R hz20 (show 0 < _ by decide)) rfl (by decide) rfl (by decide) (by decide) ⟨Or.inl (by decide), trivial⟩ ⟨Or.inl (by decide), trivial⟩ (fun hz21 => ?_)
  refine go_putR (cd := cd29) rfl (show 0 < _ by decide) rfl (show 28 < _ by decide) ?_
  refine go_v (cd := cd29) [] 20 rfl ?_
  refine gz_nar (cd := cd29) (zr_R hz21 (show 0 < _ by decide)) rfl (by decide) rfl (by decide) (by decide) ⟨Or.inl (by decide), trivial⟩ ⟨Or.inl (by decide), trivial⟩ (fun hz22 => ?_)
  refine go_putR (cd := cd29) rfl (show 0 < _ by decide) rfl (show 29 < _ by decide) ?_
  refine go_v (cd := cd29) [155] 20 rfl ?_
  refine go_sb ?_ (l' := [(1, .int (nI 0)), (0, .ref 0)]) ⟨rfl, rfl, trivial⟩ rfl rfl rfl
  refine go_v (cd := cd29) [] 20 rfl ?_
  refine go_st (cd := cd29) 1 rfl (go_ifF (by decide) ?_)
  refine go_v (cd := cd29) [161] 20 rfl ?_
  refine go_getR (cd := cd29) (q := 11) rfl (by decide) rfl rfl ?_
  refine go_v (cd := cd29) [] 20 rfl ?_
  refine gz_new (cd := cd29) (zr_R hz22 (show 0 < _ by decide)) rfl rfl (by decide) ⟨trivial, Or.inl (by decide), trivial⟩ ⟨trivial, Or.inl (by decide), trivial⟩ (fun hz23 => ?_)
  refine go_v (cd := cd29) [] 20 rfl ?_
  refine go_callm (cd := cd29) rfl rfl rfl rfl rfl ⟨trivial, Or.inl (by decide), trivial⟩ ⟨Or.inl (by decide), trivial, Or.inl (by decide), trivial⟩ (in_race (d := d) (b := 30) (Or.inr ⟨0, by decide, rfl⟩) hz23 rfl (fun g1 hg1 hz24 => ⟨rfl, ?_⟩))
  refine go_aast (cd := cd29) rfl (nI_vin (n := 5) (by decide) (by decide)) (show 11 < _ by decide) (show 10 ≤ 10 by decide) (show 10 ≤ 12 by decide) (show 30 < _ by decide) rfl rfl ?_
  rw [nI_clamp (show 0 < 2 ^ 31 by decide)]
  refine go_v (cd := cd29) [155] 20 rfl ?_
  refine go_sb ?_ (l' := [(1, .int (nI 1)), (0, .ref 0)]) ⟨rfl, rfl, trivial⟩ rfl rfl rfl
  refine go_v (cd := cd29) [] 20 rfl ?_
  refine go_st (cd := cd29) 1 rfl (go_ifF (by decide) ?_)
  refine go_v (cd := cd29) [161] 20 rfl ?_
  refine go_getR (cd := cd29) (q := 11) rfl (by decide) rfl rfl ?_
  refine go_v (cd := cd29) [] 20 rfl ?_
  refine gz_new (cd := cd29) (zr_R hz24 (show 11 < _ by decide)) rfl rfl (by decide) ⟨trivial, Or.inl (by decide), trivial⟩ ⟨trivial, Or.inl (by decide), trivial⟩ (fun hz25 => ?_)
  refine go_v (cd := cd29) [] 20 rfl ?_
  refine go_callm (cd := cd29) rfl rfl rfl rfl rfl ⟨trivial, Or.inl (by decide), trivial⟩ ⟨Or.inl (by decide), trivial, Or.inl (by decide), trivial⟩ (in_race (d := d) (b := 37) (Or.inr ⟨1, by decide, rfl⟩) hz25 rfl (fun g2 hg2 hz26 => ⟨rfl, ?_⟩))
  refine go_aast (cd := cd29) rfl (nI_vin (n := 5) (by decide) (by decide)) (show 11 < _ by decide) (show 10 ≤ 10 by decide) (show 10 ≤ 12 by decide) (show 37 < _ by decide) rfl rfl ?_
  rw [nI_clamp (show 1 < 2 ^ 31 by decide)]
  refine go_v (cd := cd29) [155] 20 rfl ?_
  refine go_sb ?_ (l' := [(1, .int (nI 2)), (0, .ref 0)]) ⟨rfl, rfl, trivial⟩ rfl rfl rfl
  refine go_v (cd := cd29) [] 20 rfl ?_
  refine go_st (cd := cd29) 1 rfl (go_ifF (by decide) ?_)
  refine go_v (cd := cd29) [161] 20 rfl ?_
  refine go_getR (cd := cd29) (q := 11) rfl (by decide) rfl rfl ?_
  refine go_v (cd := cd29) [] 20 rfl ?_
  refine gz_new (cd := cd29) (zr_R hz26 (show 11 < _ by decide)) rfl rfl (by decide) ⟨trivial, Or.inl (by decide), trivial⟩ ⟨trivial, Or.inl (by decide), trivial⟩ (fun hz27 => ?_)
  refine go_v (cd := cd29) [] 20 rfl ?_
  refine go_callm (cd := cd29) rfl rfl rfl rfl rfl ⟨trivial, Or.inl (by decide), trivial⟩ ⟨Or.inl (by decide), trivial, Or.inl (by decide), trivial⟩ (in_race (d := d) (b := 44) (Or.inr ⟨2, by decide, rfl⟩) hz27 rfl (fun g3 hg3 hz28 => ⟨rfl, ?_⟩))
  refine go_aast (cd := cd29) rfl (nI_vin (n := 5) (by decide) (by decide)) (show 11 < _ by decide) (show 10 ≤ 10 by decide) (show 10 ≤ 12 by decide) (show 44 < _ by decide) rfl rfl ?_
  rw [nI_clamp (show 2 < 2 ^ 31 by decide)]
  refine go_v (cd := cd29) [155] 20 rfl ?_
  refine go_sb ?_ (l' := [(1, .int (nI 3)), (0, .ref 0)]) ⟨rfl, rfl, trivial⟩ rfl rfl rfl
  refine go_v (cd := cd29) [] 20 rfl ?_
  refine go_st (cd := cd29) 1 rfl (go_ifF (by decide) ?_)
  refine go_v (cd := cd29) [161] 20 rfl ?_
  refine go_getR (cd := cd29) (q := 11) rfl (by decide) rfl rfl ?_
  refine go_v (cd := cd29) [] 20 rfl ?_
  refine gz_new (cd := cd29) (zr_R hz28 (show 11 < _ by decide)) rfl rfl (by decide) ⟨trivial, Or.inl (by decide), trivial⟩ ⟨trivial, Or.inl (by decide), trivial⟩ (fun hz29 => ?_)
  refine go_v (cd := cd29) [] 20 rfl ?_
  refine go_callm (cd := cd29) rfl rfl rfl rfl rfl ⟨trivial, Or.inl (by decide), trivial⟩ ⟨Or.inl (by decide), trivial, Or.inl (by decide), trivial⟩ (in_race (d := d) (b := 51) (Or.inr ⟨3, by decide, rfl⟩) hz29 rfl (fun g4 hg4 hz30 => ⟨rfl, ?_⟩))
  refine go_aast (cd := cd29) rfl (nI_vin (n := 5) (by decide) (by decide)) (show 11 < _ by decide) (show 10 ≤ 10 by decide) (show 10 ≤ 12 by decide) (show 51 < _ by decide) rfl rfl ?_
  rw [nI_clamp (show 3 < 2 ^ 31 by decide)]
  refine go_v (cd := cd29) [155] 20 rfl ?_
  refine go_sb ?_ (l' := [(1, .int (nI 4)), (0, .ref 0)]) ⟨rfl, rfl, trivial⟩ rfl rfl rfl
  refine go_v (cd := cd29) [] 20 rfl ?_
  refine go_st (cd := cd29) 1 rfl (go_ifF (by decide) ?_)
  refine go_v (cd := cd29) [161] 20 rfl ?_
  refine go_getR (cd := cd29) (q := 11) rfl (by decide) rfl rfl ?_
  refine go_v (cd := cd29) [] 20 rfl ?_
  refine gz_new (cd := cd29) (zr_R hz30 (show 11 < _ by decide)) rfl rfl (by decide) ⟨trivial, Or.inl (by decide), trivial⟩ ⟨trivial, Or.inl (by decide), trivial⟩ (fun hz31 => ?_)
  refine go_v (cd := cd29) [] 20 rfl ?_
  refine go_callm (cd := cd29) rfl rfl rfl rfl rfl ⟨trivial, Or.inl (by decide), trivial⟩ ⟨Or.inl (by decide), trivial, Or.inl (by decide), trivial⟩ (in_race (d := d) (b := 58) (Or.inr ⟨4, by decide, rfl⟩) hz31 rfl (fun g5 hg5 hz32 => ⟨rfl, ?_⟩))
  refine go_aast (cd := cd29) rfl (nI_vin (n := 5) (by decide) (by decide)) (show 11 < _ by decide) (show 10 ≤ 10 by decide) (show 10 ≤ 12 by decide) (show 58 < _ by decide) rfl rfl ?_
  rw [nI_clamp (show 4 < 2 ^ 31 by decide)]
  refine go_v (cd := cd29) [155] 20 rfl ?_
  refine go_sb ?_ (l' := [(1, .int (nI 5)), (0, .ref 0)]) ⟨rfl, rfl, trivial⟩ rfl rfl rfl
  refine go_v (cd := cd29) [] 20 rfl ?_
  refine go_st (cd := cd29) 1 rfl (go_ifT (by decide) ?_)
  refine go_v (cd := cd29) [181] 20 rfl ?_
  refine go_sb ?_ (l' := [(1, .int (nI 0)), (0, .ref 0)]) ⟨rfl, rfl, trivial⟩ rfl rfl rfl
  refine go_v (cd := cd29) [] 20 rfl ?_
  refine go_st (cd := cd29) 1 rfl (go_ifF (by decide) ?_)
  refine go_v (cd := cd29) [188] 20 rfl ?_
  refine go_getR (cd := cd29) (q := 28) rfl (by decide) rfl rfl ?_
  refine go_v (cd := cd29) [] 20 rfl ?_
  refine gz_new (cd := cd29) (zr_R hz32 (show 11 < _ by decide)) rfl rfl (by decide) ⟨trivial, Or.inl (by decide), trivial⟩ ⟨trivial, Or.inl (by decide), trivial⟩ (fun hz33 => ?_)
  refine go_v (cd := cd29) [] 20 rfl ?_
  refine go_callm (cd := cd29) rfl rfl rfl rfl rfl ⟨trivial, Or.inl (by decide), trivial⟩ ⟨Or.inl (by decide), trivial, Or.inl (by decide), trivial⟩ (in_tape (c := 65) hz33 (by decide) rfl rfl (by decide) (fun hz34 => ⟨rfl, ?_⟩))
  refine go_aast (cd := cd29) rfl (nI_vin (n := 6) (by decide) (by decide)) (show 28 < _ by decide) (show 10 ≤ 12 by decide) (show 12 ≤ 12 by decide) (show 65 < _ by decide) rfl rfl ?_
  rw [nI_clamp (show 0 < 2 ^ 31 by decide)]
  refine go_v (cd := cd29) [181] 20 rfl ?_
  refine go_sb ?_ (l' := [(1, .int (nI 1)), (0, .ref 0)]) ⟨rfl, rfl, trivial⟩ rfl rfl rfl
  refine go_v (cd := cd29) [] 20 rfl ?_
  refine go_st (cd := cd29) 1 rfl (go_ifF (by decide) ?_)
  refine go_v (cd := cd29) [188] 20 rfl ?_
  refine go_getR (cd := cd29) (q := 28) rfl (by decide) rfl rfl ?_
  refine go_v (cd := cd29) [] 20 rfl ?_
  refine gz_new (cd := cd29) (zr_R hz34 (show 28 < _ by decide)) rfl rfl (by decide) ⟨trivial, Or.inl (by decide), trivial⟩ ⟨trivial, Or.inl (by decide), trivial⟩ (fun hz35 => ?_)
  refine go_v (cd := cd29) [] 20 rfl ?_
  refine go_callm (cd := cd29) rfl rfl rfl rfl rfl ⟨trivial, Or.inl (by decide), trivial⟩ ⟨Or.inl (by decide), trivial, Or.inl (by decide), trivial⟩ (in_tape (c := 67) hz35 (by decide) rfl rfl (by decide) (fun hz36 => ⟨rfl, ?_⟩))
  refine go_aast (cd := cd29) rfl (nI_vin (n := 6) (by decide) (by decide)) (show 28 < _ by decide) (show 10 ≤ 12 by decide) (show 12 ≤ 12 by decide) (show 67 < _ by decide) rfl rfl ?_
  rw [nI_clamp (show 1 < 2 ^ 31 by decide)]
  refine go_v (cd := cd29) [181] 20 rfl ?_
  refine go_sb ?_ (l' := [(1, .int (nI 2)), (0, .ref 0)]) ⟨rfl, rfl, trivial⟩ rfl rfl rfl
  refine go_v (cd := cd29) [] 20 rfl ?_
  refine go_st (cd := cd29) 1 rfl (go_ifF (by decide) ?_)
  refine go_v (cd := cd29) [188] 20 rfl ?_
  refine go_getR (cd := cd29) (q := 28) rfl (by decide) rfl rfl ?_
  refine go_v (cd := cd29) [] 20 rfl ?_
  refine gz_new (cd := cd29) (zr_R hz36 (show 28 < _ by decide)) rfl rfl (by decide) ⟨trivial, Or.inl (by decide), trivial⟩ ⟨trivial, Or.inl (by decide), trivial⟩ (fun hz37 => ?_)
  refine go_v (cd := cd29) [] 20 rfl ?_
  refine go_callm (cd := cd29) rfl rfl rfl rfl rfl ⟨trivial, Or.inl (by decide), trivial⟩ ⟨Or.inl (by decide), trivial, Or.inl (by decide), trivial⟩ (in_tape (c := 69) hz37 (by decide) rfl rfl (by decide) (fun hz38 => ⟨rfl, ?_⟩))
  refine go_aast (cd := cd29) rfl (nI_vin (n := 6) (by decide) (by decide)) (show 28 < _ by decide) (show 10 ≤ 12 by decide) (show 12 ≤ 12 by decide) (show 69 < _ by decide) rfl rfl ?_
  rw [nI_clamp (show 2 < 2 ^ 31 by decide)]
  refine go_v (cd := cd29) [181] 20 rfl ?_
  refine go_sb ?_ (l' := [(1, .int (nI 3)), (0, .ref 0)]) ⟨rfl, rfl, trivial⟩ rfl rfl rfl
  refine go_v (cd := cd29) [] 20 rfl ?_
  refine go_st (cd := cd29) 1 rfl (go_ifF (by decide) ?_)
  refine go_v (cd := cd29) [188] 20 rfl ?_
  refine go_getR (cd := cd29) (q := 28) rfl (by decide) rfl rfl ?_
  refine go_v (cd := cd29) [] 20 rfl ?_
  refine gz_new (cd := cd29) (zr_R hz38 (show 28 < _ by decide)) rfl rfl (by decide) ⟨trivial, Or.inl (by decide), trivial⟩ ⟨trivial, Or.inl (by decide), trivial⟩ (fun hz39 => ?_)
  refine go_v (cd := cd29) [] 20 rfl ?_
  refine go_callm (cd := cd29) rfl rfl rfl rfl rfl ⟨trivial, Or.inl (by decide), trivial⟩ ⟨Or.inl (by decide), trivial, Or.inl (by decide), trivial⟩ (in_tape (c := 71) hz39 (by decide) rfl rfl (by decide) (fun hz40 => ⟨rfl, ?_⟩))
  refine go_aast (cd := cd29) rfl (nI_vin (n := 6) (by decide) (by decide)) (show 28 < _ by decide) (show 10 ≤ 12 by decide) (show 12 ≤ 12 by decide) (show 71 < _ by decide) rfl rfl ?_
  rw [nI_clamp (show 3 < 2 ^ 31 by decide)]
  refine go_v (cd := cd29) [181] 20 rfl ?_
  refine go_sb ?_ (l' := [(1, .int (nI 4)), (0, .ref 0)]) ⟨rfl, rfl, trivial⟩ rfl rfl rfl
  refine go_v (cd := cd29) [] 20 rfl ?_
  refine go_st (cd := cd29) 1 rfl (go_ifF (by decide) ?_)
  refine go_v (cd := cd29) [188] 20 rfl ?_
  refine go_getR (cd := cd29) (q := 28) rfl (by decide) rfl rfl ?_
  refine go_v (cd := cd29) [] 20 rfl ?_
  refine gz_new (cd := cd29) (zr_R hz40 (show 28 < _ by decide)) rfl rfl (by decide) ⟨trivial, Or.inl (by decide), trivial⟩ ⟨trivial, Or.inl (by decide), trivial⟩ (fun hz41 => ?_)
  refine go_v (cd := cd29) [] 20 rfl ?_
  refine go_callm (cd := cd29) rfl rfl rfl rfl rfl ⟨trivial, Or.inl (by decide), trivial⟩ ⟨Or.inl (by decide), trivial, Or.inl (by decide), trivial⟩ (in_tape (c := 73) hz41 (by decide) rfl rfl (by decide) (fun hz42 => ⟨rfl, ?_⟩))
  refine go_aast (cd := cd29) rfl (nI_vin (n := 6) (by decide) (by decide)) (show 28 < _ by decide) (show 10 ≤ 12 by decide) (show 12 ≤ 12 by decide) (show 73 < _ by decide) rfl rfl ?_
  rw [nI_clamp (show 4 < 2 ^ 31 by decide)]
  refine go_v (cd := cd29) [181] 20 rfl ?_
  refine go_sb ?_ (l' := [(1, .int (nI 5)), (0, .ref 0)]) ⟨rfl, rfl, trivial⟩ rfl rfl rfl
  refine go_v (cd := cd29) [] 20 rfl ?_
  refine go_st (cd := cd29) 1 rfl (go_ifF (by decide) ?_)
  refine go_v (cd := cd29) [188] 20 rfl ?_
  refine go_getR (cd := cd29) (q := 28) rfl (by decide) rfl rfl ?_
  refine go_v (cd := cd29) [] 20 rfl ?_
  refine gz_new (cd := cd29) (zr_R hz42 (show 28 < _ by decide)) rfl rfl (by decide) ⟨trivial, Or.inl (by decide), trivial⟩ ⟨trivial, Or.inl (by decide), trivial⟩ (fun hz43 => ?_)
  refine go_v (cd := cd29) [] 20 rfl ?_
  refine go_callm (cd := cd29) rfl rfl rfl rfl rfl ⟨trivial, Or.inl (by decide), trivial⟩ ⟨Or.inl (by decide), trivial, Or.inl (by decide), trivial⟩ (in_tape (c := 75) hz43 (by decide) rfl rfl (by decide) (fun hz44 => ⟨rfl, ?_⟩))
  refine go_aast (cd := cd29) rfl (nI_vin (n := 6) (by decide) (by decide)) (show 28 < _ by decide) (show 10 ≤ 12 by decide) (show 12 ≤ 12 by decide) (show 75 < _ by decide) rfl rfl ?_
  rw [nI_clamp (show 5 < 2 ^ 31 by decide)]
  refine go_v (cd := cd29) [181] 20 rfl ?_
  refine go_sb ?_ (l' := [(1, .int (nI 6)), (0, .ref 0)]) ⟨rfl, rfl, trivial⟩ rfl rfl rfl
  refine go_v (cd := cd29) [] 20 rfl ?_
  refine go_st (cd := cd29) 1 rfl (go_ifT (by decide) ?_)
  refine go_v (cd := cd29) [207] 20 rfl ?_
  refine go_getR (cd := cd29) (q := 19) rfl (by decide) rfl rfl ?_
  refine go_v (cd := cd29) [] 20 rfl ?_
  refine go_calls (cd := cd29) rfl rfl rfl rfl rfl (fillG (n := 1152) (by decide) rfl (show 19 < _ by decide) (Nat.zero_le _) ⟨rfl, ?_⟩)
  exact go_return (cd := cd29) rfl (K g0 g1 g2 g3 g4 g5 hg0 hg1 hg2 hg3 hg4 hg5 (zr_I1 (zr_R hz44 (show 28 < _ by decide)) (show 19 < _ by decide)))
end SX
