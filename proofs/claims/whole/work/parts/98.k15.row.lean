/-! lines: the class's row, wind by wind -/
def gX (T : Nat → Nat → Nat → Int) (good : Nat → Bool) (w m s x : Nat) : Nat → Nat := fun y => if y = w then s else if y < x then gB (T s y) good m else 0
section LR
variable {T : Nat → Nat → Nat → Int} {good : Nat → Bool} {w m s : Nat}
theorem gX_end : ∀ y, y < 4 → gX T good w m s 4 y = gRow T good w m s y := fun y hy => by
  show (if y = w then s else if y < 4 then gB (T s y) good m else 0) = if y = w then s else gB (T s y) good m
  rw [if_pos hy]
theorem gX_one (hT : ∀ e x y, T e x y = 0) (x : Nat) : gX T good w m s x = gRow T good w m s := by
  funext y
  show (if y = w then s else if y < x then gB (T s y) good m else 0) = if y = w then s else gB (T s y) good m
  rw [gB_0 (hT s y)]
  by_cases h : y = w
  · rw [if_pos h, if_pos h]
  · rw [if_neg h, if_neg h]
    split <;> rfl
theorem gX_w {x : Nat} (hx : x = w) : gX T good w m s (x + 1) = gX T good w m s x := by
  funext y
  show (if y = w then s else if y < x + 1 then gB (T s y) good m else 0) = if y = w then s else if y < x then gB (T s y) good m else 0
  by_cases h : y = w
  · rw [if_pos h, if_pos h]
  · rw [if_neg h, if_neg h]
    by_cases h2 : y < x
    · rw [if_pos h2, if_pos (by omega)]
    · rw [if_neg h2, if_neg (by omega)]
theorem gX_s {x : Nat} (hx : x ≠ w) : setR (gX T good w m s x) x (gB (T s x) good m) = gX T good w m s (x + 1) := by
  funext y
  show (if y = x then gB (T s x) good m else if y = w then s else if y < x then gB (T s y) good m else 0) = if y = w then s else if y < x + 1 then gB (T s y) good m else 0
  by_cases h : y = x
  · rw [if_pos h, h, if_neg hx, if_pos (by omega)]
  · rw [if_neg h]
    by_cases h1 : y = w
    · rw [if_pos h1, if_pos h1]
    · rw [if_neg h1, if_neg h1]
      by_cases h2 : y < x
      · rw [if_pos h2, if_pos (by omega)]
      · rw [if_neg h2, if_neg (by omega)]
theorem gX_z {x : Nat} (hx : x ≠ w) : setR (gX T good w m s x) x 0 = gX T good w m s x := by
  funext y
  show (if y = x then 0 else if y = w then s else if y < x then gB (T s y) good m else 0) = if y = w then s else if y < x then gB (T s y) good m else 0
  by_cases h : y = x
  · rw [if_pos h, h, if_neg hx, if_neg (by omega)]
  · rw [if_neg h]
theorem gX_at (x : Nat) : gX T good w m s x w = s := if_pos rfl
theorem gX_le (hs : s ≤ 6) (hm : m ≤ 6) (x : Nat) : ∀ y, y < 4 → gX T good w m s x y ≤ 6 := fun y _ => by
  have := gB_le (f := T s y) (good := good) m
  show (if y = w then s else if y < x then gB (T s y) good m else 0) ≤ 6
  split
  · exact hs
  · split <;> omega
theorem gRow_le (hs : s ≤ 6) (hm : m ≤ 6) : ∀ y, y < 4 → gRow T good w m s y ≤ 6 := fun y _ => by
  have := gB_le (f := T s y) (good := good) m
  show (if y = w then s else gB (T s y) good m) ≤ 6
  split <;> omega
end LR
section LX
variable {L : Nat} {xs : Nat → Int32} {fv : Value} {d : Nat} {r : Nat} {rr : Option Nat} {I : Nat → Nat → Int32} {J : Nat → Nat → Int64} {P : Option Value → aH → Prop}
variable {A : Nat → List Cl} {W : Wd} {S : Sc}
set_option maxHeartbeats 4000000 in
theorem bw_out {n h w s : Nat} {now : Option Nat} {fit : Nat → Bool} {C : Nat → Int} {T : Nat → Nat → Nat → Int} {g : Nat → Int32} (hV : ∀ p : Nat → Nat, VV W (5, 0, fun y => dO (p y), fun _ => none) S n h now w fit = lnV C T w p) (hf : ∀ p, -1000000000000 ≤ lnV C T w p ∧ lnV C T w p ≤ 1000000000000) (hT0 : n = 0 → ∀ e x y, T e x y = 0) (hW : wld A W I) (h1 : I 24 1 = 5) (h2 : I 24 2 = 0) (hn1 : n ≤ 1) (hh : h ≤ 200) (hS1 : scn W S h now w fit 1 I) (hS5 : scn W S h now w fit 5 (up1 I 5 g)) (hs : s ≤ 6)
    (K : ∀ a c, iX A (hpT (up1 I 25 a) g c) → (∀ y, y < 4 → a y = dgI (gRow T (goodD (mayW W.2.2.1 W.2.2.2 now fit S.1 S.2)) w W.2.2.2 s y)) → P (some (.long (lZ (lnV C T w (gRow T (goodD (mayW W.2.2.1 W.2.2.2 now fit S.1 S.2)) w W.2.2.2 s))))) (aHp r rr (hpT (up1 I 25 a) g c) J)) :
    ∀ mm x a c, x + mm = 4 → (∀ y, y < 4 → a y = dgI (gX T (goodD (mayW W.2.2.1 W.2.2.2 now fit S.1 S.2)) w W.2.2.2 s x y)) → iX A (hpT (up1 I 25 a) g c) → aTo L xs fv 111 (d + 8) cd86 (39, [(6, .int (nI x)), (4, .long (lZ (lnV C T w (gX T (goodD (mayW W.2.2.1 W.2.2.2 now fit S.1 S.2)) w W.2.2.2 s x)))), (3, .ref 25), (0, .ref 0), (2, .int (nI (n + 1)))], [], aHp r rr (hpT (up1 I 25 a) g c) J) P
  | 0, x, a, c, hx, ha, hX => by
    have hx : x = 4 := hx
    have hw4 := hS1.2.2.2.2.2.2.2.1
    rw [hx] at ha ⊢
    rw [lnV_ext hw4 gX_end]
    refine go_v (cd := cd86) [] 20 rfl ?_
    refine go_st (cd := cd86) 1 rfl (go_ifT (by decide) ?_)
    refine go_v (cd := cd86) [] 20 rfl ?_
    exact go_lreturn (cd := cd86) rfl (K a c hX (fun y hy => by rw [ha y hy, gX_end y hy]))
  | mm + 1, x, a, c, hx, ha, hX => by
    have h6 := hW.1
    have hw4 := hS1.2.2.2.2.2.2.2.1
    have h11 : I 1 1 = nI w := hS1.2.1
    have ih := fun a c => bw_out hV hf hT0 hW h1 h2 hn1 hh hS1 hS5 hs K mm (x + 1) a c (by omega)
    refine go_v (cd := cd86) [] 20 rfl ?_
    refine go_st (cd := cd86) 1 rfl (go_ifF (nI_ge (b := 4) (by omega) (by decide)) ?_)
    refine go_v (cd := cd86) [] 20 rfl ?_
    by_cases hn0 : n = 0
    · refine go_st (cd := cd86) 1 rfl (go_ifT (by rw [hn0]; decide) ?_)
      rw [gX_one (hT0 hn0)] at ha ⊢
      refine go_v (cd := cd86) [] 20 rfl ?_
      exact go_lreturn (cd := cd86) rfl (K a c hX ha)
    refine go_st (cd := cd86) 1 rfl (go_ifF (show ¬ nI (n + 1) ≤ 1 from nI_ge (a := 1) (by omega) (by omega)) ?_)
    refine go_v (cd := cd86) [] 20 rfl ?_
    have h143 : ∀ a c, (∀ y, y < 4 → a y = dgI (gX T (goodD (mayW W.2.2.1 W.2.2.2 now fit S.1 S.2)) w W.2.2.2 s (x + 1) y)) → iX A (hpT (up1 I 25 a) g c) → aTo L xs fv 111 (d + 8) cd86 (143, [(6, .int (nI x)), (4, .long (lZ (lnV C T w (gX T (goodD (mayW W.2.2.1 W.2.2.2 now fit S.1 S.2)) w W.2.2.2 s (x + 1))))), (3, .ref 25), (0, .ref 0), (2, .int (nI (n + 1)))], [], aHp r rr (hpT (up1 I 25 a) g c) J) P := fun a c ha hX => by
      refine go_v (cd := cd86) [39] 20 rfl ?_
      exact go_sb (ih a c ha hX) ⟨by rw [nI_succ x]; rfl, rfl, rfl, rfl, rfl, trivial⟩ rfl rfl rfl
    by_cases hxw : x = w
    · refine go_st (cd := cd86) 1 rfl (go_ifT (show nI x = I 1 1 from by rw [h11, hxw]) ?_)
      refine go_v (cd := cd86) [143] 20 rfl ?_
      rw [gX_w hxw] at h143
      exact h143 a c ha hX
    refine go_st (cd := cd86) 1 rfl (go_ifF (show ¬ nI x = I 1 1 from by rw [h11]; exact fun h => hxw ((nI_eq (by omega) (by omega)).mp h)) ?_)
    refine go_v (cd := cd86) [71] 20 rfl ?_
    refine go_sb (bw_in (p := gX T (goodD (mayW W.2.2.1 W.2.2.2 now fit S.1 S.2)) w W.2.2.2 s x) hV hf hW h1 h2 hn1 hh hS1 hS5 (by omega) hxw (gX_le hs h6 x) (fun a c hX ha => ?_) W.2.2.2 0 a c (by omega) (fun y hy _ => ha y hy) hX) ⟨rfl, rfl, rfl, ?_, rfl, rfl, rfl, trivial⟩ rfl rfl rfl
    · rw [gX_at, gX_s hxw] at ha ⊢
      exact h143 a c ha hX
    · show some (Value.long _) = some (Value.long (lZ (lnV C T w (setR (gX T (goodD (mayW W.2.2.1 W.2.2.2 now fit S.1 S.2)) w W.2.2.2 s x) x 0))))
      rw [gX_z hxw]
set_option maxHeartbeats 4000000 in
/-- what the class reckons for a sail told now -/
theorem cl_with {n h w s : Nat} {now : Option Nat} {fit : Nat → Bool} {C : Nat → Int} {T : Nat → Nat → Nat → Int} {g a c : Nat → Int32} (hV : ∀ p : Nat → Nat, VV W (5, 0, fun y => dO (p y), fun _ => none) S n h now w fit = lnV C T w p) (hf : ∀ p, -1000000000000 ≤ lnV C T w p ∧ lnV C T w p ≤ 1000000000000) (hT0 : n = 0 → ∀ e x y, T e x y = 0) (hW : wld A W I) (h1 : I 24 1 = 5) (h2 : I 24 2 = 0) (hn1 : n ≤ 1) (hh : h ≤ 200) (hS1 : scn W S h now w fit 1 I) (hS5 : scn W S h now w fit 5 (up1 I 5 g)) (hs : s ≤ 6) (hX : iX A (hpT (up1 I 25 a) g c))
    (K : ∀ a c, iX A (hpT (up1 I 25 a) g c) → (∀ y, y < 4 → a y = dgI (gRow T (goodD (mayW W.2.2.1 W.2.2.2 now fit S.1 S.2)) w W.2.2.2 s y)) → P (some (.long (lZ (lnV C T w (gRow T (goodD (mayW W.2.2.1 W.2.2.2 now fit S.1 S.2)) w W.2.2.2 s))))) (aHp r rr (hpT (up1 I 25 a) g c) J)) :
    aCl L xs fv 111 (d + 9) 86 [.ref 0, .int (dgI s), .int (nI (n + 1))] (aHp r rr (hpT (up1 I 25 a) g c) J) P := by
  have h6 := hW.1
  have hw4 := hS1.2.2.2.2.2.2.2.1
  have h11 : I 1 1 = nI w := hS1.2.1
  refine cl_of rfl (Nat.le_add_right _ _) ?_
  refine go_v (cd := cd86) [] 20 rfl ?_
  refine go_calls (cd := cd86) rfl rfl rfl rfl rfl (fillI (i := 25) (n := 4) (x := -1) (by decide) rfl (lv3 rfl) (Nat.le_add_right _ _) ⟨rfl, ?_⟩)
  rw [hp_25, hp_e25]
  refine go_v (cd := cd86) [] 20 rfl ?_
  show aTo L xs fv 111 _ cd86 (22, _, [.int (dgI s), .int (I 1 1), .ref 25], _) _
  rw [h11]
  refine go_iast (cd := cd86) rfl (nI_vin (j := w) (n := 4) hw4 (by decide)) (lv3 rfl) rfl ?_
  rw [nI_clamp (show w < 2 ^ 31 by omega), hp_25k]
  have ha1 : ∀ y, y < 4 → (fun q => if q = w then dgI s else if q < 4 then (-1 : Int32) else a q) y = dgI (gX T (goodD (mayW W.2.2.1 W.2.2.2 now fit S.1 S.2)) w W.2.2.2 s 0 y) := fun y hy => by
    show (if y = w then dgI s else if y < 4 then (-1 : Int32) else a y) = dgI (if y = w then s else if y < 0 then _ else 0)
    by_cases h : y = w
    · rw [if_pos h, if_pos h]
    · rw [if_neg h, if_neg h, if_pos hy, if_neg (Nat.not_lt_zero _)]
      rfl
  generalize (fun q => if q = w then dgI s else if q < 4 then (-1 : Int32) else a q) = a1 at ha1 ⊢
  refine go_v (cd := cd86) [] 20 rfl ?_
  refine go_callv (cd := cd86) rfl rfl rfl rfl rfl (lv3 rfl) rfl (cl_aheadX (d := d) (R := (5, 0, fun y => dO (gX T (goodD (mayW W.2.2.1 W.2.2.2 now fit S.1 S.2)) w W.2.2.2 s 0 y), fun _ => none)) (t := 0) (n := n) (m := 0) (wld_25 hW) (Or.inr (Or.inl rfl)) (rul_24 h1 h2 ha1 (gX_le hs h6 0)) (fun g => rul_245 h1 h2 ha1 (gX_le hs h6 0)) (by decide) rfl (by omega) hh (by omega) rfl rfl (scn_x hS5) (iX_25 hX) (fun c' hX' => ⟨rfl, ?_⟩))
  have hav : AV 0 W (5, 0, fun y => dO (gX T (goodD (mayW W.2.2.1 W.2.2.2 now fit S.1 S.2)) w W.2.2.2 s 0 y), fun _ => none) S n h now w fit 0 = lnV C T w (gX T (goodD (mayW W.2.2.1 W.2.2.2 now fit S.1 S.2)) w W.2.2.2 s 0) := hV _
  rw [hav]
  refine go_v (cd := cd86) [39] 20 rfl ?_
  exact go_sb (bw_out hV hf hT0 hW h1 h2 hn1 hh hS1 hS5 hs K 4 0 a1 c' rfl ha1 hX') ⟨rfl, rfl, rfl, rfl, rfl, trivial⟩ rfl rfl rfl
end LX
