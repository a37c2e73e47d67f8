/-! lines: the class's row for a sail told now -/
def dgI (e : Nat) : Int32 := oI (dO e)
theorem dg_s (e : Nat) : dgI e + 1 = dgI (e + 1) := by
  cases e with
  | zero => decide
  | succ e => exact (nI_succ e).symm
theorem dg_cmp {e f : Nat} (he : e < 8) (hf : f < 8) : (dgI e = dgI f ↔ e = f) ∧ (dgI e < dgI f ↔ e < f) := by
  have : ∀ e f : Fin 8, (dgI e.val = dgI f.val ↔ e.val = f.val) ∧ (dgI e.val < dgI f.val ↔ e.val < f.val) := by decide +kernel
  exact this ⟨e, he⟩ ⟨f, hf⟩
theorem dg_m1 {e : Nat} (he : e < 8) : (dgI e = -1 ↔ e = 0) ∧ (dgI e < 0 ↔ e = 0) := by
  have : ∀ e : Fin 8, (dgI e.val = -1 ↔ e.val = 0) ∧ (dgI e.val < 0 ↔ e.val = 0) := by decide +kernel
  exact this ⟨e, he⟩
theorem dg_cnt {c e : Nat} (hc : c < 8) (he : e < 8) : nI c ≤ dgI e ↔ c < e := by
  have : ∀ c e : Fin 8, nI c.val ≤ dgI e.val ↔ c.val < e.val := by decide +kernel
  exact this ⟨c, hc⟩ ⟨e, he⟩
theorem dO_lt {e s : Nat} (he : e ≤ 6) (hs : dO e = some s) : s < 6 := by
  cases e with
  | zero => cases hs
  | succ e => cases hs; omega
theorem hp_25 {I : Nat → Nat → Int32} {g c a a' : Nat → Int32} : up1 (hpT (up1 I 25 a) g c) 25 a' = hpT (up1 I 25 a') g c := by
  unfold hpT
  rw [up1_sw (show 19 ≠ 25 by decide), up1_sw (show 5 ≠ 25 by decide), up1_1]
theorem hp_e25 {I : Nat → Nat → Int32} {g c a : Nat → Int32} : hpT (up1 I 25 a) g c 25 = a := by
  unfold hpT
  rw [up1_o (show Nat.beq 25 19 = false from rfl), up1_o (show Nat.beq 25 5 = false from rfl), up1_e]
theorem hp_25k {I : Nat → Nat → Int32} {g c a : Nat → Int32} {k : Nat} {v : Int32} : up2 (hpT (up1 I 25 a) g c) 25 k v = hpT (up1 I 25 (fun q => if q = k then v else a q)) g c := by
  rw [up2_1, hp_25, hp_e25]
section LW
variable {L : Nat} {xs : Nat → Int32} {fv : Value} {d : Nat} {r : Nat} {rr : Option Nat} {I : Nat → Nat → Int32} {J : Nat → Nat → Int64} {P : Option Value → aH → Prop}
variable {A : Nat → List Cl} {W : Wd} {S : Sc}
theorem wld_25 {a : Nat → Int32} (hW : wld A W I) : wld A W (up1 I 25 a) := by
  obtain ⟨w1, w2, w3, w4, w5, w6, w7, w8, w9, wA, wB⟩ := hW
  exact ⟨w1, w2, w3, w4, w5, iC_c (I := I) rfl rfl rfl rfl rfl rfl rfl rfl (fun j hj => up1_ne (by omega)) (fun j hj => up1_ne (by omega)) w6, w7, w8, w9, wA, wB⟩
theorem rul_24 {p : Nat → Nat} {a : Nat → Int32} (h1 : I 24 1 = 5) (h2 : I 24 2 = 0) (ha : ∀ y, y < 4 → a y = dgI (p y)) (hp : ∀ y, y < 4 → p y ≤ 6) : rul (5, 0, fun y => dO (p y), fun _ => none) 24 (up1 I 25 a) := ⟨by rw [up1_ne (by decide)]; exact h1, by rw [up1_ne (by decide)]; exact h2, (show (5 : Nat) ≤ 6 by decide), (show (0 : Nat) ≤ 9 by decide), fun _ w hw => ⟨by rw [show 24 + 1 = 25 from rfl, up1_e]; exact ha w hw, fun s hs => dO_lt (hp w hw) hs⟩, fun h => absurd (show (5 : Nat) = 6 from h) (by decide)⟩
theorem rul_245 {p : Nat → Nat} {a g : Nat → Int32} (h1 : I 24 1 = 5) (h2 : I 24 2 = 0) (ha : ∀ y, y < 4 → a y = dgI (p y)) (hp : ∀ y, y < 4 → p y ≤ 6) : rul (5, 0, fun y => dO (p y), fun _ => none) 24 (up1 (up1 I 25 a) 5 g) := ⟨by rw [up1_ne (by decide), up1_ne (by decide)]; exact h1, by rw [up1_ne (by decide), up1_ne (by decide)]; exact h2, (show (5 : Nat) ≤ 6 by decide), (show (0 : Nat) ≤ 9 by decide), fun _ w hw => ⟨by rw [show 24 + 1 = 25 from rfl, up1_ne (by decide), up1_e]; exact ha w hw, fun s hs => dO_lt (hp w hw) hs⟩, fun h => absurd (show (5 : Nat) = 6 from h) (by decide)⟩
theorem scn_x {I1 : Nat → Nat → Int32} {h w : Nat} {now : Option Nat} {fit : Nat → Bool} {g : Nat → Int32} (hS : scn W S h now w fit 5 (up1 I 5 g)) : scn W S h now w fit 5 (up1 I1 5 g) := by
  unfold scn at hS ⊢
  rw [up1_e] at hS ⊢
  exact hS
theorem iX_25 {a a' g c : Nat → Int32} (hX : iX A (hpT (up1 I 25 a) g c)) : iX A (hpT (up1 I 25 a') g c) := iX_c (I := hpT (up1 I 25 a) g c) rfl rfl rfl rfl hX
theorem set_le {p : Nat → Nat} {x e : Nat} (hp : ∀ y, y < 4 → p y ≤ 6) (he : e ≤ 6) : ∀ y, y < 4 → setR p x e y ≤ 6 := fun y hy => by
  have := hp y hy
  show (if y = x then e else p y) ≤ 6
  split <;> omega
theorem set_dg {p : Nat → Nat} {a : Nat → Int32} {x e : Nat} {v : Int32} (hv : v = dgI e) (ha : ∀ y, y < 4 → y ≠ x → a y = dgI (p y)) : ∀ y, y < 4 → (fun q => if q = x then v else a q) y = dgI (setR p x e y) := fun y hy => by
  show (if y = x then v else a y) = dgI (if y = x then e else p y)
  by_cases h : y = x
  · rw [if_pos h, if_pos h]; exact hv
  · rw [if_neg h, if_neg h]; exact ha y hy h
set_option maxHeartbeats 4000000 in
theorem bw_in {n h w x : Nat} {now : Option Nat} {fit : Nat → Bool} {C : Nat → Int} {T : Nat → Nat → Nat → Int} {p : Nat → Nat} {g : Nat → Int32} (hV : ∀ p : Nat → Nat, VV W (5, 0, fun y => dO (p y), fun _ => none) S n h now w fit = lnV C T w p) (hf : ∀ p, -1000000000000 ≤ lnV C T w p ∧ lnV C T w p ≤ 1000000000000) (hW : wld A W I) (h1 : I 24 1 = 5) (h2 : I 24 2 = 0) (hn1 : n ≤ 1) (hh : h ≤ 200) (hS1 : scn W S h now w fit 1 I) (hS5 : scn W S h now w fit 5 (up1 I 5 g)) (hx : x < 4) (hxw : x ≠ w) (hp : ∀ y, y < 4 → p y ≤ 6)
    (K : ∀ a c, iX A (hpT (up1 I 25 a) g c) → (∀ y, y < 4 → a y = dgI (setR p x (gB (T (p w) x) (goodD (mayW W.2.2.1 W.2.2.2 now fit S.1 S.2)) W.2.2.2) y)) → aTo L xs fv 111 (d + 8) cd86 (143, [(6, .int (nI x)), (4, .long (lZ (lnV C T w (setR p x (gB (T (p w) x) (goodD (mayW W.2.2.1 W.2.2.2 now fit S.1 S.2)) W.2.2.2))))), (3, .ref 25), (0, .ref 0), (2, .int (nI (n + 1)))], [], aHp r rr (hpT (up1 I 25 a) g c) J) P) :
    ∀ mm k a c, k + mm = W.2.2.2 → (∀ y, y < 4 → y ≠ x → a y = dgI (p y)) → iX A (hpT (up1 I 25 a) g c) → aTo L xs fv 111 (d + 8) cd86 (71, [(8, .int (nI k)), (7, .int (dgI (gB (T (p w) x) (goodD (mayW W.2.2.1 W.2.2.2 now fit S.1 S.2)) k))), (6, .int (nI x)), (4, .long (lZ (lnV C T w (setR p x (gB (T (p w) x) (goodD (mayW W.2.2.1 W.2.2.2 now fit S.1 S.2)) k))))), (3, .ref 25), (0, .ref 0), (2, .int (nI (n + 1)))], [], aHp r rr (hpT (up1 I 25 a) g c) J) P
  | 0, k, a, c, hk, ha, hX => by
    have hk : k = W.2.2.2 := hk
    rw [hk]
    have h6 := hW.1
    refine go_v (cd := cd86) [] 20 rfl ?_
    refine go_st (cd := cd86) 1 rfl (go_ifT (show I 1 5 ≤ nI W.2.2.2 from by rw [hS1.2.2.2.2.1]; exact nI_le (Nat.le_refl _) (by omega)) ?_)
    refine go_v (cd := cd86) [] 20 rfl ?_
    refine go_iast (cd := cd86) rfl (nI_vin (j := x) (n := 4) hx (by decide)) (lv3 rfl) rfl ?_
    rw [nI_clamp (show x < 2 ^ 31 by omega), hp_25k]
    exact go_sb (K _ c (iX_25 hX) (set_dg rfl ha)) ⟨rfl, rfl, rfl, rfl, rfl, trivial⟩ rfl rfl rfl
  | mm + 1, k, a, c, hk, ha, hX => by
    have h6 := hW.1
    have ih := fun a c => bw_in hV hf hW h1 h2 hn1 hh hS1 hS5 hx hxw hp K mm (k + 1) a c (by omega)
    have hgs := gB_s (f := T (p w) x) (good := goodD (mayW W.2.2.1 W.2.2.2 now fit S.1 S.2)) k
    have hgl := gB_le (f := T (p w) x) (good := goodD (mayW W.2.2.1 W.2.2.2 now fit S.1 S.2)) k
    obtain ⟨c1, c2, c3, c4, c5, c6, c7, c8, c9, cA, cB⟩ := hS1
    have hq : mayQ (I 8) (I 1 5) (nI k) (I 1 0) (I 1 6) (I 1 7) (I 1 4) ↔ mayW W.2.2.1 W.2.2.2 now fit S.1 S.2 k = true := by
      have h := mayQ_W (nd := I 8) (ndN := W.2.2.1) (cnt := W.2.2.2) (many := S.2) (now := now) (o := some k) (x := I 1 6) (y := I 1 7) (fun s hs => ⟨(hW.2.2.1 s hs).2.2.2.1, (hW.2.2.1 s hs).2.2.2.2.2⟩) cA h6 cB (fun u hu => by cases hu; omega)
      rw [c6, c7] at h
      rw [c5, c1, c4]
      exact h
    have hskip : ∀ a c, (∀ y, y < 4 → y ≠ x → a y = dgI (p y)) → iX A (hpT (up1 I 25 a) g c) → gB (T (p w) x) (goodD (mayW W.2.2.1 W.2.2.2 now fit S.1 S.2)) (k + 1) = gB (T (p w) x) (goodD (mayW W.2.2.1 W.2.2.2 now fit S.1 S.2)) k → aTo L xs fv 111 (d + 8) cd86 (131, [(8, .int (nI k)), (7, .int (dgI (gB (T (p w) x) (goodD (mayW W.2.2.1 W.2.2.2 now fit S.1 S.2)) k))), (6, .int (nI x)), (4, .long (lZ (lnV C T w (setR p x (gB (T (p w) x) (goodD (mayW W.2.2.1 W.2.2.2 now fit S.1 S.2)) k))))), (3, .ref 25), (0, .ref 0), (2, .int (nI (n + 1)))], [], aHp r rr (hpT (up1 I 25 a) g c) J) P := fun a c ha hX e => by
      have ih := ih a c ha hX
      rw [e] at ih
      refine go_v (cd := cd86) [71] 20 rfl ?_
      exact go_sb ih ⟨by rw [nI_succ k]; rfl, rfl, rfl, rfl, rfl, rfl, rfl, trivial⟩ rfl rfl rfl
    refine go_v (cd := cd86) [] 20 rfl ?_
    refine go_st (cd := cd86) 1 rfl (go_ifF (show ¬ I 1 5 ≤ nI k from by rw [c5]; exact nI_ge (by omega) (by omega)) ?_)
    refine go_v (cd := cd86) [] 20 rfl ?_
    refine go_callv (cd := cd86) rfl rfl rfl rfl rfl (lv3 rfl) rfl (cl_may1 (show I 1 5 ≤ 6 from by rw [c5]; exact nI_le (b := 6) h6 (by decide)) (fun hm => ⟨rfl, ?_⟩) (fun hm => ⟨rfl, ?_⟩))
    case refine_2 =>
      have hm := fun h => hm (hq.mpr h)
      refine go_st (cd := cd86) 1 rfl (go_ifT rfl ?_)
      exact hskip a c ha hX (by rw [hgs, if_neg (fun h => hm h.1)])
    have hm := hq.mp hm
    refine go_st (cd := cd86) 1 rfl (go_ifF (by decide) ?_)
    refine go_v (cd := cd86) [] 20 rfl ?_
    refine go_iast (cd := cd86) rfl (nI_vin (j := x) (n := 4) hx (by decide)) (lv3 rfl) rfl ?_
    rw [nI_clamp (show x < 2 ^ 31 by omega), hp_25k]
    have ha1 := set_dg (x := x) (e := k + 1) (v := nI k) rfl ha
    generalize (fun q => if q = x then nI k else a q) = a1 at ha1 ⊢
    have hle := set_le (x := x) (e := k + 1) hp (by omega)
    refine go_v (cd := cd86) [] 20 rfl ?_
    refine go_callv (cd := cd86) rfl rfl rfl rfl rfl (lv3 rfl) rfl (cl_aheadX (d := d) (R := (5, 0, fun y => dO (setR p x (k + 1) y), fun _ => none)) (t := 0) (n := n) (m := 0) (wld_25 hW) (Or.inr (Or.inl rfl)) (rul_24 h1 h2 ha1 hle) (fun g => rul_245 h1 h2 ha1 hle) (by decide) rfl (by omega) hh (by omega) rfl rfl (scn_x hS5) (iX_25 hX) (fun c' hX' => ⟨rfl, ?_⟩))
    have hav : AV 0 W (5, 0, fun y => dO (setR p x (k + 1) y), fun _ => none) S n h now w fit 0 = lnV C T w (setR p x (k + 1)) := hV (setR p x (k + 1))
    rw [hav]
    refine go_v (cd := cd86) [] 20 rfl ?_
    have hset := lnV_set (C := C) (T := T) (w := w) (p := p) (e := gB (T (p w) x) (goodD (mayW W.2.2.1 W.2.2.2 now fit S.1 S.2)) k) (e' := k + 1) hx hxw
    have hf1 := hf (setR p x (k + 1))
    have hf2 := hf (setR p x (gB (T (p w) x) (goodD (mayW W.2.2.1 W.2.2.2 now fit S.1 S.2)) k))
    have ha2 : ∀ y, y < 4 → y ≠ x → a1 y = dgI (p y) := fun y hy hyx => by
      rw [ha1 y hy, show setR p x (k + 1) y = p y from if_neg hyx]
    have hl := (lgZ (a := lnV C T w (setR p x (k + 1))) (b := lnV C T w (setR p x (gB (T (p w) x) (goodD (mayW W.2.2.1 W.2.2.2 now fit S.1 S.2)) k))) (by omega) (by omega) (by omega) (by omega)).1
    by_cases hc : T (p w) x (gB (T (p w) x) (goodD (mayW W.2.2.1 W.2.2.2 now fit S.1 S.2)) k) < T (p w) x (k + 1)
    · refine go_st (cd := cd86) 1 rfl (go_ifF (fun h => hl.mp h (by omega)) ?_)
      have ih := ih a1 c' ha2 hX'
      rw [show gB (T (p w) x) (goodD (mayW W.2.2.1 W.2.2.2 now fit S.1 S.2)) (k + 1) = k + 1 from by rw [hgs, if_pos ⟨hm, hc⟩]] at ih
      refine go_v (cd := cd86) [71] 20 rfl ?_
      exact go_sb ih ⟨by rw [nI_succ k]; rfl, rfl, rfl, rfl, rfl, rfl, rfl, trivial⟩ rfl rfl rfl
    · refine go_st (cd := cd86) 1 rfl (go_ifT (hl.mpr (by omega)) ?_)
      exact go_sb (hskip a1 c' ha2 hX' (by rw [hgs, if_neg (fun h => hc h.2)])) ⟨rfl, rfl, rfl, rfl, rfl, rfl, rfl, trivial⟩ rfl rfl rfl
end LW
