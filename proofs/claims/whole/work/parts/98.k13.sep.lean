/-! lines: what a row makes, digit by digit -/
def tO (W : Wd) (S : Sc) (now : Option Nat) (fit : Nat → Bool) (o : Option Nat) : Option Nat := toldW (mayW W.2.2.1 W.2.2.2 now fit S.1 S.2) o (asUpW (mayW W.2.2.1 W.2.2.2 now fit S.1 S.2) now)
def lnG (W : Wd) (S : Sc) (h w : Nat) (fit : Nat → Bool) (q : Option Nat) (j x : Nat) (o : Option Nat) : Int := (chW W w (trW W h w q) j : Int) * mlW W (h + 1) (nxU q j) x (tO W S (nxU q j) (nxF q j fit) o)
def lnC (W : Wd) (S : Sc) (h : Nat) (now : Option Nat) (w : Nat) (fit : Nat → Bool) : Nat → Nat → Int
  | 0, e => mlW W h now w (tO W S now fit (dO e))
  | _ + 1, e => mlW W h now w (tO W S now fit (dO e)) * 1000
def lnT (W : Wd) (S : Sc) (h : Nat) (now : Option Nat) (w : Nat) (fit : Nat → Bool) : Nat → Nat → Nat → Nat → Int
  | 0, _, _, _ => 0
  | _ + 1, e, x, y => lnG W S h w fit (tO W S now fit (dO e)) x x (dO y) + lnG W S h w fit (tO W S now fit (dO e)) (x + 4) x (dO y)
section LS
variable {W : Wd} {S : Sc} {h w n : Nat} {now : Option Nat} {fit : Nat → Bool}
theorem pk_ln {v : Nat} {l z : Nat → Option Nat} : pkW W (5, v, l, z) S h now w fit = tO W S now fit (l w) := by
  first | rfl | simp [pkW, pickW, tO]
theorem tO_none {o : Option Nat} (ho : ∀ s, o = some s → mayW W.2.2.1 W.2.2.2 now fit S.1 S.2 s = false) : tO W S now fit o = tO W S now fit none := by
  cases o with
  | none => rfl
  | some s =>
    show (if mayW W.2.2.1 W.2.2.2 now fit S.1 S.2 s = true then some s else asUpW (mayW W.2.2.1 W.2.2.2 now fit S.1 S.2) now) = asUpW (mayW W.2.2.1 W.2.2.2 now fit S.1 S.2) now
    rw [ho s rfl]
    rfl
theorem tO_may {o : Option Nat} {s : Nat} (hs : tO W S now fit o = some s) : mayW W.2.2.1 W.2.2.2 now fit S.1 S.2 s = true := pkW_P (W := W) (R := (5, 0, fun _ => o, fun _ => none)) (S := S) (h := 0) (w := 0) (now := now) (fit := fit) (Q := fun s => mayW W.2.2.1 W.2.2.2 now fit S.1 S.2 s = true) (fun s hs => hs) s (by rw [pk_ln]; exact hs)
theorem may_nx {q : Option Nat} {j s : Nat} (hq : ∀ u, q = some u → mayW W.2.2.1 W.2.2.2 now fit S.1 S.2 u = true) (hs : mayW W.2.2.1 W.2.2.2 now fit S.1 S.2 s = false) : mayW W.2.2.1 W.2.2.2 (nxU q j) (nxF q j fit) S.1 S.2 s = false := by
  refine Bool.eq_false_iff.mpr (fun hm => ?_)
  unfold mayW at hm
  simp only [Bool.and_eq_true, Bool.or_eq_true, decide_eq_true_eq] at hm
  obtain ⟨m1, m2, m3, m4⟩ := hm
  have hf : fit s = true := by
    unfold nxF at m2
    split at m2
    · exact m2
    · cases q with
      | none => exact m2
      | some z =>
        dsimp only at m2
        rw [Bool.and_eq_true] at m2
        exact m2.1
  have ht : mayW W.2.2.1 W.2.2.2 now fit S.1 S.2 s = true := by
    rcases m4 with m4 | m4
    · unfold nxU at m4
      split at m4
      · exact hq s m4
      · cases m4
    · unfold mayW
      simp only [Bool.and_eq_true, Bool.or_eq_true, decide_eq_true_eq]
      exact ⟨m1, hf, m3, Or.inr m4⟩
  rw [hs] at ht
  cases ht
theorem good_f {may : Nat → Bool} {e : Nat} (h : goodD may e = false) : ∀ s, dO e = some s → may s = false := fun s hs => by
  cases e with
  | zero => cases h
  | succ e => cases hs; exact h
theorem ln_badC {e : Nat} (he : goodD (mayW W.2.2.1 W.2.2.2 now fit S.1 S.2) e = false) : lnC W S h now w fit n e = lnC W S h now w fit n 0 ∧ ∀ x y, lnT W S h now w fit n e x y = lnT W S h now w fit n 0 x y := by
  have ht : tO W S now fit (dO e) = tO W S now fit (dO 0) := tO_none (good_f he)
  cases n with
  | zero =>
    refine ⟨?_, fun _ _ => rfl⟩
    unfold lnC
    dsimp only
    rw [ht]
  | succ n =>
    refine ⟨?_, fun x y => ?_⟩
    · unfold lnC
      dsimp only
      rw [ht]
    · unfold lnT
      dsimp only
      rw [ht]
theorem ln_badT {e x y : Nat} (hy : goodD (mayW W.2.2.1 W.2.2.2 now fit S.1 S.2) y = false) : lnT W S h now w fit n e x y = lnT W S h now w fit n e x 0 := by
  cases n with
  | zero => rfl
  | succ n =>
    have hg : ∀ j, lnG W S h w fit (tO W S now fit (dO e)) j x (dO y) = lnG W S h w fit (tO W S now fit (dO e)) j x (dO 0) := fun j => by
      unfold lnG
      rw [tO_none (o := dO y) (fun s hs => may_nx (now := now) (fun u hu => tO_may hu) (good_f hy s hs))]
      rfl
    unfold lnT
    dsimp only
    rw [hg, hg]
theorem VV_sep {v : Nat} {p : Nat → Nat} {z : Nat → Option Nat} (hn : n ≤ 1) : VV W (5, v, fun x => dO (p x), z) S n h now w fit = lnV (lnC W S h now w fit n) (lnT W S h now w fit n) w p := by
  have e0 : ∀ h' now' w' fit', VV W (5, v, fun x => dO (p x), z) S 0 h' now' w' fit' = mlW W h' now' w' (tO W S now' fit' (dO (p w'))) := fun h' now' w' fit' => by
    show mlW W h' now' w' (pkW W (5, v, fun x => dO (p x), z) S h' now' w' fit') = _
    rw [pk_ln]
  cases n with
  | zero =>
    rw [e0]
    show mlW W h now w (tO W S now fit (dO (p w))) = mlW W h now w (tO W S now fit (dO (p w))) + (0 + 0 + 0 + 0)
    omega
  | succ n =>
    have hn0 : n = 0 := by omega
    subst hn0
    have e : VV W (5, v, fun x => dO (p x), z) S (0 + 1) h now w fit = mlW W h now w (pkW W (5, v, fun x => dO (p x), z) S h now w fit) * 1000 ^ (0 + 1) + sumW (fun j => (chW W w (trW W h w (pkW W (5, v, fun x => dO (p x), z) S h now w fit)) j : Int) * VV W (5, v, fun x => dO (p x), z) S 0 (h + 1) (nxU (pkW W (5, v, fun x => dO (p x), z) S h now w fit) j) (j % 4) (nxF (pkW W (5, v, fun x => dO (p x), z) S h now w fit) j fit)) 8 := rfl
    rw [e, pk_ln]
    have s : (fun j => (chW W w (trW W h w (tO W S now fit (dO (p w)))) j : Int) * VV W (5, v, fun x => dO (p x), z) S 0 (h + 1) (nxU (tO W S now fit (dO (p w))) j) (j % 4) (nxF (tO W S now fit (dO (p w))) j fit)) = fun j => lnG W S h w fit (tO W S now fit (dO (p w))) j (j % 4) (dO (p (j % 4))) := by
      funext j
      unfold lnG
      rw [e0]
    rw [s, sumW_8]
    show mlW W h now w (tO W S now fit (dO (p w))) * 1000 ^ (0 + 1) + (lnG W S h w fit (tO W S now fit (dO (p w))) 0 0 (dO (p 0)) + lnG W S h w fit (tO W S now fit (dO (p w))) 1 1 (dO (p 1)) + lnG W S h w fit (tO W S now fit (dO (p w))) 2 2 (dO (p 2)) + lnG W S h w fit (tO W S now fit (dO (p w))) 3 3 (dO (p 3)) + lnG W S h w fit (tO W S now fit (dO (p w))) 4 0 (dO (p 0)) + lnG W S h w fit (tO W S now fit (dO (p w))) 5 1 (dO (p 1)) + lnG W S h w fit (tO W S now fit (dO (p w))) 6 2 (dO (p 2)) + lnG W S h w fit (tO W S now fit (dO (p w))) 7 3 (dO (p 3))) = mlW W h now w (tO W S now fit (dO (p w))) * 1000 + ((lnG W S h w fit (tO W S now fit (dO (p w))) 0 0 (dO (p 0)) + lnG W S h w fit (tO W S now fit (dO (p w))) 4 0 (dO (p 0))) + (lnG W S h w fit (tO W S now fit (dO (p w))) 1 1 (dO (p 1)) + lnG W S h w fit (tO W S now fit (dO (p w))) 5 1 (dO (p 1))) + (lnG W S h w fit (tO W S now fit (dO (p w))) 2 2 (dO (p 2)) + lnG W S h w fit (tO W S now fit (dO (p w))) 6 2 (dO (p 2))) + (lnG W S h w fit (tO W S now fit (dO (p w))) 3 3 (dO (p 3)) + lnG W S h w fit (tO W S now fit (dO (p w))) 7 3 (dO (p 3))))
    rw [show (1000 : Int) ^ (0 + 1) = 1000 from by decide]
    omega
theorem lnV_abs (hW : rcWf W.1) (hw : w < 4) (hn : n ≤ 1) (p : Nat → Nat) : -1000000000000 ≤ lnV (lnC W S h now w fit n) (lnT W S h now w fit n) w p ∧ lnV (lnC W S h now w fit n) (lnT W S h now w fit n) w p ≤ 1000000000000 := by
  rw [← VV_sep (v := 0) (z := fun _ => none) hn]
  exact AV_abs (t := 0) hW (5, 0, fun x => dO (p x), fun _ => none) S (n := n) (h := h) (now := now) (w := w) (fit := fit) (m := 0) hw (by omega)
end LS
