/-! switches; what a leaf wants -/
def swK (Q : Nat → Prop) (pc : Nat) (x : Int32) : List Int → Int32 → Prop
  | [], _ => True
  | o :: l, v => (x = v → Q ((pc : Int) + o).toNat) ∧ swK Q pc x l (v + 1)
theorem i32_of_toInt {x y : Int32} (h : x.toInt = y.toInt) : x = y := Int32.toInt_inj.mp h
theorem swK_get {Q : Nat → Prop} {pc : Nat} {x : Int32} : ∀ (l : List Int) (v : Int32), swK Q pc x l v → v.toInt ≤ x.toInt → x.toInt < v.toInt + l.length → ∃ o, l[(x.toInt - v.toInt).toNat]? = some o ∧ Q ((pc : Int) + o).toNat
  | [], v, _, h1, h2 => by simp at h2; omega
  | o :: l, v, h, h1, h2 => by
    by_cases he : x.toInt = v.toInt
    · exact ⟨o, by rw [he]; simp, h.1 (i32_of_toInt he)⟩
    · simp only [List.length_cons] at h2
      have hm := Int32.le_toInt v
      have hb := Int32.toInt_lt x
      have e1 : (v + 1).toInt = v.toInt + 1 := by
        rw [Int32.toInt_add]
        have : (1 : Int32).toInt = 1 := rfl
        rw [this]
        apply Int.bmod_eq_of_le <;> omega
      obtain ⟨o2, g1, g2⟩ := swK_get l (v + 1) h.2 (by rw [e1]; omega) (by rw [e1]; push_cast at h2 ⊢; omega)
      refine ⟨o2, ?_, g2⟩
      rw [e1] at g1
      rw [show (x.toInt - v.toInt).toNat = (x.toInt - (v.toInt + 1)).toNat + 1 by omega]
      simpa using g1
section GX
variable {L : Nat} {xs : Nat → Int32} {fv : Value} {n0 d : Nat} {cd : Nat → Option aI} {P : Option Value → aH → Prop} {pc nx a b t : Nat} {v : Value} {ls : aL} {hn : Nat} {hI : Nat → Nat → Int32} {hJ : Nat → Nat → Int64} {hR : Nat → Nat → Option Nat}
theorem go_tsw {x : Int32} {r : List Value} {df lo hi : Int} {offs : Array Int} (lo32 hi32 : Int32) (hc : cd pc = some (.tableswitch df lo hi offs, nx, a, b, t, v)) (h1 : lo32.toInt = lo) (h2 : hi32.toInt = hi) (h3 : hi = lo + offs.toList.length - 1)
    (kO : x < lo32 ∨ hi32 < x → aTo L xs fv n0 d cd (((pc : Int) + df).toNat, ls, r, (hn, hI, hJ, hR)) P) (kI : swK (fun p => aTo L xs fv n0 d cd (p, ls, r, (hn, hI, hJ, hR)) P) pc x offs.toList lo32) : aTo L xs fv n0 d cd (pc, ls, .int x :: r, (hn, hI, hJ, hR)) P := by
  have hb := Int32.toInt_lt hi32
  by_cases hx : x.toInt < lo ∨ hi < x.toInt
  · refine go_tswO _ hc hx rfl (kO ?_)
    rw [Int32.lt_iff_toInt_lt, Int32.lt_iff_toInt_lt, h1, h2]
    exact hx
  · obtain ⟨o, g1, g2⟩ := swK_get _ _ kI (by omega) (by omega)
    refine go_tswI _ hc (off := o) ?_ (fun q => hx (Or.inl q)) (fun q => hx (Or.inr q)) rfl g2
    rw [h1] at g1
    rw [← Array.getElem?_toList]
    exact g1
def lsK (Q : Nat → Prop) (pc : Nat) (x : Int32) : List (Int × Int) → Prop
  | [] => True
  | o :: l => (x.toInt = o.1 → Q ((pc : Int) + o.2).toNat) ∧ (¬ x.toInt = o.1 → lsK Q pc x l)
end GX
theorem up2_f {α : Type} {f : Nat → Nat → α} {i k j : Nat} {v : α} (h : 111 ≤ j) (hi : Nat.ble 111 i = false) : up2 f i k v j = f j := up2_ne (by
  intro he; rw [he, ← Nat.ble_eq, hi] at h; cases h)
theorem up1_f {α : Type} {f : Nat → Nat → α} {i j : Nat} {g : Nat → α} (h : 111 ≤ j) (hi : Nat.ble 111 i = false) : up1 f i g j = f j := up1_ne (by
  intro he; rw [he, ← Nat.ble_eq, hi] at h; cases h)
/-- j is one of a .. b-1 -/
def bw (a b j : Nat) : Prop := a ≤ j ∧ j < b
theorem up2_b {α : Type} {a b : Nat} {f : Nat → Nat → α} {i k j : Nat} {v : α} (h : bw a b j) (hi : (Nat.ble a i && Nat.blt i b) = false) : up2 f i k v j = f j := up2_ne (by
  intro he; rw [he] at h; rw [Nat.ble_eq_true_of_le h.1, blt_t h.2] at hi; cases hi)
theorem up1_b {α : Type} {a b : Nat} {f : Nat → Nat → α} {i j : Nat} {g : Nat → α} (h : bw a b j) (hi : (Nat.ble a i && Nat.blt i b) = false) : up1 f i g j = f j := up1_ne (by
  intro he; rw [he] at h; rw [Nat.ble_eq_true_of_le h.1, blt_t h.2] at hi; cases hi)
theorem iG_c {r : Nat} {I I' : Nat → Nat → Int32} (h0 : I' 0 12 = I 0 12) (h1 : I' 77 29 = I 77 29) (h2 : I' 91 = I 91) (h3 : I' 92 = I 92) (h4 : I' 93 = I 93) (h5 : I' 94 = I 94) (h6 : ∀ j, 111 ≤ j → I' j = I j) (h : iG r I) : iG r I' := by
  obtain ⟨a1, a2, a3, a4⟩ := h
  refine ⟨h0.trans a1, h1.trans a2, a3, fun k hk => ?_⟩
  rw [h6 (111 + 3 * k) (by omega), h6 (112 + 3 * k) (by omega), h6 (113 + 3 * k) (by omega), h2, h3, h4, h5]
  exact a4 k hk
theorem iP_c {I I' : Nat → Nat → Int32} {J : Nat → Nat → Int64} (h1 : I' 107 = I 107) (h2 : I' 108 = I 108) (h3 : ∀ j, bw 65 77 j → I' j = I j) (h : iP I J) : iP I' J := by
  intro t ht
  rw [h3 (65 + 2 * t) ⟨by omega, by omega⟩, h1, h2]
  exact h t ht
theorem aIn_mk {r : Nat} {rr : Option Nat} {A : Nat → List Cl} {I : Nat → Nat → Int32} {J : Nat → Nat → Int64} (h1 : iS I) (h2 : iR I) (h3 : iQ I) (h4 : iK I) (h5 : iW I) (h6 : iT I) (h7 : iG r I) (h8 : iP I J) (h9 : iB I) (hA : iA I) (hU : iU I) (hC : iC A I) (hX : iX A I) : aIn (111 + 3 * r, I, J, aRf r rr) := ⟨r, rr, A, I, J, rfl, h1, h2, h3, h4, h5, h6, h7, h8, h9, hA, hU, hC, hX⟩
