/-! the objects at the start -/
def zrH (n : Nat) (I : Nat → Nat → Int32) (J : Nat → Nat → Int64) (R : Nat → Nat → Option Nat) : Prop := ∀ i, n ≤ i → I i = (fun _ => 0) ∧ J i = (fun _ => 0) ∧ R i = (fun _ => none)
theorem up1_sm {α : Type} {f : Nat → Nat → α} {i : Nat} {g : Nat → α} (h : f i = g) : up1 f i g = f := by
  funext j
  by_cases hj : j = i
  · subst hj; rw [up1_e, h]
  · rw [up1_ne hj]
section ZR
variable {n m i k : Nat} {I : Nat → Nat → Int32} {J : Nat → Nat → Int64} {R : Nat → Nat → Option Nat}
theorem zr_m (h : zrH n I J R) (hm : n ≤ m) : zrH m I J R := fun i hi => h i (Nat.le_trans hm hi)
theorem zr_I {v : Int32} (h : zrH n I J R) (hi : i < n) : zrH n (up2 I i k v) J R := fun j hj => ⟨by rw [up2_ne (by omega)]; exact (h j hj).1, (h j hj).2⟩
theorem zr_I1 {g : Nat → Int32} (h : zrH n I J R) (hi : i < n) : zrH n (up1 I i g) J R := fun j hj => ⟨by rw [up1_ne (by omega)]; exact (h j hj).1, (h j hj).2⟩
theorem zr_J {v : Int64} (h : zrH n I J R) (hi : i < n) : zrH n I (up2 J i k v) R := fun j hj => ⟨(h j hj).1, by rw [up2_ne (by omega)]; exact (h j hj).2.1, (h j hj).2.2⟩
theorem zr_R {v : Option Nat} (h : zrH n I J R) (hi : i < n) : zrH n I J (up2 R i k v) := fun j hj => ⟨(h j hj).1, (h j hj).2.1, by rw [up2_ne (by omega)]; exact (h j hj).2.2⟩
end ZR
section NZ
variable {L : Nat} {xs : Nat → Int32} {fv : Value} {d : Nat} {cd : Nat → Option aI} {P : Option Value → aH → Prop}
variable {pc nx a b t : Nat} {v : Value} {ls : aL} {st : List Value} {hn c : Nat} {hI : Nat → Nat → Int32} {hJ : Nat → Nat → Int64} {hR : Nat → Nat → Option Nat}
theorem gz_new {z : Nat} (hz : zrH hn hI hJ hR) (hc : cd pc = some (.new z, nx, a, b, t, v)) (hk : akd L hn = (a, b)) (h1 : hn < 1000) (o1 : okP hn (ls.map (·.2))) (o2 : okP hn st) (k : zrH (hn + 1) hI hJ hR → aTo L xs fv 0 d cd (nx, ls, .ref hn :: st, (hn + 1, hI, hJ, hR)) P) : aTo L xs fv 0 d cd (pc, ls, st, (hn, hI, hJ, hR)) P := by
  refine go_new hc hk h1 o1 o2 ?_
  obtain ⟨z1, z2, z3⟩ := hz hn (Nat.le_refl _)
  rw [up1_sm z1, up1_sm z2, up1_sm z3]
  exact k (zr_m hz (Nat.le_succ _))
theorem gz_nar {z : ArrayType} {x : Int32} {r : List Value} (hz : zrH hn hI hJ hR) (hc : cd pc = some (.newarray z, nx, a, b, t, v)) (hx : ¬ x < 0) (hk : akd L hn = (a, x.toNatClampNeg)) (hx2 : x.toNatClampNeg ≤ 10000) (h1 : hn < 1000) (o1 : okP hn (ls.map (·.2))) (o2 : okP hn r) (k : zrH (hn + 1) hI hJ hR → aTo L xs fv 0 d cd (nx, ls, .ref hn :: r, (hn + 1, hI, hJ, hR)) P) : aTo L xs fv 0 d cd (pc, ls, .int x :: r, (hn, hI, hJ, hR)) P := by
  refine go_nar hc hx hk hx2 h1 o1 o2 ?_
  obtain ⟨z1, z2, z3⟩ := hz hn (Nat.le_refl _)
  rw [up1_sm z1, up1_sm z2, up1_sm z3]
  exact k (zr_m hz (Nat.le_succ _))
theorem gz_anar {z : Nat} {x : Int32} {r : List Value} (hz : zrH hn hI hJ hR) (hc : cd pc = some (.anewarray z, nx, a, b, t, v)) (hx : ¬ x < 0) (hk : akd L hn = (a, x.toNatClampNeg)) (hx2 : x.toNatClampNeg ≤ 10000) (h1 : hn < 1000) (o1 : okP hn (ls.map (·.2))) (o2 : okP hn r) (k : zrH (hn + 1) hI hJ hR → aTo L xs fv 0 d cd (nx, ls, .ref hn :: r, (hn + 1, hI, hJ, hR)) P) : aTo L xs fv 0 d cd (pc, ls, .int x :: r, (hn, hI, hJ, hR)) P := by
  refine go_anar hc hx hk hx2 h1 o1 o2 ?_
  obtain ⟨z1, z2, z3⟩ := hz hn (Nat.le_refl _)
  rw [up1_sm z1, up1_sm z2, up1_sm z3]
  exact k (zr_m hz (Nat.le_succ _))
theorem in_now (hz : zrH hn hI hJ hR) (hc : c < hn) (hk : (akd L c).1 = 3) (hk1 : akd L hn = (7, 6)) (h1000 : hn < 1000) (K : zrH (hn + 1) (up2 (up2 (up2 hI c 0 (-1)) c 4 4) c 8 (-1)) hJ (up2 hR c 10 (some hn)) → P none (hn + 1, up2 (up2 (up2 hI c 0 (-1)) c 4 4) c 8 (-1), hJ, up2 hR c 10 (some hn))) : aCl L xs fv 0 (d + 1) 23 [.ref c] (hn, hI, hJ, hR) P := by
  refine cl_of rfl (Nat.zero_le _) ?_
  refine go_v (cd := cd23) [] 9 rfl ?_
  refine go_oinit (cd := cd23) rfl rfl ?_
  refine go_v (cd := cd23) [6] 9 rfl ?_
  refine go_putI (cd := cd23) rfl hc hk ?_
  refine go_v (cd := cd23) [11] 9 rfl ?_
  refine go_putI (cd := cd23) rfl hc hk ?_
  refine go_v (cd := cd23) [16] 9 rfl ?_
  refine go_putI (cd := cd23) rfl hc hk ?_
  refine go_v (cd := cd23) [] 9 rfl ?_
  refine gz_nar (cd := cd23) (zr_I (zr_I (zr_I hz hc) hc) hc) rfl (by decide) (by rw [hk1]; rfl) (by decide) h1000 ⟨Or.inl hc, trivial⟩ ⟨Or.inl hc, trivial⟩ (fun hz1 => ?_)
  refine go_putR (cd := cd23) rfl (Nat.lt_succ_of_lt hc) hk (Nat.lt_succ_self _) ?_
  refine go_return (cd := cd23) rfl (K (zr_R hz1 (Nat.lt_succ_of_lt hc)))
theorem in_reader (hz : zrH hn hI hJ hR) (hc : c < hn) (hk : (akd L c).1 = 1) (hk1 : akd L hn = (7, 100)) (h1000 : hn < 1000) (K : zrH (hn + 1) hI hJ (up2 hR c 0 (some hn)) → P none (hn + 1, hI, hJ, up2 hR c 0 (some hn))) : aCl L xs fv 0 (d + 1) 7 [.ref c] (hn, hI, hJ, hR) P := by
  refine cl_of rfl (Nat.zero_le _) ?_
  refine go_v (cd := cd7) [] 9 rfl ?_
  refine go_oinit (cd := cd7) rfl rfl ?_
  refine go_v (cd := cd7) [] 9 rfl ?_
  refine gz_nar (cd := cd7) hz rfl (by decide) (by rw [hk1]; rfl) (by decide) h1000 ⟨Or.inl hc, trivial⟩ ⟨Or.inl hc, trivial⟩ (fun hz1 => ?_)
  refine go_putR (cd := cd7) rfl (Nat.lt_succ_of_lt hc) hk (Nat.lt_succ_self _) ?_
  refine go_return (cd := cd7) rfl (K (zr_R hz1 (Nat.lt_succ_of_lt hc)))
theorem in_tape (hz : zrH hn hI hJ hR) (hc : c < hn) (hk : (akd L c).1 = 4) (hk1 : akd L hn = (8, 60)) (h1000 : hn < 1000) (K : zrH (hn + 1) (up2 hI c 0 (-1)) hJ (up2 hR c 2 (some hn)) → P none (hn + 1, up2 hI c 0 (-1), hJ, up2 hR c 2 (some hn))) : aCl L xs fv 0 (d + 1) 25 [.ref c] (hn, hI, hJ, hR) P := by
  refine cl_of rfl (Nat.zero_le _) ?_
  refine go_v (cd := cd25) [] 9 rfl ?_
  refine go_oinit (cd := cd25) rfl rfl ?_
  refine go_v (cd := cd25) [6] 9 rfl ?_
  refine go_putI (cd := cd25) rfl hc hk ?_
  refine go_v (cd := cd25) [] 9 rfl ?_
  refine gz_nar (cd := cd25) (zr_I hz hc) rfl (by decide) (by rw [hk1]; rfl) (by decide) h1000 ⟨Or.inl hc, trivial⟩ ⟨Or.inl hc, trivial⟩ (fun hz1 => ?_)
  refine go_putR (cd := cd25) rfl (Nat.lt_succ_of_lt hc) hk (Nat.lt_succ_self _) ?_
  refine go_return (cd := cd25) rfl (K (zr_R hz1 (Nat.lt_succ_of_lt hc)))
theorem in_rule {x y w : Int32} (hz : zrH hn hI hJ hR) (hc : c < hn) (hk : akd L c = (2, 5)) (hk1 : akd L hn = (7, 4)) (hk2 : akd L (hn + 1) = (7, 5)) (h1000 : hn + 1 < 1000) (K : zrH (hn + 2) (up1 (up1 (up2 (up2 (up2 hI c 0 x) c 1 y) c 2 w) hn (fun q => if q < 4 then -1 else 0)) (hn + 1) (fun q => if q < 5 then -1 else 0)) hJ (up2 (up2 hR c 3 (some hn)) c 4 (some (hn + 1))) → P none (hn + 2, up1 (up1 (up2 (up2 (up2 hI c 0 x) c 1 y) c 2 w) hn (fun q => if q < 4 then -1 else 0)) (hn + 1) (fun q => if q < 5 then -1 else 0), hJ, up2 (up2 hR c 3 (some hn)) c 4 (some (hn + 1)))) : aCl L xs fv 0 (d + 2) 22 [.ref c, .int x, .int y, .int w] (hn, hI, hJ, hR) P := by
  refine cl_rinit hc hk hk1 hk2 h1000 (Nat.zero_le _) ?_
  obtain ⟨z1, z2, z3⟩ := hz hn (Nat.le_refl _)
  obtain ⟨y1, y2, y3⟩ := hz (hn + 1) (Nat.le_succ _)
  rw [up1_sm z1, up1_sm y1, up1_sm z2, up1_sm y2, up1_sm z3, up1_sm (f := up2 hR c 3 (some hn)) (i := hn + 1) (by rw [up2_ne (by omega)]; exact y3)]
  refine K ?_
  have h2 := zr_m hz (show hn ≤ hn + 2 by omega)
  exact zr_R (zr_R (zr_I1 (zr_I1 (zr_I (zr_I (zr_I h2 (by omega)) (by omega)) (by omega)) (by omega)) (by omega)) (by omega)) (by omega)
theorem lst_nil {n0 : Nat} (hn0 : n0 ≤ hn) (hB : isB b) (hl : b < hn) : lstP L xs fv n0 d hn hJ hR b [] := fun I w p Q hC hw hp K => by
  refine cl_of rfl hn0 ?_
  refine go_v (cd := cd5) [1] 9 rfl ?_
  refine go_get (cd := cd5) rfl hl (isB_k hB) ?_
  rw [av0, show I b 0 = nI 0 from hC.1]
  refine go_v (cd := cd5) [] 9 rfl ?_
  refine go_st (cd := cd5) 1 rfl (go_ifT (by decide) ?_)
  refine go_v (cd := cd5) [] 9 rfl ?_
  exact go_ireturn (cd := cd5) rfl K
def gFol (g : Nat → Int32) : Prop := ∀ a k, a < 4 → k < 4 → g (4 * a + k) = nI (folA [] a k)
set_option maxHeartbeats 4000000 in
theorem in_race (hB : isB b) (hz : zrH (b + 1) hI hJ hR) (hb0 : hI b = fun _ => 0) (K : ∀ g, gFol g → zrH (b + 7) (up1 hI (b + 6) g) hJ (up2 (up2 (up2 (up2 (up2 (up2 hR b 1 (some (b + 1))) b 2 (some (b + 2))) b 3 (some (b + 3))) b 4 (some (b + 4))) b 5 (some (b + 5))) b 8 (some (b + 6))) → P none (b + 7, up1 hI (b + 6) g, hJ, up2 (up2 (up2 (up2 (up2 (up2 hR b 1 (some (b + 1))) b 2 (some (b + 2))) b 3 (some (b + 3))) b 4 (some (b + 4))) b 5 (some (b + 5))) b 8 (some (b + 6)))) : aCl L xs fv 0 (d + 3) 0 [.ref b] (b + 1, hI, hJ, hR) P := by
  have hk := isB_k (L := L) hB
  obtain ⟨-, ⟨k1, k2, k3, k4⟩, k5, k6⟩ := isB_all (L := L) hB
  have hb64 : b ≤ 58 := by
    rcases hB with rfl | ⟨f, hf, rfl⟩ <;> omega
  refine cl_of rfl (Nat.zero_le _) ?_
  refine go_v (cd := cd0) [] 9 rfl ?_
  refine go_oinit (cd := cd0) rfl rfl ?_
  refine go_v (cd := cd0) [] 9 rfl ?_
  refine gz_nar (cd := cd0) hz rfl (by decide) (by rw [k1]; rfl) (by decide) (by omega) ⟨Or.inl (by show b < _; omega), trivial⟩ ⟨Or.inl (by show b < _; omega), trivial⟩ (fun hz1 => ?_)
  refine go_putR (cd := cd0) rfl (by omega) hk (by omega) ?_
  refine go_v (cd := cd0) [] 9 rfl ?_
  refine gz_nar (cd := cd0) (zr_R hz1 (by omega)) rfl (by decide) (by rw [k2]; rfl) (by decide) (by omega) ⟨Or.inl (by show b < _; omega), trivial⟩ ⟨Or.inl (by show b < _; omega), trivial⟩ (fun hz2 => ?_)
  refine go_putR (cd := cd0) rfl (by omega) hk (by omega) ?_
  refine go_v (cd := cd0) [] 9 rfl ?_
  refine gz_nar (cd := cd0) (zr_R hz2 (by omega)) rfl (by decide) (by rw [k3]; rfl) (by decide) (by omega) ⟨Or.inl (by show b < _; omega), trivial⟩ ⟨Or.inl (by show b < _; omega), trivial⟩ (fun hz3 => ?_)
  refine go_putR (cd := cd0) rfl (by omega) hk (by omega) ?_
  refine go_v (cd := cd0) [] 9 rfl ?_
  refine gz_nar (cd := cd0) (zr_R hz3 (by omega)) rfl (by decide) (by rw [k4]; rfl) (by decide) (by omega) ⟨Or.inl (by show b < _; omega), trivial⟩ ⟨Or.inl (by show b < _; omega), trivial⟩ (fun hz4 => ?_)
  refine go_putR (cd := cd0) rfl (by omega) hk (by omega) ?_
  refine go_v (cd := cd0) [] 9 rfl ?_
  refine gz_nar (cd := cd0) (zr_R hz4 (by omega)) rfl (by decide) (by rw [k5]; rfl) (by decide) (by omega) ⟨Or.inl (by show b < _; omega), trivial⟩ ⟨Or.inl (by show b < _; omega), trivial⟩ (fun hz5 => ?_)
  refine go_putR (cd := cd0) rfl (by omega) hk (by omega) ?_
  refine go_v (cd := cd0) [] 9 rfl ?_
  refine gz_nar (cd := cd0) (zr_R hz5 (by omega)) rfl (by decide) (by rw [k6]; rfl) (by decide) (by omega) ⟨Or.inl (by show b < _; omega), trivial⟩ ⟨Or.inl (by show b < _; omega), trivial⟩ (fun hz6 => ?_)
  refine go_putR (cd := cd0) rfl (by omega) hk (by omega) ?_
  refine go_v (cd := cd0) [] 9 rfl ?_
  refine go_callv (cd := cd0) rfl rfl rfl rfl rfl (by omega) hk (cl_settle (n0 := 0) (A := []) (d := d) (Nat.zero_le _) hB (by omega) (by omega) up2_e ?_ ?_ (lst_nil (Nat.zero_le _) hB (by omega)) (fun I e1 e2 hD => ⟨rfl, ?_⟩))
  · exact ⟨by rw [hb0]; rfl, fun c q h => (by cases h)⟩
  · exact ⟨by decide, by decide, fun q h => (by cases h)⟩
  have eI : I = up1 hI (b + 6) (I (b + 6)) := by
    funext j
    by_cases h1 : j = b + 6
    · subst h1; rw [up1_e]
    · rw [up1_ne h1]
      by_cases h2 : j = b
      · subst h2
        funext q
        by_cases h3 : q = 7
        · subst h3; rw [hD.1, hb0]; rfl
        · exact e2 q h3
      · exact e1 j h2 h1
  have hz7 := zr_I1 (i := b + 6) (g := I (b + 6)) (zr_R (i := b) (k := 8) (v := some (b + 6)) hz6 (by omega)) (by omega)
  have hg : gFol (I (b + 6)) := hD.2
  rw [eI]
  generalize I (b + 6) = g at *
  exact go_return (cd := cd0) rfl (K g hg hz7)
end NZ
