/-! cells written over and over -/
theorem up1_id {α : Type} {f : Nat → Nat → α} {i : Nat} : up1 f i (f i) = f := by
  funext j
  by_cases h : j = i
  · subst h; exact up1_at
  · exact up1_ne h
theorem up2_1 {α : Type} {f : Nat → Nat → α} {i k : Nat} {v : α} : up2 f i k v = up1 f i (fun q => if q = k then v else f i q) := by
  funext j
  by_cases h : j = i
  · subst h; rw [up1_at]; funext q; exact up2_at
  · rw [up1_ne h, up2_ne h]
theorem up1_1 {α : Type} {f : Nat → Nat → α} {i : Nat} {g g' : Nat → α} : up1 (up1 f i g) i g' = up1 f i g' := by
  funext j
  by_cases h : j = i
  · subst h; rw [up1_at, up1_at]
  · rw [up1_ne h, up1_ne h, up1_ne h]
theorem up21_1 {α : Type} {f : Nat → Nat → α} {i k : Nat} {g : Nat → α} {v : α} : up2 (up1 f i g) i k v = up1 f i (fun q => if q = k then v else g q) := by
  rw [up2_1, up1_1, up1_at]
theorem up1_sw {α : Type} {f : Nat → Nat → α} {i j : Nat} {g g' : Nat → α} (h : i ≠ j) : up1 (up1 f i g) j g' = up1 (up1 f j g') i g := by
  funext q
  by_cases h1 : q = i
  · subst h1; rw [up1_ne h, up1_at, up1_at]
  · rw [up1_ne (f := up1 f j g') h1]
    by_cases h2 : q = j
    · subst h2; rw [up1_at, up1_at]
    · rw [up1_ne h2, up1_ne h1, up1_ne h2]
section FI
variable {L : Nat} {xs : Nat → Int32} {fv : Value} {d : Nat} {P : Option Value → aH → Prop}
variable {cd : Nat → Option aI} {hn : Nat} {hI : Nat → Nat → Int32} {hJ : Nat → Nat → Int64} {hR : Nat → Nat → Option Nat}
theorem go_len {n0 : Nat} {i n pc nx a b t : Nat} {v : Value} {ls : aL} {r : List Value} (hc : cd pc = some (.arraylength, nx, a, b, t, v)) (hl : i < hn) (hk : (akd L i).2 = n) (h7 : 7 ≤ (akd L i).1) (h12 : (akd L i).1 ≤ 12) (k : aTo L xs fv n0 d cd (nx, ls, .int (nI n) :: r, (hn, hI, hJ, hR)) P) : aTo L xs fv n0 d cd (pc, ls, .ref i :: r, (hn, hI, hJ, hR)) P := by
  refine go_st 1 ?_ k
  unfold aStN
  dsimp only
  rw [hc]
  dsimp only [aStp]
  rw [blt_t hl, Nat.ble_eq_true_of_le h7, Nat.ble_eq_true_of_le h12, Bool.or_true, hk]
  rfl
theorem nI_vin {j n : Nat} (h : j < n) (hn : n < 2 ^ 31) : vp_in (nI j) n := nI_in h hn

theorem fillI_loop {i n : Nat} {x : Int32} (h31 : n < 2 ^ 31) (hk : akd L i = (7, n)) (hl : i < hn) (k : P none (hn, up1 hI i (fun q => if q < n then x else hI i q), hJ, hR)) : ∀ m j, j + m = n → aTo L xs fv 111 d cd185 (5, [(2, .int (nI j)), (3, .int (nI n)), (0, .ref i), (1, .int x)], [], (hn, up1 hI i (fun q => if q < j then x else hI i q), hJ, hR)) P
  | 0, j, hj => by
    have hj : j = n := hj
    subst hj
    refine go_v (cd := cd185) [] 9 rfl ?_
    refine go_st (cd := cd185) 1 rfl (go_ifT (nI_le (Nat.le_refl _) h31) ?_)
    exact go_return (cd := cd185) rfl k
  | m + 1, j, hj => by
    have hjn : j < n := by omega
    refine go_v (cd := cd185) [] 9 rfl ?_
    refine go_st (cd := cd185) 1 rfl (go_ifF (nI_ge hjn h31) ?_)
    refine go_v (cd := cd185) [] 9 rfl ?_
    refine go_iast (cd := cd185) rfl (by rw [hk]; exact nI_vin hjn h31) hl (by rw [hk]) ?_
    refine go_v (cd := cd185) [5] 9 rfl ?_
    refine go_sub (l' := [(2, .int (nI (j + 1))), (3, .int (nI n)), (0, .ref i), (1, .int x)]) ⟨by rw [nI_succ]; rfl, rfl, rfl, rfl, trivial⟩ rfl rfl rfl ?_
    have e : up2 (up1 hI i (fun q => if q < j then x else hI i q)) i (nI j).toNatClampNeg x = up1 hI i (fun q => if q < j + 1 then x else hI i q) := by
      rw [up21_1]
      refine congrArg _ (funext fun q => ?_)
      rw [nI_clamp (by omega)]
      by_cases h1 : q = j
      · rw [if_pos h1, if_pos (by omega)]
      · rw [if_neg h1]
        by_cases h2 : q < j
        · rw [if_pos h2, if_pos (by omega)]
        · rw [if_neg h2, if_neg (by omega)]
    rw [e]
    exact fillI_loop h31 hk hl k m (j + 1) (by omega)
theorem fillI {i n : Nat} {x : Int32} (h31 : n < 2 ^ 31) (hk : akd L i = (7, n)) (hl : i < hn) (h0 : 111 ≤ hn) (k : P none (hn, up1 hI i (fun q => if q < n then x else hI i q), hJ, hR)) : aCl L xs fv 111 (d + 1) 185 [.ref i, .int x] (hn, hI, hJ, hR) P := by
  refine cl_of rfl h0 ?_
  refine go_v (cd := cd185) [3] 9 rfl ?_
  refine go_len (cd := cd185) rfl hl (by rw [hk]) (by rw [hk]; exact (by decide : 7 ≤ 7)) (by rw [hk]; exact (by decide : 7 ≤ 12)) ?_
  refine go_v (cd := cd185) [5] 9 rfl ?_
  refine go_sub (l' := [(2, .int (nI 0)), (3, .int (nI n)), (0, .ref i), (1, .int x)]) ⟨rfl, rfl, rfl, rfl, trivial⟩ rfl rfl rfl ?_
  have e : up1 hI i (fun q => if q < 0 then x else hI i q) = hI := by
    have e1 : (fun q => if q < 0 then x else hI i q) = hI i := by funext q; rw [if_neg (by omega)]
    rw [e1]; exact up1_id
  have h := fillI_loop (P := P) (xs := xs) (fv := fv) (d := d) (hI := hI) (hJ := hJ) (hR := hR) h31 hk hl k n 0 (by omega)
  rw [e] at h
  exact h
theorem fillL_loop {i n : Nat} {x : Int64} (h31 : n < 2 ^ 31) (hk : akd L i = (8, n)) (hl : i < hn) (k : P none (hn, hI, up1 hJ i (fun q => if q < n then x else hJ i q), hR)) : ∀ m j, j + m = n → aTo L xs fv 111 d cd184 (6, [(3, .int (nI j)), (4, .int (nI n)), (0, .ref i), (1, .long x)], [], (hn, hI, up1 hJ i (fun q => if q < j then x else hJ i q), hR)) P
  | 0, j, hj => by
    have hj : j = n := hj
    subst hj
    refine go_v (cd := cd184) [] 9 rfl ?_
    refine go_st (cd := cd184) 1 rfl (go_ifT (nI_le (Nat.le_refl _) h31) ?_)
    exact go_return (cd := cd184) rfl k
  | m + 1, j, hj => by
    have hjn : j < n := by omega
    refine go_v (cd := cd184) [] 9 rfl ?_
    refine go_st (cd := cd184) 1 rfl (go_ifF (nI_ge hjn h31) ?_)
    refine go_v (cd := cd184) [] 9 rfl ?_
    refine go_last (cd := cd184) rfl (by rw [hk]; exact nI_vin hjn h31) hl (by rw [hk]) ?_
    refine go_v (cd := cd184) [6] 9 rfl ?_
    refine go_sub (l' := [(3, .int (nI (j + 1))), (4, .int (nI n)), (0, .ref i), (1, .long x)]) ⟨by rw [nI_succ]; rfl, rfl, rfl, rfl, trivial⟩ rfl rfl rfl ?_
    have e : up2 (up1 hJ i (fun q => if q < j then x else hJ i q)) i (nI j).toNatClampNeg x = up1 hJ i (fun q => if q < j + 1 then x else hJ i q) := by
      rw [up21_1]
      refine congrArg _ (funext fun q => ?_)
      rw [nI_clamp (by omega)]
      by_cases h1 : q = j
      · rw [if_pos h1, if_pos (by omega)]
      · rw [if_neg h1]
        by_cases h2 : q < j
        · rw [if_pos h2, if_pos (by omega)]
        · rw [if_neg h2, if_neg (by omega)]
    rw [e]
    exact fillL_loop h31 hk hl k m (j + 1) (by omega)
theorem fillL {i n : Nat} {x : Int64} (h31 : n < 2 ^ 31) (hk : akd L i = (8, n)) (hl : i < hn) (h0 : 111 ≤ hn) (k : P none (hn, hI, up1 hJ i (fun q => if q < n then x else hJ i q), hR)) : aCl L xs fv 111 (d + 1) 184 [.ref i, .long x] (hn, hI, hJ, hR) P := by
  refine cl_of rfl h0 ?_
  refine go_v (cd := cd184) [3] 9 rfl ?_
  refine go_len (cd := cd184) rfl hl (by rw [hk]) (by rw [hk]; exact (by decide : 7 ≤ 8)) (by rw [hk]; exact (by decide : 8 ≤ 12)) ?_
  refine go_v (cd := cd184) [6] 9 rfl ?_
  refine go_sub (l' := [(3, .int (nI 0)), (4, .int (nI n)), (0, .ref i), (1, .long x)]) ⟨rfl, rfl, rfl, rfl, trivial⟩ rfl rfl rfl ?_
  have e : up1 hJ i (fun q => if q < 0 then x else hJ i q) = hJ := by
    have e1 : (fun q => if q < 0 then x else hJ i q) = hJ i := by funext q; rw [if_neg (by omega)]
    rw [e1]; exact up1_id
  have h := fillL_loop (P := P) (xs := xs) (fv := fv) (d := d) (hI := hI) (hJ := hJ) (hR := hR) h31 hk hl k n 0 (by omega)
  rw [e] at h
  exact h
end FI
theorem akd_tp {L k : Nat} (h : k < 6) : akd L (65 + 2 * k) = (4, 3) ∧ akd L (66 + 2 * k) = (8, 60) := by
  match k, h with
  | 0, _ => exact ⟨rfl, rfl⟩
  | 1, _ => exact ⟨rfl, rfl⟩
  | 2, _ => exact ⟨rfl, rfl⟩
  | 3, _ => exact ⟨rfl, rfl⟩
  | 4, _ => exact ⟨rfl, rfl⟩
  | 5, _ => exact ⟨rfl, rfl⟩
  | k + 6, h => omega
theorem aRf_tp {r k : Nat} {rr : Option Nat} (h : k < 6) : aRf r rr (65 + 2 * k) 2 = some (66 + 2 * k) ∧ aRf r rr 28 k = some (65 + 2 * k) := by
  match k, h with
  | 0, _ => exact ⟨rfl, rfl⟩
  | 1, _ => exact ⟨rfl, rfl⟩
  | 2, _ => exact ⟨rfl, rfl⟩
  | 3, _ => exact ⟨rfl, rfl⟩
  | 4, _ => exact ⟨rfl, rfl⟩
  | 5, _ => exact ⟨rfl, rfl⟩
  | k + 6, h => omega
theorem akd_ru {L k : Nat} (h : k < 10) : akd L (111 + 3 * k) = (2, 5) ∧ akd L (112 + 3 * k) = (7, 4) ∧ akd L (113 + 3 * k) = (7, 5) := by
  match k, h with
  | 0, _ => exact ⟨rfl, rfl, rfl⟩
  | 1, _ => exact ⟨rfl, rfl, rfl⟩
  | 2, _ => exact ⟨rfl, rfl, rfl⟩
  | 3, _ => exact ⟨rfl, rfl, rfl⟩
  | 4, _ => exact ⟨rfl, rfl, rfl⟩
  | 5, _ => exact ⟨rfl, rfl, rfl⟩
  | 6, _ => exact ⟨rfl, rfl, rfl⟩
  | 7, _ => exact ⟨rfl, rfl, rfl⟩
  | 8, _ => exact ⟨rfl, rfl, rfl⟩
  | 9, _ => exact ⟨rfl, rfl, rfl⟩
  | k + 10, h => omega
theorem aRf_20 {r k : Nat} {rr : Option Nat} (h : k < r) : aRf r rr 20 k = some (111 + 3 * k) := by
  show (bif Nat.blt k r then some (111 + 3 * k) else none) = _
  rw [blt_t h]; rfl
theorem aRf_ru {r k : Nat} {rr : Option Nat} (h : k < r) : aRf r rr (111 + 3 * k) 3 = some (112 + 3 * k) ∧ aRf r rr (111 + 3 * k) 4 = some (113 + 3 * k) := by
  have h1 : Nat.blt (111 + 3 * k) 111 = false := blt_f (by omega)
  have h2 : Nat.blt (111 + 3 * k) (111 + 3 * r) = true := blt_t (by omega)
  have h3 : (111 + 3 * k - 111) % 3 = 0 := by omega
  unfold aRf
  rw [h1, h2, h3]
  exact ⟨by show some (111 + 3 * k + 1) = _; congr 1; omega, by show some (111 + 3 * k + 2) = _; congr 1; omega⟩
/-- a number in range, as a count -/
theorem nI_ex {s : Int32} {n : Nat} (N : Int32) (hN : N.toInt = n) (h0 : 0 ≤ s) (h1 : s < N) : ∃ k, k < n ∧ s = nI k ∧ s.toNatClampNeg = k := by
  have h := vlt (vin N hN h0 h1)
  have hlt := Int32.toInt_lt N
  have h31 : s.toNatClampNeg < 2 ^ 31 := by omega
  refine ⟨s.toNatClampNeg, h, ?_, rfl⟩
  have h2 := Int32.le_iff_toInt_le.mp h0
  apply Int32.toInt_inj.mp
  rw [nI_toInt h31]
  rw [show (0 : Int32).toInt = 0 from rfl] at h2
  show s.toInt = ((s.toInt.toNat : Nat) : Int)
  omega

