/-! lowest terms -/
theorem lZ_nat (n : Nat) : lZ (n : Int) = Int64.ofNat n := Int64.ofInt_eq_ofNat
theorem l_div {a b : Nat} (ha : a < 2 ^ 63) (hb : b < 2 ^ 63) : lZ a / lZ b = lZ (a / b : Nat) := by
  rw [lZ_nat, lZ_nat, lZ_nat]; exact (Int64.ofNat_div ha hb).symm
theorem l_rem {a b : Nat} (ha : a < 2 ^ 63) (hb : b < 2 ^ 63) : lZ a - lZ a / lZ b * lZ b = lZ (a % b : Nat) := by
  rw [l_div ha hb, lZ_mul, lZ_sub]
  congr 1
  have h1 := Nat.div_add_mod a b
  have h2 : ((a / b : Nat) : Int) * b = ((b * (a / b) : Nat) : Int) := by push_cast; exact Int.mul_comm _ _
  rw [h2]
  omega
theorem lZ_0 : lZ 0 = 0 := by decide +kernel
theorem l_ne0 {x : Nat} (h : x < 2 ^ 50) (h0 : x ≠ 0) : ¬ lZ x = 0 := fun h1 => by
  rw [← lZ_0, lZ_inj (by omega) (by omega) (by omega) (by omega)] at h1
  omega
theorem lg_n {x : Nat} (h : x < 2 ^ 50) : lg_cmp (lZ x) 0 = 0 ↔ x = 0 := by
  rw [lg_0 (by omega) (by omega)]; omega
/-- a fraction in lowest terms: above or below the line -/
def lowZ (a : Int) (b : Nat) (part : Nat) : Int := if part = 0 then a.tdiv (Nat.gcd a.natAbs b : Nat) else (b : Int).tdiv (Nat.gcd a.natAbs b : Nat)
theorem lowZ_scale {a : Int} {b : Nat} {part : Nat} (hb : 0 < b) : lowZ (1000 * a) (1000 * b) part = lowZ a b part := by
  unfold lowZ
  have hg : Nat.gcd (1000 * a).natAbs (1000 * b) = 1000 * Nat.gcd a.natAbs b := by
    rw [Int.natAbs_mul, show (1000 : Int).natAbs = 1000 from rfl, Nat.gcd_mul_left]
  rw [hg]
  have e1 : ((1000 * Nat.gcd a.natAbs b : Nat) : Int) = 1000 * (Nat.gcd a.natAbs b : Nat) := by omega
  have e2 : ((1000 * b : Nat) : Int) = 1000 * (b : Int) := by omega
  rw [e1, e2]
  rw [Int.mul_tdiv_mul_of_pos _ _ (by decide), Int.mul_tdiv_mul_of_pos _ _ (by decide)]
theorem half_mod {x y : Nat} (h : y % x ≠ 0) (hx : 0 < x) : 2 * (x % (y % x)) < x := by
  have h1 : y % x < x := Nat.mod_lt _ hx
  have h2 : x % (y % x) < y % x := Nat.mod_lt _ (by omega)
  have h3 := Nat.div_add_mod x (y % x)
  have h4 : 1 ≤ x / (y % x) := (Nat.one_le_div_iff (by omega)).mpr (by omega)
  have h5 : y % x * 1 ≤ y % x * (x / (y % x)) := Nat.mul_le_mul_left _ h4
  omega
section LO
variable {L : Nat} {xs : Nat → Int32} {fv : Value} {d : Nat} {r : Nat} {rr : Option Nat} {I : Nat → Nat → Int32} {J : Nat → Nat → Int64} {P : Option Value → aH → Prop}

theorem clow_loop {a bb : Int64} {pt : Int32} {g : Nat} (K : ∀ k : Nat, aTo L xs fv 111 d cd88 (48, [(9, .int (nI k)), (7, .long (lZ g)), (5, .long (lZ 0)), (0, .long a), (2, .long bb), (4, .int pt)], [], aHp r rr I J) P) : ∀ (j k x y : Nat), x < 2 ^ j → j ≤ 50 → y < 2 ^ 50 → k + 2 * j + 1 ≤ 200 → Nat.gcd x y = g → aTo L xs fv 111 d cd88 (12, [(9, .int (nI k)), (7, .long (lZ y)), (5, .long (lZ x)), (0, .long a), (2, .long bb), (4, .int pt)], [], aHp r rr I J) P := by
  intro j
  induction j with
  | zero =>
    intro k x y hx hj hy hk hg
    have hx0 : x = 0 := by simpa using hx
    subst hx0
    rw [Nat.gcd_zero_left] at hg
    subst hg
    refine go_v (cd := cd88) [] 9 rfl ?_
    refine go_st (cd := cd88) 1 rfl (go_ifF (nI_ge (b := 200) (by omega) (by decide)) ?_)
    refine go_v (cd := cd88) [] 9 rfl ?_
    refine go_st (cd := cd88) 1 rfl (go_ifT ((lg_n (x := 0) (by decide)).mpr rfl) ?_)
    exact K k
  | succ j ih =>
    intro k x y hx hj hy hk hg
    refine go_v (cd := cd88) [] 9 rfl ?_
    refine go_st (cd := cd88) 1 rfl (go_ifF (nI_ge (b := 200) (by omega) (by decide)) ?_)
    refine go_v (cd := cd88) [] 9 rfl ?_
    have hx50 : x < 2 ^ 50 := Nat.lt_of_lt_of_le hx (Nat.pow_le_pow_right (by decide) hj)
    by_cases hx0 : x = 0
    · subst hx0
      rw [Nat.gcd_zero_left] at hg
      subst hg
      refine go_st (cd := cd88) 1 rfl (go_ifT ((lg_n (x := 0) (by decide)).mpr rfl) ?_)
      exact K k
    · refine go_st (cd := cd88) 1 rfl (go_ifF (fun h => hx0 ((lg_n hx50).mp h)) ?_)
      refine go_v (cd := cd88) [] 9 rfl ?_
      refine go_lrem (cd := cd88) rfl (l_ne0 hx50 hx0) ?_
      rw [l_rem (by omega) (by omega)]
      refine go_v (cd := cd88) [12] 9 rfl ?_
      refine go_sub (l' := [(9, .int (nI (k + 1))), (7, .long (lZ x)), (5, .long (lZ (y % x : Nat))), (0, .long a), (2, .long bb), (4, .int pt)]) ⟨by rw [nI_succ]; rfl, rfl, rfl, rfl, rfl, rfl, trivial⟩ rfl rfl rfl ?_
      have hg2 : Nat.gcd (y % x) x = g := by rw [← hg]; exact (Nat.gcd_rec x y).symm
      have hr : y % x < x := Nat.mod_lt _ (by omega)
      refine go_v (cd := cd88) [] 9 rfl ?_
      refine go_st (cd := cd88) 1 rfl (go_ifF (nI_ge (b := 200) (by omega) (by decide)) ?_)
      refine go_v (cd := cd88) [] 9 rfl ?_
      by_cases hr0 : y % x = 0
      · rw [hr0, Nat.gcd_zero_left] at hg2
        subst hg2
        rw [hr0]
        refine go_st (cd := cd88) 1 rfl (go_ifT ((lg_n (x := 0) (by decide)).mpr rfl) ?_)
        exact K (k + 1)
      · refine go_st (cd := cd88) 1 rfl (go_ifF (fun h => hr0 ((lg_n (by omega)).mp h)) ?_)
        refine go_v (cd := cd88) [] 9 rfl ?_
        refine go_lrem (cd := cd88) rfl (l_ne0 (by omega) hr0) ?_
        rw [l_rem (by omega) (by omega)]
        refine go_v (cd := cd88) [12] 9 rfl ?_
        have hhalf := half_mod hr0 (by omega)
        have hpow : 2 ^ (j + 1) = 2 * 2 ^ j := by rw [Nat.pow_succ]; omega
        have hl := ih (k + 2) (x % (y % x)) (y % x) (by omega) (by omega) (by omega) (by omega) (by rw [← hg2]; exact (Nat.gcd_rec (y % x) x).symm)
        exact go_sb hl ⟨by rw [nI_succ (k + 1)]; rfl, rfl, rfl, rfl, rfl, rfl, trivial⟩ rfl rfl rfl
theorem cl_clow {a : Int} {b part : Nat} {a' b' : Int64} {p' : Int32} (ha' : a' = lZ a) (hb' : b' = lZ b) (hp' : p' = nI part) (h1 : -1000000000000000 ≤ a) (h2 : a ≤ 1000000000000000) (hb0 : 0 < b) (hb : b ≤ 1000000000000000) (hp : part < 2) (k : P (some (.long (lZ (lowZ a b part)))) (aHp r rr I J)) : aCl L xs fv 111 (d + 1) 88 [.long a', .long b', .int p'] (aHp r rr I J) P := by
  refine cl_of rfl (Nat.le_add_right _ _) ?_
  subst ha'; subst hb'; subst hp'
  have hgp : 0 < Nat.gcd a.natAbs b := Nat.gcd_pos_of_pos_right _ hb0
  have hgl : Nat.gcd a.natAbs b ≤ b := Nat.gcd_le_right _ hb0
  refine go_v (cd := cd88) [] 9 rfl ?_
  refine go_absl (cd := cd88) rfl rfl ?_
  have habs : (if (0 : Int64) < lZ a then lZ a else -lZ a) = lZ (a.natAbs : Int) := by
    have h0 : ((0 : Int64) < lZ a) ↔ 0 < a := by rw [← lZ_0, lZ_lt (by omega) (by omega) (by omega) (by omega)]
    by_cases hc : 0 < a
    · rw [if_pos (h0.mpr hc)]; congr 1; omega
    · rw [if_neg (fun h => hc (h0.mp h)), show -lZ a = lZ (-a) from (Int64.ofInt_neg a).symm]; congr 1; omega
  rw [habs]
  refine go_v (cd := cd88) [12] 9 rfl ?_
  refine go_sub (l' := [(9, .int (nI 0)), (7, .long (lZ b)), (5, .long (lZ a.natAbs)), (0, .long (lZ a)), (2, .long (lZ b)), (4, .int (nI part))]) ⟨rfl, rfl, rfl, rfl, rfl, rfl, trivial⟩ rfl rfl rfl ?_
  refine clow_loop (g := Nat.gcd a.natAbs b) (fun k' => ?_) 50 0 a.natAbs b (by omega) (by decide) (by omega) (by decide) rfl
  refine go_v (cd := cd88) [] 9 rfl ?_
  have hpos : 0 < lg_cmp (lZ (Nat.gcd a.natAbs b : Nat)) 0 := by
    unfold lg_cmp
    rw [if_pos (by show (0 : Int64) < _; rw [← lZ_0, lZ_lt (by omega) (by omega) (by omega) (by omega)]; omega)]
    decide
  refine go_st (cd := cd88) 1 rfl (go_ifT hpos ?_)
  refine go_v (cd := cd88) [] 9 rfl ?_
  have hd : ∀ x : Int, -1000000000000000 ≤ x → x ≤ 1000000000000000 → lZ x / lZ (Nat.gcd a.natAbs b : Nat) = lZ (x.tdiv (Nat.gcd a.natAbs b : Nat)) := fun x hx1 hx2 => (Int64.ofInt_tdiv (by show (-9223372036854775808 : Int) ≤ _; omega) (by show _ ≤ (9223372036854775807 : Int); omega) (by show (-9223372036854775808 : Int) ≤ _; omega) (by show _ ≤ (9223372036854775807 : Int); omega)).symm
  have hp2 : part = 0 ∨ part = 1 := by omega
  rcases hp2 with hp2 | hp2
  · subst hp2
    refine go_st (cd := cd88) 1 rfl (go_ifT rfl ?_)
    refine go_v (cd := cd88) [] 9 rfl ?_
    refine go_ldiv (cd := cd88) rfl (l_ne0 (by omega) (by omega)) ?_
    rw [hd a h1 h2]
    exact go_lreturn (cd := cd88) rfl k
  · subst hp2
    refine go_st (cd := cd88) 1 rfl (go_ifF (by decide) ?_)
    refine go_v (cd := cd88) [] 9 rfl ?_
    refine go_ldiv (cd := cd88) rfl (l_ne0 (by omega) (by omega)) ?_
    rw [hd b (by omega) (by omega)]
    exact go_lreturn (cd := cd88) rfl k
theorem div_loop {a bb : Int64} {g : Nat} (K : P (some (.long (lZ g))) (aHp r rr I J)) : ∀ (n x y : Nat), y ≤ n → x < 2 ^ 50 → y < 2 ^ 50 → Nat.gcd y x = g → aTo L xs fv 111 d cd142 (17, [(7, .long (lZ y)), (5, .long (lZ x)), (0, .ref 77), (1, .long a), (3, .long bb)], [], aHp r rr I J) P := by
  intro n
  induction n with
  | zero =>
    intro x y hn hx hy hg
    have hy0 : y = 0 := by omega
    subst hy0
    rw [Nat.gcd_zero_left] at hg
    subst hg
    refine go_v (cd := cd142) [] 9 rfl ?_
    refine go_st (cd := cd142) 1 rfl (go_ifT ((lg_n (x := 0) (by decide)).mpr rfl) ?_)
    refine go_v (cd := cd142) [] 9 rfl ?_
    exact go_lreturn (cd := cd142) rfl K
  | succ n ih =>
    intro x y hn hx hy hg
    refine go_v (cd := cd142) [] 9 rfl ?_
    by_cases hy0 : y = 0
    · subst hy0
      rw [Nat.gcd_zero_left] at hg
      subst hg
      refine go_st (cd := cd142) 1 rfl (go_ifT ((lg_n (x := 0) (by decide)).mpr rfl) ?_)
      refine go_v (cd := cd142) [] 9 rfl ?_
      exact go_lreturn (cd := cd142) rfl K
    · refine go_st (cd := cd142) 1 rfl (go_ifF (fun h => hy0 ((lg_n hy).mp h)) ?_)
      refine go_v (cd := cd142) [] 9 rfl ?_
      refine go_lrem (cd := cd142) rfl (l_ne0 hy hy0) ?_
      rw [l_rem (by omega) (by omega)]
      refine go_v (cd := cd142) [17] 9 rfl ?_
      have hr : x % y < y := Nat.mod_lt _ (by omega)
      have hl := ih y (x % y) (by omega) hy (by omega) (by rw [← hg]; exact (Nat.gcd_rec y x).symm)
      exact go_sb hl ⟨rfl, rfl, rfl, rfl, rfl, trivial⟩ rfl rfl rfl
theorem cl_rlow {a : Int} {b part : Nat} {a' : Int64} {p' : Int32} (ha' : a' = lZ a) (hb' : J 77 46 = lZ b) (hp' : p' = nI part) (h1 : -1000000000000000 ≤ a) (h2 : a ≤ 1000000000000000) (hb0 : 0 < b) (hb : b ≤ 1000000000000000) (hp : part < 2) (k : P (some (.long (lZ (lowZ a b part)))) (aHp r rr I J)) : aCl L xs fv 111 (d + 2) 143 [.ref 77, .long a', .int p'] (aHp r rr I J) P := by
  refine cl_of rfl (Nat.le_add_right _ _) ?_
  subst ha'; subst hp'
  have hgp : 0 < Nat.gcd a.natAbs b := Nat.gcd_pos_of_pos_right _ hb0
  have hgl : Nat.gcd a.natAbs b ≤ b := Nat.gcd_le_right _ hb0
  have hd : ∀ x : Int, -1000000000000000 ≤ x → x ≤ 1000000000000000 → lZ x / lZ (Nat.gcd a.natAbs b : Nat) = lZ (x.tdiv (Nat.gcd a.natAbs b : Nat)) := fun x hx1 hx2 => (Int64.ofInt_tdiv (by show (-9223372036854775808 : Int) ≤ _; omega) (by show _ ≤ (9223372036854775807 : Int); omega) (by show (-9223372036854775808 : Int) ≤ _; omega) (by show _ ≤ (9223372036854775807 : Int); omega)).symm
  have hcall : aCl L xs fv 111 (d + 1) 142 [.ref 77, .long (lZ a), .long (lZ b)] (aHp r rr I J) (fun rv h => rv = some (.long (lZ (Nat.gcd a.natAbs b : Nat))) ∧ h = aHp r rr I J) := by
    refine cl_of rfl (Nat.le_add_right _ _) ?_
    refine go_v (cd := cd142) [] 9 rfl ?_
    have h12 : aTo L xs fv 111 d cd142 (12, [(0, .ref 77), (1, .long (lZ a)), (3, .long (lZ b))], [.long (lZ (a.natAbs : Int))], aHp r rr I J) (fun rv h => rv = some (.long (lZ (Nat.gcd a.natAbs b : Nat))) ∧ h = aHp r rr I J) := by
      refine go_v (cd := cd142) [17] 9 rfl ?_
      refine go_sub (l' := [(7, .long (lZ b)), (5, .long (lZ (a.natAbs : Int))), (0, .ref 77), (1, .long (lZ a)), (3, .long (lZ b))]) ⟨rfl, rfl, rfl, rfl, rfl, trivial⟩ rfl rfl rfl ?_
      exact div_loop ⟨rfl, rfl⟩ b a.natAbs b (Nat.le_refl _) (by omega) (by omega) (Nat.gcd_comm _ _)
    have hge : (0 ≤ lg_cmp (lZ a) 0) ↔ 0 ≤ a := by
      rw [lg_cmp_ge, ← lZ_0, lZ_le (by omega) (by omega) (by omega) (by omega)]
    by_cases hc : 0 ≤ a
    · refine go_st (cd := cd142) 1 rfl (go_ifT (hge.mpr hc) ?_)
      refine go_v (cd := cd142) [12] 9 rfl ?_
      rw [show lZ a = lZ (a.natAbs : Int) by congr 1; omega] at h12 ⊢
      exact h12
    · refine go_st (cd := cd142) 1 rfl (go_ifF (fun h => hc (hge.mp h)) ?_)
      refine go_v (cd := cd142) [12] 9 rfl ?_
      rw [show -lZ a = lZ (a.natAbs : Int) by rw [show -lZ a = lZ (-a) from (Int64.ofInt_neg a).symm]; congr 1; omega]
      exact h12
  refine go_v (cd := cd143) [] 9 rfl ?_
  rw [show aVal (aHp r rr I J) 1 77 46 = .long (lZ b) from congrArg Value.long hb']
  obtain ⟨rv, h, hx, h3, h4⟩ := hcall
  subst h3; subst h4
  refine go_callv (cd := cd143) rfl rfl rfl rfl rfl (lv3 rfl) rfl ⟨_, _, hx, rfl, ?_⟩
  refine go_v (cd := cd143) [] 9 rfl ?_
  have hp2 : part = 0 ∨ part = 1 := by omega
  rcases hp2 with hp2 | hp2
  · subst hp2
    refine go_st (cd := cd143) 1 rfl (go_ifT rfl ?_)
    refine go_v (cd := cd143) [] 9 rfl ?_
    refine go_ldiv (cd := cd143) rfl (l_ne0 (by omega) (by omega)) ?_
    rw [hd a h1 h2]
    refine go_v (cd := cd143) [] 9 rfl ?_
    exact go_lreturn (cd := cd143) rfl k
  · subst hp2
    refine go_st (cd := cd143) 1 rfl (go_ifF (by decide) ?_)
    refine go_v (cd := cd143) [] 9 rfl ?_
    rw [show aVal (111 + 3 * r, I, J, aRf r rr) 1 77 46 = .long (lZ b) from congrArg Value.long hb']
    refine go_ldiv (cd := cd143) rfl (l_ne0 (by omega) (by omega)) ?_
    rw [hd b (by omega) (by omega)]
    exact go_lreturn (cd := cd143) rfl k
end LO
