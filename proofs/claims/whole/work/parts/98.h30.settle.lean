/-! the class settles a race -/
theorem nI_minI {x y : Nat} (hx : x < 2 ^ 31) (hy : y < 2 ^ 31) : (if nI y < nI x then nI y else nI x) = nI (min x y) := by
  by_cases h : y < x
  · rw [if_pos (nI_lt h hx), Nat.min_eq_right (by omega)]
  · rw [if_neg (Int32.not_lt.mpr (nI_le (by omega) hy)), Nat.min_eq_left (by omega)]
def stl (A : List Cl) (b : Nat) (I0 : Nat → Nat → Int32) (a k : Nat) (I : Nat → Nat → Int32) : Prop := (∀ j, j ≠ b → j ≠ b + 6 → I j = I0 j) ∧ (∀ q, q ≠ 7 → I b q = I0 b q) ∧ I b 7 = nI (lastA A 2 0) ∧ ∀ a' k', a' < 4 → k' < 4 → (a' < a ∨ (a' = a ∧ k' < k ∧ k' ≠ a)) → I (b + 6) (4 * a' + k') = nI (folA A a' k')
theorem rcC_stl {A : List Cl} {b : Nat} {I0 I : Nat → Nat → Int32} (h1 : ∀ j, j ≠ b → j ≠ b + 6 → I j = I0 j) (h2 : ∀ q, q ≠ 7 → I b q = I0 b q) (h : rcC A b I0) : rcC A b I := by
  unfold rcC at h ⊢
  rw [h1 (b + 1) (by omega) (by omega), h1 (b + 2) (by omega) (by omega), h1 (b + 3) (by omega) (by omega), h1 (b + 4) (by omega) (by omega), h1 (b + 5) (by omega) (by omega), h2 0 (by decide)]
  exact h
section SE
variable {L : Nat} {xs : Nat → Int32} {fv : Value} {n0 d : Nat} {P : Option Value → aH → Prop} {hn : Nat} {hJ : Nat → Nat → Int64} {hR : Nat → Nat → Option Nat}
variable {b : Nat} {A : List Cl} {I0 : Nat → Nat → Int32}
/-- a call of last answers -/
def lstP (L : Nat) (xs : Nat → Int32) (fv : Value) (n0 d hn : Nat) (hJ : Nat → Nat → Int64) (hR : Nat → Nat → Option Nat) (b : Nat) (A : List Cl) : Prop := ∀ (I : Nat → Nat → Int32) (w p : Nat) (Q : Option Value → aH → Prop), rcC A b I → w < 100 → p < 100 → Q (some (.int (nI (lastA A w p)))) (hn, I, hJ, hR) → aCl L xs fv n0 (d + 1) 5 [.ref b, .int (nI w), .int (nI p)] (hn, I, hJ, hR) Q
theorem settle_in (hB : isB b) (hl0 : b < hn) (hl : b + 6 < hn) (hR8 : hR b 8 = some (b + 6)) (hC : rcC A b I0) (hA : rcWf A) (hlast : lstP L xs fv n0 d hn hJ hR b A) {a : Nat} (ha : a < 4) (K : ∀ I, stl A b I0 (a + 1) 0 I → aTo L xs fv n0 (d + 1) cd4 (12, [(1, .int (nI (a + 1))), (0, .ref b)], [], (hn, I, hJ, hR)) P) : ∀ (m k : Nat) (I : Nat → Nat → Int32), k + m = 4 → stl A b I0 a k I → aTo L xs fv n0 (d + 1) cd4 (22, [(3, .int (nI k)), (2, .int (nI (folL A a k))), (1, .int (nI a)), (0, .ref b)], [], (hn, I, hJ, hR)) P
  | 0, k, I, hk, hS => by
    have hk : k = 4 := hk
    subst hk
    have hf := folL_le A a 4
    refine go_v (cd := cd4) [] 20 rfl ?_
    refine go_st (cd := cd4) 1 rfl (go_ifT (by decide) ?_)
    refine go_v (cd := cd4) [72] 20 rfl ?_
    refine go_getR (cd := cd4) rfl hl0 (isB_k hB) hR8 ?_
    refine go_v (cd := cd4) [81] 20 rfl ?_
    show aTo L xs fv n0 _ cd4 (81, _, [.int (nI (folL A a 4)), .int (nI a * 4 + nI a), .ref (b + 6)], (hn, I, hJ, hR)) _
    rw [show nI a * 4 + nI a = nI (4 * a + a) from by rw [show (4 : Int32) = nI 4 from rfl, nI_mul, nI_add, Nat.mul_comm]]
    refine go_iast (cd := cd4) rfl (isB_i6 hB (by omega)) hl (isB_k1 hB).2.2.2.2.2 ?_
    rw [nI_clamp (show 4 * a + a < 2 ^ 31 by omega)]
    refine go_v (cd := cd4) [12] 20 rfl ?_
    refine go_sb (K _ ⟨fun j h1 h2 => by rw [up2_ne h2]; exact hS.1 j h1 h2, fun q h => by rw [up2_ne (by omega)]; exact hS.2.1 q h, by rw [up2_ne (by omega)]; exact hS.2.2.1, fun a' k' h1 h2 h3 => ?_⟩) ⟨by rw [nI_succ a]; rfl, rfl, trivial⟩ rfl rfl rfl
    rw [up2_at]
    by_cases e : 4 * a' + k' = 4 * a + a
    · rw [if_pos e]
      have ea : a' = a := by omega
      have ek : k' = a := by omega
      subst ea
      subst ek
      unfold folA
      rw [if_pos rfl]
    · rw [if_neg e]
      exact hS.2.2.2 a' k' h1 h2 (by omega)
  | m + 1, k, I, hk, hS => by
    have hf := folL_le A a k
    refine go_v (cd := cd4) [] 20 rfl ?_
    refine go_st (cd := cd4) 1 rfl (go_ifF (nI_ge (b := 4) (by omega) (by decide)) ?_)
    refine go_v (cd := cd4) [] 20 rfl ?_
    by_cases hka : k = a
    · subst hka
      refine go_st (cd := cd4) 1 rfl (go_ifT rfl ?_)
      refine go_v (cd := cd4) [22] 20 rfl ?_
      have e : folL A k (k + 1) = folL A k k := if_pos rfl
      rw [← e]
      refine go_sb (settle_in hB hl0 hl hR8 hC hA hlast ha K m (k + 1) I (by omega) ⟨hS.1, hS.2.1, hS.2.2.1, fun a' k' h1 h2 h3 => hS.2.2.2 a' k' h1 h2 (by omega)⟩) ⟨by rw [nI_succ k]; rfl, rfl, rfl, rfl, trivial⟩ rfl rfl rfl
    have hC1 := rcC_stl hS.1 hS.2.1 hC
    have h99 := lastA_le hA 3 (4 * a + k)
    refine go_st (cd := cd4) 1 rfl (go_ifF (fun h => hka ((nI_eq (by omega) (by omega)).mp h)) ?_)
    refine go_v (cd := cd4) [40] 20 rfl ?_
    show aTo L xs fv n0 _ cd4 (40, _, [.int (nI a * 4 + nI k), .int 3, .ref b, .int (nI (folL A a k))], (hn, I, hJ, hR)) _
    rw [show nI a * 4 + nI k = nI (4 * a + k) from by rw [show (4 : Int32) = nI 4 from rfl, nI_mul, nI_add, Nat.mul_comm]]
    refine go_callv (cd := cd4) rfl rfl rfl rfl rfl hl0 (isB_k hB) (hlast I 3 (4 * a + k) _ hC1 (by decide) (by omega) ⟨rfl, ?_⟩)
    refine go_min (cd := cd4) rfl rfl ?_
    rw [nI_minI (by omega) (by omega)]
    refine go_v (cd := cd4) [49] 20 rfl ?_
    refine go_getR (cd := cd4) rfl hl0 (isB_k hB) hR8 ?_
    refine go_v (cd := cd4) [59] 20 rfl ?_
    show aTo L xs fv n0 _ cd4 (59, _, [.int (nI (min (folL A a k) (lastA A 3 (4 * a + k)))), .int (nI a * 4 + nI k), .ref (b + 6)], (hn, I, hJ, hR)) _
    rw [show nI a * 4 + nI k = nI (4 * a + k) from by rw [show (4 : Int32) = nI 4 from rfl, nI_mul, nI_add, Nat.mul_comm]]
    refine go_iast (cd := cd4) rfl (isB_i6 hB (by omega)) hl (isB_k1 hB).2.2.2.2.2 ?_
    rw [nI_clamp (show 4 * a + k < 2 ^ 31 by omega)]
    refine go_v (cd := cd4) [22] 20 rfl ?_
    have e : nI (folL A a k) - nI (min (folL A a k) (lastA A 3 (4 * a + k))) = nI (folL A a (k + 1)) := by
      rw [nI_sub (Nat.min_le_left _ _)]
      congr 1
      exact (if_neg hka).symm
    refine go_sb (settle_in hB hl0 hl hR8 hC hA hlast ha K m (k + 1) _ (by omega) ⟨fun j h1 h2 => by rw [up2_ne h2]; exact hS.1 j h1 h2, fun q h => by rw [up2_ne (by omega)]; exact hS.2.1 q h, by rw [up2_ne (by omega)]; exact hS.2.2.1, fun a' k' h1 h2 h3 => ?_⟩) ⟨by rw [nI_succ k]; rfl, ?_, rfl, rfl, trivial⟩ rfl rfl rfl
    · rw [up2_at]
      by_cases e2 : 4 * a' + k' = 4 * a + k
      · rw [if_pos e2]
        have ea : a' = a := by omega
        have ek : k' = k := by omega
        subst ea
        subst ek
        unfold folA
        rw [if_neg hka]
      · rw [if_neg e2]
        exact hS.2.2.2 a' k' h1 h2 (by omega)
    · rw [← e]; rfl
theorem settle_out (hB : isB b) (hl0 : b < hn) (hl : b + 6 < hn) (hR8 : hR b 8 = some (b + 6)) (hC : rcC A b I0) (hA : rcWf A) (hlast : lstP L xs fv n0 d hn hJ hR b A) (K : ∀ I, stl A b I0 4 0 I → P none (hn, I, hJ, hR)) : ∀ (m a : Nat) (I : Nat → Nat → Int32), a + m = 4 → stl A b I0 a 0 I → aTo L xs fv n0 (d + 1) cd4 (12, [(1, .int (nI a)), (0, .ref b)], [], (hn, I, hJ, hR)) P
  | 0, a, I, ha, hS => by
    have ha : a = 4 := ha
    subst ha
    refine go_v (cd := cd4) [] 20 rfl ?_
    refine go_st (cd := cd4) 1 rfl (go_ifT (by decide) ?_)
    exact go_return (cd := cd4) rfl (K I hS)
  | m + 1, a, I, ha, hS => by
    refine go_v (cd := cd4) [] 20 rfl ?_
    refine go_st (cd := cd4) 1 rfl (go_ifF (nI_ge (b := 4) (by omega) (by decide)) ?_)
    refine go_v (cd := cd4) [22] 20 rfl ?_
    exact go_sb (settle_in hB hl0 hl hR8 hC hA hlast (a := a) (by omega) (fun I' hS' => settle_out hB hl0 hl hR8 hC hA hlast K m (a + 1) I' (by omega) hS') 4 0 I rfl hS) ⟨rfl, rfl, rfl, rfl, trivial⟩ rfl rfl rfl
theorem cl_settle (hn0 : n0 ≤ hn) (hB : isB b) (hl0 : b < hn) (hl : b + 6 < hn) (hR8 : hR b 8 = some (b + 6)) (hC : rcC A b I0) (hA : rcWf A) (hlast : lstP L xs fv n0 d hn hJ hR b A) (K : ∀ I, (∀ j, j ≠ b → j ≠ b + 6 → I j = I0 j) → (∀ q, q ≠ 7 → I b q = I0 b q) → rcD A b I → P none (hn, I, hJ, hR)) : aCl L xs fv n0 (d + 2) 4 [.ref b] (hn, I0, hJ, hR) P := by
  refine cl_of rfl hn0 ?_
  refine go_v (cd := cd4) [4] 20 rfl ?_
  refine go_callv (cd := cd4) rfl rfl rfl rfl rfl hl0 (isB_k hB) (hlast I0 2 0 _ hC (by decide) (by decide) ⟨rfl, ?_⟩)
  refine go_putI (cd := cd4) rfl hl0 (isB_k hB) ?_
  refine go_v (cd := cd4) [12] 20 rfl ?_
  refine go_sb (settle_out (I0 := I0) hB hl0 hl hR8 hC hA hlast (fun I hS => K I hS.1 hS.2.1 ⟨hS.2.2.1, fun a k h1 h2 => hS.2.2.2 a k h1 h2 (Or.inl h1)⟩) 4 0 _ rfl ⟨fun j h1 _ => up2_ne h1, fun q h => up2_42 h, up2_e, fun a' k' _ _ h => by omega⟩) ⟨rfl, rfl, trivial⟩ rfl rfl rfl
end SE
