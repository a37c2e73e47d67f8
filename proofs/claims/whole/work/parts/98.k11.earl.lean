/-! lines: which row is earlier -/
def erl (f g : Nat → Int32) : Nat → Nat → Bool
  | 0, _ => false
  | m + 1, k => if f k = g k then erl f g m (k + 1) else decide (f k < g k)
section ER
variable {L : Nat} {xs : Nat → Int32} {fv : Value} {d : Nat} {r : Nat} {rr : Option Nat} {I : Nat → Nat → Int32} {J : Nat → Nat → Int64} {P : Option Value → aH → Prop}
theorem earl_loop {a c : Nat} (ha : a < 111 + 3 * r) (hc : c < 111 + 3 * r) (ka : akd L a = (7, 4)) (kc : akd L c = (7, 4)) : ∀ m k, k + m = 4 → (∀ v : Int32, (v = 0 ∨ v = 1) → (v = 1 ↔ erl (I a) (I c) m k = true) → P (some (.int v)) (aHp r rr I J)) → aTo L xs fv 111 d cd87 (2, [(2, .int (nI k)), (0, .ref a), (1, .ref c)], [], aHp r rr I J) P
  | 0, k, hk, K => by
    have hk : k = 4 := hk
    subst hk
    refine go_v (cd := cd87) [] 20 rfl ?_
    refine go_st (cd := cd87) 1 rfl (go_ifT (by decide) ?_)
    refine go_v (cd := cd87) [] 20 rfl ?_
    exact go_zreturn (cd := cd87) rfl (Or.inl rfl) (K 0 (Or.inl rfl) ⟨fun h => absurd h (by decide), fun h => (by cases h)⟩)
  | m + 1, k, hk, K => by
    have hin : ∀ {z : Nat}, akd L z = (7, 4) → vp_in (nI k) (akd L z).2 := fun {z} h => by rw [h]; exact nI_vin (n := 4) (by omega) (by decide)
    have h7 : ∀ {z : Nat}, akd L z = (7, 4) → (akd L z).1 = 7 := fun {z} h => by rw [h]
    refine go_v (cd := cd87) [] 20 rfl ?_
    refine go_st (cd := cd87) 1 rfl (go_ifF (nI_ge (b := 4) (by omega) (by decide)) ?_)
    refine go_v (cd := cd87) [] 20 rfl ?_
    refine go_iald (cd := cd87) rfl (hin ka) ha (h7 ka) ?_
    rw [nI_clamp (show k < 2 ^ 31 by omega)]
    refine go_v (cd := cd87) [] 20 rfl ?_
    refine go_iald (cd := cd87) rfl (hin kc) hc (h7 kc) ?_
    rw [nI_clamp (show k < 2 ^ 31 by omega)]
    by_cases he : I a k = I c k
    · refine go_st (cd := cd87) 1 rfl (go_ifT he ?_)
      refine go_v (cd := cd87) [2] 20 rfl ?_
      refine go_sb (earl_loop ha hc ka kc m (k + 1) (by omega) (fun v hv h => K v hv (h.trans ?_))) ⟨by rw [nI_succ k]; rfl, rfl, rfl, trivial⟩ rfl rfl rfl
      rw [show erl (I a) (I c) (m + 1) k = erl (I a) (I c) m (k + 1) from if_pos he]
    · have e : erl (I a) (I c) (m + 1) k = decide (I a k < I c k) := if_neg he
      rw [e] at K
      refine go_st (cd := cd87) 1 rfl (go_ifF he ?_)
      refine go_v (cd := cd87) [] 20 rfl ?_
      refine go_iald (cd := cd87) rfl (hin ka) ha (h7 ka) ?_
      rw [nI_clamp (show k < 2 ^ 31 by omega)]
      refine go_v (cd := cd87) [] 20 rfl ?_
      refine go_iald (cd := cd87) rfl (hin kc) hc (h7 kc) ?_
      rw [nI_clamp (show k < 2 ^ 31 by omega)]
      by_cases hl : I c k ≤ I a k
      · refine go_st (cd := cd87) 1 rfl (go_ifT hl ?_)
        refine go_v (cd := cd87) [] 20 rfl ?_
        exact go_zreturn (cd := cd87) rfl (Or.inl rfl) (K 0 (Or.inl rfl) ⟨fun h => absurd h (by decide), fun h => absurd (of_decide_eq_true h) (Int32.not_lt.mpr hl)⟩)
      · refine go_st (cd := cd87) 1 rfl (go_ifF hl ?_)
        refine go_v (cd := cd87) [] 20 rfl ?_
        exact go_zreturn (cd := cd87) rfl (Or.inr rfl) (K 1 (Or.inr rfl) ⟨fun _ => decide_eq_true (Int32.not_le.mp hl), fun _ => rfl⟩)
end ER
