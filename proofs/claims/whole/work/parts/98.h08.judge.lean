/-! judge -/
section JU
variable {L : Nat} {xs : Nat → Int32} {fv : Value} {d : Nat} {r : Nat} {rr : Option Nat} {I : Nat → Nat → Int32} {J : Nat → Nat → Int64} {P : Option Value → aH → Prop}
theorem ju_l0 (x : Int64) : lg_cmp x 0 < 0 ↔ x < 0 := by
  unfold lg_cmp
  by_cases h1 : x > 0
  · rw [if_pos h1]; exact ⟨fun h => absurd h (by decide), fun h => (Int64.lt_irrefl (Int64.lt_trans h h1)).elim⟩
  · rw [if_neg h1]
    by_cases h2 : x = 0
    · rw [if_pos h2]; exact ⟨fun h => absurd h (by decide), fun h => by rw [h2] at h; exact (Int64.lt_irrefl h).elim⟩
    · rw [if_neg h2]
      refine ⟨fun _ => ?_, fun _ => by decide⟩
      rw [Int64.lt_iff_toInt_lt]
      have a1 : ¬ (0 : Int64).toInt < x.toInt := fun h => h1 (Int64.lt_iff_toInt_lt.mpr h)
      have a2 : ¬ x.toInt = (0 : Int64).toInt := fun h => h2 (Int64.toInt_inj.mp h)
      omega
theorem ju_l6 (x : Int64) : 0 ≤ lg_cmp x 6 ↔ 6 ≤ x := by
  unfold lg_cmp
  by_cases h1 : x > 6
  · rw [if_pos h1]; exact ⟨fun _ => Int64.le_of_lt h1, fun _ => by decide⟩
  · rw [if_neg h1]
    by_cases h2 : x = 6
    · rw [if_pos h2]; exact ⟨fun _ => by rw [h2]; exact Int64.le_refl _, fun _ => by decide⟩
    · rw [if_neg h2]
      refine ⟨fun h => absurd h (by decide), fun h => ?_⟩
      exfalso
      rw [Int64.le_iff_toInt_le] at h
      have a1 : ¬ (6 : Int64).toInt < x.toInt := fun h => h1 (Int64.lt_iff_toInt_lt.mpr h)
      have a2 : ¬ x.toInt = (6 : Int64).toInt := fun h => h2 (Int64.toInt_inj.mp h)
      omega
theorem ju_byte {x : Int64} (h1 : -128 ≤ x) (h2 : x ≤ 127) : x.toInt32.toInt = x.toInt := by
  rw [Int64.le_iff_toInt_le] at h1 h2
  rw [show (-128 : Int64).toInt = -128 from rfl] at h1
  rw [show (127 : Int64).toInt = 127 from rfl] at h2
  rw [Int64.toInt_toInt32]
  exact Int.bmod_eq_of_le (by omega) (by omega)
theorem up2_2 {α : Type} {f : Nat → Nat → α} {i k : Nat} {v w : α} : up2 (up2 f i k v) i k w = up2 f i k w := by
  funext j q
  by_cases h1 : j = i
  · subst h1
    rw [up2_at, up2_at, up2_at]
    by_cases h2 : q = k
    · rw [if_pos h2, if_pos h2]
    · rw [if_neg h2, if_neg h2, if_neg h2]
  · rw [up2_ne h1, up2_ne h1, up2_ne h1]
theorem mayQ_eq2 {I I1 : Nat → Nat → Int32} (hW : iW I) (h8 : I1 8 = I 8) (c u f o m cnt : Int32) (hc : cnt ≤ 6) : mayQ (I1 8) cnt c u f o m ↔ mayQ (I 79) cnt c u f o m := by
  unfold mayQ
  rw [h8]
  refine and_congr_right fun h => ?_
  have hw := hW c.toNatClampNeg (vlt (vin 6 rfl h.1 (by grind)))
  rw [hw.2.1]
/-- the trial scene, one up -/
def juT (I I1 : Nat → Nat → Int32) : Prop := I1 8 = I 8 ∧ I1 5 5 = I 77 0 ∧ I1 5 6 = I 77 1 ∧ I1 5 7 = I 77 2 ∧ I1 5 4 = I 77 3 ∧ I1 1 9 = I 77 49
theorem ju_loop {A : Nat → List Cl} {t : Nat} {w i32 : Int32} {I1 : Nat → Nat → Int32} (hv : aInv r A I J) (ht : t < 6) (hw : w = nI t) (hJT : juT I I1) (h65 : I1 (65 + 2 * t) = I (65 + 2 * t)) (hs : I 107 t ≤ 0) {g : Nat} (hg : I 77 49 = nI g) (hg6 : g ≤ 6) : ∀ m k u, k + m = g → ∃ v, (∀ (P : Option Value → aH → Prop), (∀ u', P (some (.int v)) (aHp r rr (up2 I1 5 0 u') J)) → ∀ (_ : aL), aTo L xs fv 111 (d + 4) cd55 (44, [(4, .int (nI k)), (3, .ref (65 + 2 * t)), (0, .ref 0), (1, .int w), (2, .int i32)], [], aHp r rr (up2 I1 5 0 u) J) P) ∧ (∀ (P : Option Value → aH → Prop) I', (I' 77 49 = I 77 49 ∧ I' 107 = I 107 ∧ I' 108 = I 108 ∧ I' 77 0 = I 77 0 ∧ I' 77 1 = I 77 1 ∧ I' 77 2 = I 77 2 ∧ I' 77 3 = I 77 3 ∧ I' 79 = I 79) → P (some (.int v)) (aHp r rr I' J) → aTo L xs fv 111 (d + 4) cd156 (30, [(4, .int (nI k)), (3, .int u), (0, .ref 77), (1, .int w), (2, .int i32)], [], aHp r rr I' J) P)
  | 0, k, u, hk => by
    have hk : k = g := hk
    refine ⟨-5, fun P K _ => ?_, fun P I' hI' K => ?_⟩
    · refine go_v (cd := cd55) [] 20 rfl ?_
      refine go_st (cd := cd55) 1 rfl (go_ifT (show I1 1 9 ≤ nI k by rw [hJT.2.2.2.2.2, hg, hk]; exact nI_le (Nat.le_refl _) (by omega)) ?_)
      refine go_v (cd := cd55) [] 20 rfl ?_
      exact go_ireturn (cd := cd55) rfl (K u)
    · refine go_v (cd := cd156) [] 20 rfl ?_
      refine go_st (cd := cd156) 1 rfl (go_ifT (show I' 77 49 ≤ nI k by rw [hI'.1, hg, hk]; exact nI_le (Nat.le_refl _) (by omega)) ?_)
      refine go_v (cd := cd156) [] 20 rfl ?_
      exact go_ireturn (cd := cd156) rfl K
  | m + 1, k, u, hk => by
    obtain ⟨r0, r6, -⟩ := hv.2.1
    obtain ⟨p1, p2, p3, p4, p5, p6, p7⟩ := hv.2.2.2.2.2.2.2.1 t ht
    have hW := hv.2.2.2.2.1
    have hc1 : ∀ u, ¬ up2 I1 5 0 u 1 9 ≤ nI k := fun u => by
      rw [up2_ne (by decide), hJT.2.2.2.2.2, hg]; exact nI_ge (by omega) (by omega)
    have hk5 : (nI k).toInt = k := nI_toInt (by omega)
    have hlen : ∀ u, aVal (aHp r rr (up2 I1 5 0 u) J) 0 (65 + 2 * t) 1 = .int (I 108 t) := fun u => congrArg Value.int (show up2 I1 5 0 u (65 + 2 * t) 1 = I 108 t by rw [up2_ne (by omega), h65]; exact p4)
    by_cases hout : i32 < 0 ∨ ¬ i32 < I 108 t - nI k
    · -- ends here
      refine ⟨100 + nI k, fun P K _ => ?_, fun P I' hI' K => ?_⟩
      · refine go_v (cd := cd55) [] 20 rfl ?_
        refine go_st (cd := cd55) 1 rfl (go_ifF (hc1 u) ?_)
        refine go_v (cd := cd55) [] 20 rfl ?_
        by_cases hi0 : i32 < 0
        · refine go_st (cd := cd55) 1 rfl (go_ifT hi0 ?_)
          refine go_v (cd := cd55) [] 20 rfl ?_
          exact go_ireturn (cd := cd55) rfl (K u)
        · refine go_st (cd := cd55) 1 rfl (go_ifF hi0 ?_)
          refine go_v (cd := cd55) [62] 20 rfl ?_
          refine go_get (cd := cd55) rfl (tp_lt ht) (tp_k ht) ?_
          rw [hlen]
          refine go_v (cd := cd55) [] 20 rfl ?_
          refine go_st (cd := cd55) 1 rfl (go_ifF (hout.resolve_left hi0) ?_)
          refine go_v (cd := cd55) [] 20 rfl ?_
          exact go_ireturn (cd := cd55) rfl (K u)
      · obtain ⟨i1, i2, i3, i4, i5, i6, i7, i8⟩ := hI'
        refine go_v (cd := cd156) [] 20 rfl ?_
        refine go_st (cd := cd156) 1 rfl (go_ifF (show ¬ I' 77 49 ≤ nI k by rw [i1, hg]; exact nI_ge (by omega) (by omega)) ?_)
        refine go_v (cd := cd156) [] 20 rfl ?_
        rw [hw]
        refine go_iald (cd := cd156) rfl (nI_vin (n := 6) ht (by decide)) (lv3 rfl) rfl ?_
        rw [nI_clamp (show t < 2 ^ 31 by omega), i2]
        have h67 : ∀ ls, aGet ls 4 = some (.int (nI k)) → aTo L xs fv 111 (d + 4) cd156 (67, [(4, .int (nI k)), (3, .int u), (0, .ref 77), (1, .int (nI t)), (2, .int i32)], [], aHp r rr I' J) P := fun _ _ => by
          refine go_v (cd := cd156) [] 20 rfl ?_
          exact go_ireturn (cd := cd156) rfl K
        have h67 := h67 [(4, .int (nI k))] rfl
        by_cases hn : I 107 t < 0
        · exact go_st (cd := cd156) 1 rfl (go_ifT hn h67)
        refine go_st (cd := cd156) 1 rfl (go_ifF hn ?_)
        refine go_v (cd := cd156) [] 20 rfl ?_
        by_cases hi0 : i32 < 0
        · exact go_st (cd := cd156) 1 rfl (go_ifT hi0 h67)
        refine go_st (cd := cd156) 1 rfl (go_ifF hi0 ?_)
        refine go_v (cd := cd156) [] 20 rfl ?_
        refine go_iald (cd := cd156) rfl (nI_vin (n := 6) ht (by decide)) (lv3 rfl) rfl ?_
        rw [nI_clamp (show t < 2 ^ 31 by omega), i3]
        refine go_v (cd := cd156) [] 20 rfl ?_
        have hko : nI k ≤ 6 := nI_le (b := 6) (by omega) (by decide)
        have hk0 : 0 ≤ nI k := nI_pos' (by omega)
        have hout := hout.resolve_left hi0
        refine go_st (cd := cd156) 1 rfl (go_ifF (show ¬ i32 ≤ I 108 t - nI k - 1 from ?_) h67)
        generalize nI k = z at *
        grind
    · have hi0 : ¬ i32 < 0 := fun h => hout (Or.inl h)
      have hin : i32 < I 108 t - nI k := Classical.byContradiction fun h => hout (Or.inr h)
      have hko : nI k ≤ 6 := nI_le (b := 6) (by omega) (by decide)
      have hk0 : 0 ≤ nI k := nI_pos' (by omega)
      have hle : i32 + nI k < 60 ∧ i32 ≤ 60 := by
        generalize nI k = z at *
        constructor <;> grind
      have hsn : I 107 t = 0 := by
        by_cases hm : I 107 t = -1
        · have := (p7 0 (by decide)).2.2 hm
          rw [this] at hin
          generalize nI k = z at *
          exfalso; grind
        · grind
      obtain ⟨i, hi60, hie⟩ := nI_of2 (M := 60) (n := 60) rfl hi0 hle.2
      have hik : i + k < 60 := by
        have h := hle.1
        rw [hie, nI_add] at h
        exact (nI_ltI (b := 60) (by omega) (by decide)).mp h
      have hsum : i32 + nI k = nI (i + k) := by rw [hie, nI_add]
      obtain ⟨q1, q2, -⟩ := p7 (i + k) hik
      obtain ⟨b1, b2⟩ := q2 hsn
      have hix : 60 * w + i32 + nI k = nI (60 * t + (i + k)) := by rw [hw, hie, show (60 : Int32) = nI 60 from rfl, nI_mul, nI_add, nI_add, Nat.add_assoc]
      generalize hx : J 109 (60 * t + (i + k)) = x at q1 b1 b2
      have hb := ju_byte b1 b2
      have hx0 : lg_cmp x 0 < 0 ↔ x.toInt32 < 0 := by
        rw [ju_l0, Int64.lt_iff_toInt_lt, Int32.lt_iff_toInt_lt, hb]; exact Iff.rfl
      have hx6 : 0 ≤ lg_cmp x 6 ↔ 6 ≤ x.toInt32 := by
        rw [ju_l6, Int64.le_iff_toInt_le, Int32.le_iff_toInt_le, hb]; exact Iff.rfl
      have href : ∀ (v : Int32) (P : Option Value → aH → Prop) I', (I' 77 49 = I 77 49 ∧ I' 107 = I 107 ∧ I' 108 = I 108 ∧ I' 77 0 = I 77 0 ∧ I' 77 1 = I 77 1 ∧ I' 77 2 = I 77 2 ∧ I' 77 3 = I 77 3 ∧ I' 79 = I 79) → (mayQ (I 79) (I 77 0) x.toInt32 u (I 77 1) (I 77 2) (I 77 3) → aTo L xs fv 111 (d + 4) cd156 (30, [(4, .int (nI (k + 1))), (3, .int x.toInt32), (0, .ref 77), (1, .int w), (2, .int i32)], [], aHp r rr I' J) P) → (¬ mayQ (I 79) (I 77 0) x.toInt32 u (I 77 1) (I 77 2) (I 77 3) → P (some (.int (nI k))) (aHp r rr I' J)) → aTo L xs fv 111 (d + 4) cd156 (30, [(4, .int (nI k)), (3, .int u), (0, .ref 77), (1, .int w), (2, .int i32)], [], aHp r rr I' J) P := fun v P I' hI' KT KF => by
        obtain ⟨i1, i2, i3, i4, i5, i6, i7, i8⟩ := hI'
        refine go_v (cd := cd156) [] 20 rfl ?_
        refine go_st (cd := cd156) 1 rfl (go_ifF (show ¬ I' 77 49 ≤ nI k by rw [i1, hg]; exact nI_ge (by omega) (by omega)) ?_)
        refine go_v (cd := cd156) [] 20 rfl ?_
        refine go_iald (cd := cd156) rfl (by rw [hw]; exact nI_vin (n := 6) ht (by decide)) (lv3 rfl) rfl ?_
        rw [show w.toNatClampNeg = t by rw [hw]; exact nI_clamp (by omega), i2]
        refine go_st (cd := cd156) 1 rfl (go_ifF (by rw [hsn]; decide) ?_)
        refine go_v (cd := cd156) [] 20 rfl ?_
        refine go_st (cd := cd156) 1 rfl (go_ifF hi0 ?_)
        refine go_v (cd := cd156) [] 20 rfl ?_
        refine go_iald (cd := cd156) rfl (by rw [hw]; exact nI_vin (n := 6) ht (by decide)) (lv3 rfl) rfl ?_
        rw [show w.toNatClampNeg = t by rw [hw]; exact nI_clamp (by omega), i3]
        refine go_v (cd := cd156) [] 20 rfl ?_
        refine go_st (cd := cd156) 1 rfl (go_ifT (show i32 ≤ I 108 t - nI k - 1 from ?_) ?_)
        · generalize nI k = z at *
          grind
        refine go_v (cd := cd156) [] 20 rfl ?_
        rw [hix]
        refine go_lald (cd := cd156) rfl (nI_vin (n := 360) (by omega) (by decide)) (lv3 rfl) rfl ?_
        rw [nI_clamp (show 60 * t + (i + k) < 2 ^ 31 by omega), hx]
        refine go_v (cd := cd156) [] 20 rfl ?_
        refine go_callv (cd := cd156) rfl rfl rfl rfl rfl (lv3 rfl) rfl (cl_mayBe (by rw [i4]; exact r0) (by rw [i4]; exact r6) (fun hm => ⟨rfl, ?_⟩) (fun hm => ⟨rfl, ?_⟩))
        · have hm : mayQ (I' 79) (I' 77 0) x.toInt32 u (I' 77 1) (I' 77 2) (I' 77 3) := hm
          rw [i4, i5, i6, i7, i8] at hm
          refine go_st (cd := cd156) 1 rfl (go_ifF (by decide) ?_)
          refine go_v (cd := cd156) [30] 20 rfl ?_
          exact go_sb (KT hm) ⟨by rw [nI_succ]; rfl, rfl, rfl, rfl, rfl, trivial⟩ rfl rfl rfl
        · have hm : ¬ mayQ (I' 79) (I' 77 0) x.toInt32 u (I' 77 1) (I' 77 2) (I' 77 3) := hm
          rw [i4, i5, i6, i7, i8] at hm
          refine go_st (cd := cd156) 1 rfl (go_ifT rfl ?_)
          refine go_v (cd := cd156) [] 20 rfl ?_
          exact go_ireturn (cd := cd156) rfl (KF hm)
      have hcls : ∀ (P : Option Value → aH → Prop), (mayQ (I 79) (I 77 0) x.toInt32 u (I 77 1) (I 77 2) (I 77 3) → aTo L xs fv 111 (d + 4) cd55 (44, [(4, .int (nI (k + 1))), (3, .ref (65 + 2 * t)), (0, .ref 0), (1, .int w), (2, .int i32)], [], aHp r rr (up2 I1 5 0 x.toInt32) J) P) → (¬ mayQ (I 79) (I 77 0) x.toInt32 u (I 77 1) (I 77 2) (I 77 3) → P (some (.int (nI k))) (aHp r rr (up2 I1 5 0 u) J)) → aTo L xs fv 111 (d + 4) cd55 (44, [(4, .int (nI k)), (3, .ref (65 + 2 * t)), (0, .ref 0), (1, .int w), (2, .int i32)], [], aHp r rr (up2 I1 5 0 u) J) P := fun P KT KF => by
        have h118 : ¬ mayQ (I 79) (I 77 0) x.toInt32 u (I 77 1) (I 77 2) (I 77 3) → aTo L xs fv 111 (d + 4) cd55 (118, [(5, .long x), (4, .int (nI k)), (3, .ref (65 + 2 * t)), (0, .ref 0), (1, .int w), (2, .int i32)], [], aHp r rr (up2 I1 5 0 u) J) P := fun h => by
          refine go_v (cd := cd55) [] 20 rfl ?_
          exact go_ireturn (cd := cd55) rfl (KF h)
        refine go_v (cd := cd55) [] 20 rfl ?_
        refine go_st (cd := cd55) 1 rfl (go_ifF (hc1 u) ?_)
        refine go_v (cd := cd55) [] 20 rfl ?_
        refine go_st (cd := cd55) 1 rfl (go_ifF hi0 ?_)
        refine go_v (cd := cd55) [62] 20 rfl ?_
        refine go_get (cd := cd55) rfl (tp_lt ht) (tp_k ht) ?_
        rw [hlen]
        refine go_v (cd := cd55) [] 20 rfl ?_
        refine go_st (cd := cd55) 1 rfl (go_ifT hin ?_)
        refine go_v (cd := cd55) [78] 20 rfl ?_
        refine go_getR (cd := cd55) rfl (tp_lt ht) (tp_k ht) (aRf_tp ht).1 ?_
        refine go_v (cd := cd55) [] 20 rfl ?_
        rw [hsum]
        refine go_lald (cd := cd55) rfl (by rw [(akd_tp ht).2]; exact nI_vin hik (by decide)) (tp_lt1 ht) (tp_k1 ht) ?_
        rw [nI_clamp (show i + k < 2 ^ 31 by omega), q1]
        refine go_v (cd := cd55) [] 20 rfl ?_
        by_cases hx00 : lg_cmp x 0 < 0
        · refine go_st (cd := cd55) 1 rfl (go_ifT hx00 ?_)
          exact go_sb (h118 (fun hm => absurd (hx0.mp hx00) (Int32.not_lt.mpr hm.1.1))) ⟨rfl, rfl, rfl, rfl, rfl, rfl, trivial⟩ rfl rfl rfl
        refine go_st (cd := cd55) 1 rfl (go_ifF hx00 ?_)
        refine go_v (cd := cd55) [] 20 rfl ?_
        by_cases hx60 : 0 ≤ lg_cmp x 6
        · refine go_st (cd := cd55) 1 rfl (go_ifT hx60 ?_)
          exact go_sb (h118 (fun hm => by
            have h1 := hx6.mp hx60
            have h2 := hm.1.2
            grind)) ⟨rfl, rfl, rfl, rfl, rfl, rfl, trivial⟩ rfl rfl rfl
        refine go_st (cd := cd55) 1 rfl (go_ifF hx60 ?_)
        refine go_v (cd := cd55) [] 20 rfl ?_
        obtain ⟨j1, j2, j3, j4, j5, j6⟩ := hJT
        have hq : mayQ (up2 I1 5 0 u 8) (up2 I1 5 0 u 5 5) x.toInt32 (up2 I1 5 0 u 5 0) (up2 I1 5 0 u 5 6) (up2 I1 5 0 u 5 7) (up2 I1 5 0 u 5 4) ↔ mayQ (I 79) (I 77 0) x.toInt32 u (I 77 1) (I 77 2) (I 77 3) := by
          rw [up2_ne (show 8 ≠ 5 by decide), up2_42 (show 5 ≠ 0 by decide), up2_e, up2_42 (show 6 ≠ 0 by decide), up2_42 (show 7 ≠ 0 by decide), up2_42 (show 4 ≠ 0 by decide), j2, j3, j4, j5]
          exact mayQ_eq2 hW j1 _ _ _ _ _ _ r6
        refine go_callv (cd := cd55) rfl rfl rfl rfl rfl (lv3 rfl) rfl (cl_may5 (by rw [up2_42 (by decide), j2]; exact r6) (fun hm => ⟨rfl, ?_⟩) (fun hm => ⟨rfl, ?_⟩))
        · refine go_st (cd := cd55) 1 rfl (go_ifF (by decide) ?_)
          refine go_v (cd := cd55) [44] 20 rfl ?_
          show aTo L xs fv 111 _ cd55 (44, _, [], aHp r rr (up2 (up2 I1 5 0 u) 5 0 x.toInt32) J) P
          rw [up2_2]
          exact go_sb (KT (hq.mp hm)) ⟨by rw [nI_succ]; rfl, rfl, rfl, rfl, rfl, trivial⟩ rfl rfl rfl
        · refine go_st (cd := cd55) 1 rfl (go_ifT rfl ?_)
          exact go_sb (h118 (fun h => hm (hq.mpr h))) ⟨rfl, rfl, rfl, rfl, rfl, rfl, trivial⟩ rfl rfl rfl
      by_cases hm : mayQ (I 79) (I 77 0) x.toInt32 u (I 77 1) (I 77 2) (I 77 3)
      · obtain ⟨v, k1, k2⟩ := ju_loop hv ht hw hJT h65 hs hg hg6 m (k + 1) x.toInt32 (by omega)
        exact ⟨v, fun P K ls => hcls P (fun _ => k1 P K ls) (fun h => absurd hm h), fun P I' hI' K => href v P I' hI' (fun _ => k2 P I' hI' K) (fun h => absurd hm h)⟩
      · exact ⟨nI k, fun P K ls => hcls P (fun h => absurd h hm) (fun _ => K u), fun P I' hI' K => href (nI k) P I' hI' (fun h => absurd h hm) (fun _ => K)⟩
theorem rf_judge0 {w i : Int32} {v : Int32} (K : P (some (.int v)) (aHp r rr I J)) (h : (¬ (0 ≤ w ∧ w ≤ 5) ∧ v = -1) ∨ ((0 ≤ w ∧ w ≤ 5) ∧ 0 < I 107 w.toNatClampNeg ∧ v = -12)) : aCl L xs fv 111 (d + 5) 156 [.ref 77, .int w, .int i] (aHp r rr I J) P := by
  refine cl_of rfl (Nat.le_add_right _ _) ?_
  refine go_v (cd := cd156) [] 20 rfl ?_
  refine go_callv (cd := cd156) rfl rfl rfl rfl rfl (lv3 rfl) rfl (cl_isTape (fun hw => ⟨rfl, ?_⟩) (fun hw => ⟨rfl, ?_⟩))
  · rcases h with ⟨h, -⟩ | ⟨-, h, rfl⟩
    · exact absurd hw h
    refine go_st (cd := cd156) 1 rfl (go_ifF (by decide) ?_)
    refine go_v (cd := cd156) [] 20 rfl ?_
    refine go_iald (cd := cd156) rfl (vin 6 rfl hw.1 (by grind)) (lv3 rfl) rfl ?_
    refine go_st (cd := cd156) 1 rfl (go_ifF (by grind) ?_)
    refine go_v (cd := cd156) [] 20 rfl ?_
    exact go_ireturn (cd := cd156) rfl K
  · rcases h with ⟨-, rfl⟩ | ⟨h, -⟩
    · refine go_st (cd := cd156) 1 rfl (go_ifT rfl ?_)
      refine go_v (cd := cd156) [] 20 rfl ?_
      exact go_ireturn (cd := cd156) rfl K
    · exact absurd h hw
set_option maxHeartbeats 4000000 in
theorem pr_judge {w i : Int32} {h : aH} (hi : aIn h) : aPair L xs fv (d + 5) 55 156 [.int w, .int i] h := by
  obtain ⟨r, rr, A, I, J, rfl, hv⟩ := hi
  have hdone := aIn_of hv rr
  have hP := hv.2.2.2.2.2.2.2.1
  refine cl_of rfl (Nat.le_add_right _ _) ?_
  refine go_v (cd := cd55) [] 20 rfl ?_
  refine go_callv (cd := cd55) rfl rfl rfl rfl rfl (lv3 rfl) rfl (cl_tapeOf hP (fun hq => ⟨rfl, ?_⟩) (fun hq => ⟨rfl, ?_⟩))
  case refine_2 =>
    refine go_v (cd := cd55) [] 20 rfl ?_
    exact go_ireturn (cd := cd55) rfl ⟨Or.inl rfl, _, rfl, rf_judge0 ⟨rfl, rfl, hdone⟩ (Or.inl ⟨hq, rfl⟩)⟩
  obtain ⟨hw, ht, a1, a2, a3, a4, a5, a6⟩ := hq
  obtain ⟨t, ht6, hwt, hwc⟩ := nI_ex (s := w) (n := 6) 6 rfl hw.1 (by grind)
  have hcast : 0 < I 107 t → aCl L xs fv 111 (d + 5) 156 [.ref 77, .int w, .int i] (aHp r rr I J) (fun rv2 h2 => h2.1 = 111 + 3 * r ∧ rv2 = some (.int (-12)) ∧ aIn h2) := fun h => rf_judge0 ⟨rfl, rfl, hdone⟩ (Or.inr ⟨hw, by rw [hwc]; exact h, rfl⟩)
  rw [hwc] at ht a1 a2 a3 a4 a5 a6 ⊢
  have ka : aVal (aHp r rr I J) 0 (65 + 2 * t) 0 = .int (I 107 t) := congrArg Value.int a1
  have hgo : I 107 t ≤ 0 → aTo L xs fv 111 (d + 4) cd55 (30, [(3, .ref (65 + 2 * t)), (0, .ref 0), (1, .int w), (2, .int i)], [], aHp r rr I J) (fun rv h1 => (h1.1 = (aHp r rr I J).1 ∨ 55 = 41) ∧ ∃ v, rv = some v ∧ aCl L xs fv 111 (d + 5) 156 (.ref 77 :: [.int w, .int i]) h1 (fun rv2 h2 => h2.1 = h1.1 ∧ rv2 = some v ∧ aIn h2)) := fun hs => by
    obtain ⟨g, hg6, hg⟩ := nI_of2 (M := 6) (n := 6) (x := I 77 49) rfl (Int32.not_lt.mpr hv.2.1.2.2.2.2.2.2.2.2.2.2.2.2.2.1) hv.2.1.2.2.2.2.2.2.2.2.2.2.2.2.2.2.1
    obtain ⟨s0, s1, s2, s3, s4, s5, s6, s7, s8, s9⟩ := hv.1
    refine go_v (cd := cd55) [] 20 rfl ?_
    refine go_callv (cd := cd55) rfl rfl rfl rfl rfl (lv3 rfl) rfl (cl_become51 ⟨rfl, ?_⟩)
    have hT : juT I (up1 (up1 I 5 (cpN 10 (I 1) (I 5))) 6 (cpN 6 (I 2) (I 6))) := ⟨rfl, s5, s6, s7, s4, s9⟩
    have h65 : up1 (up1 I 5 (cpN 10 (I 1) (I 5))) 6 (cpN 6 (I 2) (I 6)) (65 + 2 * t) = I (65 + 2 * t) := by rw [up1_ne (by omega), up1_ne (by omega)]
    have hrel : ∀ u, relI I (up2 (up1 (up1 I 5 (cpN 10 (I 1) (I 5))) 6 (cpN 6 (I 2) (I 6))) 5 0 u) := fun u => by
      rw [up2_1]
      exact relI_up1 (relI_up1 (relI_up1 relI_refl (by omega)) (by omega)) (by omega)
    have hinv : ∀ u, aIn (aHp r rr (up2 (up1 (up1 I 5 (cpN 10 (I 1) (I 5))) 6 (cpN 6 (I 2) (I 6))) 5 0 u) J) := fun u => aIn_of (inv_rel hv (hrel u) (fun _ _ => rfl) (iX_c (I := I) rfl rfl rfl rfl hv.2.2.2.2.2.2.2.2.2.2.2.2)) rr
    generalize hI1 : up1 (up1 I 5 (cpN 10 (I 1) (I 5))) 6 (cpN 6 (I 2) (I 6)) = I1 at *
    obtain ⟨v, k1, k2⟩ := ju_loop (L := L) (xs := xs) (fv := fv) (d := d) (rr := rr) hv ht hwt hT h65 hs hg hg6 (i32 := i) g 0 (I1 5 0) (by omega)
    refine go_v (cd := cd55) [44] 20 rfl ?_
    have h1 := k1 (fun rv h1 => (h1.1 = (aHp r rr I J).1 ∨ 55 = 41) ∧ ∃ v, rv = some v ∧ aCl L xs fv 111 (d + 5) 156 (.ref 77 :: [.int w, .int i]) h1 (fun rv2 h2 => h2.1 = h1.1 ∧ rv2 = some v ∧ aIn h2)) (fun u' => ⟨Or.inl rfl, _, rfl, ?_⟩) []
    · rw [up2_id] at h1
      exact go_sb h1 ⟨rfl, rfl, rfl, rfl, rfl, trivial⟩ rfl rfl rfl
    · have e107 : up2 I1 5 0 u' 107 t = I 107 t := by rw [up2_ne (by decide), ← hI1]; rfl
      have e4 : up2 I1 5 0 u' 77 4 = I1 5 0 := by rw [up2_ne (by decide), ← hI1]; exact s0.symm
      have hrest : up2 I1 5 0 u' 77 49 = I 77 49 ∧ up2 I1 5 0 u' 107 = I 107 ∧ up2 I1 5 0 u' 108 = I 108 ∧ up2 I1 5 0 u' 77 0 = I 77 0 ∧ up2 I1 5 0 u' 77 1 = I 77 1 ∧ up2 I1 5 0 u' 77 2 = I 77 2 ∧ up2 I1 5 0 u' 77 3 = I 77 3 ∧ up2 I1 5 0 u' 79 = I 79 := by
        rw [up2_ne (show 77 ≠ 5 by decide), up2_ne (show 107 ≠ 5 by decide), up2_ne (show 108 ≠ 5 by decide), up2_ne (show 79 ≠ 5 by decide), ← hI1]
        exact ⟨rfl, rfl, rfl, rfl, rfl, rfl, rfl, rfl⟩
      have hin' := hinv u'
      generalize up2 I1 5 0 u' = I2 at *
      refine cl_of rfl (Nat.le_add_right _ _) ?_
      refine go_v (cd := cd156) [] 20 rfl ?_
      refine go_callv (cd := cd156) rfl rfl rfl rfl rfl (lv3 rfl) rfl (cl_isTape (fun _ => ⟨rfl, ?_⟩) (fun hx => absurd hw hx))
      refine go_st (cd := cd156) 1 rfl (go_ifF (by decide) ?_)
      refine go_v (cd := cd156) [] 20 rfl ?_
      refine go_iald (cd := cd156) rfl (vin 6 rfl hw.1 (by grind)) (lv3 rfl) rfl ?_
      rw [hwc, e107]
      refine go_st (cd := cd156) 1 rfl (go_ifT hs ?_)
      refine go_v (cd := cd156) [30] 20 rfl ?_
      refine go_sb (k2 (fun rv2 h2 => h2.1 = 111 + 3 * r ∧ rv2 = some (.int v) ∧ aIn h2) I2 hrest ⟨rfl, rfl, hin'⟩) ⟨rfl, ?_, rfl, rfl, rfl, trivial⟩ rfl rfl rfl
      exact congrArg (fun z => some (Value.int z)) e4
  refine go_v (cd := cd55) [13] 20 rfl ?_
  refine go_get (cd := cd55) rfl (tp_lt ht) (tp_k ht) ?_
  rw [ka]
  by_cases h0 : I 107 t = 0
  · refine go_st (cd := cd55) 1 rfl (go_ifT h0 ?_)
    exact go_sb (hgo (by rw [h0]; decide)) ⟨rfl, rfl, rfl, rfl, trivial⟩ rfl rfl rfl
  refine go_st (cd := cd55) 1 rfl (go_ifF h0 ?_)
  refine go_v (cd := cd55) [20] 20 rfl ?_
  refine go_get (cd := cd55) rfl (tp_lt ht) (tp_k ht) ?_
  rw [ka]
  refine go_v (cd := cd55) [] 20 rfl ?_
  by_cases h1 : I 107 t = -1
  · refine go_st (cd := cd55) 1 rfl (go_ifT h1 ?_)
    exact go_sb (hgo (by rw [h1]; decide)) ⟨rfl, rfl, rfl, rfl, trivial⟩ rfl rfl rfl
  refine go_st (cd := cd55) 1 rfl (go_ifF h1 ?_)
  refine go_v (cd := cd55) [] 20 rfl ?_
  exact go_ireturn (cd := cd55) rfl ⟨Or.inl rfl, _, rfl, hcast (by grind)⟩
end JU
