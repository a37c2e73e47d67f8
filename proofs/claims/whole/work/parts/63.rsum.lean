/-! speeds and tears, as the reference counts them -/
def smA (A : List Cl) (h z s w t : Nat) : Nat := A.foldl (fun n q => if q.1 = z ∧ clT s h w t q = true then n + q.2.1 else n) 0
theorem smA_succ {A : List Cl} {j : Nat} {q : Cl} (h : A[j]? = some q) (wt z s w t : Nat) : smA (A.take (j + 1)) wt z s w t = if q.1 = z ∧ clT s wt w t q = true then smA (A.take j) wt z s w t + q.2.1 else smA (A.take j) wt z s w t := by
  unfold smA
  rw [List.take_add_one, h, List.foldl_append]
  rfl
theorem smA_le {A : List Cl} (hA : rcWf A) (wt z s w t : Nat) : ∀ j, smA (A.take j) wt z s w t ≤ 99 * j
  | 0 => Nat.le_refl _
  | j + 1 => by
    have ih := smA_le hA wt z s w t j
    cases hq : A[j]? with
    | none =>
      have : A.take (j + 1) = A.take j := by rw [List.take_add_one, hq]; simp
      rw [this]; omega
    | some q =>
      rw [smA_succ hq]
      have := (hA.2.2 q (List.mem_of_getElem? hq)).2.1
      split <;> omega
section SO
variable {L : Nat} {xs : Nat → Int32} {fv : Value} {d : Nat} {r : Nat} {rr : Option Nat} {I : Nat → Nat → Int32} {J : Nat → Nat → Int64} {P : Option Value → aH → Prop}
variable {A : List Cl} {F : Nat}
set_option maxHeartbeats 16000000 in
theorem rsum_loop {z s w h wt : Nat} (hH : rH A F I) (hz : z < 2) (hs : s < 6) (hw : w < 4) (hh : h < 1000) (hwt : I 78 s = nI wt) (hwt9 : wt ≤ 9)
    (k : ∀ c, P (some (.int (nI (spN A wt z s w (h % 24))))) (aHp r rr (up1 I 89 c) J)) : ∀ m j c, j + m = A.length → aTo L xs fv 111 (d + 1) cd123 (15, [(6, .int (nI (10 * F + j))), (5, .int (nI (smA (A.take j) wt z s w (h % 24)))), (0, .ref 77), (1, .int (nI z)), (2, .int (nI s)), (3, .int (nI w)), (4, .int (nI h))], [], aHp r rr (up1 I 89 c) J) P
  | 0, j, c, hj => by
    have hj : j = A.length := hj
    have hlen := hH.2.1.1
    have hF := hH.1
    have hH' : rH A F (up1 I 89 c) := rH_c (I := I) rfl rfl rfl rfl rfl rfl rfl rfl hH
    have hsm := smA_le hH.2.1 wt z s w (h % 24) j
    refine go_v (cd := cd123) [] 9 rfl ?_
    refine go_callv (cd := cd123) rfl rfl rfl rfl rfl (lv3 rfl) rfl (cl_behind hH' ⟨rfl, ?_⟩)
    refine go_st (cd := cd123) 1 rfl (go_ifT (by rw [hj]; exact nI_le (Nat.le_refl _) (by omega)) ?_)
    refine go_v (cd := cd123) [] 9 rfl ?_
    rw [hj, List.take_of_length_le (Nat.le_refl _)] at *
    have hz2 : z = 0 ∨ z = 1 := by omega
    have hsp : spN A wt z s w (h % 24) = min (if z = 0 then 99 else 100) (smA A wt z s w (h % 24)) := rfl
    rcases hz2 with hz2 | hz2
    · subst hz2
      rw [if_pos rfl] at hsp
      refine go_st (cd := cd123) 1 rfl (go_ifT rfl ?_)
      refine go_v (cd := cd123) [] 9 rfl ?_
      by_cases hc : smA A wt 0 s w (h % 24) ≤ 99
      · refine go_st (cd := cd123) 1 rfl (go_ifT (nI_le (b := 99) hc (by decide)) ?_)
        refine go_v (cd := cd123) [] 9 rfl ?_
        refine go_ireturn (cd := cd123) rfl ?_
        rw [hsp, Nat.min_eq_right hc] at k
        exact k c
      · refine go_st (cd := cd123) 1 rfl (go_ifF (nI_ge (a := 99) (by omega) (by omega)) ?_)
        refine go_v (cd := cd123) [] 9 rfl ?_
        refine go_ireturn (cd := cd123) rfl ?_
        rw [hsp, Nat.min_eq_left (by omega)] at k
        exact k c
    · subst hz2
      rw [if_neg (by decide)] at hsp
      refine go_st (cd := cd123) 1 rfl (go_ifF (by decide) ?_)
      refine go_v (cd := cd123) [] 9 rfl ?_
      by_cases hc : smA A wt 1 s w (h % 24) ≤ 100
      · refine go_st (cd := cd123) 1 rfl (go_ifT (nI_le (b := 100) hc (by decide)) ?_)
        refine go_v (cd := cd123) [] 9 rfl ?_
        refine go_ireturn (cd := cd123) rfl ?_
        rw [hsp, Nat.min_eq_right hc] at k
        exact k c
      · refine go_st (cd := cd123) 1 rfl (go_ifF (nI_ge (a := 100) (by omega) (by omega)) ?_)
        refine go_v (cd := cd123) [] 9 rfl ?_
        refine go_ireturn (cd := cd123) rfl ?_
        rw [hsp, Nat.min_eq_left (by omega)] at k
        exact k c
  | m + 1, j, c, hj => by
    have hlen := hH.2.1.1
    have hF := hH.1
    have hjl : j < A.length := by omega
    have hH' : rH A F (up1 I 89 c) := rH_c (I := I) rfl rfl rfl rfl rfl rfl rfl rfl hH
    obtain ⟨q, hq⟩ : ∃ q, A[j]? = some q := ⟨A[j], List.getElem?_eq_getElem hjl⟩
    obtain ⟨c1, c2, c3, e82, e83, e84, -⟩ := rH_cl hH hq
    obtain ⟨b1, b2, b3, b4, -⟩ := hH.2.1.2.2 q c3
    have hcl : (nI (10 * F + j)).toNatClampNeg = 10 * F + j := nI_clamp (by omega)
    have hsm := smA_le hH.2.1 wt z s w (h % 24) j
    have hss := smA_succ hq wt z s w (h % 24)
    refine go_v (cd := cd123) [] 9 rfl ?_
    refine go_callv (cd := cd123) rfl rfl rfl rfl rfl (lv3 rfl) rfl (cl_behind hH' ⟨rfl, ?_⟩)
    refine go_st (cd := cd123) 1 rfl (go_ifF (nI_ge (by omega) (by omega)) ?_)
    refine go_v (cd := cd123) [] 9 rfl ?_
    refine go_iald (cd := cd123) rfl (nI_vin (n := 50) (by omega) (by decide)) (lv3 rfl) rfl ?_
    rw [hcl, show up1 I 89 c 82 = I 82 from up1_o rfl, e82]
    refine go_v (cd := cd123) [] 1 rfl ?_
    have hend : ∀ c' x, x = nI (smA (A.take (j + 1)) wt z s w (h % 24)) → aTo L xs fv 111 (d + 1) cd123 (62, [(6, .int (nI (10 * F + j))), (5, .int (nI (smA (A.take j) wt z s w (h % 24)))), (0, .ref 77), (1, .int (nI z)), (2, .int (nI s)), (3, .int (nI w)), (4, .int (nI h))], [.int x], aHp r rr (up1 I 89 c') J) P := fun c' x hx => by
      refine go_v (cd := cd123) [15] 9 rfl ?_
      refine go_sub (l' := [(6, .int (nI (10 * F + (j + 1)))), (5, .int (nI (smA (A.take (j + 1)) wt z s w (h % 24)))), (0, .ref 77), (1, .int (nI z)), (2, .int (nI s)), (3, .int (nI w)), (4, .int (nI h))]) ⟨by rw [← Nat.add_assoc, nI_succ]; rfl, by rw [hx]; rfl, rfl, rfl, rfl, rfl, rfl, trivial⟩ rfl rfl rfl ?_
      exact rsum_loop hH hz hs hw hh hwt hwt9 k m (j + 1) c' (by omega)
    have hno : ∀ c', ¬ (q.1 = z ∧ clT s wt w (h % 24) q = true) → aTo L xs fv 111 (d + 1) cd123 (60, [(6, .int (nI (10 * F + j))), (5, .int (nI (smA (A.take j) wt z s w (h % 24)))), (0, .ref 77), (1, .int (nI z)), (2, .int (nI s)), (3, .int (nI w)), (4, .int (nI h))], [.int (nI (smA (A.take j) wt z s w (h % 24)))], aHp r rr (up1 I 89 c') J) P := fun c' hc => by
      refine go_v (cd := cd123) [62] 9 rfl ?_
      exact hend c' _ (by rw [hss, if_neg hc]; exact Int32.add_zero _)
    by_cases hqz : q.1 = z
    · refine go_st (cd := cd123) 1 rfl (go_ifT (by rw [hqz]) ?_)
      refine go_v (cd := cd123) [] 9 rfl ?_
      refine go_callv (cd := cd123) rfl rfl rfl rfl rfl (lv3 rfl) rfl (cl_holds hH hq (by omega) hs hw hh hwt hwt9 c (fun c' => ⟨rfl, ?_⟩))
      by_cases hB : clT s wt w (h % 24) q = true
      · rw [hB]
        refine go_st (cd := cd123) 1 rfl (go_ifF (by decide) ?_)
        refine go_v (cd := cd123) [] 9 rfl ?_
        refine go_iald (cd := cd123) rfl (nI_vin (n := 50) (by omega) (by decide)) (lv3 rfl) rfl ?_
        rw [hcl, show up1 I 89 c' 83 = I 83 from up1_o rfl, e83]
        refine go_v (cd := cd123) [62] 9 rfl ?_
        exact hend c' _ (by rw [hss, if_pos ⟨hqz, hB⟩, nI_add])
      · rw [show clT s wt w (h % 24) q = false by simpa using hB]
        refine go_st (cd := cd123) 1 rfl (go_ifT (by decide) ?_)
        exact hno c' (fun h => hB h.2)
    · refine go_st (cd := cd123) 1 rfl (go_ifF (by rw [nI_eq (by omega) (by omega)]; exact hqz) ?_)
      exact hno c (fun h => hqz h.1)
/-- what is counted for a sail or none -/
def spA (A : List Cl) (wt : Nat → Nat) (z : Nat) (o : Option Nat) (w h : Nat) : Nat := match o with | none => 0 | some s => spN A (wt s) z s w (h % 24)
theorem cl_rsum {z w h : Nat} {o : Option Nat} {wt : Nat → Nat} {z' s' w' h' : Int32} (hH : rH A F I) (hz' : z' = nI z) (hs' : s' = oI o) (hw' : w' = nI w) (hh' : h' = nI h) (hz : z < 2) (hs : ∀ s, o = some s → s < 6) (hw : w < 4) (hh : h < 1000) (hwt : ∀ s, s < 6 → I 78 s = nI (wt s) ∧ wt s ≤ 9) (c : Nat → Int32)
    (k : ∀ c, P (some (.int (nI (spA A wt z o w h)))) (aHp r rr (up1 I 89 c) J)) : aCl L xs fv 111 (d + 2) 123 [.ref 77, .int z', .int s', .int w', .int h'] (aHp r rr (up1 I 89 c) J) P := by
  refine cl_of rfl (Nat.le_add_right _ _) ?_
  subst hz'; subst hs'; subst hw'; subst hh'
  cases o with
  | none =>
    refine go_v (cd := cd123) [] 9 rfl ?_
    refine go_st (cd := cd123) 1 rfl (go_ifF (by decide) ?_)
    refine go_v (cd := cd123) [] 9 rfl ?_
    exact go_ireturn (cd := cd123) rfl (k c)
  | some s =>
    have hs6 := hs s rfl
    have hH' : rH A F (up1 I 89 c) := rH_c (I := I) rfl rfl rfl rfl rfl rfl rfl rfl hH
    refine go_v (cd := cd123) [] 9 rfl ?_
    refine go_st (cd := cd123) 1 rfl (go_ifT (nI_pos' (by omega)) ?_)
    refine go_v (cd := cd123) [] 9 rfl ?_
    refine go_callv (cd := cd123) rfl rfl rfl rfl rfl (lv3 rfl) rfl (cl_first hH' ⟨rfl, ?_⟩)
    refine go_v (cd := cd123) [15] 9 rfl ?_
    refine go_sub (l' := [(6, .int (nI (10 * F + 0))), (5, .int (nI (smA (A.take 0) (wt s) z s w (h % 24)))), (0, .ref 77), (1, .int (nI z)), (2, .int (nI s)), (3, .int (nI w)), (4, .int (nI h))]) ⟨rfl, rfl, rfl, rfl, rfl, rfl, rfl, trivial⟩ rfl rfl rfl ?_
    exact rsum_loop hH hz hs6 hw hh (hwt s hs6).1 (hwt s hs6).2 k A.length 0 c (by omega)
end SO
