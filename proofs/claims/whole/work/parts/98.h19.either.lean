/-! the class reads an E -/
def CFp (L : Nat) (xs : Nat → Int32) (fv : Value) (r : Nat) (J : Nat → Nat → Int64) (T : Nat → Nat) (len b : Nat) (I0 : Nat → Nat → Int32) (F : Nat) : Prop := ∀ (dd k n p : Nat) (cs : List Nat) (I : Nat → Nat → Int32) (P : Option Value → aH → Prop), n + k = 4 → 2 * k + 4 ≤ dd → 2 * (len - p) < F → p ≤ len → cs.length ≤ p → cst b I0 I p cs →
  (∀ I' q ds, pE T F none n p = (q, some ds) → cst b I0 I' q (cs ++ ds) → P (some (.int 1)) (aHp r (some b) I' J)) → (∀ I' q cs', pE T F none n p = (q, none) → cst b I0 I' q cs' → P (some (.int 0)) (aHp r (some b) I' J)) → aCl L xs fv 111 dd 14 [.ref 9, .int (nI n)] (aHp r (some b) I J) P
def ceL (a : Bool) (i j n : Nat) : aL := if a = true then [(3, .int (nI j)), (2, .int (nI i)), (0, .ref 9), (1, .int (nI n))] else [(2, .int (nI i)), (0, .ref 9), (1, .int (nI n))]
def CEp (L : Nat) (xs : Nat → Int32) (fv : Value) (r : Nat) (J : Nat → Nat → Int64) (T : Nat → Nat) (len b : Nat) (I0 : Nat → Nat → Int32) (F : Nat) : Prop := ∀ (dd k n p i j : Nat) (o a : Bool) (cs : List Nat) (I : Nat → Nat → Int32) (P : Option Value → aH → Prop), n + k = 4 → 2 * k + 4 ≤ dd → 2 * (len - p) + 1 < F → p ≤ len → (o = true ↔ 0 < i) → 2 * i ≤ p → 2 * j ≤ p → cs.length + bN o + bN a ≤ p → cst b I0 I p cs →
  (∀ I' q ds, pE T F (some (o, a)) n p = (q, some ds) → cst b I0 I' q (cs ++ ds) → P (some (.int 1)) (aHp r (some b) I' J)) → (∀ I' q cs', pE T F (some (o, a)) n p = (q, none) → cst b I0 I' q cs' → P (some (.int 0)) (aHp r (some b) I' J)) → aTo L xs fv 111 dd cd13 (if a = true then 35 else 8, ceL a i j n, [], aHp r (some b) I J) P
section CR
variable {L : Nat} {xs : Nat → Int32} {fv : Value} {r : Nat} {J : Nat → Nat → Int64}
variable {T : Nat → Nat} {len b : Nat} {I0 : Nat → Nat → Int32}
set_option maxHeartbeats 4000000 in
theorem cf_step {F : Nat} (hB : isB b) (hb : 12 ≤ b) (hT : ctx T len I0) (hF : CFp L xs fv r J T len b I0 F) (hE : CEp L xs fv r J T len b I0 F) : CFp L xs fv r J T len b I0 (F + 1) := by
  intro dd k n p cs I P hnk hdd hF1 hp hcs hS K1 K0
  have hl100 := hT.1.1
  obtain ⟨e, rfl⟩ : ∃ e, dd = e + 4 := ⟨dd - 4, by omega⟩
  refine cl_of rfl (Nat.le_add_right _ _) ?_
  have h77 : ∀ I, cst b I0 I p cs → ¬ (n < 4 ∧ T p = 33) → ¬ (n < 4 ∧ T p = 40) → aTo L xs fv 111 (e + 3) cd14 (77, [(0, .ref 9), (1, .int (nI n))], [], aHp r (some b) I J) P := fun I hS a1 a2 => by
    have e0 : pE T (F + 1) none n p = pT T p := by
      unfold pE
      rw [if_neg a1, if_neg a2]
    refine go_v (cd := cd14) [] 20 rfl ?_
    refine go_callv (cd := cd14) rfl rfl rfl rfl rfl (lv3 rfl) rfl (cl_test (d := e) hB hb hT hS hp hcs (fun I' q c h hS' => ⟨rfl, ?_⟩) (fun I' q h hS' => ⟨rfl, ?_⟩))
    · exact go_zreturn (cd := cd14) rfl (Or.inr rfl) (K1 I' q [c] (e0.trans h) hS')
    · exact go_zreturn (cd := cd14) rfl (Or.inl rfl) (K0 I' q cs (e0.trans h) hS')
  refine go_v (cd := cd14) [] 20 rfl ?_
  by_cases hn4 : n < 4
  case neg =>
    refine go_st (cd := cd14) 1 rfl (go_ifT (nI_le (a := 4) (by omega) (by omega)) ?_)
    refine go_v (cd := cd14) [] 20 rfl ?_
    refine go_st (cd := cd14) 1 rfl (go_ifT (nI_le (a := 4) (by omega) (by omega)) ?_)
    exact h77 I hS (fun h => hn4 h.1) (fun h => hn4 h.1)
  obtain ⟨k, rfl⟩ : ∃ k', k = k' + 1 := ⟨k - 1, by omega⟩
  refine go_st (cd := cd14) 1 rfl (go_ifF (nI_ge (b := 4) hn4 (by decide)) ?_)
  refine go_v (cd := cd14) [] 20 rfl ?_
  refine go_callv (cd := cd14) rfl rfl rfl rfl rfl (lv3 rfl) rfl (cl_pass (d := e + 1) (c := 33) hb hT hS (by omega) rfl (by decide) (fun ht I1 hS1 => ⟨rfl, ?_⟩) (fun ht => ⟨rfl, ?_⟩))
  · have hpl := txt_in hT.1 ht (by decide)
    refine go_st (cd := cd14) 1 rfl (go_ifF (by decide) ?_)
    refine go_v (cd := cd14) [] 20 rfl ?_
    rw [← nI_succ]
    refine go_callv (cd := cd14) rfl rfl rfl rfl rfl (lv3 rfl) rfl (hF (e + 3) k (n + 1) (p + 1) cs I1 _ (by omega) (by omega) (by omega) (by omega) (by omega) hS1 (fun I2 q ds hr hS2 => ⟨rfl, ?_⟩) (fun I2 q cs' hr hS2 => ⟨rfl, ?_⟩))
    · obtain ⟨a1, a2, a3, -⟩ := pE_ok hT.1 F none (n + 1) (p + 1) q ds (by omega) hr
      have a3 : ds.length + (p + 1) ≤ q + 0 := a3
      refine go_st (cd := cd14) 1 rfl (go_ifF (by decide) ?_)
      refine go_v (cd := cd14) [] 20 rfl ?_
      refine go_callv (cd := cd14) rfl rfl rfl rfl rfl (isB_lt hB) (isB_k hB) (cl_put (d := e + 2) (c := 2000) hB hb hS2 rfl (by rw [List.length_append]; omega) (fun I3 _ hS3 => ⟨rfl, ?_⟩))
      refine go_v (cd := cd14) [] 20 rfl ?_
      refine go_zreturn (cd := cd14) rfl (Or.inr rfl) (K1 I3 q (ds ++ [2000]) ?_ (by rw [← List.append_assoc]; exact hS3))
      unfold pE
      rw [if_pos ⟨hn4, ht⟩, hr]
    · refine go_st (cd := cd14) 1 rfl (go_ifT rfl ?_)
      refine go_v (cd := cd14) [] 20 rfl ?_
      refine go_zreturn (cd := cd14) rfl (Or.inl rfl) (K0 I2 q cs' ?_ hS2)
      unfold pE
      rw [if_pos ⟨hn4, ht⟩, hr]
  · refine go_st (cd := cd14) 1 rfl (go_ifT rfl ?_)
    refine go_v (cd := cd14) [] 20 rfl ?_
    refine go_st (cd := cd14) 1 rfl (go_ifF (nI_ge (b := 4) hn4 (by decide)) ?_)
    refine go_v (cd := cd14) [] 20 rfl ?_
    refine go_callv (cd := cd14) rfl rfl rfl rfl rfl (lv3 rfl) rfl (cl_pass (d := e + 1) (c := 40) hb hT hS (by omega) rfl (by decide) (fun ht2 I1 hS1 => ⟨rfl, ?_⟩) (fun ht2 => ⟨rfl, ?_⟩))
    · have hpl := txt_in hT.1 ht2 (by decide)
      refine go_st (cd := cd14) 1 rfl (go_ifF (by decide) ?_)
      refine go_v (cd := cd14) [] 20 rfl ?_
      rw [← nI_succ]
      have h75 : ∀ I2, P (some (.int 0)) (aHp r (some b) I2 J) → aTo L xs fv 111 (e + 3) cd14 (75, [(0, .ref 9), (1, .int (nI n))], [], aHp r (some b) I2 J) P := fun I2 h => by
        refine go_v (cd := cd14) [] 20 rfl ?_
        exact go_zreturn (cd := cd14) rfl (Or.inl rfl) h
      refine go_callv (cd := cd14) rfl rfl rfl rfl rfl (lv3 rfl) rfl (cl_of rfl (Nat.le_add_right _ _) ?_)
      refine go_v (cd := cd13) [] 20 rfl ?_
      refine go_st (cd := cd13) 1 rfl (go_ifF (by decide) ?_)
      refine go_sb (hE (e + 2) k (n + 1) (p + 1) 0 0 false false cs I1 _ (by omega) (by omega) (by omega) (by omega) ⟨fun h => (by cases h), fun h => absurd h (by decide)⟩ (by omega) (by omega) (show cs.length + 0 + 0 ≤ p + 1 by omega) hS1 (fun I2 q ds hr hS2 => ⟨rfl, ?_⟩) (fun I2 q cs' hr hS2 => ⟨rfl, ?_⟩)) ⟨rfl, rfl, rfl, trivial⟩ rfl rfl rfl
      · obtain ⟨a1, a2, a3, -⟩ := pE_ok hT.1 F (some (false, false)) (n + 1) (p + 1) q ds (by omega) hr
        refine go_st (cd := cd14) 1 rfl (go_ifF (by decide) ?_)
        refine go_v (cd := cd14) [] 20 rfl ?_
        refine go_callv (cd := cd14) rfl rfl rfl rfl rfl (lv3 rfl) rfl (cl_pass (d := e + 1) (c := 41) hb hT hS2 (by omega) rfl (by decide) (fun ht3 I3 hS3 => ⟨rfl, ?_⟩) (fun ht3 => ⟨rfl, ?_⟩))
        · refine go_st (cd := cd14) 1 rfl (go_ifF (by decide) ?_)
          refine go_v (cd := cd14) [] 20 rfl ?_
          refine go_zreturn (cd := cd14) rfl (Or.inr rfl) (K1 I3 (q + 1) ds ?_ hS3)
          unfold pE
          rw [if_neg (fun h => ht h.2), if_pos ⟨hn4, ht2⟩, hr]
          dsimp only
          rw [if_pos ht3]
        · refine go_st (cd := cd14) 1 rfl (go_ifT rfl ?_)
          refine h75 I2 (K0 I2 q _ ?_ hS2)
          unfold pE
          rw [if_neg (fun h => ht h.2), if_pos ⟨hn4, ht2⟩, hr]
          dsimp only
          rw [if_neg ht3]
      · refine go_st (cd := cd14) 1 rfl (go_ifT rfl ?_)
        refine h75 I2 (K0 I2 q _ ?_ hS2)
        unfold pE
        rw [if_neg (fun h => ht h.2), if_pos ⟨hn4, ht2⟩, hr]
    · refine go_st (cd := cd14) 1 rfl (go_ifT rfl ?_)
      exact h77 I hS (fun h => ht h.2) (fun h => ht2 h.2)
set_option maxHeartbeats 4000000 in
theorem ce_step {F : Nat} (hB : isB b) (hb : 12 ≤ b) (hT : ctx T len I0) (hF : CFp L xs fv r J T len b I0 F) (hE : CEp L xs fv r J T len b I0 F) : CEp L xs fv r J T len b I0 (F + 1) := by
  intro dd k n p i j o a cs I P hnk hdd hF1 hp ho hi hj hcs hS K1 K0
  have hl100 := hT.1.1
  obtain ⟨e, rfl⟩ : ∃ e, dd = e + 4 := ⟨dd - 4, by omega⟩
  -- behind a good part, at the inner loop
  have h20 : ∀ (I1 : Nat → Nat → Int32) (q j1 : Nat) (ds : List Nat), pE T F none n p = (q, some ds) → 2 * j1 ≤ p + 2 → cst b I0 I1 q (cs ++ (ds ++ aN a)) → aTo L xs fv 111 (e + 4) cd13 (20, [(3, .int (nI j1)), (2, .int (nI i)), (0, .ref 9), (1, .int (nI n))], [], aHp r (some b) I1 J) P := fun I1 q j1 ds hr hj1 hS1 => by
    obtain ⟨a1, a2, a3, -⟩ := pE_ok hT.1 F none n p q ds (by omega) hr
    have a3 : ds.length + p ≤ q + 0 := a3
    have hb1 := bN_le o
    have hb2 := bN_le a
    have hlen : (cs ++ (ds ++ aN a)).length + bN o ≤ q := by
      rw [List.length_append, List.length_append, aN_len]; omega
    have h61 : ∀ (I2 : Nat → Nat → Int32), T q ≠ 38 → cst b I0 I2 q (cs ++ (ds ++ aN a) ++ oN o) → aTo L xs fv 111 (e + 4) cd13 (75, [(2, .int (nI i)), (0, .ref 9), (1, .int (nI n))], [], aHp r (some b) I2 J) P := fun I2 h38 hS2 => by
      refine go_v (cd := cd13) [] 20 rfl ?_
      refine go_callv (cd := cd13) rfl rfl rfl rfl rfl (lv3 rfl) rfl (cl_pass (d := e + 2) (c := 124) hb hT hS2 (by omega) rfl (by decide) (fun ht I3 hS3 => ⟨rfl, ?_⟩) (fun ht => ⟨rfl, ?_⟩))
      · have hql := txt_in hT.1 ht (by decide)
        refine go_st (cd := cd13) 1 rfl (go_ifF (by decide) ?_)
        refine go_v (cd := cd13) [] 20 rfl ?_
        refine go_st (cd := cd13) 1 rfl (go_ifF (show ¬ 100 ≤ nI i + 1 by rw [← nI_succ]; exact nI_ge (b := 100) (by omega) (by decide)) ?_)
        refine go_sb (hE (e + 4) k n (q + 1) (i + 1) 0 true false (cs ++ (ds ++ aN a) ++ oN o) I3 _ hnk hdd (by omega) (by omega) ⟨fun _ => Nat.succ_pos _, fun _ => rfl⟩ (by omega) (by omega) (by rw [List.length_append, oN_len]; show _ + 1 + 0 ≤ _; omega) hS3 (fun I4 q2 es hr2 hS4 => ?_) (fun I4 q2 cs' hr2 hS4 => ?_)) ⟨by rw [nI_succ i]; rfl, rfl, rfl, trivial⟩ rfl rfl rfl
        · refine K1 I4 q2 (ds ++ aN a ++ oN o ++ es) ?_ (by simpa only [List.append_assoc] using hS4)
          unfold pE
          rw [hr]
          dsimp only
          rw [if_neg h38, if_pos ht, hr2]
        · refine K0 I4 q2 cs' ?_ hS4
          unfold pE
          rw [hr]
          dsimp only
          rw [if_neg h38, if_pos ht, hr2]
      · refine go_st (cd := cd13) 1 rfl (go_ifT rfl ?_)
        refine go_v (cd := cd13) [] 20 rfl ?_
        refine go_zreturn (cd := cd13) rfl (Or.inr rfl) (K1 I2 q (ds ++ aN a ++ oN o) ?_ (by simpa only [List.append_assoc] using hS2))
        unfold pE
        rw [hr]
        dsimp only
        rw [if_neg h38, if_neg ht]
    refine go_v (cd := cd13) [] 20 rfl ?_
    refine go_st (cd := cd13) 1 rfl (go_ifF (nI_ge (b := 100) (by omega) (by decide)) ?_)
    refine go_v (cd := cd13) [] 20 rfl ?_
    refine go_callv (cd := cd13) rfl rfl rfl rfl rfl (lv3 rfl) rfl (cl_pass (d := e + 2) (c := 38) hb hT hS1 (by omega) rfl (by decide) (fun ht I2 hS2 => ⟨rfl, ?_⟩) (fun ht => ⟨rfl, ?_⟩))
    · have hql := txt_in hT.1 ht (by decide)
      refine go_st (cd := cd13) 1 rfl (go_ifF (by decide) ?_)
      refine hE (e + 4) k n (q + 1) i j1 o true (cs ++ (ds ++ aN a)) I2 _ hnk hdd (by omega) (by omega) ho (by omega) (by omega) (show _ + bN o + 1 ≤ _ by omega) hS2 (fun I4 q2 es hr2 hS4 => ?_) (fun I4 q2 cs' hr2 hS4 => ?_)
      · refine K1 I4 q2 (ds ++ aN a ++ es) ?_ (by simpa only [List.append_assoc] using hS4)
        unfold pE
        rw [hr]
        dsimp only
        rw [if_pos ht, hr2]
      · refine K0 I4 q2 cs' ?_ hS4
        unfold pE
        rw [hr]
        dsimp only
        rw [if_pos ht, hr2]
    · refine go_st (cd := cd13) 1 rfl (go_ifT rfl ?_)
      refine go_v (cd := cd13) [] 20 rfl ?_
      cases ho2 : o with
      | true =>
        have hi0 := ho.mp ho2
        rw [ho2] at hlen
        have hlen : (cs ++ (ds ++ aN a)).length + 1 ≤ q := hlen
        refine go_st (cd := cd13) 1 rfl (go_ifF (nI_nle hi0 (by omega)) ?_)
        refine go_v (cd := cd13) [] 20 rfl ?_
        refine go_callv (cd := cd13) rfl rfl rfl rfl rfl (isB_lt hB) (isB_k hB) (cl_put (d := e + 3) (c := 2002) hB hb hS1 rfl (by omega) (fun I2 _ hS2 => ⟨rfl, ?_⟩))
        exact go_sb (h61 I2 ht (by rw [ho2]; exact hS2)) ⟨rfl, rfl, rfl, trivial⟩ rfl rfl rfl
      | false =>
        have hi0 : i = 0 := by
          by_cases h0 : 0 < i
          · rw [ho.mpr h0] at ho2; cases ho2
          · omega
        refine go_st (cd := cd13) 1 rfl (go_ifT (by rw [hi0]; decide) ?_)
        exact go_sb (h61 I1 ht (by rw [ho2]; show cst b I0 I1 q (_ ++ []); rw [List.append_nil]; exact hS1)) ⟨rfl, rfl, rfl, trivial⟩ rfl rfl rfl
  cases ha : a with
  | false =>
    show aTo L xs fv 111 (e + 4) cd13 (8, [(2, .int (nI i)), (0, .ref 9), (1, .int (nI n))], [], aHp r (some b) I J) P
    refine go_v (cd := cd13) [] 20 rfl ?_
    refine go_callv (cd := cd13) rfl rfl rfl rfl rfl (lv3 rfl) rfl (hF (e + 4) k n p cs I _ hnk hdd (by omega) hp (by omega) hS (fun I1 q ds hr hS1 => ⟨rfl, ?_⟩) (fun I1 q cs' hr hS1 => ⟨rfl, ?_⟩))
    · refine go_st (cd := cd13) 1 rfl (go_ifF (by decide) ?_)
      refine go_v (cd := cd13) [20] 20 rfl ?_
      exact go_sb (h20 I1 q 0 ds hr (by omega) (by rw [ha]; show cst b I0 I1 q (cs ++ (ds ++ [])); rw [List.append_nil]; exact hS1)) ⟨rfl, rfl, rfl, rfl, trivial⟩ rfl rfl rfl
    · refine go_st (cd := cd13) 1 rfl (go_ifT rfl ?_)
      refine go_v (cd := cd13) [] 20 rfl ?_
      refine go_zreturn (cd := cd13) rfl (Or.inl rfl) (K0 I1 q cs' ?_ hS1)
      unfold pE
      rw [hr]
  | true =>
    rw [ha] at hcs
    have hcs : cs.length + bN o + 1 ≤ p := hcs
    show aTo L xs fv 111 (e + 4) cd13 (35, [(3, .int (nI j)), (2, .int (nI i)), (0, .ref 9), (1, .int (nI n))], [], aHp r (some b) I J) P
    refine go_v (cd := cd13) [] 20 rfl ?_
    refine go_callv (cd := cd13) rfl rfl rfl rfl rfl (lv3 rfl) rfl (hF (e + 4) k n p cs I _ hnk hdd (by omega) hp (by omega) hS (fun I1 q ds hr hS1 => ⟨rfl, ?_⟩) (fun I1 q cs' hr hS1 => ⟨rfl, ?_⟩))
    · obtain ⟨a1, a2, a3, -⟩ := pE_ok hT.1 F none n p q ds (by omega) hr
      have a3 : ds.length + p ≤ q + 0 := a3
      refine go_st (cd := cd13) 1 rfl (go_ifF (by decide) ?_)
      refine go_v (cd := cd13) [] 20 rfl ?_
      refine go_callv (cd := cd13) rfl rfl rfl rfl rfl (isB_lt hB) (isB_k hB) (cl_put (d := e + 3) (c := 2001) hB hb hS1 rfl (by rw [List.length_append]; omega) (fun I2 _ hS2 => ⟨rfl, ?_⟩))
      refine go_v (cd := cd13) [20] 20 rfl ?_
      refine go_sb (h20 I2 q (j + 1) ds hr (by omega) ?_) ⟨by rw [nI_succ j]; rfl, rfl, rfl, rfl, trivial⟩ rfl rfl rfl
      rw [ha, ← List.append_assoc]
      exact hS2
    · refine go_st (cd := cd13) 1 rfl (go_ifT rfl ?_)
      refine go_v (cd := cd13) [] 20 rfl ?_
      refine go_zreturn (cd := cd13) rfl (Or.inl rfl) (K0 I1 q cs' ?_ hS1)
      unfold pE
      rw [hr]
theorem c_all (hB : isB b) (hb : 12 ≤ b) (hT : ctx T len I0) : ∀ F, CFp L xs fv r J T len b I0 F ∧ CEp L xs fv r J T len b I0 F
  | 0 => ⟨fun dd k n p cs I P _ _ h => absurd h (by omega), fun dd k n p i j o a cs I P _ _ h => absurd h (by omega)⟩
  | F + 1 => by
    obtain ⟨h1, h2⟩ := c_all hB hb hT F
    exact ⟨cf_step hB hb hT h1 h2, ce_step hB hb hT h1 h2⟩
end CR
