/-! the reference reads an E -/
def aS (a : Bool) : List Nat := if a = true then [38] else []
def oS (o : Bool) : List Nat := if o = true then [124] else []
def RFp (L : Nat) (xs : Nat → Int32) (fv : Value) (r : Nat) (rr : Option Nat) (J : Nat → Nat → Int64) (T : Nat → Nat) (len f c : Nat) (I0 : Nat → Nat → Int32) (F : Nat) : Prop := ∀ (dd n p : Nat) (W cs : List Nat) (I : Nat → Nat → Int32) (P : Option Value → aH → Prop), 5 ≤ dd → 2 * (len - p) < F → p ≤ len → cs.length + W.length ≤ p → ldN W ≤ n → n ≤ 4 → rst f c I0 I p W n cs →
  (∀ I' q ds, pE T F none n p = (q, some ds) → rst f c I0 I' q (dpN W) (n - ldN W) (cs ++ ds ++ List.replicate (ldN W) 2000) → aTo L xs fv 111 dd cd113 (22, [(2, .int 0), (0, .ref 77), (1, .int (nI c))], [], aHp r rr I' J) P) → (∀ I' q W' n' cs', pE T F none n p = (q, none) → rst f c I0 I' q W' n' cs' → P (some (.int 0)) (aHp r rr I' J)) → aTo L xs fv 111 dd cd113 (22, [(2, .int 1), (0, .ref 77), (1, .int (nI c))], [], aHp r rr I J) P
def REp (L : Nat) (xs : Nat → Int32) (fv : Value) (r : Nat) (rr : Option Nat) (J : Nat → Nat → Int64) (T : Nat → Nat) (len f c : Nat) (I0 : Nat → Nat → Int32) (F : Nat) : Prop := ∀ (dd n p : Nat) (o a : Bool) (W cs : List Nat) (I : Nat → Nat → Int32) (P : Option Value → aH → Prop), 5 ≤ dd → 2 * (len - p) + 1 < F → p ≤ len → (W = [] ∨ ∃ W', W = 40 :: W') → cs.length + (aS a ++ (oS o ++ W)).length ≤ p → n ≤ 4 → rst f c I0 I p (aS a ++ (oS o ++ W)) n cs →
  (∀ I' q ds x, pE T F (some (o, a)) n p = (q, some ds) → rst f c I0 I' q W n (cs ++ ds) → I' 86 c = nI (100 * f + (cs ++ ds).length) → sgX x (T q) → aTo L xs fv 111 dd cd113 (178, [(3, .int x), (2, .int 0), (0, .ref 77), (1, .int (nI c))], [], aHp r rr I' J) P) → (∀ I' q W' n' cs', pE T F (some (o, a)) n p = (q, none) → rst f c I0 I' q W' n' cs' → P (some (.int 0)) (aHp r rr I' J)) → aTo L xs fv 111 dd cd113 (22, [(2, .int 1), (0, .ref 77), (1, .int (nI c))], [], aHp r rr I J) P
theorem ldN_le : ∀ W : List Nat, ldN W ≤ W.length
  | [] => Nat.le_refl _
  | w :: W => by
    have := ldN_le W
    unfold ldN
    split
    · show ldN W + 1 ≤ W.length + 1; omega
    · exact Nat.zero_le _
theorem dpN_len : ∀ W : List Nat, (dpN W).length + ldN W = W.length
  | [] => rfl
  | w :: W => by
    have := dpN_len W
    unfold dpN ldN
    split
    · show _ = W.length + 1; omega
    · rfl
theorem ld_S {o a : Bool} {W : List Nat} (hW : W = [] ∨ ∃ W', W = 40 :: W') : ldN (aS a ++ (oS o ++ W)) = 0 ∧ dpN (aS a ++ (oS o ++ W)) = aS a ++ (oS o ++ W) := by
  cases a with
  | true => exact ⟨rfl, rfl⟩
  | false =>
    cases o with
    | true => exact ⟨rfl, rfl⟩
    | false =>
      rcases hW with rfl | ⟨W', rfl⟩
      · exact ⟨rfl, rfl⟩
      · exact ⟨rfl, rfl⟩
theorem sl_38 {o a : Bool} {W : List Nat} (hW : W = [] ∨ ∃ W', W = 40 :: W') : slC 38 (aS a ++ (oS o ++ W)) = aN a ∧ slW 38 (aS a ++ (oS o ++ W)) = oS o ++ W := by
  have h0 : slC 38 (oS o ++ W) = [] ∧ slW 38 (oS o ++ W) = oS o ++ W := by
    cases o with
    | true => exact ⟨rfl, rfl⟩
    | false =>
      rcases hW with rfl | ⟨W', rfl⟩
      · exact ⟨rfl, rfl⟩
      · exact ⟨rfl, rfl⟩
  cases a with
  | true =>
    refine ⟨?_, ?_⟩
    · show 2001 :: slC 38 (oS o ++ W) = _
      rw [h0.1]; rfl
    · show slW 38 (oS o ++ W) = _
      rw [h0.2]
  | false => exact h0
theorem sl_124 {o a : Bool} {W : List Nat} (hW : W = [] ∨ ∃ W', W = 40 :: W') : slC 124 (aS a ++ (oS o ++ W)) = aN a ++ oN o ∧ slW 124 (aS a ++ (oS o ++ W)) = W := by
  have hw : slC 124 W = [] ∧ slW 124 W = W := by
    rcases hW with rfl | ⟨W', rfl⟩
    · exact ⟨rfl, rfl⟩
    · exact ⟨rfl, rfl⟩
  have h0 : slC 124 (oS o ++ W) = oN o ∧ slW 124 (oS o ++ W) = W := by
    cases o with
    | true =>
      refine ⟨?_, ?_⟩
      · show 2002 :: slC 124 W = _
        rw [hw.1]; rfl
      · show slW 124 W = _
        rw [hw.2]
    | false => exact hw
  cases a with
  | true =>
    refine ⟨?_, ?_⟩
    · show 2001 :: slC 124 (oS o ++ W) = _
      rw [h0.1]; rfl
    · show slW 124 (oS o ++ W) = _
      rw [h0.2]
  | false => exact h0
theorem aS_len (a : Bool) : (aS a).length = bN a := by cases a <;> rfl
theorem oS_len (o : Bool) : (oS o).length = bN o := by cases o <;> rfl
section RR
variable {L : Nat} {xs : Nat → Int32} {fv : Value} {r : Nat} {rr : Option Nat} {J : Nat → Nat → Int64}
variable {T : Nat → Nat} {len f c : Nat} {I0 : Nat → Nat → Int32}
theorem rst_86 {I : Nat → Nat → Int32} {p n : Nat} {W cs : List Nat} {v : Int32} (h : rst f c I0 I p W n cs) : rst f c I0 (up2 I 86 c v) p W n cs := by
  obtain ⟨h1, h2, h3, h4, h5, h6, h7, h8, h9, hA⟩ := h
  exact ⟨fun j a b c e => by rw [up2_ne b]; exact h1 j a b c e, fun q a b c e g => by rw [up2_ne (by decide)]; exact h2 q a b c e g, by rw [up2_ne (by decide)]; exact h3, by rw [up2_ne (by decide)]; exact h4, by rw [up2_ne (by decide)]; exact h5, by rw [up2_ne (by decide)]; exact h6, by rw [up2_ne (by decide)]; exact h7, fun j a => by rw [up2_ne (by decide)]; exact h8 j a, fun j e a => by rw [up2_ne (by decide)]; exact h9 j e a, fun q a => by rw [up2_42 a]; exact hA q a⟩
set_option maxHeartbeats 4000000 in
theorem rf_step {F : Nat} (hf : f < 5) (hc50 : c < 50) (hT : rtx T len I0) (hF : RFp L xs fv r rr J T len f c I0 F) (hE : REp L xs fv r rr J T len f c I0 F) : RFp L xs fv r rr J T len f c I0 (F + 1) := by
  intro dd n p W cs I P hdd hF1 hp hcs hld hn4 hS K1 K0
  have hl100 := hT.1.1
  have hldW := ldN_le W
  obtain ⟨e, rfl⟩ : ∃ e, dd = e + 5 := ⟨dd - 5, by omega⟩
  refine go_v (cd := cd113) [] 20 rfl ?_
  refine go_callv (cd := cd113) rfl rfl rfl rfl rfl (lv3 rfl) rfl (rf_next hT hS (by omega) (fun x hx => ⟨rfl, ?_⟩))
  have h33 := sg_eq (c := 33) (C := 33) hx rfl (by decide)
  have h40 := sg_eq (c := 40) (C := 40) hx rfl (by decide)
  have h96 : T p ≠ 33 → T p ≠ 40 → aTo L xs fv 111 (e + 5) cd113 (96, [(3, .int x), (2, .int 1), (0, .ref 77), (1, .int (nI c))], [], aHp r rr I J) P := fun a1 a2 => by
    have e0 : pE T (F + 1) none n p = pT T p := by
      unfold pE
      rw [if_neg (fun h => a1 h.2), if_neg (fun h => a2 h.2)]
    refine go_v (cd := cd113) [] 20 rfl ?_
    refine go_callv (cd := cd113) rfl rfl rfl rfl rfl (lv3 rfl) rfl (rf_test (d := e + 1) hf hT hS hp (by omega) (by omega) hld hn4 (fun I' q z h hS' => ⟨rfl, ?_⟩) (fun I' q h hS' => ⟨rfl, ?_⟩))
    · refine go_st (cd := cd113) 1 rfl (go_ifF (by decide) ?_)
      refine go_v (cd := cd113) [22] 20 rfl ?_
      exact go_sb (K1 I' q [z] (e0.trans h) hS') ⟨rfl, rfl, rfl, trivial⟩ rfl rfl rfl
    · refine go_st (cd := cd113) 1 rfl (go_ifT rfl ?_)
      refine go_v (cd := cd113) [] 20 rfl ?_
      exact go_zreturn (cd := cd113) rfl (Or.inl rfl) (K0 I' q _ _ _ (e0.trans h) hS')
  have h43 : ∀ (w : Nat), T p = w → (w = 33 ∨ w = 40) → aTo L xs fv 111 (e + 5) cd113 (43, [(3, .int x), (2, .int 1), (0, .ref 77), (1, .int (nI c))], [], aHp r rr I J) P := fun w hw hww => by
    have hpl := txt_in hT.1 hw (by omega)
    have hxe : x = nI w := (sg_eq (c := w) (C := nI w) hx rfl (by omega)).mpr hw
    have h26 : I 77 26 = nI n := hS.2.2.2.2.2.1
    refine go_v (cd := cd113) [] 20 rfl ?_
    by_cases hn : n = 4
    · have e0 : pE T (F + 1) none n p = (p, none) := by
        unfold pE
        rw [if_neg (fun h => by omega), if_neg (fun h => by omega)]
        unfold pT
        have : leT (T p) = none := by
          unfold leT
          rw [hw]
          rcases hww with rfl | rfl <;> rfl
        rw [this]
      refine go_st (cd := cd113) 1 rfl (go_ifT (show I 77 26 = 4 by rw [h26, hn]; rfl) ?_)
      refine go_v (cd := cd113) [] 20 rfl ?_
      exact go_zreturn (cd := cd113) rfl (Or.inl rfl) (K0 I p _ _ _ e0 hS)
    refine go_st (cd := cd113) 1 rfl (go_ifF (show ¬ I 77 26 = 4 from fun h => hn ((nI_eq (b := 4) (by omega) (by decide)).mp (h26.symm.trans h))) ?_)
    refine go_v (cd := cd113) [63] 20 rfl ?_
    show aTo L xs fv 111 _ cd113 (63, _, [], aHp r rr (up2 I 77 26 (I 77 26 + 1)) J) _
    rw [h26, ← nI_succ]
    have hS1 : rst f c I0 (up2 I 77 26 (nI (n + 1))) p W (n + 1) cs := rst_n hS
    generalize up2 I 77 26 (nI (n + 1)) = I1 at *
    refine go_v (cd := cd113) [] 20 rfl ?_
    show aTo L xs fv 111 _ cd113 (72, _, [.int x, .int (I1 77 25), .ref 88], aHp r rr I1 J) _
    rw [hS1.2.2.2.2.1, hxe]
    refine go_iast (cd := cd113) rfl (nI_vin (n := 101) (by omega) (by decide)) (lv3 rfl) rfl ?_
    rw [nI_clamp (show W.length < 2 ^ 31 by omega)]
    refine go_v (cd := cd113) [83] 20 rfl ?_
    show aTo L xs fv 111 _ cd113 (83, _, [], aHp r rr (up2 (up2 I1 88 W.length (nI w)) 77 25 (I1 77 25 + 1)) J) _
    rw [hS1.2.2.2.2.1, ← nI_succ]
    have hS2 : rst f c I0 (up2 (up2 I1 88 W.length (nI w)) 77 25 (nI (W.length + 1))) p (w :: W) (n + 1) cs := rst_push (by omega) hS1
    generalize up2 (up2 I1 88 W.length (nI w)) 77 25 (nI (W.length + 1)) = I2 at *
    refine go_v (cd := cd113) [22] 20 rfl ?_
    show aTo L xs fv 111 _ cd113 (22, _, [], aHp r rr (up2 I2 77 13 (I2 77 13 + 1)) J) _
    rw [hS2.2.2.1, ← nI_succ]
    have hS3 : rst f c I0 (up2 I2 77 13 (nI (p + 1))) (p + 1) (w :: W) (n + 1) cs := rst_p hS2
    generalize up2 I2 77 13 (nI (p + 1)) = I3 at *
    have hWl : (w :: W).length = W.length + 1 := rfl
    rcases hww with hww | hww
    · subst hww
      have e1 : ldN (33 :: W) = ldN W + 1 := rfl
      have e2 : dpN (33 :: W) = dpN W := rfl
      refine go_sb (hF (e + 5) (n + 1) (p + 1) (33 :: W) cs I3 P (by omega) (by omega) (by omega) (by omega) (by omega) (by omega) hS3 (fun I4 q ds hr hS4 => K1 I4 q (ds ++ [2000]) ?_ ?_) (fun I4 q W' n' cs' hr hS4 => K0 I4 q W' n' cs' ?_ hS4)) ⟨rfl, rfl, rfl, trivial⟩ rfl rfl rfl
      · unfold pE
        rw [if_pos ⟨by omega, hw⟩, hr]
      · rw [e1, e2, show n + 1 - (ldN W + 1) = n - ldN W by omega] at hS4
        rw [show cs ++ (ds ++ [2000]) ++ List.replicate (ldN W) 2000 = cs ++ ds ++ List.replicate (ldN W + 1) 2000 from by
          rw [List.replicate_succ]; simp]
        exact hS4
      · unfold pE
        rw [if_pos ⟨by omega, hw⟩, hr]
    · subst hww
      refine go_sb (hE (e + 5) (n + 1) (p + 1) false false (40 :: W) cs I3 P (by omega) (by omega) (by omega) (Or.inr ⟨W, rfl⟩) (show cs.length + (40 :: W).length ≤ p + 1 by omega) (by omega) hS3 (fun I4 q ds y hr hS4 h86 hy => ?_) (fun I4 q W' n' cs' hr hS4 => K0 I4 q W' n' cs' ?_ hS4)) ⟨rfl, rfl, rfl, trivial⟩ rfl rfl rfl
      · obtain ⟨a1, a2, a3, -⟩ := pE_ok hT.1 F (some (false, false)) (n + 1) (p + 1) q ds (by omega) hr
        have a3 : ds.length + (p + 1) ≤ q + 0 := a3
        have h25 : I4 77 25 = nI (W.length + 1) := hS4.2.2.2.2.1
        refine go_v (cd := cd113) [] 20 rfl ?_
        refine go_st (cd := cd113) 1 rfl (go_ifF (show ¬ I4 77 25 = 0 by rw [h25]; exact nI_ne0 (Nat.succ_pos _) (by omega)) ?_)
        refine go_v (cd := cd113) [] 20 rfl ?_
        have hy41 := sg_eq (c := 41) (C := 41) hy rfl (by decide)
        by_cases h41 : T q = 41
        case neg =>
          refine go_st (cd := cd113) 1 rfl (go_ifF (fun h => h41 (hy41.mp h)) ?_)
          refine go_v (cd := cd113) [] 20 rfl ?_
          refine go_zreturn (cd := cd113) rfl (Or.inl rfl) (K0 I4 q _ _ _ ?_ hS4)
          unfold pE
          rw [if_neg (fun h => by omega), if_pos ⟨by omega, hw⟩, hr]
          dsimp only
          rw [if_neg h41]
        refine go_st (cd := cd113) 1 rfl (go_ifT (hy41.mpr h41) ?_)
        refine go_v (cd := cd113) [205] 20 rfl ?_
        show aTo L xs fv 111 _ cd113 (205, _, [], aHp r rr (up2 I4 77 25 (I4 77 25 - 1)) J) _
        rw [h25, nI_pred]
        have hS5 : rst f c I0 (up2 I4 77 25 (nI W.length)) q W (n + 1) (cs ++ ds) := rst_w hS4
        generalize up2 I4 77 25 (nI W.length) = I5 at *
        refine go_v (cd := cd113) [215] 20 rfl ?_
        show aTo L xs fv 111 _ cd113 (215, _, [], aHp r rr (up2 I5 77 26 (I5 77 26 - 1)) J) _
        rw [hS5.2.2.2.2.2.1, nI_pred]
        have hS6 : rst f c I0 (up2 I5 77 26 (nI n)) q W n (cs ++ ds) := rst_n hS5
        generalize up2 I5 77 26 (nI n) = I6 at *
        refine go_v (cd := cd113) [225] 20 rfl ?_
        show aTo L xs fv 111 _ cd113 (225, _, [], aHp r rr (up2 I6 77 13 (I6 77 13 + 1)) J) _
        rw [hS6.2.2.1, ← nI_succ]
        have hS7 : rst f c I0 (up2 I6 77 13 (nI (q + 1))) (q + 1) W n (cs ++ ds) := rst_p hS6
        generalize up2 I6 77 13 (nI (q + 1)) = I7 at *
        refine go_v (cd := cd113) [] 20 rfl ?_
        refine go_callv (cd := cd113) rfl rfl rfl rfl rfl (lv3 rfl) rfl (cl_of rfl (Nat.le_add_right _ _) (rf_nots (d := e + 3) hf W n (cs ++ ds) I7 _ hS7 (by omega) hld hn4 (by rw [List.length_append]; omega) (fun I8 _ hS8 => ⟨rfl, ?_⟩)))
        refine go_v (cd := cd113) [22] 20 rfl ?_
        refine go_sb (K1 I8 (q + 1) ds ?_ hS8) ⟨rfl, rfl, rfl, trivial⟩ rfl rfl rfl
        unfold pE
        rw [if_neg (fun h => by omega), if_pos ⟨by omega, hw⟩, hr]
        dsimp only
        rw [if_pos h41]
      · unfold pE
        rw [if_neg (fun h => by omega), if_pos ⟨by omega, hw⟩, hr]
  refine go_v (cd := cd113) [] 20 rfl ?_
  refine go_st (cd := cd113) 1 rfl (go_ifF (by decide) ?_)
  refine go_v (cd := cd113) [] 20 rfl ?_
  by_cases ht : T p = 33
  · refine go_st (cd := cd113) 1 rfl (go_ifT (h33.mpr ht) ?_)
    exact go_sb (h43 33 ht (Or.inl rfl)) ⟨rfl, rfl, rfl, rfl, trivial⟩ rfl rfl rfl
  refine go_st (cd := cd113) 1 rfl (go_ifF (fun h => ht (h33.mp h)) ?_)
  refine go_v (cd := cd113) [] 20 rfl ?_
  by_cases ht2 : T p = 40
  · refine go_st (cd := cd113) 1 rfl (go_ifT (h40.mpr ht2) ?_)
    exact go_sb (h43 40 ht2 (Or.inr rfl)) ⟨rfl, rfl, rfl, rfl, trivial⟩ rfl rfl rfl
  · refine go_st (cd := cd113) 1 rfl (go_ifF (fun h => ht2 (h40.mp h)) ?_)
    exact go_sb (h96 ht ht2) ⟨rfl, rfl, rfl, rfl, trivial⟩ rfl rfl rfl
set_option maxHeartbeats 4000000 in
theorem re_step {F : Nat} (hf : f < 5) (hc50 : c < 50) (hT : rtx T len I0) (hF : RFp L xs fv r rr J T len f c I0 F) (hE : REp L xs fv r rr J T len f c I0 F) : REp L xs fv r rr J T len f c I0 (F + 1) := by
  intro dd n p o a W cs I P hdd hF1 hp hW hcs hn4 hS K1 K0
  have hl100 := hT.1.1
  obtain ⟨l1, l2⟩ := ld_S (o := o) (a := a) hW
  obtain ⟨e, rfl⟩ : ∃ e, dd = e + 5 := ⟨dd - 5, by omega⟩
  refine hF (e + 5) n p (aS a ++ (oS o ++ W)) cs I P hdd (by omega) hp hcs (by omega) hn4 hS (fun I1 q ds hr hS1 => ?_) (fun I1 q W' n' cs' hr hS1 => K0 I1 q W' n' cs' ?_ hS1)
  case refine_2 =>
    unfold pE
    rw [hr]
  rw [l1, l2, Nat.sub_zero, List.replicate_zero, List.append_nil] at hS1
  obtain ⟨a1, a2, a3, -⟩ := pE_ok hT.1 F none n p q ds hn4 hr
  have a3 : ds.length + p ≤ q + 0 := a3
  have hlen : (aS a ++ (oS o ++ W)).length = bN a + (bN o + W.length) := by rw [List.length_append, List.length_append, aS_len, oS_len]
  rw [hlen] at hcs
  have hb1 := bN_le o
  have hb2 := bN_le a
  refine go_v (cd := cd113) [] 20 rfl ?_
  refine go_callv (cd := cd113) rfl rfl rfl rfl rfl (lv3 rfl) rfl (rf_next hT hS1 (by omega) (fun x hx => ⟨rfl, ?_⟩))
  have h38 := sg_eq (c := 38) (C := 38) hx rfl (by decide)
  have h124 := sg_eq (c := 124) (C := 124) hx rfl (by decide)
  -- an operator: what waits is settled, it waits itself
  have h122 : ∀ (w : Nat) (W1 cs1 : List Nat), T q = w → (w = 38 ∨ w = 124) → slC w (aS a ++ (oS o ++ W)) = cs1 → slW w (aS a ++ (oS o ++ W)) = W1 → cs1.length + W1.length ≤ bN a + (bN o + W.length) → (∀ I3, rst f c I0 I3 (q + 1) (w :: W1) n (cs ++ ds ++ cs1) → aTo L xs fv 111 (e + 5) cd113 (22, [(2, .int 1), (0, .ref 77), (1, .int (nI c))], [], aHp r rr I3 J) P) → aTo L xs fv 111 (e + 5) cd113 (122, [(3, .int x), (2, .int 0), (0, .ref 77), (1, .int (nI c))], [], aHp r rr I1 J) P := fun w W1 cs1 hw hww e1 e2 hl KK => by
    have hxe : x = nI w := (sg_eq (c := w) (C := nI w) hx rfl (by omega)).mpr hw
    have hql := txt_in hT.1 hw (by omega)
    refine go_v (cd := cd113) [] 20 rfl ?_
    refine go_callv (cd := cd113) rfl rfl rfl rfl rfl (lv3 rfl) rfl (cl_of rfl (Nat.le_add_right _ _) (rf_settle (d := e + 3) (s := w) hf hxe (by omega) (aS a ++ (oS o ++ W)) (cs ++ ds) I1 _ hS1 (by omega) (by rw [e1, List.length_append]; omega) (fun I2 _ hS2 => ⟨rfl, ?_⟩)))
    rw [e1, e2] at hS2
    refine go_v (cd := cd113) [] 20 rfl ?_
    show aTo L xs fv 111 _ cd113 (136, _, [.int x, .int (I2 77 25), .ref 88], aHp r rr I2 J) _
    rw [hS2.2.2.2.2.1, hxe]
    refine go_iast (cd := cd113) rfl (nI_vin (n := 101) (by omega) (by decide)) (lv3 rfl) rfl ?_
    rw [nI_clamp (show W1.length < 2 ^ 31 by omega)]
    refine go_v (cd := cd113) [147] 20 rfl ?_
    show aTo L xs fv 111 _ cd113 (147, _, [], aHp r rr (up2 (up2 I2 88 W1.length (nI w)) 77 25 (I2 77 25 + 1)) J) _
    rw [hS2.2.2.2.2.1, ← nI_succ]
    have hS3 : rst f c I0 (up2 (up2 I2 88 W1.length (nI w)) 77 25 (nI (W1.length + 1))) q (w :: W1) n (cs ++ ds ++ cs1) := rst_push (by omega) hS2
    generalize up2 (up2 I2 88 W1.length (nI w)) 77 25 (nI (W1.length + 1)) = I3 at *
    refine go_v (cd := cd113) [22] 20 rfl ?_
    show aTo L xs fv 111 _ cd113 (22, _, [], aHp r rr (up2 I3 77 13 (I3 77 13 + 1)) J) _
    rw [hS3.2.2.1, ← nI_succ]
    exact go_sb (KK _ (rst_p hS3)) ⟨rfl, rfl, rfl, trivial⟩ rfl rfl rfl
  refine go_v (cd := cd113) [] 20 rfl ?_
  refine go_st (cd := cd113) 1 rfl (go_ifT rfl ?_)
  refine go_v (cd := cd113) [] 20 rfl ?_
  by_cases ht : T q = 38
  · have hql := txt_in hT.1 ht (by decide)
    refine go_st (cd := cd113) 1 rfl (go_ifT (h38.mpr ht) ?_)
    obtain ⟨s1, s2⟩ := sl_38 (o := o) (a := a) hW
    refine go_sb (h122 38 (oS o ++ W) (aN a) ht (Or.inl rfl) s1 s2 (by rw [List.length_append, aN_len, oS_len]; omega) (fun I3 hS3 => ?_)) ⟨rfl, rfl, rfl, rfl, trivial⟩ rfl rfl rfl
    refine hE (e + 5) n (q + 1) o true W (cs ++ ds ++ aN a) I3 P hdd (by omega) (by omega) hW ?_ hn4 hS3 (fun I4 q2 es y hr2 hS4 h86 hy => ?_) (fun I4 q2 W' n' cs' hr2 hS4 => K0 I4 q2 W' n' cs' ?_ hS4)
    · rw [List.length_append, List.length_append, List.length_append, List.length_append, aS_len, oS_len, aN_len]
      show cs.length + ds.length + bN a + (1 + (bN o + W.length)) ≤ q + 1
      omega
    · have e3 : cs ++ ds ++ aN a ++ es = cs ++ (ds ++ aN a ++ es) := by simp
      rw [e3] at hS4 h86
      refine K1 I4 q2 (ds ++ aN a ++ es) y ?_ hS4 h86 hy
      unfold pE
      rw [hr]
      dsimp only
      rw [if_pos ht, hr2]
    · unfold pE
      rw [hr]
      dsimp only
      rw [if_pos ht, hr2]
  refine go_st (cd := cd113) 1 rfl (go_ifF (fun h => ht (h38.mp h)) ?_)
  refine go_v (cd := cd113) [] 20 rfl ?_
  obtain ⟨s1, s2⟩ := sl_124 (o := o) (a := a) hW
  by_cases ht2 : T q = 124
  · have hql := txt_in hT.1 ht2 (by decide)
    refine go_st (cd := cd113) 1 rfl (go_ifT (h124.mpr ht2) ?_)
    refine go_sb (h122 124 W (aN a ++ oN o) ht2 (Or.inr rfl) s1 s2 (by rw [List.length_append, aN_len, oN_len]; omega) (fun I3 hS3 => ?_)) ⟨rfl, rfl, rfl, rfl, trivial⟩ rfl rfl rfl
    refine hE (e + 5) n (q + 1) true false W (cs ++ ds ++ (aN a ++ oN o)) I3 P hdd (by omega) (by omega) hW ?_ hn4 hS3 (fun I4 q2 es y hr2 hS4 h86 hy => ?_) (fun I4 q2 W' n' cs' hr2 hS4 => K0 I4 q2 W' n' cs' ?_ hS4)
    · rw [List.length_append, List.length_append, List.length_append, List.length_append, List.length_append, aS_len, oS_len, aN_len, oN_len]
      show cs.length + ds.length + (bN a + bN o) + (0 + (1 + W.length)) ≤ q + 1
      omega
    · have e3 : cs ++ ds ++ (aN a ++ oN o) ++ es = cs ++ (ds ++ aN a ++ oN o ++ es) := by simp
      rw [e3] at hS4 h86
      refine K1 I4 q2 (ds ++ aN a ++ oN o ++ es) y ?_ hS4 h86 hy
      unfold pE
      rw [hr]
      dsimp only
      rw [if_neg ht, if_pos ht2, hr2]
    · unfold pE
      rw [hr]
      dsimp only
      rw [if_neg ht, if_pos ht2, hr2]
  · refine go_st (cd := cd113) 1 rfl (go_ifF (fun h => ht2 (h124.mp h)) ?_)
    refine go_v (cd := cd113) [] 20 rfl ?_
    refine go_callv (cd := cd113) rfl rfl rfl rfl rfl (lv3 rfl) rfl (cl_of rfl (Nat.le_add_right _ _) (rf_settle (d := e + 3) (s := 124) (S := 124) hf rfl (by decide) (aS a ++ (oS o ++ W)) (cs ++ ds) I1 _ hS1 (by omega) (by rw [s1, List.length_append, List.length_append, aN_len, oN_len]; omega) (fun I2 _ hS2 => ⟨rfl, ?_⟩)))
    rw [s1, s2] at hS2
    refine go_v (cd := cd113) [] 20 rfl ?_
    show aTo L xs fv 111 _ cd113 (177, _, [.int (I2 77 24), .int (nI c), .ref 86], aHp r rr I2 J) _
    rw [hS2.2.2.2.1]
    refine go_iast (cd := cd113) rfl (nI_vin (n := 50) hc50 (by decide)) (lv3 rfl) rfl ?_
    rw [nI_clamp (show c < 2 ^ 31 by omega)]
    have e3 : cs ++ ds ++ (aN a ++ oN o) = cs ++ (ds ++ aN a ++ oN o) := by simp
    rw [e3] at hS2 ⊢
    refine go_sb (K1 _ q (ds ++ aN a ++ oN o) x ?_ (rst_86 hS2) up2_e hx) ⟨rfl, rfl, rfl, rfl, trivial⟩ rfl rfl rfl
    unfold pE
    rw [hr]
    dsimp only
    rw [if_neg ht, if_neg ht2]
theorem r_all (hf : f < 5) (hc50 : c < 50) (hT : rtx T len I0) : ∀ F, RFp L xs fv r rr J T len f c I0 F ∧ REp L xs fv r rr J T len f c I0 F
  | 0 => ⟨fun dd n p W cs I P _ h => absurd h (by omega), fun dd n p o a W cs I P _ h => absurd h (by omega)⟩
  | F + 1 => by
    obtain ⟨h1, h2⟩ := r_all hf hc50 hT F
    exact ⟨rf_step hf hc50 hT h1 h2, re_step hf hc50 hT h1 h2⟩
end RR
