/-! lines: the reference goes through all rows -/
theorem lfN_le {N c : Nat} : ∀ j, lfN N c j ≤ c
  | 0 => Nat.le_refl _
  | j + 1 => Nat.le_trans (Nat.div_le_self _ _) (lfN_le j)
theorem dg_p {e : Nat} : nI e - 1 = dgI e := by
  cases e with
  | zero => decide
  | succ e => exact nI_pred e
theorem four_7 {N : Nat} (h : N ≤ 7) : N * N * N * N ≤ 2401 := by
  have : ∀ N : Fin 8, N.val * N.val * N.val * N.val ≤ 2401 := by decide
  exact this ⟨N, by omega⟩
section LQ
variable {L : Nat} {xs : Nat → Int32} {fv : Value} {d : Nat} {r : Nat} {rr : Option Nat} {I : Nat → Nat → Int32} {J : Nat → Nat → Int64} {P : Option Value → aH → Prop}
variable {W : Wd} {F : Nat} {S : Sc}
/-- the reference's side while it goes through rows -/
def lrI (W : Wd) (F : Nat) (S : Sc) (h w : Nat) (now : Option Nat) (x : Int32) (I0 I : Nat → Nat → Int32) : Prop := rwl W F I ∧ rsc S I ∧ I 91 10 = 5 ∧ (0 ≤ I 92 10 ∧ I 92 10 ≤ 9) ∧ I 77 6 = nI h ∧ I 77 5 = nI w ∧ I 77 4 = oI now ∧ I 77 1 = x ∧ (∀ a b, a < 4 → b < 4 → I 90 (4 * a + b) = nI (folA W.1 a b)) ∧ relI I0 I ∧ I 77 0 = I0 77 0 ∧ I 77 11 = I0 77 11 ∧ I 19 = I0 19 ∧ I 78 = I0 78
theorem lrI_93 {h w : Nat} {now : Option Nat} {x : Int32} {I0 : Nat → Nat → Int32} {c : Nat → Int32} (hE : lrI W F S h w now x I0 I) (hc : ∀ k, k < 40 → c k = I 93 k) : lrI W F S h w now x I0 (up1 I 93 c) := by
  obtain ⟨e1, e2, e3, e4, e5, e6, e7, e8, e9, ⟨g0, g77, g91, g93, g21, g24, g92⟩, eB, eC, eD, eE⟩ := hE
  refine ⟨⟨rH_c (I := I) rfl rfl rfl rfl rfl rfl rfl rfl e1.1, e1.2.1, e1.2.2.1, e1.2.2.2⟩, e2, e3, e4, e5, e6, e7, e8, e9, ⟨fun j hj => by rw [up1_ne (by omega)]; exact g0 j hj, g77, fun k hk => by rw [up1_ne (by omega), up1_ne (by omega)]; exact g91 k hk, fun k hk => by rw [up1_e, hc k hk]; exact g93 k hk, by rw [up1_ne (by omega)]; exact g21, by rw [up1_ne (by omega)]; exact g24, fun h => by rw [up1_ne (by omega)]; exact g92 h⟩, eB, eC, eD, eE⟩
theorem lrI_103 {h w : Nat} {now : Option Nat} {x : Int32} {I0 : Nat → Nat → Int32} {c : Nat → Int32} (hE : lrI W F S h w now x I0 I) : lrI W F S h w now x I0 (up1 I 103 c) := by
  obtain ⟨e1, e2, e3, e4, e5, e6, e7, e8, e9, eA, eB, eC, eD, eE⟩ := hE
  exact ⟨⟨rH_c (I := I) rfl rfl rfl rfl rfl rfl rfl rfl e1.1, e1.2.1, e1.2.2.1, e1.2.2.2⟩, e2, e3, e4, e5, e6, e7, e8, e9, relI_up1 eA (by omega), eB, eC, eD, eE⟩
theorem lrI_fr {h w : Nat} {now : Option Nat} {x : Int32} {I0 I' : Nat → Nat → Int32} (hE : lrI W F S h w now x I0 I) (hf : fr I I') : lrI W F S h w now x I0 I' := by
  obtain ⟨e1, e2, e3, e4, e5, e6, e7, e8, e9, eA, eB, eC, eD, eE⟩ := hE
  refine ⟨rwl_fr hf e1, rsc_fr hf e2, ?_, ?_, ?_, ?_, ?_, ?_, fun a b ha hb => ?_, relI_fr eA hf, ?_, ?_, ?_, ?_⟩
  · rw [hf.1 91 (by decide) (by decide) (by decide)]; exact e3
  · rw [hf.1 92 (by decide) (by decide) (by decide)]; exact e4
  · rw [hf.2 6 (by decide)]; exact e5
  · rw [hf.2 5 (by decide)]; exact e6
  · rw [hf.2 4 (by decide)]; exact e7
  · rw [hf.2 1 (by decide)]; exact e8
  · rw [hf.1 90 (by decide) (by decide) (by decide)]; exact e9 a b ha hb
  · rw [hf.2 0 (by decide)]; exact eB
  · rw [hf.2 11 (by decide)]; exact eC
  · rw [hf.1 19 (by decide) (by decide) (by decide)]; exact eD
  · rw [hf.1 78 (by decide) (by decide) (by decide)]; exact eE
theorem rrl_ln {v : Nat} {p : Nat → Nat} (h1 : I 91 10 = 5) (h2 : I 92 10 = nI v) (hv : v ≤ 9) (ha : ∀ y, y < 4 → I 93 (40 + y) = dgI (p y)) (hp : ∀ y, y < 4 → p y ≤ 6) : rrl (5, v, fun y => dO (p y), fun _ => none) 10 I := ⟨by decide, h1, h2, (show (5 : Nat) ≤ 6 by decide), hv, fun _ w hw => ⟨ha w hw, fun s hs => dO_lt (hp w hw) hs⟩, fun h => absurd (show (5 : Nat) = 6 from h) (by decide)⟩
set_option maxHeartbeats 4000000 in
theorem rl_dig {n h w j N code : Nat} {now : Option Nat} {x : Int32} {I0 : Nat → Nat → Int32} {so : Int32} {mo : Int64} {cs : Int32} (hN : N = W.2.2.2 + 1) (hN7 : N ≤ 7) (hcode : code < 2401) (h103 : Nat → Int32)
    (K : ∀ I, lrI W F S h w now x I0 I → (∀ y, y < 4 → I 93 (40 + y) = dgI (roN N code y)) → I 103 = h103 → aTo L xs fv 111 d cd152 (128, [(7, .int (nI code)), (5, .long mo), (4, .int so), (3, .int cs), (0, .ref 77), (1, .int (nI (n + 1))), (2, .int (nI j))], [], aHp r rr I J) P) :
    ∀ m I, m ≤ 4 → lrI W F S h w now x I0 I → (∀ y, y < 4 → m ≤ y → I 93 (40 + y) = dgI (roN N code y)) → I 103 = h103 → aTo L xs fv 111 d cd152 (85, [(9, .int (nI m + -1)), (8, .int (nI (lfN N code (4 - m)))), (7, .int (nI code)), (5, .long mo), (4, .int so), (3, .int cs), (0, .ref 77), (1, .int (nI (n + 1))), (2, .int (nI j))], [], aHp r rr I J) P
  | 0, I, hm, hE, ha, h3 => by
    refine go_v (cd := cd152) [] 20 rfl ?_
    refine go_st (cd := cd152) 1 rfl (go_ifT (by decide) ?_)
    exact go_sb (K I hE (fun y hy => ha y hy (Nat.zero_le _)) h3) ⟨rfl, rfl, rfl, rfl, rfl, rfl, rfl, trivial⟩ rfl rfl rfl
  | m + 1, I, hm, hE, ha, h3 => by
    have h77 : I 77 0 + 1 = nI N := by rw [hE.1.2.2.1, hN, nI_succ]
    have hle := lfN_le (N := N) (c := code) (4 - (m + 1))
    have hn0 : ¬ nI N = 0 := nI_ne0 (by omega) (by omega)
    have hrm := Nat.mod_lt (lfN N code (4 - (m + 1))) (show 0 < N by omega)
    rw [nI_dec]
    refine go_v (cd := cd152) [] 20 rfl ?_
    refine go_st (cd := cd152) 1 rfl (go_ifF (nI_pos (by omega)) ?_)
    refine go_v (cd := cd152) [] 20 rfl ?_
    show aTo L xs fv 111 _ cd152 (107, _, [.int (I 77 0 + 1), .int (nI (lfN N code (4 - (m + 1)))), .int (40 + nI m), .ref 93], _) _
    rw [h77, show (40 : Int32) + nI m = nI (40 + m) from nI_add 40 m]
    refine go_irem (cd := cd152) rfl hn0 ?_
    rw [nI_rem (by omega) (by omega)]
    refine go_v (cd := cd152) [] 20 rfl ?_
    rw [dg_p]
    refine go_iast (cd := cd152) rfl (nI_vin (j := 40 + m) (n := 44) (by omega) (by decide)) (lv3 rfl) rfl ?_
    rw [nI_clamp (show 40 + m < 2 ^ 31 by omega), up2_1]
    have hE2 := lrI_93 (c := fun q => if q = 40 + m then dgI (lfN N code (4 - (m + 1)) % N) else I 93 q) hE (fun k hk => if_neg (by omega))
    have ha2 : ∀ y, y < 4 → m ≤ y → up1 I 93 (fun q => if q = 40 + m then dgI (lfN N code (4 - (m + 1)) % N) else I 93 q) 93 (40 + y) = dgI (roN N code y) := fun y hy hmy => by
      rw [up1_e]
      by_cases h : y = m
      · rw [if_pos (by omega), h]
        show _ = dgI (lfN N code (3 - m) % N)
        rw [show 4 - (m + 1) = 3 - m by omega]
      · rw [if_neg (by omega)]
        exact ha y hy (by omega)
    have h32 : up1 I 93 (fun q => if q = 40 + m then dgI (lfN N code (4 - (m + 1)) % N) else I 93 q) 103 = h103 := by rw [up1_ne (by decide)]; exact h3
    generalize up1 I 93 (fun q => if q = 40 + m then dgI (lfN N code (4 - (m + 1)) % N) else I 93 q) = I2 at hE2 ha2 h32 ⊢
    have ih := rl_dig hN hN7 hcode h103 K m I2 (by omega) hE2 ha2 h32
    have h772 : I2 77 0 + 1 = nI N := by rw [hE2.1.2.2.1, hN, nI_succ]
    refine go_v (cd := cd152) [] 20 rfl ?_
    show aTo L xs fv 111 _ cd152 (119, _, [.int (I2 77 0 + 1), .int (nI (lfN N code (4 - (m + 1))))], _) _
    rw [h772]
    refine go_idiv (cd := cd152) rfl hn0 ?_
    rw [nI_div (by omega) (by omega), show lfN N code (4 - (m + 1)) / N = lfN N code (4 - m) from by rw [show 4 - m = 4 - (m + 1) + 1 by omega]; rfl]
    refine go_v (cd := cd152) [85] 20 rfl ?_
    exact go_sb ih ⟨rfl, rfl, rfl, rfl, rfl, rfl, rfl, rfl, rfl, trivial⟩ rfl rfl rfl
set_option maxHeartbeats 4000000 in
theorem rl_cpy {n h w j code : Nat} {p : Nat → Nat} {now : Option Nat} {x : Int32} {I0 : Nat → Nat → Int32} {so : Int32} {mo : Int64} {cs : Int32}
    (K : ∀ I, lrI W F S h w now x I0 I → (∀ y, y < 4 → I 103 y = dgI (p y)) → aTo L xs fv 111 d cd152 (203, [(7, .int (nI code)), (5, .long mo), (4, .int so), (3, .int cs), (0, .ref 77), (1, .int (nI (n + 1))), (2, .int (nI j))], [], aHp r rr I J) P) :
    ∀ m k I, k + m = 4 → lrI W F S h w now x I0 I → (∀ y, y < 4 → I 93 (40 + y) = dgI (p y)) → (∀ y, y < k → I 103 y = dgI (p y)) → aTo L xs fv 111 d cd152 (174, [(9, .int (nI k)), (7, .int (nI code)), (5, .long mo), (4, .int so), (3, .int cs), (0, .ref 77), (1, .int (nI (n + 1))), (2, .int (nI j))], [], aHp r rr I J) P
  | 0, k, I, hk, hE, ha, hb => by
    have hk : k = 4 := hk
    rw [hk] at hb ⊢
    refine go_v (cd := cd152) [] 20 rfl ?_
    refine go_st (cd := cd152) 1 rfl (go_ifT (by decide) ?_)
    exact go_sb (K I hE hb) ⟨rfl, rfl, rfl, rfl, rfl, rfl, rfl, trivial⟩ rfl rfl rfl
  | m + 1, k, I, hk, hE, ha, hb => by
    refine go_v (cd := cd152) [] 20 rfl ?_
    refine go_st (cd := cd152) 1 rfl (go_ifF (nI_ge (b := 4) (by omega) (by decide)) ?_)
    refine go_v (cd := cd152) [] 20 rfl ?_
    show aTo L xs fv 111 _ cd152 (195, _, [.int (40 + nI k), .ref 93, .int (nI k), .ref 103], _) _
    rw [show (40 : Int32) + nI k = nI (40 + k) from nI_add 40 k]
    refine go_iald (cd := cd152) rfl (nI_vin (j := 40 + k) (n := 44) (by omega) (by decide)) (lv3 rfl) rfl ?_
    rw [nI_clamp (show 40 + k < 2 ^ 31 by omega), ha k (by omega)]
    refine go_iast (cd := cd152) rfl (nI_vin (j := k) (n := 4) (by omega) (by decide)) (lv3 rfl) rfl ?_
    rw [nI_clamp (show k < 2 ^ 31 by omega), up2_1]
    have hE2 := lrI_103 (c := fun q => if q = k then dgI (p k) else I 103 q) hE
    have ha2 : ∀ y, y < 4 → up1 I 103 (fun q => if q = k then dgI (p k) else I 103 q) 93 (40 + y) = dgI (p y) := fun y hy => by rw [up1_ne (by decide)]; exact ha y hy
    have hb2 : ∀ y, y < k + 1 → up1 I 103 (fun q => if q = k then dgI (p k) else I 103 q) 103 y = dgI (p y) := fun y hy => by
      rw [up1_e]
      by_cases h : y = k
      · rw [if_pos h, h]
      · rw [if_neg h]; exact hb y (by omega)
    generalize up1 I 103 (fun q => if q = k then dgI (p k) else I 103 q) = I2 at hE2 ha2 hb2 ⊢
    refine go_v (cd := cd152) [174] 20 rfl ?_
    exact go_sb (rl_cpy K m (k + 1) I2 (by omega) hE2 ha2 hb2) ⟨by rw [nI_succ k]; rfl, rfl, rfl, rfl, rfl, rfl, rfl, rfl, trivial⟩ rfl rfl rfl
end LQ
