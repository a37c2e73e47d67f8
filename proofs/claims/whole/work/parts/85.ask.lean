/-! one question for n hours: both sides -/
section QQ
variable {L : Nat} {xs : Nat → Int32} {fv : Value} {d : Nat} {r : Nat} {rr : Option Nat} {I : Nat → Nat → Int32} {J : Nat → Nat → Int64} {P : Option Value → aH → Prop}
variable {A : Nat → List Cl} {W : Wd} {F : Nat} {S : Sc} {R : Ru} {q : Nat}
theorem nb_of (hv : aInv r A I J) {k : Nat} (hk : k < r) : k < 10 := by
  have := hv.2.2.2.2.2.2.1.2.2.1
  omega
theorem in_of (hv : aInv r A I J) {w : Int32} (hw : ∃ k, k < r ∧ w = nI k) : 0 ≤ w ∧ w < nI r := by
  obtain ⟨k, hk, rfl⟩ := hw
  have := nb_of hv hk
  have h10 := hv.2.2.2.2.2.2.1.2.2.1
  exact ⟨nI_pos' (by omega), nI_lt hk (by omega)⟩
theorem rul_6 {R : Ru} {b : Nat} {s : Nat → Int32} (hb : isR r b) (hR : rul R b I) : rul R b (up1 I 6 s) := by
  have h : ∀ k, k < 3 → b + k ≠ 6 := fun k hk => by rcases hb with rfl | rfl | ⟨f, -, -, rfl⟩ <;> omega
  unfold rul at hR ⊢
  rw [up1_ne (show b ≠ 6 from h 0 (by decide)), up1_ne (h 1 (by decide)), up1_ne (h 2 (by decide))]
  exact hR
theorem cl_misHours {s : Int32} (k1 : (1 ≤ s ∧ s ≤ 4) → P (some (.int 1)) (aHp r rr I J)) (k0 : ¬ (1 ≤ s ∧ s ≤ 4) → P (some (.int 0)) (aHp r rr I J)) : aCl L xs fv 111 (d + 2) 144 [.ref 77, .int s] (aHp r rr I J) P := by
  refine cl_of rfl (Nat.le_add_right _ _) ?_
  refine go_v (cd := cd144) [] 9 rfl ?_
  refine go_callv (cd := cd144) rfl rfl rfl rfl rfl (lv3 rfl) rfl (cl_in (fun hq => ⟨rfl, ?_⟩) (fun hq => ⟨rfl, ?_⟩))
  · exact go_zreturn (cd := cd144) rfl (Or.inr rfl) (k1 hq)
  · exact go_zreturn (cd := cd144) rfl (Or.inl rfl) (k0 hq)
/-- the reference's goings, by the class's values -/
theorem cl_goR {n hr w : Nat} {now : Option Nat} {x : Int32} {due : Int} {r' h' n' f' d' : Int32} (hW : rwl W F I) (hS : rsc S I) (hR : rrl R q I) (hhr : I 77 6 = nI hr) (hr1 : hr ≤ 200) (hwd : I 77 5 = nI w) (hfol : ∀ a b, a < 4 → b < 4 → I 90 (4 * a + b) = nI (folA W.1 a b)) (hn3 : n ≤ 3) (hdue : -400 ≤ due ∧ due ≤ 400) (hw : w < 4) (hnow : ∀ u, now = some u → u < W.2.2.2) (hr' : r' = nI q) (hh' : h' = nI (n + 1)) (hn' : n' = oI now) (hf' : f' = x) (hd' : d' = iZ due)
    (k : ∀ I' J', fr I I' → (∀ j, j ≠ 77 → j ≠ 102 → J' j = J j) → J' 77 44 = lZ (1000 * VV W R S n hr now w (bt x)) → J' 77 45 = lZ (1000 * SV W R S n hr now w (bt x) due) → J' 77 46 = lZ (1000 * 1000 ^ n : Nat) → I' 77 47 = iZ (LV W R S n hr now w (bt x)) → P none (aHp r rr I' J')) : aCl L xs fv 111 (d + 8) 141 [.ref 77, .int r', .int h', .int n', .int f', .int d'] (aHp r rr I J) P := by
  refine cl_goAll (H := n + 1) hW hS hR hhr hr1 hwd hfol (by omega) (by omega) hdue hw hnow hr' hh' hn' hf' hd' (fun I' J' h1 h2 h3 h4 h5 h6 => k I' J' h1 h2 ?_ ?_ ?_ ?_)
  · rw [h3, RV_VV]
  · rw [h4, RS_SV _ _ _ _ _ _ hw]
  · rw [h5]; congr 1; rw [Int.pow_succ, Int.mul_comm, Int.natCast_mul, Int.natCast_pow]; rfl
  · rw [h6, RWo_LV]; congr 1
    have := LV_abs hW.1.2.1 R S n hr now w (bt x)
    unfold mnZ
    rw [if_pos (by omega)]
/-- the class looks ahead from the trial scene -/
theorem cl_aheadX {t n h w b : Nat} {now : Option Nat} {fit : Nat → Bool} {m : Int} {t' n' m' : Int32} {g c : Nat → Int32} (hW : wld A W I) (hb : isR r b) (hR : rul R b I) (hR5 : ∀ g, rul R b (up1 I 5 g)) (ht : t ≤ 2) (ht' : t' = nI t) (hn3 : n ≤ 3) (hh : h ≤ 200) (hm : -400 ≤ m ∧ m ≤ 400) (hn' : n' = nI (n + 1)) (hm' : m' = iZ m) (hS : scn W S h now w fit 5 (up1 I 5 g)) (hX : iX A (hpT I g c))
    (K : ∀ c, iX A (hpT I g c) → P (some (.long (lZ (AV t W R S n h now w fit m)))) (aHp r rr (hpT I g c) J)) : aCl L xs fv 111 (d + 8) 85 [.ref 0, .int t', .ref b, .int n', .int m'] (aHp r rr (hpT I g c) J) P := by
  rw [show d + 8 = d + (3 - n) + n + 5 by omega]
  exact cl_ahead ht ht' hW hb hR hR5 n h w now fit m n' m' g c P hn3 (by omega) (by omega) (by omega) hn' hm' hS hX K
theorem hours_ex {g : Int32} (h : 1 ≤ g ∧ g ≤ 4) : ∃ n, n ≤ 3 ∧ g = nI (n + 1) := by
  obtain ⟨j, hj, rfl, hc⟩ := nI_ex (s := g) (n := 5) 5 rfl (by grind) (by grind)
  have h1 : 1 ≤ j := (nI_leI (a := 1) (by decide) (by omega)).mp h.1
  exact ⟨j - 1, by omega, by rw [Nat.sub_add_cancel h1]⟩
theorem part_ex {p : Int32} (h : p = 0 ∨ p = 1) : ∃ q, q < 2 ∧ p = nI q := by
  rcases h with rfl | rfl
  · exact ⟨0, by decide, rfl⟩
  · exact ⟨1, by decide, rfl⟩
theorem odds_of {xs : Nat → Int32} {n : Nat} (hn : n ≤ 3) : vp_in (nI (n + 1)) (akd L 1002).2 ∧ (aZ0 xs).2 1002 (nI (n + 1)).toNatClampNeg = lZ (1000 ^ n : Nat) := by
  refine ⟨nI_vin (n := 5) (by omega) (by decide), ?_⟩
  have h4 : n = 0 ∨ n = 1 ∨ n = 2 ∨ n = 3 := by omega
  rcases h4 with rfl | rfl | rfl | rfl
  · exact (azW1).trans (by decide +kernel)
  · exact (azW2).trans (by decide +kernel)
  · exact (azW3).trans (by decide +kernel)
  · exact (azW4).trans (by decide +kernel)
/-- behind asIs: what the goings want -/
theorem as_fol (hv : aInv r A I J) {c : Nat → Int32} (hc : ∀ a b, a < 4 → b < 4 → c (4 * a + b) = nI (folA (hol A I) a b)) : ∀ a b, a < 4 → b < 4 → asH I c 90 (4 * a + b) = nI (folA (wdI A I).1 a b) := fun a b ha hb => by
  show up1 _ 90 c 90 _ = _
  rw [up1_e]; exact hc a b ha hb
theorem gd_done {c : Nat → Int32} {I' : Nat → Nat → Int32} {J' : Nat → Nat → Int64} (hv : aInv r A I J) (hf : fr (asH I c) I') (hJ : ∀ j, j ≠ 77 → j ≠ 102 → J' j = J j) : aIn (aHp r rr I' J') := aIn_of (inv_rel hv (relI_fr as_rel hf) (fun j hj => hJ j (by omega) (by omega)) (iX_c (I := I) (hf.2 0 (by decide)) (hf.2 11 (by decide)) (hf.1 19 (by decide) (by decide) (by decide)) (hf.1 78 (by decide) (by decide) (by decide)) hv.2.2.2.2.2.2.2.2.2.2.2.2)) rr
theorem tr_inv {s g c : Nat → Int32} (hv : aInv r A I J) (hX : iX A (hpT (up1 I 6 s) g c)) : aInv r A (hpT (up1 I 6 s) g c) J := inv_rel hv (relI_up1 (relI_up1 (relI_up1 relI_refl (by omega)) (by omega)) (by omega)) (fun _ _ => rfl) hX
theorem iX_tr (hv : aInv r A I J) {s g : Nat → Int32} : iX A (hpT (up1 I 6 s) g (I 19)) := iX_c (I := I) rfl rfl (by unfold hpT; rw [up1_e]) rfl hv.2.2.2.2.2.2.2.2.2.2.2.2
end QQ
