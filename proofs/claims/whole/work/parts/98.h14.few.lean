/-! few: both loops -/
theorem lgZ3 {a b : Int} (h1 : -4000000000000000 ≤ a) (h2 : a ≤ 4000000000000000) (h3 : -4000000000000000 ≤ b) (h4 : b ≤ 4000000000000000) : (0 < lg_cmp (lZ a) (lZ b) ↔ b < a) ∧ (lg_cmp (lZ a) (lZ b) = 0 ↔ a = b) ∧ (lg_cmp (lZ a) (lZ b) < 0 ↔ a < b) := by
  unfold lg_cmp
  have e1 : (lZ a > lZ b) ↔ b < a := by rw [gt_iff_lt, lZ_lt h3 h4 h1 h2]
  have e2 : (lZ a = lZ b) ↔ a = b := lZ_inj h1 h2 h3 h4
  by_cases ha : b < a
  · rw [if_pos (e1.mpr ha)]
    exact ⟨⟨fun _ => ha, fun _ => by decide⟩, ⟨fun h => absurd h (by decide), fun h => by omega⟩, ⟨fun h => absurd h (by decide), fun h => by omega⟩⟩
  · rw [if_neg (fun h => ha (e1.mp h))]
    by_cases hb : a = b
    · rw [if_pos (e2.mpr hb)]
      exact ⟨⟨fun h => absurd h (by decide), fun h => absurd h ha⟩, ⟨fun _ => hb, fun _ => rfl⟩, ⟨fun h => absurd h (by decide), fun h => by omega⟩⟩
    · rw [if_neg (fun h => hb (e2.mp h))]
      exact ⟨⟨fun h => absurd h (by decide), fun h => absurd h ha⟩, ⟨fun h => absurd h (by decide), fun h => absurd h hb⟩, ⟨fun _ => by omega, fun _ => by decide⟩⟩
def upB (now : Option Nat) (B : Nat) : Option Nat := match now with
  | none => none
  | some u => if bt (nI B) u = true then some u else none
def feN (o : Option (Nat × Int)) : Nat := match o with | none => 0 | some q => q.1
def feM (o : Option (Nat × Int)) : Int := match o with | none => 0 | some q => q.2
def feB (o : Option (Nat × Int)) : Int32 := match o with | none => -1 | some q => nI q.1
def okS (U k B : Nat) : Bool := decide (B &&& U = B) && decide (pcN B ≤ k)
theorem few_no {f : Nat → Int} {pc : Nat → Nat} {ok : Nat → Bool} {B : Nat} (h : ok B = false) : fewW f pc ok (B + 1) = fewW f pc ok B := by
  show (match fewW f pc ok B with | none => if ok B = true then some (B, f B) else none | some q => if ok B = true ∧ (q.2 < f B ∨ (f B = q.2 ∧ pc B < pc q.1)) then some (B, f B) else some q) = _
  rw [h]
  cases fewW f pc ok B with
  | none => rfl
  | some q => dsimp only; rw [if_neg (fun h => by cases h.1)]
theorem few_take {f : Nat → Int} {pc : Nat → Nat} {ok : Nat → Bool} {B : Nat} (h : ok B = true) (hq : ∀ q, fewW f pc ok B = some q → (q.2 < f B ∨ (f B = q.2 ∧ pc B < pc q.1))) : fewW f pc ok (B + 1) = some (B, f B) := by
  show (match fewW f pc ok B with | none => if ok B = true then some (B, f B) else none | some q => if ok B = true ∧ (q.2 < f B ∨ (f B = q.2 ∧ pc B < pc q.1)) then some (B, f B) else some q) = _
  cases hf : fewW f pc ok B with
  | none => dsimp only; rw [if_pos h]
  | some q => dsimp only; rw [if_pos ⟨h, hq q hf⟩]
theorem few_skip {f : Nat → Int} {pc : Nat → Nat} {ok : Nat → Bool} {B : Nat} {q : Nat × Int} (hf : fewW f pc ok B = some q) (hq : ¬ (q.2 < f B ∨ (f B = q.2 ∧ pc B < pc q.1))) : fewW f pc ok (B + 1) = some q := by
  show (match fewW f pc ok B with | none => if ok B = true then some (B, f B) else none | some q => if ok B = true ∧ (q.2 < f B ∨ (f B = q.2 ∧ pc B < pc q.1)) then some (B, f B) else some q) = _
  rw [hf]
  dsimp only
  rw [if_neg (fun h => hq h.2)]
theorem fe_abs {f : Nat → Int} {pc : Nat → Nat} {ok : Nat → Bool} (hf : ∀ v, -1000000000000 ≤ f v ∧ f v ≤ 1000000000000) (N : Nat) : -1000000000000 ≤ feM (fewW f pc ok N) ∧ feM (fewW f pc ok N) ≤ 1000000000000 := by
  cases h : fewW f pc ok N with
  | none => exact ⟨by show (-1000000000000 : Int) ≤ 0; decide, by show (0 : Int) ≤ 1000000000000; decide⟩
  | some q =>
    show -1000000000000 ≤ q.2 ∧ q.2 ≤ 1000000000000
    rw [(few_le N q h).2]
    exact hf _
theorem okS_f {U k B : Nat} (h : ¬ B &&& U = B ∨ ¬ pcN B ≤ k) : okS U k B = false := by
  unfold okS
  rcases h with h | h
  · rw [decide_eq_false h]; rfl
  · rw [decide_eq_false h, Bool.and_false]
theorem okS_t {U k B : Nat} (h : B &&& U = B) (h2 : pcN B ≤ k) : okS U k B = true := by
  unfold okS
  rw [decide_eq_true h, decide_eq_true h2]; rfl
section FL
variable {L : Nat} {xs : Nat → Int32} {fv : Value} {d : Nat} {r : Nat} {rr : Option Nat} {I : Nat → Nat → Int32} {J : Nat → Nat → Int64} {P : Option Value → aH → Prop}
variable {A : Nat → List Cl} {W : Wd} {F : Nat} {R : Ru}
def gok (W : Wd) (m h w : Nat) (fit : Nat → Bool) (g : Nat → Int32) : Prop := g 1 = nI w ∧ g 2 = nI h ∧ g 4 = nI m ∧ g 5 = nI W.2.2.2 ∧ bt (g 6) = fit
theorem gok_s {m h w B : Nat} {fit : Nat → Bool} {g : Nat → Int32} {z : Int32} (hg : gok W m h w fit g) : gok W m h w fit (fun q => if q = 0 then z else if q = 7 then nI B else g q) := hg
set_option maxHeartbeats 4000000 in
theorem few_cl {n h w U k m b : Nat} {now : Option Nat} {fit : Nat → Bool} {f : Nat → Int} (hfd : ∀ B, f B = VV W R (bt (nI B), m) n h (upB now B) w fit) (hf : ∀ v, -1000000000000 ≤ f v ∧ f v ≤ 1000000000000) (hW : wld A W I) (hb : isR r b) (hR : rul R b I) (hR5 : ∀ g, rul R b (up1 I 5 g)) (hn3 : n ≤ 3) (hh : h ≤ 200) (hw4 : w < 4) (hm9 : m ≤ 9) (hU : U < 64) (hk6 : k ≤ 6) (hI1 : I 1 0 = oI now) (hnow : ∀ u, now = some u → u < W.2.2.2)
    (K : ∀ g c, iX A (hpT I g c) → P (some (.int (nI (feN (fewW f pcN (okS U k) (U + 1)))))) (aHp r rr (hpT I g c) J)) : ∀ j B g c, B + j = U + 1 → gok W m h w fit g → iX A (hpT I g c) → aTo L xs fv 111 (d + 8) cd48 (63, [(9, .int (nI B)), (7, .long (lZ (feM (fewW f pcN (okS U k) B)))), (6, .int (nI (feN (fewW f pcN (okS U k) B)))), (5, .int (nI U)), (4, .ref b), (0, .ref 0), (2, .int (nI k)), (3, .int (nI (n + 1)))], [], aHp r rr (hpT I g c) J) P
  | 0, B, g, c, hB, hg, hX => by
    have hB : B = U + 1 := hB
    subst hB
    refine go_v (cd := cd48) [] 20 rfl ?_
    refine go_st (cd := cd48) 1 rfl (go_ifT (nI_lt (Nat.lt_succ_self _) (by omega)) ?_)
    refine go_v (cd := cd48) [] 20 rfl ?_
    exact go_ireturn (cd := cd48) rfl (K g c hX)
  | j + 1, B, g, c, hB, hg, hX => by
    have ih := fun g c => few_cl hfd hf hW hb hR hR5 hn3 hh hw4 hm9 hU hk6 hI1 hnow K j (B + 1) g c (by omega)
    have hB64 : B < 64 := by omega
    have hc6 := hW.1
    refine go_v (cd := cd48) [] 20 rfl ?_
    refine go_st (cd := cd48) 1 rfl (go_ifF (nI_nlt (a := U) (b := B) (by omega) (by omega)) ?_)
    refine go_v (cd := cd48) [] 20 rfl ?_
    have h199 : ∀ g c, gok W m h w fit g → iX A (hpT I g c) → fewW f pcN (okS U k) (B + 1) = fewW f pcN (okS U k) B → aTo L xs fv 111 (d + 8) cd48 (199, [(9, .int (nI B)), (7, .long (lZ (feM (fewW f pcN (okS U k) B)))), (6, .int (nI (feN (fewW f pcN (okS U k) B)))), (5, .int (nI U)), (4, .ref b), (0, .ref 0), (2, .int (nI k)), (3, .int (nI (n + 1)))], [], aHp r rr (hpT I g c) J) P := fun g c hg hX e => by
      have ih := ih g c hg hX
      rw [e] at ih
      refine go_v (cd := cd48) [63] 20 rfl ?_
      exact go_sb ih ⟨by rw [nI_succ B]; rfl, rfl, rfl, rfl, rfl, rfl, rfl, rfl, trivial⟩ rfl rfl rfl
    by_cases hsub : B &&& U = B
    case neg => exact go_st (cd := cd48) 1 rfl (go_ifF (fun h => hsub ((st_sub hB64 hU).mp h)) (h199 g c hg hX (few_no (okS_f (Or.inl hsub)))))
    refine go_st (cd := cd48) 1 rfl (go_ifT ((st_sub hB64 hU).mpr hsub) ?_)
    refine go_v (cd := cd48) [] 20 rfl ?_
    refine go_calls (cd := cd48) rfl rfl rfl rfl rfl (cl_bitc (d := d + 7) hB64 ⟨rfl, ?_⟩)
    refine go_v (cd := cd48) [] 20 rfl ?_
    have h6 := st_pc6 hB64
    by_cases hpk : pcN B ≤ k
    case neg =>
      refine go_st (cd := cd48) 1 rfl (go_ifF (fun h => hpk ((nI_leI (by omega) (by omega)).mp h)) ?_)
      refine go_v (cd := cd48) [199] 20 rfl ?_
      exact h199 g c hg hX (few_no (okS_f (Or.inr hpk)))
    refine go_st (cd := cd48) 1 rfl (go_ifT (nI_le hpk (by omega)) ?_)
    have hok : okS U k B = true := okS_t hsub hpk
    refine go_v (cd := cd48) [101] 20 rfl ?_
    rw [hp_put]
    have hg2 : gok W m h w fit (fun q => if q = 0 then oI (upB now B) else if q = 7 then nI B else g q) := hg
    have hS2 : scn W (bt (nI B), m) h (upB now B) w fit 5 (up1 I 5 (fun q => if q = 0 then oI (upB now B) else if q = 7 then nI B else g q)) := by
      obtain ⟨g1, g2, g4, g5, g6⟩ := hg2
      unfold scn
      rw [up1_e]
      refine ⟨rfl, g1, g2, g4, g5, g6, rfl, hw4, by omega, hm9, fun u hu => ?_⟩
      unfold upB at hu
      cases now with
      | none => cases hu
      | some z =>
        dsimp only at hu
        split at hu
        · cases hu; exact hnow _ rfl
        · cases hu
    have h146 : aTo L xs fv 111 (d + 8) cd48 (146, [(9, .int (nI B)), (7, .long (lZ (feM (fewW f pcN (okS U k) B)))), (6, .int (nI (feN (fewW f pcN (okS U k) B)))), (5, .int (nI U)), (4, .ref b), (0, .ref 0), (2, .int (nI k)), (3, .int (nI (n + 1)))], [], aHp r rr (hpT I (fun q => if q = 0 then oI (upB now B) else if q = 7 then nI B else g q) c) J) P := by
      generalize (fun q => if q = 0 then oI (upB now B) else if q = 7 then nI B else g q) = g2 at hg2 hS2 ⊢
      refine go_v (cd := cd48) [] 20 rfl ?_
      refine go_callv (cd := cd48) rfl rfl rfl rfl rfl (lv3 rfl) rfl (cl_aheadX (R := R) (t := 0) (n := n) (m := 0) hW hb hR hR5 (by decide) rfl hn3 hh (by omega) rfl rfl hS2 (iX_5 hX) (fun c' hX' => ⟨rfl, ?_⟩))
      have hav : AV 0 W R (bt (nI B), m) n h (upB now B) w fit 0 = f B := (hfd B).symm
      rw [hav]
      have hfv := hf B
      have hev := fe_abs (pc := pcN) (ok := okS U k) hf B
      have h191 : (∀ q, fewW f pcN (okS U k) B = some q → (q.2 < f B ∨ (f B = q.2 ∧ pcN B < pcN q.1))) → aTo L xs fv 111 (d + 8) cd48 (191, [(10, .long (lZ (f B))), (9, .int (nI B)), (7, .long (lZ (feM (fewW f pcN (okS U k) B)))), (6, .int (nI (feN (fewW f pcN (okS U k) B)))), (5, .int (nI U)), (4, .ref b), (0, .ref 0), (2, .int (nI k)), (3, .int (nI (n + 1)))], [], aHp r rr (hpT I g2 c') J) P := fun ht => by
        have ih := ih g2 c' hg2 hX'
        rw [few_take hok ht] at ih
        refine go_v (cd := cd48) [63] 20 rfl ?_
        exact go_sb ih ⟨by rw [nI_succ B]; rfl, rfl, rfl, rfl, rfl, rfl, rfl, rfl, trivial⟩ rfl rfl rfl
      refine go_v (cd := cd48) [] 20 rfl ?_
      by_cases hB0 : B = 0
      · refine go_st (cd := cd48) 1 rfl (go_ifT (by rw [hB0]; decide) ?_)
        refine go_sb (h191 (fun q hq => ?_)) ⟨rfl, rfl, rfl, rfl, rfl, rfl, rfl, rfl, rfl, trivial⟩ rfl rfl rfl
        rw [hB0] at hq; cases hq
      refine go_st (cd := cd48) 1 rfl (go_ifF (fun h => hB0 ((nI_eq (b := 0) (by omega) (by decide)).mp h)) ?_)
      refine go_v (cd := cd48) [] 20 rfl ?_
      obtain ⟨q, hq⟩ := few_some (f := f) (pc := pcN) (ok := okS U k) (N := B) (by unfold okS; rw [Nat.zero_and]; rfl) (by omega)
      have hM : feM (fewW f pcN (okS U k) B) = q.2 := by rw [hq]; rfl
      have hN : feN (fewW f pcN (okS U k) B) = q.1 := by rw [hq]; rfl
      have hqB : q.1 < B := (few_le B q hq).1
      obtain ⟨l1, l2, l3⟩ := lgZ3 (a := f B) (b := feM (fewW f pcN (okS U k) B)) (by omega) (by omega) (by omega) (by omega)
      by_cases hgt : q.2 < f B
      · refine go_st (cd := cd48) 1 rfl (go_ifT (l1.mpr (by rw [hM]; exact hgt)) ?_)
        exact go_sb (h191 (fun q' hq' => by rw [hq] at hq'; cases hq'; exact Or.inl hgt)) ⟨rfl, rfl, rfl, rfl, rfl, rfl, rfl, rfl, rfl, trivial⟩ rfl rfl rfl
      refine go_st (cd := cd48) 1 rfl (go_ifF (fun h => hgt (by rw [← hM]; exact l1.mp h)) ?_)
      refine go_v (cd := cd48) [] 20 rfl ?_
      by_cases heq : f B = q.2
      case neg =>
        refine go_st (cd := cd48) 1 rfl (go_ifF (fun h => heq (by rw [← hM]; exact l2.mp h)) ?_)
        exact go_sb (h199 g2 c' hg2 hX' (by rw [few_skip hq (by omega), hq])) ⟨rfl, rfl, rfl, rfl, rfl, rfl, rfl, rfl, trivial⟩ rfl rfl rfl
      refine go_st (cd := cd48) 1 rfl (go_ifT (l2.mpr (by rw [hM]; exact heq)) ?_)
      refine go_v (cd := cd48) [] 20 rfl ?_
      refine go_calls (cd := cd48) rfl rfl rfl rfl rfl (cl_bitc (d := d + 7) hB64 ⟨rfl, ?_⟩)
      refine go_v (cd := cd48) [] 20 rfl ?_
      refine go_calls (cd := cd48) rfl rfl rfl rfl rfl (cl_bitc (d := d + 7) (B := feN (fewW f pcN (okS U k) B)) (by rw [hN]; omega) ⟨rfl, ?_⟩)
      have h62 := st_pc6 (B := q.1) (by omega)
      by_cases hpc : pcN B < pcN q.1
      · refine go_st (cd := cd48) 1 rfl (go_ifF (by rw [hN]; exact nI_ge hpc (by omega)) ?_)
        exact go_sb (h191 (fun q' hq' => by rw [hq] at hq'; cases hq'; exact Or.inr ⟨heq, hpc⟩)) ⟨rfl, rfl, rfl, rfl, rfl, rfl, rfl, rfl, rfl, trivial⟩ rfl rfl rfl
      · refine go_st (cd := cd48) 1 rfl (go_ifT (by rw [hN]; exact nI_le (by omega) (by omega)) ?_)
        exact go_sb (h199 g2 c' hg2 hX' (by rw [few_skip hq (by omega), hq])) ⟨rfl, rfl, rfl, rfl, rfl, rfl, rfl, rfl, trivial⟩ rfl rfl rfl
    have h142 : upB now B = none → aTo L xs fv 111 (d + 8) cd48 (142, [(9, .int (nI B)), (7, .long (lZ (feM (fewW f pcN (okS U k) B)))), (6, .int (nI (feN (fewW f pcN (okS U k) B)))), (5, .int (nI U)), (4, .ref b), (0, .ref 0), (2, .int (nI k)), (3, .int (nI (n + 1)))], [.ref 5], aHp r rr (hpT I (fun q => if q = 7 then nI B else g q) c) J) P := fun hu => by
      rw [hu] at h146
      refine go_v (cd := cd48) [146] 20 rfl ?_
      rw [hp_put]
      exact h146
    refine go_v (cd := cd48) [] 20 rfl ?_
    cases now with
    | none =>
      refine go_st (cd := cd48) 1 rfl (go_ifT (show I 1 0 = -1 from hI1) ?_)
      exact h142 rfl
    | some u =>
      have hu6 : u < 6 := by have := hnow u rfl; omega
      have hI1 : I 1 0 = nI u := hI1
      refine go_st (cd := cd48) 1 rfl (go_ifF (show ¬ I 1 0 = -1 from by rw [hI1]; intro h; have h0 : (0 : Int32) ≤ nI u := nI_pos' (by omega); rw [h] at h0; exact absurd h0 (by decide)) ?_)
      refine go_v (cd := cd48) [] 20 rfl ?_
      have hbt := (bt_at (s := nI u) (nI_pos' (by omega)) (nI_lt (b := 6) hu6 (by decide)) (nI B)).1
      rw [nI_clamp (show u < 2 ^ 31 by omega)] at hbt
      by_cases hbu : bt (nI B) u = true
      · refine go_st (cd := cd48) 1 rfl (go_ifT (show (nI B >>> (I 1 0 &&& 31)) &&& 1 = 1 by rw [hI1]; exact hbt.mpr hbu) ?_)
        have hup : upB (some u) B = some u := if_pos hbu
        rw [hup] at h146
        refine go_v (cd := cd48) [146] 20 rfl ?_
        rw [hp_put]
        have e : (hpT I (fun q => if q = 0 then I 1 0 else if q = 7 then nI B else g q) c) = (hpT I (fun q => if q = 0 then oI (some u) else if q = 7 then nI B else g q) c) := by rw [hI1]; rfl
        show aTo L xs fv 111 _ cd48 (146, _, [], aHp r rr (hpT I (fun q => if q = 0 then I 1 0 else if q = 7 then nI B else g q) c) J) _
        rw [e]
        exact h146
      · refine go_st (cd := cd48) 1 rfl (go_ifF (show ¬ (nI B >>> (I 1 0 &&& 31)) &&& 1 = 1 by rw [hI1]; exact fun h => hbu (hbt.mp h)) ?_)
        exact h142 (if_neg hbu)
/-- the reference's side while it goes through sets -/
def fwI (W : Wd) (F m h w q : Nat) (R : Ru) (now : Option Nat) (x ab : Int32) (I0 I : Nat → Nat → Int32) : Prop := rwl W F I ∧ I 77 35 = nI m ∧ rrl R q I ∧ I 77 6 = nI h ∧ I 77 5 = nI w ∧ I 77 4 = oI now ∧ I 77 1 = x ∧ I 77 2 = ab ∧ (∀ a b, a < 4 → b < 4 → I 90 (4 * a + b) = nI (folA W.1 a b)) ∧ relI I0 I ∧ I 77 0 = I0 77 0 ∧ I 77 11 = I0 77 11 ∧ I 19 = I0 19 ∧ I 78 = I0 78
theorem fwI_34 {h w m q : Nat} {now : Option Nat} {x ab v : Int32} {I0 : Nat → Nat → Int32} (hE : fwI W F m h w q R now x ab I0 I) : fwI W F m h w q R now x ab I0 (up2 I 77 34 v) := by
  obtain ⟨e1, e2, e3, e4, e5, e6, e7, e8, e9, eA, eB, eC, eD, eE⟩ := hE
  exact ⟨rwl_s e1 (Or.inl rfl), by rw [up2_42 (by decide)]; exact e2, rrl_s e3, by rw [up2_42 (by decide)]; exact e4, by rw [up2_42 (by decide)]; exact e5, by rw [up2_42 (by decide)]; exact e6, by rw [up2_42 (by decide)]; exact e7, by rw [up2_42 (by decide)]; exact e8, fun a b ha hb => by rw [up2_ne (by decide)]; exact e9 a b ha hb, relI_77 eA (by omega), by rw [up2_42 (by decide)]; exact eB, by rw [up2_42 (by decide)]; exact eC, by rw [up2_ne (by decide)]; exact eD, by rw [up2_ne (by decide)]; exact eE⟩
theorem fwI_fr {h w m q : Nat} {now : Option Nat} {x ab : Int32} {I0 I' : Nat → Nat → Int32} (hE : fwI W F m h w q R now x ab I0 I) (hf : fr I I') : fwI W F m h w q R now x ab I0 I' := by
  obtain ⟨e1, e2, e3, e4, e5, e6, e7, e8, e9, eA, eB, eC, eD, eE⟩ := hE
  refine ⟨rwl_fr hf e1, ?_, rrl_fr hf e3, ?_, ?_, ?_, ?_, ?_, fun a b ha hb => ?_, relI_fr eA hf, ?_, ?_, ?_, ?_⟩
  · rw [hf.2 35 (by decide)]; exact e2
  · rw [hf.2 6 (by decide)]; exact e4
  · rw [hf.2 5 (by decide)]; exact e5
  · rw [hf.2 4 (by decide)]; exact e6
  · rw [hf.2 1 (by decide)]; exact e7
  · rw [hf.2 2 (by decide)]; exact e8
  · rw [hf.1 90 (by decide) (by decide) (by decide)]; exact e9 a b ha hb
  · rw [hf.2 0 (by decide)]; exact eB
  · rw [hf.2 11 (by decide)]; exact eC
  · rw [hf.1 19 (by decide) (by decide) (by decide)]; exact eD
  · rw [hf.1 78 (by decide) (by decide) (by decide)]; exact eE
set_option maxHeartbeats 4000000 in
theorem few_rf {n h w k m q : Nat} {now : Option Nat} {x ab : Int32} {I0 : Nat → Nat → Int32} {J0 : Nat → Nat → Int64} {f : Nat → Int} (hfd : ∀ B, f B = VV W R (bt (nI B), m) n h (upB now B) w (bt x)) (hf : ∀ v, -1000000000000 ≤ f v ∧ f v ≤ 1000000000000) (hn3 : n ≤ 3) (hh : h ≤ 200) (hw : w < 4) (hm9 : m ≤ 9) (hk6 : k ≤ 6) (hnow : ∀ u, now = some u → u < W.2.2.2) (hcnt : W.2.2.2 ≤ 6)
    (K : ∀ I J, fwI W F m h w q R now x ab I0 I → (∀ j, j ≠ 77 → j ≠ 102 → J j = J0 j) → P (some (.int (feB (fewW f pcN (okS (uN (bt ab) 6) k) (2 ^ W.2.2.2))))) (aHp r rr I J)) : ∀ j B I J, B + j = 2 ^ W.2.2.2 → fwI W F m h w q R now x ab I0 I → (∀ j, j ≠ 77 → j ≠ 102 → J j = J0 j) → aTo L xs fv 111 (d + 8) cd149 (47, [(7, .int (nI B)), (5, .long (lZ (1000 * feM (fewW f pcN (okS (uN (bt ab) 6) k) B)))), (4, .int (feB (fewW f pcN (okS (uN (bt ab) 6) k) B))), (0, .ref 77), (1, .int (nI q)), (2, .int (nI k)), (3, .int (nI (n + 1)))], [], aHp r rr I J) P
  | 0, B, I, J, hB, hE, hJ => by
    have hB : B = 2 ^ W.2.2.2 := hB
    subst hB
    have h64 : 2 ^ W.2.2.2 ≤ 64 := (Nat.pow_le_pow_right (show 2 > 0 by decide) hcnt : 2 ^ W.2.2.2 ≤ 2 ^ 6)
    refine go_v (cd := cd149) [] 20 rfl ?_
    refine go_st (cd := cd149) 1 rfl (go_ifT (show (1 : Int32) <<< (I 77 0 &&& 31) ≤ nI (2 ^ W.2.2.2) by rw [hE.1.2.2.1, st_shl hcnt]; exact nI_le (Nat.le_refl _) (by omega)) ?_)
    refine go_v (cd := cd149) [] 20 rfl ?_
    exact go_ireturn (cd := cd149) rfl (K I J hE hJ)
  | j + 1, B, I, J, hB, hE, hJ => by
    have ih := fun I J => few_rf hfd hf hn3 hh hw hm9 hk6 hnow hcnt K j (B + 1) I J (by omega)
    have h64 : 2 ^ W.2.2.2 ≤ 64 := (Nat.pow_le_pow_right (show 2 > 0 by decide) hcnt : 2 ^ W.2.2.2 ≤ 2 ^ 6)
    have hB64 : B < 64 := by omega
    generalize hok0 : okS (uN (bt ab) 6) k = ok at *
    refine go_v (cd := cd149) [] 20 rfl ?_
    refine go_st (cd := cd149) 1 rfl (go_ifF (show ¬ (1 : Int32) <<< (I 77 0 &&& 31) ≤ nI B by rw [hE.1.2.2.1, st_shl hcnt]; exact nI_ge (by omega) (by omega)) ?_)
    refine go_v (cd := cd149) [] 20 rfl ?_
    have h181 : ∀ I J, fwI W F m h w q R now x ab I0 I → (∀ j, j ≠ 77 → j ≠ 102 → J j = J0 j) → fewW f pcN ok (B + 1) = fewW f pcN ok B → aTo L xs fv 111 (d + 8) cd149 (181, [(7, .int (nI B)), (5, .long (lZ (1000 * feM (fewW f pcN ok B)))), (4, .int (feB (fewW f pcN ok B))), (0, .ref 77), (1, .int (nI q)), (2, .int (nI k)), (3, .int (nI (n + 1)))], [], aHp r rr I J) P := fun I J hE hJ e => by
      have ih := ih I J hE hJ
      rw [e] at ih
      refine go_v (cd := cd149) [47] 20 rfl ?_
      exact go_sb ih ⟨by rw [nI_succ B]; rfl, rfl, rfl, rfl, rfl, rfl, rfl, trivial⟩ rfl rfl rfl
    by_cases hsub : B &&& uN (bt ab) 6 = B
    case neg => exact go_st (cd := cd149) 1 rfl (go_ifF (show ¬ nI B &&& (I 77 2 ^^^ -1) = 0 by rw [hE.2.2.2.2.2.2.2.1]; exact fun h => hsub ((st_any hB64 ab).mp h)) (h181 I J hE hJ (few_no (by rw [← hok0]; exact okS_f (Or.inl hsub)))))
    refine go_st (cd := cd149) 1 rfl (go_ifT (show nI B &&& (I 77 2 ^^^ -1) = 0 by rw [hE.2.2.2.2.2.2.2.1]; exact (st_any hB64 ab).mpr hsub) ?_)
    refine go_v (cd := cd149) [] 20 rfl ?_
    refine go_callv (cd := cd149) rfl rfl rfl rfl rfl (lv3 rfl) rfl (rf_ones (d := d + 7) hB64 ⟨rfl, ?_⟩)
    refine go_v (cd := cd149) [] 20 rfl ?_
    have h6 := st_pc6 hB64
    by_cases hpk : pcN B ≤ k
    case neg =>
      refine go_st (cd := cd149) 1 rfl (go_ifF (fun h => hpk ((nI_leI (by omega) (by omega)).mp h)) ?_)
      refine go_v (cd := cd149) [181] 20 rfl ?_
      exact h181 I J hE hJ (few_no (by rw [← hok0]; exact okS_f (Or.inr hpk)))
    refine go_st (cd := cd149) 1 rfl (go_ifT (nI_le hpk (by omega)) ?_)
    have hok : ok B = true := by rw [← hok0]; exact okS_t hsub hpk
    refine go_v (cd := cd149) [89] 20 rfl ?_
    have hE1 : fwI W F m h w q R now x ab I0 (up2 I 77 34 (nI B)) := fwI_34 hE
    have h34 : up2 I 77 34 (nI B) 77 34 = nI B := up2_e
    show aTo L xs fv 111 _ cd149 (89, _, [], aHp r rr (up2 I 77 34 (nI B)) J) _
    generalize up2 I 77 34 (nI B) = I1 at *
    have hsc : rsc (bt (nI B), m) I1 := ⟨by rw [h34], hE1.2.1, hm9⟩
    have h4 : I1 77 4 = oI now := hE1.2.2.2.2.2.1
    have hupl : ∀ u, upB now B = some u → u < W.2.2.2 := fun u hu => by
      unfold upB at hu
      cases now with
      | none => cases hu
      | some z =>
        dsimp only at hu
        split at hu
        · cases hu; exact hnow _ rfl
        · cases hu
    have h120 : aTo L xs fv 111 (d + 8) cd149 (120, [(7, .int (nI B)), (5, .long (lZ (1000 * feM (fewW f pcN ok B)))), (4, .int (feB (fewW f pcN ok B))), (0, .ref 77), (1, .int (nI q)), (2, .int (nI k)), (3, .int (nI (n + 1)))], [.int (oI (upB now B)), .int (nI (n + 1)), .int (nI q), .ref 77], aHp r rr I1 J) P := by
      refine go_v (cd := cd149) [] 20 rfl ?_
      obtain ⟨e1, e2, e3, e4, e5, e6, e7, e8, e9, eA⟩ := hE1
      refine go_callv (cd := cd149) rfl rfl rfl rfl rfl (lv3 rfl) rfl (cl_goR (n := n) (due := 0) (x := x) e1 hsc e3 e4 hh e5 e9 hn3 (by omega) hw hupl rfl rfl rfl e7 rfl (fun I3 J3 hf3 hJ3 k44 k45 k46 k47 => ⟨rfl, ?_⟩))
      have hE3 : fwI W F m h w q R now x ab I0 I3 := fwI_fr ⟨e1, e2, e3, e4, e5, e6, e7, e8, e9, eA⟩ hf3
      have hJ4 : ∀ j, j ≠ 77 → j ≠ 102 → J3 j = J0 j := fun j a b => (hJ3 j a b).trans (hJ j a b)
      have k44' : J3 77 44 = lZ (1000 * f B) := by rw [hfd B]; exact k44
      have hfv := hf B
      have hev := fe_abs (pc := pcN) (ok := ok) hf B
      have h171 : (∀ q, fewW f pcN ok B = some q → (q.2 < f B ∨ (f B = q.2 ∧ pcN B < pcN q.1))) → aTo L xs fv 111 (d + 8) cd149 (171, [(7, .int (nI B)), (5, .long (lZ (1000 * feM (fewW f pcN ok B)))), (4, .int (feB (fewW f pcN ok B))), (0, .ref 77), (1, .int (nI q)), (2, .int (nI k)), (3, .int (nI (n + 1)))], [], aHp r rr I3 J3) P := fun ht => by
        have ih := ih I3 J3 hE3 hJ4
        rw [few_take hok ht] at ih
        refine go_v (cd := cd149) [179] 20 rfl ?_
        show aTo L xs fv 111 _ cd149 (179, _, [.long (J3 77 44)], aHp r rr I3 J3) _
        rw [k44']
        refine go_v (cd := cd149) [47] 20 rfl ?_
        exact go_sb ih ⟨by rw [nI_succ B]; rfl, rfl, rfl, rfl, rfl, rfl, rfl, trivial⟩ rfl rfl rfl
      refine go_v (cd := cd149) [] 20 rfl ?_
      cases hq : fewW f pcN ok B with
      | none =>
        refine go_st (cd := cd149) 1 rfl (go_ifT (by decide) ?_)
        rw [hq] at h171
        exact h171 (fun q hq => by cases hq)
      | some q' =>
        rw [hq] at h171 h181 hev
        have hqB : q'.1 < B := (few_le B q' hq).1
        refine go_st (cd := cd149) 1 rfl (go_ifF (nI_pos (n := q'.1) (by omega)) ?_)
        refine go_v (cd := cd149) [137] 20 rfl ?_
        show aTo L xs fv 111 _ cd149 (137, _, [.long (J3 77 44)], aHp r rr I3 J3) _
        rw [k44']
        refine go_v (cd := cd149) [] 20 rfl ?_
        have hev' : -1000000000000 ≤ q'.2 ∧ q'.2 ≤ 1000000000000 := hev
        obtain ⟨l1, l2, l3⟩ := lgZ3 (a := 1000 * f B) (b := 1000 * q'.2) (by omega) (by omega) (by omega) (by omega)
        by_cases hlt : f B < q'.2
        · refine go_st (cd := cd149) 1 rfl (go_ifT (l3.mpr (by omega)) ?_)
          exact h181 I3 J3 hE3 hJ4 (few_skip hq (by omega))
        refine go_st (cd := cd149) 1 rfl (go_ifF (fun h => hlt (by have := l3.mp h; omega)) ?_)
        refine go_v (cd := cd149) [147] 20 rfl ?_
        show aTo L xs fv 111 _ cd149 (147, _, [.long (J3 77 44)], aHp r rr I3 J3) _
        rw [k44']
        refine go_v (cd := cd149) [] 20 rfl ?_
        by_cases heq : f B = q'.2
        case neg =>
          refine go_st (cd := cd149) 1 rfl (go_ifF (fun h => heq (by have := l2.mp h; omega)) ?_)
          exact h171 (fun q hq2 => by cases hq2; exact Or.inl (by omega))
        refine go_st (cd := cd149) 1 rfl (go_ifT (l2.mpr (by omega)) ?_)
        refine go_v (cd := cd149) [] 20 rfl ?_
        refine go_callv (cd := cd149) rfl rfl rfl rfl rfl (lv3 rfl) rfl (rf_ones (d := d + 7) hB64 ⟨rfl, ?_⟩)
        refine go_v (cd := cd149) [] 20 rfl ?_
        refine go_callv (cd := cd149) rfl rfl rfl rfl rfl (lv3 rfl) rfl (rf_ones (d := d + 7) (B := q'.1) (by omega) ⟨rfl, ?_⟩)
        have h62 := st_pc6 (B := q'.1) (by omega)
        by_cases hpc : pcN B < pcN q'.1
        · refine go_st (cd := cd149) 1 rfl (go_ifT (nI_lt hpc (by omega)) ?_)
          exact h171 (fun q hq2 => by cases hq2; exact Or.inr ⟨heq, hpc⟩)
        · refine go_st (cd := cd149) 1 rfl (go_ifF (nI_nlt (by omega) (by omega)) ?_)
          refine go_v (cd := cd149) [181] 20 rfl ?_
          exact h181 I3 J3 hE3 hJ4 (few_skip hq (by omega))
    have h119 : upB now B = none → aTo L xs fv 111 (d + 8) cd149 (119, [(7, .int (nI B)), (5, .long (lZ (1000 * feM (fewW f pcN ok B)))), (4, .int (feB (fewW f pcN ok B))), (0, .ref 77), (1, .int (nI q)), (2, .int (nI k)), (3, .int (nI (n + 1)))], [.int (nI (n + 1)), .int (nI q), .ref 77], aHp r rr I1 J) P := fun hu => by
      rw [hu] at h120
      refine go_v (cd := cd149) [120] 20 rfl ?_
      exact h120
    refine go_v (cd := cd149) [] 20 rfl ?_
    cases now with
    | none =>
      refine go_st (cd := cd149) 1 rfl (go_ifT (show I1 77 4 < 0 from by rw [h4]; decide) ?_)
      exact h119 rfl
    | some u =>
      have hu6 : u < 6 := by have := hnow u rfl; omega
      have h4 : I1 77 4 = nI u := h4
      refine go_st (cd := cd149) 1 rfl (go_ifF (show ¬ I1 77 4 < 0 from by rw [h4]; exact nI_pos (by omega)) ?_)
      refine go_v (cd := cd149) [] 20 rfl ?_
      have hbt := (bt_at (s := nI u) (nI_pos' (by omega)) (nI_lt (b := 6) hu6 (by decide)) (nI B)).1
      rw [nI_clamp (show u < 2 ^ 31 by omega)] at hbt
      show aTo L xs fv 111 _ cd149 (106, _, [.int (I1 77 4), .int (nI B), .ref 77, .int (nI (n + 1)), .int (nI q), .ref 77], aHp r rr I1 J) _
      rw [h4]
      refine go_callv (cd := cd149) rfl rfl rfl rfl rfl (lv3 rfl) rfl (cl_has (fun hbu => ⟨rfl, ?_⟩) (fun hbu => ⟨rfl, ?_⟩))
      · have hbu := hbt.mp hbu
        refine go_st (cd := cd149) 1 rfl (go_ifF (by decide) ?_)
        have hup : upB (some u) B = some u := if_pos hbu
        rw [hup] at h120
        refine go_v (cd := cd149) [120] 20 rfl ?_
        show aTo L xs fv 111 _ cd149 (120, _, [.int (I1 77 4), .int (nI (n + 1)), .int (nI q), .ref 77], aHp r rr I1 J) _
        rw [h4]
        exact h120
      · refine go_st (cd := cd149) 1 rfl (go_ifT rfl ?_)
        exact h119 (if_neg (fun h => hbu (hbt.mpr h)))
end FL
