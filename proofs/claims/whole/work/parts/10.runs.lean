section RS
variable {p : Program} {l : Launch} {e : Env} {R : Room} {s : State} {m : MethodId} {args : Array Value} {below : List Frame} {meth : Method} {c : Code}
variable {cc : ByteArray} {D : va_G} {cl : List vw_C} {A : Nat → Prop} {tys : List (ClassId × FieldType)} {Ts : List Jvm.Cond} {SF : List (String × String × String × Value)} {SK : List (String × Nat × String × Nat)} {NW : List aNt} {AO : List String} {mt : Nat → aMt} {own : String} {nL nS dd n0 : Nat} {ini : Bool} {ret : Option FieldType}
variable {kd : Nat → Nat × Nat} {fk : Nat → Nat → Nat} {cy : Nat → ClassId} {Z : aZ} {X : aX}
/-- an end: the instruction, the answer, and what the method's type says -/
def aRet (ret : Option FieldType) (t : Nat) (w : Option Value) (ins : Instr) : Prop :=
  match ins with
  | .ireturn => ∃ x, w = some (.int x) ∧ (t = 0 ∨ (t = 1 ∧ (x = 0 ∨ x = 1)) ∨ (t = 2 ∧ x = 0) ∨ (t = 3 ∧ narrow .char (.int x) = .int x)) ∧ ((t = 0 ∧ ret = some .int) ∨ (t = 1 ∧ ret = some .boolean) ∨ (t = 2 ∧ ret = some .byte) ∨ (t = 3 ∧ ret = some .char))
  | .lreturn => ∃ x, w = some (.long x) ∧ ret = some .long
  | .areturn => (w = some .null ∨ ∃ x, w = some (.ref x)) ∧ ∃ rt, ret = some rt ∧ ((∃ n, rt = .object n) ∨ ∃ u, rt = .array u)
  | .return_ => w = none ∧ ret = none
  | _ => False
set_option maxHeartbeats 8000000 in
theorem aRun_sound (hx : p.tables.exec = Jvm.exec) (hb : c.code = cc) (hml : c.maxLocals = nL) (hts : ∀ w ∈ Ts, w.before args s = true) (hgT : ∀ w ∈ Ts, goodWord w = true) (htab : aTab cl fk Ts) (hkd : ∀ i, (kd i).1 < 7 → ∃ C T, cl[(kd i).1]? = some (C, T, (kd i).2)) (hcl : cl.length ≤ 7)
    (hown : s.vm.findClass own = some m.cls) (hini : ini = true → meth.name = "<init>") (hK : va_K D cl tys s) (hty : aTys cy tys) 
    (hsf : ∀ q ∈ SF, ∀ i, q.2.2.2 = .ref i → 1000 ≤ i) (hsk : ∀ q ∈ SK, 1000 ≤ q.2.2.2) (hk20 : ∀ i, (kd i).1 < 20) (hk13 : ∀ i, 13 ≤ (kd i).1 → 1000 ≤ i) (hX : aXm l D cl tys kd fk cy Z SF SK NW AO Ts mt dd X) (hXh : aXh X) {cd : Nat → Option aI} (hgood : ∀ pc ai, cd pc = some ai → aGood cl fk cy tys Ts SF SK NW AO mt own cc nL ini ret pc ai)
    (hA : ∀ q, s.heap.size ≤ q → A q) {adS : Nat → Nat} (hSt0 : aSt kd Z SF SK NW AO adS A s s.heap) {rv : Option Value} {hh : aH} (hR : dd + 1 ≤ R.frames ∧ hh.1 - nS ≤ R.cells ∧ aZs kd hh.1 - aZs kd nS ≤ R.slots ∧ 64 * (dd + 1) ≤ R.locals) {Q : State → Prop}
    (hRet : ∀ (pc t : Nat) (ls : aL) (ad : Nat → Nat) (w : Option Value) (ins : Instr), decode cc pc = .ok (ins, 1) → aRet ret t w ins → rv = w → ∀ h1 : aH, hh = h1 → (∀ i, (i < nS ∨ 1000 ≤ i) → ad i = adS i) → (h1.1 = nS → ad = adS) → aSW p l e R s m args below meth c Q D cl A nL nS kd fk cy (aZs kd) ad (pc, ls, w.toList, h1)) :
    ∀ (F : Nat) (x : aC) (ad : Nat → Nat), aRun kd Z n0 X cd F x rv hh → n0 ≤ x.2.2.2.1 → nS ≤ x.2.2.2.1 → aHok x.2.2.2 → (∀ i, (i < nS ∨ 1000 ≤ i) → ad i = adS i) → (x.2.2.2.1 = nS → ad = adS) →
      aSW p l e R s m args below meth c Q D cl A nL nS kd fk cy (aZs kd) ad x := by
  intro F
  induction F with
  | zero => intro x ad h; exact h.elim
  | succ F ih =>
    intro x ad h h0 hS0 hok hext hsame
    have hmon := aRun_h hXh (F + 1) x h h0
    unfold aRun at h
    split at h
    next => exact h.elim
    next ai hai =>
    have hg := hgood _ _ hai
    have hSt : aSt kd Z SF SK NW AO ad A s s.heap := aSt_ad hsf hsk hk13 (fun i hi => hext i (Or.inr hi)) hSt0
    obtain ⟨ins, nx, a, b, t, v⟩ := ai
    obtain ⟨pc, ls, st, h1⟩ := x
    dsimp only at h0 hS0 hok hsame hmon hai
    obtain ⟨len, hdec, hnx, hsd, hsp⟩ := hg
    split at h
    next x' hstp =>
      obtain ⟨e1, e2⟩ := aStp_h hstp
      dsimp only at e1 e2
      exact aStp_sound (n0 := n0) hx hb hts htab hkd hcl hown hini hK hty (fun i => Nat.lt_of_lt_of_le (hk20 i) (by decide)) hSt.1 hSt.2.2.2.2.2.1 h0 hdec hnx hsd hstp (ih x' ad h (by rw [e1]; exact h0) (by rw [e1]; exact hS0) (e2 h0 hok) hext (fun q => hsame (by rw [← e1]; exact q)))
    next hstp =>
    clear hstp
    have go : ∀ x' : aC, aRun kd Z n0 X cd F x' rv hh → x'.2.2.2.1 = h1.1 → aHok x'.2.2.2 → aSW p l e R s m args below meth c Q D cl A nL nS kd fk cy (aZs kd) ad x' :=
      fun x' hr hn hk => ih x' ad hr (by rw [hn]; exact h0) (by rw [hn]; exact hS0) hk hext (fun q => hsame (by rw [← hn]; exact q))
    have zs1 : aZs kd (h1.1 + 1) = aZs kd h1.1 + (kd h1.1).2 := rfl
    have zs0 : aZs kd nS ≤ aZs kd h1.1 := aZs_le _ hS0
    have room : h1.1 + 1 ≤ hh.1 → h1.1 - nS + 1 ≤ R.cells ∧ aZs kd h1.1 - aZs kd nS + (kd h1.1).2 ≤ R.slots := by
      intro hle
      have := aZs_le (kd := kd) _ hle
      have := hR.2.1
      have := hR.2.2.1
      omega
    have roomc : ∀ {h2 : aH}, h1.1 ≤ h2.1 → h2.1 ≤ hh.1 → h1.1 - nS + (h2.1 - h1.1) ≤ R.cells ∧ aZs kd h1.1 - aZs kd nS + (aZs kd h2.1 - aZs kd h1.1) ≤ R.slots ∧ h1.1 - nS + (h2.1 - h1.1) = h2.1 - nS ∧ aZs kd h1.1 - aZs kd nS + (aZs kd h2.1 - aZs kd h1.1) = aZs kd h2.1 - aZs kd nS := by
      intro h2 hle hle2
      have := aZs_le (kd := kd) _ hle
      have := aZs_le (kd := kd) _ hle2
      have := hR.2.1
      have := hR.2.2.1
      omega
    have alloc : ∀ (nx1 : Nat) (ls1 : aL) (st1 : List Value), aRun kd Z n0 X cd F (nx1, ls1, .ref h1.1 :: st1, h1.1 + 1, up1 h1.2.1 h1.1 (fun _ => 0), up1 h1.2.2.1 h1.1 (fun _ => 0), up1 h1.2.2.2 h1.1 (fun _ => none)) rv hh → h1.1 < 1000 → aOks h1.1 (ls1.map (·.2)) → aOks h1.1 st1 →
        ∀ (q N : Nat) (E : va_E) (H1 : Heap) (locs : List Loc) (L : Array Slot), (kd h1.1).2 = N → E = aEn kd fk cy (h1.1 + 1, up1 h1.2.1 h1.1 (fun _ => 0), up1 h1.2.2.1 h1.1 (fun _ => 0), up1 h1.2.2.2 h1.1 (fun _ => none)) (va_up ad h1.1 q) h1.1 →
          va_P D cl (aWd kd fk cy ad h1 ++ [(q, E)]) H1 → va_D A (aWd kd fk cy ad h1 ++ [(q, E)]) → va_S A s.heap H1 locs → lv_has L nL (aTl ad ls1) →
          W p l e R s m args below meth c H1 locs (h1.1 - nS + 1) (aZs kd h1.1 - aZs kd nS + N) Q (F0 m nx1 L (.ref q :: st1.map (aTr ad))) := by
      intro nx1 ls1 st1 hk h1000 hol hos q N E H1 locs L hN hE hP1 hD1 hS1 hl1
      subst hN; subst hE
      rw [← aWd_new hok] at hP1 hD1
      have he : ∀ i, (i < h1.1 ∨ 1000 ≤ i) → va_up ad h1.1 q i = ad i := fun i hi => by
        have : i ≠ h1.1 := by omega
        simp [va_up, this]
      have k1 := ih _ (va_up ad h1.1 q) hk (Nat.le_succ_of_le h0) (Nat.le_succ_of_le hS0) (aHok_new hok) (fun i hi => by rw [he i (by omega)]; exact hext i hi) (fun hz => absurd hz (by dsimp only; omega)) H1 locs L hP1 hD1 hS1 (by rw [aTl_same he hol]; exact hl1)
      dsimp only at k1
      rw [List.map_cons, aTr_same he hos, show aTr (va_up ad h1.1 q) (.ref h1.1) = .ref q by simp [aTr, va_up]] at k1
      rw [show h1.1 + 1 - nS = h1.1 - nS + 1 by omega, zs1, show aZs kd h1.1 + (kd h1.1).2 - aZs kd nS = aZs kd h1.1 - aZs kd nS + (kd h1.1).2 by omega] at k1
      exact k1
    have after : ∀ (x1 : aC) (h2 : aH), aRun kd Z n0 X cd F (x1.1, x1.2.1, x1.2.2.1, h2) rv hh → h1.1 ≤ h2.1 → aHok h2 → ∀ ad1 : Nat → Nat, (∀ i, (i < h1.1 ∨ 1000 ≤ i) → ad1 i = ad i) → (h2.1 = h1.1 → ad1 = ad) →
        aSW p l e R s m args below meth c Q D cl A nL nS kd fk cy (aZs kd) ad1 (x1.1, x1.2.1, x1.2.2.1, h2) := by
      intro x1 h2 hk hle hok2 ad1 he hs
      exact ih _ ad1 hk (Nat.le_trans h0 hle) (Nat.le_trans hS0 hle) hok2 (fun i hi => by rw [he i (by omega)]; exact hext i hi) (fun hz => by have hz1 : h2.1 = nS := hz; rw [hs (by omega)]; exact hsame (by omega))
    cases ins with
    | ireturn =>
      dsimp only [aSpc] at h
      subst hnx
      cases (show len = 1 from hsd)
      split at h
      next x =>
        obtain ⟨ht, e1, e2⟩ := h
        exact hRet pc t ls ad (some (.int x)) _ hdec ⟨x, rfl, ht, hsp⟩ e1 h1 e2 hext hsame
      next => exact h.elim
    | lreturn =>
      dsimp only [aSpc] at h
      subst hnx
      cases (show len = 1 from hsd)
      split at h
      next x =>
        obtain ⟨e1, e2⟩ := h
        exact hRet pc t ls ad (some (.long x)) _ hdec ⟨x, rfl, hsp⟩ e1 h1 e2 hext hsame
      next => exact h.elim
    | areturn =>
      dsimp only [aSpc] at h
      subst hnx
      cases (show len = 1 from hsd)
      split at h
      next x =>
        obtain ⟨e1, e2⟩ := h
        exact hRet pc t ls ad (some (.ref x)) _ hdec ⟨Or.inr ⟨x, rfl⟩, hsp⟩ e1 h1 e2 hext hsame
      next =>
        obtain ⟨e1, e2⟩ := h
        exact hRet pc t ls ad (some .null) _ hdec ⟨Or.inl rfl, hsp⟩ e1 h1 e2 hext hsame
      next => exact h.elim
    | return_ =>
      dsimp only [aSpc] at h
      subst hnx
      cases (show len = 1 from hsd)
      split at h
      next =>
        obtain ⟨e1, e2⟩ := h
        exact hRet pc t ls ad none _ hdec ⟨rfl, hsp⟩ e1 h1 e2 hext hsame
      next => exact h.elim
    | idiv =>
      dsimp only [aSpc] at h
      subst hnx
      cases (show len = 1 from hsd)
      split at h
      next y x r =>
        obtain ⟨hne, hk⟩ := h
        intro H locs L hP hD hS hl; dsimp only at hP hD hl
        exact lv_idiv hx hb hdec hne (go _ hk rfl hok H locs L hP hD hS hl)
      next => exact h.elim
    | irem =>
      dsimp only [aSpc] at h
      subst hnx
      cases (show len = 1 from hsd)
      split at h
      next y x r =>
        obtain ⟨hne, hk⟩ := h
        intro H locs L hP hD hS hl; dsimp only at hP hD hl
        exact lv_irem hx hb hdec hne (go _ hk rfl hok H locs L hP hD hS hl)
      next => exact h.elim
    | ldiv =>
      dsimp only [aSpc] at h
      subst hnx
      cases (show len = 1 from hsd)
      split at h
      next y x r =>
        obtain ⟨hne, hk⟩ := h
        intro H locs L hP hD hS hl; dsimp only at hP hD hl
        exact lv_ldiv hx hb hdec hne (go _ hk rfl hok H locs L hP hD hS hl)
      next => exact h.elim
    | lrem =>
      dsimp only [aSpc] at h
      subst hnx
      cases (show len = 1 from hsd)
      split at h
      next y x r =>
        obtain ⟨hne, hk⟩ := h
        intro H locs L hP hD hS hl; dsimp only at hP hD hl
        exact lv_lrem hx hb hdec hne (go _ hk rfl hok H locs L hP hD hS hl)
      next => exact h.elim
    | arraylength =>
      dsimp only [aSpc] at h
      subst hnx
      cases (show len = 1 from hsd)
      split at h
      next i r =>
        obtain ⟨h13 | h13, hk⟩ := h
        · intro H locs L hP hD hS hl; dsimp only at hP hD hl
          exact aTlen hx hb (hSt.2.1 i h13) hS hdec (go _ hk rfl hok H locs L hP hD hS hl)
        · intro H locs L hP hD hS hl; dsimp only at hP hD hl
          exact aTlen hx hb (hSt.2.2.2.2.2.2.2 i h13) hS hdec (go _ hk rfl hok H locs L hP hD hS hl)
      next => exact h.elim
    | getfield z =>
      dsimp only [aSpc] at h
      obtain ⟨rfl, hsd⟩ := hsd
      subst hnx
      split at h
      next i r =>
        obtain ⟨h15, h⟩ := h
        obtain ⟨g1, g2, g3⟩ := hSt.2.2.2.2.2.2.1 i h15
        rcases hsd with ⟨-, hsd⟩ | ⟨C, T, N, hcl1, hb1, hw, hft⟩
        · rcases h with ⟨ht, hk⟩ | ⟨ht, hk⟩
          · rcases hsd with ⟨-, hw⟩ | ⟨ht2, -⟩
            · intro H locs L hP hD hS hl; dsimp only at hP hD hl
              exact vk_getf hx hb g3 hS hown (hts _ hw) (fun _ h9 => h9) hdec (go _ hk rfl hok H locs L hP hD hS hl)
            · omega
          · rcases hsd with ⟨ht2, -⟩ | ⟨-, hw⟩
            · omega
            · intro H locs L hP hD hS hl; dsimp only at hP hD hl
              exact vk_getf hx hb g2 hS hown (hts _ hw) (fun _ h9 => h9) hdec (go _ hk rfl hok H locs L hP hD hS hl)
        · rcases h with ⟨ht, hk⟩ | ⟨ht, hk⟩ <;> omega
      next => exact h.elim
    | iaload =>
      dsimp only [aSpc] at h
      subst hnx
      cases (show len = 1 from hsd)
      split at h
      next j i r =>
        obtain ⟨hin, ⟨hlv, h7, hk⟩ | ⟨h13, hk⟩⟩ := h
        · intro H locs L hP hD hS hl; dsimp only at hP hD hl
          exact va_iald hx hb hK hP i 0 (by rw [← aEn_7 h7]; exact aWd_at hlv) hty.1 hin hdec (go _ hk rfl hok H locs L hP hD hS hl)
        · intro H locs L hP hD hS hl; dsimp only at hP hD hl
          exact va_ti hx hb (hSt.2.1 i h13) hS hin rfl hdec (go _ hk rfl hok H locs L hP hD hS hl)
      next => exact h.elim
    | laload =>
      dsimp only [aSpc] at h
      subst hnx
      cases (show len = 1 from hsd)
      split at h
      next j i r =>
        obtain ⟨hin, ⟨hlv, h7, hk⟩ | ⟨h13, hk⟩⟩ := h
        · intro H locs L hP hD hS hl; dsimp only at hP hD hl
          exact va_lald hx hb hK hP i 1 (by rw [← aEn_8 h7]; exact aWd_at hlv) hty.2.1 hin hdec (go _ hk rfl hok H locs L hP hD hS hl)
        · intro H locs L hP hD hS hl; dsimp only at hP hD hl
          exact va_tl hx hb (hSt.2.2.1 i h13) hS hin rfl hdec (go _ hk rfl hok H locs L hP hD hS hl)
      next => exact h.elim
    | baload =>
      dsimp only [aSpc] at h
      subst hnx
      cases (show len = 1 from hsd)
      split at h
      next j i r =>
        obtain ⟨hin, ⟨hlv, h7, hk⟩ | ⟨h13, hk⟩⟩ := h
        · intro H locs L hP hD hS hl; dsimp only at hP hD hl
          exact va_zald hx hb hK hP i 2 (by rw [← aEn_9 h7]; exact aWd_at hlv) hty.2.2.1 hin hdec (go _ hk rfl hok H locs L hP hD hS hl)
        · intro H locs L hP hD hS hl; dsimp only at hP hD hl
          exact va_tb hx hb (hSt.2.2.2.2.2.2.2 i h13) hS hin rfl hdec (go _ hk rfl hok H locs L hP hD hS hl)
      next => exact h.elim
    | aaload =>
      dsimp only [aSpc] at h
      subst hnx
      cases (show len = 1 from hsd)
      split at h
      next j i r =>
        obtain ⟨hin, hlv, h7, h12, hk⟩ := h
        intro H locs L hP hD hS hl; dsimp only at hP hD hl
        obtain ⟨t0, C0, ht0⟩ := aTys_q hty h7 h12
        have k1 := go _ hk rfl hok H locs L hP hD hS hl
        dsimp only [List.map_cons] at k1
        rw [List.map_cons, aTr_rf] at k1
        exact va_aldq hx hb hK hP i t0 (by rw [← aEn_q h7]; exact aWd_at hlv) ht0 hin hdec k1
      next => exact h.elim
    | iastore =>
      dsimp only [aSpc] at h
      subst hnx
      cases (show len = 1 from hsd)
      split at h
      next x j i r =>
        obtain ⟨hin, hlv, h7, hk⟩ := h
        intro H locs L hP hD hS hl; dsimp only at hP hD hl
        refine va_iast hx hb hK hP hD hS i 0 (by rw [← aEn_7 h7]; exact aWd_at hlv) hty.1 hin hdec (fun H1 locs1 hP1 hD1 hS1 => ?_)
        rw [aWd_set (kd := kd) (fk := fk) (cy := cy) (ad := ad) (h := h1) (h' := (h1.1, up2 h1.2.1 i j.toNatClampNeg x, h1.2.2.1, h1.2.2.2)) rfl (by rw [aEn_7 h7]; dsimp only; rw [up2_upd]) (fun j hj => aEn_eq (up2_ne hj) rfl rfl)] at hP1 hD1
        exact go _ hk rfl hok H1 locs1 L hP1 hD1 hS1 hl
      next => exact h.elim
    | lastore =>
      dsimp only [aSpc] at h
      subst hnx
      cases (show len = 1 from hsd)
      split at h
      next x j i r =>
        obtain ⟨hin, hlv, h7, hk⟩ := h
        intro H locs L hP hD hS hl; dsimp only at hP hD hl
        refine va_last hx hb hK hP hD hS i 1 (by rw [← aEn_8 h7]; exact aWd_at hlv) hty.2.1 hin hdec (fun H1 locs1 hP1 hD1 hS1 => ?_)
        rw [aWd_set (kd := kd) (fk := fk) (cy := cy) (ad := ad) (h := h1) (h' := (h1.1, h1.2.1, up2 h1.2.2.1 i j.toNatClampNeg x, h1.2.2.2)) rfl (by rw [aEn_8 h7]; dsimp only; rw [up2_updL]) (fun j hj => aEn_eq rfl (up2_ne hj) rfl)] at hP1 hD1
        exact go _ hk rfl hok H1 locs1 L hP1 hD1 hS1 hl
      next => exact h.elim
    | bastore =>
      dsimp only [aSpc] at h
      subst hnx
      cases (show len = 1 from hsd)
      split at h
      next x j i r =>
        obtain ⟨hin, hlv, h7, hx01, hk⟩ := h
        intro H locs L hP hD hS hl; dsimp only at hP hD hl
        refine va_zast hx hb hK hP hD hS i 2 (by rw [← aEn_9 h7]; exact aWd_at hlv) hty.2.2.1 hin hdec (fun H1 locs1 hP1 hD1 hS1 => ?_)
        rw [aWd_set (kd := kd) (fk := fk) (cy := cy) (ad := ad) (h := h1) (h' := (h1.1, up2 h1.2.1 i j.toNatClampNeg x, h1.2.2.1, h1.2.2.2)) rfl (by rw [aEn_9 h7]; dsimp only; rw [vp_nar01 hx01, up2_upd]) (fun j hj => aEn_eq (up2_ne hj) rfl rfl)] at hP1 hD1
        exact go _ hk rfl hok H1 locs1 L hP1 hD1 hS1 hl
      next => exact h.elim
    | aastore =>
      dsimp only [aSpc] at h
      subst hnx
      cases (show len = 1 from hsd)
      split at h
      next w j i r =>
        obtain ⟨hin, hlv, h10, h12, hlw, hkw, hki, hk⟩ := h
        intro H locs L hP hD hS hl; dsimp only at hP hD hl
        obtain ⟨⟨C0, T0, N0⟩, t0, hr0, ht0⟩ := hsp
        refine va_astq (r := (C0, T0, N0)) (f := fun k => (h1.2.2.2 i k).map ad) hx hb hK hP hD hS i t0 w a (by rw [← aEn_q h10]; exact aWd_at hlv) (by rw [hki]; exact ht0) (aWd_obj hkd hcl hlw hkw hr0) hr0 hin hdec (fun H1 locs1 hP1 hD1 hS1 => ?_)
        rw [aWd_set (kd := kd) (fk := fk) (cy := cy) (ad := ad) (h := h1) (h' := (h1.1, h1.2.1, h1.2.2.1, up2 h1.2.2.2 i j.toNatClampNeg (some w))) rfl (by rw [aEn_q h10]; dsimp only; rw [up2_map]) (fun j hj => aEn_eq rfl rfl (up2_ne hj))] at hP1 hD1
        exact go _ hk rfl (aHok_up hok hlw) H1 locs1 L hP1 hD1 hS1 hl
      next => exact h.elim
    | putfield z =>
      dsimp only [aSpc] at h
      obtain ⟨rfl, C, T, N, hcl1, hb1, hw, hft, hfin⟩ := hsd
      subst hnx
      split at h
      next x i r =>
        obtain ⟨hlv, hki, ht, hx01, hk⟩ := h
        refine aPut_sound (h' := (h1.1, up2 h1.2.1 i b x, h1.2.2.1, h1.2.2.2)) hx hb hts htab hkd hcl hown hini hK hlv hki hcl1 hb1 hw hfin hdec (fun ty hty1 => ?_) rfl ?_ ?_ ?_ (go _ hk rfl hok)
        · rw [hft, ht] at hty1
          rcases hty1 with ⟨h4, rfl⟩ | ⟨h4, rfl⟩ | ⟨h4, rfl⟩ | ⟨h4, ⟨q, rfl⟩ | ⟨q, rfl⟩⟩ <;> first | exact absurd h4 (by decide) | (rcases hx01 with rfl | rfl <;> exact ⟨rfl, rfl⟩)
        · rw [hft, ht]; show _ = _; simp [aFv, up2_at, aTr]
        · intro q hq; unfold aFv; split <;> simp [up2_at, hq]
        · intro q hq; exact aEn_eq (up2_ne hq) rfl rfl
      next => exact h.elim
    | tableswitch d lo hi offs =>
      dsimp only [aSpc] at h
      subst hnx
      split at h
      next x r =>
        rcases h with ⟨ho, hk⟩ | ⟨off, ho, hlo, hhi, hk⟩
        · intro H locs L hP hD hS hl; dsimp only at hP hD hl
          exact lv_tableOut hx hb hdec ho (Int.toNat_of_nonneg hsp.1).symm (go _ hk rfl hok H locs L hP hD hS hl)
        · intro H locs L hP hD hS hl; dsimp only at hP hD hl
          exact lv_tableIn hx hb hdec hlo hhi ho (Int.toNat_of_nonneg (hsp.2 off (Array.mem_toList_iff.mpr (Array.mem_of_getElem? ho)))).symm (go _ hk rfl hok H locs L hP hD hS hl)
      next => exact h.elim
    | lookupswitch d ps =>
      dsimp only [aSpc] at h
      subst hnx
      split at h
      next x r =>
        intro H locs L hP hD hS hl; dsimp only at hP hD hl
        exact lv_lookup hx hb hdec hsp.1 rfl (Int.toNat_of_nonneg (aLook hsp.2.1 hsp.2.2)).symm (go _ h rfl hok H locs L hP hD hS hl)
      next => exact h.elim
    | new z =>
      dsimp only [aSpc] at h
      obtain ⟨hkn, h1000, hol, hos, hk⟩ := h
      obtain ⟨rfl, C, T, hcl1, w1, w2, w3⟩ := hsp
      subst hnx
      intro H locs L hP hD hS hl; dsimp only at hP hD hl
      obtain ⟨hin1, -, ty, hty1, hty2⟩ := htab a C T b hcl1
      have ha7 : a < 7 := Nat.lt_of_lt_of_le (List.getElem?_eq_some_iff.mp hcl1).1 hcl
      have hR2 := room (aRun_h hXh F _ hk (Nat.le_succ_of_le h0)).1
      rw [hkn] at hR2
      refine va_new (fs := (List.range b).map (fun k => aFv (h1.1 + 1, up1 h1.2.1 h1.1 (fun _ => 0), up1 h1.2.2.1 h1.1 (fun _ => 0), up1 h1.2.2.2 h1.1 (fun _ => none)) ad (fk a k) h1.1 k)) hx hb hts hin1 ty hty1 hown (hts _ w1) (hts _ w2) (hts _ w3) hK hP hD hS hA hcl1 (fun j hj => ?_) hR2.1 hR2.2 hdec (fun q H1 hP1 hD1 hS1 => ?_)
      · rw [show vp_V ((List.range b).map (fun k => aFv (h1.1 + 1, up1 h1.2.1 h1.1 (fun _ => 0), up1 h1.2.2.1 h1.1 (fun _ => 0), up1 h1.2.2.2 h1.1 (fun _ => none)) ad (fk a k) h1.1 k)) j = aFv (h1.1 + 1, up1 h1.2.1 h1.1 (fun _ => 0), up1 h1.2.2.1 h1.1 (fun _ => 0), up1 h1.2.2.2 h1.1 (fun _ => none)) ad (fk a j) h1.1 j by simp [vp_V, hj]]
        rcases hty2 j hj with ⟨e1, e2⟩ | ⟨e1, e2⟩ | ⟨e1, e2⟩ | ⟨e1, ⟨z1, e2⟩ | ⟨z1, e2⟩⟩ <;> rw [e1, e2] <;> simp [aFv, up1_at, defaultValue, va_rf]
      · exact alloc _ _ _ hk h1000 hol hos q b _ H1 locs L (by rw [hkn]) (by
          rw [aEn_o (by rw [hkn]; exact ha7), hkn]
          dsimp only
          congr 2
          apply List.map_congr_left
          intro k _
          unfold aFv
          split <;> simp [up1_at]) hP1 hD1 hS1 hl
    | newarray z =>
      dsimp only [aSpc] at h
      obtain ⟨rfl, w1, hca⟩ := hsp
      subst hnx
      split at h
      next x r =>
        obtain ⟨hneg, hkn, hle, h1000, hol, hos, hk⟩ := h
        intro H locs L hP hD hS hl; dsimp only at hP hD hl
        have hR2 := room (aRun_h hXh F _ hk (Nat.le_succ_of_le h0)).1
        rw [hkn] at hR2
        rcases hca with ⟨rfl, et⟩ | ⟨rfl, et⟩ | ⟨rfl, et⟩
        · refine va_newa (a0 := (x.toNatClampNeg, .inl (fun _ => 0))) hx hb (hts _ w1) et hK hP hD hS hA (fun _ => rfl) hneg rfl (by show x.toNatClampNeg * 4 ≤ 536870912; omega) hR2.1 hR2.2 hdec (fun q cA H1 hK1 hP1 hD1 hS1 => ?_)
          have ec : cA = cy 7 := va_RA_inj (hK1.2 tys.length (cA, .int) (by simp)).2 (hK.2 0 _ hty.1).2
          subst ec
          exact alloc _ _ _ hk h1000 hol hos q _ _ H1 locs L (by rw [hkn]) (by rw [aEn_7 (by rw [hkn]), hkn]; dsimp only; rw [up1_at]) hP1 hD1 hS1 hl
        · refine va_newa (a0 := (x.toNatClampNeg, .inr (.inl (fun _ => 0)))) hx hb (hts _ w1) et hK hP hD hS hA (fun _ => rfl) hneg rfl (by show x.toNatClampNeg * 8 ≤ 536870912; omega) hR2.1 hR2.2 hdec (fun q cA H1 hK1 hP1 hD1 hS1 => ?_)
          have ec : cA = cy 8 := va_RA_inj (hK1.2 tys.length (cA, .long) (by simp)).2 (hK.2 1 _ hty.2.1).2
          subst ec
          exact alloc _ _ _ hk h1000 hol hos q _ _ H1 locs L (by rw [hkn]) (by rw [aEn_8 (by rw [hkn]), hkn]; dsimp only; rw [up1_at]) hP1 hD1 hS1 hl
        · refine va_newa (a0 := (x.toNatClampNeg, .inl (fun _ => 0))) hx hb (hts _ w1) et hK hP hD hS hA (fun _ => rfl) hneg rfl (by show x.toNatClampNeg * 1 ≤ 536870912; omega) hR2.1 hR2.2 hdec (fun q cA H1 hK1 hP1 hD1 hS1 => ?_)
          have ec : cA = cy 9 := va_RA_inj (hK1.2 tys.length (cA, .boolean) (by simp)).2 (hK.2 2 _ hty.2.2.1).2
          subst ec
          exact alloc _ _ _ hk h1000 hol hos q _ _ H1 locs L (by rw [hkn]) (by rw [aEn_9 (by rw [hkn]), hkn]; dsimp only; rw [up1_at]) hP1 hD1 hS1 hl
      next => exact h.elim
    | anewarray z =>
      dsimp only [aSpc] at h
      obtain ⟨rfl, ha10, ha12, C, t0, w1, wO, ht0⟩ := hsp
      subst hnx
      split at h
      next x r =>
        obtain ⟨hneg, hkn, hle, h1000, hol, hos, hk⟩ := h
        intro H locs L hP hD hS hl; dsimp only at hP hD hl
        have hR2 := room (aRun_h hXh F _ hk (Nat.le_succ_of_le h0)).1
        rw [hkn] at hR2
        refine va_newq hx hb hown (hts _ w1) (hSt.2.2.2.2.1 C wO) hK hP hD hS hA hneg rfl (by omega) hR2.1 hR2.2 hdec (fun q cA H1 hK1 hP1 hD1 hS1 => ?_)
        have ec : cA = cy a := va_RA_inj (hK1.2 tys.length (cA, .object C) (by simp)).2 (hK.2 t0 _ ht0).2
        subst ec
        exact alloc _ _ _ hk h1000 hol hos q _ _ H1 locs L (by rw [hkn]) (by rw [aEn_q (by rw [hkn]; exact ha10), hkn]; dsimp only; rw [up1_at]; rfl) hP1 hD1 hS1 hl
      next => exact h.elim
    | invokestatic z =>
      dsimp only [aSpc] at h
      obtain ⟨rfl, hsp⟩ := hsp
      subst hnx
      split at h
      next ht9 =>
        rw [if_pos ht9] at hsp
        obtain ⟨w1, w2, w3, w4⟩ := hsp
        split at h
        next n dp i1 sp i0 r =>
          obtain ⟨hsp, hdp, hn, hl0, hl1, hle0, hle1, hcat, ⟨hk0, hk1, hk⟩ | ⟨hk0, hk1, hk⟩⟩ := h
          · intro H locs L hP hD hS hl; dsimp only at hP hD hl
            refine va_copyi hx hb (hml.trans hl.1.symm) hown (hts _ w1) (hts _ w2) (hts _ w3) (hts _ w4) hK hP hD hS i0 i1 0 0 (by rw [← aEn_7 hk0]; exact aWd_at hl0) (by rw [← aEn_7 hk1]; exact aWd_at hl1) hty.1 hty.1 rfl hsp hdp hn hle0 hle1 (fun _ _ => rfl) (Nat.le_trans (Nat.succ_le_succ (Nat.zero_le _)) hR.1) (by rw [aCat]; have := aNfw; have := hR.2.2.2; omega) hdec (fun H1 locs1 hP1 hD1 hS1 => ?_)
            rw [aWd_set (kd := kd) (fk := fk) (cy := cy) (ad := ad) (h := h1) (h' := (h1.1, up1 h1.2.1 i1 (va_cpy (h1.2.1 i0) (h1.2.1 i1) sp.toNatClampNeg dp.toNatClampNeg n.toNatClampNeg), h1.2.2.1, h1.2.2.2)) rfl (by rw [aEn_7 hk1]; dsimp only; rw [up1_at]) (fun j hj => aEn_eq (up1_ne hj) rfl rfl)] at hP1 hD1
            exact go _ hk rfl hok H1 locs1 L hP1 hD1 hS1 hl
          · intro H locs L hP hD hS hl; dsimp only at hP hD hl
            refine va_copyl hx hb (hml.trans hl.1.symm) hown (hts _ w1) (hts _ w2) (hts _ w3) (hts _ w4) hK hP hD hS i0 i1 1 1 (by rw [← aEn_8 hk0]; exact aWd_at hl0) (by rw [← aEn_8 hk1]; exact aWd_at hl1) hty.2.1 hty.2.1 rfl hsp hdp hn hle0 hle1 (fun _ _ => rfl) (Nat.le_trans (Nat.succ_le_succ (Nat.zero_le _)) hR.1) (by rw [aCat]; have := aNfw; have := hR.2.2.2; omega) hdec (fun H1 locs1 hP1 hD1 hS1 => ?_)
            rw [aWd_set (kd := kd) (fk := fk) (cy := cy) (ad := ad) (h := h1) (h' := (h1.1, h1.2.1, up1 h1.2.2.1 i1 (va_cpy (h1.2.2.1 i0) (h1.2.2.1 i1) sp.toNatClampNeg dp.toNatClampNeg n.toNatClampNeg), h1.2.2.2)) rfl (by rw [aEn_8 hk1]; dsimp only; rw [up1_at]) (fun j hj => aEn_eq rfl (up1_ne hj) rfl)] at hP1 hD1
            exact go _ hk rfl hok H1 locs1 L hP1 hD1 hS1 hl
        next => exact h.elim
      next ht9 =>
      split at h
      next hq10 =>
        rw [if_neg ht9, if_pos hq10] at hsp
        obtain ⟨w1, w2, w3, w4⟩ := hsp
        split at h
        next y x r =>
          obtain ⟨hcat, hk⟩ := h
          intro H locs L hP hD hS hl; dsimp only at hP hD hl
          exact va_mmin hx hb (hml.trans hl.1.symm) hown (hts _ w1) (hts _ w2) (hts _ w3) (hts _ w4) (Nat.le_trans (Nat.succ_le_succ (Nat.zero_le _)) hR.1) (by rw [aCat]; have := hR.2.2.2; omega) (Nat.le_trans (show h1.1 - nS ≤ hh.1 - nS by omega) hR.2.1) (Nat.le_trans (show aZs kd h1.1 - aZs kd nS ≤ aZs kd hh.1 - aZs kd nS by have := aZs_le (kd := kd) _ hmon.1; omega) hR.2.2.1) hdec (go _ hk rfl hok H locs L hP hD hS hl)
        next => exact h.elim
      next ht10 =>
      split at h
      next hq11 =>
        rw [if_neg ht9, if_neg ht10, if_pos hq11] at hsp
        obtain ⟨w1, w2, w3, w4⟩ := hsp
        split at h
        next y x r =>
          obtain ⟨hcat, hk⟩ := h
          intro H locs L hP hD hS hl; dsimp only at hP hD hl
          exact va_mmax hx hb (hml.trans hl.1.symm) hown (hts _ w1) (hts _ w2) (hts _ w3) (hts _ w4) (Nat.le_trans (Nat.succ_le_succ (Nat.zero_le _)) hR.1) (by rw [aCat]; have := hR.2.2.2; omega) (Nat.le_trans (show h1.1 - nS ≤ hh.1 - nS by omega) hR.2.1) (Nat.le_trans (show aZs kd h1.1 - aZs kd nS ≤ aZs kd hh.1 - aZs kd nS by have := aZs_le (kd := kd) _ hmon.1; omega) hR.2.2.1) hdec (go _ hk rfl hok H locs L hP hD hS hl)
        next => exact h.elim
      next ht11 =>
      split at h
      next hq12 =>
        rw [if_neg ht9, if_neg ht10, if_neg ht11, if_pos hq12] at hsp
        obtain ⟨w1, w2, w3, w4⟩ := hsp
        split at h
        next y x r =>
          obtain ⟨hcat, hk⟩ := h
          intro H locs L hP hD hS hl; dsimp only at hP hD hl
          exact va_mmin_long hx hb (hml.trans hl.1.symm) hown (hts _ w1) (hts _ w2) (hts _ w3) (hts _ w4) (Nat.le_trans (Nat.succ_le_succ (Nat.zero_le _)) hR.1) (by rw [aCat]; have := hR.2.2.2; omega) (Nat.le_trans (show h1.1 - nS ≤ hh.1 - nS by omega) hR.2.1) (Nat.le_trans (show aZs kd h1.1 - aZs kd nS ≤ aZs kd hh.1 - aZs kd nS by have := aZs_le (kd := kd) _ hmon.1; omega) hR.2.2.1) hdec (go _ hk rfl hok H locs L hP hD hS hl)
        next => exact h.elim
      next ht12 =>
      split at h
      next hq13 =>
        rw [if_neg ht9, if_neg ht10, if_neg ht11, if_neg ht12, if_pos hq13] at hsp
        obtain ⟨w1, w2, w3, w4⟩ := hsp
        split at h
        next x r =>
          obtain ⟨hcat, hk⟩ := h
          intro H locs L hP hD hS hl; dsimp only at hP hD hl
          exact va_mabs_long hx hb (hml.trans hl.1.symm) hown (hts _ w1) (hts _ w2) (hts _ w3) (hts _ w4) (Nat.le_trans (Nat.succ_le_succ (Nat.zero_le _)) hR.1) (by rw [aCat]; have := hR.2.2.2; omega) (Nat.le_trans (show h1.1 - nS ≤ hh.1 - nS by omega) hR.2.1) (Nat.le_trans (show aZs kd h1.1 - aZs kd nS ≤ aZs kd hh.1 - aZs kd nS by have := aZs_le (kd := kd) _ hmon.1; omega) hR.2.2.1) hdec (go _ hk rfl hok H locs L hP hD hS hl)
        next => exact h.elim
      next ht13 =>
        rw [if_neg ht9, if_neg ht10, if_neg ht11, if_neg ht12, if_neg ht13] at hsp
        obtain ⟨wc, ws, wi, wl, hd, hm45⟩ := hsp
        obtain ⟨rv1, h2, hbl, hcat, hx1, hfr, hk⟩ := h
        intro H locs L hP hD hS hl; dsimp only at hP hD hl
        have hR2 := roomc (hXh _ _ _ _ _ hx1).1 (aRun_h hXh F _ hk (Nat.le_trans h0 (hXh _ _ _ _ _ hx1).1)).1
        have hA1 := aFreeA (H := H) hD hS hA
        have hM := hX _ _ _ _ _ hx1 hok ad H.size
        have hG : GoodIn Ts (Cond.code (mt a).1 (mt a).2.1 (mt a).2.2.1 (mt a).2.2.2 :: Ts) := aGoodT hgT (fun w hw => (List.mem_cons.mp hw).elim (fun e => by rw [e]; exact wc) id)
        have hlen : ∀ sig, parseMethodDescriptor (mt a).1.desc = some sig → b = sig.parameters.length := fun sig hs => by have := hd.2.2; rw [hs] at this; exact (Option.some.inj this).symm
        have hRf : (aRoom dd (h2.1 - h1.1) (aZs kd h2.1 - aZs kd h1.1)).frames + 1 ≤ R.frames := hR.1
        have hRl : 8 + ((mt a).2.2.1 + 11) + (aRoom dd (h2.1 - h1.1) (aZs kd h2.1 - aZs kd h1.1)).locals ≤ R.locals := by show 8 + ((mt a).2.2.1 + 11) + 64 * dd ≤ R.locals; have := hR.2.2.2; omega
        have hn1 : ((st.take b).reverse.map (aTr ad)).length = b := by simp [hbl]
        have hp1 : PreS s H (aPc D cl tys kd fk cy Z SF SK NW AO ad (st.take b).reverse h1 H.size) ((st.take b).reverse.map (aTr ad)) := ⟨aBlind, fun U hU hW => aPre hK hP hD hS hSt hA1 hU hW⟩
        refine aCall_go (tys := tys) (as := ((st.take b).reverse.map (aTr ad)).toArray) (ls := ls) (h1 := h2) (rv1 := rv1) (A1 := va_A (aWd kd fk cy ad h1) H.size) (mc := h2.1 - h1.1) (ms := aZs kd h2.1 - aZs kd h1.1) ?_ hS hA1 hl hfr hR2.2.2.1 hR2.2.2.2 (fun ad1 he hs => after (_, _, _, h1) _ hk (hXh _ _ _ _ _ hx1).1 ((hXh _ _ _ _ _ hx1).2 hok) ad1 he hs)
        rcases wl with wl | ⟨host, wl⟩
        · exact va_runS ⟨hx, hb, hml, hown, hts⟩ hM ⟨⟨rfl, rfl, hRf, hRl, pay_in hts hG, List.mem_cons_self, hts _ wc, hts _ wi, ⟨hd.1, hd.2.1⟩, hlen, hts _ wl⟩, hts _ ws⟩ hp1 rfl hn1 hl.1 (aStack ad st b) (lv_room (by rw [aCat]; exact hcat)) hdec ⟨hR2.1, hR2.2.1⟩
        · exact va_runSN ⟨hx, hb, hml, hown, hts⟩ hM ⟨⟨⟨rfl, rfl, hRf, hRl, pay_in hts hG, List.mem_cons_self⟩, hts _ wc, hts _ wi, ⟨hd.1, hd.2.1⟩, hlen, (hSt.2.2.2.1 _ wl).use rfl⟩, hts _ ws, trivial⟩ hp1 rfl hn1 hl.1 (aStack ad st b) (lv_room (by rw [aCat]; exact hcat)) hdec ⟨hR2.1, hR2.2.1⟩
    | invokevirtual z =>
      dsimp only [aSpc] at h
      obtain ⟨rfl, wc, wm, wi, wl, wsel, hb1, hd, hm45, hrc⟩ := hsp
      subst hnx
      obtain ⟨rv1, h2, hbl, hcat, hrcv, hx1, hfr, hk⟩ := h
      intro H locs L hP hD hS hl; dsimp only at hP hD hl
      have hG : GoodIn Ts (Cond.code (mt a).1 (mt a).2.1 (mt a).2.2.1 (mt a).2.2.2 :: Ts) := aGoodT hgT (fun w hw => (List.mem_cons.mp hw).elim (fun e => by rw [e]; exact wc) id)
      have hcv : ∃ i, (st.take b).reverse.head? = some (.ref i) ∧ ∃ cellB : Cell, H[ad i]? = some cellB ∧ cellB.vm.isStatics = false ∧ s.vm.findClass (mt a).1.cls = some cellB.cls := by
        obtain ⟨i, hhd, ⟨h15, h20⟩ | ⟨hlv, hki⟩⟩ := hrcv
        · rcases hrc with ⟨-, hstr⟩ | ⟨T0, N0, hc0⟩
          · obtain ⟨g1, g2, g3⟩ := hSt.2.2.2.2.2.2.1 i h15
            obtain ⟨cell, q1, q2, q3, -⟩ := g1.kept hS.2.1
            exact ⟨i, hhd, cell, q1, q2, by rw [hstr]; exact q3⟩
          · have := (List.getElem?_eq_some_iff.mp hc0).1; omega
        · rcases hrc with ⟨h20, hstr⟩ | ⟨T0, N0, hc0⟩
          · exact absurd hki (by have := hk20 i; omega)
          · exact ⟨i, hhd, va_recv (q0 := i) hK hP hc0 (aWd_obj hkd hcl hlv hki hc0)⟩
      obtain ⟨i, hhd, hcell⟩ := hcv
      obtain ⟨as, has, has2⟩ := aHead (ad := ad) hhd
      have hR2 := roomc (hXh _ _ _ _ _ hx1).1 (aRun_h hXh F _ hk (Nat.le_trans h0 (hXh _ _ _ _ _ hx1).1)).1
      have hA1 := aFreeA (H := H) hD hS hA
      have hM := hX _ _ _ _ _ hx1 hok ad H.size
      have hlen : ∀ sig, parseMethodDescriptor (mt a).1.desc = some sig → b - 1 = sig.parameters.length := fun sig hs => by have := hd.2.2; rw [hs] at this; exact (Option.some.inj this).symm
      have hRf : (aRoom dd (h2.1 - h1.1) (aZs kd h2.1 - aZs kd h1.1)).frames + 1 ≤ R.frames := hR.1
      have hRl : 8 + ((mt a).2.2.1 + 11) + (aRoom dd (h2.1 - h1.1) (aZs kd h2.1 - aZs kd h1.1)).locals ≤ R.locals := by show 8 + ((mt a).2.2.1 + 11) + 64 * dd ≤ R.locals; have := hR.2.2.2; omega
      have hn1 : (as.map (aTr ad)).length = b - 1 := by have h9 := congrArg List.length has; simp at h9; simp; omega
      have hstk : st.map (aTr ad) = (as.map (aTr ad)).reverse ++ .ref (ad i) :: (st.drop b).map (aTr ad) := by rw [aStack ad st b, has2, List.reverse_cons, List.append_assoc]; rfl
      have hp1 : PreV s H (mt a).1.cls (ad i) (aPc D cl tys kd fk cy Z SF SK NW AO ad (st.take b).reverse h1 H.size) (as.map (aTr ad)) := ⟨aBlind, hcell, fun U hU hW => by have h9 := aPre (Z := Z) (SF := SF) (SK := SK) (NW := NW) (AO := AO) (vs := (st.take b).reverse) hK hP hD hS hSt hA1 hU hW; rw [has2] at h9; exact h9⟩
      refine aCall_go (tys := tys) (as := (Value.ref (ad i) :: as.map (aTr ad)).toArray) (ls := ls) (h1 := h2) (rv1 := rv1) (A1 := va_A (aWd kd fk cy ad h1) H.size) (mc := h2.1 - h1.1) (ms := aZs kd h2.1 - aZs kd h1.1) ?_ hS hA1 hl hfr hR2.2.2.1 hR2.2.2.2 (fun ad1 he hs => after (_, _, _, h1) _ hk (hXh _ _ _ _ _ hx1).1 ((hXh _ _ _ _ _ hx1).2 hok) ad1 he hs)
      exact va_runV ⟨hx, hb, hml, hown, hts⟩ hM ⟨⟨rfl, rfl, hRf, hRl, pay_in hts hG, List.mem_cons_self, hts _ wc, hts _ wi, ⟨hd.1, hd.2.1⟩, hlen, hts _ wl⟩, hts _ wm, hts _ wsel⟩ hp1 rfl hn1 hl.1 hstk (lv_room (by rw [aCat]; exact hcat)) hdec ⟨hR2.1, hR2.2.1⟩
    | invokespecial z =>
      dsimp only [aSpc] at h
      obtain ⟨rfl, hsp⟩ := hsp
      subst hnx
      split at h
      next ht8 =>
        rw [if_pos ht8] at hsp
        obtain ⟨w1, w2, w3⟩ := hsp
        split at h
        next i r =>
          obtain ⟨hcat, hk⟩ := h
          intro H locs L hP hD hS hl; dsimp only at hP hD hl
          refine W.objInit hx hb hown (hts _ w1) (hts _ w2) (hts _ w3) rfl (hl.1.trans hml.symm) rfl hdec (Nat.le_trans (Nat.succ_le_succ (Nat.zero_le _)) hR.1) (Nat.le_trans (Nat.add_le_add_right (lv_room (m := m) (pc := pc) (ls := L) (rest := (.ref (ad i) :: r.map (aTr ad))) (st := r.map (aTr ad)) (by rw [aCat]; exact hcat)) 12) (by have := hR.2.2.2; omega)) ?_
          exact W.eq rfl (go _ hk rfl hok H locs L hP hD hS hl)
        next => exact h.elim
      next ht8 =>
        rw [if_neg ht8] at hsp
        obtain ⟨wc, hret, hini1, wm, wi, wl, hb1, hd, hm45⟩ := hsp
        obtain ⟨h2, hbl, hcat, ⟨i, hhd⟩, hx1, hfr, hk⟩ := h
        intro H locs L hP hD hS hl; dsimp only at hP hD hl
        obtain ⟨as, has, has2⟩ := aHead (ad := ad) hhd
        have hR2 := roomc (hXh _ _ _ _ _ hx1).1 (aRun_h hXh F _ hk (Nat.le_trans h0 (hXh _ _ _ _ _ hx1).1)).1
        have hA1 := aFreeA (H := H) hD hS hA
        have hM := hX _ _ _ _ _ hx1 hok ad H.size
        have hlen : ∀ sig, parseMethodDescriptor (mt a).1.desc = some sig → b - 1 = sig.parameters.length := fun sig hs => by have := hd.2.2; rw [hs] at this; exact (Option.some.inj this).symm
        have hRf : (aRoom dd (h2.1 - h1.1) (aZs kd h2.1 - aZs kd h1.1)).frames + 1 ≤ R.frames := hR.1
        have hRl : 8 + ((mt a).2.2.1 + 11) + (aRoom dd (h2.1 - h1.1) (aZs kd h2.1 - aZs kd h1.1)).locals ≤ R.locals := by show 8 + ((mt a).2.2.1 + 11) + 64 * dd ≤ R.locals; have := hR.2.2.2; omega
        have hn1 : (as.map (aTr ad)).length = b - 1 := by have h9 := congrArg List.length has; simp at h9; simp; omega
        have hstk : st.map (aTr ad) = (as.map (aTr ad)).reverse ++ .ref (ad i) :: (st.drop b).map (aTr ad) := by rw [aStack ad st b, has2, List.reverse_cons, List.append_assoc]; rfl
        rw [hret] at hM
        have hG : GoodIn Ts (Cond.code (mt a).1 (mt a).2.1 (mt a).2.2.1 none :: Ts) := aGoodT hgT (fun w hw => (List.mem_cons.mp hw).elim (fun e => by rw [e]; exact wc) id)
        have hp1 : PreS s H (aPc D cl tys kd fk cy Z SF SK NW AO ad (st.take b).reverse h1 H.size) (.ref (ad i) :: as.map (aTr ad)) := ⟨aBlind, fun U hU hW => by have h9 := aPre (Z := Z) (SF := SF) (SK := SK) (NW := NW) (AO := AO) (vs := (st.take b).reverse) hK hP hD hS hSt hA1 hU hW; rw [has2] at h9; exact h9⟩
        refine aCall_go (tys := tys) (as := (Value.ref (ad i) :: as.map (aTr ad)).toArray) (ls := ls) (h1 := h2) (rv1 := none) (A1 := va_A (aWd kd fk cy ad h1) H.size) (mc := h2.1 - h1.1) (ms := aZs kd h2.1 - aZs kd h1.1) ?_ hS hA1 hl hfr hR2.2.2.1 hR2.2.2.2 (fun ad1 he hs => after (_, _, _, h1) _ hk (hXh _ _ _ _ _ hx1).1 ((hXh _ _ _ _ _ hx1).2 hok) ad1 he hs)
        rcases wl with wl | ⟨host, wl⟩
        · exact va_runI ⟨hx, hb, hml, hown, hts⟩ hM ⟨⟨rfl, rfl, hRf, hRl, pay_in hts hG, List.mem_cons_self, hts _ wc, hts _ wi, ⟨hd.1, hd.2.1⟩, hlen, hts _ wl⟩, hini1, hts _ wm⟩ hp1 rfl hn1 hl.1 hstk (lv_room (by rw [aCat]; exact hcat)) hdec ⟨hR2.1, hR2.2.1⟩
        · exact va_runIN ⟨hx, hb, hml, hown, hts⟩ hM ⟨⟨⟨rfl, rfl, hRf, hRl, pay_in hts hG, List.mem_cons_self⟩, hts _ wc, hts _ wi, ⟨hd.1, hd.2.1⟩, hlen, (hSt.2.2.2.1 _ wl).use rfl⟩, hini1, hts _ wm⟩ hp1 rfl hn1 hl.1 hstk (lv_room (by rw [aCat]; exact hcat)) hdec ⟨hR2.1, hR2.2.1⟩
    | _ => exact h.elim
theorem aRetQ (hx : p.tables.exec = Jvm.exec) (hb : c.code = cc) (hlk : meth.locks = false) (hrt : meth.sig.returnType = ret) {adS : Nat → Nat} {rv : Option Value} {hh : aH} (pc t : Nat) (ls : aL) (ad : Nat → Nat) (w : Option Value) (ins : Instr) (hdec : decode cc pc = .ok (ins, 1)) (hr : aRet ret t w ins) (e1 : rv = w) (h1 : aH) (e2 : hh = h1) (hext : ∀ i, (i < nS ∨ 1000 ≤ i) → ad i = adS i) (hsame : h1.1 = nS → ad = adS) :
    aSW p l e R s m args below meth c (MQ below (aQc D cl tys kd fk cy adS nS A rv hh) args s (hh.1 - nS) (aZs kd hh.1 - aZs kd nS) A) D cl A nL nS kd fk cy (aZs kd) ad (pc, ls, w.toList, h1) := by
  subst e1; subst e2
  intro H locs L hP hD hS hl
  dsimp only at hP hD hl
  have hq : ∀ t : State, t.heap = H → s.WarmedH t.vm → aQc D cl tys kd fk cy adS nS A rv hh args s (.returned (rv.map (aTr ad))) t := fun t ht hW => ⟨⟨ad, hext, hsame, rfl, by rw [ht]; exact hP, hD⟩, hS.F ht⟩
  cases ins with
  | ireturn =>
    obtain ⟨x, rfl, ht, hr⟩ := hr
    rcases hr with ⟨ht0, hr0⟩ | ⟨ht1, hr1⟩ | ⟨ht1, hr1⟩ | ⟨ht1, hr1⟩
    · exact W.iret hx hb (hrt.trans hr0) hq hS.2.2 hdec (hlocks := hlk)
    · refine W.zret hx hb (hrt.trans hr1) ?_ hq hS.2.2 hdec (hlocks := hlk)
      rcases ht with h9 | ⟨-, rfl | rfl⟩ | ⟨h9, -⟩ | ⟨h9, -⟩ <;> first | rfl | omega
    · refine W.zret hx hb (hrt.trans hr1) ?_ hq hS.2.2 hdec (hlocks := hlk)
      rcases ht with h9 | ⟨h9, -⟩ | ⟨-, rfl⟩ | ⟨h9, -⟩ <;> first | rfl | omega
    · refine W.zret hx hb (hrt.trans hr1) ?_ hq hS.2.2 hdec (hlocks := hlk)
      rcases ht with h9 | ⟨h9, -⟩ | ⟨h9, -⟩ | ⟨-, h9⟩ <;> first | exact h9 | omega
  | lreturn =>
    obtain ⟨x, rfl, hr⟩ := hr
    exact W.lret hx hb (hrt.trans hr) hq hS.2.2 hdec (hlocks := hlk)
  | areturn =>
    obtain ⟨rfl | ⟨x, rfl⟩, rt, hr0, hr1⟩ := hr
    · exact W.aret hx hb (hrt.trans hr0) hr1 (Or.inl rfl) hq hS.2.2 hdec (hlocks := hlk)
    · exact W.aret hx hb (hrt.trans hr0) hr1 (Or.inr ⟨_, rfl⟩) hq hS.2.2 hdec (hlocks := hlk)
  | return_ =>
    obtain ⟨rfl, hr⟩ := hr
    exact W.vret hx hb (hrt.trans hr) hq hS.2.2 hdec (hlocks := hlk)
  | _ => exact hr.elim
end RS
