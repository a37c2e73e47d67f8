section RS
variable {p : Program} {l : Launch} {e : Env} {R : Room} {s : State} {m : MethodId} {args : Array Value} {below : List Frame} {meth : Method} {c : Code}
variable {cc : ByteArray} {D : va_G} {cl : List vw_C} {A : Nat → Prop} {tys : List (ClassId × FieldType)} {Ts : List Jvm.Cond} {SF : List (String × String × String × Nat)} {NW : List aNt} {AO : List String} {mt : Nat → aMt} {own : String} {nL nS dd n0 : Nat} {ini : Bool} {ret : Option FieldType}
variable {kd : Nat → Nat × Nat} {fk : Nat → Nat → Nat} {cy : Nat → ClassId} {Z : aZ} {X : aX}
set_option maxHeartbeats 8000000 in
theorem aRun_sound (hx : p.tables.exec = Jvm.exec) (hb : c.code = cc) (hml : c.maxLocals = nL) (hts : ∀ w ∈ Ts, w.before args s = true) (hgT : ∀ w ∈ Ts, goodWord w = true) (htab : aTab cl fk Ts) (hkd : ∀ i, (kd i).1 < 7 → ∃ C T, cl[(kd i).1]? = some (C, T, (kd i).2)) (hcl : cl.length ≤ 7)
    (hown : s.vm.findClass own = some m.cls) (hini : ini = true → meth.name = "<init>") (hK : va_K D cl tys s) (hty : aTys cy tys) (hlk : meth.locks = false) (hrt : meth.sig.returnType = ret)
    (hsf : ∀ q ∈ SF, 1000 ≤ q.2.2.2) (hk13 : ∀ i, 13 ≤ (kd i).1 → 1000 ≤ i) (hX : aXm l D cl tys kd fk cy Z SF NW AO Ts mt dd X) (hXh : aXh X) {cd : Nat → Option aI} (hgood : ∀ pc ai, cd pc = some ai → aGood cl fk cy tys Ts SF NW AO mt own cc nL ini ret pc ai)
    (hA : ∀ q, s.heap.size ≤ q → A q) {adS : Nat → Nat} (hSt0 : aSt kd Z SF NW AO adS A s s.heap) {rv : Option Value} {hh : aH} (hR : R = aRoom (dd + 1) (hh.1 - nS) (aZs kd hh.1 - aZs kd nS)) :
    ∀ (F : Nat) (x : aC) (ad : Nat → Nat), aRun kd Z n0 X cd F x rv hh → n0 ≤ x.2.2.2.1 → nS ≤ x.2.2.2.1 → aHok x.2.2.2 → (∀ i, (i < nS ∨ 1000 ≤ i) → ad i = adS i) → (x.2.2.2.1 = nS → ad = adS) →
      aSW p l e R s m args below meth c (MQ below (aQc D cl tys kd fk cy adS nS A rv hh) args s (hh.1 - nS) (aZs kd hh.1 - aZs kd nS) A) D cl A nL nS kd fk cy (aZs kd) ad x := by
  intro F
  induction F with
  | zero => intro x ad h; exact h.elim
  | succ F ih =>
    intro x ad h h0 hS0 hok hext hsame
    have hmon := aRun_h hXh (F + 1) x h h0
    unfold aRun at h
    split at h
    next => exact h.elim
    next ai hai =>
    have hg := hgood _ _ hai
    have hSt : aSt kd Z SF NW AO ad A s s.heap := aSt_ad hsf hk13 (fun i hi => hext i (Or.inr hi)) hSt0
    obtain ⟨ins, nx, a, b, t, v⟩ := ai
    obtain ⟨pc, ls, st, h1⟩ := x
    dsimp only at h0 hS0 hok hsame hmon hai
    obtain ⟨len, hdec, hnx, hsd, hsp⟩ := hg
    split at h
    next x' hstp =>
      obtain ⟨e1, e2⟩ := aStp_h hstp
      dsimp only at e1 e2
      exact aStp_sound (n0 := n0) hx hb hts htab hkd hcl hown hini hK hty hSt.1 h0 hdec hnx hsd hstp (ih x' ad h (by rw [e1]; exact h0) (by rw [e1]; exact hS0) (e2 h0 hok) hext (fun q => hsame (by rw [← e1]; exact q)))
    next hstp =>
    clear hstp
    have go : ∀ x' : aC, aRun kd Z n0 X cd F x' rv hh → x'.2.2.2.1 = h1.1 → aHok x'.2.2.2 → aSW p l e R s m args below meth c (MQ below (aQc D cl tys kd fk cy adS nS A rv hh) args s (hh.1 - nS) (aZs kd hh.1 - aZs kd nS) A) D cl A nL nS kd fk cy (aZs kd) ad x' :=
      fun x' hr hn hk => ih x' ad hr (by rw [hn]; exact h0) (by rw [hn]; exact hS0) hk hext (fun q => hsame (by rw [← hn]; exact q))
    have hq : ∀ (H : Heap) (locs : List Loc) (w : Option Value), rv = w → hh = h1 → va_P D cl (aWd kd fk cy ad h1) H → va_D A (aWd kd fk cy ad h1) → va_S A s.heap H locs → ∀ t : State, t.heap = H → s.WarmedH t.vm → aQc D cl tys kd fk cy adS nS A rv hh args s (.returned (w.map (aTr ad))) t := by
      intro H locs w e1 e2 hP hD hS t ht hW
      subst e1; subst e2
      exact ⟨⟨ad, hext, hsame, rfl, by rw [ht]; exact hP, hD⟩, hS.F ht⟩
    cases ins with
    | ireturn =>
      dsimp only [aSpc] at h
      subst hnx
      cases (show len = 1 from hsd)
      split at h
      next x =>
        obtain ⟨ht, e1, e2⟩ := h
        subst e1; subst e2
        intro H locs L hP hD hS hl; dsimp only at hP hD hl
        rcases hsp with ⟨ht0, hr0⟩ | ⟨ht1, hr1⟩
        · exact W.iret hx hb (hrt.trans hr0) (hq H locs (some (.int x)) rfl rfl hP hD hS) hS.2.2 hdec (hlocks := hlk)
        · refine W.zret hx hb (hrt.trans hr1) ?_ (hq H locs (some (.int x)) rfl rfl hP hD hS) hS.2.2 hdec (hlocks := hlk)
          rcases ht with h9 | rfl | rfl
          · omega
          · rfl
          · rfl
      next => exact h.elim
    | lreturn =>
      dsimp only [aSpc] at h
      subst hnx
      cases (show len = 1 from hsd)
      split at h
      next x =>
        obtain ⟨e1, e2⟩ := h
        subst e1; subst e2
        intro H locs L hP hD hS hl; dsimp only at hP hD hl
        exact W.lret hx hb (hrt.trans hsp) (hq H locs (some (.long x)) rfl rfl hP hD hS) hS.2.2 hdec (hlocks := hlk)
      next => exact h.elim
    | areturn =>
      dsimp only [aSpc] at h
      subst hnx
      cases (show len = 1 from hsd)
      split at h
      next x =>
        obtain ⟨e1, e2⟩ := h
        subst e1; subst e2
        intro H locs L hP hD hS hl; dsimp only at hP hD hl
        obtain ⟨rt, hr0, hr1⟩ := hsp
        exact W.aret hx hb (hrt.trans hr0) hr1 (Or.inr ⟨_, rfl⟩) (hq H locs (some (.ref x)) rfl rfl hP hD hS) hS.2.2 hdec (hlocks := hlk)
      next =>
        obtain ⟨e1, e2⟩ := h
        subst e1; subst e2
        intro H locs L hP hD hS hl; dsimp only at hP hD hl
        obtain ⟨rt, hr0, hr1⟩ := hsp
        exact W.aret hx hb (hrt.trans hr0) hr1 (Or.inl rfl) (hq H locs (some .null) rfl rfl hP hD hS) hS.2.2 hdec (hlocks := hlk)
      next => exact h.elim
    | return_ =>
      dsimp only [aSpc] at h
      subst hnx
      cases (show len = 1 from hsd)
      split at h
      next =>
        obtain ⟨e1, e2⟩ := h
        subst e1; subst e2
        intro H locs L hP hD hS hl; dsimp only at hP hD hl
        exact W.vret hx hb (hrt.trans hsp) (hq H locs none rfl rfl hP hD hS) hS.2.2 hdec (hlocks := hlk)
      next => exact h.elim
    | idiv =>
      dsimp only [aSpc] at h
      subst hnx
      cases (show len = 1 from hsd)
      split at h
      next y x r =>
        obtain ⟨hne, hk⟩ := h
        intro H locs L hP hD hS hl; dsimp only at hP hD hl
        exact lv_idiv hx hb hdec hne (go _ hk rfl hok H locs L hP hD hS hl)
      next => exact h.elim
    | irem =>
      dsimp only [aSpc] at h
      subst hnx
      cases (show len = 1 from hsd)
      split at h
      next y x r =>
        obtain ⟨hne, hk⟩ := h
        intro H locs L hP hD hS hl; dsimp only at hP hD hl
        exact lv_irem hx hb hdec hne (go _ hk rfl hok H locs L hP hD hS hl)
      next => exact h.elim
    | ldiv =>
      dsimp only [aSpc] at h
      subst hnx
      cases (show len = 1 from hsd)
      split at h
      next y x r =>
        obtain ⟨hne, hk⟩ := h
        intro H locs L hP hD hS hl; dsimp only at hP hD hl
        exact lv_ldiv hx hb hdec hne (go _ hk rfl hok H locs L hP hD hS hl)
      next => exact h.elim
    | lrem =>
      dsimp only [aSpc] at h
      subst hnx
      cases (show len = 1 from hsd)
      split at h
      next y x r =>
        obtain ⟨hne, hk⟩ := h
        intro H locs L hP hD hS hl; dsimp only at hP hD hl
        exact lv_lrem hx hb hdec hne (go _ hk rfl hok H locs L hP hD hS hl)
      next => exact h.elim
    | arraylength =>
      dsimp only [aSpc] at h
      subst hnx
      cases (show len = 1 from hsd)
      split at h
      next i r =>
        obtain ⟨h13, hk⟩ := h
        intro H locs L hP hD hS hl; dsimp only at hP hD hl
        exact aTlen hx hb (hSt.2.1 i h13) hS hdec (go _ hk rfl hok H locs L hP hD hS hl)
      next => exact h.elim
    | iaload =>
      dsimp only [aSpc] at h
      subst hnx
      cases (show len = 1 from hsd)
      split at h
      next j i r =>
        obtain ⟨hin, ⟨hlv, h7, hk⟩ | ⟨h13, hk⟩⟩ := h
        · intro H locs L hP hD hS hl; dsimp only at hP hD hl
          exact va_iald hx hb hK hP i 0 (by rw [← aEn_7 h7]; exact aWd_at hlv) hty.1 hin hdec (go _ hk rfl hok H locs L hP hD hS hl)
        · intro H locs L hP hD hS hl; dsimp only at hP hD hl
          exact va_ti hx hb (hSt.2.1 i h13) hS hin rfl hdec (go _ hk rfl hok H locs L hP hD hS hl)
      next => exact h.elim
    | laload =>
      dsimp only [aSpc] at h
      subst hnx
      cases (show len = 1 from hsd)
      split at h
      next j i r =>
        obtain ⟨hin, ⟨hlv, h7, hk⟩ | ⟨h13, hk⟩⟩ := h
        · intro H locs L hP hD hS hl; dsimp only at hP hD hl
          exact va_lald hx hb hK hP i 1 (by rw [← aEn_8 h7]; exact aWd_at hlv) hty.2.1 hin hdec (go _ hk rfl hok H locs L hP hD hS hl)
        · intro H locs L hP hD hS hl; dsimp only at hP hD hl
          exact va_tl hx hb (hSt.2.2.1 i h13) hS hin rfl hdec (go _ hk rfl hok H locs L hP hD hS hl)
      next => exact h.elim
    | baload =>
      dsimp only [aSpc] at h
      subst hnx
      cases (show len = 1 from hsd)
      split at h
      next j i r =>
        obtain ⟨hin, hlv, h7, hk⟩ := h
        intro H locs L hP hD hS hl; dsimp only at hP hD hl
        exact va_zald hx hb hK hP i 2 (by rw [← aEn_9 h7]; exact aWd_at hlv) hty.2.2.1 hin hdec (go _ hk rfl hok H locs L hP hD hS hl)
      next => exact h.elim
    | aaload =>
      dsimp only [aSpc] at h
      subst hnx
      cases (show len = 1 from hsd)
      split at h
      next j i r =>
        obtain ⟨hin, hlv, h7, h12, hk⟩ := h
        intro H locs L hP hD hS hl; dsimp only at hP hD hl
        obtain ⟨t0, C0, ht0⟩ := aTys_q hty h7 h12
        have k1 := go _ hk rfl hok H locs L hP hD hS hl
        dsimp only [List.map_cons] at k1
        rw [List.map_cons, aTr_rf] at k1
        exact va_aldq hx hb hK hP i t0 (by rw [← aEn_q h7]; exact aWd_at hlv) ht0 hin hdec k1
      next => exact h.elim
    | iastore =>
      dsimp only [aSpc] at h
      subst hnx
      cases (show len = 1 from hsd)
      split at h
      next x j i r =>
        obtain ⟨hin, hlv, h7, hk⟩ := h
        intro H locs L hP hD hS hl; dsimp only at hP hD hl
        refine va_iast hx hb hK hP hD hS i 0 (by rw [← aEn_7 h7]; exact aWd_at hlv) hty.1 hin hdec (fun H1 locs1 hP1 hD1 hS1 => ?_)
        rw [aWd_set (kd := kd) (fk := fk) (cy := cy) (ad := ad) (h := h1) (h' := (h1.1, up2 h1.2.1 i j.toNatClampNeg x, h1.2.2.1, h1.2.2.2)) rfl (by rw [aEn_7 h7]; dsimp only; rw [up2_upd]) (fun j hj => aEn_eq (up2_ne hj) rfl rfl)] at hP1 hD1
        exact go _ hk rfl hok H1 locs1 L hP1 hD1 hS1 hl
      next => exact h.elim
    | lastore =>
      dsimp only [aSpc] at h
      subst hnx
      cases (show len = 1 from hsd)
      split at h
      next x j i r =>
        obtain ⟨hin, hlv, h7, hk⟩ := h
        intro H locs L hP hD hS hl; dsimp only at hP hD hl
        refine va_last hx hb hK hP hD hS i 1 (by rw [← aEn_8 h7]; exact aWd_at hlv) hty.2.1 hin hdec (fun H1 locs1 hP1 hD1 hS1 => ?_)
        rw [aWd_set (kd := kd) (fk := fk) (cy := cy) (ad := ad) (h := h1) (h' := (h1.1, h1.2.1, up2 h1.2.2.1 i j.toNatClampNeg x, h1.2.2.2)) rfl (by rw [aEn_8 h7]; dsimp only; rw [up2_updL]) (fun j hj => aEn_eq rfl (up2_ne hj) rfl)] at hP1 hD1
        exact go _ hk rfl hok H1 locs1 L hP1 hD1 hS1 hl
      next => exact h.elim
    | bastore =>
      dsimp only [aSpc] at h
      subst hnx
      cases (show len = 1 from hsd)
      split at h
      next x j i r =>
        obtain ⟨hin, hlv, h7, hx01, hk⟩ := h
        intro H locs L hP hD hS hl; dsimp only at hP hD hl
        refine va_zast hx hb hK hP hD hS i 2 (by rw [← aEn_9 h7]; exact aWd_at hlv) hty.2.2.1 hin hdec (fun H1 locs1 hP1 hD1 hS1 => ?_)
        rw [aWd_set (kd := kd) (fk := fk) (cy := cy) (ad := ad) (h := h1) (h' := (h1.1, up2 h1.2.1 i j.toNatClampNeg x, h1.2.2.1, h1.2.2.2)) rfl (by rw [aEn_9 h7]; dsimp only; rw [vp_nar01 hx01, up2_upd]) (fun j hj => aEn_eq (up2_ne hj) rfl rfl)] at hP1 hD1
        exact go _ hk rfl hok H1 locs1 L hP1 hD1 hS1 hl
      next => exact h.elim
    | aastore =>
      dsimp only [aSpc] at h
      subst hnx
      cases (show len = 1 from hsd)
      split at h
      next w j i r =>
        obtain ⟨hin, hlv, h10, h12, hlw, hkw, hki, hk⟩ := h
        intro H locs L hP hD hS hl; dsimp only at hP hD hl
        obtain ⟨⟨C0, T0, N0⟩, t0, hr0, ht0⟩ := hsp
        refine va_astq (r := (C0, T0, N0)) (f := fun k => (h1.2.2.2 i k).map ad) hx hb hK hP hD hS i t0 w a (by rw [← aEn_q h10]; exact aWd_at hlv) (by rw [hki]; exact ht0) (aWd_obj hkd hcl hlw hkw hr0) hr0 hin hdec (fun H1 locs1 hP1 hD1 hS1 => ?_)
        rw [aWd_set (kd := kd) (fk := fk) (cy := cy) (ad := ad) (h := h1) (h' := (h1.1, h1.2.1, h1.2.2.1, up2 h1.2.2.2 i j.toNatClampNeg (some w))) rfl (by rw [aEn_q h10]; dsimp only; rw [up2_map]) (fun j hj => aEn_eq rfl rfl (up2_ne hj))] at hP1 hD1
        exact go _ hk rfl (aHok_up hok hlw) H1 locs1 L hP1 hD1 hS1 hl
      next => exact h.elim
    | putfield z =>
      dsimp only [aSpc] at h
      obtain ⟨rfl, C, T, N, hcl1, hb1, hw, hft, hfin⟩ := hsd
      subst hnx
      split at h
      next x i r =>
        obtain ⟨hlv, hki, ht, hx01, hk⟩ := h
        refine aPut_sound (h' := (h1.1, up2 h1.2.1 i b x, h1.2.2.1, h1.2.2.2)) hx hb hts htab hkd hcl hown hini hK hlv hki hcl1 hb1 hw hfin hdec (fun ty hty1 => ?_) rfl ?_ ?_ ?_ (go _ hk rfl hok)
        · rw [hft, ht] at hty1
          rcases hty1 with ⟨h4, rfl⟩ | ⟨h4, rfl⟩ | ⟨h4, rfl⟩ | ⟨h4, ⟨q, rfl⟩ | ⟨q, rfl⟩⟩ <;> first | exact absurd h4 (by decide) | (rcases hx01 with rfl | rfl <;> exact ⟨rfl, rfl⟩)
        · rw [hft, ht]; show _ = _; simp [aFv, up2_at, aTr]
        · intro q hq; unfold aFv; split <;> simp [up2_at, hq]
        · intro q hq; exact aEn_eq (up2_ne hq) rfl rfl
      next => exact h.elim
    | tableswitch d lo hi offs =>
      dsimp only [aSpc] at h
      subst hnx
      split at h
      next x r =>
        rcases h with ⟨ho, hk⟩ | ⟨off, ho, hlo, hhi, hk⟩
        · intro H locs L hP hD hS hl; dsimp only at hP hD hl
          exact lv_tableOut hx hb hdec ho (Int.toNat_of_nonneg hsp.1).symm (go _ hk rfl hok H locs L hP hD hS hl)
        · intro H locs L hP hD hS hl; dsimp only at hP hD hl
          exact lv_tableIn hx hb hdec hlo hhi ho (Int.toNat_of_nonneg (hsp.2 off (Array.mem_toList_iff.mpr (Array.mem_of_getElem? ho)))).symm (go _ hk rfl hok H locs L hP hD hS hl)
      next => exact h.elim
    | lookupswitch d ps =>
      dsimp only [aSpc] at h
      subst hnx
      split at h
      next x r =>
        intro H locs L hP hD hS hl; dsimp only at hP hD hl
        exact lv_lookup hx hb hdec hsp.1 rfl (Int.toNat_of_nonneg (aLook hsp.2.1 hsp.2.2)).symm (go _ h rfl hok H locs L hP hD hS hl)
      next => exact h.elim
    | new z =>
      dsimp only [aSpc] at h
      sorry
    | newarray z =>
      dsimp only [aSpc] at h
      sorry
    | anewarray z =>
      dsimp only [aSpc] at h
      sorry
    | invokestatic z =>
      dsimp only [aSpc] at h
      sorry
    | invokevirtual z =>
      dsimp only [aSpc] at h
      sorry
    | invokespecial z =>
      dsimp only [aSpc] at h
      sorry
    | _ => exact h.elim
end RS
