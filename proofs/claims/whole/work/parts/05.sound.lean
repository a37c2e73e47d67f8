section ST
variable {p : Program} {l : Launch} {e : Env} {R : Room} {s : State} {m : MethodId} {args : Array Value} {below : List Frame} {meth : Method} {c : Code} {Q : State → Prop}
variable {cc : ByteArray} {D : va_G} {cl : List vw_C} {A : Nat → Prop} {tys : List (ClassId × FieldType)} {Ts : List Jvm.Cond} {SF : List (String × String × String × Value)} {SK : List (String × Nat × String × Nat)} {own : String} {nL nS : Nat} {ini : Bool}
variable {kd : Nat → Nat × Nat} {fk : Nat → Nat → Nat} {cy : Nat → ClassId} {zs : Nat → Nat}
/-- which class ids the arrays have -/
def aTys (cy : Nat → ClassId) (tys : List (ClassId × FieldType)) : Prop := tys[0]? = some (cy 7, .int) ∧ tys[1]? = some (cy 8, .long) ∧ tys[2]? = some (cy 9, .boolean) ∧ (∃ C, tys[3]? = some (cy 10, .object C)) ∧ (∃ C, tys[4]? = some (cy 11, .object C)) ∧ (∃ C, tys[5]? = some (cy 12, .object C))
theorem aEn_eq {h h' : aH} {ad : Nat → Nat} {j : Nat} (h1 : h'.2.1 j = h.2.1 j) (h2 : h'.2.2.1 j = h.2.2.1 j) (h3 : h'.2.2.2 j = h.2.2.2 j) : aEn kd fk cy h' ad j = aEn kd fk cy h ad j := by
  unfold aEn aFv
  rw [h1, h2, h3]
theorem aEn_arr {h : aH} {ad : Nat → Nat} {i : Nat} (h7 : 7 ≤ (kd i).1) : ∃ x : vp_A, aEn kd fk cy h ad i = .inl (cy (kd i).1, x) ∧ x.1 = (kd i).2 := by
  unfold aEn
  rw [if_neg (Nat.not_lt.mpr h7)]
  by_cases h8 : (kd i).1 = 8
  · rw [if_pos h8, h8]; exact ⟨_, rfl, rfl⟩
  · rw [if_neg h8]
    by_cases h10 : 10 ≤ (kd i).1
    · rw [if_pos h10]; exact ⟨_, rfl, rfl⟩
    · rw [if_neg h10]; exact ⟨_, rfl, rfl⟩
theorem aWd_obj {h : aH} {ad : Nat → Nat} {i ci N : Nat} {C : String} {T : u_T} (hkd : ∀ i, (kd i).1 < 7 → ∃ C T, cl[(kd i).1]? = some (C, T, (kd i).2)) (hcl : cl.length ≤ 7) (hi : i < h.1) (hk : (kd i).1 = ci) (hc : cl[ci]? = some (C, T, N)) :
    (aWd kd fk cy ad h)[i]? = some (ad i, .inr (ci, (List.range N).map (fun k => aFv h ad (fk ci k) i k))) := by
  have h7 : ci < 7 := Nat.lt_of_lt_of_le (List.getElem?_eq_some_iff.mp hc).1 hcl
  subst hk
  obtain ⟨C1, T1, e⟩ := hkd i h7
  rw [hc] at e
  cases e
  rw [aWd_at hi]
  unfold aEn
  rw [if_pos h7]
theorem aPut_sound (hx : p.tables.exec = Jvm.exec) (hb : c.code = cc) (hts : ∀ w ∈ Ts, w.before args s = true) (htab : aTab cl fk Ts) (hkd : ∀ i, (kd i).1 < 7 → ∃ C T, cl[(kd i).1]? = some (C, T, (kd i).2)) (hcl : cl.length ≤ 7)
    (hown : s.vm.findClass own = some m.cls) (hini : ini = true → meth.name = "<init>") (hK : va_K D cl tys s) {ad : Nat → Nat} {i ci b N pc z : Nat} {C : String} {T : u_T} {w : Value} {h h' : aH} {ls : aL} {r : List Value}
    (hlive : i < h.1) (hk1 : (kd i).1 = ci) (hcl1 : cl[ci]? = some (C, T, N)) (hb1 : b < N) (hw : Cond.fieldLink own z (T b).1 (T b).2.1 (T b).2.2.1 ∈ Ts) (hfin : (T b).2.2.2 = true → ini = true ∧ (T b).1 = own) (hdec : decode cc pc = .ok (.putfield z, 3))
    (hfit : ∀ ty : FieldType, ((fk ci b = 0 ∧ ty = .int) ∨ (fk ci b = 1 ∧ ty = .long) ∨ (fk ci b = 3 ∧ ty = .boolean) ∨ (fk ci b = 2 ∧ ((∃ n, ty = .object n) ∨ ∃ n, ty = .array n))) → narrow ty (aTr ad w) = aTr ad w ∧ fits ty (aTr ad w) = true)
    (hn : h'.1 = h.1) (hv : aFv h' ad (fk ci b) i b = aTr ad w) (ho1 : ∀ j, j ≠ b → aFv h' ad (fk ci j) i j = aFv h ad (fk ci j) i j) (ho2 : ∀ j, j ≠ i → aEn kd fk cy h' ad j = aEn kd fk cy h ad j)
    (k : aSW p l e R s m args below meth c Q D cl A nL nS kd fk cy zs ad (pc + 3, ls, r, h')) : aSW p l e R s m args below meth c Q D cl A nL nS kd fk cy zs ad (pc, ls, w :: .ref i :: r, h) := by
  intro H locs L hP hD hS hl
  obtain ⟨hin1, hnm1, ty, hty1, hty2⟩ := htab ci C T N hcl1
  have hat := aWd_obj (fk := fk) (cy := cy) (ad := ad) hkd hcl hlive hk1 hcl1
  obtain ⟨hf1, hf2⟩ := hfit (ty b) (hty2 b hb1)
  have hat' := aWd_obj (fk := fk) (cy := cy) (ad := ad) hkd hcl (h := h') (by rw [hn]; exact hlive) hk1 hcl1
  have hen : aEn kd fk cy h' ad i = .inr (ci, (List.range N).map (fun k => aFv h' ad (fk ci k) i k)) := by
    have h9 := aWd_at (kd := kd) (fk := fk) (cy := cy) (ad := ad) (h := h') (i := i) (by rw [hn]; exact hlive)
    rw [hat'] at h9
    exact (Prod.mk.inj (Option.some.inj h9)).2.symm
  have hset : (aWd kd fk cy ad h).set i (ad i, .inr (ci, ((List.range N).map (fun k => aFv h ad (fk ci k) i k)).set b (aTr ad w))) = aWd kd fk cy ad h' := by
    refine aWd_set hn ?_ ho2
    rw [hen, aSet_map (f := fun j => aFv h ad (fk ci j) i j) (g := fun j => aFv h' ad (fk ci j) i j) hv ho1]
  by_cases hfi : (T b).2.2.2 = true
  · obtain ⟨h1, h2⟩ := hfin hfi
    refine va_putF hx hb hts hin1 ty hty1 hnm1 hown hK hP hD hS i hat hcl1 b hb1 (hts _ hw) (fun _ h9 => h9) hfi (hini h1) h2 (hty1 b hb1) hf1 hf2 (by simp [hb1]) hdec (fun H1 locs1 hP1 hD1 hS1 => ?_)
    rw [hset] at hP1 hD1
    have k1 := k H1 locs1 L hP1 hD1 hS1 hl
    dsimp only at k1
    rw [hn] at k1
    exact k1
  · refine va_put hx hb hts hin1 ty hty1 hnm1 hown hK hP hD hS i hat hcl1 b hb1 (hts _ hw) (fun _ h9 => h9) (by simpa using hfi) (hty1 b hb1) hf1 hf2 (by simp [hb1]) hdec (fun H1 locs1 hP1 hD1 hS1 => ?_)
    rw [hset] at hP1 hD1
    have k1 := k H1 locs1 L hP1 hD1 hS1 hl
    dsimp only at k1
    rw [hn] at k1
    exact k1
theorem aVal_tr {h : aH} {ad : Nat → Nat} {t f i b : Nat} (hft : (t = 1 ∧ f = 1) ∨ (t = 2 ∧ f = 2) ∨ (t = 0 ∧ (f = 0 ∨ f = 3))) : aTr ad (aVal h t i b) = aFv h ad f i b := by
  rcases hft with ⟨rfl, rfl⟩ | ⟨rfl, rfl⟩ | ⟨rfl, rfl | rfl⟩
  · rfl
  · exact aTr_rf ad _
  · rfl
  · rfl
theorem aTys_at {cy : Nat → ClassId} {tys : List (ClassId × FieldType)} (hty : aTys cy tys) {q : Nat} (h7 : 7 ≤ q) (h12 : q ≤ 12) : ∃ (t0 : Nat) (ty : FieldType), tys[t0]? = some (cy q, ty) := by
  obtain ⟨a0, a1, a2, ⟨c3, a3⟩, ⟨c4, a4⟩, ⟨c5, a5⟩⟩ := hty
  have : q = 7 ∨ q = 8 ∨ q = 9 ∨ q = 10 ∨ q = 11 ∨ q = 12 := by omega
  rcases this with rfl | rfl | rfl | rfl | rfl | rfl
  · exact ⟨_, _, a0⟩
  · exact ⟨_, _, a1⟩
  · exact ⟨_, _, a2⟩
  · exact ⟨_, _, a3⟩
  · exact ⟨_, _, a4⟩
  · exact ⟨_, _, a5⟩
theorem aHok_up {h : aH} {i b j : Nat} (hk : aHok h) (hj : j < h.1) : aHok (h.1, h.2.1, h.2.2.1, up2 h.2.2.2 i b (some j)) := by
  intro x y z hx hz
  dsimp only at hx hz ⊢
  by_cases hxi : x = i
  · subst hxi
    rw [up2_at] at hz
    split at hz
    · cases hz; exact hj
    · exact hk x y z hx hz
  · rw [up2_ne hxi] at hz
    exact hk x y z hx hz
set_option maxHeartbeats 4000000 in
theorem aStp_h {n0 : Nat} {ai : aI} {x y : aC} (h : aStp kd n0 ai x = some y) : y.2.2.2.1 = x.2.2.2.1 ∧ (n0 ≤ x.2.2.2.1 → aHok x.2.2.2 → aHok y.2.2.2) := by
  obtain ⟨ins, nx, a, b, t, v⟩ := ai
  obtain ⟨pc, ls, st, hh⟩ := x
  cases ins with
  | putfield z =>
    dsimp only [aStp] at h
    split at h
    next x i r =>
      cases hc : ((Nat.blt i n0 || Nat.blt i hh.1) && Nat.beq (kd i).1 a && Nat.beq t 0) with
      | false => rw [hc] at h; cases h
      | true => rw [hc] at h; cases h; exact ⟨rfl, fun _ hk => hk⟩
    next x i r =>
      cases hc : ((Nat.blt i n0 || Nat.blt i hh.1) && Nat.beq (kd i).1 a && Nat.beq t 1) with
      | false => rw [hc] at h; cases h
      | true => rw [hc] at h; cases h; exact ⟨rfl, fun _ hk => hk⟩
    next j i r =>
      cases hc : ((Nat.blt i n0 || Nat.blt i hh.1) && Nat.beq (kd i).1 a && Nat.beq t 2 && (Nat.blt j n0 || Nat.blt j hh.1)) with
      | false => rw [hc] at h; cases h
      | true =>
        rw [hc] at h; cases h
        exact ⟨rfl, fun h0 hk => aHok_up hk (aLive h0 (Bool.and_eq_true_iff.mp hc).2)⟩
    next => cases h
  | getfield z =>
    dsimp only [aStp] at h
    split at h
    next i r =>
      cases hc : ((Nat.blt i n0 || Nat.blt i hh.1) && Nat.beq (kd i).1 a) with
      | false => rw [hc] at h; cases h
      | true => rw [hc] at h; cases h; exact ⟨rfl, fun _ hk => hk⟩
    next => cases h
  | arraylength =>
    dsimp only [aStp] at h
    split at h
    next i r =>
      cases hc : ((Nat.blt i n0 || Nat.blt i hh.1) && (Nat.ble 7 (kd i).1 && Nat.ble (kd i).1 12)) with
      | false => rw [hc] at h; cases h
      | true => rw [hc] at h; cases h; exact ⟨rfl, fun _ hk => hk⟩
    next => cases h
  | ifCond cnd off => cases cnd <;> dsimp only [aStp] at h <;> split at h <;> first | (cases h; exact ⟨rfl, fun _ hk => hk⟩) | cases h
  | if_icmp cnd off => cases cnd <;> dsimp only [aStp] at h <;> split at h <;> first | (cases h; exact ⟨rfl, fun _ hk => hk⟩) | cases h
  | _ => dsimp only [aStp] at h <;> first | (cases h; exact ⟨rfl, fun _ hk => hk⟩) | cases h | (split at h <;> first | (cases h; exact ⟨rfl, fun _ hk => hk⟩) | cases h)
set_option maxHeartbeats 4000000 in
theorem aStp_sound (hx : p.tables.exec = Jvm.exec) (hb : c.code = cc) (hts : ∀ w ∈ Ts, w.before args s = true) (htab : aTab cl fk Ts) (hkd : ∀ i, (kd i).1 < 7 → ∃ C T, cl[(kd i).1]? = some (C, T, (kd i).2)) (hcl : cl.length ≤ 7)
    (hown : s.vm.findClass own = some m.cls) (hini : ini = true → meth.name = "<init>") (hK : va_K D cl tys s) (hty : aTys cy tys) {ad : Nat → Nat} (hk50 : ∀ i, (kd i).1 < 50) (hSF : ∀ q ∈ SF, va_Z q.1 q.2.1 q.2.2.1 (aTr ad q.2.2.2) A s s.heap) (hSK : ∀ q ∈ SK, vk_R q.1 q.2.1 q.2.2.1 (ad q.2.2.2) s)
    {n0 pc len nx a b t : Nat} {v : Value} {ins : Instr} {ls : aL} {st : List Value} {h : aH} {c' : aC} (hn0 : n0 ≤ h.1) (hdec : decode cc pc = .ok (ins, len)) (hnx : nx = pc + len) (hsd : aSd cl fk Ts SF SK own nL ini pc len a b t v ins)
    (hstp : aStp kd n0 (ins, nx, a, b, t, v) (pc, ls, st, h) = some c') (k : aSW p l e R s m args below meth c Q D cl A nL nS kd fk cy zs ad c') : aSW p l e R s m args below meth c Q D cl A nL nS kd fk cy zs ad (pc, ls, st, h) := by
  cases ins with
  | iconst z =>
    dsimp only [aStp] at hstp
    obtain ⟨rfl, rfl⟩ := hsd
    subst hnx
    cases hstp
    intro H locs L hP hD hS hl
    exact lv_iconst hx hb hdec rfl (k H locs L hP hD hS hl)
  | bipush z =>
    dsimp only [aStp] at hstp
    obtain ⟨rfl, rfl⟩ := hsd
    subst hnx
    cases hstp
    intro H locs L hP hD hS hl
    exact lv_bipush hx hb hdec rfl (k H locs L hP hD hS hl)
  | sipush z =>
    dsimp only [aStp] at hstp
    obtain ⟨rfl, rfl⟩ := hsd
    subst hnx
    cases hstp
    intro H locs L hP hD hS hl
    exact lv_sipush hx hb hdec rfl (k H locs L hP hD hS hl)
  | lconst z =>
    dsimp only [aStp] at hstp
    obtain ⟨rfl, rfl⟩ := hsd
    subst hnx
    cases hstp
    intro H locs L hP hD hS hl
    exact lv_lconst hx hb hdec rfl (k H locs L hP hD hS hl)
  | ldc z =>
    dsimp only [aStp] at hstp
    obtain ⟨rfl, ⟨x, rfl, hw⟩ | ⟨tx, q, rfl, hw⟩⟩ := hsd
    · subst hnx
      cases hstp
      intro H locs L hP hD hS hl
      exact lv_ldc hx hb hown (hts _ hw) hdec (k H locs L hP hD hS hl)
    · subst hnx
      cases hstp
      intro H locs L hP hD hS hl
      exact va_ldcS hx hb hown (hSK _ hw) hdec (k H locs L hP hD hS hl)
  | ldc_w z =>
    dsimp only [aStp] at hstp
    obtain ⟨rfl, x, rfl, hw⟩ := hsd
    subst hnx
    cases hstp
    intro H locs L hP hD hS hl
    exact lv_ldcw hx hb hown (hts _ hw) hdec (k H locs L hP hD hS hl)
  | ldc2_w z =>
    dsimp only [aStp] at hstp
    obtain ⟨rfl, x, rfl, hw⟩ := hsd
    subst hnx
    cases hstp
    intro H locs L hP hD hS hl
    exact lv_ldc2 hx hb hown (hts _ hw) hdec (k H locs L hP hD hS hl)
  | getstatic z =>
    dsimp only [aStp] at hstp
    obtain ⟨rfl, q, hq, rfl, hw⟩ := hsd
    subst hnx
    cases hstp
    intro H locs L hP hD hS hl
    exact va_gets hx hb (hSF q hq) hS hown (hts _ hw) (fun _ h9 => h9) hdec (k H locs L hP hD hS hl)
  | aconst_null =>
    dsimp only [aStp] at hstp
    cases (show len = 1 from hsd)
    subst hnx
    cases hstp
    intro H locs L hP hD hS hl
    exact lv_null hx hb hdec (k H locs L hP hD hS hl)
  | iload_n z =>
    dsimp only [aStp] at hstp
    obtain ⟨rfl, hka⟩ := hsd
    subst hnx
    split at hstp
    next x hg =>
      cases hstp
      intro H locs L hP hD hS hl
      exact lv_iload_n hx hb hdec hka (aGet_lv hl hg) (k H locs L hP hD hS hl)
    next => cases hstp
  | iload z =>
    dsimp only [aStp] at hstp
    obtain ⟨rfl, rfl⟩ := hsd
    subst hnx
    split at hstp
    next x hg =>
      cases hstp
      intro H locs L hP hD hS hl
      exact lv_iload hx hb hdec (aGet_lv hl hg) (k H locs L hP hD hS hl)
    next => cases hstp
  | lload_n z =>
    dsimp only [aStp] at hstp
    obtain ⟨rfl, hka⟩ := hsd
    subst hnx
    split at hstp
    next x hg =>
      cases hstp
      intro H locs L hP hD hS hl
      exact lv_lload_n hx hb hdec hka (aGet_lv hl hg) (k H locs L hP hD hS hl)
    next => cases hstp
  | lload z =>
    dsimp only [aStp] at hstp
    obtain ⟨rfl, rfl⟩ := hsd
    subst hnx
    split at hstp
    next x hg =>
      cases hstp
      intro H locs L hP hD hS hl
      exact lv_lload hx hb hdec (aGet_lv hl hg) (k H locs L hP hD hS hl)
    next => cases hstp
  | aload_n z =>
    dsimp only [aStp] at hstp
    obtain ⟨rfl, hka⟩ := hsd
    subst hnx
    split at hstp
    next x hg =>
      cases hstp
      intro H locs L hP hD hS hl
      exact lv_aload_n hx hb hdec hka (aGet_lv hl hg) (k H locs L hP hD hS hl)
    next hg =>
      cases hstp
      intro H locs L hP hD hS hl
      exact lv_aload_nN hx hb hdec hka (aGet_lv hl hg) (k H locs L hP hD hS hl)
    next => cases hstp
  | aload z =>
    dsimp only [aStp] at hstp
    obtain ⟨rfl, rfl⟩ := hsd
    subst hnx
    split at hstp
    next x hg =>
      cases hstp
      intro H locs L hP hD hS hl
      exact lv_aload hx hb hdec (aGet_lv hl hg) (k H locs L hP hD hS hl)
    next hg =>
      cases hstp
      intro H locs L hP hD hS hl
      exact lv_aloadN hx hb hdec (aGet_lv hl hg) (k H locs L hP hD hS hl)
    next => cases hstp
  | istore_n z =>
    dsimp only [aStp] at hstp
    obtain ⟨rfl, hka, han⟩ := hsd
    subst hnx
    split at hstp
    next x r =>
      cases hstp
      intro H locs L hP hD hS hl
      exact lv_istore_n hx hb hdec hka hl han (aTl_put1 ad ls a (.int x)) (fun ls1 hl1 => k H locs ls1 hP hD hS hl1)
    next => cases hstp
  | istore z =>
    dsimp only [aStp] at hstp
    obtain ⟨rfl, rfl, han⟩ := hsd
    subst hnx
    split at hstp
    next x r =>
      cases hstp
      intro H locs L hP hD hS hl
      exact lv_istore hx hb hdec hl han (aTl_put1 ad ls z (.int x)) (fun ls1 hl1 => k H locs ls1 hP hD hS hl1)
    next => cases hstp
  | lstore_n z =>
    dsimp only [aStp] at hstp
    obtain ⟨rfl, hka, han⟩ := hsd
    subst hnx
    split at hstp
    next x r =>
      cases hstp
      intro H locs L hP hD hS hl
      exact lv_lstore_n hx hb hdec hka hl han (aTl_put2 ad ls a (.long x)) (fun ls1 hl1 => k H locs ls1 hP hD hS hl1)
    next => cases hstp
  | lstore z =>
    dsimp only [aStp] at hstp
    obtain ⟨rfl, rfl, han⟩ := hsd
    subst hnx
    split at hstp
    next x r =>
      cases hstp
      intro H locs L hP hD hS hl
      exact lv_lstore hx hb hdec hl han (aTl_put2 ad ls z (.long x)) (fun ls1 hl1 => k H locs ls1 hP hD hS hl1)
    next => cases hstp
  | astore_n z =>
    dsimp only [aStp] at hstp
    obtain ⟨rfl, hka, han⟩ := hsd
    subst hnx
    split at hstp
    next x r =>
      cases hstp
      intro H locs L hP hD hS hl
      exact lv_astore_n hx hb hdec hka hl han (aTl_put1 ad ls a (.ref x)) (fun ls1 hl1 => k H locs ls1 hP hD hS hl1)
    next r =>
      cases hstp
      intro H locs L hP hD hS hl
      exact lv_astore_nN hx hb hdec hka hl han (aTl_put1 ad ls a .null) (fun ls1 hl1 => k H locs ls1 hP hD hS hl1)
    next => cases hstp
  | astore z =>
    dsimp only [aStp] at hstp
    obtain ⟨rfl, rfl, han⟩ := hsd
    subst hnx
    split at hstp
    next x r =>
      cases hstp
      intro H locs L hP hD hS hl
      exact lv_astore hx hb hdec hl han (aTl_put1 ad ls z (.ref x)) (fun ls1 hl1 => k H locs ls1 hP hD hS hl1)
    next r =>
      cases hstp
      intro H locs L hP hD hS hl
      exact lv_astoreN hx hb hdec hl han (aTl_put1 ad ls z .null) (fun ls1 hl1 => k H locs ls1 hP hD hS hl1)
    next => cases hstp
  | iinc z y =>
    dsimp only [aStp] at hstp
    obtain ⟨rfl, rfl, han, rfl⟩ := hsd
    subst hnx
    split at hstp
    next y0 x hy hg =>
      cases hy
      cases hstp
      intro H locs L hP hD hS hl
      obtain ⟨kq, hkq⟩ := List.getElem?_of_mem (aTl_mem (ad := ad) (aGet_mem hg))
      exact lv_iinc hx hb hdec hl hkq rfl han (aTl_put1 ad ls z (.int _)) (fun ls1 hl1 => k H locs ls1 hP hD hS hl1)
    next => cases hstp
  | iadd =>
    dsimp only [aStp] at hstp
    cases (show len = 1 from hsd)
    subst hnx
    split at hstp
    next =>
      cases hstp
      intro H locs L hP hD hS hl
      exact lv_iadd hx hb hdec (k H locs L hP hD hS hl)
    next => cases hstp
  | isub =>
    dsimp only [aStp] at hstp
    cases (show len = 1 from hsd)
    subst hnx
    split at hstp
    next =>
      cases hstp
      intro H locs L hP hD hS hl
      exact lv_isub hx hb hdec (k H locs L hP hD hS hl)
    next => cases hstp
  | imul =>
    dsimp only [aStp] at hstp
    cases (show len = 1 from hsd)
    subst hnx
    split at hstp
    next =>
      cases hstp
      intro H locs L hP hD hS hl
      exact lv_imul hx hb hdec (k H locs L hP hD hS hl)
    next => cases hstp
  | iand =>
    dsimp only [aStp] at hstp
    cases (show len = 1 from hsd)
    subst hnx
    split at hstp
    next =>
      cases hstp
      intro H locs L hP hD hS hl
      exact lv_iand hx hb hdec (k H locs L hP hD hS hl)
    next => cases hstp
  | ior =>
    dsimp only [aStp] at hstp
    cases (show len = 1 from hsd)
    subst hnx
    split at hstp
    next =>
      cases hstp
      intro H locs L hP hD hS hl
      exact lv_ior hx hb hdec (k H locs L hP hD hS hl)
    next => cases hstp
  | ixor =>
    dsimp only [aStp] at hstp
    cases (show len = 1 from hsd)
    subst hnx
    split at hstp
    next =>
      cases hstp
      intro H locs L hP hD hS hl
      exact lv_ixor hx hb hdec (k H locs L hP hD hS hl)
    next => cases hstp
  | ishl =>
    dsimp only [aStp] at hstp
    cases (show len = 1 from hsd)
    subst hnx
    split at hstp
    next =>
      cases hstp
      intro H locs L hP hD hS hl
      exact lv_ishl hx hb hdec (k H locs L hP hD hS hl)
    next => cases hstp
  | ishr =>
    dsimp only [aStp] at hstp
    cases (show len = 1 from hsd)
    subst hnx
    split at hstp
    next =>
      cases hstp
      intro H locs L hP hD hS hl
      exact lv_ishr hx hb hdec (k H locs L hP hD hS hl)
    next => cases hstp
  | ladd =>
    dsimp only [aStp] at hstp
    cases (show len = 1 from hsd)
    subst hnx
    split at hstp
    next =>
      cases hstp
      intro H locs L hP hD hS hl
      exact lv_ladd hx hb hdec (k H locs L hP hD hS hl)
    next => cases hstp
  | lsub =>
    dsimp only [aStp] at hstp
    cases (show len = 1 from hsd)
    subst hnx
    split at hstp
    next =>
      cases hstp
      intro H locs L hP hD hS hl
      exact lv_lsub hx hb hdec (k H locs L hP hD hS hl)
    next => cases hstp
  | lmul =>
    dsimp only [aStp] at hstp
    cases (show len = 1 from hsd)
    subst hnx
    split at hstp
    next =>
      cases hstp
      intro H locs L hP hD hS hl
      exact lv_lmul hx hb hdec (k H locs L hP hD hS hl)
    next => cases hstp
  | land =>
    dsimp only [aStp] at hstp
    cases (show len = 1 from hsd)
    subst hnx
    split at hstp
    next =>
      cases hstp
      intro H locs L hP hD hS hl
      exact lv_land hx hb hdec (k H locs L hP hD hS hl)
    next => cases hstp
  | lor =>
    dsimp only [aStp] at hstp
    cases (show len = 1 from hsd)
    subst hnx
    split at hstp
    next =>
      cases hstp
      intro H locs L hP hD hS hl
      exact lv_lor hx hb hdec (k H locs L hP hD hS hl)
    next => cases hstp
  | ineg =>
    dsimp only [aStp] at hstp
    cases (show len = 1 from hsd)
    subst hnx
    split at hstp
    next =>
      cases hstp
      intro H locs L hP hD hS hl
      exact lv_ineg hx hb hdec (k H locs L hP hD hS hl)
    next => cases hstp
  | lneg =>
    dsimp only [aStp] at hstp
    cases (show len = 1 from hsd)
    subst hnx
    split at hstp
    next =>
      cases hstp
      intro H locs L hP hD hS hl
      exact lv_lneg hx hb hdec (k H locs L hP hD hS hl)
    next => cases hstp
  | iushr =>
    dsimp only [aStp] at hstp
    cases (show len = 1 from hsd)
    subst hnx
    split at hstp
    next =>
      cases hstp
      intro H locs L hP hD hS hl
      exact lv_iushr hx hb hdec rfl (k H locs L hP hD hS hl)
    next => cases hstp
  | lshl =>
    dsimp only [aStp] at hstp
    cases (show len = 1 from hsd)
    subst hnx
    split at hstp
    next =>
      cases hstp
      intro H locs L hP hD hS hl
      exact lv_lshl hx hb hdec rfl (k H locs L hP hD hS hl)
    next => cases hstp
  | i2l =>
    dsimp only [aStp] at hstp
    cases (show len = 1 from hsd)
    subst hnx
    split at hstp
    next =>
      cases hstp
      intro H locs L hP hD hS hl
      exact lv_i2l hx hb hdec rfl (k H locs L hP hD hS hl)
    next => cases hstp
  | l2i =>
    dsimp only [aStp] at hstp
    cases (show len = 1 from hsd)
    subst hnx
    split at hstp
    next =>
      cases hstp
      intro H locs L hP hD hS hl
      exact lv_l2i hx hb hdec rfl (k H locs L hP hD hS hl)
    next => cases hstp
  | i2b =>
    dsimp only [aStp] at hstp
    cases (show len = 1 from hsd)
    subst hnx
    split at hstp
    next =>
      cases hstp
      intro H locs L hP hD hS hl
      exact lv_i2b hx hb hdec rfl (k H locs L hP hD hS hl)
    next => cases hstp
  | i2s =>
    dsimp only [aStp] at hstp
    cases (show len = 1 from hsd)
    subst hnx
    split at hstp
    next =>
      cases hstp
      intro H locs L hP hD hS hl
      exact lv_i2s hx hb hdec rfl (k H locs L hP hD hS hl)
    next => cases hstp
  | i2c =>
    dsimp only [aStp] at hstp
    cases (show len = 1 from hsd)
    subst hnx
    split at hstp
    next =>
      cases hstp
      intro H locs L hP hD hS hl
      exact lv_i2c hx hb hdec rfl (k H locs L hP hD hS hl)
    next => cases hstp
  | lcmp =>
    dsimp only [aStp] at hstp
    cases (show len = 1 from hsd)
    subst hnx
    split at hstp
    next =>
      cases hstp
      intro H locs L hP hD hS hl
      exact W.lcmp hx hb hdec (k H locs L hP hD hS hl)
    next => cases hstp
  | dup =>
    dsimp only [aStp] at hstp
    cases (show len = 1 from hsd)
    subst hnx
    split at hstp
    next =>
      cases hstp
      intro H locs L hP hD hS hl
      exact lv_dup hx hb hdec rfl (k H locs L hP hD hS hl)
    next =>
      cases hstp
      intro H locs L hP hD hS hl
      exact lv_dup hx hb hdec rfl (k H locs L hP hD hS hl)
    next => cases hstp
  | dup2 =>
    dsimp only [aStp] at hstp
    cases (show len = 1 from hsd)
    subst hnx
    split at hstp
    next =>
      cases hstp
      intro H locs L hP hD hS hl
      exact lv_dup2_11 hx hb hdec rfl rfl (k H locs L hP hD hS hl)
    next => cases hstp
  | pop =>
    dsimp only [aStp] at hstp
    cases (show len = 1 from hsd)
    subst hnx
    split at hstp
    next =>
      cases hstp
      intro H locs L hP hD hS hl
      exact lv_pop hx hb hdec rfl (k H locs L hP hD hS hl)
    next => cases hstp
  | goto off =>
    dsimp only [aStp] at hstp
    obtain ⟨rfl, hoff⟩ := hsd
    subst hnx
    cases hstp
    intro H locs L hP hD hS hl
    exact lv_goto hx hb hdec hoff (k H locs L hP hD hS hl)
  | ifCond cnd off =>
    obtain ⟨rfl, hoff⟩ := hsd
    subst hnx
    cases cnd with
    | eq =>
      dsimp only [aStp] at hstp
      split at hstp
      next =>
        cases hstp
        intro H locs L hP hD hS hl
        have k1 := aBr (F := fun z => W p l e R s m args below meth c H locs (h.1 - nS) (zs h.1 - zs nS) Q (F0 m z L _)) (k H locs L hP hD hS hl)
        exact lv_if_eq hx hb hdec hoff (fun q => k1.1 q) (fun q => k1.2 q)
      next => cases hstp
    | ne =>
      dsimp only [aStp] at hstp
      split at hstp
      next =>
        cases hstp
        intro H locs L hP hD hS hl
        have k1 := aBr (F := fun z => W p l e R s m args below meth c H locs (h.1 - nS) (zs h.1 - zs nS) Q (F0 m z L _)) (k H locs L hP hD hS hl)
        exact lv_if_ne hx hb hdec hoff (fun q => k1.2 (by simpa using q)) (fun q => k1.1 (by simpa using q))
      next => cases hstp
    | lt =>
      dsimp only [aStp] at hstp
      split at hstp
      next =>
        cases hstp
        intro H locs L hP hD hS hl
        have k1 := aBr (F := fun z => W p l e R s m args below meth c H locs (h.1 - nS) (zs h.1 - zs nS) Q (F0 m z L _)) (k H locs L hP hD hS hl)
        exact lv_if_lt hx hb hdec hoff (fun q => k1.1 q) (fun q => k1.2 q)
      next => cases hstp
    | ge =>
      dsimp only [aStp] at hstp
      split at hstp
      next =>
        cases hstp
        intro H locs L hP hD hS hl
        have k1 := aBr (F := fun z => W p l e R s m args below meth c H locs (h.1 - nS) (zs h.1 - zs nS) Q (F0 m z L _)) (k H locs L hP hD hS hl)
        exact lv_if_ge hx hb hdec hoff (fun q => k1.1 q) (fun q => k1.2 q)
      next => cases hstp
    | gt =>
      dsimp only [aStp] at hstp
      split at hstp
      next =>
        cases hstp
        intro H locs L hP hD hS hl
        have k1 := aBr (F := fun z => W p l e R s m args below meth c H locs (h.1 - nS) (zs h.1 - zs nS) Q (F0 m z L _)) (k H locs L hP hD hS hl)
        exact lv_if_gt hx hb hdec hoff (fun q => k1.1 q) (fun q => k1.2 q)
      next => cases hstp
    | le =>
      dsimp only [aStp] at hstp
      split at hstp
      next =>
        cases hstp
        intro H locs L hP hD hS hl
        have k1 := aBr (F := fun z => W p l e R s m args below meth c H locs (h.1 - nS) (zs h.1 - zs nS) Q (F0 m z L _)) (k H locs L hP hD hS hl)
        exact lv_if_le hx hb hdec hoff (fun q => k1.1 q) (fun q => k1.2 q)
      next => cases hstp
  | if_icmp cnd off =>
    obtain ⟨rfl, hoff⟩ := hsd
    subst hnx
    cases cnd with
    | eq =>
      dsimp only [aStp] at hstp
      split at hstp
      next =>
        cases hstp
        intro H locs L hP hD hS hl
        have k1 := aBr (F := fun z => W p l e R s m args below meth c H locs (h.1 - nS) (zs h.1 - zs nS) Q (F0 m z L _)) (k H locs L hP hD hS hl)
        exact lv_icmp_eq hx hb hdec hoff (fun q => k1.1 q) (fun q => k1.2 q)
      next => cases hstp
    | ne =>
      dsimp only [aStp] at hstp
      split at hstp
      next =>
        cases hstp
        intro H locs L hP hD hS hl
        have k1 := aBr (F := fun z => W p l e R s m args below meth c H locs (h.1 - nS) (zs h.1 - zs nS) Q (F0 m z L _)) (k H locs L hP hD hS hl)
        exact lv_icmp_ne hx hb hdec hoff (fun q => k1.2 (by simpa using q)) (fun q => k1.1 (by simpa using q))
      next => cases hstp
    | lt =>
      dsimp only [aStp] at hstp
      split at hstp
      next =>
        cases hstp
        intro H locs L hP hD hS hl
        have k1 := aBr (F := fun z => W p l e R s m args below meth c H locs (h.1 - nS) (zs h.1 - zs nS) Q (F0 m z L _)) (k H locs L hP hD hS hl)
        exact lv_icmp_lt hx hb hdec hoff (fun q => k1.1 q) (fun q => k1.2 q)
      next => cases hstp
    | ge =>
      dsimp only [aStp] at hstp
      split at hstp
      next =>
        cases hstp
        intro H locs L hP hD hS hl
        have k1 := aBr (F := fun z => W p l e R s m args below meth c H locs (h.1 - nS) (zs h.1 - zs nS) Q (F0 m z L _)) (k H locs L hP hD hS hl)
        exact lv_icmp_ge hx hb hdec hoff (fun q => k1.1 q) (fun q => k1.2 q)
      next => cases hstp
    | gt =>
      dsimp only [aStp] at hstp
      split at hstp
      next =>
        cases hstp
        intro H locs L hP hD hS hl
        have k1 := aBr (F := fun z => W p l e R s m args below meth c H locs (h.1 - nS) (zs h.1 - zs nS) Q (F0 m z L _)) (k H locs L hP hD hS hl)
        exact lv_icmp_gt hx hb hdec hoff (fun q => k1.1 q) (fun q => k1.2 q)
      next => cases hstp
    | le =>
      dsimp only [aStp] at hstp
      split at hstp
      next =>
        cases hstp
        intro H locs L hP hD hS hl
        have k1 := aBr (F := fun z => W p l e R s m args below meth c H locs (h.1 - nS) (zs h.1 - zs nS) Q (F0 m z L _)) (k H locs L hP hD hS hl)
        exact lv_icmp_le hx hb hdec hoff (fun q => k1.1 q) (fun q => k1.2 q)
      next => cases hstp
  | ifnull off =>
    dsimp only [aStp] at hstp
    obtain ⟨rfl, hoff⟩ := hsd
    subst hnx
    split at hstp
    next =>
      cases hstp
      intro H locs L hP hD hS hl
      exact lv_ifnull hx hb hdec (k H locs L hP hD hS hl)
    next =>
      cases hstp
      intro H locs L hP hD hS hl
      exact lv_ifnullN hx hb hdec hoff (k H locs L hP hD hS hl)
    next => cases hstp
  | ifnonnull off =>
    dsimp only [aStp] at hstp
    obtain ⟨rfl, hoff⟩ := hsd
    subst hnx
    split at hstp
    next =>
      cases hstp
      intro H locs L hP hD hS hl
      exact lv_ifnonnull hx hb hdec hoff (k H locs L hP hD hS hl)
    next =>
      cases hstp
      intro H locs L hP hD hS hl
      exact lv_ifnonnullN hx hb hdec (k H locs L hP hD hS hl)
    next => cases hstp
  | arraylength =>
    dsimp only [aStp] at hstp
    cases (show len = 1 from hsd)
    subst hnx
    split at hstp
    next i r =>
      cases hcnd : ((Nat.blt i n0 || Nat.blt i h.1) && (Nat.ble 7 (kd i).1 && Nat.ble (kd i).1 12)) with
      | false => rw [hcnd] at hstp; cases hstp
      | true =>
        rw [hcnd] at hstp; cases hstp
        obtain ⟨h1, h2⟩ := Bool.and_eq_true_iff.mp hcnd
        have hlive := aLive hn0 h1
        obtain ⟨h2, h3⟩ := Bool.and_eq_true_iff.mp h2
        have h7 : 7 ≤ (kd i).1 := Nat.le_of_ble_eq_true h2
        have h12 : (kd i).1 ≤ 12 := Nat.le_of_ble_eq_true h3
        intro H locs L hP hD hS hl
        obtain ⟨x, hx2, hx3⟩ := aEn_arr (fk := fk) (cy := cy) (h := h) (ad := ad) h7
        have hat := aWd_at (kd := kd) (fk := fk) (cy := cy) (ad := ad) hlive
        rw [hx2] at hat
        obtain ⟨t0, ty0, ht0⟩ := aTys_at hty h7 h12
        exact va_alen hx hb hK hP i t0 hat ht0 (by rw [hx3]) hdec (k H locs L hP hD hS hl)
    next => cases hstp
  | getfield z =>
    dsimp only [aStp] at hstp
    obtain ⟨rfl, hsd⟩ := hsd
    subst hnx
    split at hstp
    next i r =>
      cases hcnd : ((Nat.blt i n0 || Nat.blt i h.1) && Nat.beq (kd i).1 a) with
      | false => rw [hcnd] at hstp; cases hstp
      | true =>
        rw [hcnd] at hstp; cases hstp
        obtain ⟨h1, h2⟩ := Bool.and_eq_true_iff.mp hcnd
        have hlive := aLive hn0 h1
        have hk1 : (kd i).1 = a := Nat.eq_of_beq_eq_true h2
        rcases hsd with ⟨h99, -⟩ | ⟨C, T, N, hcl1, hb1, hw, hft⟩
        · have := hk50 i; omega
        intro H locs L hP hD hS hl
        obtain ⟨hin1, -⟩ := htab a C T N hcl1
        have hat := aWd_obj (fk := fk) (cy := cy) (ad := ad) hkd hcl hlive hk1 hcl1
        refine va_get (v := aFv h ad (fk a b) i b) hx hb hts hin1 hown hK hP i hat hcl1 b hb1 (hts _ hw) (fun _ h9 => h9) (by simp [hb1]) hdec ?_
        have k1 := (k H locs L hP hD hS hl)
        have he : aTr ad (aVal h t i b) = aFv h ad (fk a b) i b := aVal_tr hft
        rw [← he]
        exact k1
    next => cases hstp
  | putfield z =>
    dsimp only [aStp] at hstp
    obtain ⟨rfl, C, T, N, hcl1, hb1, hw, hft, hfin⟩ := hsd
    subst hnx
    split at hstp
    next x i r =>
      cases hcnd : ((Nat.blt i n0 || Nat.blt i h.1) && Nat.beq (kd i).1 a && Nat.beq t 0) with
      | false => rw [hcnd] at hstp; cases hstp
      | true =>
        rw [hcnd] at hstp; cases hstp
        obtain ⟨h12, h3⟩ := Bool.and_eq_true_iff.mp hcnd
        obtain ⟨h1, h2⟩ := Bool.and_eq_true_iff.mp h12
        have ht : fk a b = 0 := hft.trans (Nat.eq_of_beq_eq_true h3)
        refine aPut_sound hx hb hts htab hkd hcl hown hini hK (aLive hn0 h1) (Nat.eq_of_beq_eq_true h2) hcl1 hb1 hw hfin hdec (fun ty hty1 => ?_) ?_ ?_ ?_ ?_ k
        · rw [ht] at hty1
          rcases hty1 with ⟨h4, rfl⟩ | ⟨h4, rfl⟩ | ⟨h4, rfl⟩ | ⟨h4, ⟨q, rfl⟩ | ⟨q, rfl⟩⟩ <;> first | exact ⟨rfl, rfl⟩ | exact absurd h4 (by decide)
        · rfl
        · rw [ht]; show _ = _; simp [aFv, up2_at, aTr, va_rf]
        · intro q hq; unfold aFv; split <;> simp [up2_at, hq]
        · intro q hq; exact aEn_eq (up2_ne hq) rfl rfl
    next x i r =>
      cases hcnd : ((Nat.blt i n0 || Nat.blt i h.1) && Nat.beq (kd i).1 a && Nat.beq t 1) with
      | false => rw [hcnd] at hstp; cases hstp
      | true =>
        rw [hcnd] at hstp; cases hstp
        obtain ⟨h12, h3⟩ := Bool.and_eq_true_iff.mp hcnd
        obtain ⟨h1, h2⟩ := Bool.and_eq_true_iff.mp h12
        have ht : fk a b = 1 := hft.trans (Nat.eq_of_beq_eq_true h3)
        refine aPut_sound hx hb hts htab hkd hcl hown hini hK (aLive hn0 h1) (Nat.eq_of_beq_eq_true h2) hcl1 hb1 hw hfin hdec (fun ty hty1 => ?_) ?_ ?_ ?_ ?_ k
        · rw [ht] at hty1
          rcases hty1 with ⟨h4, rfl⟩ | ⟨h4, rfl⟩ | ⟨h4, rfl⟩ | ⟨h4, ⟨q, rfl⟩ | ⟨q, rfl⟩⟩ <;> first | exact ⟨rfl, rfl⟩ | exact absurd h4 (by decide)
        · rfl
        · rw [ht]; show _ = _; simp [aFv, up2_at, aTr, va_rf]
        · intro q hq; unfold aFv; split <;> simp [up2_at, hq]
        · intro q hq; exact aEn_eq rfl (up2_ne hq) rfl
    next j i r =>
      cases hcnd : ((Nat.blt i n0 || Nat.blt i h.1) && Nat.beq (kd i).1 a && Nat.beq t 2 && (Nat.blt j n0 || Nat.blt j h.1)) with
      | false => rw [hcnd] at hstp; cases hstp
      | true =>
        rw [hcnd] at hstp; cases hstp
        obtain ⟨hcnd, hj⟩ := Bool.and_eq_true_iff.mp hcnd
        obtain ⟨h12, h3⟩ := Bool.and_eq_true_iff.mp hcnd
        obtain ⟨h1, h2⟩ := Bool.and_eq_true_iff.mp h12
        have ht : fk a b = 2 := hft.trans (Nat.eq_of_beq_eq_true h3)
        refine aPut_sound hx hb hts htab hkd hcl hown hini hK (aLive hn0 h1) (Nat.eq_of_beq_eq_true h2) hcl1 hb1 hw hfin hdec (fun ty hty1 => ?_) ?_ ?_ ?_ ?_ k
        · rw [ht] at hty1
          rcases hty1 with ⟨h4, rfl⟩ | ⟨h4, rfl⟩ | ⟨h4, rfl⟩ | ⟨h4, ⟨q, rfl⟩ | ⟨q, rfl⟩⟩ <;> first | exact ⟨rfl, rfl⟩ | exact absurd h4 (by decide)
        · rfl
        · rw [ht]; show _ = _; simp [aFv, up2_at, aTr, va_rf]
        · intro q hq; unfold aFv; split <;> simp [up2_at, hq]
        · intro q hq; exact aEn_eq rfl rfl (up2_ne hq)
    next => cases hstp
  | _ => exact nomatch hstp
end ST
