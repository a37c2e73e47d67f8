section ME
variable {l : Launch} {D : va_G} {cl : List vw_C} {tys : List (ClassId × FieldType)} {Ts : List Jvm.Cond} {SF : List (String × String × String × Value)} {SK : List (String × Nat × String × Nat)} {NW : List aNt} {AO : List String} {mt : Nat → aMt} {n0 : Nat}
variable {kd : Nat → Nat × Nat} {fk : Nat → Nat → Nat} {cy : Nat → ClassId} {Z : aZ} {cds : Nat → Nat → Option aI}
/-- the numbered methods' tables are their bytecode's -/
def aAll (cl : List vw_C) (fk : Nat → Nat → Nat) (cy : Nat → ClassId) (tys : List (ClassId × FieldType)) (Ts : List Jvm.Cond) (SF : List (String × String × String × Value)) (SK : List (String × Nat × String × Nat)) (NW : List aNt) (AO : List String) (mt : Nat → aMt) (cds : Nat → Nat → Option aI) : Prop :=
  ∀ (y pc : Nat) (ai : aI), cds y pc = some ai → plainName (mt y).1.cls = true ∧ aGood cl fk cy tys Ts SF SK NW AO mt (mt y).1.cls (mt y).2.1 (mt y).2.2.1 ((mt y).1.name == "<init>") (mt y).2.2.2 pc ai
theorem aArgs_len : ∀ vs : List Value, (lg_sl vs).length = (vs.map fun v => v.category).sum
  | [] => rfl
  | v :: vs => by
    have ih := aArgs_len vs
    unfold lg_sl at ih ⊢
    rw [List.flatMap_cons, List.length_append, ih, List.map_cons, List.sum_cons]
    rcases lv_cat v with h | h <;> simp [h]
/-- every call of the abstract machine, no deeper than d, is a contract -/
theorem aMet (hgT : ∀ w ∈ Ts, goodWord w = true) (htab : aTab cl fk Ts) (hkd : ∀ i, (kd i).1 < 7 → ∃ C T, cl[(kd i).1]? = some (C, T, (kd i).2)) (hcl : cl.length ≤ 7) (hty : aTys cy tys)
    (hsf : ∀ q ∈ SF, ∀ i, q.2.2.2 = .ref i → 1000 ≤ i) (hsk : ∀ q ∈ SK, 1000 ≤ q.2.2.2) (hk20 : ∀ i, (kd i).1 < 20) (hk13 : ∀ i, 13 ≤ (kd i).1 → 1000 ≤ i)
    {ml : Nat → Nat} (hml0 : ∀ y, ml y = (mt y).2.2.1) (hall : aAll cl fk cy tys Ts SF SK NW AO mt cds) : ∀ d : Nat, aXm l D cl tys kd fk cy Z SF SK NW AO Ts mt d (aEx kd Z n0 ml cds d)
  | 0 => fun _ _ _ _ _ h => h.elim
  | d + 1 => by
    intro y vs h rv hh hx hok ad sz
    have hXh : aXh (aEx kd Z n0 ml cds d) := aEx_h d
    obtain ⟨hle, h0, F, hr⟩ := hx
    have hmon := aRun_h hXh F _ hr h0
    have hpl : plainName (mt y).1.cls = true ∧ (vs.map fun v => v.category).sum ≤ (mt y).2.2.1 := by
      refine ⟨?_, by rw [← hml0]; exact Nat.le_of_ble_eq_true hle⟩
      cases F with
      | zero => exact hr.elim
      | succ F =>
        unfold aRun at hr
        split at hr
        next => exact hr.elim
        next ai hai => exact (hall y _ ai hai).1
    refine Met.ofW (cc := (mt y).2.1) (maxL := (mt y).2.2.1) (ret := (mt y).2.2.2) hpl.1 rfl ?_
    intro p e s m args below meth c s₁ B hml hv
    obtain ⟨rfl, hsz, hP, hK, hD0, hSt⟩ := hv
    have hx := B.exec
    have hb := B.bytes
    have hr1 := B.returns
    have hts0 := atoms_spec (ws := Cond.code (mt y).1 (mt y).2.1 (mt y).2.2.1 (mt y).2.2.2 :: Ts) B.pre
    have hts : ∀ w ∈ Ts, w.before (vs.map (aTr ad)).toArray s = true := fun w hw => hts0 w (List.mem_cons_of_mem _ hw)
    have hown : s.vm.findClass (mt y).1.cls = some m.cls := findClass_of_methodNamed B.named
    have hlocks := B.notSynchronized
    have hin : meth.name = (mt y).1.name := (name_of_methodNamed B.named B.method).1
    subst hsz
    have hD := hD0.self (sz := s.heap.size)
    have hA : ∀ q : Nat, s.heap.size ≤ q → va_A (aWd kd fk cy ad h) s.heap.size q := fun q h => Or.inr h
    have hS : va_S (va_A (aWd kd fk cy ad h) s.heap.size) s.heap s.heap [] := va_S.rf
    rw [lg_entry_eq]
    have hl := lv_entry (vs.map (aTr ad)) (n := (mt y).2.2.1) (by rw [aArgs_len, aCat]; exact hpl.2)
    rw [aTr_args] at hl
    have k := aRun_sound (p := p) (l := l) (e := e) (R := aRoom (d + 1) (hh.1 - h.1) (aZs kd hh.1 - aZs kd h.1)) (below := below) (n0 := n0) hx hb hml hts hgT htab hkd hcl hown (fun q => hin.trans (eq_of_beq q)) hK hty hsf hsk hk20 hk13 (aMet hgT htab hkd hcl hty hsf hsk hk20 hk13 hml0 hall d) hXh (fun pc ai hc => (hall y pc ai hc).2) hA hSt ⟨Nat.le_refl _, Nat.le_refl _, Nat.le_refl _, Nat.le_refl _⟩ (aRetQ (tys := tys) hx hb hlocks hr1) F _ ad hr h0 (Nat.le_refl _) hok (fun _ _ => rfl) (fun _ => rfl)
    have k1 := k s.heap [] _ hP hD hS hl
    dsimp only at k1
    rw [Nat.sub_self, Nat.sub_self] at k1
    exact k1
end ME
