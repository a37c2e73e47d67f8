abbrev aMt : Type := MethodName × ByteArray × Nat × Option FieldType
abbrev aNt : Type := String × Nat × MethodName × String
def aRoom (dd mc ms : Nat) : Room := { frames := dd, cells := mc, slots := ms, locals := 64 * dd }
/-- what the tables say of an instruction that has a side condition -/
def aSp (cl : List vw_C) (cy : Nat → ClassId) (tys : List (ClassId × FieldType)) (Ts : List Jvm.Cond) (NW : List aNt) (AO : List String) (mt : Nat → aMt) (own : String) (ret : Option FieldType) (pc len a b t : Nat) (ins : Instr) : Prop :=
  match ins with
  | .ireturn => (t = 0 ∧ ret = some .int) ∨ (t = 1 ∧ ret = some .boolean) ∨ (t = 2 ∧ ret = some .byte) ∨ (t = 3 ∧ ret = some .char)
  | .lreturn => ret = some .long
  | .areturn => ∃ rt, ret = some rt ∧ ((∃ n, rt = .object n) ∨ ∃ u, rt = .array u)
  | .return_ => ret = none
  | .aastore => ∃ r t0, cl[a]? = some r ∧ tys[(t0 : Nat)]? = some (cy b, .object r.1)
  | .new i => len = 3 ∧ ∃ C T, cl[a]? = some (C, T, b) ∧ Cond.classLink own i C ∈ Ts ∧ Cond.instantiable C b ∈ Ts ∧ Cond.initialized C ∈ Ts
  | .newarray at_ => len = 2 ∧ Cond.arrayClass (newarray.typeOf at_) ∈ Ts ∧ ((a = 7 ∧ newarray.typeOf at_ = .int) ∨ (a = 8 ∧ newarray.typeOf at_ = .long) ∨ (a = 9 ∧ newarray.typeOf at_ = .boolean))
  | .anewarray i => len = 3 ∧ 10 ≤ a ∧ a ≤ 12 ∧ ∃ C t0, Cond.classLink own i C ∈ Ts ∧ C ∈ AO ∧ tys[(t0 : Nat)]? = some (cy a, .object C)
  | .tableswitch d lo hi offs => 0 ≤ (pc : Int) + d ∧ ∀ off ∈ offs.toList, 0 ≤ (pc : Int) + off
  | .lookupswitch d ps => (ps.toList.zip (ps.toList.drop 1)).all (fun (x, next) => x.1 < next.1) = true ∧ 0 ≤ (pc : Int) + d ∧ ∀ q ∈ ps.toList, 0 ≤ (pc : Int) + q.2
  | .invokestatic i => len = 3 ∧ if t = 9 then Cond.methodLink own i arraycopyName ∈ Ts ∧ Cond.native arraycopyName ∈ Ts ∧ Cond.static arraycopyName ∈ Ts ∧ Cond.initialized "java/lang/System" ∈ Ts
      else if t = 10 then Cond.methodLink own i Lib.Math.min.name ∈ Ts ∧ Cond.static Lib.Math.min.name ∈ Ts ∧ Cond.initialized "java/lang/Math" ∈ Ts ∧ Cond.code Lib.Math.min.name Lib.Math.min.code 2 (some .int) ∈ Ts
      else if t = 11 then Cond.methodLink own i Lib.Math.max.name ∈ Ts ∧ Cond.static Lib.Math.max.name ∈ Ts ∧ Cond.initialized "java/lang/Math" ∈ Ts ∧ Cond.code Lib.Math.max.name Lib.Math.max.code 2 (some .int) ∈ Ts
      else if t = 12 then Cond.methodLink own i Lib.MathLoose.min_long.x ∈ Ts ∧ Cond.static Lib.MathLoose.min_long.x ∈ Ts ∧ Cond.initialized "java/lang/Math" ∈ Ts ∧ Cond.code Lib.MathLoose.min_long.x Lib.MathLoose.min_long.code 4 (some .long) ∈ Ts
      else if t = 13 then Cond.methodLink own i Lib.MathLoose.abs_long.x ∈ Ts ∧ Cond.static Lib.MathLoose.abs_long.x ∈ Ts ∧ Cond.initialized "java/lang/Math" ∈ Ts ∧ Cond.code Lib.MathLoose.abs_long.x Lib.MathLoose.abs_long.code 2 (some .long) ∈ Ts
      else Cond.code (mt a).1 (mt a).2.1 (mt a).2.2.1 (mt a).2.2.2 ∈ Ts ∧ Cond.static (mt a).1 ∈ Ts ∧ Cond.initialized (mt a).1.cls ∈ Ts ∧ (Cond.methodLink own i (mt a).1 ∈ Ts ∨ ∃ host, (own, i, (mt a).1, host) ∈ NW) ∧ ((mt a).1.cls ≠ "java/lang/invoke/MethodHandle" ∧ (mt a).1.cls ≠ "java/lang/invoke/VarHandle" ∧ (parseMethodDescriptor (mt a).1.desc).map (fun d => d.parameters.length) = some b) ∧ (mt a).2.2.1 ≤ 45
  | .invokevirtual i => len = 3 ∧ Cond.code (mt a).1 (mt a).2.1 (mt a).2.2.1 (mt a).2.2.2 ∈ Ts ∧ Cond.instanceMethod (mt a).1 ∈ Ts ∧ Cond.initialized (mt a).1.cls ∈ Ts ∧ Cond.methodLink own i (mt a).1 ∈ Ts ∧ Cond.selects (mt a).1.cls (mt a).1 (mt a).1 ∈ Ts ∧ 1 ≤ b ∧ ((mt a).1.cls ≠ "java/lang/invoke/MethodHandle" ∧ (mt a).1.cls ≠ "java/lang/invoke/VarHandle" ∧ (parseMethodDescriptor (mt a).1.desc).map (fun d => d.parameters.length) = some (b - 1)) ∧ (mt a).2.2.1 ≤ 45 ∧
      ((t = 20 ∧ (mt a).1.cls = "java/lang/String") ∨ ∃ T N, cl[t]? = some ((mt a).1.cls, T, N))
  | .invokespecial i => len = 3 ∧ if t = 8 then Cond.methodLink own i objectInit ∈ Ts ∧ Cond.instanceMethod objectInit ∈ Ts ∧ Cond.code objectInit ⟨#[0xb1]⟩ 1 none ∈ Ts
      else Cond.code (mt a).1 (mt a).2.1 (mt a).2.2.1 none ∈ Ts ∧ (mt a).2.2.2 = none ∧ (mt a).1.name = "<init>" ∧ Cond.instanceMethod (mt a).1 ∈ Ts ∧ Cond.initialized (mt a).1.cls ∈ Ts ∧ (Cond.methodLink own i (mt a).1 ∈ Ts ∨ ∃ host, (own, i, (mt a).1, host) ∈ NW) ∧ 1 ≤ b ∧ ((mt a).1.cls ≠ "java/lang/invoke/MethodHandle" ∧ (mt a).1.cls ≠ "java/lang/invoke/VarHandle" ∧ (parseMethodDescriptor (mt a).1.desc).map (fun d => d.parameters.length) = some (b - 1)) ∧ (mt a).2.2.1 ≤ 45
  | _ => True
/-- an instruction of a method's table is the bytecode's, and the tables link it -/
def aGood (cl : List vw_C) (fk : Nat → Nat → Nat) (cy : Nat → ClassId) (tys : List (ClassId × FieldType)) (Ts : List Jvm.Cond) (SF : List (String × String × String × Value)) (SK : List (String × Nat × String × Nat)) (NW : List aNt) (AO : List String) (mt : Nat → aMt) (own : String) (bytes : ByteArray) (nL : Nat) (ini : Bool) (ret : Option FieldType) (pc : Nat) (ai : aI) : Prop :=
  match ai with
  | (ins, nx, a, b, t, v) => ∃ len, decode bytes pc = .ok (ins, len) ∧ nx = pc + len ∧ aSd cl fk Ts SF SK own nL ini pc len a b t v ins ∧ aSp cl cy tys Ts NW AO mt own ret pc len a b t ins
/-- what holds of statics and of class tables, at a heap, for cells outside A -/
def aSt (kd : Nat → Nat × Nat) (Z : aZ) (SF : List (String × String × String × Value)) (SK : List (String × Nat × String × Nat)) (NW : List aNt) (AO : List String) (ad : Nat → Nat) (A : Nat → Prop) (U : State) (H : Heap) : Prop :=
  (∀ q ∈ SF, va_Z q.1 q.2.1 q.2.2.1 (aTr ad q.2.2.2) A U H) ∧
  (∀ i, (kd i).1 = 13 → va_T .int (ad i) (kd i).2 (fun j => .int (Z.1 i j)) A U H) ∧
  (∀ i, (kd i).1 = 14 → va_T .long (ad i) (kd i).2 (fun j => .long (Z.2 i j)) A U H) ∧
  (∀ q ∈ NW, va_Nw (.methodLinkNest q.1 q.2.1 q.2.2.1 q.2.2.2) U) ∧
  (∀ C ∈ AO, va_AO C U) ∧
  (∀ q ∈ SK, vk_R q.1 q.2.1 q.2.2.1 (ad q.2.2.2) U) ∧
  (∀ i, (kd i).1 = 15 → va_O "java/lang/String" (ad i) A U H ∧ va_OF "java/lang/String" "coder" "B" (.int 0) (ad i) A U H ∧ va_OF "java/lang/String" "value" "[B" (.ref (ad (i + 100))) (ad i) A U H) ∧
  (∀ i, (kd i).1 = 16 → va_T .byte (ad i) (kd i).2 (fun j => .int (Z.1 i j)) A U H)
section CT
variable {kd : Nat → Nat × Nat} {Z : aZ} {SF : List (String × String × String × Value)} {SK : List (String × Nat × String × Nat)} {NW : List aNt} {AO : List String}
theorem aSt_warm {ad : Nat → Nat} {A A1 : Nat → Prop} {s U : State} {H : Heap} {locs : List Loc} (h : aSt kd Z SF SK NW AO ad A s s.heap) (hS : va_S A s.heap H locs) (hW : s.WarmedH U.vm) (hA : ∀ q, A1 q → A q) : aSt kd Z SF SK NW AO ad A1 U H := by
  obtain ⟨g1, g2, g3, g4, g5, g6, g7, g8⟩ := h
  exact ⟨fun q hq => (((g1 q hq).kept hS.2.1).moved hW.alike).narrow hA, fun i hi => (((g2 i hi).kept hS.2.1).moved hW.alike).narrow hA, fun i hi => (((g3 i hi).kept hS.2.1).moved hW.alike).narrow hA, fun q hq => (g4 q hq).warmM hW, fun C hC => (g5 C hC).moved hW.alike, fun q hq => (g6 q hq).warm hW,
    fun i hi => ⟨(((g7 i hi).1.kept hS.2.1).moved hW.alike).narrow hA, (((g7 i hi).2.1.kept hS.2.1).moved hW.alike).narrow hA, (((g7 i hi).2.2.kept hS.2.1).moved hW.alike).narrow hA⟩, fun i hi => (((g8 i hi).kept hS.2.1).moved hW.alike).narrow hA⟩
theorem aSt_same {ad : Nat → Nat} {A : Nat → Prop} {u U : State} {H : Heap} (hv : u.vm = U.vm) (h : aSt kd Z SF SK NW AO ad A u H) : aSt kd Z SF SK NW AO ad A U H := by
  obtain ⟨g1, g2, g3, g4, g5, g6, g7, g8⟩ := h
  have hv1 : u.vm.Alike U.vm := by rw [hv]; exact Vm.Alike.refl _
  exact ⟨fun q hq => (g1 q hq).moved hv1, fun i hi => (g2 i hi).moved hv1, fun i hi => (g3 i hi).moved hv1, fun q hq => (g4 q hq).same rfl hv, fun C hC => (g5 C hC).moved hv1, fun q hq => (g6 q hq).same hv.symm,
    fun i hi => ⟨(g7 i hi).1.moved hv1, (g7 i hi).2.1.moved hv1, (g7 i hi).2.2.moved hv1⟩, fun i hi => (g8 i hi).moved hv1⟩
theorem aTr_far {ad ad' : Nat → Nat} (he : ∀ i, 1000 ≤ i → ad' i = ad i) {v : Value} (hv : ∀ i, v = .ref i → 1000 ≤ i) : aTr ad' v = aTr ad v := by
  cases v <;> first | rfl | exact congrArg Value.ref (he _ (hv _ rfl))
theorem aSt_ad {ad ad' : Nat → Nat} {A : Nat → Prop} {U : State} {H : Heap} (hsf : ∀ q ∈ SF, ∀ i, q.2.2.2 = .ref i → 1000 ≤ i) (hsk : ∀ q ∈ SK, 1000 ≤ q.2.2.2) (hk : ∀ i, 13 ≤ (kd i).1 → 1000 ≤ i) (he : ∀ i, 1000 ≤ i → ad' i = ad i) (h : aSt kd Z SF SK NW AO ad A U H) : aSt kd Z SF SK NW AO ad' A U H := by
  obtain ⟨g1, g2, g3, g4, g5, g6, g7, g8⟩ := h
  exact ⟨fun q hq => by rw [aTr_far he (hsf q hq)]; exact g1 q hq, fun i hi => by rw [he i (hk i (by omega))]; exact g2 i hi, fun i hi => by rw [he i (hk i (by omega))]; exact g3 i hi, g4, g5, fun q hq => by rw [he _ (hsk q hq)]; exact g6 q hq,
    fun i hi => by have := hk i (by omega); rw [he i this, he (i + 100) (by omega)]; exact g7 i hi, fun i hi => by rw [he i (hk i (by omega))]; exact g8 i hi⟩
end CT
/-- a method's start: the arguments vs, the heap h, read at the addresses ad -/
def aPc (D : va_G) (cl : List vw_C) (tys : List (ClassId × FieldType)) (kd : Nat → Nat × Nat) (fk : Nat → Nat → Nat) (cy : Nat → ClassId) (Z : aZ) (SF : List (String × String × String × Value)) (SK : List (String × Nat × String × Nat)) (NW : List aNt) (AO : List String) (ad : Nat → Nat) (vs : List Value) (h : aH) (sz : Nat) : Array Value → State → Prop :=
  va_Pc (vs.map (aTr ad)) (fun U => U.heap.size = sz ∧ va_P D cl (aWd kd fk cy ad h) U.heap ∧ va_K D cl tys U ∧ va_D (fun _ => True) (aWd kd fk cy ad h) ∧ aSt kd Z SF SK NW AO ad (va_A (aWd kd fk cy ad h) sz) U U.heap)
/-- a method's end: the answer rv, the heap hh, at addresses that go on those of the start -/
def aQc (D : va_G) (cl : List vw_C) (tys : List (ClassId × FieldType)) (kd : Nat → Nat × Nat) (fk : Nat → Nat → Nat) (cy : Nat → ClassId) (ad : Nat → Nat) (n : Nat) (A : Nat → Prop) (rv : Option Value) (hh : aH) : Array Value → State → Outcome → State → Prop := fun _ st oc t =>
  (∃ ad' : Nat → Nat, (∀ i, (i < n ∨ 1000 ≤ i) → ad' i = ad i) ∧ (hh.1 = n → ad' = ad) ∧ oc = .returned (rv.map (aTr ad')) ∧ va_P D cl (aWd kd fk cy ad' hh) t.heap ∧ va_D A (aWd kd fk cy ad' hh)) ∧ va_F A st t
/-- the cells' slots: of the first n -/
def aZs (kd : Nat → Nat × Nat) : Nat → Nat
  | 0 => 0
  | n + 1 => aZs kd n + (kd n).2
theorem aZs_le {kd : Nat → Nat × Nat} {n : Nat} : ∀ m, n ≤ m → aZs kd n ≤ aZs kd m
  | 0, h => by rw [Nat.le_zero.mp h]; exact Nat.le_refl _
  | m + 1, h => by
    rcases Nat.lt_or_ge n (m + 1) with q | q
    · exact Nat.le_trans (aZs_le m (by omega)) (Nat.le_add_right _ _)
    · have : n = m + 1 := by omega
      rw [this]; exact Nat.le_refl _
/-- the calls that X relates are contracts at the depth dd -/
def aXm (l : Launch) (D : va_G) (cl : List vw_C) (tys : List (ClassId × FieldType)) (kd : Nat → Nat × Nat) (fk : Nat → Nat → Nat) (cy : Nat → ClassId) (Z : aZ) (SF : List (String × String × String × Value)) (SK : List (String × Nat × String × Nat)) (NW : List aNt) (AO : List String) (Ts : List Jvm.Cond) (mt : Nat → aMt) (dd : Nat) (X : aX) : Prop :=
  ∀ (y : Nat) (vs : List Value) (h : aH) (rv : Option Value) (hh : aH), X y vs h rv hh → aHok h → ∀ (ad : Nat → Nat) (sz : Nat),
    Met l (mt y).1 (Cond.code (mt y).1 (mt y).2.1 (mt y).2.2.1 (mt y).2.2.2 :: Ts) (aRoom dd (hh.1 - h.1) (aZs kd hh.1 - aZs kd h.1)) (aPc D cl tys kd fk cy Z SF SK NW AO ad vs h sz) (aQc D cl tys kd fk cy ad h.1 (va_A (aWd kd fk cy ad h) sz) rv hh) (hh.1 - h.1) (aZs kd hh.1 - aZs kd h.1) (va_A (aWd kd fk cy ad h) sz)
