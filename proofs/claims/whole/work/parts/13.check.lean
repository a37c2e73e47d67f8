/-- one class's links: fields read; fields written; its own final ones (in a constructor); calls; new; constants; statics; arrays of references; texts -/
abbrev aLk : Type := List (Nat × Nat × Nat) × List (Nat × Nat × Nat) × List (Nat × Nat × Nat) × List (Nat × Nat × Nat × Nat × Nat) × List (Nat × Nat × Nat) × List (Nat × Int32) × List (Nat × Int64) × List (Nat × Value) × List (Nat × Nat) × List (Nat × Nat) × List (Nat × Nat)
def aM3 (l : List (Nat × Nat × Nat)) (i a b : Nat) : Bool := l.any (fun q => Nat.beq q.1 i && (Nat.beq q.2.1 a && Nat.beq q.2.2 b))
def aM5 (l : List (Nat × Nat × Nat × Nat × Nat)) (i a b t m : Nat) : Bool := l.any (fun q => Nat.beq q.1 i && (Nat.beq q.2.1 a && (Nat.beq q.2.2.1 b && (Nat.beq q.2.2.2.1 t && Nat.beq q.2.2.2.2 m))))
def aM2 (l : List (Nat × Nat)) (i a : Nat) : Bool := l.any (fun q => Nat.beq q.1 i && Nat.beq q.2 a)
theorem aM3_of {l : List (Nat × Nat × Nat)} {i a b : Nat} (h : aM3 l i a b = true) : (i, a, b) ∈ l := by
  obtain ⟨⟨x, y, z⟩, hq, h⟩ := List.any_eq_true.mp h
  simp only [Bool.and_eq_true, Nat.beq_eq] at h
  obtain ⟨rfl, rfl, rfl⟩ := h
  exact hq
theorem aM5_of {l : List (Nat × Nat × Nat × Nat × Nat)} {i a b t m : Nat} (h : aM5 l i a b t m = true) : (i, a, b, t, m) ∈ l := by
  obtain ⟨⟨x, y, z, u, w⟩, hq, h⟩ := List.any_eq_true.mp h
  simp only [Bool.and_eq_true, Nat.beq_eq] at h
  obtain ⟨rfl, rfl, rfl, rfl, rfl⟩ := h
  exact hq
theorem aM2_of {l : List (Nat × Nat)} {i a : Nat} (h : aM2 l i a = true) : (i, a) ∈ l := by
  obtain ⟨⟨x, y⟩, hq, h⟩ := List.any_eq_true.mp h
  simp only [Bool.and_eq_true, Nat.beq_eq] at h
  obtain ⟨rfl, rfl⟩ := h
  exact hq
/-- an instruction with its resolved parts, held against the links -/
def aGs (lk : aLk) (fk : Nat → Nat → Nat) (nL : Nat) (ini : Bool) (rt pc len a b t : Nat) (v : Value) (ins : Instr) : Bool :=
  match ins with
  | .iconst z => Nat.beq len 1 && decide (v = .int (Int32.ofInt z))
  | .bipush z => Nat.beq len 2 && decide (v = .int (Int8.ofInt z).toInt32)
  | .sipush z => Nat.beq len 3 && decide (v = .int (Int16.ofInt z).toInt32)
  | .lconst z => Nat.beq len 1 && decide (v = .long (Int64.ofNat (z : Nat)))
  | .ldc i => Nat.beq len 2 && (lk.2.2.2.2.2.1.any (fun q => Nat.beq q.1 i && decide (v = .int q.2)) || lk.2.2.2.2.2.2.2.2.2.2.any (fun q => Nat.beq q.1 i && decide (v = .ref q.2)))
  | .ldc_w i => Nat.beq len 3 && lk.2.2.2.2.2.1.any (fun q => Nat.beq q.1 i && decide (v = .int q.2))
  | .ldc2_w i => Nat.beq len 3 && lk.2.2.2.2.2.2.1.any (fun q => Nat.beq q.1 i && decide (v = .long q.2))
  | .getstatic i => Nat.beq len 3 && lk.2.2.2.2.2.2.2.1.any (fun q => Nat.beq q.1 i && decide (v = q.2))
  | .iload_n k => Nat.beq len 1 && Nat.beq (k : Nat) a
  | .lload_n k => Nat.beq len 1 && Nat.beq (k : Nat) a
  | .aload_n k => Nat.beq len 1 && Nat.beq (k : Nat) a
  | .iload k => Nat.beq len 2 && Nat.beq k a
  | .lload k => Nat.beq len 2 && Nat.beq k a
  | .aload k => Nat.beq len 2 && Nat.beq k a
  | .istore_n k => Nat.beq len 1 && Nat.beq (k : Nat) a && Nat.blt a nL
  | .lstore_n k => Nat.beq len 1 && Nat.beq (k : Nat) a && Nat.blt (a + 1) nL
  | .astore_n k => Nat.beq len 1 && Nat.beq (k : Nat) a && Nat.blt a nL
  | .istore k => Nat.beq len 2 && Nat.beq k a && Nat.blt a nL
  | .lstore k => Nat.beq len 2 && Nat.beq k a && Nat.blt (a + 1) nL
  | .astore k => Nat.beq len 2 && Nat.beq k a && Nat.blt a nL
  | .iinc k z => Nat.beq len 3 && Nat.beq k a && Nat.blt a nL && decide (v = .int (Int32.ofInt z))
  | .goto off => Nat.beq len 3 && decide ((pc : Int) + off = (a : Int))
  | .ifCond _ off => Nat.beq len 3 && decide ((pc : Int) + off = (a : Int))
  | .if_icmp _ off => Nat.beq len 3 && decide ((pc : Int) + off = (a : Int))
  | .ifnull off => Nat.beq len 3 && decide ((pc : Int) + off = (a : Int))
  | .ifnonnull off => Nat.beq len 3 && decide ((pc : Int) + off = (a : Int))
  | .getfield i => Nat.beq len 3 && ((Nat.beq a 99 && aM2 lk.2.2.2.2.2.2.2.2.1 i t) || (aM3 lk.1 i a b && ((Nat.beq t 1 && Nat.beq (fk a b) 1) || ((Nat.beq t 2 && Nat.beq (fk a b) 2) || (Nat.beq t 0 && (Nat.beq (fk a b) 0 || Nat.beq (fk a b) 3))))))
  | .putfield i => Nat.beq len 3 && Nat.beq (fk a b) t && (aM3 lk.2.1 i a b || (ini && aM3 lk.2.2.1 i a b))
  | .ireturn => Nat.beq len 1 && Nat.beq t rt && Nat.ble rt 3
  | .lreturn => Nat.beq len 1 && Nat.beq rt 4
  | .areturn => Nat.beq len 1 && Nat.beq rt 5
  | .return_ => Nat.beq len 1 && Nat.beq rt 6
  | .aastore => Nat.beq len 1 && ((Nat.beq a 0 && Nat.beq b 10) || ((Nat.beq a 2 && Nat.beq b 11) || (Nat.beq a 4 && Nat.beq b 12)))
  | .new i => Nat.beq len 3 && aM3 lk.2.2.2.2.1 i a b
  | .newarray at_ => Nat.beq len 2 && ((Nat.beq a 7 && decide (newarray.typeOf at_ = .int)) || ((Nat.beq a 8 && decide (newarray.typeOf at_ = .long)) || (Nat.beq a 9 && decide (newarray.typeOf at_ = .boolean))))
  | .anewarray i => Nat.beq len 3 && aM2 lk.2.2.2.2.2.2.2.2.2.1 i a
  | .tableswitch d _ _ offs => decide (0 ≤ (pc : Int) + d) && offs.toList.all (fun off => decide (0 ≤ (pc : Int) + off))
  | .lookupswitch d ps => (ps.toList.zip (ps.toList.drop 1)).all (fun (x, next) => x.1 < next.1) && (decide (0 ≤ (pc : Int) + d) && ps.toList.all (fun q => decide (0 ≤ (pc : Int) + q.2)))
  | .invokestatic i => Nat.beq len 3 && aM5 lk.2.2.2.1 i a b t 0
  | .invokevirtual i => Nat.beq len 3 && aM5 lk.2.2.2.1 i a b t 1
  | .invokespecial i => Nat.beq len 3 && aM5 lk.2.2.2.1 i a b t 2
  | _ => Nat.beq len 1
def aGb (lk : aLk) (fk : Nat → Nat → Nat) (bytes : ByteArray) (nL : Nat) (ini : Bool) (rt : Nat) (q : Nat × aI) : Bool :=
  match q with
  | (pc, ins, nx, a, b, t, v) => match decode bytes pc with
    | .ok (i, len) => decide (i = ins) && (Nat.beq nx (pc + len) && aGs lk fk nL ini rt pc len a b t v ins)
    | .error _ => false
def aRt : Nat → Option FieldType → Prop
  | 0, r => r = some .int
  | 1, r => r = some .boolean
  | 2, r => r = some .byte
  | 3, r => r = some .char
  | 4, r => r = some .long
  | 5, r => ∃ rt, r = some rt ∧ ((∃ n, rt = .object n) ∨ ∃ u, rt = .array u)
  | _, r => r = none
/-- what a class's links say -/
def aLo (cl : List vw_C) (cy : Nat → ClassId) (tys : List (ClassId × FieldType)) (Ts : List Jvm.Cond) (SF : List (String × String × String × Value)) (SK : List (String × Nat × String × Nat)) (NW : List aNt) (AO : List String) (mt : Nat → aMt) (own : String) (lk : aLk) : Prop :=
  (∀ q ∈ lk.1, ∃ C T N, cl[q.2.1]? = some (C, T, N) ∧ q.2.2 < N ∧ Cond.fieldLink own q.1 (T q.2.2).1 (T q.2.2).2.1 (T q.2.2).2.2.1 ∈ Ts) ∧
  (∀ q ∈ lk.2.1, ∃ C T N, cl[q.2.1]? = some (C, T, N) ∧ q.2.2 < N ∧ Cond.fieldLink own q.1 (T q.2.2).1 (T q.2.2).2.1 (T q.2.2).2.2.1 ∈ Ts ∧ (T q.2.2).2.2.2 = false) ∧
  (∀ q ∈ lk.2.2.1, ∃ C T N, cl[q.2.1]? = some (C, T, N) ∧ q.2.2 < N ∧ Cond.fieldLink own q.1 (T q.2.2).1 (T q.2.2).2.1 (T q.2.2).2.2.1 ∈ Ts ∧ (T q.2.2).1 = own) ∧
  (∀ q ∈ lk.2.2.2.1, (q.2.2.2.2 = 0 → aSp cl cy tys Ts NW AO mt own none 0 3 q.2.1 q.2.2.1 q.2.2.2.1 (.invokestatic q.1)) ∧ (q.2.2.2.2 = 1 → aSp cl cy tys Ts NW AO mt own none 0 3 q.2.1 q.2.2.1 q.2.2.2.1 (.invokevirtual q.1)) ∧ (q.2.2.2.2 = 2 → aSp cl cy tys Ts NW AO mt own none 0 3 q.2.1 q.2.2.1 q.2.2.2.1 (.invokespecial q.1))) ∧
  (∀ q ∈ lk.2.2.2.2.1, ∃ C T, cl[q.2.1]? = some (C, T, q.2.2) ∧ Cond.classLink own q.1 C ∈ Ts ∧ Cond.instantiable C q.2.2 ∈ Ts ∧ Cond.initialized C ∈ Ts) ∧
  (∀ q ∈ lk.2.2.2.2.2.1, Cond.constant own q.1 q.2 ∈ Ts) ∧
  (∀ q ∈ lk.2.2.2.2.2.2.1, Cond.constantLong own q.1 q.2 ∈ Ts) ∧
  (∀ q ∈ lk.2.2.2.2.2.2.2.1, ∃ z, z ∈ SF ∧ q.2 = z.2.2.2 ∧ Cond.fieldLink own q.1 z.1 z.2.1 z.2.2.1 ∈ Ts) ∧
  (∀ q ∈ lk.2.2.2.2.2.2.2.2.1, (q.2 = 15 ∧ Cond.fieldLink own q.1 "java/lang/String" "value" "[B" ∈ Ts) ∨ (q.2 = 16 ∧ Cond.fieldLink own q.1 "java/lang/String" "coder" "B" ∈ Ts)) ∧
  (∀ q ∈ lk.2.2.2.2.2.2.2.2.2.1, 10 ≤ q.2 ∧ q.2 ≤ 12 ∧ ∃ C t0, Cond.classLink own q.1 C ∈ Ts ∧ C ∈ AO ∧ tys[(t0 : Nat)]? = some (cy q.2, .object C)) ∧
  (∀ q ∈ lk.2.2.2.2.2.2.2.2.2.2, ∃ tx, (own, q.1, tx, q.2) ∈ SK)
