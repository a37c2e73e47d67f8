/-- what the tables say of an instruction that has no side condition -/
def aSd (cl : List vw_C) (fk : Nat → Nat → Nat) (Ts : List Jvm.Cond) (SF : List (String × String × String × Value)) (SK : List (String × Nat × String × Nat)) (own : String) (nL : Nat) (ini : Bool) (pc len a b t : Nat) (v : Value) (ins : Instr) : Prop :=
  match ins with
  | .iconst z => len = 1 ∧ v = .int (Int32.ofInt z)
  | .bipush z => len = 2 ∧ v = .int (Int8.ofInt z).toInt32
  | .sipush z => len = 3 ∧ v = .int (Int16.ofInt z).toInt32
  | .lconst z => len = 1 ∧ v = .long (Int64.ofNat (z : Nat))
  | .ldc i => len = 2 ∧ ((∃ x, v = .int x ∧ Cond.constant own i x ∈ Ts) ∨ ∃ tx q, v = .ref q ∧ (own, i, tx, q) ∈ SK)
  | .ldc_w i => len = 3 ∧ ∃ x, v = .int x ∧ Cond.constant own i x ∈ Ts
  | .ldc2_w i => len = 3 ∧ ∃ x, v = .long x ∧ Cond.constantLong own i x ∈ Ts
  | .getstatic i => len = 3 ∧ ∃ q, q ∈ SF ∧ v = q.2.2.2 ∧ Cond.fieldLink own i q.1 q.2.1 q.2.2.1 ∈ Ts
  | .aconst_null => len = 1
  | .iload_n k => len = 1 ∧ (k : Nat) = a
  | .lload_n k => len = 1 ∧ (k : Nat) = a
  | .aload_n k => len = 1 ∧ (k : Nat) = a
  | .iload k => len = 2 ∧ k = a
  | .lload k => len = 2 ∧ k = a
  | .aload k => len = 2 ∧ k = a
  | .istore_n k => len = 1 ∧ (k : Nat) = a ∧ a < nL
  | .lstore_n k => len = 1 ∧ (k : Nat) = a ∧ a + 1 < nL
  | .astore_n k => len = 1 ∧ (k : Nat) = a ∧ a < nL
  | .istore k => len = 2 ∧ k = a ∧ a < nL
  | .lstore k => len = 2 ∧ k = a ∧ a + 1 < nL
  | .astore k => len = 2 ∧ k = a ∧ a < nL
  | .iinc k z => len = 3 ∧ k = a ∧ a < nL ∧ v = .int (Int32.ofInt z)
  | .goto off => len = 3 ∧ (pc : Int) + off = (a : Int)
  | .ifCond _ off => len = 3 ∧ (pc : Int) + off = (a : Int)
  | .if_icmp _ off => len = 3 ∧ (pc : Int) + off = (a : Int)
  | .ifnull off => len = 3 ∧ (pc : Int) + off = (a : Int)
  | .ifnonnull off => len = 3 ∧ (pc : Int) + off = (a : Int)
  | .getfield i => len = 3 ∧ ((a = 99 ∧ ((t = 15 ∧ Cond.fieldLink own i "java/lang/String" "value" "[B" ∈ Ts) ∨ (t = 16 ∧ Cond.fieldLink own i "java/lang/String" "coder" "B" ∈ Ts))) ∨ ∃ C T N, cl[a]? = some (C, T, N) ∧ b < N ∧ Cond.fieldLink own i (T b).1 (T b).2.1 (T b).2.2.1 ∈ Ts ∧ ((t = 1 ∧ fk a b = 1) ∨ (t = 2 ∧ fk a b = 2) ∨ (t = 0 ∧ (fk a b = 0 ∨ fk a b = 3))))
  | .putfield i => len = 3 ∧ ∃ C T N, cl[a]? = some (C, T, N) ∧ b < N ∧ Cond.fieldLink own i (T b).1 (T b).2.1 (T b).2.2.1 ∈ Ts ∧ fk a b = t ∧ ((T b).2.2.2 = true → ini = true ∧ (T b).1 = own)
  | .new _ => True
  | .newarray _ => True
  | .anewarray _ => True
  | .tableswitch _ _ _ _ => True
  | .lookupswitch _ _ => True
  | .invokestatic _ => True
  | .invokevirtual _ => True
  | .invokespecial _ => True
  | _ => len = 1
/-- what the class tables say -/
def aTab (cl : List vw_C) (fk : Nat → Nat → Nat) (Ts : List Jvm.Cond) : Prop := ∀ (ci : Nat) (C : String) (T : u_T) (N : Nat), cl[ci]? = some (C, T, N) → (∀ w ∈ u_ws C T N, w ∈ Ts) ∧ (∀ a, a < N → ∀ b, b < N → a ≠ b → (T a).2.1 ≠ (T b).2.1) ∧ ∃ ty : Nat → FieldType, (∀ k, k < N → parseFieldDescriptor (T k).2.2.1 = some (ty k)) ∧
  ∀ k, k < N → (fk ci k = 0 ∧ ty k = .int) ∨ (fk ci k = 1 ∧ ty k = .long) ∨ (fk ci k = 3 ∧ ty k = .boolean) ∨ (fk ci k = 2 ∧ ((∃ n, ty k = .object n) ∨ ∃ n, ty k = .array n))
section ST
variable {p : Program} {l : Launch} {e : Env} {R : Room} {s : State} {m : MethodId} {args : Array Value} {below : List Frame} {meth : Method} {c : Code} {Q : State → Prop}
variable {cc : ByteArray} {D : va_G} {cl : List vw_C} {A : Nat → Prop} {tys : List (ClassId × FieldType)} {Ts : List Jvm.Cond} {SF : List (String × String × String × Value)} {SK : List (String × Nat × String × Nat)} {own : String} {nL nS : Nat} {ini : Bool}
variable {kd : Nat → Nat × Nat} {fk : Nat → Nat → Nat} {cy : Nat → ClassId} {zs : Nat → Nat}
/-- from the abstract place c, read at the addresses ad, the machine comes to Q -/
def aSW (p : Program) (l : Launch) (e : Env) (R : Room) (s : State) (m : MethodId) (args : Array Value) (below : List Frame) (meth : Method) (cd : Code) (Q : State → Prop) (D : va_G) (cl : List vw_C) (A : Nat → Prop) (nL nS : Nat) (kd : Nat → Nat × Nat) (fk : Nat → Nat → Nat) (cy : Nat → ClassId) (zs : Nat → Nat) (ad : Nat → Nat) (c : aC) : Prop :=
  ∀ (H : Heap) (locs : List Loc) (ls : Array Slot), va_P D cl (aWd kd fk cy ad c.2.2.2) H → va_D A (aWd kd fk cy ad c.2.2.2) → va_S A s.heap H locs → lv_has ls nL (aTl ad c.2.1) →
    W p l e R s m args below meth cd H locs (c.2.2.2.1 - nS) (zs c.2.2.2.1 - zs nS) Q (F0 m c.1 ls (c.2.2.1.map (aTr ad)))
theorem aLive {n0 n i : Nat} (h0 : n0 ≤ n) (h : (Nat.blt i n0 || Nat.blt i n) = true) : i < n := by
  rcases Bool.or_eq_true_iff.mp h with h | h
  · have := Nat.le_of_ble_eq_true h
    omega
  · exact Nat.le_of_ble_eq_true h
theorem aBr {α : Type} {P : Prop} [Decidable P] {x y : α} {F : α → Prop} (h : F (if P then x else y)) : (P → F x) ∧ (¬ P → F y) := ⟨fun hp => by rw [if_pos hp] at h; exact h, fun hp => by rw [if_neg hp] at h; exact h⟩
end ST
