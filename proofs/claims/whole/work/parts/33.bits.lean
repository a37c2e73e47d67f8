/-- the k-th bit -/
def bt (x : Int32) (k : Nat) : Bool := x.toBitVec.getLsbD k
theorem bt_and1 (y : Int32) : y &&& 1 = 1 ↔ y.toBitVec.getLsbD 0 = true := by
  constructor
  · intro h
    have h1 := congrArg (fun z : Int32 => z.toBitVec.getLsbD 0) h
    simpa using h1
  · intro h
    apply Int32.toBitVec_inj.mp
    apply BitVec.eq_of_getLsbD_eq
    intro i hi
    have e1 : (1 : Int32).toBitVec = 1#32 := rfl
    rw [Int32.toBitVec_and, e1, BitVec.getLsbD_and, BitVec.getLsbD_one]
    by_cases h0 : i = 0
    · subst h0; simp [h]
    · simp [h0]
theorem bt_shl (x m : Int32) (k : Nat) (hm : m.toBitVec = (1#32) <<< k) (hk : k < 32) : x &&& m = 0 ↔ bt x k = false := by
  constructor
  · intro h
    have h1 := congrArg (fun z : Int32 => z.toBitVec.getLsbD k) h
    simp only [Int32.toBitVec_and, hm, BitVec.getLsbD_and, BitVec.getLsbD_shiftLeft, BitVec.getLsbD_one] at h1
    have e0 : (0 : Int32).toBitVec = 0#32 := rfl
    rw [e0] at h1
    simpa [hk, bt] using h1
  · intro h
    apply Int32.toBitVec_inj.mp
    apply BitVec.eq_of_getLsbD_eq
    intro i hi
    have e0 : (0 : Int32).toBitVec = 0#32 := rfl
    rw [Int32.toBitVec_and, hm, e0, BitVec.getLsbD_and, BitVec.getLsbD_shiftLeft, BitVec.getLsbD_one]
    by_cases hik : i = k
    · subst hik; unfold bt at h; simp [h]
    · by_cases hlt : i < k
      · simp [hlt]
      · have : i - k ≠ 0 := by omega
        simp [this]
theorem bt_shr0 (x : Int32) (k : Nat) (s : Int32) (hs : (x >>> s).toBitVec = x.toBitVec.sshiftRight k) (hk : k < 31) : (x >>> s) &&& 1 = 1 ↔ bt x k = true := by
  rw [bt_and1, hs, BitVec.getLsbD_sshiftRight]
  simp [bt, show ¬ (32 ≤ 0) by decide, show k < 32 by omega]
/-- the numbers 0 .. 5 -/
theorem six {s : Int32} (h0 : 0 ≤ s) (h1 : s < 6) : s = 0 ∨ s = 1 ∨ s = 2 ∨ s = 3 ∨ s = 4 ∨ s = 5 := by grind
theorem bt_at {s : Int32} (h0 : 0 ≤ s) (h1 : s < 6) (x : Int32) : ((x >>> (s &&& 31)) &&& 1 = 1 ↔ bt x s.toNatClampNeg = true) ∧ ((x >>> s) &&& 1 = 1 ↔ bt x s.toNatClampNeg = true) ∧ (x &&& (1 <<< (s &&& 31)) = 0 ↔ bt x s.toNatClampNeg = false) := by
  rcases six h0 h1 with rfl | rfl | rfl | rfl | rfl | rfl
  · exact ⟨bt_shr0 x 0 _ rfl (by decide), bt_shr0 x 0 _ rfl (by decide), bt_shl x _ 0 (by decide) (by decide)⟩
  · exact ⟨bt_shr0 x 1 _ rfl (by decide), bt_shr0 x 1 _ rfl (by decide), bt_shl x _ 1 (by decide) (by decide)⟩
  · exact ⟨bt_shr0 x 2 _ rfl (by decide), bt_shr0 x 2 _ rfl (by decide), bt_shl x _ 2 (by decide) (by decide)⟩
  · exact ⟨bt_shr0 x 3 _ rfl (by decide), bt_shr0 x 3 _ rfl (by decide), bt_shl x _ 3 (by decide) (by decide)⟩
  · exact ⟨bt_shr0 x 4 _ rfl (by decide), bt_shr0 x 4 _ rfl (by decide), bt_shl x _ 4 (by decide) (by decide)⟩
  · exact ⟨bt_shr0 x 5 _ rfl (by decide), bt_shr0 x 5 _ rfl (by decide), bt_shl x _ 5 (by decide) (by decide)⟩
theorem bt_and (x y : Int32) (k : Nat) : bt (x &&& y) k = (bt x k && bt y k) := by
  unfold bt; rw [Int32.toBitVec_and, BitVec.getLsbD_and]
theorem mb1 {s : Int32} (h0 : 0 ≤ s) (h1 : s < 6) (w a : Int32) : (w &&& a) &&& (1 <<< (s &&& 31)) = 0 ↔ ¬ (bt w s.toNatClampNeg = true ∧ bt a s.toNatClampNeg = true) := by
  rw [(bt_at h0 h1 _).2.2, bt_and]
  cases bt w s.toNatClampNeg <;> cases bt a s.toNatClampNeg <;> simp
/-- a sail may be up: among cnt sails, by needs; now is up, fit are whole, on aboard, many hands awake -/
def mayQ (nd : Nat → Int32) (cnt s now fit on many : Int32) : Prop := (0 ≤ s ∧ s < cnt) ∧ bt fit s.toNatClampNeg = true ∧ bt on s.toNatClampNeg = true ∧ (now = s ∨ nd s.toNatClampNeg ≤ many)
