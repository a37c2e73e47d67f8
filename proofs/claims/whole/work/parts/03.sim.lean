/-! values, locals and cells of the abstract machine, read at addresses -/
def aTr (ad : Nat → Nat) : Value → Value
  | .ref i => .ref (ad i)
  | v => v
def aTl (ad : Nat → Nat) (l : aL) : aL := l.map (fun q => (q.1, aTr ad q.2))
theorem aTr_cat (ad : Nat → Nat) (v : Value) : (aTr ad v).category = v.category := by cases v <;> rfl
theorem aTr_rf (ad : Nat → Nat) (r : Option Nat) : aTr ad (va_rf r) = va_rf (r.map ad) := by cases r <;> rfl
theorem aGet_mem : ∀ {l : aL} {i : Nat} {v : Value}, aGet l i = some v → (i, v) ∈ l
  | [], i, v, h => by cases h
  | q :: l, i, v, h => by
    unfold aGet at h
    cases hq : Nat.beq q.1 i with
    | true =>
      rw [hq] at h
      have h1 : q.2 = v := Option.some.inj h
      have h2 : q.1 = i := Nat.eq_of_beq_eq_true hq
      rw [← h1, ← h2]
      exact List.mem_cons_self
    | false =>
      rw [hq] at h
      exact List.mem_cons_of_mem _ (aGet_mem h)
theorem aTl_mem {ad : Nat → Nat} {l : aL} {i : Nat} {v : Value} (h : (i, v) ∈ l) : (i, aTr ad v) ∈ aTl ad l := List.mem_map.mpr ⟨(i, v), h, rfl⟩
theorem aGet_lv {ad : Nat → Nat} {l : aL} {i nL : Nat} {v : Value} {ls : Array Slot} (hl : lv_has ls nL (aTl ad l)) (h : aGet l i = some v) : ls[i]? = some (.val (aTr ad v)) := hl.2.2 (i, aTr ad v) (aTl_mem (aGet_mem h))
theorem aTl_put1 (ad : Nat → Nat) (l : aL) (i : Nat) (v : Value) : (i, aTr ad v) :: (aTl ad l).filter (fun q => !(q.1 == i) && !(q.1 + 1 == i && q.2.category == 2)) = aTl ad (aPut1 l i v) := by
  unfold aPut1 aTl
  rw [List.map_cons, List.filter_map]
  congr 2
  apply List.filter_congr
  intro q _
  simp [aTr_cat]
theorem aTl_put2 (ad : Nat → Nat) (l : aL) (i : Nat) (v : Value) : (i, aTr ad v) :: (aTl ad l).filter (fun q => !(q.1 == i) && (!(q.1 == i + 1) && !(q.1 + 1 == i && q.2.category == 2))) = aTl ad (aPut2 l i v) := by
  unfold aPut2 aTl
  rw [List.map_cons, List.filter_map]
  congr 2
  apply List.filter_congr
  intro q _
  simp [aTr_cat]
theorem aTr_args (ad : Nat → Nat) : ∀ (vs : List Value) (i : Nat), lv_args i (vs.map (aTr ad)) = aTl ad (lv_args i vs)
  | [], _ => rfl
  | v :: vs, i => by
    show (i, aTr ad v) :: lv_args (if (aTr ad v).category = 2 then i + 2 else i + 1) (vs.map (aTr ad)) = (i, aTr ad v) :: aTl ad (lv_args (if v.category = 2 then i + 2 else i + 1) vs)
    rw [aTr_cat, aTr_args ad vs]
/-- what a field holds, by its type's number: 1 long, 2 a reference, else int or boolean -/
def aFv (h : aH) (ad : Nat → Nat) (t i k : Nat) : Value := match t with
  | 1 => .long (h.2.2.1 i k)
  | 2 => va_rf ((h.2.2.2 i k).map ad)
  | _ => .int (h.2.1 i k)
def aEn (kd : Nat → Nat × Nat) (fk : Nat → Nat → Nat) (cy : Nat → ClassId) (h : aH) (ad : Nat → Nat) (i : Nat) : va_E :=
  if (kd i).1 < 7 then .inr ((kd i).1, (List.range (kd i).2).map (fun k => aFv h ad (fk (kd i).1 k) i k))
  else if (kd i).1 = 8 then .inl (cy 8, (kd i).2, .inr (.inl (h.2.2.1 i)))
  else if 10 ≤ (kd i).1 then .inl (cy (kd i).1, (kd i).2, .inr (.inr (.inr (.inr (fun k => (h.2.2.2 i k).map ad)))))
  else .inl (cy (kd i).1, (kd i).2, .inl (h.2.1 i))
def aWd (kd : Nat → Nat × Nat) (fk : Nat → Nat → Nat) (cy : Nat → ClassId) (ad : Nat → Nat) (h : aH) : va_W := (List.range h.1).map (fun i => (ad i, aEn kd fk cy h ad i))
section AW
variable {kd : Nat → Nat × Nat} {fk : Nat → Nat → Nat} {cy : Nat → ClassId} {ad : Nat → Nat} {h : aH}
theorem aWd_at {i : Nat} (hi : i < h.1) : (aWd kd fk cy ad h)[i]? = some (ad i, aEn kd fk cy h ad i) := by
  simp [aWd, hi]
theorem aWd_set {h' : aH} {i : Nat} {e : va_E} (hn : h'.1 = h.1) (he : e = aEn kd fk cy h' ad i) (ho : ∀ j, j ≠ i → aEn kd fk cy h' ad j = aEn kd fk cy h ad j) : (aWd kd fk cy ad h).set i (ad i, e) = aWd kd fk cy ad h' := by
  apply List.ext_getElem?
  intro j
  rw [List.getElem?_set]
  by_cases hj : i = j
  · subst hj
    by_cases hi : i < h.1
    · have h2 : i < h'.1 := by rw [hn]; exact hi
      rw [if_pos rfl, if_pos (by simp [aWd, hi]), aWd_at h2, he]
    · rw [if_pos rfl, if_neg (by simp [aWd, hi])]
      simp [aWd, hn, hi]
  · rw [if_neg hj]
    by_cases hi : j < h.1
    · have h2 : j < h'.1 := by rw [hn]; exact hi
      rw [aWd_at hi, aWd_at h2, ho j (fun e => hj e.symm)]
    · simp [aWd, hn, hi]
theorem up2_ne {α : Type} {f : Nat → Nat → α} {i k j : Nat} {v : α} (hj : j ≠ i) : up2 f i k v j = f j := by
  funext q
  have h1 : Nat.beq j i = false := by
    cases hb : Nat.beq j i with
    | false => rfl
    | true => exact absurd (Nat.eq_of_beq_eq_true hb) hj
  simp [up2, h1]
theorem up2_at {α : Type} {f : Nat → Nat → α} {i k q : Nat} {v : α} : up2 f i k v i q = if q = k then v else f i q := by
  by_cases hq : q = k
  · subst hq
    simp [up2]
  · have h1 : Nat.beq q k = false := by
      cases hb : Nat.beq q k with
      | false => rfl
      | true => exact absurd (Nat.eq_of_beq_eq_true hb) hq
    simp [up2, h1, hq]
theorem up1_ne {α : Type} {f : Nat → Nat → α} {i j : Nat} {g : Nat → α} (hj : j ≠ i) : up1 f i g j = f j := by
  have h1 : Nat.beq j i = false := by
    cases hb : Nat.beq j i with
    | false => rfl
    | true => exact absurd (Nat.eq_of_beq_eq_true hb) hj
  simp [up1, h1]
theorem up1_at {α : Type} {f : Nat → Nat → α} {i : Nat} {g : Nat → α} : up1 f i g i = g := by simp [up1]
theorem aSet_map {n k : Nat} {f g : Nat → Value} {v : Value} (hk : g k = v) (ho : ∀ j, j ≠ k → g j = f j) : ((List.range n).map f).set k v = (List.range n).map g := by
  apply List.ext_getElem?
  intro j
  rw [List.getElem?_set]
  by_cases hj : k = j
  · subst hj
    by_cases hi : k < n
    · rw [if_pos rfl, if_pos (by simp [hi])]
      simp [hi, hk]
    · rw [if_pos rfl, if_neg (by simp [hi])]
      simp [hi]
  · rw [if_neg hj]
    by_cases hi : j < n
    · simp [hi, ho j (fun e => hj e.symm)]
    · simp [hi]
end AW
