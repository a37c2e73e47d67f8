section RS
variable {p : Program} {l : Launch} {e : Env} {R : Room} {s : State} {m : MethodId} {args : Array Value} {below : List Frame} {meth : Method} {c : Code}
variable {cc : ByteArray} {D : va_G} {cl : List vw_C} {A : Nat → Prop} {tys : List (ClassId × FieldType)} {Ts : List Jvm.Cond} {SF : List (String × String × String × Value)} {SK : List (String × Nat × String × Nat)} {NW : List aNt} {AO : List String} {mt : Nat → aMt} {own : String} {nL nS dd n0 : Nat} {ini : Bool} {ret : Option FieldType}
variable {kd : Nat → Nat × Nat} {fk : Nat → Nat → Nat} {cy : Nat → ClassId} {Z : aZ} {X : aX}
theorem aBlind {ad : Nat → Nat} {vs : List Value} {h : aH} {sz : Nat} : FrameBlind (aPc D cl tys kd fk cy Z SF SK NW AO ad vs h sz) := fun a U g mk q => by
  obtain ⟨q0, q1, qP, qK, qD, qS⟩ := q
  exact ⟨q0, q1, qP, va_K.moved (u := U) (U := U.calling g mk a) (Vm.Alike.refl U.vm) qK, qD, aSt_same (u := U) (U := U.calling g mk a) rfl qS⟩
theorem aPre {ad : Nat → Nat} {vs : List Value} {h : aH} {H : Heap} {locs : List Loc} (hK : va_K D cl tys s) (hP : va_P D cl (aWd kd fk cy ad h) H) (hD : va_D A (aWd kd fk cy ad h)) (hS : va_S A s.heap H locs) (hSt : aSt kd Z SF SK NW AO ad A s s.heap) (hA1 : ∀ q, va_A (aWd kd fk cy ad h) H.size q → A q) {U : State} (hU : U.heap = H) (hW : s.WarmedH U.vm) :
    aPc D cl tys kd fk cy Z SF SK NW AO ad vs h H.size (vs.map (aTr ad)).toArray U :=
  ⟨rfl, by rw [hU], by rw [hU]; exact hP, va_K.moved hW.alike hK, hD.weaken (fun _ _ _ _ => trivial), by rw [hU]; exact aSt_warm hSt hS hW hA1⟩
theorem aFreeA {ad : Nat → Nat} {h : aH} {H : Heap} {locs : List Loc} (hD : va_D A (aWd kd fk cy ad h)) (hS : va_S A s.heap H locs) (hA : ∀ q, s.heap.size ≤ q → A q) : ∀ q, va_A (aWd kd fk cy ad h) H.size q → A q := by
  intro q hq
  rcases hq with ⟨k, e, hk⟩ | hq
  · exact hD.2 k _ hk
  · exact hA q (Nat.le_trans hS.1 hq)
theorem aGoodT {ws : List Jvm.Cond} (hg : ∀ w ∈ Ts, goodWord w = true) (h : ∀ w ∈ ws, w ∈ Ts) : GoodIn Ts ws := fun w hw => ⟨h w hw, good_of_word (hg w (h w hw))⟩
theorem aStack (ad : Nat → Nat) (st : List Value) (b : Nat) : st.map (aTr ad) = ((st.take b).reverse.map (aTr ad)).reverse ++ (st.drop b).map (aTr ad) := by
  rw [← List.map_reverse, List.reverse_reverse, ← List.map_append, List.take_append_drop]
theorem aCat (ad : Nat → Nat) (l : List Value) : ((l.map (aTr ad)).map fun v => v.category).sum = (l.map fun v => v.category).sum := by
  rw [List.map_map]
  congr 1
  apply List.map_congr_left
  intro v _
  exact aTr_cat ad v
theorem aHead {ad : Nat → Nat} {l : List Value} {i : Nat} (h : l.head? = some (.ref i)) : ∃ l', l = .ref i :: l' ∧ l.map (aTr ad) = .ref (ad i) :: l'.map (aTr ad) := by
  cases l with
  | nil => cases h
  | cons v l' =>
    cases (Option.some.inj h)
    exact ⟨l', rfl, rfl⟩
end RS
