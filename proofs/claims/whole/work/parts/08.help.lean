theorem va_RA_inj {U : State} {c1 c2 : ClassId} {ty : FieldType} (h1 : va_RA U c1 ty) (h2 : va_RA U c2 ty) : c1 = c2 := by
  cases ty with
  | object C =>
    obtain ⟨_, _, _, _, _, e1⟩ := h1
    obtain ⟨_, _, _, _, _, e2⟩ := h2
    exact Option.some.inj (e1.symm.trans e2)
  | _ => exact Option.some.inj (Eq.trans (Eq.symm h1) h2)
theorem aTr_same {ad ad' : Nat → Nat} {n : Nat} (he : ∀ i, (i < n ∨ 1000 ≤ i) → ad' i = ad i) {l : List Value} (h : aOks n l) : l.map (aTr ad') = l.map (aTr ad) := by
  apply List.map_congr_left
  intro v hv
  have := h v hv
  cases v <;> first | rfl | exact congrArg Value.ref (he _ this)
theorem aTl_same {ad ad' : Nat → Nat} {n : Nat} (he : ∀ i, (i < n ∨ 1000 ≤ i) → ad' i = ad i) {l : aL} (h : aOks n (l.map (·.2))) : aTl ad' l = aTl ad l := by
  unfold aTl
  apply List.map_congr_left
  intro q hq
  have := h q.2 (List.mem_map.mpr ⟨q, hq, rfl⟩)
  obtain ⟨i, v⟩ := q
  cases v <;> first | rfl | exact congrArg (fun z => (i, Value.ref z)) (he _ this)
section HE
variable {kd : Nat → Nat × Nat} {fk : Nat → Nat → Nat} {cy : Nat → ClassId}
theorem aEn_7 {h : aH} {ad : Nat → Nat} {i : Nat} (hk : (kd i).1 = 7) : aEn kd fk cy h ad i = .inl (cy 7, (kd i).2, .inl (h.2.1 i)) := by
  unfold aEn; simp [hk]
theorem aEn_8 {h : aH} {ad : Nat → Nat} {i : Nat} (hk : (kd i).1 = 8) : aEn kd fk cy h ad i = .inl (cy 8, (kd i).2, .inr (.inl (h.2.2.1 i))) := by
  unfold aEn; simp [hk]
theorem aEn_9 {h : aH} {ad : Nat → Nat} {i : Nat} (hk : (kd i).1 = 9) : aEn kd fk cy h ad i = .inl (cy 9, (kd i).2, .inl (h.2.1 i)) := by
  unfold aEn; simp [hk]
theorem aEn_q {h : aH} {ad : Nat → Nat} {i : Nat} (hk : 10 ≤ (kd i).1) : aEn kd fk cy h ad i = .inl (cy (kd i).1, (kd i).2, .inr (.inr (.inr (.inr (fun k => (h.2.2.2 i k).map ad))))) := by
  unfold aEn; rw [if_neg (by omega), if_neg (by omega), if_pos hk]
theorem aEn_o {h : aH} {ad : Nat → Nat} {i : Nat} (hk : (kd i).1 < 7) : aEn kd fk cy h ad i = .inr ((kd i).1, (List.range (kd i).2).map (fun k => aFv h ad (fk (kd i).1 k) i k)) := by
  unfold aEn; rw [if_pos hk]
theorem aWd_new {h : aH} {ad : Nat → Nat} {q : Nat} (hk : aHok h) : aWd kd fk cy (va_up ad h.1 q) (h.1 + 1, up1 h.2.1 h.1 (fun _ => 0), up1 h.2.2.1 h.1 (fun _ => 0), up1 h.2.2.2 h.1 (fun _ => none)) =
    aWd kd fk cy ad h ++ [(q, aEn kd fk cy (h.1 + 1, up1 h.2.1 h.1 (fun _ => 0), up1 h.2.2.1 h.1 (fun _ => 0), up1 h.2.2.2 h.1 (fun _ => none)) (va_up ad h.1 q) h.1)] := by
  unfold aWd
  dsimp only
  rw [List.range_succ, List.map_append]
  congr 1
  · apply List.map_congr_left
    intro i hi
    have hi : i < h.1 := List.mem_range.mp hi
    have hne : i ≠ h.1 := by omega
    have e1 : va_up ad h.1 q i = ad i := by simp [va_up, hne]
    have e2 : aEn kd fk cy (h.1 + 1, up1 h.2.1 h.1 (fun _ => 0), up1 h.2.2.1 h.1 (fun _ => 0), up1 h.2.2.2 h.1 (fun _ => none)) (va_up ad h.1 q) i = aEn kd fk cy h (va_up ad h.1 q) i :=
      aEn_eq (up1_ne hne) (up1_ne hne) (up1_ne hne)
    have e3 : ∀ k, (h.2.2.2 i k).map (va_up ad h.1 q) = (h.2.2.2 i k).map ad := by
      intro k
      cases hr : h.2.2.2 i k with
      | none => rfl
      | some j =>
        have := hk i k j hi hr
        have hj : j ≠ h.1 := by omega
        simp [va_up, hj]
    rw [e1, e2]
    congr 1
    unfold aEn aFv
    simp only [e3]
  · simp [va_up]
end HE
section HG
variable {p : Program} {l : Launch} {e : Env} {R : Room} {s : State} {m : MethodId} {args : Array Value} {below : List Frame} {meth : Method} {c : Code} {Q : State → Prop}
variable {cc : ByteArray} {D : va_G} {cl : List vw_C} {A : Nat → Prop} {tys : List (ClassId × FieldType)} {nL nS : Nat}
variable {kd : Nat → Nat × Nat} {fk : Nat → Nat → Nat} {cy : Nat → ClassId} {zs : Nat → Nat}
/-- behind a call -/
theorem aCall_go {A1 : Nat → Prop} {ad : Nat → Nat} {pc b cells slots mc ms : Nat} {H : Heap} {locs : List Loc} {L : Array Slot} {ls : aL} {st st0 : List Value} {h h1 : aH} {rv1 : Option Value} {as : Array Value}
    (hr : va_Run p l e R s m args below meth c H locs cells slots mc ms (F0 m pc L st0) ((st.drop b).map (aTr ad)) (aQc D cl tys kd fk cy ad h.1 A1 rv1 h1 as) A1)
    (hS : va_S A s.heap H locs) (hA1 : ∀ q, A1 q → A q) (hl : lv_has L nL (aTl ad ls)) (hfr : h1.1 = h.1 ∨ (aOks h.1 (ls.map (·.2)) ∧ aOks h.1 (st.drop b)))
    (hcell : cells + mc = h1.1 - nS) (hslot : slots + ms = zs h1.1 - zs nS)
    (kk : ∀ ad' : Nat → Nat, (∀ i, (i < h.1 ∨ 1000 ≤ i) → ad' i = ad i) → (h1.1 = h.1 → ad' = ad) → aSW p l e R s m args below meth c Q D cl A nL nS kd fk cy zs ad' (pc + 3, ls, rv1.toList ++ st.drop b, h1)) :
    W p l e R s m args below meth c H locs cells slots Q (F0 m pc L st0) := by
  intro T hT X
  obtain ⟨v, st₀, t, T', L', h0, X', hL, e1, e2, ⟨⟨ad', hext, hsame, hv, hP1, hD1⟩, hz, hk1⟩, st'⟩ := hr T hT X
  have hv1 : v = rv1.map (aTr ad') := Outcome.returned.inj hv
  subst hv1
  rw [h0] at hz hk1
  have es : (st.drop b).map (aTr ad') = (st.drop b).map (aTr ad) := by
    rcases hfr with q | q
    · rw [hsame q]
    · exact aTr_same hext q.2
  have el : aTl ad' ls = aTl ad ls := by
    rcases hfr with q | q
    · rw [hsame q]
    · exact aTl_same hext q.1
  have k1 := kk ad' hext hsame T'.heap (locs ++ L') L (by rw [e1]; exact hP1) (hD1.weaken (fun _ _ _ h => hA1 _ h)) ⟨Nat.le_trans hS.1 (by rw [e1]; exact hz), fun q h1 h2 => by
      rw [e1, hk1 q (Nat.lt_of_lt_of_le h1 hS.1) (fun z => h2 (hA1 q z))]; exact hS.2.1 q h1 h2, fun q hq => by
      rcases List.mem_append.mp hq with h | h
      · exact hS.2.2 q h
      · exact hA1 _ (hL q h)⟩ (by rw [el]; exact hl)
  dsimp only at k1
  rw [← hcell, ← hslot, List.map_append, es] at k1
  have ev : rv1.toList.map (aTr ad') = (rv1.map (aTr ad')).toList := by cases rv1 <;> rfl
  rw [ev] at k1
  obtain ⟨t2, a1, b1⟩ := k1 T' rfl X'
  exact ⟨t2, st' t2 a1, b1⟩
end HG
theorem up2_upd {f : Nat → Nat → Int32} {i k : Nat} {x : Int32} : upd (f i) k x = up2 f i k x i := by
  funext q
  rw [up2_at]
  rfl
theorem up2_updL {f : Nat → Nat → Int64} {i k : Nat} {x : Int64} : vp_updL (f i) k x = up2 f i k x i := by
  funext q
  rw [up2_at]
  rfl
theorem up2_map {f : Nat → Nat → Option Nat} {ad : Nat → Nat} {i k w : Nat} : va_up (fun q => (f i q).map ad) k (some (ad w)) = fun q => (up2 f i k (some w) i q).map ad := by
  funext q
  rw [up2_at]
  unfold va_up
  split <;> rfl
theorem vp_nar01 {x : Int32} (h : x = 0 ∨ x = 1) : vp_nar .boolean x = x := by
  rcases h with rfl | rfl <;> rfl
theorem aTys_q {cy : Nat → ClassId} {tys : List (ClassId × FieldType)} (hty : aTys cy tys) {q : Nat} (h7 : 10 ≤ q) (h12 : q ≤ 12) : ∃ (t0 : Nat) (C : String), tys[t0]? = some (cy q, .object C) := by
  obtain ⟨a0, a1, a2, ⟨c3, a3⟩, ⟨c4, a4⟩, ⟨c5, a5⟩⟩ := hty
  have : q = 10 ∨ q = 11 ∨ q = 12 := by omega
  rcases this with rfl | rfl | rfl
  · exact ⟨_, _, a3⟩
  · exact ⟨_, _, a4⟩
  · exact ⟨_, _, a5⟩
theorem aLook {pc d z : Int} : ∀ {ps : List (Int × Int)}, 0 ≤ pc + d → (∀ q ∈ ps, 0 ≤ pc + q.2) → 0 ≤ pc + Op.lookupswitch.offset ps d z
  | [], h, _ => h
  | (a, o) :: r, h, h2 => by
    unfold Op.lookupswitch.offset
    split
    · exact h2 (a, o) List.mem_cons_self
    · exact aLook h (fun q hq => h2 q (List.mem_cons_of_mem _ hq))
theorem aTlen {p : Program} {l : Launch} {e : Env} {R : Room} {s : State} {m : MethodId} {args : Array Value} {below : List Frame} {meth : Method} {c : Code} {Q : State → Prop} {cc : ByteArray} {A : Nat → Prop} {H : Heap} {locs : List Loc} {cells slots pc t N : Nat} {ls : Array Slot} {rest : List Value} {f : Nat → Value} {ty : FieldType}
    (hx : p.tables.exec = Jvm.exec) (hb : c.code = cc) (hT : va_T ty t N f A s s.heap) (hS : va_S A s.heap H locs) (hdg : decode cc pc = .ok (.arraylength, 1))
    (kk : W p l e R s m args below meth c H locs cells slots Q (F0 m (pc + 1) ls (.int (Int32.ofNat N) :: rest))) : W p l e R s m args below meth c H locs cells slots Q (F0 m pc ls (.ref t :: rest)) := by
  obtain ⟨cell, h1, h2, h3, h4, h5, h6, h7⟩ := hT
  exact W.alen hx hb (by rw [hS.2.1 t (Array.getElem?_eq_some_iff.mp h1).1 h7]; exact h1) h2 h5 rfl rfl hdg kk
theorem aNfw : nativeFrameWords "java/lang/System" "arraycopy" 5 + 11 ≤ 40 := by decide +kernel
