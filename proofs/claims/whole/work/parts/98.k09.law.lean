/-! the law, from its start: all but lines -/
section LA
variable {L : Nat} {xs : Nat → Int32} {fv : Value}
theorem law_ok (hwr : wrR stR2 (wrR stR1 (fun _ _ => none)) = aRf 0 none) (hfv : fv = .null ∨ fv = .ref 3000) (hlines : ∀ (w g : Int32) (h : aH), aIn h → aPair L xs fv 40 51 152 [.int w, .int g] h) (hL : L ≤ 3072) : aTo L xs fv 0 40 cd187 (0, [(0, .ref 1003)], [], aH0) (fun rv hh => rv = some (.int 1) ∧ hh.1 ≤ 141) := by
  have hz0 : zrH 0 (fun _ _ => 0) (fun _ _ => 0) (fun _ _ => none) := fun i _ => ⟨rfl, rfl, rfl⟩
  show aTo L xs fv 0 40 cd187 (0, [(0, .ref 1003)], [], (0, fun _ _ => 0, fun _ _ => 0, fun _ _ => none)) _
  refine gz_new (cd := cd187) hz0 rfl rfl (by decide) ⟨Or.inr (by decide), trivial⟩ trivial (fun hz1 => ?_)
  refine go_v (cd := cd187) [] 9 rfl ?_
  refine go_callm (cd := cd187) rfl rfl rfl rfl rfl ⟨Or.inr (by decide), trivial⟩ ⟨Or.inl (by decide), trivial⟩ (in_class (d := 36) hz1 (fun g0 g1 g2 g3 g4 g5 hg0 _ _ _ _ _ hz77 => ⟨rfl, ?_⟩))
  refine go_v (cd := cd187) [8] 9 rfl ?_
  refine gz_new (cd := cd187) hz77 rfl rfl (by decide) ⟨Or.inl (by decide), Or.inr (by decide), trivial⟩ trivial (fun hz78 => ?_)
  refine go_v (cd := cd187) [] 9 rfl ?_
  refine go_callm (cd := cd187) rfl rfl rfl rfl rfl ⟨Or.inl (by decide), Or.inr (by decide), trivial⟩ ⟨Or.inl (by decide), trivial⟩ (in_ref (d := 39) hz78 (fun _ => ⟨rfl, ?_⟩))
  refine go_v (cd := cd187) [18] 9 rfl ?_
  rw [hwr]
  exact go_sb (lw_loop hfv hlines hL L 0 _ (by omega) (by omega) ⟨0, none, _, _, _, rfl, in_inv hg0⟩) ⟨rfl, rfl, rfl, rfl, trivial⟩ rfl rfl rfl
end LA
