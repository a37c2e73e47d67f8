/-! aPure, but for lines -/
theorem aPure_of (hlines : ∀ (L : Nat) (xs : Nat → Int32) (fv : Value) (w g : Int32) (h : aH), aIn h → aPair L xs fv 40 51 152 [.int w, .int g] h) : aPure := fun L xs fv hfv hL => by
  obtain ⟨rv, hh, ⟨F, hr⟩, rfl, h141⟩ := law_ok (L := L) (xs := xs) wr_start hfv (fun w g h hi => hlines L xs fv w g h hi) hL
  exact ⟨F, hh, hr, h141⟩
