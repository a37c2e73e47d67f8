/-! the law over the abstract machine: all of it -/
theorem aPure_ok : aPure := aPure_of (fun L xs fv w g h hi => pr_lines (d := 30) hi)
