/-! LAYER 2: pattern, match, ifEvent; the start -/
theorem xz_03 : ¬ (3 : Int32) ≤ 0 := by decide
