/-! what is left: the law's loop, on numbers alone -/
theorem whole_pure (N : Nat) (hN : N ≤ 2560) (xs : Nat → Int32) : p_L_law_28 N xs 514 0 v0 ∧ (f_L_law_28 N xs 514 0 v0).1 = 1 := by
  sorry
