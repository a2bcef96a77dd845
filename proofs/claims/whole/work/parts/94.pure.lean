theorem law_pure {L : Nat} {xs : Nat → Int32} (hL : L ≤ 3584) : fL_law xs L = some 1 := by
  sorry
