theorem law_pure (xs : Nat → Int32) (L : Nat) (hL : L ≤ 260) : LL_law_23 xs L FU (o0, o0) 0 = some 1 := sorry
