theorem law_pure (xs : Nat → Int32) (L : Nat) (hL : L ≤ 2048) : LL_law_23 xs L FU o0 0 = some 1 := sorry
