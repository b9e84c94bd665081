theorem pf_law_ok (L : Nat) (hL : L ≤ 1536) (xs : Nat → Int32) : pf_law L xs = some 1 := sorry
