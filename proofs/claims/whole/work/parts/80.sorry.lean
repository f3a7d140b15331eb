theorem law_ok (ys : Nat → Int32) (L : Nat) (hL : L ≤ 2048) : f_law ys L S0 = some () := sorry
