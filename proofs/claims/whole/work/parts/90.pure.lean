theorem pure_ok (L : Nat) (xs : Nat → Int32) (hL : L ≤ 2560) : pureAll L xs := sorry
