theorem law_pure (L : Nat) (xs : Nat → Int32) (hL : L ≤ 3072) : mLaw L xs := sorry
