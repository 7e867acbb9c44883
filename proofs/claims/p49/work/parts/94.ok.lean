theorem law_ok (L : Nat) (xs : Nat → Int32) (hL : L ≤ 260) : LawOK L xs := by
  sorry
