/-! the digits, the tens -/
theorem dig_10_0 : ((((dig "DigitTens" (fun j => 48 + j / 10)).drop 0).take 27).all fun w => decide (w ∈ fl)) = true := by decide +kernel
theorem dig_10_1 : ((((dig "DigitTens" (fun j => 48 + j / 10)).drop 27).take 25).all fun w => decide (w ∈ fl)) = true := by decide +kernel
theorem dig_10_2 : ((((dig "DigitTens" (fun j => 48 + j / 10)).drop 52).take 25).all fun w => decide (w ∈ fl)) = true := by decide +kernel
theorem dig_10_3 : ((((dig "DigitTens" (fun j => 48 + j / 10)).drop 77).take 25).all fun w => decide (w ∈ fl)) = true := by decide +kernel
theorem all_split {L : List Cond} {p : Cond → Bool} (a b : Nat) (h1 : ((L.drop a).take b).all p = true) (h2 : (L.drop (a + b)).all p = true) : (L.drop a).all p = true := by
  rw [← List.take_append_drop b (L.drop a), List.all_append, h1, List.drop_drop, h2]
  rfl
theorem dig_10 : ((dig "DigitTens" (fun j => 48 + j / 10)).all fun w => decide (w ∈ fl)) = true :=
  all_split (L := dig "DigitTens" (fun j => 48 + j / 10)) 0 27 dig_10_0 (all_split 27 25 dig_10_1 (all_split 52 25 dig_10_2 (all_split 77 25 dig_10_3 (by decide +kernel))))
