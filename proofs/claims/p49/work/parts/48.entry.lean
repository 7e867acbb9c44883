/-! the digits of the JDK, as the entry gives them -/
/-- the conditions of the start, one by one -/
def fl : List Cond := flatC (Cond.and given_1 narrow_1)
theorem fl1 {w : Cond} (h : decide (w ∈ fl) = true) : w ∈ fl := of_decide_eq_true h
def dig (nm : String) (f : Nat → Nat) : List Cond := [.arrayOf (.static "java/lang/Integer" nm "[B") .byte, .eq (.length (.static "java/lang/Integer" nm "[B")) (.int (Int32.ofNat 100))] ++ (List.range 100).map fun j => .eq (.elem (.static "java/lang/Integer" nm "[B") (.int (Int32.ofNat j))) (.int (nI (f j)))
theorem dig_1 : ((dig "DigitOnes" (fun j => 48 + j % 10)).all fun w => decide (w ∈ fl)) = true := by decide +kernel
