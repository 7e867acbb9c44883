/-! the strings -/
def strL (C : String) (k : Nat) (cs : List Int32) : List Cond := [.exactly (.string C k) "java/lang/String", .eq (.field (.string C k) "java/lang/String" "coder" "B") (.int 0), .arrayOf (.field (.string C k) "java/lang/String" "value" "[B") .byte, .eq (.length (.field (.string C k) "java/lang/String" "value" "[B")) (.int (Int32.ofNat cs.length))] ++ (List.range cs.length).map fun j => .eq (.elem (.field (.string C k) "java/lang/String" "value" "[B") (.int (Int32.ofNat j))) (.int (cs.getD j 0))
theorem at_str1 {s : State} {args : Array Value} (hgv : ∀ w ∈ fl, w.before args s = true) {C : String} {k : Nat} {cs : List Int32} (hl : cs.length < 1000) (h : (strL C k cs).all (fun w => decide (w ∈ fl)) = true) : ∃ a : Nat, (Term.string C k).eval args s none [] s = some (.ref a) ∧ ∃ v : Nat, ∀ U : State, s.WarmedH U.vm → va_O "java/lang/String" a (fun q => s.heap.size ≤ q) U s.heap ∧ va_OF "java/lang/String" "coder" "B" (.int 0) a (fun q => s.heap.size ≤ q) U s.heap ∧ va_OF "java/lang/String" "value" "[B" (.ref v) a (fun q => s.heap.size ≤ q) U s.heap ∧ va_T .byte v cs.length (fun j => .int (cs.getD j 0)) (fun q => s.heap.size ≤ q) U s.heap := by
  have hm : ∀ w ∈ strL C k cs, w.before args s = true := fun w hw => hgv w (of_decide_eq_true (List.all_eq_true.mp h w hw))
  unfold strL at hm
  refine at_str hl (hm _ (by simp)) (hm _ (by simp)) (hm _ (by simp)) (hm _ (by simp)) (fun j hj => hm _ (List.mem_append_right _ (List.mem_map.mpr ⟨j, List.mem_range.mpr hj, rfl⟩)))
theorem st_0 : (strL "SlipArchiveModel" 390 (sx 0)).all (fun w => decide (w ∈ fl)) = true := by decide +kernel
theorem st_1 : (strL "SlipArchiveModel" 376 (sx 1)).all (fun w => decide (w ∈ fl)) = true := by decide +kernel
theorem st_2 : (strL "SlipArchiveModel" 67 (sx 2)).all (fun w => decide (w ∈ fl)) = true := by decide +kernel
theorem st_3 : (strL "SlipArchiveModel" 55 (sx 3)).all (fun w => decide (w ∈ fl)) = true := by decide +kernel
theorem st_4 : (strL "SlipArchiveModel" 57 (sx 4)).all (fun w => decide (w ∈ fl)) = true := by decide +kernel
theorem st_5 : (strL "SlipArchiveModel" 59 (sx 5)).all (fun w => decide (w ∈ fl)) = true := by decide +kernel
theorem st_6 : (strL "SlipArchiveModel" 61 (sx 6)).all (fun w => decide (w ∈ fl)) = true := by decide +kernel
theorem st_7 : (strL "SlipArchiveModel" 63 (sx 7)).all (fun w => decide (w ∈ fl)) = true := by decide +kernel
theorem st_8 : (strL "SlipArchiveModel" 65 (sx 8)).all (fun w => decide (w ∈ fl)) = true := by decide +kernel
