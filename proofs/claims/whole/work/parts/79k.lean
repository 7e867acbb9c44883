/-! the words of an exception's making -/
def isCs (w : Cond) : Bool := match w with
  | .castable _ _ => true
  | .declares _ => true
  | _ => false
theorem at_all {s : State} {args : Array Value} (hts : ∀ w ∈ lw_tbl, w.before args s = true) {L : List Cond} (hL : L.all (fun w => decide (w ∈ lw_tbl) && (goodWord w || isCs w)) = true) {U : State} (hW : s.WarmedH U.vm) : ∀ w ∈ L, w.before #[] U = true := fun w hw => by
  have h := List.all_eq_true.mp hL w hw
  rw [Bool.and_eq_true, decide_eq_true_eq, Bool.or_eq_true] at h
  obtain ⟨h1, h2 | h2⟩ := h
  · exact word_at hW (good_of_word h2) (hts w h1)
  · cases w with
    | castable C T => exact va_Nw.warmC hW (va_Nw.of rfl (hts _ h1))
    | declares x => exact va_Nw.warmD hW (va_Nw.of rfl (hts _ h1))
    | _ => cases h2
theorem kx_1 : (vx_atS RX10 93 iae nms).all (fun w => decide (w ∈ lw_tbl) && (goodWord w || isCs w)) = true := by decide +kernel
theorem kx_2 : (nx_atS RX10 179 nse rte nxs).all (fun w => decide (w ∈ lw_tbl) && (goodWord w || isCs w)) = true := by decide +kernel
