/-! the constants at the entry -/
def adT (i : Nat) : Term := match i with
  | 0 => .string "SlipArchiveModel" 390
  | 1 => .string "SlipArchiveModel" 376
  | 2 => .string "SlipArchiveModel" 67
  | 3 => .string "SlipArchiveModel" 55
  | 4 => .string "SlipArchiveModel" 57
  | 5 => .string "SlipArchiveModel" 59
  | 6 => .string "SlipArchiveModel" 61
  | 7 => .string "SlipArchiveModel" 63
  | 8 => .string "SlipArchiveModel" 65
  | 9 => .string "SlipArchive" 91
  | 10 => .string "SlipArchive" 161
  | 11 => .string "SlipArchive" 163
  | 12 => .string "SlipArchive" 177
  | 13 => .string "SlipArchive" 193
  | 14 => .string "SlipArchive" 201
  | 15 => .string "SlipArchive" 209
  | 16 => .string "SlipArchive" 211
  | 17 => .string "SlipArchive" 255
  | 18 => .string "SlipArchive" 270
  | 19 => .string "SlipArchive" 275
  | 20 => .string "SlipArchive" 277
  | 21 => .string "SlipArchive" 297
  | 22 => .string "SlipArchive" 305
  | _ => .string "SlipArchive" 310
theorem ad_ex : ((List.range 24).all fun i => decide (Cond.exactly (adT i) "java/lang/String" ∈ fl)) = true := by decide +kernel
def oN (i : Nat) : String := match i with
  | 0 => "SLIP"
  | 1 => "DROP"
  | 2 => "RETURN"
  | 3 => "DAY"
  | 4 => "MISFILE"
  | 5 => "CHECK"
  | _ => "UNTIL"
def oI (i : Nat) : Nat := match i with
  | 0 => 61
  | 1 => 67
  | 2 => 70
  | 3 => 73
  | 4 => 76
  | 5 => 79
  | _ => 82
def oT (i : Nat) : Term := .static RO (oN i) "LSlipArchive$Order;"
def oA : Term := .static RO "ALL" "[LSlipArchive$Order;"
def oW : Term := .static "SlipArchive$1" "$SwitchMap$SlipArchive$Order" "[I"
def oC (i : Nat) : List Cond := [.exactly (oT i) RO, .eq (.field (oT i) "java/lang/Enum" "ordinal" "I") (.int (nI i)), .eq (.field (oT i) RO "word" "Ljava/lang/String;") (.string RO (oI i)), .eq (.field (oT i) RO "least" "I") (.int (oL i)), .eq (.field (oT i) RO "most" "I") (.int (oM i)), .eq (.field (oT i) RO "mostSecond" "I") (.int (oS i)), .eq (adT (wi i)) (.string RO (oI i)), .eq (.elem oA (.int (Int32.ofNat i))) (oT i), .eq (.elem oW (.int (Int32.ofNat i))) (.int (nI (i + 1)))]
theorem oc_ok : ((List.range 7).all fun i => (oC i).all fun w => decide (w ∈ fl)) = true := by decide +kernel
def oD : List Cond := [.arrayOf oA (.object RO), .eq (.length oA) (.int (Int32.ofNat 7)), .arrayOf oW .int, .eq (.length oW) (.int (Int32.ofNat 7))]
theorem od_ok : (oD.all fun w => decide (w ∈ fl)) = true := by decide +kernel
def oZ : List Cond := [.laysStatic RO "ALL" "[LSlipArchive$Order;", .initialized RO, .laysStatic "SlipArchive$1" "$SwitchMap$SlipArchive$Order" "[I", .initialized "SlipArchive$1"]
theorem oz_ok : (oZ.all fun w => decide (w ∈ lw_tbl)) = true := by decide +kernel
def isAd (q : String × Nat × String × Nat) : Bool := decide (Cond.isInt (.string q.1 q.2.1) = Cond.isInt (adT q.2.2.2)) || decide (Cond.eq (.string q.1 q.2.1) (adT q.2.2.2) ∈ fl)
theorem ld_ok : (ldcl.all fun q => decide (Cond.stringRef q.1 q.2.1 q.2.2.1 ∈ lw_tbl) && (decide (q.2.2.2 < 24) && isAd q)) = true := by decide +kernel
section EN
variable {s : State} {args : Array Value}
theorem at_ad (hgv : ∀ w ∈ fl, w.before args s = true) : ∃ ad : Nat → Nat, ∀ i, i < 24 → (adT i).eval args s none [] s = some (.ref (ad i)) := by
  have h : ∀ i : Nat, ∃ a : Nat, i < 24 → (adT i).eval args s none [] s = some (.ref a) := fun i => by
    by_cases hi : i < 24
    · obtain ⟨a, c, cA, kA, q1, -⟩ := Cond.exactly_spec (args := args) (first := s) (o := none) (s := s) (idx := []) (t := adT i) (cls := "java/lang/String") (hgv _ (of_decide_eq_true (List.all_eq_true.mp ad_ex i (List.mem_range.mpr hi))))
      exact ⟨a, fun _ => q1⟩
    · exact ⟨0, fun h => absurd h hi⟩
  obtain ⟨ad, had⟩ := Classical.axiomOfChoice h
  exact ⟨ad, had⟩
theorem at_ae (hgv : ∀ w ∈ fl, w.before args s = true) : ∃ ae : Nat → Nat, (∀ i, i < 7 → (oT i).eval args s none [] s = some (.ref (ae i))) ∧ oA.eval args s none [] s = some (.ref (ae 7)) ∧ oW.eval args s none [] s = some (.ref (ae 8)) := by
  have hc : ∀ i, i < 7 → ∀ w ∈ oC i, w.before args s = true := fun i hi w hw => hgv _ (of_decide_eq_true (List.all_eq_true.mp (List.all_eq_true.mp oc_ok i (List.mem_range.mpr hi)) w hw))
  have hd : ∀ w ∈ oD, w.before args s = true := fun w hw => hgv _ (of_decide_eq_true (List.all_eq_true.mp od_ok w hw))
  have hA : ∀ a : Nat, a < s.heap.size → ¬ (fun q => s.heap.size ≤ q) a := fun a ha => Nat.not_le.mpr ha
  have h : ∀ i : Nat, ∃ a : Nat, i < 7 → (oT i).eval args s none [] s = some (.ref a) := fun i => by
    by_cases hi : i < 7
    · obtain ⟨a, c, cA, kA, q1, -⟩ := Cond.exactly_spec (args := args) (first := s) (o := none) (s := s) (idx := []) (t := oT i) (cls := RO) (hc i hi _ (List.mem_of_getElem? (i := 0) rfl))
      exact ⟨a, fun _ => q1⟩
    · exact ⟨0, fun h => absurd h hi⟩
  obtain ⟨e, he⟩ := Classical.axiomOfChoice h
  obtain ⟨t7, h7, -⟩ := va_Tof (tm := oA) (ty := .object RO) (N := 7) (f := fun j => .ref (e j)) (A := fun q => s.heap.size ≤ q) (by omega) (hd _ (List.mem_of_getElem? (i := 0) rfl)) (va_eqv (hd _ (List.mem_of_getElem? (i := 1) rfl)) rfl) (fun j hj => va_eqv (hc j hj _ (List.mem_of_getElem? (i := 7) rfl)) (he j hj)) hA
  obtain ⟨t8, h8, -⟩ := va_Tof (tm := oW) (ty := .int) (N := 7) (f := fun j => .int (nI (j + 1))) (A := fun q => s.heap.size ≤ q) (by omega) (hd _ (List.mem_of_getElem? (i := 2) rfl)) (va_eqv (hd _ (List.mem_of_getElem? (i := 3) rfl)) rfl) (fun j hj => va_eqv (hc j hj _ (List.mem_of_getElem? (i := 8) rfl)) rfl) hA
  refine ⟨fun i => if i = 7 then t7 else if i = 8 then t8 else e i, fun i hi => ?_, ?_, ?_⟩
  · show _ = some (Value.ref (if i = 7 then t7 else if i = 8 then t8 else e i))
    rw [if_neg (show ¬ i = 7 by omega), if_neg (show ¬ i = 8 by omega)]
    exact he i hi
  · exact h7
  · exact h8
theorem ref_one {o : Option Value} {a b : Nat} (h1 : o = some (.ref a)) (h2 : o = some (.ref b)) : a = b := by
  have h := h1.symm.trans h2
  exact Value.ref.inj (Option.some.inj h)
theorem at_str2 (hgv : ∀ w ∈ fl, w.before args s = true) {ad : Nat → Nat} (had : ∀ i, i < 24 → (adT i).eval args s none [] s = some (.ref (ad i))) : ∀ i, i < 9 → ∃ v : Nat, ∀ U : State, s.WarmedH U.vm → va_O "java/lang/String" (ad i) (fun q => s.heap.size ≤ q) U s.heap ∧ va_OF "java/lang/String" "coder" "B" (.int 0) (ad i) (fun q => s.heap.size ≤ q) U s.heap ∧ va_OF "java/lang/String" "value" "[B" (.ref v) (ad i) (fun q => s.heap.size ≤ q) U s.heap ∧ va_T .byte v (sx i).length (fun j => .int ((sx i).getD j 0)) (fun q => s.heap.size ≤ q) U s.heap := by
  have one : ∀ {i k : Nat}, i < 24 → adT i = .string "SlipArchiveModel" k → (sx i).length < 1000 → (strL "SlipArchiveModel" k (sx i)).all (fun w => decide (w ∈ fl)) = true → ∃ v : Nat, ∀ U : State, s.WarmedH U.vm → va_O "java/lang/String" (ad i) (fun q => s.heap.size ≤ q) U s.heap ∧ va_OF "java/lang/String" "coder" "B" (.int 0) (ad i) (fun q => s.heap.size ≤ q) U s.heap ∧ va_OF "java/lang/String" "value" "[B" (.ref v) (ad i) (fun q => s.heap.size ≤ q) U s.heap ∧ va_T .byte v (sx i).length (fun j => .int ((sx i).getD j 0)) (fun q => s.heap.size ≤ q) U s.heap := fun {i k} hi he hl h => by
    obtain ⟨a, ha, v, hv⟩ := at_str1 hgv hl h
    have hh := had i hi
    rw [he] at hh
    rw [← ref_one ha hh]
    exact ⟨v, hv⟩
  intro i hi
  match i, hi with
  | 0, _ => exact one (by omega) rfl (sx_ok 0 (by omega)).2 st_0
  | 1, _ => exact one (by omega) rfl (sx_ok 1 (by omega)).2 st_1
  | 2, _ => exact one (by omega) rfl (sx_ok 2 (by omega)).2 st_2
  | 3, _ => exact one (by omega) rfl (sx_ok 3 (by omega)).2 st_3
  | 4, _ => exact one (by omega) rfl (sx_ok 4 (by omega)).2 st_4
  | 5, _ => exact one (by omega) rfl (sx_ok 5 (by omega)).2 st_5
  | 6, _ => exact one (by omega) rfl (sx_ok 6 (by omega)).2 st_6
  | 7, _ => exact one (by omega) rfl (sx_ok 7 (by omega)).2 st_7
  | 8, _ => exact one (by omega) rfl (sx_ok 8 (by omega)).2 st_8
  | n + 9, h => exact absurd h (by omega)
theorem at_ld (hts : ∀ w ∈ lw_tbl, w.before args s = true) (hgv : ∀ w ∈ fl, w.before args s = true) {ad : Nat → Nat} (had : ∀ i, i < 24 → (adT i).eval args s none [] s = some (.ref (ad i))) {U : State} (hW : s.WarmedH U.vm) : ∀ q ∈ ldcl, vk_R q.1 q.2.1 q.2.2.1 (ad q.2.2.2) U := fun q hq => by
  have h := List.all_eq_true.mp ld_ok q hq
  rw [Bool.and_eq_true, Bool.and_eq_true, decide_eq_true_eq, decide_eq_true_eq] at h
  obtain ⟨h1, h2, h3⟩ := h
  have he : (Term.string q.1 q.2.1).eval args s none [] s = some (.ref (ad q.2.2.2)) := by
    unfold isAd at h3
    rw [Bool.or_eq_true, decide_eq_true_eq, decide_eq_true_eq] at h3
    rcases h3 with h3 | h3
    · rw [Cond.isInt.inj h3]
      exact had _ h2
    · exact va_eqv (hgv _ h3) (had _ h2)
  exact vk_R.warm hW (vk_R.of (hts _ h1) he)
theorem at_En (hts : ∀ w ∈ lw_tbl, w.before args s = true) (hgv : ∀ w ∈ fl, w.before args s = true) {ad ae : Nat → Nat} (had : ∀ i, i < 24 → (adT i).eval args s none [] s = some (.ref (ad i))) (hae : ∀ i, i < 7 → (oT i).eval args s none [] s = some (.ref (ae i))) (h7 : oA.eval args s none [] s = some (.ref (ae 7))) (h8 : oW.eval args s none [] s = some (.ref (ae 8))) (D : va_G) (ty : Nat → ClassId) : EnK (s.heap, D, ty, fun U => s.WarmedH U.vm) ad ae := by
  have hc : ∀ i, i < 7 → ∀ w ∈ oC i, w.before args s = true := fun i hi w hw => hgv _ (of_decide_eq_true (List.all_eq_true.mp (List.all_eq_true.mp oc_ok i (List.mem_range.mpr hi)) w hw))
  have hd : ∀ w ∈ oD, w.before args s = true := fun w hw => hgv _ (of_decide_eq_true (List.all_eq_true.mp od_ok w hw))
  have hz : ∀ w ∈ oZ, w.before args s = true := fun w hw => hts _ (of_decide_eq_true (List.all_eq_true.mp oz_ok w hw))
  have hA : ∀ a : Nat, a < s.heap.size → ¬ (fun q => s.heap.size ≤ q) a := fun a ha => Nat.not_le.mpr ha
  obtain ⟨t7, g7, T7⟩ := va_Tof (tm := oA) (ty := .object RO) (N := 7) (f := fun j => .ref (ae j)) (A := fun q => s.heap.size ≤ q) (by omega) (hd _ (List.mem_of_getElem? (i := 0) rfl)) (va_eqv (hd _ (List.mem_of_getElem? (i := 1) rfl)) rfl) (fun j hj => va_eqv (hc j hj _ (List.mem_of_getElem? (i := 7) rfl)) (hae j hj)) hA
  obtain ⟨t8, g8, T8⟩ := va_Tof (tm := oW) (ty := .int) (N := 7) (f := fun j => .int (nI (j + 1))) (A := fun q => s.heap.size ≤ q) (by omega) (hd _ (List.mem_of_getElem? (i := 2) rfl)) (va_eqv (hd _ (List.mem_of_getElem? (i := 3) rfl)) rfl) (fun j hj => va_eqv (hc j hj _ (List.mem_of_getElem? (i := 8) rfl)) rfl) hA
  rw [ref_one g7 h7] at T7
  rw [ref_one g8 h8] at T8
  have hwd : ∀ i, i < 7 → (Term.string RO (oI i)).eval args s none [] s = some (.ref (ad (wi i))) := fun i hi => by
    obtain ⟨y, e1, e2⟩ := Cond.eq_one (first := s) (args := args) (o := none) (s := s) (idx := []) (a := adT (wi i)) (b := .string RO (oI i)) (hc i hi _ (List.mem_of_getElem? (i := 6) rfl))
    have e3 := had (wi i) (by have := wi_lt i; omega)
    rw [e2, ← e1, e3]
  intro U hW
  have hW : s.WarmedH U.vm := hW
  refine ⟨fun i hi => ⟨(va_Oof (hc i hi _ (List.mem_of_getElem? (i := 0) rfl)) (hae i hi) hA).moved hW.alike, (at_OF (hae i hi) (va_eqv (hc i hi _ (List.mem_of_getElem? (i := 1) rfl)) rfl)).moved hW.alike, (at_OF (hae i hi) (va_eqv (hc i hi _ (List.mem_of_getElem? (i := 2) rfl)) (hwd i hi))).moved hW.alike, (at_OF (hae i hi) (va_eqv (hc i hi _ (List.mem_of_getElem? (i := 3) rfl)) rfl)).moved hW.alike, (at_OF (hae i hi) (va_eqv (hc i hi _ (List.mem_of_getElem? (i := 4) rfl)) rfl)).moved hW.alike, (at_OF (hae i hi) (va_eqv (hc i hi _ (List.mem_of_getElem? (i := 5) rfl)) rfl)).moved hW.alike⟩, ?_, T7.moved hW.alike, ?_, T8.moved hW.alike⟩
  · exact (va_Zof (hz _ (List.mem_of_getElem? (i := 0) rfl)) (hz _ (List.mem_of_getElem? (i := 1) rfl)) h7 hA).moved hW.alike
  · exact (va_Zof (hz _ (List.mem_of_getElem? (i := 2) rfl)) (hz _ (List.mem_of_getElem? (i := 3) rfl)) h8 hA).moved hW.alike
theorem at_KAll (hts : ∀ w ∈ lw_tbl, w.before args s = true) (hgv : ∀ w ∈ fl, w.before args s = true) : ∃ ad ae : Nat → Nat, ∀ (D : va_G) (ty : Nat → ClassId), KAll (s.heap, D, ty, fun U => s.WarmedH U.vm) ad ae := by
  obtain ⟨ad, had⟩ := at_ad hgv
  obtain ⟨ae, hae, h7, h8⟩ := at_ae hgv
  refine ⟨ad, ae, fun D ty => ⟨⟨⟨fun U hU => (at_J hts hgv hU).1, fun U hU => (at_J hts hgv hU).2⟩, fun i hi => at_str2 hgv had i hi, fun q hq U hU => at_ld hts hgv had hU q hq⟩, at_En hts hgv had hae h7 h8 D ty, fun U hU => ⟨at_all hts kx_1 hU, at_all hts kx_2 hU, (at_X hts hgv hU).1, (at_X hts hgv hU).2⟩, fun U hU => at_nl hts hU⟩⟩
end EN
