/-! the law: what its entry gives -/
theorem tb1 {w : Cond} (h : decide (w ∈ lw_tbl) = true) : w ∈ lw_tbl := of_decide_eq_true h
theorem cls_inst0 : ∀ w ∈ vwCl.map (fun q => Cond.instantiable q.1 q.2.2), w ∈ aw := aw_of (by decide +kernel)
theorem cls_inst : ∀ q ∈ vwCl, Cond.instantiable q.1 q.2.2 ∈ aw := fun q hq => cls_inst0 _ (List.mem_map.mpr ⟨q, hq, rfl⟩)
section EN
variable {s : State} {args : Array Value}
theorem at_prim {ty : FieldType} (hp : ty = .int ∨ ty = .byte) (h : (Cond.arrayClass ty).before args s = true) : ∃ cA, ArrOfT s cA ty ∧ va_RA s cA ty := by
  obtain ⟨cA, kA, comp, h1, h2, h3⟩ := Cond.arrayClass_spec h
  refine ⟨cA, fun n z => ⟨fun k h => (by cases h), kA, h2, comp, h3⟩, ?_⟩
  rcases hp with rfl | rfl
  · exact h1
  · exact h1
theorem at_obj {C : String} (h : (Cond.arrayOver (.object C)).before args s = true) : ∃ cA, ArrOfT s cA (.object C) ∧ va_RA s cA (.object C) := by
  obtain ⟨comp, cA, kA, h1, -, h2, h3, h4⟩ := Cond.arrayOver_spec h
  exact ⟨cA, fun n z => ⟨fun k h => (by cases h), kA, h2, comp, h3⟩, kA, comp, h2, h3, h1, h4⟩
theorem at_K (hts : ∀ w ∈ lw_tbl, w.before args s = true) : ∃ (D : va_G) (ty : Nat → ClassId), va_K D vwCl [(ty 0, .int), (ty 1, .object "SlipArchive$Stacks"), (ty 2, .object "SlipArchive$Order"), (ty 3, .byte)] s := by
  have haw : ∀ w ∈ aw, w.before args s = true := fun w hw => hts w (List.mem_filter.mp hw).1
  have hk : ∀ (c : Nat) (q : vw_C), vwCl[c]? = some q → ∃ (cC : ClassId) (iS : Nat → Nat), u_Kn s q.1 q.2.1 q.2.2 cC iS := fun c q hq => by
    have hq' := List.mem_of_getElem? hq
    exact u_known haw (cls_in q hq') (haw _ (cls_inst q hq'))
  obtain ⟨c0, i0, -⟩ := hk 0 _ rfl
  have hk2 : ∀ c : Nat, ∃ z : ClassId × (Nat → Nat), ∀ q, vwCl[c]? = some q → u_Kn s q.1 q.2.1 q.2.2 z.1 z.2 := fun c => by
    cases hq : vwCl[c]? with
    | none => exact ⟨(c0, i0), fun q h => by cases h⟩
    | some q =>
      obtain ⟨cC, iS, h⟩ := hk c q hq
      exact ⟨(cC, iS), fun q' h' => by cases h'; exact h⟩
  obtain ⟨t0, g0, k0⟩ := at_prim (Or.inl rfl) (hts (.arrayClass .int) (tb1 (by decide +kernel)))
  obtain ⟨t3, g3, k3⟩ := at_prim (Or.inr rfl) (hts (.arrayClass .byte) (tb1 (by decide +kernel)))
  obtain ⟨t1, g1, k1⟩ := at_obj (hts (.arrayOver (.object "SlipArchive$Stacks")) (tb1 (by decide +kernel)))
  obtain ⟨t2, g2, k2⟩ := at_obj (hts (.arrayOver (.object "SlipArchive$Order")) (tb1 (by decide +kernel)))
  refine ⟨(fun c => (Classical.choose (hk2 c)).1, fun c => (Classical.choose (hk2 c)).2), fun i => if i = 0 then t0 else if i = 1 then t1 else if i = 2 then t2 else t3, fun c q hq => Classical.choose_spec (hk2 c) q hq, fun k q hq => ?_⟩
  match k, hq with
  | 0, hq => cases hq; exact ⟨g0, k0⟩
  | 1, hq => cases hq; exact ⟨g1, k1⟩
  | 2, hq => cases hq; exact ⟨g2, k2⟩
  | 3, hq => cases hq; exact ⟨g3, k3⟩
  | k + 4, hq => simp at hq
theorem at_C (hts : ∀ w ∈ lw_tbl, w.before args s = true) {U : State} (hW : s.WarmedH U.vm) : (va_AO "SlipArchive$Stacks" U ∧ va_AO "SlipArchive$Order" U ∧ True) ∧ ∀ w ∈ nestm, va_Nw w U :=
  ⟨⟨(va_AO.of (hts (.arrayOver (.object "SlipArchive$Stacks")) (tb1 (by decide +kernel)))).moved hW.alike, (va_AO.of (hts (.arrayOver (.object "SlipArchive$Order")) (tb1 (by decide +kernel)))).moved hW.alike, trivial⟩,
    List.forall_mem_cons.mpr ⟨va_Nw.warmM hW (va_Nw.of rfl (hts _ (tb1 (by decide +kernel)))), List.forall_mem_cons.mpr ⟨va_Nw.warmM hW (va_Nw.of rfl (hts _ (tb1 (by decide +kernel)))), List.forall_mem_cons.mpr ⟨va_Nw.warmM hW (va_Nw.of rfl (hts _ (tb1 (by decide +kernel)))), List.forall_mem_cons.mpr ⟨va_Nw.warmM hW (va_Nw.of rfl (hts _ (tb1 (by decide +kernel)))), fun _ h => absurd h List.not_mem_nil⟩⟩⟩⟩⟩
end EN
section EN
variable {s : State} {args : Array Value}
theorem at_J (hts : ∀ w ∈ lw_tbl, w.before args s = true) (hgv : ∀ w ∈ fl, w.before args s = true) {U : State} (hW : s.WarmedH U.vm) : va_Z "java/lang/String" "COMPACT_STRINGS" "Z" (.int 1) (fun q => s.heap.size ≤ q) U s.heap ∧ va_Zq "jdk/internal/util/Preconditions" "SIOOBE_FORMATTER" "Ljava/util/function/BiFunction;" (fun q => s.heap.size ≤ q) U s.heap :=
  ⟨(va_Zof (hts (.laysStatic "java/lang/String" "COMPACT_STRINGS" "Z") (tb1 (by decide +kernel))) (hts (.initialized "java/lang/String") (tb1 (by decide +kernel))) (va_eqi (hgv (.eq (.static "java/lang/String" "COMPACT_STRINGS" "Z") (.int 1)) (fl1 (by decide +kernel)))) (fun a ha => Nat.not_le.mpr ha)).moved hW.alike,
   (va_Zqof (hts (.laysStatic "jdk/internal/util/Preconditions" "SIOOBE_FORMATTER" "Ljava/util/function/BiFunction;") (tb1 (by decide +kernel))) (hts (.initialized "jdk/internal/util/Preconditions") (tb1 (by decide +kernel))) (hgv _ (fl1 (by decide +kernel))) (fun a ha => Nat.not_le.mpr ha)).moved hW.alike⟩
end EN
section EN
variable {s : State} {args : Array Value}
theorem at_OF {t : Term} {o n d : String} {a : Nat} {v : Value} (ht : t.eval args s none [] s = some (.ref a)) (hv : (Term.field t o n d).eval args s none [] s = some v) : va_OF o n d v a (fun q => s.heap.size ≤ q) s s.heap := by
  cases hfo : s.fieldFound? o n d with
  | none =>
    rw [va_fe ht] at hv
    simp [State.fieldOf?, State.fieldNamed?, hfo] at hv
  | some x =>
    obtain ⟨cf, k, fi, f⟩ := x
    obtain ⟨g1, cell, g2, g3, -, -, g6⟩ := Term.field_spec hfo ht hv
    exact ⟨cf, k, fi, f, cell, hfo, g1, g2, g3, g6, Nat.not_le.mpr (Array.getElem?_eq_some_iff.mp g2).1⟩
theorem at_str {C : String} {k : Nat} {cs : List Int32} (hl : cs.length < 1000) (h1 : (Cond.exactly (.string C k) "java/lang/String").before args s = true) (h2 : (Cond.eq (.field (.string C k) "java/lang/String" "coder" "B") (.int 0)).before args s = true) (h3 : (Cond.arrayOf (.field (.string C k) "java/lang/String" "value" "[B") .byte).before args s = true) (h4 : (Cond.eq (.length (.field (.string C k) "java/lang/String" "value" "[B")) (.int (Int32.ofNat cs.length))).before args s = true) (h5 : ∀ j, j < cs.length → (Cond.eq (.elem (.field (.string C k) "java/lang/String" "value" "[B") (.int (Int32.ofNat j))) (.int (cs.getD j 0))).before args s = true) :
    ∃ a : Nat, (Term.string C k).eval args s none [] s = some (.ref a) ∧ ∃ v : Nat, ∀ U : State, s.WarmedH U.vm → va_O "java/lang/String" a (fun q => s.heap.size ≤ q) U s.heap ∧ va_OF "java/lang/String" "coder" "B" (.int 0) a (fun q => s.heap.size ≤ q) U s.heap ∧ va_OF "java/lang/String" "value" "[B" (.ref v) a (fun q => s.heap.size ≤ q) U s.heap ∧ va_T .byte v cs.length (fun j => .int (cs.getD j 0)) (fun q => s.heap.size ≤ q) U s.heap := by
  have hA : ∀ a : Nat, a < s.heap.size → ¬ (fun q => s.heap.size ≤ q) a := fun a ha => Nat.not_le.mpr ha
  obtain ⟨a, c, cA, kA, q1, -⟩ := Cond.exactly_spec (args := args) (first := s) (o := none) (s := s) (idx := []) (t := .string C k) (cls := "java/lang/String") h1
  obtain ⟨v, hv, hT⟩ := va_Tof (N := cs.length) (f := fun j => .int (cs.getD j 0)) (A := fun q => s.heap.size ≤ q) (by omega) h3 (va_eqv h4 rfl) (fun j hj => va_eqv (h5 j hj) rfl) hA
  exact ⟨a, q1, v, fun U hW => ⟨(va_Oof h1 q1 hA).moved hW.alike, (at_OF q1 (va_eqv h2 rfl)).moved hW.alike, (at_OF q1 hv).moved hW.alike, hT.moved hW.alike⟩⟩
end EN
/-! the strings -/
def strL (C : String) (k : Nat) (cs : List Int32) : List Cond := [.exactly (.string C k) "java/lang/String", .eq (.field (.string C k) "java/lang/String" "coder" "B") (.int 0), .arrayOf (.field (.string C k) "java/lang/String" "value" "[B") .byte, .eq (.length (.field (.string C k) "java/lang/String" "value" "[B")) (.int (Int32.ofNat cs.length))] ++ (List.range cs.length).map fun j => .eq (.elem (.field (.string C k) "java/lang/String" "value" "[B") (.int (Int32.ofNat j))) (.int (cs.getD j 0))
theorem at_str1 {s : State} {args : Array Value} (hgv : ∀ w ∈ fl, w.before args s = true) {C : String} {k : Nat} {cs : List Int32} (hl : cs.length < 1000) (h : (strL C k cs).all (fun w => decide (w ∈ fl)) = true) : ∃ a : Nat, (Term.string C k).eval args s none [] s = some (.ref a) ∧ ∃ v : Nat, ∀ U : State, s.WarmedH U.vm → va_O "java/lang/String" a (fun q => s.heap.size ≤ q) U s.heap ∧ va_OF "java/lang/String" "coder" "B" (.int 0) a (fun q => s.heap.size ≤ q) U s.heap ∧ va_OF "java/lang/String" "value" "[B" (.ref v) a (fun q => s.heap.size ≤ q) U s.heap ∧ va_T .byte v cs.length (fun j => .int (cs.getD j 0)) (fun q => s.heap.size ≤ q) U s.heap := by
  have hm : ∀ w ∈ strL C k cs, w.before args s = true := fun w hw => hgv w (of_decide_eq_true (List.all_eq_true.mp h w hw))
  unfold strL at hm
  refine at_str hl (hm _ (by simp)) (hm _ (by simp)) (hm _ (by simp)) (hm _ (by simp)) (fun j hj => hm _ (List.mem_append_right _ (List.mem_map.mpr ⟨j, List.mem_range.mpr hj, rfl⟩)))
theorem st_0 : (strL "SlipArchive$Parser" 69 (sx 0)).all (fun w => decide (w ∈ fl)) = true := by decide +kernel
theorem st_1 : (strL "SlipArchive$Parser" 42 (sx 1)).all (fun w => decide (w ∈ fl)) = true := by decide +kernel
theorem st_2 : (strL "SlipArchive$Parser" 97 (sx 2)).all (fun w => decide (w ∈ fl)) = true := by decide +kernel
theorem st_3 : (strL "SlipArchiveLaw" 156 (sx 3)).all (fun w => decide (w ∈ fl)) = true := by decide +kernel
theorem st_4 : (strL "SlipArchiveLaw" 168 (sx 4)).all (fun w => decide (w ∈ fl)) = true := by decide +kernel
theorem st_5 : (strL "SlipArchiveLaw" 173 (sx 5)).all (fun w => decide (w ∈ fl)) = true := by decide +kernel
theorem st_6 : (strL "SlipArchiveLaw" 175 (sx 6)).all (fun w => decide (w ∈ fl)) = true := by decide +kernel
def adT (i : Nat) : Term := match i with
  | 0 => .string "SlipArchive$Parser" 69
  | 1 => .string "SlipArchive$Parser" 42
  | 2 => .string "SlipArchive$Parser" 97
  | 3 => .string "SlipArchiveLaw" 156
  | 4 => .string "SlipArchiveLaw" 168
  | 5 => .string "SlipArchiveLaw" 173
  | _ => .string "SlipArchiveLaw" 175
theorem ad_ex : ((List.range 7).all fun i => decide (Cond.exactly (adT i) "java/lang/String" ∈ fl)) = true := by decide +kernel
theorem ld_ok : (ldcl.all fun q => decide (Cond.stringRef q.1 q.2.1 q.2.2.1 ∈ lw_tbl) && (decide (q.2.2.2 < 7) && decide (Cond.isInt (.string q.1 q.2.1) = Cond.isInt (adT q.2.2.2)))) = true := by decide +kernel
def dgZ : List Cond := [.laysStatic "java/lang/Integer" "DigitOnes" "[B", .laysStatic "java/lang/Integer" "DigitTens" "[B", .initialized "java/lang/Integer", .castable "[B" "java/lang/Cloneable", .instantiable RJ4 4, .selects RJ4 xIsL yJ5_isLatin1_aae02]
theorem dgz_ok : (dgZ.all fun w => decide (w ∈ lw_tbl)) = true := by decide +kernel
theorem prv_ok : (privL.all fun y => decide (Cond.privateMethod y ∈ lw_tbl) && decide (Cond.instanceMethod y ∈ lw_tbl) && decide (y.cls = "java/lang/AbstractStringBuilder")) = true := by decide +kernel
section EN
variable {s : State} {args : Array Value}
theorem at_ad (hgv : ∀ w ∈ fl, w.before args s = true) : ∃ ad : Nat → Nat, ∀ i, i < 7 → (adT i).eval args s none [] s = some (.ref (ad i)) := by
  have h : ∀ i : Nat, ∃ a : Nat, i < 7 → (adT i).eval args s none [] s = some (.ref a) := fun i => by
    by_cases hi : i < 7
    · obtain ⟨a, c, cA, kA, q1, -⟩ := Cond.exactly_spec (args := args) (first := s) (o := none) (s := s) (idx := []) (t := adT i) (cls := "java/lang/String") (hgv _ (of_decide_eq_true (List.all_eq_true.mp ad_ex i (List.mem_range.mpr hi))))
      exact ⟨a, fun _ => q1⟩
    · exact ⟨0, fun h => absurd h hi⟩
  obtain ⟨ad, had⟩ := Classical.axiomOfChoice h
  exact ⟨ad, had⟩
theorem ref_one {o : Option Value} {a b : Nat} (h1 : o = some (.ref a)) (h2 : o = some (.ref b)) : a = b := by
  have h := h1.symm.trans h2
  exact Value.ref.inj (Option.some.inj h)
theorem at_str2 (hgv : ∀ w ∈ fl, w.before args s = true) {ad : Nat → Nat} (had : ∀ i, i < 7 → (adT i).eval args s none [] s = some (.ref (ad i))) : ∀ i, i < 7 → ∃ v : Nat, ∀ U : State, s.WarmedH U.vm → va_O "java/lang/String" (ad i) (fun q => s.heap.size ≤ q) U s.heap ∧ va_OF "java/lang/String" "coder" "B" (.int 0) (ad i) (fun q => s.heap.size ≤ q) U s.heap ∧ va_OF "java/lang/String" "value" "[B" (.ref v) (ad i) (fun q => s.heap.size ≤ q) U s.heap ∧ va_T .byte v (sx i).length (fun j => .int ((sx i).getD j 0)) (fun q => s.heap.size ≤ q) U s.heap := by
  have one : ∀ {i k : Nat} {C : String}, i < 7 → adT i = .string C k → (sx i).length < 1000 → (strL C k (sx i)).all (fun w => decide (w ∈ fl)) = true → ∃ v : Nat, ∀ U : State, s.WarmedH U.vm → va_O "java/lang/String" (ad i) (fun q => s.heap.size ≤ q) U s.heap ∧ va_OF "java/lang/String" "coder" "B" (.int 0) (ad i) (fun q => s.heap.size ≤ q) U s.heap ∧ va_OF "java/lang/String" "value" "[B" (.ref v) (ad i) (fun q => s.heap.size ≤ q) U s.heap ∧ va_T .byte v (sx i).length (fun j => .int ((sx i).getD j 0)) (fun q => s.heap.size ≤ q) U s.heap := fun {i k C} hi he hl h => by
    obtain ⟨a, ha, v, hv⟩ := at_str1 hgv hl h
    have hh := had i hi
    rw [he] at hh
    rw [← ref_one ha hh]
    exact ⟨v, hv⟩
  intro i hi
  match i, hi with
  | 0, _ => exact one (by omega) rfl (sx_ok 0 (by omega)).2 st_0
  | 1, _ => exact one (by omega) rfl (sx_ok 1 (by omega)).2 st_1
  | 2, _ => exact one (by omega) rfl (sx_ok 2 (by omega)).2 st_2
  | 3, _ => exact one (by omega) rfl (sx_ok 3 (by omega)).2 st_3
  | 4, _ => exact one (by omega) rfl (sx_ok 4 (by omega)).2 st_4
  | 5, _ => exact one (by omega) rfl (sx_ok 5 (by omega)).2 st_5
  | 6, _ => exact one (by omega) rfl (sx_ok 6 (by omega)).2 st_6
  | n + 7, h => exact absurd h (by omega)
theorem at_ld (hts : ∀ w ∈ lw_tbl, w.before args s = true) {ad : Nat → Nat} (had : ∀ i, i < 7 → (adT i).eval args s none [] s = some (.ref (ad i))) {U : State} (hW : s.WarmedH U.vm) : ∀ q ∈ ldcl, vk_R q.1 q.2.1 q.2.2.1 (ad q.2.2.2) U := fun q hq => by
  have h := List.all_eq_true.mp ld_ok q hq
  rw [Bool.and_eq_true, Bool.and_eq_true, decide_eq_true_eq, decide_eq_true_eq, decide_eq_true_eq] at h
  obtain ⟨h1, h2, h3⟩ := h
  have he : (Term.string q.1 q.2.1).eval args s none [] s = some (.ref (ad q.2.2.2)) := by
    rw [Cond.isInt.inj h3]
    exact had _ h2
  exact vk_R.warm hW (vk_R.of (hts _ h1) he)
theorem at_KAll (hts : ∀ w ∈ lw_tbl, w.before args s = true) (hgv : ∀ w ∈ fl, w.before args s = true) : ∃ ad : Nat → Nat, ∀ (ae : Nat → Nat) (D : va_G) (ty : Nat → ClassId), KAll (s.heap, D, ty, fun U => s.WarmedH U.vm) ad ae := by
  obtain ⟨ad, had⟩ := at_ad hgv
  exact ⟨ad, fun ae D ty => ⟨⟨⟨fun U hU => (at_J hts hgv hU).1, fun U hU => (at_J hts hgv hU).2⟩, fun i hi => at_str2 hgv had i hi, fun q hq U hU => at_ld hts had hU q hq⟩, trivial⟩⟩
theorem at_dig (hts : ∀ w ∈ lw_tbl, w.before args s = true) (hgv : ∀ w ∈ fl, w.before args s = true) {nm : String} {f : Nat → Nat} (h : ((dig nm f).all fun w => decide (w ∈ fl)) = true) (hl : Cond.laysStatic "java/lang/Integer" nm "[B" ∈ lw_tbl) : ∃ d : Nat, ∀ U : State, s.WarmedH U.vm → va_Z "java/lang/Integer" nm "[B" (.ref d) (fun q => s.heap.size ≤ q) U s.heap ∧ va_T .byte d 100 (fun j => .int (nI (f j))) (fun q => s.heap.size ≤ q) U s.heap := by
  have hA : ∀ a : Nat, a < s.heap.size → ¬ (fun q => s.heap.size ≤ q) a := fun a ha => Nat.not_le.mpr ha
  have hm : ∀ w ∈ dig nm f, w.before args s = true := fun w hw => hgv w (of_decide_eq_true (List.all_eq_true.mp h w hw))
  have hz : ∀ w ∈ dgZ, w.before args s = true := fun w hw => hts _ (of_decide_eq_true (List.all_eq_true.mp dgz_ok w hw))
  unfold dig at hm
  obtain ⟨d, hd, T⟩ := va_Tof (tm := .static "java/lang/Integer" nm "[B") (ty := .byte) (N := 100) (f := fun j => .int (nI (f j))) (A := fun q => s.heap.size ≤ q) (by omega) (hm _ (List.mem_append_left _ List.mem_cons_self)) (va_eqv (hm (.eq (.length (.static "java/lang/Integer" nm "[B")) (.int (Int32.ofNat 100))) (List.mem_append_left _ (List.mem_cons_of_mem _ List.mem_cons_self))) rfl) (fun j hj => va_eqv (hm _ (List.mem_append_right _ (List.mem_map.mpr ⟨j, List.mem_range.mpr hj, rfl⟩))) rfl) hA
  exact ⟨d, fun U hW => ⟨(va_Zof (hts _ hl) (hz _ (List.mem_of_getElem? (i := 2) rfl)) hd hA).moved hW.alike, T.moved hW.alike⟩⟩
theorem at_KB (hts : ∀ w ∈ lw_tbl, w.before args s = true) (hgv : ∀ w ∈ fl, w.before args s = true) (D : va_G) (ty : Nat → ClassId) : KB (s.heap, D, ty, fun U => s.WarmedH U.vm) := by
  have hz : ∀ w ∈ dgZ, w ∈ lw_tbl := fun w hw => of_decide_eq_true (List.all_eq_true.mp dgz_ok w hw)
  obtain ⟨d1, h1⟩ := at_dig hts hgv dig_1 (hz _ (List.mem_of_getElem? (i := 0) rfl))
  obtain ⟨d10, h10⟩ := at_dig hts hgv dig_10 (hz _ (List.mem_of_getElem? (i := 1) rfl))
  refine ⟨⟨fun U hU => (at_J hts hgv hU).1, fun U hU => (at_J hts hgv hU).2⟩, fun U hU => ⟨va_Nw.warmC hU (va_Nw.of rfl (hts _ (hz _ (List.mem_of_getElem? (i := 3) rfl)))), fun y hy => ?_⟩, d1, d10, fun U hU => ⟨(h1 U hU).1, (h1 U hU).2, (h10 U hU).1, (h10 U hU).2⟩⟩
  have h := List.all_eq_true.mp prv_ok y hy
  rw [Bool.and_eq_true, Bool.and_eq_true, decide_eq_true_eq, decide_eq_true_eq, decide_eq_true_eq] at h
  have hs := sel_sub (y := y) (n := 4) (by rw [h.2]; exact ⟨by decide +kernel, by decide +kernel⟩) (hts _ (hz _ (List.mem_of_getElem? (i := 4) rfl))) (hts _ h.1.1) (hts _ h.1.2) (hts _ (hz _ (List.mem_of_getElem? (i := 5) rfl))) (show yJ5_isLatin1_aae02.cls = y.cls by rw [h.2]; rfl)
  exact word_at hU (good_of_word rfl) hs
end EN
