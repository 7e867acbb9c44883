/-! the law: what its entry gives -/
theorem tb1 {w : Cond} (h : decide (w ∈ lw_tbl) = true) : w ∈ lw_tbl := of_decide_eq_true h
theorem cls_inst0 : ∀ w ∈ vwCl.map (fun q => Cond.instantiable q.1 q.2.2), w ∈ aw := aw_of (by decide +kernel)
theorem cls_inst : ∀ q ∈ vwCl, Cond.instantiable q.1 q.2.2 ∈ aw := fun q hq => cls_inst0 _ (List.mem_map.mpr ⟨q, hq, rfl⟩)
section EN
variable {s : State} {args : Array Value}
theorem at_prim {ty : FieldType} (hp : ty = .int ∨ ty = .long) (h : (Cond.arrayClass ty).before args s = true) : ∃ cA, ArrOfT s cA ty ∧ va_RA s cA ty := by
  obtain ⟨cA, kA, comp, h1, h2, h3⟩ := Cond.arrayClass_spec h
  refine ⟨cA, fun n z => ⟨fun k h => (by cases h), kA, h2, comp, h3⟩, ?_⟩
  rcases hp with rfl | rfl
  · exact h1
  · exact h1
theorem at_obj {C : String} (h : (Cond.arrayOver (.object C)).before args s = true) : ∃ cA, ArrOfT s cA (.object C) ∧ va_RA s cA (.object C) := by
  obtain ⟨comp, cA, kA, h1, -, h2, h3, h4⟩ := Cond.arrayOver_spec h
  exact ⟨cA, fun n z => ⟨fun k h => (by cases h), kA, h2, comp, h3⟩, kA, comp, h2, h3, h1, h4⟩
theorem at_K (hts : ∀ w ∈ lw_tbl, w.before args s = true) : ∃ (D : va_G) (ty : Nat → ClassId), va_K D vwCl [(ty 0, .int), (ty 1, .object "SlipArchive$Stacks"), (ty 2, .object "SlipArchive$Order"), (ty 3, .long), (ty 4, .object "java/lang/String")] s := by
  have haw : ∀ w ∈ aw, w.before args s = true := fun w hw => hts w (List.mem_filter.mp hw).1
  have hk : ∀ (c : Nat) (q : vw_C), vwCl[c]? = some q → ∃ (cC : ClassId) (iS : Nat → Nat), u_Kn s q.1 q.2.1 q.2.2 cC iS := fun c q hq => by
    have hq' := List.mem_of_getElem? hq
    exact u_known haw (cls_in q hq') (haw _ (cls_inst q hq'))
  obtain ⟨c0, i0, -⟩ := hk 0 _ rfl
  have hk2 : ∀ c : Nat, ∃ z : ClassId × (Nat → Nat), ∀ q, vwCl[c]? = some q → u_Kn s q.1 q.2.1 q.2.2 z.1 z.2 := fun c => by
    cases hq : vwCl[c]? with
    | none => exact ⟨(c0, i0), fun q h => by cases h⟩
    | some q =>
      obtain ⟨cC, iS, h⟩ := hk c q hq
      exact ⟨(cC, iS), fun q' h' => by cases h'; exact h⟩
  obtain ⟨t0, g0, k0⟩ := at_prim (Or.inl rfl) (hts (.arrayClass .int) (tb1 (by decide +kernel)))
  obtain ⟨t3, g3, k3⟩ := at_prim (Or.inr rfl) (hts (.arrayClass .long) (tb1 (by decide +kernel)))
  obtain ⟨t1, g1, k1⟩ := at_obj (hts (.arrayOver (.object "SlipArchive$Stacks")) (tb1 (by decide +kernel)))
  obtain ⟨t2, g2, k2⟩ := at_obj (hts (.arrayOver (.object "SlipArchive$Order")) (tb1 (by decide +kernel)))
  obtain ⟨t4, g4, k4⟩ := at_obj (hts (.arrayOver (.object "java/lang/String")) (tb1 (by decide +kernel)))
  refine ⟨(fun c => (Classical.choose (hk2 c)).1, fun c => (Classical.choose (hk2 c)).2), fun i => if i = 0 then t0 else if i = 1 then t1 else if i = 2 then t2 else if i = 3 then t3 else t4, fun c q hq => Classical.choose_spec (hk2 c) q hq, fun k q hq => ?_⟩
  match k, hq with
  | 0, hq => cases hq; exact ⟨g0, k0⟩
  | 1, hq => cases hq; exact ⟨g1, k1⟩
  | 2, hq => cases hq; exact ⟨g2, k2⟩
  | 3, hq => cases hq; exact ⟨g3, k3⟩
  | 4, hq => cases hq; exact ⟨g4, k4⟩
  | k + 5, hq => simp at hq
theorem at_C (hts : ∀ w ∈ lw_tbl, w.before args s = true) {U : State} (hW : s.WarmedH U.vm) : (va_AO "SlipArchive$Stacks" U ∧ va_AO "SlipArchive$Order" U ∧ va_AO "java/lang/String" U) ∧ ∀ w ∈ nestm, va_Nw w U :=
  ⟨⟨(va_AO.of (hts (.arrayOver (.object "SlipArchive$Stacks")) (tb1 (by decide +kernel)))).moved hW.alike, (va_AO.of (hts (.arrayOver (.object "SlipArchive$Order")) (tb1 (by decide +kernel)))).moved hW.alike, (va_AO.of (hts (.arrayOver (.object "java/lang/String")) (tb1 (by decide +kernel)))).moved hW.alike⟩,
    List.forall_mem_cons.mpr ⟨va_Nw.warmM hW (va_Nw.of rfl (hts _ (tb1 (by decide +kernel)))), List.forall_mem_cons.mpr ⟨va_Nw.warmM hW (va_Nw.of rfl (hts _ (tb1 (by decide +kernel)))), List.forall_mem_cons.mpr ⟨va_Nw.warmM hW (va_Nw.of rfl (hts _ (tb1 (by decide +kernel)))), List.forall_mem_cons.mpr ⟨va_Nw.warmM hW (va_Nw.of rfl (hts _ (tb1 (by decide +kernel)))), fun _ h => absurd h List.not_mem_nil⟩⟩⟩⟩⟩
theorem at_nl (hts : ∀ w ∈ lw_tbl, w.before args s = true) {U : State} (hW : s.WarmedH U.vm) : ∀ w ∈ nestl, va_Nw w U :=
  List.forall_mem_cons.mpr ⟨va_Nw.warmF hW (va_Nw.of rfl (hts _ (tb1 (by decide +kernel)))), List.forall_mem_cons.mpr ⟨va_Nw.warmF hW (va_Nw.of rfl (hts _ (tb1 (by decide +kernel)))), List.forall_mem_cons.mpr ⟨va_Nw.warmF hW (va_Nw.of rfl (hts _ (tb1 (by decide +kernel)))), List.forall_mem_cons.mpr ⟨va_Nw.warmF hW (va_Nw.of rfl (hts _ (tb1 (by decide +kernel)))), List.forall_mem_cons.mpr ⟨va_Nw.warmF hW (va_Nw.of rfl (hts _ (tb1 (by decide +kernel)))), fun _ h => absurd h List.not_mem_nil⟩⟩⟩⟩⟩
end EN
/-- the conditions of the start, one by one -/
def fl : List Cond := flatC (Cond.and given_1 narrow_1)
theorem fl1 {w : Cond} (h : decide (w ∈ fl) = true) : w ∈ fl := of_decide_eq_true h
section EN
variable {s : State} {args : Array Value}
theorem at_N (hts : ∀ w ∈ lw_tbl, w.before args s = true) (hgv : ∀ w ∈ fl, w.before args s = true) {U : State} (hW : s.WarmedH U.vm) : va_Nc iae nse U ∧ (Cond.castable iae iae).before #[] U = true ∧ (Cond.castable nse nse).before #[] U = true :=
  ⟨(va_Nc.of (hgv _ (fl1 (w := .not (.castable iae nse)) (by decide +kernel)))).moved hW.alike, va_Nw.warmC hW (va_Nw.of rfl (hts (.castable iae iae) (tb1 (by decide +kernel)))), va_Nw.warmC hW (va_Nw.of rfl (hts (.castable nse nse) (tb1 (by decide +kernel))))⟩
theorem at_J (hts : ∀ w ∈ lw_tbl, w.before args s = true) (hgv : ∀ w ∈ fl, w.before args s = true) {U : State} (hW : s.WarmedH U.vm) : va_Z "java/lang/String" "COMPACT_STRINGS" "Z" (.int 1) (fun q => s.heap.size ≤ q) U s.heap ∧ va_Zq "jdk/internal/util/Preconditions" "SIOOBE_FORMATTER" "Ljava/util/function/BiFunction;" (fun q => s.heap.size ≤ q) U s.heap :=
  ⟨(va_Zof (hts (.laysStatic "java/lang/String" "COMPACT_STRINGS" "Z") (tb1 (by decide +kernel))) (hts (.initialized "java/lang/String") (tb1 (by decide +kernel))) (va_eqi (hgv (.eq (.static "java/lang/String" "COMPACT_STRINGS" "Z") (.int 1)) (fl1 (by decide +kernel)))) (fun a ha => Nat.not_le.mpr ha)).moved hW.alike,
   (va_Zqof (hts (.laysStatic "jdk/internal/util/Preconditions" "SIOOBE_FORMATTER" "Ljava/util/function/BiFunction;") (tb1 (by decide +kernel))) (hts (.initialized "jdk/internal/util/Preconditions") (tb1 (by decide +kernel))) (hgv _ (fl1 (by decide +kernel))) (fun a ha => Nat.not_le.mpr ha)).moved hW.alike⟩
theorem at_X (hts : ∀ w ∈ lw_tbl, w.before args s = true) (hgv : ∀ w ∈ fl, w.before args s = true) {U : State} (hW : s.WarmedH U.vm) : vx_Zq Bundle.tN "UNASSIGNED_STACK" Bundle.steD (fun q => s.heap.size ≤ q) U s.heap ∧ vx_Zq Bundle.tN "SUPPRESSED_SENTINEL" Bundle.listD (fun q => s.heap.size ≤ q) U s.heap :=
  ⟨(vx_Zqof (hts (.laysStatic Bundle.tN "UNASSIGNED_STACK" Bundle.steD) (tb1 (by decide +kernel))) (hts (.initialized Bundle.tN) (tb1 (by decide +kernel))) (hgv _ (fl1 (by decide +kernel))) (fun a ha => Nat.not_le.mpr ha)).moved hW.alike,
   (vx_Zqof (hts (.laysStatic Bundle.tN "SUPPRESSED_SENTINEL" Bundle.listD) (tb1 (by decide +kernel))) (hts (.initialized Bundle.tN) (tb1 (by decide +kernel))) (hgv _ (fl1 (by decide +kernel))) (fun a ha => Nat.not_le.mpr ha)).moved hW.alike⟩
end EN
section EN
variable {s : State} {args : Array Value}
theorem at_OF {t : Term} {o n d : String} {a : Nat} {v : Value} (ht : t.eval args s none [] s = some (.ref a)) (hv : (Term.field t o n d).eval args s none [] s = some v) : va_OF o n d v a (fun q => s.heap.size ≤ q) s s.heap := by
  cases hfo : s.fieldFound? o n d with
  | none =>
    rw [va_fe ht] at hv
    simp [State.fieldOf?, State.fieldNamed?, hfo] at hv
  | some x =>
    obtain ⟨cf, k, fi, f⟩ := x
    obtain ⟨g1, cell, g2, g3, -, -, g6⟩ := Term.field_spec hfo ht hv
    exact ⟨cf, k, fi, f, cell, hfo, g1, g2, g3, g6, Nat.not_le.mpr (Array.getElem?_eq_some_iff.mp g2).1⟩
theorem at_str {C : String} {k : Nat} {cs : List Int32} (hl : cs.length < 1000) (h1 : (Cond.exactly (.string C k) "java/lang/String").before args s = true) (h2 : (Cond.eq (.field (.string C k) "java/lang/String" "coder" "B") (.int 0)).before args s = true) (h3 : (Cond.arrayOf (.field (.string C k) "java/lang/String" "value" "[B") .byte).before args s = true) (h4 : (Cond.eq (.length (.field (.string C k) "java/lang/String" "value" "[B")) (.int (Int32.ofNat cs.length))).before args s = true) (h5 : ∀ j, j < cs.length → (Cond.eq (.elem (.field (.string C k) "java/lang/String" "value" "[B") (.int (Int32.ofNat j))) (.int (cs.getD j 0))).before args s = true) :
    ∃ a : Nat, (Term.string C k).eval args s none [] s = some (.ref a) ∧ ∃ v : Nat, ∀ U : State, s.WarmedH U.vm → va_O "java/lang/String" a (fun q => s.heap.size ≤ q) U s.heap ∧ va_OF "java/lang/String" "coder" "B" (.int 0) a (fun q => s.heap.size ≤ q) U s.heap ∧ va_OF "java/lang/String" "value" "[B" (.ref v) a (fun q => s.heap.size ≤ q) U s.heap ∧ va_T .byte v cs.length (fun j => .int (cs.getD j 0)) (fun q => s.heap.size ≤ q) U s.heap := by
  have hA : ∀ a : Nat, a < s.heap.size → ¬ (fun q => s.heap.size ≤ q) a := fun a ha => Nat.not_le.mpr ha
  obtain ⟨a, c, cA, kA, q1, -⟩ := Cond.exactly_spec (args := args) (first := s) (o := none) (s := s) (idx := []) (t := .string C k) (cls := "java/lang/String") h1
  obtain ⟨v, hv, hT⟩ := va_Tof (N := cs.length) (f := fun j => .int (cs.getD j 0)) (A := fun q => s.heap.size ≤ q) (by omega) h3 (va_eqv h4 rfl) (fun j hj => va_eqv (h5 j hj) rfl) hA
  exact ⟨a, q1, v, fun U hW => ⟨(va_Oof h1 q1 hA).moved hW.alike, (at_OF q1 (va_eqv h2 rfl)).moved hW.alike, (at_OF q1 hv).moved hW.alike, hT.moved hW.alike⟩⟩
end EN
