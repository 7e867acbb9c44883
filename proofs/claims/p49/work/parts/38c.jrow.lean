/-! a call of a superclass's private method -/
theorem sel_sub {C : String} {y x0 y0 : MethodName} {s : State} {args : Array Value} {n : Nat} (hy : y.cls ≠ "java/lang/invoke/MethodHandle" ∧ y.cls ≠ "java/lang/invoke/VarHandle") (hins : (Cond.instantiable C n).before args s = true) (hpriv : (Cond.privateMethod y).before args s = true) (hinst : (Cond.instanceMethod y).before args s = true) (h0 : (Cond.selects C x0 y0).before args s = true) (hcls : y0.cls = y.cls) : (Cond.selects C y y).before args s = true := by
  obtain ⟨c, k, hc, hk, -, -, -, -⟩ := Cond.instantiable_spec hins
  obtain ⟨mk, methM, hnamed, hmethM, -, -⟩ := Cond.instanceMethod_spec hinst
  have hfound : s.methodFound? y.cls y.name y.desc = some mk := State.methodFound?_of_named hnamed hy
  have hsel : selectMethod {} s.vm c mk = .method mk := selectMethod_private hmethM (Cond.privateMethod_at hpriv mk methM hnamed hmethM)
  have hni : (s.vm.classes[mk.cls]?).any (fun k => !k.isInterface) = true := by
    simp only [Cond.before, Cond.holds, Cond.value, hc] at h0
    cases hf : s.methodFound? x0.cls x0.name x0.desc with
    | none => simp [hf] at h0
    | some r =>
      cases hn : s.methodNamed? y0 with
      | none => simp [hf, hn] at h0
      | some m0 =>
        have e : m0.cls = mk.cls := Option.some.inj ((findClass_of_methodNamed hn).symm.trans (by rw [hcls]; exact findClass_of_methodNamed hnamed))
        simp only [hf, hn] at h0
        rw [← e]
        split at h0
        · have h1 := beq_iff_eq.mp h0
          have h2 := Option.some.inj h1
          rw [Bool.and_eq_true] at h2
          exact h2.2
        · exact absurd h0 (by decide)
  simp only [Cond.before, Cond.holds, Cond.value, hc, hfound, hnamed, hsel]
  simp only [hni]
  simp
section GJP
variable {X : Cx} {l : Launch} {g : Gl} {own : String} {cc : ByteArray} {nL : Nat} {R : Room} {σ : Hp} {k n : Nat} {ls : List (Nat × Value)} {st : List Value}
abbrev xIsL : MethodName := ⟨"java/lang/AbstractStringBuilder", "isLatin1", "()Z"⟩
/-- the words of a call of a private method of AbstractStringBuilder on a StringBuilder -/
abbrev LkP (own : String) (idx : Nat) (M : Md) : Prop := ∀ w ∈ [Cond.methodLink own idx M.y, .sameMethod M.y.cls M.y.cls M.y.name M.y.desc, .instanceMethod M.y, .initialized M.y.cls, .code M.y M.b M.nL M.rt], w ∈ aw
def privL : List MethodName := [yJ5_ensureCapacityInternal_d00df, yJ5_newCapacity_0f7a4, yJ5_putStringAt_47b60, yJ5_inflateIfNeededFor_a7421]
/-- what is asked of the tables besides: a row of bytes can be cloned; the private methods; the digits -/
def KB (g : Gl) : Prop := KJ g ∧ (∀ U, g.2.2.2 U → va_Nw (.castable "[B" "java/lang/Cloneable") U ∧ ∀ y ∈ privL, va_Nw (.selects RJ4 y y) U) ∧ ∃ d1 d10 : Nat, ∀ U, g.2.2.2 U → va_Z "java/lang/Integer" "DigitOnes" "[B" (.ref d1) (A0 g) U g.1 ∧ va_T .byte d1 100 (fun j => .int (nI (48 + j % 10))) (A0 g) U g.1 ∧ va_Z "java/lang/Integer" "DigitTens" "[B" (.ref d10) (A0 g) U g.1 ∧ va_T .byte d10 100 (fun j => .int (nI (48 + j / 10))) (A0 g) U g.1
theorem g_callP {pc idx b : Nat} {M : Md} {As rest : List Value} {fs : List Value} {Post : Option Value → Hp → Prop} (hx : Ok X l g own cc nL R) (hM : MG l g M (.ref b :: As) σ Post) (hlk : LkP own idx M) (hB : KB g) (hpr : M.y ∈ privL) (hcls : M.y.cls = "java/lang/AbstractStringBuilder") (har : (parseMethodDescriptor M.y.desc).map (fun d => d.parameters.length) = some As.length) (hk : σ.2 b = some (eO 10 fs)) (hst : st = As.reverse ++ .ref b :: rest) (hcat : (rest.map fun v => v.category).sum ≤ 8) (hroom : M.rm.frames + 1 ≤ R.frames ∧ 8 + (M.nL + 11) + M.rm.locals ≤ R.locals) (hcs : k + M.rm.cells ≤ R.cells ∧ n + M.rm.slots ≤ R.slots) (hd : decode cc pc = .ok (.invokevirtual idx, 3)) (kk : ∀ v σ', Post v σ' → G X σ' (k + M.rm.cells) (n + M.rm.slots) (pc + 3) ls (v.toList ++ rest)) : G X σ k n pc ls st := by
  obtain ⟨p, l', e, R', s, m, args, below, meth, c, Q, g'⟩ := X
  obtain ⟨h1, h2, h3, h4, h5, h6, h7, h8, rfl, rfl, rfl⟩ := hx
  intro H locs la hP hS hL
  subst hst
  have w1 := h5 _ (hlk _ (List.mem_of_getElem? (i := 0) rfl))
  have w2 := h5 _ (hlk _ (List.mem_of_getElem? (i := 1) rfl))
  have w3 := h5 _ (hlk _ (List.mem_of_getElem? (i := 2) rfl))
  have w5 := h5 _ (hlk _ (List.mem_of_getElem? (i := 3) rfl))
  have hcode := hlk _ (List.mem_of_getElem? (i := 4) rfl)
  have hn : M.y.cls ≠ "java/lang/invoke/MethodHandle" ∧ M.y.cls ≠ "java/lang/invoke/VarHandle" := by rw [hcls]; exact ⟨by decide +kernel, by decide +kernel⟩
  have hsel : (Cond.selects RJ4 M.y M.y).before args s = true := va_Nw.use rfl ((hB.2.1 s h8.1).2 _ hpr)
  have hT : GoodIn aw (.code M.y M.b M.nL M.rt :: aw) := fun w hw => by
    rcases List.mem_cons.mp hw with rfl | hw
    · exact ⟨hcode, aw_good1 hcode⟩
    · exact ⟨hw, aw_good1 hw⟩
  have cw : va_CU R' s args own RJ4 M.y.cls idx M.y M.y M.b M.nL M.rt (.code M.y M.b M.nL M.rt :: aw) M.rm M.rm.cells M.rm.slots As.length :=
    ⟨⟨rfl, rfl, hroom.1, hroom.2, pay_in h5 hT, List.mem_cons_self⟩, h5 _ hcode, w5, hn, fun sig h => by
      rw [h] at har
      exact (Option.some.inj har).symm, w1, w2, va_Decl.of w3 (h5 _ hcode), hsel, w3⟩
  refine g_run (va_runU (nL := nL) (As := As) (rest := rest) ⟨h1, h2, h3, h4, h5⟩ hM cw ⟨MGp.blind, ?_, fun U hU hW => ⟨rfl, by rw [hU]; exact hP, by rw [hU]; exact Nat.le_trans h7 hS.1, va_K.moved hW.alike h6, h8.2 _ U hW h8.1, h8.2⟩⟩ rfl rfl (by rw [← h3]; exact hL.1) rfl (lv_room hcat) hd hcs) hS hL kk
  obtain ⟨cell, g1, g2, g3⟩ := va_recv (q0 := 0) (ci := 10) (q := (RJ4, TJ4, 4)) (fs := fs) h6 (hP.one hk) rfl rfl
  exact ⟨cell, g1, g2, g3⟩
end GJP
