/-! a call of a method that the receiver's class overrides -/
section GJO
variable {X : Cx} {l : Launch} {g : Gl} {own : String} {cc : ByteArray} {nL : Nat} {R : Room} {σ : Hp} {k n : Nat} {ls : List (Nat × Value)} {st : List Value}
abbrev LkO (own : String) (idx : Nat) (C owner : String) (x : MethodName) (M : Md) (b0 : ByteArray) (m0 : Nat) (r0 : Option FieldType) : Prop := (∀ w ∈ va_wsO own idx C owner x M.y [.code M.y M.b M.nL M.rt], w ∈ aw) ∧ Cond.code ⟨owner, x.name, x.desc⟩ b0 m0 r0 ∈ aw
theorem g_callO {pc idx b ci : Nat} {C owner : String} {x : MethodName} {M : Md} {As rest : List Value} {fs : List Value} {T : u_T} {N : Nat} {b0 : ByteArray} {m0 : Nat} {r0 : Option FieldType} {Post : Option Value → Hp → Prop} (hx : Ok X l g own cc nL R) (hM : MG l g M (.ref b :: As) σ Post) (hlk : LkO own idx C owner x M b0 m0 r0) (har : owner ≠ "java/lang/invoke/MethodHandle" ∧ owner ≠ "java/lang/invoke/VarHandle" ∧ (parseMethodDescriptor x.desc).map (fun d => d.parameters.length) = some As.length) (hk : σ.2 b = some (eO ci fs)) (hc : vwCl[ci]? = some (C, T, N)) (hst : st = As.reverse ++ .ref b :: rest) (hcat : (rest.map fun v => v.category).sum ≤ 8) (hroom : M.rm.frames + 1 ≤ R.frames ∧ 8 + (M.nL + 11) + M.rm.locals ≤ R.locals) (hcs : k + M.rm.cells ≤ R.cells ∧ n + M.rm.slots ≤ R.slots) (hd : decode cc pc = .ok (.invokevirtual idx, 3)) (kk : ∀ v σ', Post v σ' → G X σ' (k + M.rm.cells) (n + M.rm.slots) (pc + 3) ls (v.toList ++ rest)) : G X σ k n pc ls st := by
  obtain ⟨p, l', e, R', s, m, args, below, meth, c, Q, g'⟩ := X
  obtain ⟨h1, h2, h3, h4, h5, h6, h7, h8, rfl, rfl, rfl⟩ := hx
  intro H locs la hP hS hL
  subst hst
  have hT : GoodIn aw (va_wsO own idx C owner x M.y (.code M.y M.b M.nL M.rt :: aw)) := fun w hw => by
    have hw2 : w ∈ aw := by
      unfold va_wsO at hw
      rcases List.mem_append.mp hw with hw | hw
      · exact hlk.1 w (by unfold va_wsO; exact List.mem_append_left _ hw)
      · rcases List.mem_cons.mp hw with rfl | hw
        · exact hlk.1 _ (by unfold va_wsO; exact List.mem_append_right _ List.mem_cons_self)
        · exact hw
    exact ⟨hw2, aw_good1 hw2⟩
  have cw := va_cwO (args := args) (s := s) (R := R') (rm := M.rm) (mc := M.rm.cells) (ms := M.rm.slots) (bytes := M.b) (maxL := M.nL) (ret := M.rt) As.length h5 hT rfl rfl rfl hlk.2 har hroom
  refine g_run (va_runU (nL := nL) (As := As) (rest := rest) ⟨h1, h2, h3, h4, h5⟩ hM cw ⟨MGp.blind, ?_, fun U hU hW => ⟨rfl, by rw [hU]; exact hP, by rw [hU]; exact Nat.le_trans h7 hS.1, va_K.moved hW.alike h6, h8.2 _ U hW h8.1, h8.2⟩⟩ rfl rfl (by rw [← h3]; exact hL.1) rfl (lv_room hcat) hd hcs) hS hL kk
  obtain ⟨cell, g1, g2, g3⟩ := va_recv (q0 := 0) (fs := fs) h6 (hP.one hk) hc rfl
  exact ⟨cell, g1, g2, g3⟩
end GJO
