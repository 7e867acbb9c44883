section GC
variable {X : Cx} {l : Launch} {g : Gl} {own : String} {cc : ByteArray} {nL : Nat} {R : Room} {σ : Hp} {k n : Nat} {ls : List (Nat × Value)} {st : List Value}
theorem MGp.blind {av : List Value} : FrameBlind (MGp g av σ) := fun a U gf mk ⟨q1, q2, q3, q4, q5, q6⟩ => ⟨q1, q2, q3, va_K.moved (u := U) (U := U.calling gf mk a) (Vm.Alike.refl U.vm) q4, q6 U (U.calling gf mk a) (State.WarmedH.refl U) q5, q6⟩
theorem aw_good1 {w : Cond} (h : w ∈ aw) : (w.onTables && w.keeps) = true ∨ ∃ ty, w = .arrayClass ty := good_of_word (List.all_eq_true.mp aw_good w h)
/-- a call, whatever it answers -/
theorem g_run {p : Program} {e : Env} {s : State} {m : MethodId} {args : Array Value} {below : List Frame} {meth : Method} {c : Code} {Q : State → Prop} {H : Heap} {locs : List Loc} {la : Array Slot} {pc mc ms : Nat} {st0 rest : List Value} {Post : Option Value → Hp → Prop} {a : Array Value}
    (hr : va_Run p l e R s m args below meth c H locs k n mc ms (F0 m pc la st0) rest (MGq g Post a) (fun q => g.1.size ≤ q)) (hS : va_S (fun q => g.1.size ≤ q) s.heap H locs) (hL : lv_has la c.maxLocals ls)
    (kk : ∀ v σ', Post v σ' → G (p, l, e, R, s, m, args, below, meth, c, Q, g) σ' (k + mc) (n + ms) (pc + 3) ls (v.toList ++ rest)) : W p l e R s m args below meth c H locs k n Q (F0 m pc la st0) := by
  intro T hT Y
  obtain ⟨v, st₀, t, T', L, e0, Y', hL', e1, e2, ⟨v', σ', hv, hp, hP, hz, hk⟩, go⟩ := hr T hT Y
  cases hv
  rw [e0] at hz hk
  obtain ⟨t2, a1, b1⟩ := kk v σ' hp t.heap (locs ++ L) la hP ⟨Nat.le_trans hS.1 hz, fun q h1 h2 => by
      rw [hk q (Nat.lt_of_lt_of_le h1 hS.1) h2]
      exact hS.2.1 q h1 h2, fun q hq => by
      rcases List.mem_append.mp hq with h | h
      · exact hS.2.2 q h
      · exact hL' q h⟩ hL T' e1 Y'
  exact ⟨t2, go t2 a1, b1⟩
/-- the words of a call site -/
abbrev Lk (M : Md) (ws : List Cond) : Prop := (∀ w ∈ ws, w ∈ aw) ∧ Cond.code M.y M.b M.nL M.rt ∈ aw ∧ Cond.initialized M.y.cls ∈ aw
abbrev LkV (own : String) (idx : Nat) (M : Md) : Prop := Lk M [.methodLink own idx M.y, .instanceMethod M.y, .selects M.y.cls M.y M.y]
abbrev LkI (own : String) (idx : Nat) (M : Md) : Prop := Lk M [.methodLink own idx M.y, .instanceMethod M.y]
abbrev LkS (own : String) (idx : Nat) (M : Md) : Prop := Lk M [.methodLink own idx M.y, .static M.y]
abbrev LkN (own host : String) (idx : Nat) (M : Md) : Prop := Lk M [.methodLinkNest own idx M.y host, .instanceMethod M.y]
abbrev Arity (M : Md) (a : Nat) : Prop := M.y.cls ≠ "java/lang/invoke/MethodHandle" ∧ M.y.cls ≠ "java/lang/invoke/VarHandle" ∧ (parseMethodDescriptor M.y.desc).map (fun d => d.parameters.length) = some a
theorem good_ws {M : Md} {ws : List Cond} (h : Lk M ws) : GoodIn aw (.code M.y M.b M.nL M.rt :: aw) := fun w hw => by
  rcases List.mem_cons.mp hw with rfl | hw
  · exact ⟨h.2.1, aw_good1 h.2.1⟩
  · exact ⟨hw, aw_good1 hw⟩
theorem g_callV {pc idx b ci : Nat} {M : Md} {As rest : List Value} {fs : List Value} {T : u_T} {N : Nat} {Post : Option Value → Hp → Prop} (hx : Ok X l g own cc nL R) (hM : MG l g M (.ref b :: As) σ Post) (hlk : LkV own idx M) (har : Arity M As.length) (hk : σ.2 b = some (eO ci fs)) (hc : vwCl[ci]? = some (M.y.cls, T, N)) (hst : st = As.reverse ++ .ref b :: rest) (hcat : (rest.map fun v => v.category).sum ≤ 8) (hroom : M.rm.frames + 1 ≤ R.frames ∧ 8 + (M.nL + 11) + M.rm.locals ≤ R.locals) (hcs : k + M.rm.cells ≤ R.cells ∧ n + M.rm.slots ≤ R.slots) (hd : decode cc pc = .ok (.invokevirtual idx, 3)) (kk : ∀ v σ', Post v σ' → G X σ' (k + M.rm.cells) (n + M.rm.slots) (pc + 3) ls (v.toList ++ rest)) : G X σ k n pc ls st := by
  obtain ⟨p, l', e, R', s, m, args, below, meth, c, Q, g'⟩ := X
  obtain ⟨h1, h2, h3, h4, h5, h6, h7, h8, rfl, rfl, rfl⟩ := hx
  intro H locs la hP hS hL
  subst hst
  have cw : CallW R' s args own M.y.cls idx M.y M.b M.nL M.rt (.code M.y M.b M.nL M.rt :: aw) M.rm M.rm.cells M.rm.slots As.length :=
    ⟨callB_of As.length h5 (good_ws hlk) rfl rfl rfl (h5 _ hlk.2.2) (h5 _ (hlk.1 _ (by simp))) har hroom, h5 _ (hlk.1 _ (by simp)), h5 _ (hlk.1 _ (by simp))⟩
  refine g_run (va_runV (nL := nL) (As := As) (rest := rest) ⟨h1, h2, h3, h4, h5⟩ hM cw ⟨MGp.blind, ?_, fun U hU hW => ⟨rfl, by rw [hU]; exact hP, by rw [hU]; exact Nat.le_trans h7 hS.1, va_K.moved hW.alike h6, h8.2 _ U hW h8.1, h8.2⟩⟩ rfl rfl (by rw [← h3]; exact hL.1) rfl (lv_room hcat) hd hcs) hS hL kk
  obtain ⟨cell, g1, g2, g3⟩ := va_recv (q0 := 0) (fs := fs) h6 (hP.one hk) hc rfl
  exact ⟨cell, g1, g2, g3⟩
theorem g_callI {pc idx b : Nat} {M : Md} {As rest : List Value} {Post : Option Value → Hp → Prop} (hx : Ok X l g own cc nL R) (hM : MG l g M (.ref b :: As) σ Post) (hlk : LkI own idx M) (hrt : M.rt = none) (hnm : M.y.name = "<init>") (har : Arity M As.length) (hst : st = As.reverse ++ .ref b :: rest) (hcat : (rest.map fun v => v.category).sum ≤ 8) (hroom : M.rm.frames + 1 ≤ R.frames ∧ 8 + (M.nL + 11) + M.rm.locals ≤ R.locals) (hcs : k + M.rm.cells ≤ R.cells ∧ n + M.rm.slots ≤ R.slots) (hd : decode cc pc = .ok (.invokespecial idx, 3)) (kk : ∀ v σ', Post v σ' → G X σ' (k + M.rm.cells) (n + M.rm.slots) (pc + 3) ls (v.toList ++ rest)) : G X σ k n pc ls st := by
  obtain ⟨p, l', e, R', s, m, args, below, meth, c, Q, g'⟩ := X
  obtain ⟨h1, h2, h3, h4, h5, h6, h7, h8, rfl, rfl, rfl⟩ := hx
  intro H locs la hP hS hL
  subst hst
  have cw : CallB R' s args own idx M.y M.b M.nL none (.code M.y M.b M.nL M.rt :: aw) M.rm M.rm.cells M.rm.slots As.length :=
    callB_of (ws' := aw) As.length h5 (good_ws hlk) (by rw [hrt]) rfl rfl (h5 _ hlk.2.2) (h5 _ (hlk.1 _ (by simp))) har hroom
  exact g_run (va_runI (nL := nL) (As := As) (rest := rest) ⟨h1, h2, h3, h4, h5⟩ hM ⟨cw, hnm, h5 _ (hlk.1 _ (by simp))⟩ ⟨MGp.blind, fun U hU hW => ⟨rfl, by rw [hU]; exact hP, by rw [hU]; exact Nat.le_trans h7 hS.1, va_K.moved hW.alike h6, h8.2 _ U hW h8.1, h8.2⟩⟩ rfl rfl (by rw [← h3]; exact hL.1) rfl (lv_room hcat) hd hcs) hS hL kk
theorem g_callIN {pc idx b : Nat} {host : String} {M : Md} {As rest : List Value} {Post : Option Value → Hp → Prop} (hx : Ok X l g own cc nL R) (hM : MG l g M (.ref b :: As) σ Post) (hlk : LkN own host idx M) (hrt : M.rt = none) (hnm : M.y.name = "<init>") (har : Arity M As.length) (hst : st = As.reverse ++ .ref b :: rest) (hcat : (rest.map fun v => v.category).sum ≤ 8) (hroom : M.rm.frames + 1 ≤ R.frames ∧ 8 + (M.nL + 11) + M.rm.locals ≤ R.locals) (hcs : k + M.rm.cells ≤ R.cells ∧ n + M.rm.slots ≤ R.slots) (hd : decode cc pc = .ok (.invokespecial idx, 3)) (kk : ∀ v σ', Post v σ' → G X σ' (k + M.rm.cells) (n + M.rm.slots) (pc + 3) ls (v.toList ++ rest)) : G X σ k n pc ls st := by
  obtain ⟨p, l', e, R', s, m, args, below, meth, c, Q, g'⟩ := X
  obtain ⟨h1, h2, h3, h4, h5, h6, h7, h8, rfl, rfl, rfl⟩ := hx
  intro H locs la hP hS hL
  subst hst
  have cw : va_CN R' s args own idx M.y host M.b M.nL none (.code M.y M.b M.nL M.rt :: aw) M.rm M.rm.cells M.rm.slots As.length :=
    va_cnB (ws' := aw) As.length h5 (good_ws hlk) (by rw [hrt]) rfl rfl (va_Nw.of rfl (h5 _ (hlk.1 _ (by simp)))) (h5 _ hlk.2.2) har hroom
  exact g_run (va_runIN (nL := nL) (As := As) (rest := rest) ⟨h1, h2, h3, h4, h5⟩ hM ⟨cw, hnm, h5 _ (hlk.1 _ (by simp))⟩ ⟨MGp.blind, fun U hU hW => ⟨rfl, by rw [hU]; exact hP, by rw [hU]; exact Nat.le_trans h7 hS.1, va_K.moved hW.alike h6, h8.2 _ U hW h8.1, h8.2⟩⟩ rfl rfl (by rw [← h3]; exact hL.1) rfl (lv_room hcat) hd hcs) hS hL kk
theorem g_callS {pc idx : Nat} {M : Md} {As rest : List Value} {Post : Option Value → Hp → Prop} (hx : Ok X l g own cc nL R) (hM : MG l g M As σ Post) (hlk : LkS own idx M) (har : Arity M As.length) (hst : st = As.reverse ++ rest) (hcat : (rest.map fun v => v.category).sum ≤ 8) (hroom : M.rm.frames + 1 ≤ R.frames ∧ 8 + (M.nL + 11) + M.rm.locals ≤ R.locals) (hcs : k + M.rm.cells ≤ R.cells ∧ n + M.rm.slots ≤ R.slots) (hd : decode cc pc = .ok (.invokestatic idx, 3)) (kk : ∀ v σ', Post v σ' → G X σ' (k + M.rm.cells) (n + M.rm.slots) (pc + 3) ls (v.toList ++ rest)) : G X σ k n pc ls st := by
  obtain ⟨p, l', e, R', s, m, args, below, meth, c, Q, g'⟩ := X
  obtain ⟨h1, h2, h3, h4, h5, h6, h7, h8, rfl, rfl, rfl⟩ := hx
  intro H locs la hP hS hL
  subst hst
  have cw : CallB R' s args own idx M.y M.b M.nL M.rt (.code M.y M.b M.nL M.rt :: aw) M.rm M.rm.cells M.rm.slots As.length :=
    callB_of (ws' := aw) As.length h5 (good_ws hlk) rfl rfl rfl (h5 _ hlk.2.2) (h5 _ (hlk.1 _ (by simp))) har hroom
  exact g_run (va_runS (nL := nL) (As := As) (rest := rest) ⟨h1, h2, h3, h4, h5⟩ hM ⟨cw, h5 _ (hlk.1 _ (by simp))⟩ ⟨MGp.blind, fun U hU hW => ⟨rfl, by rw [hU]; exact hP, by rw [hU]; exact Nat.le_trans h7 hS.1, va_K.moved hW.alike h6, h8.2 _ U hW h8.1, h8.2⟩⟩ rfl rfl (by rw [← h3]; exact hL.1) rfl (lv_room hcat) hd hcs) hS hL kk
theorem lk_of {M : Md} {ws : List Cond} (h : (Cond.code M.y M.b M.nL M.rt :: Cond.initialized M.y.cls :: ws).all (fun w => decide (w ∈ lw_tbl) && goodWord w) = true) : Lk M ws :=
  ⟨fun w hw => aw_of h w (List.mem_cons_of_mem _ (List.mem_cons_of_mem _ hw)), aw_of h _ List.mem_cons_self, aw_of h _ (List.mem_cons_of_mem _ List.mem_cons_self)⟩
theorem aw1 {w : Cond} (h : (decide (w ∈ lw_tbl) && goodWord w) = true) : w ∈ aw := aw_of (ws := [w]) (by rw [List.all_cons, h]; rfl) w List.mem_cons_self
/-- calls of methods that make nothing, the answer known -/
theorem g_callVr {pc idx b ci : Nat} {M : Md} {As rest : List Value} {fs : List Value} {T : u_T} {N : Nat} {v : Value} {σ' : Hp} (hx : Ok X l g own cc nL R) (hM : MG l g M (.ref b :: As) σ (rs (some v) σ')) (hlk : LkV own idx M) (har : Arity M As.length) (hk : σ.2 b = some (eO ci fs)) (hc : vwCl[ci]? = some (M.y.cls, T, N)) (hst : st = As.reverse ++ .ref b :: rest) (hcat : (rest.map fun v => v.category).sum ≤ 8) (hroom : M.rm.frames + 1 ≤ R.frames ∧ 8 + (M.nL + 11) + M.rm.locals ≤ R.locals) (hcs : k + M.rm.cells = k ∧ n + M.rm.slots = n) (hcr : k ≤ R.cells ∧ n ≤ R.slots) (hd : decode cc pc = .ok (.invokevirtual idx, 3)) (h : G X σ' k n (pc + 3) ls (v :: rest)) : G X σ k n pc ls st :=
  g_callV hx hM hlk har hk hc hst hcat hroom (by rw [hcs.1, hcs.2]; exact hcr) hd (fun v' σ'' hp => by
    obtain ⟨rfl, rfl⟩ := hp
    rw [hcs.1, hcs.2]
    exact h)
theorem g_callVv {pc idx b ci : Nat} {M : Md} {As rest : List Value} {fs : List Value} {T : u_T} {N : Nat} {σ' : Hp} (hx : Ok X l g own cc nL R) (hM : MG l g M (.ref b :: As) σ (rs none σ')) (hlk : LkV own idx M) (har : Arity M As.length) (hk : σ.2 b = some (eO ci fs)) (hc : vwCl[ci]? = some (M.y.cls, T, N)) (hst : st = As.reverse ++ .ref b :: rest) (hcat : (rest.map fun v => v.category).sum ≤ 8) (hroom : M.rm.frames + 1 ≤ R.frames ∧ 8 + (M.nL + 11) + M.rm.locals ≤ R.locals) (hcs : k + M.rm.cells = k ∧ n + M.rm.slots = n) (hcr : k ≤ R.cells ∧ n ≤ R.slots) (hd : decode cc pc = .ok (.invokevirtual idx, 3)) (h : G X σ' k n (pc + 3) ls rest) : G X σ k n pc ls st :=
  g_callV hx hM hlk har hk hc hst hcat hroom (by rw [hcs.1, hcs.2]; exact hcr) hd (fun v' σ'' hp => by
    obtain ⟨rfl, rfl⟩ := hp
    rw [hcs.1, hcs.2]
    exact h)
theorem g_callSr {pc idx : Nat} {M : Md} {As rest : List Value} {v : Value} {σ' : Hp} (hx : Ok X l g own cc nL R) (hM : MG l g M As σ (rs (some v) σ')) (hlk : LkS own idx M) (har : Arity M As.length) (hst : st = As.reverse ++ rest) (hcat : (rest.map fun v => v.category).sum ≤ 8) (hroom : M.rm.frames + 1 ≤ R.frames ∧ 8 + (M.nL + 11) + M.rm.locals ≤ R.locals) (hcs : k + M.rm.cells = k ∧ n + M.rm.slots = n) (hcr : k ≤ R.cells ∧ n ≤ R.slots) (hd : decode cc pc = .ok (.invokestatic idx, 3)) (h : G X σ' k n (pc + 3) ls (v :: rest)) : G X σ k n pc ls st :=
  g_callS hx hM hlk har hst hcat hroom (by rw [hcs.1, hcs.2]; exact hcr) hd (fun v' σ'' hp => by
    obtain ⟨rfl, rfl⟩ := hp
    rw [hcs.1, hcs.2]
    exact h)
theorem g_callSv {pc idx : Nat} {M : Md} {As rest : List Value} {σ' : Hp} (hx : Ok X l g own cc nL R) (hM : MG l g M As σ (rs none σ')) (hlk : LkS own idx M) (har : Arity M As.length) (hst : st = As.reverse ++ rest) (hcat : (rest.map fun v => v.category).sum ≤ 8) (hroom : M.rm.frames + 1 ≤ R.frames ∧ 8 + (M.nL + 11) + M.rm.locals ≤ R.locals) (hcs : k + M.rm.cells = k ∧ n + M.rm.slots = n) (hcr : k ≤ R.cells ∧ n ≤ R.slots) (hd : decode cc pc = .ok (.invokestatic idx, 3)) (h : G X σ' k n (pc + 3) ls rest) : G X σ k n pc ls st :=
  g_callS hx hM hlk har hst hcat hroom (by rw [hcs.1, hcs.2]; exact hcr) hd (fun v' σ'' hp => by
    obtain ⟨rfl, rfl⟩ := hp
    rw [hcs.1, hcs.2]
    exact h)
theorem g_nmi {pc : Nat} {x e : Int32} (ex : x = e) (h : G X σ k n pc ls (.int x :: st)) : G X σ k n pc ls (.int e :: st) := ex ▸ h
theorem g_ls {pc : Nat} (ks : List Nat) (ls' : List (Nat × Value)) (hl : lv_pick ls ks = ls') (h : G X σ k n pc ls' st) : G X σ k n pc ls st := by
  obtain ⟨p, l', e, R', s, m, args, below, meth, c, Q, g'⟩ := X
  intro H locs la hP hS hL
  exact h H locs la hP hS (lv_sub hL ks hl)
theorem g_mmin (hx : Ok X l g own cc nL R) (pc : Nat) {x y : Int32} {idx : Nat} (hw : ∀ w ∈ [Cond.methodLink own idx Lib.Math.min.name, Cond.static Lib.Math.min.name, Cond.initialized "java/lang/Math", Cond.code Lib.Math.min.name Lib.Math.min.code 2 (some .int)], w ∈ aw) (hcat : (st.map fun v => v.category).sum ≤ 8) (hroom : 1 ≤ R.frames ∧ 21 ≤ R.locals) (hcr : k ≤ R.cells ∧ n ≤ R.slots) (hd : decode cc pc = .ok (.invokestatic idx, 3)) (h : G X σ k n (pc + 3) ls (.int (if y < x then y else x) :: st)) : G X σ k n pc ls (.int y :: .int x :: st) := by
  obtain ⟨p, l', e, R', s, m, args, below, meth, c, Q, g'⟩ := X
  obtain ⟨h1, h2, h3, h4, h5, h6, h7, h8, rfl, rfl, rfl⟩ := hx
  intro H locs la hP hS hL
  exact va_mmin h1 h2 hL.1.symm h4 (h5 _ (hw _ (by simp))) (h5 _ (hw _ (by simp))) (h5 _ (hw _ (by simp))) (h5 _ (hw _ (by simp))) hroom.1 (by have := hroom.2; omega) hcr.1 hcr.2 hd (h H locs la hP hS hL)
theorem g_mmax (hx : Ok X l g own cc nL R) (pc : Nat) {x y : Int32} {idx : Nat} (hw : ∀ w ∈ [Cond.methodLink own idx Lib.Math.max.name, Cond.static Lib.Math.max.name, Cond.initialized "java/lang/Math", Cond.code Lib.Math.max.name Lib.Math.max.code 2 (some .int)], w ∈ aw) (hcat : (st.map fun v => v.category).sum ≤ 8) (hroom : 1 ≤ R.frames ∧ 21 ≤ R.locals) (hcr : k ≤ R.cells ∧ n ≤ R.slots) (hd : decode cc pc = .ok (.invokestatic idx, 3)) (h : G X σ k n (pc + 3) ls (.int (if x < y then y else x) :: st)) : G X σ k n pc ls (.int y :: .int x :: st) := by
  obtain ⟨p, l', e, R', s, m, args, below, meth, c, Q, g'⟩ := X
  obtain ⟨h1, h2, h3, h4, h5, h6, h7, h8, rfl, rfl, rfl⟩ := hx
  intro H locs la hP hS hL
  exact va_mmax h1 h2 hL.1.symm h4 (h5 _ (hw _ (by simp))) (h5 _ (hw _ (by simp))) (h5 _ (hw _ (by simp))) (h5 _ (hw _ (by simp))) hroom.1 (by have := hroom.2; omega) hcr.1 hcr.2 hd (h H locs la hP hS hL)
theorem g_mabs (hx : Ok X l g own cc nL R) (pc : Nat) {x : Int32} {idx : Nat} (hw : ∀ w ∈ [Cond.methodLink own idx Lib.Math.abs.name, Cond.static Lib.Math.abs.name, Cond.initialized "java/lang/Math", Cond.code Lib.Math.abs.name Lib.Math.abs.code 1 (some .int)], w ∈ aw) (hcat : (st.map fun v => v.category).sum ≤ 8) (hroom : 1 ≤ R.frames ∧ 21 ≤ R.locals) (hcr : k ≤ R.cells ∧ n ≤ R.slots) (hd : decode cc pc = .ok (.invokestatic idx, 3)) (h : G X σ k n (pc + 3) ls (.int (if 0 ≤ x then x else 0 - x) :: st)) : G X σ k n pc ls (.int x :: st) := by
  obtain ⟨p, l', e, R', s, m, args, below, meth, c, Q, g'⟩ := X
  obtain ⟨h1, h2, h3, h4, h5, h6, h7, h8, rfl, rfl, rfl⟩ := hx
  intro H locs la hP hS hL
  exact va_mabs h1 h2 hL.1.symm h4 (h5 _ (hw _ (by simp))) (h5 _ (hw _ (by simp))) (h5 _ (hw _ (by simp))) (h5 _ (hw _ (by simp))) hroom.1 (by have := hroom.2; omega) hcr.1 hcr.2 hd (h H locs la hP hS hL)
theorem g_objInit (hx : Ok X l g own cc nL R) (pc : Nat) {b idx : Nat} (hlk : Cond.methodLink own idx objectInit ∈ aw) (hw : Cond.instanceMethod objectInit ∈ aw ∧ Cond.code objectInit ⟨#[0xb1]⟩ 1 none ∈ aw) (hcat : (st.map fun v => v.category).sum ≤ 8) (hroom : 1 ≤ R.frames ∧ 20 ≤ R.locals) (hd : decode cc pc = .ok (.invokespecial idx, 3)) (h : G X σ k n (pc + 3) ls st) : G X σ k n pc ls (.ref b :: st) := by
  obtain ⟨p, l', e, R', s, m, args, below, meth, c, Q, g'⟩ := X
  obtain ⟨h1, h2, h3, h4, h5, h6, h7, h8, rfl, rfl, rfl⟩ := hx
  intro H locs la hP hS hL
  refine W.objInit h1 h2 h4 (h5 _ hlk) (h5 _ hw.1) (h5 _ hw.2) rfl hL.1 rfl hd hroom.1 ?_ (h H locs la hP hS hL)
  have := hroom.2
  show 2 * 0 + _ + 12 ≤ _
  omega
theorem g_iret {Post : Option Value → Hp → Prop} (hx : Ok X l g own cc nL R) (hr : Ret X Post k n (some .int)) (pc : Nat) {v : Int32} (hd : decode cc pc = .ok (.ireturn, 1)) (hp : Post (some (.int v)) σ) : G X σ k n pc ls [.int v] := by
  obtain ⟨p, l', e, R', s, m, args, below, meth, c, Q, g'⟩ := X
  obtain ⟨h1, h2, h3, h4, h5, h6, h7, h8, rfl, rfl, rfl⟩ := hx
  intro H locs la hP hS hL
  obtain ⟨rfl, r2, r3⟩ := hr
  exact W.iret h1 h2 r2 (fun t ht hW => ⟨_, σ, rfl, hp, by rw [ht]; exact hP, by rw [ht]; exact hS.1, fun q q1 q2 => by rw [ht]; exact hS.2.1 q q1 q2⟩) hS.2.2 hd r3
theorem g_zret {Post : Option Value → Hp → Prop} (hx : Ok X l g own cc nL R) (hr : Ret X Post k n (some .boolean)) (pc : Nat) {v : Int32} (hb : v = 0 ∨ v = 1) (hd : decode cc pc = .ok (.ireturn, 1)) (hp : Post (some (.int v)) σ) : G X σ k n pc ls [.int v] := by
  obtain ⟨p, l', e, R', s, m, args, below, meth, c, Q, g'⟩ := X
  obtain ⟨h1, h2, h3, h4, h5, h6, h7, h8, rfl, rfl, rfl⟩ := hx
  intro H locs la hP hS hL
  obtain ⟨rfl, r2, r3⟩ := hr
  exact W.zret h1 h2 r2 (by rcases hb with rfl | rfl <;> rfl) (fun t ht hW => ⟨_, σ, rfl, hp, by rw [ht]; exact hP, by rw [ht]; exact hS.1, fun q q1 q2 => by rw [ht]; exact hS.2.1 q q1 q2⟩) hS.2.2 hd r3
theorem g_vret {Post : Option Value → Hp → Prop} (hx : Ok X l g own cc nL R) (hr : Ret X Post k n none) (pc : Nat) (hd : decode cc pc = .ok (.return_, 1)) (hp : Post none σ) : G X σ k n pc ls [] := by
  obtain ⟨p, l', e, R', s, m, args, below, meth, c, Q, g'⟩ := X
  obtain ⟨h1, h2, h3, h4, h5, h6, h7, h8, rfl, rfl, rfl⟩ := hx
  intro H locs la hP hS hL
  obtain ⟨rfl, r2, r3⟩ := hr
  exact W.vret h1 h2 r2 (fun t ht hW => ⟨_, σ, rfl, hp, by rw [ht]; exact hP, by rw [ht]; exact hS.1, fun q q1 q2 => by rw [ht]; exact hS.2.1 q q1 q2⟩) hS.2.2 hd r3
theorem g_aret {Post : Option Value → Hp → Prop} {C : String} (hx : Ok X l g own cc nL R) (hr : Ret X Post k n (some (.object C))) (pc : Nat) {v : Value} (hv : v = .null ∨ ∃ a, v = .ref a) (hd : decode cc pc = .ok (.areturn, 1)) (hp : Post (some v) σ) : G X σ k n pc ls [v] := by
  obtain ⟨p, l', e, R', s, m, args, below, meth, c, Q, g'⟩ := X
  obtain ⟨h1, h2, h3, h4, h5, h6, h7, h8, rfl, rfl, rfl⟩ := hx
  intro H locs la hP hS hL
  obtain ⟨rfl, r2, r3⟩ := hr
  exact W.aret h1 h2 r2 (Or.inl ⟨C, rfl⟩) hv (fun t ht hW => ⟨_, σ, rfl, hp, by rw [ht]; exact hP, by rw [ht]; exact hS.1, fun q q1 q2 => by rw [ht]; exact hS.2.1 q q1 q2⟩) hS.2.2 hd r3
end GC
/-- a contract out of a walk -/
theorem MG.intro {l : Launch} {g : Gl} {M : Md} {av : List Value} {σ : Hp} {Post : Option Value → Hp → Prop} (hy : plainName M.y.cls = true) (hn : (lg_sl av).length ≤ M.nL)
    (body : ∀ X : Cx, Ok X l g M.y.cls M.b M.nL M.rm → Ret X Post M.rm.cells M.rm.slots M.rt → X.2.2.2.2.2.2.2.2.1.name = M.y.name → G X σ 0 0 0 (lv_args 0 av) []) : MG l g M av σ Post := by
  refine Met.ofW (cc := M.b) (maxL := M.nL) (ret := M.rt) hy rfl ?_
  intro p e s m args below meth c s₁ B hml hv
  obtain ⟨rfl, hP, hz, hK, hKa, hKb⟩ := hv
  have hts := atoms_spec (ws := .code M.y M.b M.nL M.rt :: aw) B.pre
  have hown : s.vm.findClass M.y.cls = some m.cls := findClass_of_methodNamed B.named
  have h := body (p, l, e, M.rm, s, m, av.toArray, below, meth, c, MQ below (MGq g Post) av.toArray s M.rm.cells M.rm.slots (fun q => g.1.size ≤ q), g)
    ⟨B.exec, B.bytes, hml, hown, fun w hw => hts w (List.mem_cons_of_mem _ hw), hK, hz, ⟨hKa, hKb⟩, rfl, rfl, rfl⟩ ⟨rfl, B.returns, B.notSynchronized⟩ (name_of_methodNamed B.named B.method).1
  have hl := lv_entry av (n := M.nL) hn
  rw [lg_entry_eq]
  exact h s.heap [] _ hP va_S.rf (by rw [hml]; exact hl)
/-- a name for a value in a written-out method -/
def lt' {α β : Type} (a : α) (f : α → β) : β := f a
theorem lt'_e {α β : Type} {a : α} {f : α → β} {r : β} (h : lt' a f = r) : ∃ x, x = a ∧ f x = r := ⟨a, rfl, h⟩
/-- the rounds that a loop is given -/
def FU : Nat := 1000
theorem sw_out {x : Int32} {lo hi : Int} (h : ∀ c : Int, lo ≤ c → c ≤ hi → ¬ x.toInt = c) : x.toInt < lo ∨ hi < x.toInt := by
  by_cases h1 : x.toInt < lo
  · exact Or.inl h1
  · by_cases h2 : hi < x.toInt
    · exact Or.inr h2
    · exact absurd rfl (h x.toInt (by omega) (by omega))
