/-! the law: longs, the script, methods that catch -/
section GL
variable {X : Cx} {l : Launch} {g : Gl} {own : String} {cc : ByteArray} {nL : Nat} {R : Room} {σ : Hp} {k n : Nat} {ls : List (Nat × Value)} {st : List Value}
theorem g_lald (hx : Ok X l g own cc nL R) (pc : Nat) {b N : Nat} {f : Nat → Int64} {i : Int32} (hk : σ.2 b = some (eJ N f)) (hin : vp_in i N) (hd : decode cc pc = .ok (.laload, 1)) (h : G X σ k n (pc + 1) ls (.long (f i.toNatClampNeg) :: st)) : G X σ k n pc ls (.int i :: .ref b :: st) := by
  obtain ⟨p, l', e, R', s, m, args, below, meth, c, Q, g'⟩ := X
  obtain ⟨h1, h2, h3, h4, h5, h6, h7, h8, rfl, rfl, rfl⟩ := hx
  intro H locs la hP hS hL
  exact va_lald h1 h2 h6 (hP.one hk) 0 3 rfl rfl hin hd (h H locs la hP hS hL)
theorem g_last (hx : Ok X l g own cc nL R) (pc : Nat) {b N : Nat} {f : Nat → Int64} {i : Int32} {x : Int64} (hk : σ.2 b = some (eJ N f)) (hin : vp_in i N) (hd : decode cc pc = .ok (.lastore, 1)) (h : G X (hset σ b (eJ N (vp_updL f i.toNatClampNeg x))) k n (pc + 1) ls st) : G X σ k n pc ls (.long x :: .int i :: .ref b :: st) := by
  obtain ⟨p, l', e, R', s, m, args, below, meth, c, Q, g'⟩ := X
  obtain ⟨h1, h2, h3, h4, h5, h6, h7, h8, rfl, rfl, rfl⟩ := hx
  intro H locs la hP hS hL
  have hPb := hP.2 b _ hk
  refine W.last h1 h2 (hP.one hk 0 _ rfl) ((h6.2 3 _ rfl).1 N (fun j => .long (f j))) (fun q => by cases q) (by show ¬ (i < 0 ∨ (arrV _ _ _).slots.size ≤ _); rw [arrV_size]; exact hin) rfl rfl hd fun H1 e z oq => ?_
  refine h H1 _ la (hP.set hk ?_ z oq) (hS.put z oq hPb.1) hL
  show H1[b]? = some (vp_cell _ _)
  rw [e]
  rw [vp_cell_l, vp_cell_l, arrV_store]
  congr 2
  funext q
  by_cases hq : q = i.toNatClampNeg
  · subst hq
    simp [updV, vp_updL]
  · simp [updV, vp_updL, hq]
theorem g_newJ (hx : Ok X l g own cc nL R) (pc : Nat) {x : Int32} (N : Nat) (hw : Cond.arrayClass .long ∈ aw) (h0 : ¬ x < 0) (hN : x.toNatClampNeg = N) (hb : N * componentBytes .long ≤ 536870912) (hroom : k + 1 ≤ R.cells ∧ n + N ≤ R.slots) (hd : decode cc pc = .ok (.newarray .long, 2)) (h : G X (hpush σ (eJ N (fun _ => 0))) (k + 1) (n + N) (pc + 2) ls (.ref σ.1 :: st)) : G X σ k n pc ls (.int x :: st) := by
  obtain ⟨p, l', e, R', s, m, args, below, meth, c, Q, g'⟩ := X
  obtain ⟨h1, h2, h3, h4, h5, h6, h7, h8, rfl, rfl, rfl⟩ := hx
  intro H locs la hP hS hL
  refine va_newaK (atype := .long) h1 h2 (h5 _ hw) rfl hd rfl h0 hN hb hroom.1 hroom.2 hP.1.1 fun H1 cA e1 z1 o1 hAr hNm => ?_
  rw [← hP.1.1] at z1 o1
  have hcA : cA = g'.2.2.1 3 := Option.some.inj (hNm.symm.trans (h6.2 3 _ rfl).2)
  subst hcA
  exact h H1 locs la (hP.push (Nat.le_trans h7 hS.1) (show H1[σ.1]? = some (vp_cell _ _) from e1) z1 o1) ⟨Nat.le_trans hS.1 (by omega), fun x g1 g2 => (o1 x (Nat.lt_of_lt_of_le g1 hS.1)).trans (hS.2.1 x g1 g2), hS.2.2⟩ hL
theorem g_lcmp (hx : Ok X l g own cc nL R) (pc : Nat) {x y : Int64} (hd : decode cc pc = .ok (.lcmp, 1)) (h : G X σ k n (pc + 1) ls (.int (lg_cmp x y) :: st)) : G X σ k n pc ls (.long y :: .long x :: st) := by
  obtain ⟨p, l', e, R', s, m, args, below, meth, c, Q, g'⟩ := X
  obtain ⟨h1, h2, h3, h4, h5, h6, h7, h8, rfl, rfl, rfl⟩ := hx
  intro H locs la hP hS hL
  exact W.lcmp h1 h2 hd (h H locs la hP hS hL)
theorem g_dcmp (hx : Ok X l g own cc nL R) (pc : Nat) {x y : UInt64} {op : CmpOp} (hd : decode cc pc = .ok (.dcmp op, 1)) (h : G X σ k n (pc + 1) ls (.int (Op.cmpValue (FP.dcmp x y) op) :: st)) : G X σ k n pc ls (.double y :: .double x :: st) := by
  obtain ⟨p, l', e, R', s, m, args, below, meth, c, Q, g'⟩ := X
  obtain ⟨h1, h2, h3, h4, h5, h6, h7, h8, rfl, rfl, rfl⟩ := hx
  intro H locs la hP hS hL
  exact lv_dcmp h1 h2 hd (h H locs la hP hS hL)
/-- the script, a row below the world -/
def Scr (g : Gl) (b L : Nat) (xs : Nat → Int32) : Prop := b < g.1.size ∧ ∀ U, g.2.2.2 U → va_X b L xs U g.1
theorem g_sld (hx : Ok X l g own cc nL R) (pc : Nat) {b L : Nat} {xs : Nat → Int32} {i : Int32} (hs : Scr g b L xs) (hin : vp_in i L) (hd : decode cc pc = .ok (.iaload, 1)) (h : G X σ k n (pc + 1) ls (.int (xs i.toNatClampNeg) :: st)) : G X σ k n pc ls (.int i :: .ref b :: st) := by
  obtain ⟨p, l', e, R', s, m, args, below, meth, c, Q, g'⟩ := X
  obtain ⟨h1, h2, h3, h4, h5, h6, h7, h8, rfl, rfl, rfl⟩ := hx
  intro H locs la hP hS hL
  have hX := (hs.2 s h8.1).kept ((hS.2.1 b (Nat.lt_of_lt_of_le hs.1 h7) (Nat.not_le.mpr hs.1)).symm.trans (hP.1.2 b hs.1))
  exact va_sld h1 h2 hX (Nat.lt_of_lt_of_le hs.1 h7) (Nat.not_le.mpr hs.1) hS hin hd (h H locs la hP hS hL)
theorem g_slen (hx : Ok X l g own cc nL R) (pc : Nat) {b L : Nat} {xs : Nat → Int32} (hs : Scr g b L xs) (hd : decode cc pc = .ok (.arraylength, 1)) (h : G X σ k n (pc + 1) ls (.int (nI L) :: st)) : G X σ k n pc ls (.ref b :: st) := by
  obtain ⟨p, l', e, R', s, m, args, below, meth, c, Q, g'⟩ := X
  obtain ⟨h1, h2, h3, h4, h5, h6, h7, h8, rfl, rfl, rfl⟩ := hx
  intro H locs la hP hS hL
  have hX := (hs.2 s h8.1).kept ((hS.2.1 b (Nat.lt_of_lt_of_le hs.1 h7) (Nat.not_le.mpr hs.1)).symm.trans (hP.1.2 b hs.1))
  exact va_slen h1 h2 hX (Nat.lt_of_lt_of_le hs.1 h7) (Nat.not_le.mpr hs.1) hS hd (h H locs la hP hS hL)
end GL
def NoX : String → State → State → Prop := fun _ _ _ => False
/-- the contract of a method with handlers -/
def MW (l : Launch) (g : Gl) (M : Md) (hh : List (Nat × Nat × Nat × Nat)) (av : List Value) (σ : Hp) (Post : Option Value → Hp → Prop) : Prop :=
  vx_Met l M.y (.codeWith M.y M.b M.nL M.rt hh :: aw) M.rm (MGp g av σ) (MGq g Post) NoX M.rm.cells M.rm.slots (fun q => g.1.size ≤ q)
def RetW (X : Cx) (hh : List (Nat × Nat × Nat × Nat)) (Post : Option Value → Hp → Prop) (mc ms : Nat) (rt : Option FieldType) : Prop := match X with
  | (_, _, _, _, s, _, args, below, meth, c, Q, g) => Q = vx_MQ below (MGq g Post) NoX args s mc ms (fun q => g.1.size ≤ q) ∧ meth.sig.returnType = rt ∧ meth.locks = false ∧ c.exceptionTable.toList = tableOf hh
theorem MW.intro {l : Launch} {g : Gl} {M : Md} {hh : List (Nat × Nat × Nat × Nat)} {av : List Value} {σ : Hp} {Post : Option Value → Hp → Prop} (hy : plainName M.y.cls = true) (hn : (lg_sl av).length ≤ M.nL)
    (body : ∀ X : Cx, Ok X l g M.y.cls M.b M.nL M.rm → RetW X hh Post M.rm.cells M.rm.slots M.rt → G X σ 0 0 0 (lv_args 0 av) []) : MW l g M hh av σ Post := by
  refine vx_ofWH (cc := M.b) (maxL := M.nL) (ret := M.rt) (hh := hh) hy rfl ?_
  intro p e s m args below meth c s₁ B hml hv
  obtain ⟨rfl, hP, hz, hK, hKa, hKb⟩ := hv
  have hts := atoms_spec (ws := .codeWith M.y M.b M.nL M.rt hh :: aw) B.pre
  have hown : s.vm.findClass M.y.cls = some m.cls := findClass_of_methodNamed B.named
  have h := body (p, l, e, M.rm, s, m, av.toArray, below, meth, c, vx_MQ below (MGq g Post) NoX av.toArray s M.rm.cells M.rm.slots (fun q => g.1.size ≤ q), g)
    ⟨B.exec, B.bytes, hml, hown, fun w hw => hts w (List.mem_cons_of_mem _ hw), hK, hz, ⟨hKa, hKb⟩, rfl, rfl, rfl⟩ ⟨rfl, B.returns, B.notSynchronized, vx_table (x := M.y) B (hts _ List.mem_cons_self)⟩
  have hl := lv_entry av (n := M.nL) hn
  rw [lg_entry_eq]
  exact h s.heap [] _ hP va_S.rf (by rw [hml]; exact hl)
section GW
variable {X : Cx} {l : Launch} {g : Gl} {own : String} {cc : ByteArray} {nL : Nat} {R : Room} {σ : Hp} {k n : Nat} {ls : List (Nat × Value)} {st : List Value} {hh : List (Nat × Nat × Nat × Nat)} {PostW : Option Value → Hp → Prop} {mc ms : Nat}
theorem g_iretW (hx : Ok X l g own cc nL R) (hr : RetW X hh PostW mc ms (some .int)) (pc : Nat) {v : Int32} (hd : decode cc pc = .ok (.ireturn, 1)) (hcs : k ≤ mc ∧ n ≤ ms) (hp : PostW (some (.int v)) σ) : G X σ k n pc ls [.int v] := by
  obtain ⟨p, l', e, R', s, m, args, below, meth, c, Q, g'⟩ := X
  obtain ⟨h1, h2, h3, h4, h5, h6, h7, h8, rfl, rfl, rfl⟩ := hx
  intro H locs la hP hS hL
  obtain ⟨rfl, r2, r3, r4⟩ := hr
  refine W.widen hcs.1 hcs.2 (vx_ret ?_)
  exact W.iret h1 h2 r2 (fun t ht hW => ⟨_, σ, rfl, hp, by rw [ht]; exact hP, by rw [ht]; exact hS.1, fun q q1 q2 => by rw [ht]; exact hS.2.1 q q1 q2⟩) hS.2.2 hd r3
/-- where an exception of this class goes on -/
def Goes1 (g : Gl) (own : String) (hh : List (Nat × Nat × Nat × Nat)) (pc : Nat) (E : String) (hpc : Nat) : Prop := ∃ (pre : List (Nat × Nat × Nat × Nat)) (x : Nat × Nat × Nat × Nat) (suf : List (Nat × Nat × Nat × Nat)) (name : String), hh = pre ++ x :: suf ∧
  (∀ z ∈ pre, z.2.2.2 ≠ 0 ∧ ∃ nm : String, Cond.classLink own z.2.2.2 nm ∈ aw ∧ ∀ U, g.2.2.2 U → va_Nc E nm U) ∧ covers ⟨x.1, x.2.1, x.2.2.1, x.2.2.2⟩ pc = true ∧ x.2.2.2 ≠ 0 ∧ Cond.classLink own x.2.2.2 name ∈ aw ∧ (∀ U, g.2.2.2 U → (Cond.castable E name).before #[] U = true) ∧ x.2.2.1 = hpc
theorem g_callT {pc idx b ci : Nat} {M : Md} {As rest : List Value} {fs : List Value} {T : u_T} {N : Nat} {Post : Option Value → Hp → Prop} {PX : String → Hp → Prop} {rt : Option FieldType} (hx : Ok X l g own cc nL R) (hT : RetW X hh PostW mc ms rt) (hM : VG l g M (.ref b :: As) σ Post PX) (hlk : LkV own idx M) (har : Arity M As.length) (hk : σ.2 b = some (eO ci fs)) (hc : vwCl[ci]? = some (M.y.cls, T, N)) (hst : st = As.reverse ++ .ref b :: rest) (hcat : (rest.map fun v => v.category).sum ≤ 8) (hroom : M.rm.frames + 1 ≤ R.frames ∧ 8 + (M.nL + 11) + M.rm.locals ≤ R.locals) (hcs : k + M.rm.cells ≤ R.cells ∧ n + M.rm.slots ≤ R.slots) (hd : decode cc pc = .ok (.invokevirtual idx, 3))
    (kk : ∀ v σ', Post v σ' → G X σ' (k + M.rm.cells) (n + M.rm.slots) (pc + 3) ls (v.toList ++ rest))
    (kx : ∀ E σ', PX E σ' → ∃ hpc, Goes1 g own hh pc E hpc ∧ ∀ q, G X σ' (k + M.rm.cells) (n + M.rm.slots) hpc ls [.ref q]) : G X σ k n pc ls st := by
  obtain ⟨p, l', e, R', s, m, args, below, meth, c, Q, g'⟩ := X
  obtain ⟨h1, h2, h3, h4, h5, h6, h7, h8, rfl, rfl, rfl⟩ := hx
  intro H locs la hP hS hL
  subst hst
  have cw : CallW R' s args own M.y.cls idx M.y M.b M.nL M.rt (.code M.y M.b M.nL M.rt :: aw) M.rm M.rm.cells M.rm.slots As.length :=
    ⟨callB_of As.length h5 (good_ws hlk) rfl rfl rfl (h5 _ hlk.2.2) (h5 _ (hlk.1 _ (by simp))) har hroom, h5 _ (hlk.1 _ (by simp)), h5 _ (hlk.1 _ (by simp))⟩
  have hrec : ∃ cell : Cell, H[b]? = some cell ∧ cell.vm.isStatics = false ∧ s.vm.findClass M.y.cls = some cell.cls := by
    obtain ⟨cell, g1, g2, g3⟩ := va_recv (q0 := 0) (fs := fs) h6 (hP.one hk) hc rfl
    exact ⟨cell, g1, g2, g3⟩
  have hr := vx_runV (g := F0 m pc la (As.reverse ++ .ref b :: rest)) (nL := nL) (As := As) (rest := rest) (cells := k) (slots := n) (locs := locs) (l := l') (p := p) (e := e) (below := below) (meth := meth) (H := H) ⟨h1, h2, h3, h4, h5⟩ hM cw ⟨MGp.blind, hrec, fun U hU hW => ⟨rfl, by rw [hU]; exact hP, by rw [hU]; exact Nat.le_trans h7 hS.1, va_K.moved hW.alike h6, h8.2 _ U hW h8.1, h8.2⟩⟩ rfl rfl (by rw [← h3]; exact hL.1) rfl (lv_room hcat) hd hcs
  intro T0 hT0 Y
  rcases hr T0 hT0 Y with ⟨v, st₀, t, T', L, e0, Y', hL', e1, e2, ⟨v', σ', hv, hp, hP', hz, hkk⟩, go⟩ | ⟨q, st₀, t, T', L, E, ce, e0, Y', hL', e1, e2, ⟨σ', hpx, hP', hz, hkk⟩, hce, hcv, hcl, go⟩
  · cases hv
    rw [e0] at hz hkk
    obtain ⟨t2, a1, b1⟩ := kk v σ' hp t.heap (locs ++ L) la hP' ⟨Nat.le_trans hS.1 hz, fun q h1 h2 => by
        rw [hkk q (Nat.lt_of_lt_of_le h1 hS.1) h2]
        exact hS.2.1 q h1 h2, fun q hq => by
        rcases List.mem_append.mp hq with h | h
        · exact hS.2.2 q h
        · exact hL' q h⟩ hL T' e1 Y'
    exact ⟨t2, go t2 a1, b1⟩
  · rw [e0] at hz hkk
    obtain ⟨hpc, ⟨pre, x, suf, name, hsp, hpass, hcov, hx0, hlink, hcast, rfl⟩, kkx⟩ := kx E σ' hpx
    obtain ⟨-, -, -, hTab⟩ := hT
    have hW := kkx q t.heap (locs ++ L) la hP' ⟨Nat.le_trans hS.1 hz, fun q h1 h2 => by
        rw [hkk q (Nat.lt_of_lt_of_le h1 hS.1) h2]
        exact hS.2.1 q h1 h2, fun q hq => by
        rcases List.mem_append.mp hq with h | h
        · exact hS.2.2 q h
        · exact hL' q h⟩ hL
    have hX := vx_catch (pc := pc) (ls := la) (rest := rest) (E := E) (name := name) h4 (tableOf pre) ⟨x.1, x.2.1, x.2.2.1, x.2.2.2⟩ (tableOf suf) (by rw [hTab, hsp]; unfold tableOf; rw [List.map_append, List.map_cons]) (fun z hz => by
      obtain ⟨y, hy, rfl⟩ := List.mem_map.mp hz
      obtain ⟨z0, nm, z1, z2⟩ := hpass y hy
      exact Or.inr ⟨z0, nm, h5 _ z1, z2 s h8.1⟩) hcov hx0 (h5 _ hlink) (vx_ot_at (State.WarmedH.refl s) rfl (by first | rfl | simp [vx_ot, Cond.onTables]) (hcast s h8.1)) hce hcv hcl hW
    obtain ⟨t2, a1, b1⟩ := hX T' e1 Y'
    exact ⟨t2, go.trans a1, b1⟩
/-- a call of a method with handlers -/
abbrev LkW (own : String) (idx : Nat) (M : Md) (hh : List (Nat × Nat × Nat × Nat)) : Prop := Cond.methodLink own idx M.y ∈ aw ∧ Cond.static M.y ∈ aw ∧ Cond.codeWith M.y M.b M.nL M.rt hh ∈ aw ∧ Cond.initialized M.y.cls ∈ aw
theorem g_callW {pc idx : Nat} {M : Md} {As rest : List Value} {Post : Option Value → Hp → Prop} (hx : Ok X l g own cc nL R) (hM : MW l g M hh As σ Post) (hlk : LkW own idx M hh) (har : Arity M As.length) (hst : st = As.reverse ++ rest) (hcat : (rest.map fun v => v.category).sum ≤ 8) (hroom : M.rm.frames + 1 ≤ R.frames ∧ 8 + (M.nL + 11) + M.rm.locals ≤ R.locals) (hcs : k + M.rm.cells ≤ R.cells ∧ n + M.rm.slots ≤ R.slots) (hd : decode cc pc = .ok (.invokestatic idx, 3))
    (kk : ∀ v σ', Post v σ' → G X σ' (k + M.rm.cells) (n + M.rm.slots) (pc + 3) ls (v.toList ++ rest)) : G X σ k n pc ls st := by
  obtain ⟨p, l', e, R', s, m, args, below, meth, c, Q, g'⟩ := X
  obtain ⟨h1, h2, h3, h4, h5, h6, h7, h8, rfl, rfl, rfl⟩ := hx
  intro H locs la hP hS hL
  subst hst
  have hgd : GoodIn aw (.codeWith M.y M.b M.nL M.rt hh :: aw) := fun w hw => by
    rcases List.mem_cons.mp hw with rfl | hw
    · exact ⟨hlk.2.2.1, aw_good1 hlk.2.2.1⟩
    · exact ⟨hw, aw_good1 hw⟩
  have cw : vx_CSW R' s args own idx M.y M.b M.nL M.rt hh (.codeWith M.y M.b M.nL M.rt hh :: aw) M.rm M.rm.cells M.rm.slots As.length :=
    ⟨⟨rfl, rfl, hroom.1, hroom.2, pay_in h5 hgd, List.mem_cons_self⟩, h5 _ hlk.2.2.1, h5 _ hlk.2.2.2, ⟨har.1, har.2.1⟩, fun sig h => by
      have h2 := har.2.2
      rw [h] at h2
      exact (Option.some.inj h2).symm, h5 _ hlk.1, h5 _ hlk.2.1⟩
  have hr := vx_runSX (g := F0 m pc la (As.reverse ++ rest)) (nL := nL) (As := As) (rest := rest) (cells := k) (slots := n) (locs := locs) (l := l') (p := p) (e := e) (below := below) (meth := meth) (H := H) ⟨h1, h2, h3, h4, h5⟩ hM cw ⟨MGp.blind, fun U hU hW => ⟨rfl, by rw [hU]; exact hP, by rw [hU]; exact Nat.le_trans h7 hS.1, va_K.moved hW.alike h6, h8.2 _ U hW h8.1, h8.2⟩⟩ rfl rfl (by rw [← h3]; exact hL.1) rfl (lv_room hcat) hd hcs
  intro T0 hT0 Y
  rcases hr T0 hT0 Y with ⟨v, st₀, t, T', L, e0, Y', hL', e1, e2, ⟨v', σ', hv, hp, hP', hz, hkk⟩, go⟩ | ⟨q, st₀, t, T', L, E, ce, e0, Y', hL', e1, e2, hno, -⟩
  · cases hv
    rw [e0] at hz hkk
    obtain ⟨t2, a1, b1⟩ := kk v σ' hp t.heap (locs ++ L) la hP' ⟨Nat.le_trans hS.1 hz, fun q h1 h2 => by
        rw [hkk q (Nat.lt_of_lt_of_le h1 hS.1) h2]
        exact hS.2.1 q h1 h2, fun q hq => by
        rcases List.mem_append.mp hq with h | h
        · exact hS.2.2 q h
        · exact hL' q h⟩ hL T' e1 Y'
    exact ⟨t2, go t2 a1, b1⟩
  · exact absurd hno id
end GW
