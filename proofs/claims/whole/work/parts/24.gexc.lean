/-! methods that throw; constants read through the nest; the constants' words in one hypothesis -/
abbrev nms : List String := ["java/lang/RuntimeException", "java/lang/Exception"]
def iae : String := "java/lang/IllegalArgumentException"
def nse : String := "java/util/NoSuchElementException"
def rte : String := "java/lang/RuntimeException"
abbrev nxs : List String := ["java/lang/Exception"]
def KX (g : Gl) : Prop := ∀ U, g.2.2.2 U → (∀ w ∈ vx_atS RX10 93 iae nms, w.before #[] U = true) ∧ (∀ w ∈ nx_atS RX10 179 nse rte nxs, w.before #[] U = true) ∧ vx_Zq Bundle.tN "UNASSIGNED_STACK" Bundle.steD (A0 g) U g.1 ∧ vx_Zq Bundle.tN "SUPPRESSED_SENTINEL" Bundle.listD (A0 g) U g.1
def XCof (g : Gl) (PX : String → Hp → Prop) : String → State → State → Prop := fun E st t => ∃ σ', PX E σ' ∧ HP g σ' t.heap ∧ st.heap.size ≤ t.heap.size ∧ ∀ q : Nat, q < st.heap.size → ¬ g.1.size ≤ q → t.heap[q]? = st.heap[q]?
def VG (l : Launch) (g : Gl) (M : Md) (av : List Value) (σ : Hp) (Post : Option Value → Hp → Prop) (PX : String → Hp → Prop) : Prop :=
  vx_Met l M.y (.code M.y M.b M.nL M.rt :: aw) M.rm (MGp g av σ) (MGq g Post) (XCof g PX) M.rm.cells M.rm.slots (fun q => g.1.size ≤ q)
def RetV (X : Cx) (Post : Option Value → Hp → Prop) (PX : String → Hp → Prop) (mc ms : Nat) (rt : Option FieldType) : Prop := match X with
  | (_, _, _, _, s, _, args, below, meth, c, Q, g) => Q = vx_MQ below (MGq g Post) (XCof g PX) args s mc ms (fun q => g.1.size ≤ q) ∧ meth.sig.returnType = rt ∧ meth.locks = false ∧ ∀ x ∈ c.exceptionTable.toList, False
section GV
variable {X : Cx} {l : Launch} {g : Gl} {own : String} {cc : ByteArray} {nL : Nat} {R : Room} {σ : Hp} {k n : Nat} {ls : List (Nat × Value)} {st : List Value} {Post : Option Value → Hp → Prop} {PX : String → Hp → Prop} {mc ms : Nat}
theorem g_iretV (hx : Ok X l g own cc nL R) (hr : RetV X Post PX mc ms (some .int)) (pc : Nat) {v : Int32} (hd : decode cc pc = .ok (.ireturn, 1)) (hcs : k ≤ mc ∧ n ≤ ms) (hp : Post (some (.int v)) σ) : G X σ k n pc ls [.int v] := by
  obtain ⟨p, l', e, R', s, m, args, below, meth, c, Q, g'⟩ := X
  obtain ⟨h1, h2, h3, h4, h5, h6, h7, h8, rfl, rfl, rfl⟩ := hx
  intro H locs la hP hS hL
  obtain ⟨rfl, r2, r3, r4⟩ := hr
  refine W.widen hcs.1 hcs.2 (vx_ret ?_)
  exact W.iret h1 h2 r2 (fun t ht hW => ⟨_, σ, rfl, hp, by rw [ht]; exact hP, by rw [ht]; exact hS.1, fun q q1 q2 => by rw [ht]; exact hS.2.1 q q1 q2⟩) hS.2.2 hd r3
theorem thrown_hp {E : String} {H0 : Heap} {H : Heap} {s t : State} {locs : List Loc} (hP : HP g σ H) (hz0 : g.1.size ≤ H.size) (hS : va_S (fun q => g.1.size ≤ q) s.heap H locs) (hz : H.size ≤ t.heap.size) (hq : ∀ q : Nat, q < H.size → t.heap[q]? = H[q]?) (hp : ∀ z, PX E (z, σ.2)) : XCof g PX E s t :=
  ⟨(t.heap.size, σ.2), hp _, ⟨⟨rfl, fun q h => (hq q (Nat.lt_of_lt_of_le h hz0)).trans (hP.1.2 q h)⟩, fun k e he => ⟨(hP.2 k e he).1, (hP.2 k e he).2.kept (hq k (hP.lt he))⟩⟩, Nat.le_trans hS.1 hz, fun q h1 h2 => (hq q (Nat.lt_of_lt_of_le h1 hS.1)).trans (hS.2.1 q h1 h2)⟩
theorem g_throwS (hx : Ok X l g own cc nL R) {rt : Option FieldType} (hV : RetV X Post PX mc ms rt) (hl : l.stackTraces = false) (pc : Nat) {cls text : String} {ik is ic sa : Nat} (hkl : Cond.classLink own ik cls ∈ aw) (hini : Cond.initialized cls ∈ aw) (hstr : ∀ U, g.2.2.2 U → vk_R own is text sa U) (hat : ∀ U, g.2.2.2 U → ∀ w ∈ vx_atS own ic cls nms, w.before #[] U = true)
    (hot : (Cond.classLink own ik cls :: Cond.initialized cls :: vx_atS own ic cls nms).all vx_ot = true) (hcls : Bundle.fit cls = true) (hU : ∀ U, g.2.2.2 U → vx_Zq Bundle.tN "UNASSIGNED_STACK" Bundle.steD (A0 g) U g.1 ∧ vx_Zq Bundle.tN "SUPPRESSED_SENTINEL" Bundle.listD (A0 g) U g.1)
    (d0 : decode cc pc = .ok (.new ik, 3)) (d3 : decode cc (pc + 3) = .ok (.dup, 1)) (d4 : decode cc (pc + 4) = .ok (.ldc is, 2)) (d6 : decode cc (pc + 6) = .ok (.invokespecial ic, 3)) (d9 : decode cc (pc + 9) = .ok (.athrow, 1))
    (hcat : (st.map fun v => v.category).sum ≤ 8) (hroom : 6 ≤ R.frames ∧ 90 ≤ R.locals) (hcr : k + 1 ≤ R.cells ∧ n + 6 ≤ R.slots) (hcs : k + 1 ≤ mc ∧ n + 6 ≤ ms) (hp : ∀ z, PX cls (z, σ.2)) : G X σ k n pc ls st := by
  obtain ⟨p, l', e, R', s, m, args, below, meth, c, Q, g'⟩ := X
  obtain ⟨h1, h2, h3, h4, h5, h6, h7, h8, rfl, rfl, rfl⟩ := hx
  intro H locs la hP hS hL
  obtain ⟨rfl, r2, r3, r4⟩ := hV
  have hot' := List.all_eq_true.mp hot
  have hk := base_kept hS h7 hP.1.2
  refine vx_throwS h1 h2 hl (names := nms) (A := fun q => g'.1.size ≤ q) h4 hcls (by decide +kernel) (h5 _ hkl) (h5 _ hini) (hstr s h8.1) (fun w hw => vx_ot_at (State.WarmedH.refl s) rfl (hot' w (List.mem_cons_of_mem _ (List.mem_cons_of_mem _ hw))) (hat s h8.1 w hw)) hot' ((hU s h8.1).1.kept hk) ((hU s h8.1).2.kept hk) hS hL.1 d0 d3 d4 d6 d9 (fun x hx => absurd (r4 x hx) id) (by show 2 + 3 < _; have := hroom.1; omega) (by show _ + (13 * (2 + 1) + 43) ≤ _; have := hroom.2; omega) hcr.1 hcr.2 r3 (fun t _ hz hq => ?_) hS.2.2 hcs.1 hcs.2
  exact thrown_hp (H0 := H) hP (Nat.le_trans h7 hS.1) hS hz hq hp
theorem g_throwN (hx : Ok X l g own cc nL R) {rt : Option FieldType} (hV : RetV X Post PX mc ms rt) (hl : l.stackTraces = false) (pc : Nat) {cls text : String} {ik is ic sa : Nat} (hkl : Cond.classLink own ik cls ∈ aw) (hini : Cond.initialized cls ∈ aw) (hstr : ∀ U, g.2.2.2 U → vk_R own is text sa U) (hat : ∀ U, g.2.2.2 U → ∀ w ∈ nx_atS own ic cls rte nxs, w.before #[] U = true)
    (hot : (Cond.classLink own ik cls :: Cond.initialized cls :: nx_atS own ic cls rte nxs).all vx_ot = true) (hcls : Bundle.fit cls = true) (hU : ∀ U, g.2.2.2 U → vx_Zq Bundle.tN "UNASSIGNED_STACK" Bundle.steD (A0 g) U g.1 ∧ vx_Zq Bundle.tN "SUPPRESSED_SENTINEL" Bundle.listD (A0 g) U g.1)
    (d0 : decode cc pc = .ok (.new ik, 3)) (d3 : decode cc (pc + 3) = .ok (.dup, 1)) (d4 : decode cc (pc + 4) = .ok (.ldc is, 2)) (d6 : decode cc (pc + 6) = .ok (.invokespecial ic, 3)) (d9 : decode cc (pc + 9) = .ok (.athrow, 1))
    (hcat : (st.map fun v => v.category).sum ≤ 8) (hroom : 6 ≤ R.frames ∧ 90 ≤ R.locals) (hcr : k + 1 ≤ R.cells ∧ n + 6 ≤ R.slots) (hcs : k + 1 ≤ mc ∧ n + 6 ≤ ms) (hp : ∀ z, PX cls (z, σ.2)) : G X σ k n pc ls st := by
  obtain ⟨p, l', e, R', s, m, args, below, meth, c, Q, g'⟩ := X
  obtain ⟨h1, h2, h3, h4, h5, h6, h7, h8, rfl, rfl, rfl⟩ := hx
  intro H locs la hP hS hL
  obtain ⟨rfl, r2, r3, r4⟩ := hV
  have hot' := List.all_eq_true.mp hot
  have hk := base_kept hS h7 hP.1.2
  refine vx_throwN h1 h2 hl (Y := rte) (names := nxs) (A := fun q => g'.1.size ≤ q) h4 hcls (by decide +kernel) (by decide +kernel) (h5 _ hkl) (h5 _ hini) (hstr s h8.1) (fun w hw => vx_ot_at (State.WarmedH.refl s) rfl (hot' w (List.mem_cons_of_mem _ (List.mem_cons_of_mem _ hw))) (hat s h8.1 w hw)) hot' ((hU s h8.1).1.kept hk) ((hU s h8.1).2.kept hk) hS hL.1 d0 d3 d4 d6 d9 (fun x hx => absurd (r4 x hx) id) (by show 1 + 4 < _; have := hroom.1; omega) (by show _ + (13 * (1 + 2) + 43) ≤ _; have := hroom.2; omega) hcr.1 hcr.2 r3 (fun t _ hz hq => ?_) hS.2.2 hcs.1 hcs.2
  exact thrown_hp (H0 := H) hP (Nat.le_trans h7 hS.1) hS hz hq hp
theorem g_throwSW (hx : Ok X l g own cc nL R) {rt : Option FieldType} (hV : RetV X Post PX mc ms rt) (hl : l.stackTraces = false) (pc : Nat) {cls text : String} {ik is ic sa : Nat} (hkl : Cond.classLink own ik cls ∈ aw) (hini : Cond.initialized cls ∈ aw) (hstr : ∀ U, g.2.2.2 U → vk_R own is text sa U) (hat : ∀ U, g.2.2.2 U → ∀ w ∈ vx_atS own ic cls nms, w.before #[] U = true)
    (hot : (Cond.classLink own ik cls :: Cond.initialized cls :: vx_atS own ic cls nms).all vx_ot = true) (hcls : Bundle.fit cls = true) (hU : ∀ U, g.2.2.2 U → vx_Zq Bundle.tN "UNASSIGNED_STACK" Bundle.steD (A0 g) U g.1 ∧ vx_Zq Bundle.tN "SUPPRESSED_SENTINEL" Bundle.listD (A0 g) U g.1)
    (d0 : decode cc pc = .ok (.new ik, 3)) (d3 : decode cc (pc + 3) = .ok (.dup, 1)) (d4 : decode cc (pc + 4) = .ok (.ldc_w is, 3)) (d7 : decode cc (pc + 7) = .ok (.invokespecial ic, 3)) (d10 : decode cc (pc + 10) = .ok (.athrow, 1))
    (hcat : (st.map fun v => v.category).sum ≤ 8) (hroom : 6 ≤ R.frames ∧ 90 ≤ R.locals) (hcr : k + 1 ≤ R.cells ∧ n + 6 ≤ R.slots) (hcs : k + 1 ≤ mc ∧ n + 6 ≤ ms) (hp : ∀ z, PX cls (z, σ.2)) : G X σ k n pc ls st := by
  obtain ⟨p, l', e, R', s, m, args, below, meth, c, Q, g'⟩ := X
  obtain ⟨h1, h2, h3, h4, h5, h6, h7, h8, rfl, rfl, rfl⟩ := hx
  intro H locs la hP hS hL
  obtain ⟨rfl, r2, r3, r4⟩ := hV
  have hot' := List.all_eq_true.mp hot
  have hk := base_kept hS h7 hP.1.2
  refine vx_throwSW h1 h2 hl (names := nms) (A := fun q => g'.1.size ≤ q) h4 hcls (by decide +kernel) (h5 _ hkl) (h5 _ hini) (hstr s h8.1) (fun w hw => vx_ot_at (State.WarmedH.refl s) rfl (hot' w (List.mem_cons_of_mem _ (List.mem_cons_of_mem _ hw))) (hat s h8.1 w hw)) hot' ((hU s h8.1).1.kept hk) ((hU s h8.1).2.kept hk) hS hL.1 d0 d3 d4 d7 d10 (fun x hx => absurd (r4 x hx) id) (by show 2 + 3 < _; have := hroom.1; omega) (by show _ + (13 * (2 + 1) + 43) ≤ _; have := hroom.2; omega) hcr.1 hcr.2 r3 (fun t _ hz hq => ?_) hS.2.2 hcs.1 hcs.2
  exact thrown_hp (H0 := H) hP (Nat.le_trans h7 hS.1) hS hz hq hp
theorem g_getXN (hx : Ok X l g own cc nL R) (pc : Nat) {o n' d' host : String} {idx q : Nat} (v : Value) (hE : ∀ U, g.2.2.2 U → va_OF o n' d' v q (A0 g) U g.1) (hlk : ∀ U, g.2.2.2 U → va_Nw (.fieldLinkNest own idx o n' d' host) U) (hd : decode cc pc = .ok (.getfield idx, 3)) (h : G X σ k n (pc + 3) ls (v :: st)) : G X σ k n pc ls (.ref q :: st) := by
  obtain ⟨p, l', e, R', s, m, args, below, meth, c, Q, g'⟩ := X
  obtain ⟨h1, h2, h3, h4, h5, h6, h7, h8, rfl, rfl, rfl⟩ := hx
  intro H locs la hP hS hL
  obtain ⟨cf, kk, fi, f, cell, e1, e2, e3, e4, e5, e6⟩ := ((hE s h8.1).kept (base_kept hS h7 hP.1.2)).kept hS.2.1
  exact va_Wgetf h1 h2 h4 (va_Nw.use rfl (hlk s h8.1)) e1 e2 e3 e4 (v := v) e5 rfl rfl hd (h H locs la hP hS hL)
theorem g_getsN (hx : Ok X l g own cc nL R) (pc : Nat) {C n' d' host : String} {idx : Nat} (v : Value) (hZ : ∀ U, g.2.2.2 U → va_Z C n' d' v (A0 g) U g.1) (hlk : ∀ U, g.2.2.2 U → va_Nw (.fieldLinkNest own idx C n' d' host) U) (hd : decode cc pc = .ok (.getstatic idx, 3)) (h : G X σ k n (pc + 3) ls (v :: st)) : G X σ k n pc ls st := by
  obtain ⟨p, l', e, R', s, m, args, below, meth, c, Q, g'⟩ := X
  obtain ⟨h1, h2, h3, h4, h5, h6, h7, h8, rfl, rfl, rfl⟩ := hx
  intro H locs la hP hS hL
  exact va_getsN h1 h2 ((hZ s h8.1).kept (base_kept hS h7 hP.1.2)) hS h4 (va_Nw.use rfl (hlk s h8.1)) (fun _ h9 => h9) hd (h H locs la hP hS hL)
end GV
/-- a contract that returns or throws, out of a walk -/
theorem VG.intro {l : Launch} {g : Gl} {M : Md} {av : List Value} {σ : Hp} {Post : Option Value → Hp → Prop} {PX : String → Hp → Prop} (hy : plainName M.y.cls = true) (hn : (lg_sl av).length ≤ M.nL)
    (body : ∀ X : Cx, Ok X l g M.y.cls M.b M.nL M.rm → RetV X Post PX M.rm.cells M.rm.slots M.rt → G X σ 0 0 0 (lv_args 0 av) []) : VG l g M av σ Post PX := by
  refine vx_ofW (cc := M.b) (maxL := M.nL) (ret := M.rt) hy rfl ?_
  intro p e s m args below meth c s₁ B hml hex hv
  obtain ⟨rfl, hP, hz, hK, hKa, hKb⟩ := hv
  have hts := atoms_spec (ws := .code M.y M.b M.nL M.rt :: aw) B.pre
  have hown : s.vm.findClass M.y.cls = some m.cls := findClass_of_methodNamed B.named
  have h := body (p, l, e, M.rm, s, m, av.toArray, below, meth, c, vx_MQ below (MGq g Post) (XCof g PX) av.toArray s M.rm.cells M.rm.slots (fun q => g.1.size ≤ q), g)
    ⟨B.exec, B.bytes, hml, hown, fun w hw => hts w (List.mem_cons_of_mem _ hw), hK, hz, ⟨hKa, hKb⟩, rfl, rfl, rfl⟩ ⟨rfl, B.returns, B.notSynchronized, hex⟩
  have hl := lv_entry av (n := M.nL) hn
  rw [lg_entry_eq]
  exact h s.heap [] _ hP va_S.rf (by rw [hml]; exact hl)
