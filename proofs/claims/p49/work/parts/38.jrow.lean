/-! rows of bytes; inherited and super calls -/
def fitB (f : Nat → Int32) : Prop := ∀ j, fits .byte (.int (f j)) = true
section GJ
variable {X : Cx} {l : Launch} {g : Gl} {own : String} {cc : ByteArray} {nL : Nat} {R : Room} {σ : Hp} {k n : Nat} {ls : List (Nat × Value)} {st : List Value}
theorem g_bald (hx : Ok X l g own cc nL R) (pc : Nat) {b N : Nat} {f : Nat → Int32} {i : Int32} (hk : σ.2 b = some (eB N f)) (hin : vp_in i N) (hd : decode cc pc = .ok (.baload, 1)) (h : G X σ k n (pc + 1) ls (.int (f i.toNatClampNeg) :: st)) : G X σ k n pc ls (.int i :: .ref b :: st) := by
  obtain ⟨p, l', e, R', s, m, args, below, meth, c, Q, g'⟩ := X
  obtain ⟨h1, h2, h3, h4, h5, h6, h7, h8, rfl, rfl, rfl⟩ := hx
  intro H locs la hP hS hL
  exact va_bald h1 h2 h6 (hP.one hk) 0 3 rfl rfl hin hd (h H locs la hP hS hL)
theorem g_alenB (hx : Ok X l g own cc nL R) (pc : Nat) {b N : Nat} {f : Nat → Int32} (hk : σ.2 b = some (eB N f)) (hd : decode cc pc = .ok (.arraylength, 1)) (h : G X σ k n (pc + 1) ls (.int (nI N) :: st)) : G X σ k n pc ls (.ref b :: st) := by
  obtain ⟨p, l', e, R', s, m, args, below, meth, c, Q, g'⟩ := X
  obtain ⟨h1, h2, h3, h4, h5, h6, h7, h8, rfl, rfl, rfl⟩ := hx
  intro H locs la hP hS hL
  exact va_alen h1 h2 h6 (hP.one hk) 0 3 rfl rfl rfl hd (h H locs la hP hS hL)
theorem g_bast (hx : Ok X l g own cc nL R) (pc : Nat) {b N : Nat} {f : Nat → Int32} {i x : Int32} (y : Int32) (hk : σ.2 b = some (eB N f)) (hin : vp_in i N) (hy : narrow .byte (.int x) = .int y) (hd : decode cc pc = .ok (.bastore, 1)) (h : G X (hset σ b (eB N (upd f i.toNatClampNeg y))) k n (pc + 1) ls st) : G X σ k n pc ls (.int x :: .int i :: .ref b :: st) := by
  obtain ⟨p, l', e, R', s, m, args, below, meth, c, Q, g'⟩ := X
  obtain ⟨h1, h2, h3, h4, h5, h6, h7, h8, rfl, rfl, rfl⟩ := hx
  intro H locs la hP hS hL
  have hPb := hP.2 b _ hk
  refine W.bast h1 h2 (hP.one hk 0 _ rfl) ((h6.2 3 _ rfl).1 N (fun j => .int (f j))) (fun q => by cases q) (by show ¬ (i < 0 ∨ (arrV _ _ _).slots.size ≤ _); rw [arrV_size]; exact hin) rfl rfl hd fun H1 e z oq => ?_
  rw [hy] at e
  refine h H1 _ la (hP.set hk ?_ z oq) (hS.put z oq hPb.1) hL
  show H1[b]? = some (vp_cell _ _)
  rw [e]
  rw [vp_cell_i, vp_cell_i, arrV_store]
  congr 2
  funext q
  by_cases hq : q = i.toNatClampNeg
  · subst hq
    simp [updV, upd]
  · simp [updV, upd, hq]
theorem g_newB (hx : Ok X l g own cc nL R) (pc : Nat) {x : Int32} (N : Nat) (hw : Cond.arrayClass .byte ∈ aw) (h0 : ¬ x < 0) (hN : x.toNatClampNeg = N) (hb : N * componentBytes .byte ≤ 536870912) (hroom : k + 1 ≤ R.cells ∧ n + N ≤ R.slots) (hd : decode cc pc = .ok (.newarray .byte, 2)) (h : G X (hpush σ (eB N (fun _ => 0))) (k + 1) (n + N) (pc + 2) ls (.ref σ.1 :: st)) : G X σ k n pc ls (.int x :: st) := by
  obtain ⟨p, l', e, R', s, m, args, below, meth, c, Q, g'⟩ := X
  obtain ⟨h1, h2, h3, h4, h5, h6, h7, h8, rfl, rfl, rfl⟩ := hx
  intro H locs la hP hS hL
  refine va_newaK (atype := .byte) h1 h2 (h5 _ hw) rfl hd rfl h0 hN hb hroom.1 hroom.2 hP.1.1 fun H1 cA e1 z1 o1 hAr hNm => ?_
  rw [← hP.1.1] at z1 o1
  have hcA : cA = g'.2.2.1 3 := Option.some.inj (hNm.symm.trans (h6.2 3 _ rfl).2)
  subst hcA
  exact h H1 locs la (hP.push (Nat.le_trans h7 hS.1) (show H1[σ.1]? = some (vp_cell _ _) from e1) z1 o1) ⟨Nat.le_trans hS.1 (by omega), fun x g1 g2 => (o1 x (Nat.lt_of_lt_of_le g1 hS.1)).trans (hS.2.1 x g1 g2), hS.2.2⟩ hL
theorem g_copyB (hx : Ok X l g own cc nL R) (pc : Nat) {a0 a n0 n1 idx : Nat} {f h : Nat → Int32} {sp dp z : Int32} (hc0 : σ.2 a0 = some (eB n0 f)) (hc1 : σ.2 a = some (eB n1 h)) (hw : ∀ w ∈ [Cond.methodLink own idx arraycopyName, Cond.native arraycopyName, Cond.static arraycopyName, Cond.initialized "java/lang/System"], w ∈ aw)
    (h1' : ¬ sp < 0) (h2' : ¬ dp < 0) (h3' : ¬ z < 0) (h4' : sp.toNatClampNeg + z.toNatClampNeg ≤ n0) (h5' : dp.toNatClampNeg + z.toNatClampNeg ≤ n1) (hfit : fitB f) (hcat : (st.map fun v => v.category).sum ≤ 8) (hroom : 1 ≤ R.frames ∧ 8 + (nativeFrameWords "java/lang/System" "arraycopy" 5 + 11) ≤ R.locals) (hd : decode cc pc = .ok (.invokestatic idx, 3))
    (hh : G X (hset σ a (eB n1 (va_cpy f h sp.toNatClampNeg dp.toNatClampNeg z.toNatClampNeg))) k n (pc + 3) ls st) : G X σ k n pc ls (.int z :: .int dp :: .ref a :: .int sp :: .ref a0 :: st) := by
  obtain ⟨p, l', e, R', s, m, args, below, meth, c, Q, g'⟩ := X
  obtain ⟨h1, h2, h3, h4, h5, h6, h7, h8, rfl, rfl, rfl⟩ := hx
  intro H locs la hP hS hL
  have nn : ∀ z : Int32, ¬ z < 0 → z.toInt = (z.toNatClampNeg : Int) := by
    intro z hz
    have hz0 : (0 : Int) ≤ z.toInt := by
      have := Int32.not_lt.mp hz
      simpa using Int32.le_iff_toInt_le.mp this
    show z.toInt = ((z.toInt.toNat : Nat) : Int)
    omega
  have hscr : ∃ scr : Cell, H[a0]? = some scr ∧ s.isArrayOf scr .byte ∧ scr.vm ≠ .unknown ∧ n0 ≤ scr.slots.size ∧ ∀ j, j < n0 → scr.slots[j]? = some (.int (f j)) := by
    exact ⟨vp_cell (g'.2.2.1 3) (n0, .inl f), (hP.2 a0 _ hc0).2, (h6.2 3 _ rfl).1 n0 (fun j => .int (f j)), (fun q => by cases q), (by show n0 ≤ (arrV _ _ _).slots.size; rw [arrV_size]; exact Nat.le_refl _), (fun j hj => by show (arrV _ _ _).slots[_]? = _; rw [arrV_read _ _ hj])⟩
  intro T hT X
  obtain ⟨scr, hs1, hs2, hs3, hs4, hs5⟩ := hscr
  obtain ⟨hs6, k0, hk0, cm0, hkk0⟩ := hs2
  have hcc1 : H[a]? = some (vp_cell (g'.2.2.1 3) (n1, .inl h)) := (hP.2 a _ hc1).2
  obtain ⟨-, k1, hk1, cm1, hkk1⟩ := (h6.2 3 _ rfl).1 n1 (fun j => .int (h j))
  obtain ⟨vm', X', step⟩ := X.arraycopy h1 h4 (h5 _ (hw (Cond.methodLink own idx arraycopyName) (by simp))) (h5 _ (hw (Cond.native arraycopyName) (by simp))) (h5 _ (hw (Cond.static arraycopyName) (by simp))) (h5 _ (hw (Cond.initialized "java/lang/System") (by simp))) (src := a0) (dst := a) (cs := scr) (cd := vp_cell (g'.2.2.1 3) (n1, .inl h)) (srcPos := sp) (destPos := dp) (n := z) (by rw [hT]; exact hs1) (by rw [hT]; exact hcc1)
    hs6 (fun _ h => by cases h) hs3 (fun h => by cases h) hk0 hk1 hkk0 hkk1 (by simp [refKind]) h1' h2' h3'
    (by rw [nn sp h1', nn z h3']; omega)
    (by rw [nn dp h2', nn z h3']; show ¬ _ > ((arrV _ n1 (fun j => .int (h j))).slots.size : Int); rw [arrV_size]; omega)
    (fun vm₁ _ i hi => by
      have e : scr.slots.getD (sp.toNatClampNeg + i) .null = .int (f (sp.toNatClampNeg + i)) := by
        rw [Array.getD_eq_getD_getElem?, hs5 _ (by omega)]
        rfl
      refine ⟨?_, ?_⟩
      · rw [e]; exact hfit _
      · rw [e]
        exact trivial)
    (g := F0 m pc la (.int z :: .int dp :: .ref a :: .int sp :: .ref a0 :: st)) rfl hL.1 (rest := st) rfl (by rw [h2]; exact hd) hroom.1 (by have := hroom.2; show 2 * 0 + _ + _ ≤ _; omega)
  have e1 : copied scr (vp_cell (g'.2.2.1 3) (n1, .inl h)) sp dp z = vp_cell (g'.2.2.1 3) (n1, .inl (va_cpy f h sp.toNatClampNeg dp.toNatClampNeg z.toNatClampNeg)) := va_copiedX (fun z => .int z) scr _ f h hs5 h4'
  rw [e1] at X' step
  have hl : a < H.size := (Array.getElem?_eq_some_iff.mp hcc1).1
  have hheap : ((T.setVm vm').setCell a (vp_cell (g'.2.2.1 3) (n1, .inl (va_cpy f h sp.toNatClampNeg dp.toNatClampNeg z.toNatClampNeg)))).heap = H.setIfInBounds a (vp_cell (g'.2.2.1 3) (n1, .inl (va_cpy f h sp.toNatClampNeg dp.toNatClampNeg z.toNatClampNeg))) := by rw [← hT]; rfl
  have oq : ∀ q : Nat, q ≠ a → (H.setIfInBounds a (vp_cell (g'.2.2.1 3) (n1, .inl (va_cpy f h sp.toNatClampNeg dp.toNatClampNeg z.toNatClampNeg))))[q]? = H[q]? := fun q hq => by simp [Array.getElem?_setIfInBounds, Ne.symm hq]
  have ha := (hP.2 a _ hc1).1
  obtain ⟨t, a1, b1⟩ := hh _ _ la (hP.set hc1 (show entAt g' a (eB n1 _) _ from (show (H.setIfInBounds a _)[a]? = some _ by simp [Array.getElem?_setIfInBounds, hl])) (by simp) oq) ⟨by simp; exact hS.1, fun q g1 g2 => by
      rw [oq q (fun e => g2 (by rw [e]; exact ha))]
      exact hS.2.1 q g1 g2, fun q hq => by
      rcases List.mem_append.mp hq with h | h
      · exact hS.2.2 q h
      · obtain ⟨z, -, hz⟩ := List.mem_map.mp h
        rw [← hz]
        exact ha⟩ hL _ hheap X'
  exact ⟨t, step t a1, b1⟩
theorem g_copyT (hx : Ok X l g own cc nL R) (pc : Nat) {a0 a n0 n1 idx : Nat} {f h : Nat → Int32} {sp dp z : Int32} (hc0 : ∀ U, g.2.2.2 U → va_T .byte a0 n0 (fun j => .int (f j)) (A0 g) U g.1) (hc1 : σ.2 a = some (eB n1 h)) (hw : ∀ w ∈ [Cond.methodLink own idx arraycopyName, Cond.native arraycopyName, Cond.static arraycopyName, Cond.initialized "java/lang/System"], w ∈ aw)
    (h1' : ¬ sp < 0) (h2' : ¬ dp < 0) (h3' : ¬ z < 0) (h4' : sp.toNatClampNeg + z.toNatClampNeg ≤ n0) (h5' : dp.toNatClampNeg + z.toNatClampNeg ≤ n1) (hfit : fitB f) (hcat : (st.map fun v => v.category).sum ≤ 8) (hroom : 1 ≤ R.frames ∧ 8 + (nativeFrameWords "java/lang/System" "arraycopy" 5 + 11) ≤ R.locals) (hd : decode cc pc = .ok (.invokestatic idx, 3))
    (hh : G X (hset σ a (eB n1 (va_cpy f h sp.toNatClampNeg dp.toNatClampNeg z.toNatClampNeg))) k n (pc + 3) ls st) : G X σ k n pc ls (.int z :: .int dp :: .ref a :: .int sp :: .ref a0 :: st) := by
  obtain ⟨p, l', e, R', s, m, args, below, meth, c, Q, g'⟩ := X
  obtain ⟨h1, h2, h3, h4, h5, h6, h7, h8, rfl, rfl, rfl⟩ := hx
  intro H locs la hP hS hL
  have nn : ∀ z : Int32, ¬ z < 0 → z.toInt = (z.toNatClampNeg : Int) := by
    intro z hz
    have hz0 : (0 : Int) ≤ z.toInt := by
      have := Int32.not_lt.mp hz
      simpa using Int32.le_iff_toInt_le.mp this
    show z.toInt = ((z.toInt.toNat : Nat) : Int)
    omega
  have hscr : ∃ scr : Cell, H[a0]? = some scr ∧ s.isArrayOf scr .byte ∧ scr.vm ≠ .unknown ∧ n0 ≤ scr.slots.size ∧ ∀ j, j < n0 → scr.slots[j]? = some (.int (f j)) := by
    obtain ⟨cell, q1, q2, q3, q4, -, q5, q6⟩ := (hc0 s h8.1).kept (base_kept hS h7 hP.1.2)
    exact ⟨cell, by rw [hS.2.1 a0 (Array.getElem?_eq_some_iff.mp q1).1 q6]; exact q1, q2, q3, q4, q5⟩
  intro T hT X
  obtain ⟨scr, hs1, hs2, hs3, hs4, hs5⟩ := hscr
  obtain ⟨hs6, k0, hk0, cm0, hkk0⟩ := hs2
  have hcc1 : H[a]? = some (vp_cell (g'.2.2.1 3) (n1, .inl h)) := (hP.2 a _ hc1).2
  obtain ⟨-, k1, hk1, cm1, hkk1⟩ := (h6.2 3 _ rfl).1 n1 (fun j => .int (h j))
  obtain ⟨vm', X', step⟩ := X.arraycopy h1 h4 (h5 _ (hw (Cond.methodLink own idx arraycopyName) (by simp))) (h5 _ (hw (Cond.native arraycopyName) (by simp))) (h5 _ (hw (Cond.static arraycopyName) (by simp))) (h5 _ (hw (Cond.initialized "java/lang/System") (by simp))) (src := a0) (dst := a) (cs := scr) (cd := vp_cell (g'.2.2.1 3) (n1, .inl h)) (srcPos := sp) (destPos := dp) (n := z) (by rw [hT]; exact hs1) (by rw [hT]; exact hcc1)
    hs6 (fun _ h => by cases h) hs3 (fun h => by cases h) hk0 hk1 hkk0 hkk1 (by simp [refKind]) h1' h2' h3'
    (by rw [nn sp h1', nn z h3']; omega)
    (by rw [nn dp h2', nn z h3']; show ¬ _ > ((arrV _ n1 (fun j => .int (h j))).slots.size : Int); rw [arrV_size]; omega)
    (fun vm₁ _ i hi => by
      have e : scr.slots.getD (sp.toNatClampNeg + i) .null = .int (f (sp.toNatClampNeg + i)) := by
        rw [Array.getD_eq_getD_getElem?, hs5 _ (by omega)]
        rfl
      refine ⟨?_, ?_⟩
      · rw [e]; exact hfit _
      · rw [e]
        exact trivial)
    (g := F0 m pc la (.int z :: .int dp :: .ref a :: .int sp :: .ref a0 :: st)) rfl hL.1 (rest := st) rfl (by rw [h2]; exact hd) hroom.1 (by have := hroom.2; show 2 * 0 + _ + _ ≤ _; omega)
  have e1 : copied scr (vp_cell (g'.2.2.1 3) (n1, .inl h)) sp dp z = vp_cell (g'.2.2.1 3) (n1, .inl (va_cpy f h sp.toNatClampNeg dp.toNatClampNeg z.toNatClampNeg)) := va_copiedX (fun z => .int z) scr _ f h hs5 h4'
  rw [e1] at X' step
  have hl : a < H.size := (Array.getElem?_eq_some_iff.mp hcc1).1
  have hheap : ((T.setVm vm').setCell a (vp_cell (g'.2.2.1 3) (n1, .inl (va_cpy f h sp.toNatClampNeg dp.toNatClampNeg z.toNatClampNeg)))).heap = H.setIfInBounds a (vp_cell (g'.2.2.1 3) (n1, .inl (va_cpy f h sp.toNatClampNeg dp.toNatClampNeg z.toNatClampNeg))) := by rw [← hT]; rfl
  have oq : ∀ q : Nat, q ≠ a → (H.setIfInBounds a (vp_cell (g'.2.2.1 3) (n1, .inl (va_cpy f h sp.toNatClampNeg dp.toNatClampNeg z.toNatClampNeg))))[q]? = H[q]? := fun q hq => by simp [Array.getElem?_setIfInBounds, Ne.symm hq]
  have ha := (hP.2 a _ hc1).1
  obtain ⟨t, a1, b1⟩ := hh _ _ la (hP.set hc1 (show entAt g' a (eB n1 _) _ from (show (H.setIfInBounds a _)[a]? = some _ by simp [Array.getElem?_setIfInBounds, hl])) (by simp) oq) ⟨by simp; exact hS.1, fun q g1 g2 => by
      rw [oq q (fun e => g2 (by rw [e]; exact ha))]
      exact hS.2.1 q g1 g2, fun q hq => by
      rcases List.mem_append.mp hq with h | h
      · exact hS.2.2 q h
      · obtain ⟨z, -, hz⟩ := List.mem_map.mp h
        rw [← hz]
        exact ha⟩ hL _ hheap X'
  exact ⟨t, step t a1, b1⟩
/-- a row of bytes, cloned -/
theorem g_cloneB (hx : Ok X l g own cc nL R) (pc : Nat) {a N idx : Nat} {f : Nat → Int32} (hk : σ.2 a = some (eB N f)) (hw : ∀ w ∈ [Cond.methodLink own idx ⟨"[B", "clone", "()Ljava/lang/Object;"⟩, Cond.sameMethod "[B" "java/lang/Object" "clone" "()Ljava/lang/Object;", Cond.native ⟨"java/lang/Object", "clone", "()Ljava/lang/Object;"⟩, Cond.instanceMethod ⟨"java/lang/Object", "clone", "()Ljava/lang/Object;"⟩, Cond.selects "[B" ⟨"[B", "clone", "()Ljava/lang/Object;"⟩ ⟨"java/lang/Object", "clone", "()Ljava/lang/Object;"⟩], w ∈ aw) (hcl : ∀ U, g.2.2.2 U → va_Nw (.castable "[B" "java/lang/Cloneable") U) (hfit : fitB f)
    (hcat : (st.map fun v => v.category).sum ≤ 8) (hroom : 1 ≤ R.frames ∧ 22 ≤ R.locals) (hcr : k + 1 ≤ R.cells ∧ n + N ≤ R.slots) (hd : decode cc pc = .ok (.invokevirtual idx, 3))
    (h : G X (hpush σ (eB N f)) (k + 1) (n + N) (pc + 3) ls (.ref σ.1 :: st)) : G X σ k n pc ls (.ref a :: st) := by
  obtain ⟨p, l', e, R', s, m, args, below, meth, c, Q, g'⟩ := X
  obtain ⟨h1, h2, h3, h4, h5, h6, h7, h8, rfl, rfl, rfl⟩ := hx
  intro H locs la hP hS hL
  have hca : H[a]? = some (vp_cell (g'.2.2.1 3) (N, .inl f)) := (hP.2 a _ hk).2
  have hRA : s.vm.findClass "[B" = some (g'.2.2.1 3) := va_nm_byte (h6.2 3 _ rfl).2
  obtain ⟨c0, t0', f1, f2, f3⟩ := Cond.castable_spec (va_Nw.use (A := args) rfl (hcl s h8.1))
  cases hRA.symm.trans f1
  intro T hT X
  have hcellT : T.heap[a]? = some (vp_cell (g'.2.2.1 3) (N, .inl f)) := by rw [hT]; exact hca
  obtain ⟨-, kA, hkA, comp, hkind⟩ := State.isArrayOf_alike X.warmed.alike ((h6.2 3 _ rfl).1 0 (fun _ => .null))
  obtain ⟨-, kS, hkS, compS, hkindS⟩ := (h6.2 3 _ rfl).1 0 (fun _ => .null)
  obtain ⟨vm', X', st'⟩ := X.cloneArray h1 h4 (h5 _ (hw _ (List.mem_of_getElem? (i := 0) rfl))) (h5 _ (hw _ (List.mem_of_getElem? (i := 1) rfl))) (h5 _ (hw _ (List.mem_of_getElem? (i := 2) rfl))) (h5 _ (hw _ (List.mem_of_getElem? (i := 3) rfl))) (h5 _ (hw _ (List.mem_of_getElem? (i := 4) rfl))) (a := a) (cell := vp_cell (g'.2.2.1 3) (N, .inl f)) hcellT (fun k h => by cases h) (fun h => by cases h) hRA f2 f3
    (fun i v hv => by
      have hk' : T.vm.classes[g'.2.2.1 3]? = some kA := hkA
      show T.fitsSlot (g'.2.2.1 3) _ _ _ = true
      simpa [State.fitsSlot, State.slotType?, hk', hkind] using va_fit (cA := g'.2.2.1 3) (n := N) (F := fun j => .int (f j)) (fun i _ => hfit i) i v hv)
    (g := F0 m pc la (.ref a :: st)) rfl hL.1 rfl (by rw [h2]; exact hd) hroom.1 (by have := hroom.2; show 2 * 0 + _ + 14 ≤ _; omega) hcr.1 (by show n + (arrV (g'.2.2.1 3) N (fun j => .int (f j))).slots.size ≤ _; rw [arrV_size]; exact hcr.2) (hloader := Vm.clonesLoader_of_array hkS hkindS)
  have hsz : (vp_cell (g'.2.2.1 3) (N, .inl f)).slots.size = N := arrV_size _ _ _
  have hcellE : ({ cls := (vp_cell (g'.2.2.1 3) (N, .inl f)).cls, slots := (vp_cell (g'.2.2.1 3) (N, .inl f)).slots } : Cell) = vp_cell (g'.2.2.1 3) (N, .inl f) := rfl
  rw [hcellE, hsz] at X'
  generalize hH1 : H.push (vp_cell (g'.2.2.1 3) (N, .inl f)) = H1
  have z1 : H1.size = H.size + 1 := by rw [← hH1, Array.size_push]
  have e1 : H1[H.size]? = some (vp_cell (g'.2.2.1 3) (N, .inl f)) := by rw [← hH1, Array.getElem?_push_size]
  have o1 : ∀ q : Nat, q < H.size → H1[q]? = H[q]? := fun q hq => by rw [← hH1, Array.getElem?_push, if_neg (Nat.ne_of_lt hq)]
  have e1' : H1[σ.1]? = some (vp_cell (g'.2.2.1 3) (N, .inl f)) := by rw [← hP.1.1]; exact e1
  obtain ⟨t, b1, b2⟩ := h H1 locs la (hP.push (Nat.le_trans h7 hS.1) (show entAt g' σ.1 (eB N f) H1 from e1') z1 o1) ⟨Nat.le_trans hS.1 (by omega), fun x q1 q2 => (o1 x (Nat.lt_of_lt_of_le q1 hS.1)).trans (hS.2.1 x q1 q2), hS.2.2⟩ hL ((T.setVm vm').pushCell (vp_cell (g'.2.2.1 3) (N, .inl f))) (by rw [← hH1, ← hT]; rfl) X'
  refine ⟨t, st' t ?_, b2⟩
  rw [hcellE, hT]
  rw [← hP.1.1] at b1
  exact b1
theorem g_castB (hx : Ok X l g own cc nL R) (pc : Nat) {a N idx : Nat} {f : Nat → Int32} (hk : σ.2 a = some (eB N f)) (hlk : Cond.classLink own idx "[B" ∈ aw) (hd : decode cc pc = .ok (.checkcast idx, 3)) (h : G X σ k n (pc + 3) ls (.ref a :: st)) : G X σ k n pc ls (.ref a :: st) := by
  obtain ⟨p, l', e, R', s, m, args, below, meth, c, Q, g'⟩ := X
  obtain ⟨h1, h2, h3, h4, h5, h6, h7, h8, rfl, rfl, rfl⟩ := hx
  intro H locs la hP hS hL
  exact va_castA h1 h2 h4 (h5 _ hlk) (hP.one hk) 0 rfl (va_nm_byte (h6.2 3 _ rfl).2) hd (h H locs la hP hS hL)
theorem g_i2b (hx : Ok X l g own cc nL R) (pc : Nat) {x : Int32} (y : Int32) (hy : x.toInt8.toInt32 = y) (hd : decode cc pc = .ok (.i2b, 1)) (h : G X σ k n (pc + 1) ls (.int y :: st)) : G X σ k n pc ls (.int x :: st) := by
  obtain ⟨p, l', e, R', s, m, args, below, meth, c, Q, g'⟩ := X
  obtain ⟨h1, h2, h3, h4, h5, h6, h7, h8, rfl, rfl, rfl⟩ := hx
  intro H locs la hP hS hL
  exact lv_i2b h1 h2 hd hy (h H locs la hP hS hL)
theorem g_bret {Post : Option Value → Hp → Prop} {ty : FieldType} (hx : Ok X l g own cc nL R) (hr : Ret X Post k n (some (.array ty))) (pc : Nat) {v : Nat} (hd : decode cc pc = .ok (.areturn, 1)) (hp : Post (some (.ref v)) σ) : G X σ k n pc ls [.ref v] := by
  obtain ⟨p, l', e, R', s, m, args, below, meth, c, Q, g'⟩ := X
  obtain ⟨h1, h2, h3, h4, h5, h6, h7, h8, rfl, rfl, rfl⟩ := hx
  intro H locs la hP hS hL
  obtain ⟨rfl, r2, r3⟩ := hr
  exact W.aret h1 h2 r2 (Or.inr ⟨_, rfl⟩) (Or.inr ⟨_, rfl⟩) (fun t ht hW => ⟨_, σ, rfl, hp, by rw [ht]; exact hP, by rw [ht]; exact hS.1, fun q q1 q2 => by rw [ht]; exact hS.2.1 q q1 q2⟩) hS.2.2 hd r3
/-- less is known of the heap -/
theorem G.sub {pc : Nat} {τ : Hp} (hz : σ.1 = τ.1) (hs : ∀ k e, τ.2 k = some e → σ.2 k = some e) (h : G X τ k n pc ls st) : G X σ k n pc ls st := by
  obtain ⟨p, l', e, R', s, m, args, below, meth, c, Q, g'⟩ := X
  intro H locs la hP hS hL
  exact h H locs la (hP.sub hz hs) hS hL
/-- a call of a method that the receiver's class inherits -/
abbrev LkU (own : String) (idx : Nat) (C owner : String) (x : MethodName) (M : Md) : Prop := ∀ w ∈ va_wsU own idx C owner x M.y [.code M.y M.b M.nL M.rt], w ∈ aw
theorem g_callU {pc idx b ci : Nat} {C owner : String} {x : MethodName} {M : Md} {As rest : List Value} {fs : List Value} {T : u_T} {N : Nat} {Post : Option Value → Hp → Prop} (hx : Ok X l g own cc nL R) (hM : MG l g M (.ref b :: As) σ Post) (hlk : LkU own idx C owner x M) (hyx : M.y = ⟨owner, x.name, x.desc⟩) (har : owner ≠ "java/lang/invoke/MethodHandle" ∧ owner ≠ "java/lang/invoke/VarHandle" ∧ (parseMethodDescriptor x.desc).map (fun d => d.parameters.length) = some As.length) (hk : σ.2 b = some (eO ci fs)) (hc : vwCl[ci]? = some (C, T, N)) (hst : st = As.reverse ++ .ref b :: rest) (hcat : (rest.map fun v => v.category).sum ≤ 8) (hroom : M.rm.frames + 1 ≤ R.frames ∧ 8 + (M.nL + 11) + M.rm.locals ≤ R.locals) (hcs : k + M.rm.cells ≤ R.cells ∧ n + M.rm.slots ≤ R.slots) (hd : decode cc pc = .ok (.invokevirtual idx, 3)) (kk : ∀ v σ', Post v σ' → G X σ' (k + M.rm.cells) (n + M.rm.slots) (pc + 3) ls (v.toList ++ rest)) : G X σ k n pc ls st := by
  obtain ⟨p, l', e, R', s, m, args, below, meth, c, Q, g'⟩ := X
  obtain ⟨h1, h2, h3, h4, h5, h6, h7, h8, rfl, rfl, rfl⟩ := hx
  intro H locs la hP hS hL
  subst hst
  have hT : GoodIn aw (va_wsU own idx C owner x M.y (.code M.y M.b M.nL M.rt :: aw)) := fun w hw => by
    have hw2 : w ∈ aw := by
      unfold va_wsU at hw
      rcases List.mem_append.mp hw with hw | hw
      · exact hlk w (by unfold va_wsU; exact List.mem_append_left _ hw)
      · rcases List.mem_cons.mp hw with rfl | hw
        · exact hlk _ (by unfold va_wsU; exact List.mem_append_right _ List.mem_cons_self)
        · exact hw
    exact ⟨hw2, aw_good1 hw2⟩
  have cw := va_cwU (args := args) (s := s) (R := R') (rm := M.rm) (mc := M.rm.cells) (ms := M.rm.slots) (bytes := M.b) (maxL := M.nL) (ret := M.rt) As.length h5 hT rfl rfl rfl hyx har hroom
  refine g_run (va_runU (nL := nL) (As := As) (rest := rest) ⟨h1, h2, h3, h4, h5⟩ hM cw ⟨MGp.blind, ?_, fun U hU hW => ⟨rfl, by rw [hU]; exact hP, by rw [hU]; exact Nat.le_trans h7 hS.1, va_K.moved hW.alike h6, h8.2 _ U hW h8.1, h8.2⟩⟩ rfl rfl (by rw [← h3]; exact hL.1) rfl (lv_room hcat) hd hcs) hS hL kk
  obtain ⟨cell, g1, g2, g3⟩ := va_recv (q0 := 0) (fs := fs) h6 (hP.one hk) hc rfl
  exact ⟨cell, g1, g2, g3⟩
/-- super.m(..) -/
abbrev LkSU (own : String) (idx : Nat) (M : Md) : Prop := ∀ w ∈ va_wsSU own idx M.y [.code M.y M.b M.nL M.rt], w ∈ aw
theorem g_callSU {pc idx b ci : Nat} {C : String} {M : Md} {As rest : List Value} {fs : List Value} {T : u_T} {N : Nat} {Post : Option Value → Hp → Prop} (hx : Ok X l g own cc nL R) (hM : MG l g M (.ref b :: As) σ Post) (hlk : LkSU own idx M) (har : M.y.name ≠ "<init>" ∧ (parseMethodDescriptor M.y.desc).map (fun d => d.parameters.length) = some As.length) (hk : σ.2 b = some (eO ci fs)) (hc : vwCl[ci]? = some (C, T, N)) (hst : st = As.reverse ++ .ref b :: rest) (hcat : (rest.map fun v => v.category).sum ≤ 8) (hroom : M.rm.frames + 1 ≤ R.frames ∧ 8 + (M.nL + 11) + M.rm.locals ≤ R.locals) (hcs : k + M.rm.cells ≤ R.cells ∧ n + M.rm.slots ≤ R.slots) (hd : decode cc pc = .ok (.invokespecial idx, 3)) (kk : ∀ v σ', Post v σ' → G X σ' (k + M.rm.cells) (n + M.rm.slots) (pc + 3) ls (v.toList ++ rest)) : G X σ k n pc ls st := by
  obtain ⟨p, l', e, R', s, m, args, below, meth, c, Q, g'⟩ := X
  obtain ⟨h1, h2, h3, h4, h5, h6, h7, h8, rfl, rfl, rfl⟩ := hx
  intro H locs la hP hS hL
  subst hst
  have hT : GoodIn aw (va_wsSU own idx M.y (.code M.y M.b M.nL M.rt :: aw)) := fun w hw => by
    have hw2 : w ∈ aw := by
      unfold va_wsSU at hw
      rcases List.mem_append.mp hw with hw | hw
      · exact hlk w (by unfold va_wsSU; exact List.mem_append_left _ hw)
      · rcases List.mem_cons.mp hw with rfl | hw
        · exact hlk _ (by unfold va_wsSU; exact List.mem_append_right _ List.mem_cons_self)
        · exact hw
    exact ⟨hw2, aw_good1 hw2⟩
  have cw := va_cwSU (args := args) (s := s) (R := R') (rm := M.rm) (mc := M.rm.cells) (ms := M.rm.slots) (bytes := M.b) (maxL := M.nL) (ret := M.rt) As.length h5 hT rfl rfl rfl har hroom
  refine g_run (va_runSU (nL := nL) (As := As) (rest := rest) (h6.1 ci _ hc).2 ⟨h1, h2, h3, h4, h5⟩ hM cw ⟨MGp.blind, ?_, fun U hU hW => ⟨rfl, by rw [hU]; exact hP, by rw [hU]; exact Nat.le_trans h7 hS.1, va_K.moved hW.alike h6, h8.2 _ U hW h8.1, h8.2⟩⟩ rfl rfl (by rw [← h3]; exact hL.1) rfl (lv_room hcat) hd hcs) hS hL kk
  obtain ⟨cell, g1, g2, g3⟩ := va_recv (q0 := 0) (fs := fs) h6 (hP.one hk) hc rfl
  exact ⟨cell, g1, g2, g3⟩
end GJ
