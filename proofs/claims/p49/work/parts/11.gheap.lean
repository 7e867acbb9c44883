theorem cls_in0 : ∀ w ∈ vwCl.flatMap (fun q => u_ws q.1 q.2.1 q.2.2), w ∈ aw := aw_of (by decide +kernel)
theorem cls_in : ∀ q ∈ vwCl, ∀ w ∈ u_ws q.1 q.2.1 q.2.2, w ∈ aw := fun q hq w hw => cls_in0 w (List.mem_flatMap.mpr ⟨q, hq, hw⟩)
theorem cls_ty : ∀ q ∈ vwCl, ∀ k, k < q.2.2 → (parseFieldDescriptor (q.2.1 k).2.2.1).isSome = true := by decide +kernel
theorem cls_nm : ∀ q ∈ vwCl, ∀ a, a < q.2.2 → ∀ b, b < q.2.2 → a ≠ b → (q.2.1 a).2.1 ≠ (q.2.1 b).2.1 := by decide +kernel
def tyOf (T : u_T) (k : Nat) : FieldType := (parseFieldDescriptor (T k).2.2.1).getD .int
theorem cls_tyOf {C : String} {T : u_T} {N ci : Nat} (hc : vwCl[ci]? = some (C, T, N)) : ∀ k, k < N → parseFieldDescriptor (T k).2.2.1 = some (tyOf T k) := by
  intro k hk
  have h := cls_ty _ (List.mem_of_getElem? hc) k hk
  unfold tyOf
  cases hp : parseFieldDescriptor (T k).2.2.1 with
  | none => rw [hp] at h; cases h
  | some t => rfl
/-- one cell of the symbolic heap, as a world of the kit's -/
theorem HP.one {g : Gl} {σ : Hp} {H : Heap} {k : Nat} {e : (Nat × vp_A) ⊕ (Nat × List Value)} (h : HP g σ H) (hk : σ.2 k = some (.inl e)) : va_P g.2.1 vwCl [(k, match e with | .inl a => .inl (g.2.2.1 a.1, a.2) | .inr o => .inr o)] H := by
  intro i q hi
  have hz : i < 1 := (List.getElem?_eq_some_iff.mp hi).1
  rw [show i = 0 by omega] at hi
  cases hi
  rcases e with ⟨t, a⟩ | o
  · exact (h.2 k _ hk).2
  · exact (h.2 k _ hk).2
section GH
variable {X : Cx} {l : Launch} {g : Gl} {own : String} {cc : ByteArray} {nL : Nat} {R : Room} {σ : Hp} {k n : Nat} {ls : List (Nat × Value)} {st : List Value}
theorem g_get (hx : Ok X l g own cc nL R) (pc : Nat) {b ci : Nat} {fs : List Value} {C : String} {T : u_T} {N idx : Nat} (f : Nat) (v : Value) (hk : σ.2 b = some (eO ci fs)) (hc : vwCl[ci]? = some (C, T, N)) (hf : f < N) (hv : fs[f]? = some v) (hlk : Cond.fieldLink own idx (T f).1 (T f).2.1 (T f).2.2.1 ∈ aw) (hd : decode cc pc = .ok (.getfield idx, 3)) (h : G X σ k n (pc + 3) ls (v :: st)) : G X σ k n pc ls (.ref b :: st) := by
  obtain ⟨p, l', e, R', s, m, args, below, meth, c, Q, g'⟩ := X
  obtain ⟨h1, h2, h3, h4, h5, h6, h7, h8, rfl, rfl, rfl⟩ := hx
  intro H locs la hP hS hL
  exact va_get h1 h2 h5 (cls_in _ (List.mem_of_getElem? hc)) h4 h6 (hP.one hk) 0 rfl hc f hf (h5 _ hlk) (fun _ h9 => h9) hv hd (h H locs la hP hS hL)
theorem g_put (hx : Ok X l g own cc nL R) (pc : Nat) {b ci : Nat} {fs : List Value} {C : String} {T : u_T} {N idx : Nat} (f : Nat) {v : Value} (ty : FieldType) (fs' : List Value) (hk : σ.2 b = some (eO ci fs)) (hc : vwCl[ci]? = some (C, T, N)) (hf : f < N) (hlk : Cond.fieldLink own idx (T f).1 (T f).2.1 (T f).2.2.1 ∈ aw) (hfin : (T f).2.2.2 = false) (hty : parseFieldDescriptor (T f).2.2.1 = some ty) (hn : narrow ty v = v) (hfit : fits ty v = true) (hl : f < fs.length) (hfs : fs.set f v = fs') (hd : decode cc pc = .ok (.putfield idx, 3)) (h : G X (hset σ b (eO ci fs')) k n (pc + 3) ls st) : G X σ k n pc ls (v :: .ref b :: st) := by
  obtain ⟨p, l', e, R', s, m, args, below, meth, c, Q, g'⟩ := X
  obtain ⟨h1, h2, h3, h4, h5, h6, h7, h8, rfl, rfl, rfl⟩ := hx
  intro H locs la hP hS hL
  subst hfs
  have hap := va_apart (own := own) h5 (cls_in _ (List.mem_of_getElem? hc)) (tyOf T) (cls_tyOf hc) (cls_nm _ (List.mem_of_getElem? hc)) h6 hc
  have hPb := hP.2 b _ hk
  obtain ⟨r, e1, cell, q1, q2, q3, q4⟩ := hPb.2
  have hr : r = (C, T, N) := Option.some.inj (e1.symm.trans hc)
  subst hr
  obtain ⟨hS', hfc, kC, hkC, hkind⟩ := h6.1 ci _ hc
  obtain ⟨cf, kf, fi, f', hi, hsl⟩ := hS' f hf
  have hlay := h5 _ (cls_in _ (List.mem_of_getElem? hc) _ (u_in_lay hf))
  unfold u_lay at hlay
  rw [if_neg (by rw [hfin]; decide)] at hlay
  have hst := (u_facts hfc hkC (u_lays h5 (cls_in _ (List.mem_of_getElem? hc)) hf) hi).1
  have h9 := u_store hfc hkC hkind hlay hi hty hn hfit
  refine W.putK h1 h2 (f := f') ⟨h4, h5 _ hlk, ⟨_, _, _, hi⟩, hst⟩ (by rw [q2]; exact h9) q1 q3 (by rw [hsl]; exact k2_hasslot (q4 f hf)) rfl rfl hd fun H' e1 e2 e3 => ?_
  rw [hsl] at e1 ⊢
  exact h H' _ la (hP.set hk (show entAt _ _ (eO ci (fs.set f v)) H' from ⟨_, hc, t_OB.to (V := updV (vp_V fs) f v) ⟨_, e1, q2, q3, t_set q4 hap hf v⟩ (fun j _ => vp_updV_set hl v j)⟩) e2 e3) (hS.put e2 e3 hPb.1) hL
theorem g_putF (hx : Ok X l g own cc nL R) (pc : Nat) {b ci : Nat} {fs : List Value} {C : String} {T : u_T} {N idx : Nat} (f : Nat) {v : Value} (ty : FieldType) (fs' : List Value) (hin : X.2.2.2.2.2.2.2.2.1.name = "<init>") (hk : σ.2 b = some (eO ci fs)) (hc : vwCl[ci]? = some (C, T, N)) (hf : f < N) (hlk : Cond.fieldLink own idx (T f).1 (T f).2.1 (T f).2.2.1 ∈ aw) (hfin : (T f).2.2.2 = true) (hdecl : (T f).1 = own) (hty : parseFieldDescriptor (T f).2.2.1 = some ty) (hn : narrow ty v = v) (hfit : fits ty v = true) (hl : f < fs.length) (hfs : fs.set f v = fs') (hd : decode cc pc = .ok (.putfield idx, 3)) (h : G X (hset σ b (eO ci fs')) k n (pc + 3) ls st) : G X σ k n pc ls (v :: .ref b :: st) := by
  obtain ⟨p, l', e, R', s, m, args, below, meth, c, Q, g'⟩ := X
  obtain ⟨h1, h2, h3, h4, h5, h6, h7, h8, rfl, rfl, rfl⟩ := hx
  intro H locs la hP hS hL
  subst hfs
  have hap := va_apart (own := own) h5 (cls_in _ (List.mem_of_getElem? hc)) (tyOf T) (cls_tyOf hc) (cls_nm _ (List.mem_of_getElem? hc)) h6 hc
  have hPb := hP.2 b _ hk
  obtain ⟨r, e1, cell, q1, q2, q3, q4⟩ := hPb.2
  have hr : r = (C, T, N) := Option.some.inj (e1.symm.trans hc)
  subst hr
  obtain ⟨hS', hfc, kC, hkC, hkind⟩ := h6.1 ci _ hc
  obtain ⟨cf, kf, fi, f', hi, hsl⟩ := hS' f hf
  have hlay := h5 _ (cls_in _ (List.mem_of_getElem? hc) _ (u_in_lay hf))
  unfold u_lay at hlay
  rw [if_pos hfin] at hlay
  have hst := (u_facts hfc hkC (u_lays h5 (cls_in _ (List.mem_of_getElem? hc)) hf) hi).1
  have hcf : m.cls = cf := by
    obtain ⟨_, _, c', _, _, _, -, -, hf', -, -, -, hown2, -⟩ := Cond.laysFinal_spec hlay
    have e1 : c' = cf := by have := hi.symm.trans hf'; simp at this; exact this.1.symm
    rw [hdecl] at hown2
    rw [← e1]; exact Option.some.inj (h4.symm.trans hown2)
  have h9 := u_fits hfc hkC hkind (Or.inr hlay) hi hty hn hfit
  refine W.putFinK h1 h2 h4 (h5 _ hlk) hi hst hcf hin (by rw [q2]; exact h9) q1 q3 (by rw [hsl]; exact k2_hasslot (q4 f hf)) rfl rfl hd fun H' e1 e2 e3 => ?_
  rw [hsl] at e1 ⊢
  exact h H' _ la (hP.set hk (show entAt _ _ (eO ci (fs.set f v)) H' from ⟨_, hc, t_OB.to (V := updV (vp_V fs) f v) ⟨_, e1, q2, q3, t_set q4 hap hf v⟩ (fun j _ => vp_updV_set hl v j)⟩) e2 e3) (hS.put e2 e3 hPb.1) hL
theorem g_iald (hx : Ok X l g own cc nL R) (pc : Nat) {b N : Nat} {f : Nat → Int32} {i : Int32} (hk : σ.2 b = some (eI N f)) (hin : vp_in i N) (hd : decode cc pc = .ok (.iaload, 1)) (h : G X σ k n (pc + 1) ls (.int (f i.toNatClampNeg) :: st)) : G X σ k n pc ls (.int i :: .ref b :: st) := by
  obtain ⟨p, l', e, R', s, m, args, below, meth, c, Q, g'⟩ := X
  obtain ⟨h1, h2, h3, h4, h5, h6, h7, h8, rfl, rfl, rfl⟩ := hx
  intro H locs la hP hS hL
  exact va_iald h1 h2 h6 (hP.one hk) 0 0 rfl rfl hin hd (h H locs la hP hS hL)
theorem g_alen (hx : Ok X l g own cc nL R) (pc : Nat) {b N : Nat} {f : Nat → Int32} (hk : σ.2 b = some (eI N f)) (hd : decode cc pc = .ok (.arraylength, 1)) (h : G X σ k n (pc + 1) ls (.int (nI N) :: st)) : G X σ k n pc ls (.ref b :: st) := by
  obtain ⟨p, l', e, R', s, m, args, below, meth, c, Q, g'⟩ := X
  obtain ⟨h1, h2, h3, h4, h5, h6, h7, h8, rfl, rfl, rfl⟩ := hx
  intro H locs la hP hS hL
  exact va_alen h1 h2 h6 (hP.one hk) 0 0 rfl rfl rfl hd (h H locs la hP hS hL)
theorem g_iast (hx : Ok X l g own cc nL R) (pc : Nat) {b N : Nat} {f : Nat → Int32} {i x : Int32} (hk : σ.2 b = some (eI N f)) (hin : vp_in i N) (hd : decode cc pc = .ok (.iastore, 1)) (h : G X (hset σ b (eI N (upd f i.toNatClampNeg x))) k n (pc + 1) ls st) : G X σ k n pc ls (.int x :: .int i :: .ref b :: st) := by
  obtain ⟨p, l', e, R', s, m, args, below, meth, c, Q, g'⟩ := X
  obtain ⟨h1, h2, h3, h4, h5, h6, h7, h8, rfl, rfl, rfl⟩ := hx
  intro H locs la hP hS hL
  have hPb := hP.2 b _ hk
  refine W.iast h1 h2 (hP.one hk 0 _ rfl) ((h6.2 0 _ rfl).1 N (fun j => .int (f j))) (fun q => by cases q) (by show ¬ (i < 0 ∨ (arrV _ _ _).slots.size ≤ _); rw [arrV_size]; exact hin) rfl rfl hd fun H1 e z oq => ?_
  refine h H1 _ la (hP.set hk ?_ z oq) (hS.put z oq hPb.1) hL
  show H1[b]? = some (vp_cell _ _)
  rw [e]
  rw [vp_cell_i, vp_cell_i, arrV_store]
  congr 2
  funext q
  by_cases hq : q = i.toNatClampNeg
  · subst hq
    simp [updV, upd]
  · simp [updV, upd, hq]
theorem g_new (hx : Ok X l g own cc nL R) (pc : Nat) {ci : Nat} {C : String} {T : u_T} {N idx : Nat} (fs : List Value) (hc : vwCl[ci]? = some (C, T, N)) (hlk : Cond.classLink own idx C ∈ aw) (hin : Cond.instantiable C N ∈ aw) (hini : Cond.initialized C ∈ aw) (hfs : ∀ j, j < N → defaultValue (tyOf T j) = vp_V fs j) (hroom : k + 1 ≤ R.cells ∧ n + N ≤ R.slots) (hd : decode cc pc = .ok (.new idx, 3)) (h : G X (hpush σ (eO ci fs)) (k + 1) (n + N) (pc + 3) ls (.ref σ.1 :: st)) : G X σ k n pc ls st := by
  obtain ⟨p, l', e, R', s, m, args, below, meth, c, Q, g'⟩ := X
  obtain ⟨h1, h2, h3, h4, h5, h6, h7, h8, rfl, rfl, rfl⟩ := hx
  intro H locs la hP hS hL
  have hKn := h6.1 ci _ hc
  refine W.newcK h1 h2 h4 (h5 _ hlk) (h5 _ hin) (h5 _ hini) rfl hd hroom.1 hroom.2 hKn.2.1 hP.1.1 fun H1 kC hkC e1 z1 o1 => ?_
  rw [← hP.1.1] at z1 o1
  refine h H1 locs la (hP.push (Nat.le_trans h7 hS.1) ⟨_, hc, (u_born (tyOf T) h5 (cls_in _ (List.mem_of_getElem? hc)) hKn hkC e1 (cls_tyOf hc)).to hfs⟩ z1 o1) ⟨Nat.le_trans hS.1 (by omega), fun x g1 g2 => (o1 x (Nat.lt_of_lt_of_le g1 hS.1)).trans (hS.2.1 x g1 g2), hS.2.2⟩ hL
theorem g_newI (hx : Ok X l g own cc nL R) (pc : Nat) {x : Int32} (N : Nat) (hw : Cond.arrayClass .int ∈ aw) (h0 : ¬ x < 0) (hN : x.toNatClampNeg = N) (hb : N * componentBytes .int ≤ 536870912) (hroom : k + 1 ≤ R.cells ∧ n + N ≤ R.slots) (hd : decode cc pc = .ok (.newarray .int, 2)) (h : G X (hpush σ (eI N (fun _ => 0))) (k + 1) (n + N) (pc + 2) ls (.ref σ.1 :: st)) : G X σ k n pc ls (.int x :: st) := by
  obtain ⟨p, l', e, R', s, m, args, below, meth, c, Q, g'⟩ := X
  obtain ⟨h1, h2, h3, h4, h5, h6, h7, h8, rfl, rfl, rfl⟩ := hx
  intro H locs la hP hS hL
  refine va_newaK (atype := .int) h1 h2 (h5 _ hw) rfl hd rfl h0 hN hb hroom.1 hroom.2 hP.1.1 fun H1 cA e1 z1 o1 hAr hNm => ?_
  rw [← hP.1.1] at z1 o1
  have hcA : cA = g'.2.2.1 0 := Option.some.inj (hNm.symm.trans (h6.2 0 _ rfl).2)
  subst hcA
  exact h H1 locs la (hP.push (Nat.le_trans h7 hS.1) (show H1[σ.1]? = some (vp_cell _ _) from e1) z1 o1) ⟨Nat.le_trans hS.1 (by omega), fun x g1 g2 => (o1 x (Nat.lt_of_lt_of_le g1 hS.1)).trans (hS.2.1 x g1 g2), hS.2.2⟩ hL
end GH
