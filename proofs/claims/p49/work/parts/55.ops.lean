/-! the operations on the stacks, in numbers -/
def uq (g : Nat → Nat) (i v : Nat) : Nat → Nat := fun j => if j = i then v else g j
theorem uq_s (g : Nat → Nat) (i v : Nat) : uq g i v i = v := if_pos rfl
theorem uq_o (g : Nat → Nat) {i v j : Nat} (h : j ≠ i) : uq g i v j = g j := if_neg h
theorem uq_c (g : Nat → Nat) (i v j : Nat) : uq g i v j = if j = i then v else g j := rfl
theorem rg_uq (n : Nat) (φ : Nat → Int32) (g : Nat → Nat) (i v : Nat) : rg n (upd (fun j => φ (g j)) i (φ v)) = rg n (fun j => φ (uq g i v j)) := by
  refine rg_congr fun j _ => ?_
  by_cases h : j = i
  · subst h; rw [uq_s]; exact if_pos rfl
  · rw [uq_o g h]; exact if_neg h
theorem nI_m1 (k : Nat) : nI (k + 1) + (-1) = nI k := by
  rw [← nI_1, Int32.add_assoc, show (1 : Int32) + -1 = 0 from by decide, Int32.add_zero]
theorem nd_1 {α : Type} (a : α) : [a].Nodup := List.nodup_cons.mpr ⟨List.not_mem_nil, List.nodup_nil⟩
def OKs (A : AS) (d : Nat) : Prop := Inv A d ∧ Acc A d
theorem OKs.wide {A : AS} {d d' : Nat} (h : OKs A d) (hd : d ≤ d') : OKs A d' := ⟨h.1.wide hd, h.2.wide hd⟩
section Ops
variable {M : StM} {A : AS} {d : Nat}
theorem Rel.rz (h : Rel M A) {k : Nat} (hk : k < 11) (v : Int32) : lnraise (M.2 15) (nI k) v = rg 11 (upd A.ac k (A.ac k + v)) := by
  rw [h.lf, lr_rg _ v hk (by omega)]
theorem ac_o (g : Nat → Int32) {k j : Nat} (v : Int32) (h : j ≠ k) : upd g k v j = g j := if_neg h
theorem ac_s (g : Nat → Int32) (k : Nat) (v : Int32) : upd g k v k = v := if_pos rfl
/-- a slip is handed in -/
def slA (A : AS) (r f : Nat) : AS := (mkAS A.dy A.pe A.hn A.lm A.F A.R A.mk A.em A.st A.ho A.le A.hv A.rc A.row A.tr (A.sl ++ [mkSp r f A.dy 0]) (upd A.ac 3 (A.ac 3 + 1)))
theorem refA_0 {r f : Nat} (h : refA A r f = 0) : A.ho f ≠ r + 1 ∧ hasS A r f = false ∧ A.sl.length < 16 := by
  unfold refA at h
  by_cases h1 : A.ho f = r + 1
  · rw [if_pos h1] at h; exact absurd h (by decide)
  · rw [if_neg h1] at h
    cases e : hasS A r f with
    | true => rw [if_pos e] at h; exact absurd h (by decide)
    | false =>
      rw [if_neg (by rw [e]; decide)] at h
      by_cases h2 : A.sl.length < 16
      · exact ⟨h1, rfl, h2⟩
      · rw [if_neg h2] at h; exact absurd h (by decide)
theorem e_handIn (h : Rel M A) (hI : Inv A d) {r f : Nat} (hr : r < A.R) (hf : f < A.F) : ∃ M', St_handIn M (nI r) (nI f) = some (if refA A r f = 0 then nI A.sl.length else refA A r f, M') ∧ Rel M' (if refA A r f = 0 then slA A r f else A) := by
  unfold St_handIn
  rw [e_ref h hI hr hf]
  simp only [Option.bind_some, lt']
  by_cases h0 : refA A r f = 0
  · rw [if_pos h0, if_pos h0, if_pos h0]
    obtain ⟨-, -, hl⟩ := refA_0 h0
    have eb : lnadd 16 (M.2 11) (nI r) = (A.sl ++ [mkSp r f A.dy 0]).map (fun s => nI s.r) := by rw [h.lb]; exact la_map (φ := fun s : Sp => nI s.r) (mkSp r f A.dy 0) hl
    have ec : lnadd 16 (M.2 12) (nI f) = (A.sl ++ [mkSp r f A.dy 0]).map (fun s => nI s.f) := by rw [h.lc]; exact la_map (φ := fun s : Sp => nI s.f) (mkSp r f A.dy 0) hl
    have ed : lnadd 16 (M.2 13) (M.1 0) = (A.sl ++ [mkSp r f A.dy 0]).map (fun s => nI s.d) := by rw [h.ld, h.i0]; exact la_map (φ := fun s : Sp => nI s.d) (mkSp r f A.dy 0) hl
    have ex : lnadd 16 (M.2 14) 0 = (A.sl ++ [mkSp r f A.dy 0]).map (fun s => nI s.t) := by rw [h.lx]; exact la_map (φ := fun s : Sp => nI s.t) (mkSp r f A.dy 0) hl
    refine ⟨_, congrArg some (Prod.ext ?_ rfl), ⟨h.i0, h.i1, h.i2, h.i3, h.l0, h.l1, h.l2, h.l3, h.l4, h.l5, h.l6, h.l7, h.la, (eb), (ec), (ed), (ex), (h.rz (k := 3) (by omega) 1)⟩⟩
    show nI (lnadd 16 (M.2 11) (nI r)).length - 1 = nI A.sl.length
    rw [eb, List.length_map, List.length_append]
    exact nI_pred _
  · rw [if_neg h0, if_neg h0, if_neg h0]
    exact ⟨M, rfl, h⟩
theorem i_sl (hO : OKs A d) {r f : Nat} (hr : r < A.R) (hf : f < A.F) (h0 : refA A r f = 0) : OKs (slA A r f) (d + 1) := by
  obtain ⟨hI, n, w, k, a1, a2, a3, a4, a5, a6, a7, a8⟩ := hO
  obtain ⟨h1, h2, h3⟩ := refA_0 h0
  refine ⟨⟨hI.F1, hI.R1, hI.p1, hI.h1, hI.m1, (Nat.le_succ_of_le hI.dy), hI.mk, hI.mi, hI.em, hI.ho, hI.rw, hI.tr, hI.out, hI.s2, hI.rn, hI.tn, hI.hv, hI.hl, (?_), (?_), (?_)⟩, n, w, k + 1, a1, a2, a3, a4, ?_, a6, ?_, by omega⟩
  · intro s hs
    rcases List.mem_append.mp hs with hs | hs
    · exact hI.sl s hs
    · rw [List.mem_singleton.mp hs]; exact ⟨hr, hf, Nat.le_refl _, Nat.zero_le _, h1⟩
  · show ((A.sl ++ [mkSp r f A.dy 0]).map (fun s : Sp => (s.r, s.f))).Nodup
    rw [List.map_append]
    refine List.nodup_append.mpr ⟨hI.sn, nd_1 _, fun a ha b hb e => ?_⟩
    obtain ⟨s, hs, e1⟩ := List.mem_map.mp ha
    rw [List.mem_singleton.mp hb] at e
    rw [e] at e1
    have e1 : (s.r, s.f) = (r, f) := e1
    have e2 := hasS_iff.mpr ⟨s, hs, (Prod.mk.inj e1).1, (Prod.mk.inj e1).2⟩
    rw [h2] at e2; cases e2
  · show (A.sl ++ [mkSp r f A.dy 0]).length ≤ 16
    rw [List.length_append]; exact h3
  · show upd A.ac 3 (A.ac 3 + 1) 3 = _
    rw [ac_s, a5, nI_1]
  · show n + (A.sl ++ [mkSp r f A.dy 0]).length ≤ _
    rw [List.length_append]; show n + (A.sl.length + 1) ≤ k + 1; omega
/-- a slip is taken away -/
def drA (A : AS) (p : Nat) : AS := (mkAS A.dy A.pe A.hn A.lm A.F A.R A.mk A.em A.st A.ho A.le A.hv A.rc A.row A.tr (A.sl.eraseIdx p) A.ac)
theorem e_slRem (h : Rel M A) (hI : Inv A d) {p : Nat} (hp : p < A.sl.length) : Rel (Sl_removeAt M (nI p)) (drA A p) := by
  have hc := hI.sc
  exact ⟨h.i0, h.i1, h.i2, h.i3, h.l0, h.l1, h.l2, h.l3, h.l4, h.l5, h.l6, h.l7, h.la, ((congrArg (fun x => lnrem x (nI p)) h.lb).trans (lm_map hp (by omega))), ((congrArg (fun x => lnrem x (nI p)) h.lc).trans (lm_map hp (by omega))), ((congrArg (fun x => lnrem x (nI p)) h.ld).trans (lm_map hp (by omega))), ((congrArg (fun x => lnrem x (nI p)) h.lx).trans (lm_map hp (by omega))), h.lf⟩
theorem e_take (h : Rel M A) (hI : Inv A d) {p : Nat} (hp : p < 1000) : ∃ M', St_takeAway M (nI p) = (if p < A.sl.length then nI (A.sl.length - 1) else -2, M') ∧ Rel M' (if p < A.sl.length then drA A p else A) := by
  unfold St_takeAway
  rw [e_slHas h hI hp]
  by_cases h1 : p < A.sl.length
  · rw [if_pos h1, if_neg (by decide), if_pos h1, if_pos h1]
    simp only [lt']
    have h2 := e_slRem h hI h1
    refine ⟨_, Prod.ext ?_ rfl, h2⟩
    show Sl_count (Sl_removeAt M (nI p)) = _
    rw [e_cnt_sl h2]
    show nI (A.sl.eraseIdx p).length = _
    rw [List.length_eraseIdx, if_pos h1]
  · rw [if_neg h1, if_pos rfl, if_neg h1, if_neg h1]
    exact ⟨M, rfl, h⟩
theorem i_dr (hO : OKs A d) (p : Nat) : OKs (drA A p) d := by
  obtain ⟨hI, n, w, k, a1, a2, a3, a4, a5, a6, a7, a8⟩ := hO
  have hl : (A.sl.eraseIdx p).length ≤ A.sl.length := List.length_eraseIdx_le _ _
  refine ⟨⟨hI.F1, hI.R1, hI.p1, hI.h1, hI.m1, hI.dy, hI.mk, hI.mi, hI.em, hI.ho, hI.rw, hI.tr, hI.out, hI.s2, hI.rn, hI.tn, hI.hv, hI.hl, (fun s hs => hI.sl s (List.mem_of_mem_eraseIdx hs)), (hI.sn.sublist ((List.eraseIdx_sublist _ _).map _)), (Nat.le_trans hl hI.sc)⟩, n, w, k, a1, a2, a3, a4, a5, a6, ?_, a8⟩
  show n + (A.sl.eraseIdx p).length ≤ _
  omega
/-- a folder is given back -/
def bbA (A : AS) (f : Nat) : AS := (mkAS A.dy A.pe A.hn A.lm A.F A.R A.mk A.em (uq A.st f 2) (uq A.ho f 0) A.le (uq A.hv (A.ho f - 1) (A.hv (A.ho f - 1) - 1)) A.rc A.row (A.tr ++ [f]) A.sl A.ac)
theorem hv_pos (hI : Inv A d) {f : Nat} (hf : f < A.F) (h0 : 0 < A.ho f) : A.ho f - 1 < A.R ∧ 0 < A.hv (A.ho f - 1) := by
  have h1 := hI.ho f hf
  refine ⟨by omega, ?_⟩
  rw [hI.hv _ (by omega)]
  refine Nat.lt_of_lt_of_le ?_ (sm_ge hf _)
  rw [if_pos (by omega)]; exact Nat.one_pos
theorem e_bring (h : Rel M A) (hI : Inv A d) {f : Nat} (hf : f < A.F) : ∃ M', St_bringBack M (nI f) = (if 0 < A.ho f then hoI (A.ho f) else -2, M') ∧ Rel M' (if 0 < A.ho f then bbA A f else A) := by
  have hF := hI.F1; have hR := hI.R1
  unfold St_bringBack
  rw [e_hasF h hI hf, if_neg (by decide)]
  simp only [lt']
  rw [h.g3 hI hf]
  by_cases h0 : 0 < A.ho f
  · rw [if_neg (fun q => by have := (hoI_m1 (hI.hd f hf)).mp q; omega), if_pos h0, if_pos h0]
    obtain ⟨h1, h2⟩ := hv_pos hI hf h0
    have e2 : lnset (M.2 2) (nI f) 2 = rg A.F (fun i => nI (uq A.st f 2 i)) := by rw [h.l2, ls_rg _ _ hf (by omega)]; exact rg_uq A.F nI A.st f 2
    have e3 : lnset (M.2 3) (nI f) (-1) = rg A.F (fun i => hoI (uq A.ho f 0 i)) := by rw [h.l3, ls_rg _ _ hf (by omega)]; exact rg_uq A.F hoI A.ho f 0
    have e5 : lnraise (M.2 5) (hoI (A.ho f)) (-1) = rg A.R (fun i => nI (uq A.hv (A.ho f - 1) (A.hv (A.ho f - 1) - 1) i)) := by
      obtain ⟨r, hr⟩ : ∃ r, A.ho f = r + 1 := ⟨A.ho f - 1, by omega⟩
      rw [hr, Nat.add_sub_cancel] at h1 h2 ⊢
      obtain ⟨c, hc⟩ : ∃ c, A.hv r = c + 1 := ⟨A.hv r - 1, by omega⟩
      rw [hoI_s, h.l5, lr_rg _ _ h1 (by omega), hc, nI_m1, Nat.add_sub_cancel]
      exact rg_uq A.R nI A.hv r c
    have ea : lnadd 24 (M.2 10) (nI f) = ml (A.tr ++ [f]) := by rw [h.la]; exact la_map (φ := nI) f (by have := hI.tl; omega)
    exact ⟨_, rfl, ⟨h.i0, h.i1, h.i2, h.i3, h.l0, h.l1, (e2), (e3), h.l4, (e5), h.l6, h.l7, (ea), h.lb, h.lc, h.ld, h.lx, h.lf⟩⟩
  · rw [if_pos ((hoI_m1 (hI.hd f hf)).mpr (by omega)), if_neg h0, if_neg h0]
    exact ⟨M, rfl, h⟩
theorem i_bb (hO : OKs A d) {f : Nat} (hf : f < A.F) (h0 : 0 < A.ho f) : OKs (bbA A f) d := by
  obtain ⟨hI, hA⟩ := hO
  obtain ⟨h1, h2⟩ := hv_pos hI hf h0
  have hs := (hI.out f hf).mpr h0
  have hv : ∀ r, r < A.R → (bbA A f).hv r = sm A.F (fun g => if (bbA A f).ho g = r + 1 then 1 else 0) ∧ (bbA A f).hv r ≤ A.lm := by
    intro r hr
    have h3 := hI.hv r hr; have h4 := hI.hl r hr
    have h5 := sm_upd hf (g := fun g => if A.ho g = r + 1 then 1 else 0) (g' := fun g => if uq A.ho f 0 g = r + 1 then 1 else 0) (fun j _ hj => by rw [uq_o _ hj])
    rw [uq_s, if_neg (show ¬ 0 = r + 1 by omega)] at h5
    show uq A.hv (A.ho f - 1) _ r = sm A.F (fun g => if uq A.ho f 0 g = r + 1 then 1 else 0) ∧ uq A.hv (A.ho f - 1) _ r ≤ _
    by_cases h6 : r = A.ho f - 1
    · rw [if_pos (show A.ho f = r + 1 by omega)] at h5
      subst h6
      rw [uq_s]
      omega
    · rw [if_neg (show ¬ A.ho f = r + 1 by omega)] at h5
      rw [uq_o _ h6]
      omega
  refine ⟨⟨hI.F1, hI.R1, hI.p1, hI.h1, hI.m1, hI.dy, hI.mk, hI.mi, hI.em, (?_), (?_), (?_), (?_), (?_), hI.rn, (?_), (fun r hr => (hv r hr).1), (fun r hr => (hv r hr).2), (?_), hI.sn, hI.sc⟩, hA⟩
  · intro i hi
    show uq A.ho f 0 i ≤ A.R
    rw [uq_c]
    split
    · exact Nat.zero_le _
    · exact hI.ho i hi
  · intro g
    refine (hI.rw g).trans ?_
    show g < A.F ∧ A.st g = 0 ↔ g < A.F ∧ uq A.st f 2 g = 0
    rw [uq_c]
    by_cases hg : g = f
    · rw [if_pos hg, hg]; omega
    · rw [if_neg hg]
  · intro g
    show g ∈ A.tr ++ [f] ↔ g < A.F ∧ uq A.st f 2 g = 2
    rw [List.mem_append, hI.tr g, List.mem_singleton, uq_c]
    by_cases hg : g = f
    · rw [if_pos hg, hg]; simp [hf]
    · rw [if_neg hg]; simp [hg]
  · intro g hg
    show uq A.st f 2 g = 1 ↔ 0 < uq A.ho f 0 g
    rw [uq_c, uq_c]
    have := hI.out g hg
    split
    · omega
    · exact this
  · intro g hg
    show uq A.st f 2 g ≤ 2
    rw [uq_c]
    split
    · exact Nat.le_refl _
    · exact hI.s2 g hg
  · refine List.nodup_append.mpr ⟨hI.tn, nd_1 _, fun a ha b hb e => ?_⟩
    rw [List.mem_singleton.mp hb] at e
    rw [e] at ha
    have := ((hI.tr f).mp ha).2
    omega
  · intro s hs
    obtain ⟨q1, q2, q3, q4, q5⟩ := hI.sl s hs
    refine ⟨q1, q2, q3, q4, ?_⟩
    show uq A.ho f 0 s.f ≠ s.r + 1
    rw [uq_c]
    split
    · omega
    · exact q5
/-- a folder is closed until a day -/
def cuA (A : AS) (f v : Nat) : AS := (mkAS A.dy A.pe A.hn A.lm A.F A.R A.mk (uq A.em f v) A.st A.ho A.le A.hv A.rc A.row A.tr A.sl A.ac)
theorem e_until (h : Rel M A) (hI : Inv A d) {f : Nat} (hf : f < A.F) (v : Nat) : ∃ M', St_closeUntil M (nI f) (nI v) = (nI (A.em f), M') ∧ Rel M' (cuA A f v) := by
  have hF := hI.F1
  unfold St_closeUntil
  rw [e_hasF h hI hf, if_neg (by decide)]
  simp only [lt']
  rw [h.g1 hI hf]
  have e1 : lnset (M.2 1) (nI f) (nI v) = rg A.F (fun i => nI (uq A.em f v i)) := by rw [h.l1, ls_rg _ _ hf (by omega)]; exact rg_uq A.F nI A.em f v
  exact ⟨_, rfl, ⟨h.i0, h.i1, h.i2, h.i3, h.l0, (e1), h.l2, h.l3, h.l4, h.l5, h.l6, h.l7, h.la, h.lb, h.lc, h.ld, h.lx, h.lf⟩⟩
theorem i_cu (hO : OKs A d) {f v : Nat} (hv : v ≤ 999) : OKs (cuA A f v) d := by
  obtain ⟨hI, hA⟩ := hO
  refine ⟨⟨hI.F1, hI.R1, hI.p1, hI.h1, hI.m1, hI.dy, hI.mk, hI.mi, (fun i hi => ?_), hI.ho, hI.rw, hI.tr, hI.out, hI.s2, hI.rn, hI.tn, hI.hv, hI.hl, hI.sl, hI.sn, hI.sc⟩, hA⟩
  show uq A.em f v i ≤ 999
  rw [uq_c]
  split
  · exact hv
  · exact hI.em i hi
/-- the row in another order -/
def roA (A : AS) (row : List Nat) (ac : Nat → Int32) : AS := (mkAS A.dy A.pe A.hn A.lm A.F A.R A.mk A.em A.st A.ho A.le A.hv A.rc (row) A.tr A.sl (ac))
theorem i_ro (hO : OKs A d) {row : List Nat} {ac : Nat → Int32} (hp : row.Perm A.row) (h3 : ac 3 = A.ac 3) (h4 : ac 4 = A.ac 4) (h6 : ac 6 = A.ac 6) : OKs (roA A row ac) d := by
  obtain ⟨hI, n, w, k, a1, a2, a3, a4, a5, a6, a7, a8⟩ := hO
  exact ⟨⟨hI.F1, hI.R1, hI.p1, hI.h1, hI.m1, hI.dy, hI.mk, hI.mi, hI.em, hI.ho, (fun f => hp.mem_iff.trans (hI.rw f)), hI.tr, hI.out, hI.s2, (hp.nodup_iff.mpr hI.rn), hI.tn, hI.hv, hI.hl, hI.sl, hI.sn, hI.sc⟩, n, w, k, a1, a2, h4.trans a3, h6.trans a4, h3.trans a5, a6, a7, a8⟩
def mvR (row : List Nat) (f p : Nat) : List Nat := (row.eraseIdx (row.idxOf f)).take p ++ f :: (row.eraseIdx (row.idxOf f)).drop p
theorem er_perm {row : List Nat} {f : Nat} (hf : f ∈ row) : (f :: row.eraseIdx (row.idxOf f)).Perm row := by
  induction row with
  | nil => exact absurd hf List.not_mem_nil
  | cons x l ih =>
    by_cases h : x = f
    · subst h
      rw [List.idxOf_cons_self]
      exact List.Perm.refl _
    · rw [List.idxOf_cons, show (x == f) = false from beq_eq_false_iff_ne.mpr h]
      show (f :: x :: l.eraseIdx (l.idxOf f)).Perm (x :: l)
      refine (List.Perm.swap _ _ _).trans (List.Perm.cons _ (ih ?_))
      rcases List.mem_cons.mp hf with q | q
      · exact absurd q.symm h
      · exact q
theorem mv_perm {row : List Nat} {f p : Nat} (hf : f ∈ row) : (mvR row f p).Perm row := by
  unfold mvR
  refine List.perm_middle.trans ?_
  rw [List.take_append_drop]
  exact er_perm hf
theorem mv_idx {row : List Nat} {f p : Nat} (hn : row.Nodup) (hf : f ∈ row) (hp : p < row.length) : (mvR row f p).idxOf f = p := by
  have h1 := List.idxOf_lt_length_of_mem hf
  have hl : (row.eraseIdx (row.idxOf f)).length = row.length - 1 := by rw [List.length_eraseIdx, if_pos h1]
  have hnf : f ∉ row.eraseIdx (row.idxOf f) := by
    exact (List.nodup_cons.mp ((er_perm hf).nodup_iff.mpr hn)).1
  unfold mvR
  rw [List.idxOf_append, if_neg (fun q => hnf (List.mem_of_mem_take q)), List.idxOf_cons_self, List.length_take, hl]
  omega
theorem e_mv (h : Rel M A) (hI : Inv A d) {f p : Nat} (hf : f ∈ A.row) (hp : p < A.row.length) : Rel (setL (setL M 7 (lnrem (M.2 7) (nI (A.row.idxOf f)))) 7 (lnins 24 (lnrem (M.2 7) (nI (A.row.idxOf f))) (nI p) (nI f))) (roA A (mvR A.row f p) A.ac) := by
  have h1 := List.idxOf_lt_length_of_mem hf
  have hl : (A.row.eraseIdx (A.row.idxOf f)).length = A.row.length - 1 := by rw [List.length_eraseIdx, if_pos h1]
  have hr := hI.rl
  have e1 : lnrem (M.2 7) (nI (A.row.idxOf f)) = ml (A.row.eraseIdx (A.row.idxOf f)) := by rw [h.l7]; exact lm_map h1 (by omega)
  have e2 : lnins 24 (lnrem (M.2 7) (nI (A.row.idxOf f))) (nI p) (nI f) = ml (mvR A.row f p) := by rw [e1]; exact li_ml (by omega) (by omega)
  exact ⟨h.i0, h.i1, h.i2, h.i3, h.l0, h.l1, h.l2, h.l3, h.l4, h.l5, h.l6, (e2), h.la, h.lb, h.lc, h.ld, h.lx, h.lf⟩
theorem lp_row (h : Rel M A) (hI : Inv A d) {f : Nat} (hf : f < A.F) : lnpl (M.2 7) (nI f) = if A.st f = 0 then nI (A.row.idxOf f) else -1 := by
  have := hI.F1
  rw [h.l7, lp_ml hI.rb (by omega)]
  by_cases h0 : A.st f = 0
  · rw [if_pos h0, if_pos ((hI.rw f).mpr ⟨hf, h0⟩)]
  · rw [if_neg h0, if_neg (fun q => h0 ((hI.rw f).mp q).2)]
theorem idx_lt (hI : Inv A d) {f : Nat} (hf : f < A.F) (h0 : A.st f = 0) : A.row.idxOf f < A.row.length := List.idxOf_lt_length_of_mem ((hI.rw f).mpr ⟨hf, h0⟩)
theorem e_moveTo (h : Rel M A) (hI : Inv A d) {f p : Nat} (hf : f < A.F) (hp : p < 1000) : ∃ M', Rw_moveTo M (nI f) (nI p) = (if A.st f = 0 then (if p < A.row.length then nI (A.row.idxOf f) else -3) else -2, M') ∧ Rel M' (if A.st f = 0 ∧ p < A.row.length then roA A (mvR A.row f p) A.ac else A) := by
  have hr := hI.rl
  unfold Rw_moveTo
  simp only [lt']
  rw [lp_row h hI hf]
  by_cases h0 : A.st f = 0
  · have h1 := idx_lt hI hf h0
    rw [if_pos h0, if_pos h0, if_neg (q_m1 (by omega)), if_neg (q_neg (by omega)), h.n7]
    by_cases h2 : p < A.row.length
    · rw [if_pos h2, if_pos (show A.st f = 0 ∧ p < A.row.length from ⟨h0, h2⟩), if_pos ((q_lt (by omega) (by omega)).mpr h2)]
      exact ⟨_, rfl, e_mv h hI ((hI.rw f).mpr ⟨hf, h0⟩) h2⟩
    · rw [if_neg h2, if_neg (show ¬ (A.st f = 0 ∧ p < A.row.length) from fun q => h2 q.2), if_neg (fun q => h2 ((q_lt (by omega) (by omega)).mp q))]
      exact ⟨M, rfl, h⟩
  · rw [if_neg h0, if_neg h0, if_pos rfl, if_neg (show ¬ (A.st f = 0 ∧ p < A.row.length) from fun q => h0 q.1)]
    exact ⟨M, rfl, h⟩
/-- how many stand in the row with a smaller mark -/
theorem rnk_lt {row : List Nat} (mk : Nat → Nat) {f : Nat} (hf : f ∈ row) : rnk (rmk mk row) (mk f) < row.length := by
  obtain ⟨i, hi, e⟩ := List.mem_iff_getElem.mp hf
  have hl : (rmk mk row).length = row.length := List.length_map _
  have h1 : (rmk mk row).getD i 0 = mk f := by rw [rmk_d mk hi, List.getD_eq_getElem?_getD, List.getElem?_eq_getElem hi, e]; rfl
  unfold rnk
  rw [hl]
  have h2 := sm_upd hi (g := fun k => if (rmk mk row).getD k 0 < mk f then 1 else 0) (g' := fun k => if k = i then 1 else if (rmk mk row).getD k 0 < mk f then 1 else 0) (fun j _ hj => if_neg hj)
  have h3 : sm row.length (fun k => if k = i then 1 else if (rmk mk row).getD k 0 < mk f then 1 else 0) ≤ sm row.length (fun _ => 1) := sm_le fun j _ => by
    split
    · exact Nat.le_refl _
    · split
      · exact Nat.le_refl _
      · exact Nat.zero_le _
  rw [sm_1] at h3
  rw [if_pos rfl, h1, if_neg (Nat.lt_irrefl _)] at h2
  omega
theorem e_toOrder (h : Rel M A) (hI : Inv A d) {f : Nat} (hf : f < A.F) : ∃ M', Rw_moveToOrder M (nI f) = some (if A.st f = 0 then nI (rnk (rmk A.mk A.row) (A.mk f)) else -2, M') ∧ Rel M' (if A.st f = 0 then roA A (mvR A.row f (rnk (rmk A.mk A.row) (A.mk f))) A.ac else A) := by
  have hr := hI.rl
  unfold Rw_moveToOrder
  simp only [lt']
  rw [lp_row h hI hf]
  by_cases h0 : A.st f = 0
  · have h1 := idx_lt hI hf h0
    rw [if_pos h0, if_pos h0, if_pos h0, if_neg (q_m1 (by omega)), h.g0 hI hf, Rw_placeInOrder_eq (h.rm hI) (by have := hI.mk f hf; omega)]
    simp only [Option.bind_some]
    exact ⟨_, rfl, e_mv h hI ((hI.rw f).mpr ⟨hf, h0⟩) (rnk_lt A.mk ((hI.rw f).mpr ⟨hf, h0⟩))⟩
  · rw [if_neg h0, if_neg h0, if_neg h0, if_pos rfl]
    exact ⟨M, rfl, h⟩
theorem e_swap (h : Rel M A) (hI : Inv A d) {m : Nat} (hm : m < 900) : ∃ M', St_swapNeighbours M (nI m) = some (nI (sws A.mk m A.row).1, M') ∧ Rel M' (roA A (sws A.mk m A.row).2 (upd A.ac 9 (A.ac 9 + nI (sws A.mk m A.row).1))) := by
  unfold St_swapNeighbours
  rw [Rw_swap_eq (h.rm hI) hm]
  simp only [Option.bind_some, lt']
  exact ⟨_, rfl, ⟨h.i0, h.i1, h.i2, h.i3, h.l0, h.l1, h.l2, h.l3, h.l4, h.l5, h.l6, (rfl), h.la, h.lb, h.lc, h.ld, h.lx, (h.rz (k := 9) (by omega) _)⟩⟩
theorem d_row (hI : Inv A d) : Dst (rmk A.mk A.row) := by
  intro a b hab hb e
  have hl : (rmk A.mk A.row).length = A.row.length := List.length_map _
  rw [rmk_d A.mk (by omega), rmk_d A.mk (by omega)] at e
  have ha := (hI.rw _).mp (gdn_mem (l := A.row) (i := a) (by omega))
  have hb' := (hI.rw _).mp (gdn_mem (l := A.row) (i := b) (by omega))
  have e2 := hI.mi _ _ ha.1 hb'.1 e
  rw [List.getD_eq_getElem?_getD, List.getD_eq_getElem?_getD, List.getElem?_eq_getElem (by omega), List.getElem?_eq_getElem (by omega)] at e2
  have e3 : A.row[a]? = A.row[b]? := by rw [List.getElem?_eq_getElem (by omega), List.getElem?_eq_getElem (by omega)]; exact congrArg some e2
  have := (List.getElem?_inj (by omega) hI.rn).mp e3
  omega
end Ops
