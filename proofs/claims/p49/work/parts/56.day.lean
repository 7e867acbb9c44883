/-! a day: the trolley, the searches, the serving -/
def pbL (rm : List Nat) (m : Nat) (L : List Nat) : Nat := match L.getLast? with
  | none => 0
  | some q => if rm.getD q 0 ≤ m then q + 1 else q
def pbm (rm : List Nat) (m : Nat) : Nat := pbL rm m (halv rm m).2
theorem e_pbm {M : StM} {mk : Nat → Nat} {row : List Nat} (h : RM M mk row) {m : Nat} (hm : m < 100000) {L : List Nat} (h8 : M.2 8 = ml L) (hL : ∀ x ∈ L, x < row.length) (hl : L.length ≤ 24) : Rw_placeBehindMiss M (nI m) = nI (pbL (rmk mk row) m L) := by
  unfold Rw_placeBehindMiss pbL
  simp only [lt']
  have hr := h.2.1
  rw [h8, ml_len]
  rcases List.eq_nil_or_concat L with rfl | ⟨l, q, rfl⟩
  · rw [lg_neg (show nI ([] : List Nat).length - 1 < 0 by decide), if_pos rfl]; rfl
  · have hq := hL q (by simp)
    rw [List.concat_eq_append] at hl ⊢
    rw [List.length_append] at hl ⊢
    rw [show nI (l.length + [q].length) - 1 = nI l.length from nI_pred _, lg_ml (by rw [List.length_append]; exact Nat.lt_succ_self _) (by rw [List.length_append]; omega)]
    rw [show (l ++ [q]).getD l.length 0 = q by simp, if_neg (q_m1 (by omega))]
    obtain ⟨a, b⟩ := h.mark hq
    rw [a, show (l ++ [q]).getLast? = some q by simp]
    show (if nI ((rmk mk row).getD q 0) ≤ nI m then nI q + 1 else nI q) = nI (if (rmk mk row).getD q 0 ≤ m then q + 1 else q)
    by_cases h1 : (rmk mk row).getD q 0 ≤ m
    · rw [if_pos ((q_le b hm).mpr h1), nI_1, if_pos h1]
    · rw [if_neg (fun z => h1 ((q_le b hm).mp z)), if_neg h1]
theorem pb_le (rm : List Nat) (m : Nat) : pbm rm m ≤ rm.length := by
  unfold pbm pbL
  split
  · exact Nat.zero_le _
  · rename_i q hq
    have := (hal_mem rm m 24 0 rm.length q (List.mem_of_getLast? hq)).2
    split <;> omega
theorem halv_l24 (rm : List Nat) (m : Nat) (h : rm.length < 32) : (halv rm m).2.length ≤ 5 := hal_len rm m 5 24 0 rm.length (by omega)
/-- one folder from the trolley back into the row -/
def rf1 (A : AS) (f : Nat) : AS := (mkAS A.dy A.pe A.hn A.lm A.F A.R A.mk A.em (uq A.st f 0) A.ho A.le A.hv A.rc (A.row.take (pbm (rmk A.mk A.row) (A.mk f)) ++ f :: A.row.drop (pbm (rmk A.mk A.row) (A.mk f))) A.tr A.sl (upd A.ac 7 (A.ac 7 + nI (halv (rmk A.mk A.row) (A.mk f)).2.length)))
def rfE (B : AS) (n : Nat) : AS := (mkAS B.dy B.pe B.hn B.lm B.F B.R B.mk B.em B.st B.ho B.le B.hv B.rc B.row ([]) B.sl (upd B.ac 8 (B.ac 8 + nI n)))
def rfA (A : AS) : AS := rfE (A.tr.foldl rf1 A) A.tr.length
theorem Rel.to_rf {M : StM} {A : AS} (h : Rel M A) {L8 X15 X7 X2 : List Int32} {row : List Nat} {st : Nat → Nat} {ac : Nat → Int32} (e15 : X15 = rg 11 ac) (e7 : X7 = ml row) (e2 : X2 = rg A.F (fun i => nI (st i))) : Rel (setL (setL (setL (setL M 8 L8) 15 X15) 7 X7) 2 X2) (mkAS A.dy A.pe A.hn A.lm A.F A.R A.mk A.em (st) A.ho A.le A.hv A.rc (row) A.tr A.sl (ac)) := ⟨h.i0, h.i1, h.i2, h.i3, h.l0, h.l1, (e2), h.l3, h.l4, h.l5, h.l6, (e7), h.la, h.lb, h.lc, h.ld, h.lx, (e15)⟩
theorem w_rf : ∀ (T : List Nat) (i fuel : Nat) (M : StM) (A : AS), Rel M A → A.F ≤ 14 → (∀ f, f < A.F → A.mk f < 1000) → (∀ f ∈ A.row, f < A.F) → (∀ f ∈ A.tr, f < A.F) → A.tr.drop i = T → A.row.length + T.length ≤ 14 → A.tr.length ≤ 14 → i ≤ A.tr.length → T.length < fuel → ∃ M', St_refileTrolley_L2 fuel M (nI i) = some M' ∧ Rel M' (rfE (T.foldl rf1 A) A.tr.length) := by
  intro T
  induction T with
  | nil =>
    intro i fuel M A h hF hm hr ht hT h1 h2 h3 hf
    obtain ⟨fuel, rfl⟩ : ∃ k, fuel = k + 1 := ⟨fuel - 1, by omega⟩
    have h4 : A.tr.length ≤ i := List.drop_eq_nil_iff.mp hT
    unfold St_refileTrolley_L2
    rw [h.na, if_pos ((q_le (by omega) (by omega)).mpr h4)]
    exact ⟨_, rfl, ⟨h.i0, h.i1, h.i2, h.i3, h.l0, h.l1, h.l2, h.l3, h.l4, h.l5, h.l6, h.l7, (rfl), h.lb, h.lc, h.ld, h.lx, (h.rz (k := 8) (by omega) _)⟩⟩
  | cons f T ih =>
    intro i fuel M A h hF hm hr ht hT h1 h2 h3 hf
    obtain ⟨fuel, rfl⟩ : ∃ k, fuel = k + 1 := ⟨fuel - 1, by omega⟩
    have h1 : A.row.length + (T.length + 1) ≤ 14 := h1
    have hf : T.length + 1 < fuel + 1 := hf
    have hi : i < A.tr.length := by
      rcases Nat.lt_or_ge i A.tr.length with q | q
      · exact q
      · rw [List.drop_eq_nil_of_le q] at hT; cases hT
    have hT2 := hT
    rw [List.drop_eq_getElem_cons hi] at hT2
    obtain ⟨e1, e2⟩ := List.cons.inj hT2
    have hfm : f ∈ A.tr := by rw [← e1]; exact List.getElem_mem hi
    have hfF := ht f hfm
    have hR : RM M A.mk A.row := ⟨h.l7, by omega, fun g hg => by have := hr g hg; omega, fun g hg => by
      rw [h.l0, lg_rg _ (hr g hg) (by omega)]
      exact ⟨rfl, by have := hm g (hr g hg); omega⟩⟩
    have hmf : A.mk f < 100000 := by have := hm f hfF; omega
    have eg : lnget (M.2 10) (nI i) = nI f := by rw [h.la, lg_ml hi (by omega), List.getD_eq_getElem?_getD, List.getElem?_eq_getElem hi, ← e1]; rfl
    have em : lnget (M.2 0) (nI f) = nI (A.mk f) := by rw [h.l0, lg_rg _ hfF (by omega)]
    have hrl : (rmk A.mk A.row).length = A.row.length := List.length_map _
    have hpb := pb_le (rmk A.mk A.row) (A.mk f)
    unfold St_refileTrolley_L2
    rw [h.na, if_neg (nI_ge hi (by omega))]
    simp only [lt']
    rw [eg, em, Rw_halve_eq hR hmf]
    simp only [Option.bind_some]
    have e15 : lnraise (M.2 15) 7 (nI (ml (halv (rmk A.mk A.row) (A.mk f)).2).length) = rg 11 (upd A.ac 7 (A.ac 7 + nI (halv (rmk A.mk A.row) (A.mk f)).2.length)) := by rw [ml_len]; exact h.rz (k := 7) (by omega) _
    have epb : Rw_placeBehindMiss (setL (setL M 8 (ml (halv (rmk A.mk A.row) (A.mk f)).2)) 15 (lnraise (M.2 15) 7 (nI (ml (halv (rmk A.mk A.row) (A.mk f)).2).length))) (nI (A.mk f)) = nI (pbm (rmk A.mk A.row) (A.mk f)) :=
      e_pbm ((hR.of8 8 (by omega) _).of8 15 (by omega) _) hmf (L := (halv (rmk A.mk A.row) (A.mk f)).2) rfl (fun x hx => by have := hal_mem _ _ _ _ _ x hx; omega) (by have := halv_l24 (rmk A.mk A.row) (A.mk f) (by omega); omega)
    have e7 : lnins 24 (M.2 7) (Rw_placeBehindMiss (setL (setL M 8 (ml (halv (rmk A.mk A.row) (A.mk f)).2)) 15 (lnraise (M.2 15) 7 (nI (ml (halv (rmk A.mk A.row) (A.mk f)).2).length))) (nI (A.mk f))) (nI f) = ml (rf1 A f).row := by
      rw [epb, h.l7]; exact li_ml (by omega) (by omega)
    have e2' : lnset (M.2 2) (nI f) 0 = rg A.F (fun i => nI (uq A.st f 0 i)) := by rw [h.l2, ls_rg _ _ hfF (by omega)]; exact rg_uq A.F nI A.st f 0
    have hn : Rel (setL (setL (setL (setL M 8 (ml (halv (rmk A.mk A.row) (A.mk f)).2)) 15 (lnraise (M.2 15) 7 (nI (ml (halv (rmk A.mk A.row) (A.mk f)).2).length))) 7 (lnins 24 (M.2 7) (Rw_placeBehindMiss (setL (setL M 8 (ml (halv (rmk A.mk A.row) (A.mk f)).2)) 15 (lnraise (M.2 15) 7 (nI (ml (halv (rmk A.mk A.row) (A.mk f)).2).length))) (nI (A.mk f))) (nI f))) 2 (lnset (M.2 2) (nI f) 0)) (rf1 A f) :=
      Rel.to_rf h e15 e7 e2'
    have hlen : (rf1 A f).row.length = A.row.length + 1 := by
      show (A.row.take _ ++ f :: A.row.drop _).length = _
      rw [List.length_append, List.length_cons, List.length_take, List.length_drop]
      omega
    rw [nI_1]
    exact ih (i + 1) fuel _ (rf1 A f) hn hF hm (fun g hg => by
      have hg : g ∈ A.row.take _ ++ f :: A.row.drop _ := hg
      rcases List.mem_append.mp hg with q | q
      · exact hr g (List.mem_of_mem_take q)
      · rcases List.mem_cons.mp q with q | q
        · rw [q]; exact hfF
        · exact hr g (List.mem_of_mem_drop q)) ht e2 (by rw [hlen]; omega) h2 hi (by omega)
theorem rf_fold : ∀ (T : List Nat) (A : AS), ∃ row st ac, T.foldl rf1 A = (mkAS A.dy A.pe A.hn A.lm A.F A.R A.mk A.em (st) A.ho A.le A.hv A.rc (row) A.tr A.sl (ac)) ∧ row.Perm (T ++ A.row) ∧ (∀ f, st f = if f ∈ T then 0 else A.st f) ∧ ∀ k, k ≠ 7 → ac k = A.ac k := by
  intro T
  induction T with
  | nil => exact fun A => ⟨A.row, A.st, A.ac, rfl, List.Perm.refl _, fun f => (if_neg List.not_mem_nil).symm, fun k _ => rfl⟩
  | cons g T ih =>
    intro A
    obtain ⟨row, st, ac, e, h1, h2, h3⟩ := ih (rf1 A g)
    refine ⟨row, st, ac, e, ?_, fun f => ?_, fun k hk => (h3 k hk).trans (if_neg hk)⟩
    · refine h1.trans ?_
      show (T ++ (A.row.take _ ++ g :: A.row.drop _)).Perm (g :: T ++ A.row)
      refine ((List.Perm.append_left T (List.perm_middle.trans (by rw [List.take_append_drop]))).trans (List.perm_middle)).trans (List.Perm.refl _)
    · rw [h2 f]
      show (if f ∈ T then 0 else uq A.st g 0 f) = _
      rw [uq_c]
      by_cases h4 : f ∈ T
      · rw [if_pos h4, if_pos (List.mem_cons_of_mem _ h4)]
      · rw [if_neg h4]
        by_cases h5 : f = g
        · rw [if_pos h5, if_pos (by rw [h5]; exact List.mem_cons_self)]
        · rw [if_neg h5, if_neg (fun q => by
            rcases List.mem_cons.mp q with q | q
            · exact h5 q
            · exact h4 q)]
section Day
variable {M : StM} {A : AS} {d : Nat}
theorem e_rf (h : Rel M A) (hI : Inv A d) : ∃ M', St_refileTrolley M = some M' ∧ Rel M' (rfA A) :=
  w_rf A.tr 0 FU M A h hI.F1.2 hI.mk (fun f hf => ((hI.rw f).mp hf).1) (fun f hf => ((hI.tr f).mp hf).1) rfl (by have := hI.all; have := hI.F1; omega) hI.tl (Nat.zero_le _) (by have := hI.tl; unfold FU; omega)
/-- what a day leaves as it was -/
def Fr (A B : AS) : Prop := (B.pe = A.pe) ∧ (B.hn = A.hn) ∧ (B.lm = A.lm) ∧ (B.F = A.F) ∧ (B.R = A.R) ∧ (B.mk = A.mk) ∧ (B.em = A.em) ∧ (∀ r f, hasS B r f = true → hasS A r f = true)
theorem Fr.pe {A B : AS} (h : Fr A B) : B.pe = A.pe := h.1
theorem Fr.hn {A B : AS} (h : Fr A B) : B.hn = A.hn := h.2.1
theorem Fr.lm {A B : AS} (h : Fr A B) : B.lm = A.lm := h.2.2.1
theorem Fr.F {A B : AS} (h : Fr A B) : B.F = A.F := h.2.2.2.1
theorem Fr.R {A B : AS} (h : Fr A B) : B.R = A.R := h.2.2.2.2.1
theorem Fr.mk {A B : AS} (h : Fr A B) : B.mk = A.mk := h.2.2.2.2.2.1
theorem Fr.em {A B : AS} (h : Fr A B) : B.em = A.em := h.2.2.2.2.2.2.1
theorem Fr.hs {A B : AS} (h : Fr A B) : ∀ r f, hasS B r f = true → hasS A r f = true := h.2.2.2.2.2.2.2
theorem rf_sp (A : AS) : ∃ row st ac, rfA A = (mkAS A.dy A.pe A.hn A.lm A.F A.R A.mk A.em (st) A.ho A.le A.hv A.rc (row) ([]) A.sl (ac)) ∧ row.Perm (A.tr ++ A.row) ∧ (∀ f, st f = if f ∈ A.tr then 0 else A.st f) ∧ ∀ k, k ≠ 7 → k ≠ 8 → ac k = A.ac k := by
  obtain ⟨row, st, ac, e, h1, h2, h3⟩ := rf_fold A.tr A
  refine ⟨row, st, upd ac 8 (ac 8 + nI A.tr.length), ?_, h1, h2, fun k hk hk2 => (if_neg hk2).trans (h3 k hk)⟩
  unfold rfA
  rw [e]; rfl
theorem i_rf (hO : OKs A d) : OKs (rfA A) d ∧ Fr A (rfA A) ∧ (rfA A).dy = A.dy ∧ (rfA A).sl = A.sl ∧ (rfA A).ac 4 = A.ac 4 := by
  obtain ⟨hI, n, w, k, a1, a2, a3, a4, a5, a6, a7, a8⟩ := hO
  obtain ⟨row, st, ac, e, h1, h2, h3⟩ := rf_sp A
  rw [e]
  have hst : ∀ f, f < A.F → (st f = 0 ↔ A.st f = 0 ∨ A.st f = 2) ∧ (st f = 1 ↔ A.st f = 1) ∧ st f ≤ 1 := by
    intro f hf
    have h4 := hI.s2 f hf
    have h5 := h2 f
    by_cases h6 : A.st f = 2
    · rw [if_pos ((hI.tr f).mpr ⟨hf, h6⟩)] at h5; omega
    · rw [if_neg (fun q => h6 ((hI.tr f).mp q).2)] at h5; omega
  refine ⟨⟨⟨hI.F1, hI.R1, hI.p1, hI.h1, hI.m1, hI.dy, hI.mk, hI.mi, hI.em, hI.ho, (?_), (?_), (?_), (?_), (?_), (List.nodup_nil), hI.hv, hI.hl, hI.sl, hI.sn, hI.sc⟩, n, w, k, a1, a2, (h3 4 (by omega) (by omega)).trans a3, (h3 6 (by omega) (by omega)).trans a4, (h3 3 (by omega) (by omega)).trans a5, a6, a7, a8⟩, ⟨rfl, rfl, rfl, rfl, rfl, rfl, rfl, fun _ _ q => q⟩, rfl, rfl, h3 4 (by omega) (by omega)⟩
  · intro f
    refine h1.mem_iff.trans ?_
    rw [List.mem_append, hI.tr f, hI.rw f]
    show _ ↔ f < A.F ∧ st f = 0
    by_cases hf : f < A.F
    · have := (hst f hf).1
      omega
    · omega
  · intro f
    show f ∈ [] ↔ f < A.F ∧ st f = 2
    constructor
    · intro q; exact absurd q List.not_mem_nil
    · rintro ⟨q1, q2⟩; have := (hst f q1).2.2; omega
  · intro f hf
    exact (hst f hf).2.1.trans (hI.out f hf)
  · intro f hf
    have := (hst f hf).2.2
    show st f ≤ 2
    omega
  · refine h1.nodup_iff.mpr (List.nodup_append.mpr ⟨hI.tn, hI.rn, fun a ha b hb q => ?_⟩)
    rw [q] at ha
    have q1 := ((hI.tr b).mp ha).2; have q2 := ((hI.rw b).mp hb).2
    omega
/-! a search -/
def fnA (A : AS) (x : Sp) : Bool := if x.t < 2 then (halv (rmk A.mk A.row) (A.mk x.f)).1.isSome else true
def fnS (A : AS) (p : Nat) (x : Sp) : AS :=
  if x.t < 2 then
    if (halv (rmk A.mk A.row) (A.mk x.f)).1.isSome = true then (mkAS A.dy A.pe A.hn A.lm A.F A.R A.mk A.em A.st A.ho A.le A.hv A.rc A.row A.tr A.sl (upd A.ac 7 (A.ac 7 + nI (halv (rmk A.mk A.row) (A.mk x.f)).2.length)))
    else (mkAS A.dy A.pe A.hn A.lm A.F A.R A.mk A.em A.st A.ho A.le A.hv A.rc A.row A.tr (A.sl.set p (mkSp x.r x.f x.d (x.t + 1))) (upd (upd A.ac 7 (A.ac 7 + nI (halv (rmk A.mk A.row) (A.mk x.f)).2.length)) 5 ((upd A.ac 7 (A.ac 7 + nI (halv (rmk A.mk A.row) (A.mk x.f)).2.length)) 5 + 1)))
  else (mkAS A.dy A.pe A.hn A.lm A.F A.R A.mk A.em A.st A.ho A.le A.hv A.rc A.row A.tr A.sl (upd A.ac 6 (A.ac 6 + 1)))
theorem map_set_same {α : Type} (φ : α → Int32) {l : List α} {p : Nat} {x y : α} (hp : l[p]? = some x) (h : φ y = φ x) : (l.set p y).map φ = l.map φ := by
  apply List.ext_getElem?
  intro i
  rw [List.getElem?_map, List.getElem?_map, List.getElem?_set]
  by_cases hi : p = i
  · subst hi
    rw [if_pos rfl, if_pos (List.getElem?_eq_some_iff.mp hp).1, hp]
    exact congrArg some h
  · rw [if_neg hi]
theorem e_fn (h : Rel M A) (hI : Inv A d) {p : Nat} {x : Sp} (hp : A.sl[p]? = some x) (h0 : A.st x.f = 0) : ∃ M', St_isFoundFor M (nI p) = some (if fnA A x = true then 1 else 0, M') ∧ Rel M' (fnS A p x) := by
  obtain ⟨hpl, hr, hf, hd, ht, -⟩ := sp_at hI hp
  have hF := hI.F1; have hc := hI.sc
  unfold St_isFoundFor fnA fnS
  simp only [lt']
  rw [h.gc hI hp, h.gx hI hp, h.g0 hI hf, lp_row h hI hf, if_pos h0]
  by_cases h2 : x.t < 2
  · rw [if_pos (show nI x.t < 2 from (q_lt (b := 2) (by omega) (by omega)).mpr h2), if_pos h2, if_pos h2, Rw_halve_eq (h.rm hI) (by have := hI.mk x.f hf; omega)]
    simp only [Option.bind_some]
    have e15 : lnraise (M.2 15) 7 (nI (ml (halv (rmk A.mk A.row) (A.mk x.f)).2).length) = rg 11 (upd A.ac 7 (A.ac 7 + nI (halv (rmk A.mk A.row) (A.mk x.f)).2.length)) := by rw [ml_len]; exact h.rz (k := 7) (by omega) _
    cases hh : (halv (rmk A.mk A.row) (A.mk x.f)).1 with
    | none =>
      rw [if_pos (show optI none = -1 from rfl), if_neg (show ¬ (none : Option Nat).isSome = true by decide), if_neg (show ¬ (none : Option Nat).isSome = true by decide)]
      have e5 : lnraise (lnraise (M.2 15) 7 (nI (ml (halv (rmk A.mk A.row) (A.mk x.f)).2).length)) 5 1 = rg 11 (upd (upd A.ac 7 (A.ac 7 + nI (halv (rmk A.mk A.row) (A.mk x.f)).2.length)) 5 ((upd A.ac 7 (A.ac 7 + nI (halv (rmk A.mk A.row) (A.mk x.f)).2.length)) 5 + 1)) := by
        rw [e15]; exact lr_rg (i := 5) _ 1 (by omega) (by omega)
      have e14 : lnraise (M.2 14) (nI p) 1 = (A.sl.set p (mkSp x.r x.f x.d (x.t + 1))).map (fun s => nI s.t) := by
        rw [h.lx]; exact lr_map (φ := fun s : Sp => nI s.t) hp (by omega) 1 (nI_1 x.t)
      exact ⟨_, rfl, ⟨h.i0, h.i1, h.i2, h.i3, h.l0, h.l1, h.l2, h.l3, h.l4, h.l5, h.l6, h.l7, h.la, (h.lb.trans (map_set_same (y := mkSp x.r x.f x.d (x.t + 1)) (fun s : Sp => nI s.r) hp rfl).symm), (h.lc.trans (map_set_same (y := mkSp x.r x.f x.d (x.t + 1)) (fun s : Sp => nI s.f) hp rfl).symm), (h.ld.trans (map_set_same (y := mkSp x.r x.f x.d (x.t + 1)) (fun s : Sp => nI s.d) hp rfl).symm), (e14), (e5)⟩⟩
    | some q =>
      have hq := (hal_some _ _ _ _ _ _ hh).2.1
      have hrl : (rmk A.mk A.row).length = A.row.length := List.length_map _
      have := hI.rl
      rw [if_neg (show ¬ optI (some q) = -1 from q_m1 (by omega)), if_pos (show (some q).isSome = true from rfl), if_pos (show (some q).isSome = true from rfl)]
      exact ⟨_, rfl, ⟨h.i0, h.i1, h.i2, h.i3, h.l0, h.l1, h.l2, h.l3, h.l4, h.l5, h.l6, h.l7, h.la, h.lb, h.lc, h.ld, h.lx, (e15)⟩⟩
  · have h1 := idx_lt hI hf h0
    have := hI.rl
    rw [if_neg (show ¬ nI x.t < 2 from fun q => h2 ((q_lt (b := 2) (by omega) (by omega)).mp q)), if_neg h2, if_neg h2, if_neg (q_m1 (by omega)), if_pos rfl]
    exact ⟨_, rfl, ⟨h.i0, h.i1, h.i2, h.i3, h.l0, h.l1, h.l2, h.l3, h.l4, h.l5, h.l6, h.l7, h.la, h.lb, h.lc, h.ld, h.lx, (h.rz (k := 6) (by omega) _)⟩⟩
/-! the serving -/
theorem Rel.to_sv {M : StM} {A : AS} (h : Rel M A) {X7 X2 X3 X4 X5 X6 Y X15 Xb Xc Xd Xx : List Int32} {row : List Nat} {st ho le hv rc : Nat → Nat} {sl : List Sp} {ac : Nat → Int32} (e7 : X7 = ml row) (e2 : X2 = rg A.F (fun i => nI (st i))) (e3 : X3 = rg A.F (fun i => hoI (ho i))) (e4 : X4 = rg A.F (fun i => nI (le i))) (e5 : X5 = rg A.R (fun i => nI (hv i))) (e6 : X6 = rg A.R (fun i => nI (rc i))) (ef : X15 = rg 11 ac) (eb : Xb = sl.map (fun s => nI s.r)) (ec : Xc = sl.map (fun s => nI s.f)) (ed : Xd = sl.map (fun s => nI s.d)) (ex : Xx = sl.map (fun s => nI s.t)) : Rel (setL (setL (setL (setL (setL (setL (setL (setL (setL (setL (setL (setL M 7 X7) 2 X2) 3 X3) 4 X4) 5 X5) 6 X6) 15 Y) 15 X15) 11 Xb) 12 Xc) 13 Xd) 14 Xx) (mkAS A.dy A.pe A.hn A.lm A.F A.R A.mk A.em (st) (ho) (le) (hv) (rc) (row) A.tr (sl) (ac)) := ⟨h.i0, h.i1, h.i2, h.i3, h.l0, h.l1, (e2), (e3), (e4), (e5), (e6), (e7), h.la, (eb), (ec), (ed), (ex), (ef)⟩
def svA (A : AS) (p : Nat) (x : Sp) : AS := (mkAS A.dy A.pe A.hn A.lm A.F A.R A.mk A.em (uq A.st x.f 1) (uq A.ho x.f (x.r + 1)) (uq A.le x.f (A.le x.f + 1)) (uq A.hv x.r (A.hv x.r + 1)) (uq A.rc x.r (A.rc x.r + 1)) (A.row.eraseIdx (A.row.idxOf x.f)) A.tr (A.sl.eraseIdx p) (upd (upd A.ac 4 (A.ac 4 + 1)) 10 ((upd A.ac 4 (A.ac 4 + 1)) 10 + (nI A.dy - nI x.d))))
theorem e_sv (h : Rel M A) (hI : Inv A d) {p : Nat} {x : Sp} (hp : A.sl[p]? = some x) (h0 : A.st x.f = 0) : Rel (St_serve M (nI p)) (svA A p x) := by
  obtain ⟨hpl, hr, hf, hd, ht, -⟩ := sp_at hI hp
  have hF := hI.F1; have hR := hI.R1; have hc := hI.sc; have hrl := hI.rl
  have h1 := idx_lt hI hf h0
  unfold St_serve
  simp only [lt']
  rw [h.gc hI hp, h.gb hI hp, h.gd hI hp, h.i0, lp_row h hI hf, if_pos h0]
  have e7 : lnrem (M.2 7) (nI (A.row.idxOf x.f)) = ml (A.row.eraseIdx (A.row.idxOf x.f)) := by rw [h.l7]; exact lm_map h1 (by omega)
  have e2 : lnset (M.2 2) (nI x.f) 1 = rg A.F (fun i => nI (uq A.st x.f 1 i)) := by rw [h.l2, ls_rg _ _ hf (by omega)]; exact rg_uq A.F nI A.st x.f 1
  have e3 : lnset (M.2 3) (nI x.f) (nI x.r) = rg A.F (fun i => hoI (uq A.ho x.f (x.r + 1) i)) := by rw [h.l3, ls_rg _ _ hf (by omega), ← hoI_s]; exact rg_uq A.F hoI A.ho x.f (x.r + 1)
  have e4 : lnraise (M.2 4) (nI x.f) 1 = rg A.F (fun i => nI (uq A.le x.f (A.le x.f + 1) i)) := by rw [h.l4, lr_rg _ _ hf (by omega), nI_1]; exact rg_uq A.F nI A.le x.f (A.le x.f + 1)
  have e5 : lnraise (M.2 5) (nI x.r) 1 = rg A.R (fun i => nI (uq A.hv x.r (A.hv x.r + 1) i)) := by rw [h.l5, lr_rg _ _ hr (by omega), nI_1]; exact rg_uq A.R nI A.hv x.r (A.hv x.r + 1)
  have e6 : lnraise (M.2 6) (nI x.r) 1 = rg A.R (fun i => nI (uq A.rc x.r (A.rc x.r + 1) i)) := by rw [h.l6, lr_rg _ _ hr (by omega), nI_1]; exact rg_uq A.R nI A.rc x.r (A.rc x.r + 1)
  have ef0 : lnraise (M.2 15) 4 1 = rg 11 (upd A.ac 4 (A.ac 4 + 1)) := h.rz (k := 4) (by omega) 1
  have ef : lnraise (lnraise (M.2 15) 4 1) 10 (nI A.dy - nI x.d) = rg 11 (upd (upd A.ac 4 (A.ac 4 + 1)) 10 ((upd A.ac 4 (A.ac 4 + 1)) 10 + (nI A.dy - nI x.d))) := by rw [ef0]; exact lr_rg (i := 10) _ _ (by omega) (by omega)
  have eb : lnrem (M.2 11) (nI p) = (A.sl.eraseIdx p).map (fun s => nI s.r) := by rw [h.lb]; exact lm_map hpl (by omega)
  have ec : lnrem (M.2 12) (nI p) = (A.sl.eraseIdx p).map (fun s => nI s.f) := by rw [h.lc]; exact lm_map hpl (by omega)
  have ed : lnrem (M.2 13) (nI p) = (A.sl.eraseIdx p).map (fun s => nI s.d) := by rw [h.ld]; exact lm_map hpl (by omega)
  have ex : lnrem (M.2 14) (nI p) = (A.sl.eraseIdx p).map (fun s => nI s.t) := by rw [h.lx]; exact lm_map hpl (by omega)
  exact Rel.to_sv h e7 e2 e3 e4 e5 e6 ef eb ec ed ex
end Day
