/-! words, numbers, the head, a folder -/
def Sy (M M' : WM) : Prop := M'.1 = M.1 ∧ ∀ k, 5 ≤ k → M'.2.2.1 k = M.2.2.1 k
theorem Sy.tr' {L M N : WM} (h : Sy L M) (g : Sy M N) : Sy L N := ⟨g.1.trans h.1, fun k hk => (g.2 k hk).trans (h.2 k hk)⟩
theorem NX.sy {M M' : WM} {st kd : Nat} (h : NX M M' st kd) : Sy M M' := ⟨h.1, h.2.2.2.2.2⟩
theorem dg_all : ∀ m, m < 1000 → (∀ c ∈ dg m, Tk_isDigit c = 1) ∧ (∀ c ∈ dg m, Tk_isBlank c = 0 ∧ Tk_isLetter c = 0) ∧ dg m ≠ [] ∧ (dg m).foldl vf 0 = nI m := by decide +kernel
theorem noD_32 (R : List Int32) : noL Tk_isDigit (32 :: R) := fun c S e => by rw [← (List.cons.inj e).1]; decide
theorem noD_59 (R : List Int32) : noL Tk_isDigit (59 :: R) := fun c S e => by rw [← (List.cons.inj e).1]; decide
theorem noW_32 (R : List Int32) : noL Tk_isLetter (32 :: R) := fun c S e => by rw [← (List.cons.inj e).1]; decide
section Parse
variable {T B : List Int32}
theorem is_word {M : WM} {st : Nat} {w R : List Int32} (h : TX T B M (st + w.length) R) (hk : M.2.2.1 3 = nI 1) (hs : M.2.2.1 2 = nI st) (hw : T.drop st = w ++ R) : Tk_isWord w M = some 1 := by
  obtain ⟨g0, g1, g2, g3, g4, g5, g6⟩ := h
  have hc : ∀ k, k < w.length → lnget (M.2.1 0) (nI st + nI k) = w.getD k 0 := by
    intro k hk
    have e1 : T.getD (st + k) 0 = w.getD k 0 := by
      have h2 : (T.drop st).getD k 0 = (w ++ R).getD k 0 := congrArg (fun l : List Int32 => l.getD k 0) hw
      rw [getD_drop, getD_app, if_pos hk] at h2
      exact h2
    rw [nI_add, g0, lg_in (by rw [List.length_append]; omega) (by rw [List.length_append]; omega), getD_app, if_pos (by omega), e1]
  have key : ∀ i fuel k, k + i = w.length → i < fuel → Tk_isWord_L28 w M fuel (nI k) = some 1 := by
    intro i
    induction i with
    | zero =>
      intro fuel k hk hf
      obtain ⟨fuel, rfl⟩ : ∃ k, fuel = k + 1 := ⟨fuel - 1, by omega⟩
      rw [Tk_isWord_L28, if_pos (show nI w.length ≤ nI k by rw [show k = w.length by omega]; exact Int32.le_refl _)]
    | succ i ih =>
      intro fuel k hk hf
      obtain ⟨fuel, rfl⟩ : ∃ k, fuel = k + 1 := ⟨fuel - 1, by omega⟩
      rw [Tk_isWord_L28, if_neg (nI_ge (by omega) (by omega)), if_pos (q_in (by omega) (by omega)), hs, hc k (by omega), q_cl (by omega), if_pos rfl, nI_1]
      exact ih fuel (k + 1) (by omega) (by omega)
  unfold Tk_isWord
  rw [hk, if_pos (show nI 1 = 1 from rfl), g2, hs, pk_sub (by omega), if_pos (by congr 1; omega)]
  exact key w.length FU 0 (Nat.zero_add _) (by unfold FU; omega)
theorem no_word {M : WM} (w : List Int32) {kd : Nat} (hk : M.2.2.1 3 = nI kd) (h1 : kd ≠ 1) (h2 : kd < 10) : Tk_isWord w M = some 0 := by
  unfold Tk_isWord
  rw [hk, if_neg (fun z => h1 ((z1 (by omega)).mp z))]
/-- a word behind no blank -/
theorem tk_word {M : WM} {pos : Nat} {w R : List Int32} (hR : noL Tk_isLetter R) (h : TX T B M pos (w ++ R)) (hw : ∀ c ∈ w, Tk_isLetter c = 1) (hb : ∀ c ∈ w, Tk_isBlank c = 0) (h0 : w ≠ []) : ∃ M', Tk_next M = some M' ∧ TX T B M' (pos + w.length) R ∧ Sy M M' ∧ M'.2.2.1 3 = nI 1 ∧ Tk_isWord w M' = some 1 := by
  obtain ⟨M', e, h1, h2, -⟩ := nx_word0 hR h hw hb h0 999
  exact ⟨M', e, h1, h2.sy, h2.2.2.2.2.1, is_word h1 h2.2.2.2.2.1 h2.2.2.2.1 h.2.2.2.1⟩
theorem tk_word_b {M : WM} {pos : Nat} {w R : List Int32} (hR : noL Tk_isLetter R) (h : TX T B M pos (32 :: (w ++ R))) (hw : ∀ c ∈ w, Tk_isLetter c = 1) (hb : ∀ c ∈ w, Tk_isBlank c = 0) (h0 : w ≠ []) : ∃ M', Tk_next M = some M' ∧ TX T B M' (pos + 1 + w.length) R ∧ Sy M M' ∧ M'.2.2.1 3 = nI 1 ∧ Tk_isWord w M' = some 1 := by
  obtain ⟨M1, g1, g2, g3, g4, g5⟩ := nx_blank h 999
  obtain ⟨M', e, h1, h2, -⟩ := nx_word0 hR g1 hw hb h0 998
  refine ⟨M', g5.trans e, h1, ?_, h2.2.2.2.2.1, is_word h1 h2.2.2.2.2.1 h2.2.2.2.1 g1.2.2.2.1⟩
  exact Sy.tr' ⟨g2, fun k hk => g4 k (by omega)⟩ h2.sy
theorem ps_num {M : WM} {pos m lo hi : Nat} {R : List Int32} (h : TX T B M pos (32 :: (dg m ++ R))) (hR : noL Tk_isDigit R) (hm : m < 1000) (hlo : lo ≤ m) (hhi : m ≤ hi) (hh : hi < 100000) : ∃ M' pos', Ps_readNumber M (nI lo) (nI hi) = some (1, M') ∧ TX T B M' pos' R ∧ Sy M M' ∧ Tk_value M' = nI m := by
  obtain ⟨d1, d2, d3, d4⟩ := dg_all m hm
  obtain ⟨M1, g1, g2, g3, g4, g5⟩ := nx_blank h 999
  obtain ⟨M', e, h1, h2, h4⟩ := nx_num0 hR g1 d1 d2 d3 998
  rw [d4] at h4
  have en : Tk_next M = some M' := g5.trans e
  refine ⟨M', _, ?_, h1, Sy.tr' ⟨g2, fun k hk => g4 k (by omega)⟩ h2.sy, h4⟩
  have hv : Tk_value M' = nI m := h4
  have hk : Tk_kind M' = 2 := h2.2.2.2.2.1
  unfold Ps_readNumber
  rw [en, bs, if_pos hk, hv, if_neg (fun z => by have := (q_lt (by omega) (by omega)).mp z; omega), if_pos ((q_le (by omega) (by omega)).mpr hhi)]
theorem ps_semi {M : WM} {pos : Nat} {R : List Int32} (h : TX T B M pos (59 :: R)) : ∃ M', Tk_next M = some M' ∧ TX T B M' (pos + 1) R ∧ Sy M M' ∧ M'.2.2.1 3 = nI 3 := by
  obtain ⟨M', e, h1, h2, -⟩ := nx_semi h
  exact ⟨M', e, h1, h2.sy, h2.2.2.2.2.1⟩
theorem ps_ended {M : WM} (h : M.2.2.1 3 = nI 3) : Ps_isEnded M = some (1, M) := by
  unfold Ps_isEnded
  rw [if_pos (show Tk_kind M = 3 from h)]
end Parse
theorem sx_let : ∀ i, i < 3 → (∀ c ∈ sx i, Tk_isLetter c = 1) ∧ (∀ c ∈ sx i, Tk_isBlank c = 0) ∧ sx i ≠ [] := by decide
/-! an archive begun, a folder put in -/
def bgA (t1 t2 t3 t4 : Nat) : AS := mkAS 0 t1 t2 t4 0 t3 (fun _ => 0) (fun _ => 0) (fun _ => 0) (fun _ => 0) (fun _ => 0) (fun _ => 0) (fun _ => 0) [] [] [] (fun _ => 0)
theorem fill_rg {N m : Nat} (h : m ≤ N) (hm : m < 1000) : lnfill N (nI m) = rg m (fun _ => nI 0) := by
  unfold lnfill
  rw [q_cl (by omega), Nat.min_eq_left h]
  refine rg_ext List.length_replicate fun i hi => ?_
  rw [List.getElem?_replicate, if_pos hi]; rfl
theorem e_begin (M : StM) {t1 t2 t3 t4 : Nat} (h3 : t3 ≤ 8) : ∃ M', St_begin M (nI t1) (nI t2) (nI t3) (nI t4) = some M' ∧ Rel M' (bgA t1 t2 t3 t4) := by
  have e5 : lnfill 8 (nI t3) = rg t3 (fun _ => nI 0) := fill_rg h3 (by omega)
  have e15 : lnfill 11 11 = rg 11 (fun _ => 0) := fill_rg (N := 11) (m := 11) (Nat.le_refl _) (by omega)
  have c1 : (0 : Int32) ≤ nI t3 ∧ nI t3 ≤ 900 := ⟨nI_pos' (by omega), (q_le (b := 900) (by omega) (by omega)).mpr (by omega)⟩
  unfold St_begin
  rw [if_pos c1, if_pos c1]
  simp only [ltb]
  rw [if_pos (by decide), e5, e15]
  exact ⟨_, rfl, rfl, rfl, rfl, rfl, rfl, rfl, rfl, rfl, rfl, rfl, rfl, rfl, rfl, rfl, rfl, rfl, rfl, rfl⟩
def adA (A : AS) (m e : Nat) : AS := (mkAS A.dy A.pe A.hn A.lm (A.F + 1) A.R (uq A.mk A.F m) (uq A.em A.F e) (uq A.st A.F 0) (uq A.ho A.F 0) (uq A.le A.F 0) A.hv A.rc (A.row ++ [A.F]) A.tr A.sl A.ac)
theorem e_addF {M : StM} {A : AS} (h : Rel M A) (m e : Nat) (hF : A.F < 24) (hr : A.row.length < 24) : Rel (St_addFolder M (nI m) (nI e)) (adA A m e) := by
  have e0 : lnadd 24 (M.2 0) (nI m) = rg (A.F + 1) (fun i => nI (uq A.mk A.F m i)) := by rw [h.l0, la_rg _ _ hF]; exact rg_uq _ nI A.mk A.F m
  have e1 : lnadd 24 (M.2 1) (nI e) = rg (A.F + 1) (fun i => nI (uq A.em A.F e i)) := by rw [h.l1, la_rg _ _ hF]; exact rg_uq _ nI A.em A.F e
  have e2 : lnadd 24 (M.2 2) 0 = rg (A.F + 1) (fun i => nI (uq A.st A.F 0 i)) := by rw [h.l2, la_rg _ _ hF]; exact rg_uq _ nI A.st A.F 0
  have e3 : lnadd 24 (M.2 3) (-1) = rg (A.F + 1) (fun i => hoI (uq A.ho A.F 0 i)) := by rw [h.l3, la_rg _ _ hF]; exact rg_uq _ hoI A.ho A.F 0
  have e4 : lnadd 24 (M.2 4) 0 = rg (A.F + 1) (fun i => nI (uq A.le A.F 0 i)) := by rw [h.l4, la_rg _ _ hF]; exact rg_uq _ nI A.le A.F 0
  have e7 : lnadd 24 (M.2 7) (nI (M.2 0).length) = ml (A.row ++ [A.F]) := by rw [h.n0, h.l7]; exact la_map (φ := nI) A.F hr
  exact ⟨h.i0, h.i1, h.i2, h.i3, (e0), (e1), (e2), (e3), (e4), h.l5, h.l6, (e7), h.la, h.lb, h.lc, h.ld, h.lx, h.lf⟩
