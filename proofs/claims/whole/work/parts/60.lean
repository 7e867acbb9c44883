/-! the whole: component and reference -/
theorem RI.ext {H : Int32} {A : StM} {f g : Nat → Int32} (h : RI H A f) (hg : ∀ j, j < 257 → g j = f j) : RI H A g := by
  refine ⟨?_, h.sz, h.fd, h.mk, h.sp, h.per⟩
  have zfo := h.sz.fo
  have ze1 := h.sz.e1
  have ze2 := h.sz.e2
  have ze3 := h.sz.e3
  have ze4 := h.sz.e4
  have zr := h.sz.r
  have ze6 := h.sz.e6
  have zl := h.sz.l
  have zt := h.sz.t
  have zs := h.sz.s
  have ze12 := h.sz.e12
  have ze13 := h.sz.e13
  have ze14 := h.sz.e14
  have ze15 := h.sz.e15
  exact ⟨(hg _ (by omega)).trans h.rel.day, (hg _ (by omega)).trans h.rel.per, (hg _ (by omega)).trans h.rel.lim, (hg _ (by omega)).trans h.rel.hd, (hg _ (by omega)).trans h.rel.nr, (hg _ (by omega)).trans h.rel.nf, (hg _ (by omega)).trans h.rel.nl, (hg _ (by omega)).trans h.rel.nt, (hg _ (by omega)).trans h.rel.ns, fun i hi => (hg _ (by omega)).trans (h.rel.mk i hi), fun i hi => (hg _ (by omega)).trans (h.rel.em i hi), fun i hi => (hg _ (by omega)).trans (h.rel.st i hi), fun i hi e => (hg _ (by omega)).trans (h.rel.wi i hi e), fun i hi => (hg _ (by omega)).trans (h.rel.tm i hi), fun i hi => (hg _ (by omega)).trans (h.rel.sv i hi), fun i hi => (hg _ (by omega)).trans (h.rel.rw i hi), fun i hi => (hg _ (by omega)).trans (h.rel.tr i hi), fun i hi => (hg _ (by omega)).trans (h.rel.s0 i hi), fun i hi => (hg _ (by omega)).trans (h.rel.s1 i hi), fun i hi => (hg _ (by omega)).trans (h.rel.s2 i hi), fun i hi => (hg _ (by omega)).trans (h.rel.s3 i hi), fun k k1 k2 => (hg _ (by omega)).trans (h.rel.ac k k1 k2)⟩
theorem RI.cong {H : Int32} {A A' : StM} {f : Nat → Int32} (h : RI H A f) (hi : ∀ k, k < 4 → A'.1 k = A.1 k) (hl : ∀ j, j < 16 → j ≠ 8 → j ≠ 9 → A'.2 j = A.2 j) : RI H A' f := by
  unfold RI Rel Sz FdR Mk Sp at *
  rw [hi 0 (by decide), hi 1 (by decide), hi 3 (by decide), hl 0 (by decide) (by decide) (by decide), hl 1 (by decide) (by decide) (by decide), hl 2 (by decide) (by decide) (by decide), hl 3 (by decide) (by decide) (by decide), hl 4 (by decide) (by decide) (by decide), hl 5 (by decide) (by decide) (by decide), hl 6 (by decide) (by decide) (by decide), hl 7 (by decide) (by decide) (by decide), hl 10 (by decide) (by decide) (by decide), hl 11 (by decide) (by decide) (by decide), hl 12 (by decide) (by decide) (by decide), hl 13 (by decide) (by decide) (by decide), hl 14 (by decide) (by decide) (by decide), hl 15 (by decide) (by decide) (by decide)]
  exact h
theorem cp_i (A2 A : StM) : ∀ k, k < 4 → (St_copyFrom A2 A).1 k = A2.1 k := fun k hk => match k, hk with
  | 0, _ => rfl
  | 1, _ => rfl
  | 2, _ => rfl
  | 3, _ => rfl
theorem cp_l {A2 : StM} (h : Sz A2) (A : StM) : ∀ j, j < 16 → j ≠ 8 → j ≠ 9 → (St_copyFrom A2 A).2 j = A2.2 j := by
  have zfo := h.fo
  have ze1 := h.e1
  have ze2 := h.e2
  have ze3 := h.e3
  have ze4 := h.e4
  have zr := h.r
  have ze6 := h.e6
  have zl := h.l
  have zt := h.t
  have zs := h.s
  have ze12 := h.e12
  have ze13 := h.e13
  have ze14 := h.e14
  have ze15 := h.e15
  intro j hj h8 h9
  match j, hj, h8, h9 with
  | 0, _, _, _ => exact List.take_of_length_le (l := A2.2 0) (i := 24) (by omega)
  | 1, _, _, _ => exact List.take_of_length_le (l := A2.2 1) (i := 24) (by omega)
  | 2, _, _, _ => exact List.take_of_length_le (l := A2.2 2) (i := 24) (by omega)
  | 3, _, _, _ => exact List.take_of_length_le (l := A2.2 3) (i := 24) (by omega)
  | 4, _, _, _ => exact List.take_of_length_le (l := A2.2 4) (i := 24) (by omega)
  | 5, _, _, _ => exact List.take_of_length_le (l := A2.2 5) (i := 8) (by omega)
  | 6, _, _, _ => exact List.take_of_length_le (l := A2.2 6) (i := 8) (by omega)
  | 7, _, _, _ => exact List.take_of_length_le (l := A2.2 7) (i := 24) (by omega)
  | 8, _, h, _ => exact absurd rfl h
  | 9, _, _, h => exact absurd rfl h
  | 10, _, _, _ => exact List.take_of_length_le (l := A2.2 10) (i := 24) (by omega)
  | 11, _, _, _ => exact List.take_of_length_le (l := A2.2 11) (i := 16) (by omega)
  | 12, _, _, _ => exact List.take_of_length_le (l := A2.2 12) (i := 16) (by omega)
  | 13, _, _, _ => exact List.take_of_length_le (l := A2.2 13) (i := 16) (by omega)
  | 14, _, _, _ => exact List.take_of_length_le (l := A2.2 14) (i := 16) (by omega)
  | 15, _, _, _ => exact List.take_of_length_le (l := A2.2 15) (i := 11) (by omega)
  | j + 16, h, _, _ => exact absurd h (by omega)
theorem RI.copy {H : Int32} {A2 : StM} {f : Nat → Int32} (h : RI H A2 f) (A : StM) : RI H (St_copyFrom A2 A) f := h.cong (cp_i A2 A) (cp_l h.sz A)
/-- a state that undoing restores, on both sides -/
def Top (A : StM) (f : Nat → Int32) : Prop := RI (A.1 2) A f ∧ ∃ d, d ≤ 999 ∧ A.1 0 = nI d
theorem Top.ri {A : StM} {f : Nat → Int32} (h : Top A f) : RI (A.1 2) A f := h.1
theorem Top.ext {A : StM} {f g : Nat → Int32} (h : Top A f) (hg : ∀ j, j < 257 → g j = f j) : Top A g := ⟨h.1.ext hg, h.2⟩
theorem Top.copy {A2 : StM} {f : Nat → Int32} (h : Top A2 f) (A : StM) : Top (St_copyFrom A2 A) f := ⟨h.1.copy A, h.2⟩
theorem Top.l8 {A : StM} {f : Nat → Int32} (h : Top A f) (L : List Int32) : Top (setL A 8 L) f := h
theorem Top.l9 {A : StM} {f : Nat → Int32} (h : Top A f) (L : List Int32) : Top (setL A 9 L) f := h
def HisR (W : WM) (M : MdM) : Prop := ∃ a c, a < 9 ∧ c ≤ 8 ∧ W.2.2.1 7 = nI a ∧ W.2.2.1 8 = nI c ∧ M.1 8 = nI c ∧ ∀ k, k < c → Top (W.1 ((a + k) % 9)) (fun j => M.2 5 (257 * k + j))
def LasR (W : WM) (M : MdM) : Prop := (W.2.1 2).length = 3 ∧ ∀ k, k < 3 → M.2 6 k = (W.2.1 2).getD k 0
def SnaR (W : WM) (M : MdM) : Prop := W.2.2.1 9 = M.1 10 ∧ (M.1 10 = 0 ∨ (M.1 10 = 1 ∧ Top (W.1 11) (M.2 4)))
def BufR (W : WM) (M : MdM) : Prop := (W.2.1 0).length ≤ 700 ∧ M.1 18 = nI (W.2.1 0).length ∧ ∀ i, i < (W.2.1 0).length → M.2 10 i = (W.2.1 0).getD i 0
def FmtR (W : WM) (M : MdM) : Prop := (W.2.1 1).length ≤ 128 ∧ M.1 16 = nI (W.2.1 1).length ∧ ∀ i, i < (W.2.1 1).length → M.2 9 i = (W.2.1 1).getD i 0
def WRel (W : WM) (M : MdM) : Prop := Top (W.1 9) (M.2 0) ∧ LasR W M ∧ HisR W M ∧ SnaR W M ∧ BufR W M ∧ FmtR W M ∧ W.2.2.1 10 = M.1 25
theorem wi_s (W : WM) (k : Nat) (v : Int32) : (setWI W k v).2.2.1 k = v := if_pos rfl
theorem wi_n (W : WM) {k j : Nat} (v : Int32) (h : j ≠ k) : (setWI W k v).2.2.1 j = W.2.2.1 j := if_neg h
section WR
variable {W : WM} {M : MdM}
theorem setS_s (W : WM) (i : Nat) (A : StM) : (setS W i A).1 i = A := if_pos rfl
theorem setS_n (W : WM) {i j : Nat} (A : StM) (h : j ≠ i) : (setS W i A).1 j = W.1 j := if_neg h
/-- where only the standing state and what no later call shows has changed -/
theorem WRel.step (h : WRel W M) {A : StM} {M' : MdM} (ht : Top A (M'.2 0)) (h1 : ∀ k, k ≠ 9 → k ≠ 11 → k ≠ 12 → M'.1 k = M.1 k) (h2 : ∀ j, j ≠ 0 → j ≠ 2 → j ≠ 3 → j ≠ 7 → j ≠ 8 → M'.2 j = M.2 j) : WRel (setS W 9 A) M' := by
  obtain ⟨b1, b2, b3, b4, b5, b6, b7⟩ := h
  refine ⟨?_, ?_, ?_, ?_, ?_, ?_, ?_⟩
  · rw [setS_s]; exact ht
  · unfold LasR
    rw [h2 6 (by decide) (by decide) (by decide) (by decide) (by decide)]
    exact b2
  · obtain ⟨a, c, c1, c2, c3, c4, c5, c6⟩ := b3
    refine ⟨a, c, c1, c2, c3, c4, (h1 8 (by decide) (by decide) (by decide)).trans c5, fun k hk => ?_⟩
    rw [setS_n _ _ (by have := Nat.mod_lt (a + k) (show 9 > 0 by decide); omega), h2 5 (by decide) (by decide) (by decide) (by decide) (by decide)]
    exact c6 k hk
  · unfold SnaR
    rw [h1 10 (by decide) (by decide) (by decide), h2 4 (by decide) (by decide) (by decide) (by decide) (by decide), setS_n _ _ (by decide)]
    exact b4
  · unfold BufR
    rw [h1 18 (by decide) (by decide) (by decide), h2 10 (by decide) (by decide) (by decide) (by decide) (by decide)]
    exact b5
  · unfold FmtR
    rw [h1 16 (by decide) (by decide) (by decide), h2 9 (by decide) (by decide) (by decide) (by decide) (by decide)]
    exact b6
  · rw [h1 25 (by decide) (by decide) (by decide)]; exact b7
theorem setS_id (W : WM) (i : Nat) : setS W i (W.1 i) = W := Prod.ext (funext fun j => by
  show (if j = i then W.1 i else W.1 j) = W.1 j
  by_cases h : j = i
  · rw [if_pos h, h]
  · rw [if_neg h]) rfl
/-- .. and where the component hasn't changed -/
theorem WRel.md (h : WRel W M) {M' : MdM} (h1 : ∀ k, k ≠ 9 → k ≠ 11 → k ≠ 12 → M'.1 k = M.1 k) (h2 : ∀ j, j ≠ 2 → j ≠ 3 → j ≠ 7 → j ≠ 8 → M'.2 j = M.2 j) : WRel W M' := by
  have := h.step (A := W.1 9) (M' := M') (by rw [h2 0 (by decide) (by decide) (by decide) (by decide)]; exact h.1) h1 (fun j _ b c d e => h2 j b c d e)
  rwa [setS_id] at this
theorem WRel.thr (h : WRel W M) (v : Int32) : WRel W (setF M 9 v) := h.md (fun k a _ _ => setF_n _ _ a) (fun _ _ _ _ _ => rfl)
/-- the draft is nobody's -/
theorem WRel.draft (h : WRel W M) (A : StM) : WRel (setS W 10 A) M := by
  obtain ⟨b1, b2, ⟨a, c, c1, c2, c3, c4, c5, c6⟩, b4, b5, b6, b7⟩ := h
  refine ⟨by rw [setS_n _ _ (by decide)]; exact b1, b2, ⟨a, c, c1, c2, c3, c4, c5, fun k hk => ?_⟩, by unfold SnaR; rw [setS_n _ _ (by decide)]; exact b4, b5, b6, b7⟩
  rw [setS_n _ _ (by have := Nat.mod_lt (a + k) (show 9 > 0 by decide); omega)]
  exact c6 k hk
theorem m_copy {i j a b : Nat} (h1 : 257 * a + 257 ≤ mz i) (h2 : 257 * b + 257 ≤ mz j) (ha : a < 9) (hb : b < 9) : Md_copy M i (nI a) j (nI b) = some (setA M j (va_cpy (M.2 i) (M.2 j) (257 * a) (257 * b) 257)) := by
  unfold Md_copy
  rw [show (257 : Int32) = nI 257 from rfl, pk_mul, pk_mul, q_cl (by omega), q_cl (by omega), if_pos ⟨q_neg (by omega), q_neg (by omega), h1, h2⟩]
theorem cpy0 (f g : Nat → Int32) (j : Nat) (h : j < 257) : va_cpy f g (257 * 0) (257 * 0) 257 j = f j := by
  unfold va_cpy
  rw [if_pos ⟨by omega, by omega⟩]
  congr 1
  omega
theorem m_keep : Md_keep 0 M = some (setA M 3 (va_cpy (M.2 0) (M.2 3) (257 * 0) (257 * 0) 257)) := by
  unfold Md_keep
  rw [show Md_copy M 0 0 3 0 = _ from m_copy (a := 0) (b := 0) (i := 0) (j := 3) (by decide) (by decide) (by decide) (by decide), bs]
theorem WRel.keep (h : WRel W M) (g : Nat → Int32) : WRel W (setA M 3 g) := h.md (fun _ _ _ _ => rfl) (fun j _ b _ _ => setA_n _ _ b)
theorem hix_n {a c : Nat} (ha : a < 9) (hc : c ≤ 8) (h7 : W.2.2.1 7 = nI a) (h8 : W.2.2.1 8 = nI c) : hix W = nI ((a + c) % 9) := by
  unfold hix
  rw [h7, h8, nI_add, show (9 : Int32) = nI 9 from rfl, pk_rem (by omega) (by omega) (by omega)]
theorem prep_n {a c : Nat} (ha : a < 9) (hc : c ≤ 8) (h7 : W.2.2.1 7 = nI a) (h8 : W.2.2.1 8 = nI c) : Hi_prepare W = some (setS W ((a + c) % 9) (St_copyFrom (W.1 9) (W.1 ((a + c) % 9)))) := by
  have := Nat.mod_lt (a + c) (show 9 > 0 by decide)
  unfold Hi_prepare
  rw [hix_n ha hc h7 h8, if_pos (q_in (by omega) (by omega)), q_cl (by omega)]
/-- the reference's history where it is full: the states move up -/
theorem rec_L (g : Nat → Int32) : ∀ (n s : Nat) (M : MdM), 1 ≤ s → s ≤ 8 → 8 - s < n → M.1 8 = nI 8 → (∀ q, M.2 5 q = if q < 257 * (s - 1) then g (q + 257) else g q) → ∃ M', Md_record_L11 0 n M (nI s) = some M' ∧ M'.1 = (setF (setF M 8 (nI 7)) 8 (nI 8)).1 ∧ (∀ j, j ≠ 5 → M'.2 j = M.2 j) ∧ (∀ k j, k < 7 → j < 257 → M'.2 5 (257 * k + j) = g (257 * (k + 1) + j)) ∧ ∀ j, j < 257 → M'.2 5 (257 * 7 + j) = M.2 3 j := by
  intro n
  induction n with
  | zero => intro s M h1 h2 h3; omega
  | succ n ih =>
    intro s M h1 h2 h3 h4 h5
    unfold Md_record_L11
    by_cases hs : 8 ≤ s
    · obtain rfl : s = 8 := by omega
      rw [if_pos (show (8 : Int32) ≤ nI 8 by decide), h4, show nI 8 - 1 = nI 7 from nI_pred 7, show Md_copy (setF M 8 (nI 7)) 3 0 5 (nI 7) = _ from m_copy (a := 0) (b := 7) (i := 3) (j := 5) (by decide) (by decide) (by decide) (by decide), bs]
      refine ⟨_, rfl, ?_, fun j hj => (setA_n (setF M 8 (nI 7)) _ hj), fun k j hk hj => ?_, fun j hj => ?_⟩
      · show (setF (setF M 8 (nI 7)) 8 ((setF M 8 (nI 7)).1 8 + 1)).1 = _
        rw [setF_s]; rfl
      · show va_cpy (M.2 3) (M.2 5) (257 * 0) (257 * 7) 257 _ = _
        unfold va_cpy
        rw [if_neg (by omega)]
        rw [h5, if_pos (by omega)]
        congr 1
        omega
      · show va_cpy (M.2 3) (M.2 5) (257 * 0) (257 * 7) 257 _ = _
        unfold va_cpy
        rw [if_pos (by omega), show 257 * 0 + (257 * 7 + j - 257 * 7) = j by omega]
    · rw [if_neg (show ¬ (8 : Int32) ≤ nI s from fun q => hs ((q_le (a := 8) (by omega) (by omega)).mp q))]
      obtain ⟨s, rfl⟩ : ∃ q, s = q + 1 := ⟨s - 1, by omega⟩
      rw [nI_pred, m_copy (a := s + 1) (b := s) (i := 5) (j := 5) (by show _ ≤ 2056; omega) (by show _ ≤ 2056; omega) (by omega) (by omega), bs, nI_1]
      obtain ⟨M', e1, e2, e3, e4, e5⟩ := ih (s + 1 + 1) (setA M 5 (va_cpy (M.2 5) (M.2 5) (257 * (s + 1)) (257 * s) 257)) (by omega) (by omega) (by omega) h4 (fun q => by
        rw [setA_s]
        unfold va_cpy
        by_cases c : 257 * s ≤ q ∧ q < 257 * s + 257
        · rw [if_pos c, h5, if_neg (by omega), if_pos (by omega)]
          congr 1
          omega
        · rw [if_neg c, h5]
          by_cases c2 : q < 257 * s
          · rw [if_pos (by omega), if_pos (by omega)]
          · rw [if_neg (by omega), if_neg (by omega)])
      exact ⟨M', e1, e2, fun j hj => (e3 j hj).trans (setA_n _ _ hj), e4, fun j hj => (e5 j hj).trans (by rw [setA_n _ _ (by decide)])⟩
/-- an operation that has been done, and recorded -/
theorem las_up {xs : List Int32} {f : Nat → Int32} (hl : xs.length = 3) (hf : ∀ k, k < 3 → f k = xs.getD k 0) {b : Nat} (hb : b < 3) : (lnraise xs (nI b) 1).length = 3 ∧ ∀ k, k < 3 → upd f b (f b + 1) k = (lnraise xs (nI b) 1).getD k 0 := by
  rw [lr_in _ (by omega) (by omega)]
  refine ⟨by rw [List.length_set, hl], fun k hk => ?_⟩
  rw [getD_set _ _ _ _ (by omega)]
  unfold upd
  by_cases c : k = b
  · rw [if_pos c, if_pos c, hf b hb]
  · rw [if_neg c, if_neg c, hf k hk]
theorem las_En {W' : WM} {M1 : MdM} {v : Int32} (h : LasR W M) (h6 : M1.2 6 = M.2 6) (hw : W'.2.1 2 = W.2.1 2) : LasR (SA_counted W' v).2 (En M1 v) := by
  unfold SA_counted En
  rw [lu]
  obtain ⟨h1, h2⟩ := h
  show (lnraise (W'.2.1 2) (if v < 0 then 1 else 0) 1).length = 3 ∧ ∀ k, k < 3 → (setA M1 6 _).2 6 k = (lnraise (W'.2.1 2) (if v < 0 then 1 else 0) 1).getD k 0
  rw [setA_s, hw, h6]
  by_cases hv : v < 0
  · simp only [if_pos hv]
    exact las_up (b := 1) h1 h2 (by decide)
  · simp only [if_neg hv]
    exact las_up (b := 0) h1 h2 (by decide)
end WR
