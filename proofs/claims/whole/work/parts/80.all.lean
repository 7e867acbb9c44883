/-! the whole: component and reference -/
theorem RI.ext {H : Int32} {A : StM} {f g : Nat → Int32} (h : RI H A f) (hg : ∀ j, j < 257 → g j = f j) : RI H A g := by
  refine ⟨?_, h.sz, h.fd, h.mk, h.sp, h.per⟩
  have zfo := h.sz.fo
  have ze1 := h.sz.e1
  have ze2 := h.sz.e2
  have ze3 := h.sz.e3
  have ze4 := h.sz.e4
  have zr := h.sz.r
  have ze6 := h.sz.e6
  have zl := h.sz.l
  have zt := h.sz.t
  have zs := h.sz.s
  have ze12 := h.sz.e12
  have ze13 := h.sz.e13
  have ze14 := h.sz.e14
  have ze15 := h.sz.e15
  exact ⟨(hg _ (by omega)).trans h.rel.day, (hg _ (by omega)).trans h.rel.per, (hg _ (by omega)).trans h.rel.lim, (hg _ (by omega)).trans h.rel.hd, (hg _ (by omega)).trans h.rel.nr, (hg _ (by omega)).trans h.rel.nf, (hg _ (by omega)).trans h.rel.nl, (hg _ (by omega)).trans h.rel.nt, (hg _ (by omega)).trans h.rel.ns, fun i hi => (hg _ (by omega)).trans (h.rel.mk i hi), fun i hi => (hg _ (by omega)).trans (h.rel.em i hi), fun i hi => (hg _ (by omega)).trans (h.rel.st i hi), fun i hi e => (hg _ (by omega)).trans (h.rel.wi i hi e), fun i hi => (hg _ (by omega)).trans (h.rel.tm i hi), fun i hi => (hg _ (by omega)).trans (h.rel.sv i hi), fun i hi => (hg _ (by omega)).trans (h.rel.rw i hi), fun i hi => (hg _ (by omega)).trans (h.rel.tr i hi), fun i hi => (hg _ (by omega)).trans (h.rel.s0 i hi), fun i hi => (hg _ (by omega)).trans (h.rel.s1 i hi), fun i hi => (hg _ (by omega)).trans (h.rel.s2 i hi), fun i hi => (hg _ (by omega)).trans (h.rel.s3 i hi), fun k k1 k2 => (hg _ (by omega)).trans (h.rel.ac k k1 k2)⟩
theorem RI.cong {H : Int32} {A A' : StM} {f : Nat → Int32} (h : RI H A f) (hi : ∀ k, k < 4 → A'.1 k = A.1 k) (hl : ∀ j, j < 16 → j ≠ 8 → j ≠ 9 → A'.2 j = A.2 j) : RI H A' f := by
  unfold RI Rel Sz FdR Mk Sp at *
  rw [hi 0 (by decide), hi 1 (by decide), hi 3 (by decide), hl 0 (by decide) (by decide) (by decide), hl 1 (by decide) (by decide) (by decide), hl 2 (by decide) (by decide) (by decide), hl 3 (by decide) (by decide) (by decide), hl 4 (by decide) (by decide) (by decide), hl 5 (by decide) (by decide) (by decide), hl 6 (by decide) (by decide) (by decide), hl 7 (by decide) (by decide) (by decide), hl 10 (by decide) (by decide) (by decide), hl 11 (by decide) (by decide) (by decide), hl 12 (by decide) (by decide) (by decide), hl 13 (by decide) (by decide) (by decide), hl 14 (by decide) (by decide) (by decide), hl 15 (by decide) (by decide) (by decide)]
  exact h
theorem cp_i (A2 A : StM) : ∀ k, k < 4 → (St_copyFrom A2 A).1 k = A2.1 k := fun k hk => match k, hk with
  | 0, _ => rfl
  | 1, _ => rfl
  | 2, _ => rfl
  | 3, _ => rfl
theorem cp_l {A2 : StM} (h : Sz A2) (A : StM) : ∀ j, j < 16 → j ≠ 8 → j ≠ 9 → (St_copyFrom A2 A).2 j = A2.2 j := by
  have zfo := h.fo
  have ze1 := h.e1
  have ze2 := h.e2
  have ze3 := h.e3
  have ze4 := h.e4
  have zr := h.r
  have ze6 := h.e6
  have zl := h.l
  have zt := h.t
  have zs := h.s
  have ze12 := h.e12
  have ze13 := h.e13
  have ze14 := h.e14
  have ze15 := h.e15
  intro j hj h8 h9
  match j, hj, h8, h9 with
  | 0, _, _, _ => exact List.take_of_length_le (l := A2.2 0) (i := 24) (by omega)
  | 1, _, _, _ => exact List.take_of_length_le (l := A2.2 1) (i := 24) (by omega)
  | 2, _, _, _ => exact List.take_of_length_le (l := A2.2 2) (i := 24) (by omega)
  | 3, _, _, _ => exact List.take_of_length_le (l := A2.2 3) (i := 24) (by omega)
  | 4, _, _, _ => exact List.take_of_length_le (l := A2.2 4) (i := 24) (by omega)
  | 5, _, _, _ => exact List.take_of_length_le (l := A2.2 5) (i := 8) (by omega)
  | 6, _, _, _ => exact List.take_of_length_le (l := A2.2 6) (i := 8) (by omega)
  | 7, _, _, _ => exact List.take_of_length_le (l := A2.2 7) (i := 24) (by omega)
  | 8, _, h, _ => exact absurd rfl h
  | 9, _, _, h => exact absurd rfl h
  | 10, _, _, _ => exact List.take_of_length_le (l := A2.2 10) (i := 24) (by omega)
  | 11, _, _, _ => exact List.take_of_length_le (l := A2.2 11) (i := 16) (by omega)
  | 12, _, _, _ => exact List.take_of_length_le (l := A2.2 12) (i := 16) (by omega)
  | 13, _, _, _ => exact List.take_of_length_le (l := A2.2 13) (i := 16) (by omega)
  | 14, _, _, _ => exact List.take_of_length_le (l := A2.2 14) (i := 16) (by omega)
  | 15, _, _, _ => exact List.take_of_length_le (l := A2.2 15) (i := 11) (by omega)
  | j + 16, h, _, _ => exact absurd h (by omega)
theorem RI.copy {H : Int32} {A2 : StM} {f : Nat → Int32} (h : RI H A2 f) (A : StM) : RI H (St_copyFrom A2 A) f := h.cong (cp_i A2 A) (cp_l h.sz A)
/-- a state that undoing restores, on both sides -/
def Top (A : StM) (f : Nat → Int32) : Prop := RI (A.1 2) A f ∧ ∃ d, d ≤ 999 ∧ A.1 0 = nI d
theorem Top.ri {A : StM} {f : Nat → Int32} (h : Top A f) : RI (A.1 2) A f := h.1
theorem Top.ext {A : StM} {f g : Nat → Int32} (h : Top A f) (hg : ∀ j, j < 257 → g j = f j) : Top A g := ⟨h.1.ext hg, h.2⟩
theorem Top.copy {A2 : StM} {f : Nat → Int32} (h : Top A2 f) (A : StM) : Top (St_copyFrom A2 A) f := ⟨h.1.copy A, h.2⟩
theorem Top.l8 {A : StM} {f : Nat → Int32} (h : Top A f) (L : List Int32) : Top (setL A 8 L) f := h
theorem Top.l9 {A : StM} {f : Nat → Int32} (h : Top A f) (L : List Int32) : Top (setL A 9 L) f := h
def HisR (W : WM) (M : MdM) : Prop := ∃ a c, a < 9 ∧ c ≤ 8 ∧ W.2.2.1 7 = nI a ∧ W.2.2.1 8 = nI c ∧ M.1 8 = nI c ∧ ∀ k, k < c → Top (W.1 ((a + k) % 9)) (fun j => M.2 5 (257 * k + j))
def LasR (W : WM) (M : MdM) : Prop := (W.2.1 2).length = 3 ∧ ∀ k, k < 3 → M.2 6 k = (W.2.1 2).getD k 0
def SnaR (W : WM) (M : MdM) : Prop := W.2.2.1 9 = M.1 10 ∧ (M.1 10 = 0 ∨ (M.1 10 = 1 ∧ Top (W.1 11) (M.2 4)))
def BufR (W : WM) (M : MdM) : Prop := (W.2.1 0).length ≤ 700 ∧ M.1 18 = nI (W.2.1 0).length ∧ ∀ i, i < (W.2.1 0).length → M.2 10 i = (W.2.1 0).getD i 0
def FmtR (W : WM) (M : MdM) : Prop := (W.2.1 1).length ≤ 128 ∧ M.1 16 = nI (W.2.1 1).length ∧ ∀ i, i < (W.2.1 1).length → M.2 9 i = (W.2.1 1).getD i 0
def WRel (W : WM) (M : MdM) : Prop := Top (W.1 9) (M.2 0) ∧ LasR W M ∧ HisR W M ∧ SnaR W M ∧ BufR W M ∧ FmtR W M ∧ W.2.2.1 10 = M.1 25
theorem wi_s (W : WM) (k : Nat) (v : Int32) : (setWI W k v).2.2.1 k = v := if_pos rfl
theorem wi_n (W : WM) {k j : Nat} (v : Int32) (h : j ≠ k) : (setWI W k v).2.2.1 j = W.2.2.1 j := if_neg h
section WR
variable {W : WM} {M : MdM}
theorem setS_s (W : WM) (i : Nat) (A : StM) : (setS W i A).1 i = A := if_pos rfl
theorem setS_n (W : WM) {i j : Nat} (A : StM) (h : j ≠ i) : (setS W i A).1 j = W.1 j := if_neg h
/-- where only the standing state and what no later call shows has changed -/
theorem WRel.step (h : WRel W M) {A : StM} {M' : MdM} (ht : Top A (M'.2 0)) (h1 : ∀ k, k ≠ 9 → k ≠ 11 → k ≠ 12 → M'.1 k = M.1 k) (h2 : ∀ j, j ≠ 0 → j ≠ 2 → j ≠ 3 → j ≠ 7 → j ≠ 8 → M'.2 j = M.2 j) : WRel (setS W 9 A) M' := by
  obtain ⟨b1, b2, b3, b4, b5, b6, b7⟩ := h
  refine ⟨?_, ?_, ?_, ?_, ?_, ?_, ?_⟩
  · rw [setS_s]; exact ht
  · unfold LasR
    rw [h2 6 (by decide) (by decide) (by decide) (by decide) (by decide)]
    exact b2
  · obtain ⟨a, c, c1, c2, c3, c4, c5, c6⟩ := b3
    refine ⟨a, c, c1, c2, c3, c4, (h1 8 (by decide) (by decide) (by decide)).trans c5, fun k hk => ?_⟩
    rw [setS_n _ _ (by have := Nat.mod_lt (a + k) (show 9 > 0 by decide); omega), h2 5 (by decide) (by decide) (by decide) (by decide) (by decide)]
    exact c6 k hk
  · unfold SnaR
    rw [h1 10 (by decide) (by decide) (by decide), h2 4 (by decide) (by decide) (by decide) (by decide) (by decide), setS_n _ _ (by decide)]
    exact b4
  · unfold BufR
    rw [h1 18 (by decide) (by decide) (by decide), h2 10 (by decide) (by decide) (by decide) (by decide) (by decide)]
    exact b5
  · unfold FmtR
    rw [h1 16 (by decide) (by decide) (by decide), h2 9 (by decide) (by decide) (by decide) (by decide) (by decide)]
    exact b6
  · rw [h1 25 (by decide) (by decide) (by decide)]; exact b7
theorem setS_id (W : WM) (i : Nat) : setS W i (W.1 i) = W := Prod.ext (funext fun j => by
  show (if j = i then W.1 i else W.1 j) = W.1 j
  by_cases h : j = i
  · rw [if_pos h, h]
  · rw [if_neg h]) rfl
/-- .. and where the component hasn't changed -/
theorem WRel.md (h : WRel W M) {M' : MdM} (h1 : ∀ k, k ≠ 9 → k ≠ 11 → k ≠ 12 → M'.1 k = M.1 k) (h2 : ∀ j, j ≠ 2 → j ≠ 3 → j ≠ 7 → j ≠ 8 → M'.2 j = M.2 j) : WRel W M' := by
  have := h.step (A := W.1 9) (M' := M') (by rw [h2 0 (by decide) (by decide) (by decide) (by decide)]; exact h.1) h1 (fun j _ b c d e => h2 j b c d e)
  rwa [setS_id] at this
theorem WRel.thr (h : WRel W M) (v : Int32) : WRel W (setF M 9 v) := h.md (fun k a _ _ => setF_n _ _ a) (fun _ _ _ _ _ => rfl)
/-- the draft is nobody's -/
theorem WRel.draft (h : WRel W M) (A : StM) : WRel (setS W 10 A) M := by
  obtain ⟨b1, b2, ⟨a, c, c1, c2, c3, c4, c5, c6⟩, b4, b5, b6, b7⟩ := h
  refine ⟨by rw [setS_n _ _ (by decide)]; exact b1, b2, ⟨a, c, c1, c2, c3, c4, c5, fun k hk => ?_⟩, by unfold SnaR; rw [setS_n _ _ (by decide)]; exact b4, b5, b6, b7⟩
  rw [setS_n _ _ (by have := Nat.mod_lt (a + k) (show 9 > 0 by decide); omega)]
  exact c6 k hk
theorem m_copy {i j a b : Nat} (h1 : 257 * a + 257 ≤ mz i) (h2 : 257 * b + 257 ≤ mz j) (ha : a < 9) (hb : b < 9) : Md_copy M i (nI a) j (nI b) = some (setA M j (va_cpy (M.2 i) (M.2 j) (257 * a) (257 * b) 257)) := by
  unfold Md_copy
  rw [show (257 : Int32) = nI 257 from rfl, pk_mul, pk_mul, q_cl (by omega), q_cl (by omega), if_pos ⟨q_neg (by omega), q_neg (by omega), h1, h2⟩]
theorem cpy0 (f g : Nat → Int32) (j : Nat) (h : j < 257) : va_cpy f g (257 * 0) (257 * 0) 257 j = f j := by
  unfold va_cpy
  rw [if_pos ⟨by omega, by omega⟩]
  congr 1
  omega
theorem m_keep : Md_keep 0 M = some (setA M 3 (va_cpy (M.2 0) (M.2 3) (257 * 0) (257 * 0) 257)) := by
  unfold Md_keep
  rw [show Md_copy M 0 0 3 0 = _ from m_copy (a := 0) (b := 0) (i := 0) (j := 3) (by decide) (by decide) (by decide) (by decide), bs]
theorem WRel.keep (h : WRel W M) (g : Nat → Int32) : WRel W (setA M 3 g) := h.md (fun _ _ _ _ => rfl) (fun j _ b _ _ => setA_n _ _ b)
theorem hix_n {a c : Nat} (ha : a < 9) (hc : c ≤ 8) (h7 : W.2.2.1 7 = nI a) (h8 : W.2.2.1 8 = nI c) : hix W = nI ((a + c) % 9) := by
  unfold hix
  rw [h7, h8, nI_add, show (9 : Int32) = nI 9 from rfl, pk_rem (by omega) (by omega) (by omega)]
theorem prep_n {a c : Nat} (ha : a < 9) (hc : c ≤ 8) (h7 : W.2.2.1 7 = nI a) (h8 : W.2.2.1 8 = nI c) : Hi_prepare W = some (setS W ((a + c) % 9) (St_copyFrom (W.1 9) (W.1 ((a + c) % 9)))) := by
  have := Nat.mod_lt (a + c) (show 9 > 0 by decide)
  unfold Hi_prepare
  rw [hix_n ha hc h7 h8, if_pos (q_in (by omega) (by omega)), q_cl (by omega)]
/-- the reference's history where it is full: the states move up -/
theorem rec_L (g : Nat → Int32) : ∀ (n s : Nat) (M : MdM), 1 ≤ s → s ≤ 8 → 8 - s < n → M.1 8 = nI 8 → (∀ q, M.2 5 q = if q < 257 * (s - 1) then g (q + 257) else g q) → ∃ M', Md_record_L11 0 n M (nI s) = some M' ∧ M'.1 = (setF (setF M 8 (nI 7)) 8 (nI 8)).1 ∧ (∀ j, j ≠ 5 → M'.2 j = M.2 j) ∧ (∀ k j, k < 7 → j < 257 → M'.2 5 (257 * k + j) = g (257 * (k + 1) + j)) ∧ ∀ j, j < 257 → M'.2 5 (257 * 7 + j) = M.2 3 j := by
  intro n
  induction n with
  | zero => intro s M h1 h2 h3; omega
  | succ n ih =>
    intro s M h1 h2 h3 h4 h5
    unfold Md_record_L11
    by_cases hs : 8 ≤ s
    · obtain rfl : s = 8 := by omega
      rw [if_pos (show (8 : Int32) ≤ nI 8 by decide), h4, show nI 8 - 1 = nI 7 from nI_pred 7, show Md_copy (setF M 8 (nI 7)) 3 0 5 (nI 7) = _ from m_copy (a := 0) (b := 7) (i := 3) (j := 5) (by decide) (by decide) (by decide) (by decide), bs]
      refine ⟨_, rfl, ?_, fun j hj => (setA_n (setF M 8 (nI 7)) _ hj), fun k j hk hj => ?_, fun j hj => ?_⟩
      · show (setF (setF M 8 (nI 7)) 8 ((setF M 8 (nI 7)).1 8 + 1)).1 = _
        rw [setF_s]; rfl
      · show va_cpy (M.2 3) (M.2 5) (257 * 0) (257 * 7) 257 _ = _
        unfold va_cpy
        rw [if_neg (by omega)]
        rw [h5, if_pos (by omega)]
        congr 1
        omega
      · show va_cpy (M.2 3) (M.2 5) (257 * 0) (257 * 7) 257 _ = _
        unfold va_cpy
        rw [if_pos (by omega), show 257 * 0 + (257 * 7 + j - 257 * 7) = j by omega]
    · rw [if_neg (show ¬ (8 : Int32) ≤ nI s from fun q => hs ((q_le (a := 8) (by omega) (by omega)).mp q))]
      obtain ⟨s, rfl⟩ : ∃ q, s = q + 1 := ⟨s - 1, by omega⟩
      rw [nI_pred, m_copy (a := s + 1) (b := s) (i := 5) (j := 5) (by show _ ≤ 2056; omega) (by show _ ≤ 2056; omega) (by omega) (by omega), bs, nI_1]
      obtain ⟨M', e1, e2, e3, e4, e5⟩ := ih (s + 1 + 1) (setA M 5 (va_cpy (M.2 5) (M.2 5) (257 * (s + 1)) (257 * s) 257)) (by omega) (by omega) (by omega) h4 (fun q => by
        rw [setA_s]
        unfold va_cpy
        by_cases c : 257 * s ≤ q ∧ q < 257 * s + 257
        · rw [if_pos c, h5, if_neg (by omega), if_pos (by omega)]
          congr 1
          omega
        · rw [if_neg c, h5]
          by_cases c2 : q < 257 * s
          · rw [if_pos (by omega), if_pos (by omega)]
          · rw [if_neg (by omega), if_neg (by omega)])
      exact ⟨M', e1, e2, fun j hj => (e3 j hj).trans (setA_n _ _ hj), e4, fun j hj => (e5 j hj).trans (by rw [setA_n _ _ (by decide)])⟩
/-- an operation that has been done, and recorded -/
theorem las_up {xs : List Int32} {f : Nat → Int32} (hl : xs.length = 3) (hf : ∀ k, k < 3 → f k = xs.getD k 0) {b : Nat} (hb : b < 3) : (lnraise xs (nI b) 1).length = 3 ∧ ∀ k, k < 3 → upd f b (f b + 1) k = (lnraise xs (nI b) 1).getD k 0 := by
  rw [lr_in _ (by omega) (by omega)]
  refine ⟨by rw [List.length_set, hl], fun k hk => ?_⟩
  rw [getD_set _ _ _ _ (by omega)]
  unfold upd
  by_cases c : k = b
  · rw [if_pos c, if_pos c, hf b hb]
  · rw [if_neg c, if_neg c, hf k hk]
theorem las_En {W' : WM} {M1 : MdM} {v : Int32} (h : LasR W M) (h6 : M1.2 6 = M.2 6) (hw : W'.2.1 2 = W.2.1 2) : LasR (SA_counted W' v).2 (En M1 v) := by
  unfold SA_counted En
  rw [lu]
  obtain ⟨h1, h2⟩ := h
  show (lnraise (W'.2.1 2) (if v < 0 then 1 else 0) 1).length = 3 ∧ ∀ k, k < 3 → (setA M1 6 _).2 6 k = (lnraise (W'.2.1 2) (if v < 0 then 1 else 0) 1).getD k 0
  rw [setA_s, hw, h6]
  by_cases hv : v < 0
  · simp only [if_pos hv]
    exact las_up (b := 1) h1 h2 (by decide)
  · simp only [if_neg hv]
    exact las_up (b := 0) h1 h2 (by decide)
end WR
section WR
variable {W : WM} {M : MdM}
theorem WRel.cnt (h : WRel W M) (v : Int32) : WRel (SA_counted W v).2 (En M v) := by
  obtain ⟨b1, b2, b3, b4, b5, b6, b7⟩ := h
  exact ⟨b1, las_En b2 rfl rfl, b3, b4, b5, b6, b7⟩
def HisA (W : WM) (M : MdM) (a c : Nat) : Prop := a < 9 ∧ c ≤ 8 ∧ W.2.2.1 7 = nI a ∧ W.2.2.1 8 = nI c ∧ M.1 8 = nI c ∧ ∀ k, k < c → Top (W.1 ((a + k) % 9)) (fun j => M.2 5 (257 * k + j))
theorem WRel.slot (h : WRel W M) {a c : Nat} (ha : HisA W M a c) (B : StM) : WRel (setS W ((a + c) % 9) B) M ∧ HisA (setS W ((a + c) % 9) B) M a c := by
  have hm := Nat.mod_lt (a + c) (show 9 > 0 by decide)
  obtain ⟨b1, b2, -, b4, b5, b6, b7⟩ := h
  obtain ⟨c1, c2, c3, c4, c5, c6⟩ := ha
  have hA : HisA (setS W ((a + c) % 9) B) M a c := ⟨c1, c2, c3, c4, c5, fun k hk => by
    rw [setS_n _ _ (by omega)]
    exact c6 k hk⟩
  exact ⟨⟨by rw [setS_n _ _ (by omega)]; exact b1, b2, ⟨a, c, hA⟩, by unfold SnaR; rw [setS_n _ _ (by omega)]; exact b4, b5, b6, b7⟩, hA⟩
theorem m_record (h : M.1 8 = nI 8 ∨ ∃ c, c < 8 ∧ M.1 8 = nI c) : (M.1 8 = nI 8 ∧ ∃ M', Md_record 0 M = some M' ∧ M'.1 = (setF (setF M 8 (nI 7)) 8 (nI 8)).1 ∧ (∀ j, j ≠ 5 → M'.2 j = M.2 j) ∧ (∀ k j, k < 7 → j < 257 → M'.2 5 (257 * k + j) = M.2 5 (257 * (k + 1) + j)) ∧ ∀ j, j < 257 → M'.2 5 (257 * 7 + j) = M.2 3 j) ∨
    ∃ c, c < 8 ∧ M.1 8 = nI c ∧ ∃ M', Md_record 0 M = some M' ∧ M'.1 = (setF M 8 (nI (c + 1))).1 ∧ (∀ j, j ≠ 5 → M'.2 j = M.2 j) ∧ (∀ k j, k < c → j < 257 → M'.2 5 (257 * k + j) = M.2 5 (257 * k + j)) ∧ ∀ j, j < 257 → M'.2 5 (257 * c + j) = M.2 3 j := by
  unfold Md_record
  rcases h with h | ⟨c, hc, h⟩
  · left
    refine ⟨h, ?_⟩
    rw [if_pos (show M.1 8 = 8 by rw [h]; rfl)]
    exact rec_L (M.2 5) FU 1 M (by omega) (by omega) (FU_gt (by omega)) h (fun q => by rw [if_neg (by omega)])
  · right
    refine ⟨c, hc, h, ?_⟩
    rw [if_neg (show ¬ M.1 8 = 8 by rw [h]; exact fun q => absurd ((q_eq (b := 8) (by omega) (by omega)).mp q) (by omega)), h, show Md_copy M 3 0 5 (nI c) = _ from m_copy (a := 0) (b := c) (i := 3) (j := 5) (by decide) (by show _ ≤ 2056; omega) (by decide) (by omega), bs]
    refine ⟨_, rfl, ?_, fun j hj => (setA_n M _ hj), fun k j hk hj => ?_, fun j hj => ?_⟩
    · show (setF M 8 (M.1 8 + 1)).1 = _
      rw [h, nI_1]
    · show (setA M 5 _).2 5 _ = _
      rw [setA_s]
      exact if_neg (by omega)
    · show (setA M 5 _).2 5 _ = _
      rw [setA_s]
      refine (if_pos ⟨by omega, by omega⟩).trans ?_
      show M.2 3 (257 * 0 + (257 * c + j - 257 * c)) = _
      rw [show 257 * 0 + (257 * c + j - 257 * c) = j by omega]
theorem WRel.rec (h : WRel W M) {a c : Nat} (ha : HisA W M a c) (hkp : Top (W.1 ((a + c) % 9)) (M.2 3)) : ∃ k v M3, (k = 7 ∨ k = 8) ∧ Hi_keep W = some (setWI W k v) ∧ Md_record 0 M = some M3 ∧ WRel (setWI W k v) M3 ∧ M3.1 9 = M.1 9 := by
  obtain ⟨b1, b2, -, b4, b5, b6, b7⟩ := h
  obtain ⟨c1, c2, c3, c4, c5, c6⟩ := ha
  have fin : ∀ (k : Nat) (v : Int32) (M3 : MdM), (k = 7 ∨ k = 8) → (∀ j, j ≠ 5 → M3.2 j = M.2 j) → (∀ j, j ≠ 8 → M3.1 j = M.1 j) → HisR (setWI W k v) M3 → WRel (setWI W k v) M3 ∧ M3.1 9 = M.1 9 := by
    intro k v M3 hkk e1 e2 e3
    have hi : ∀ j, j ≠ 7 → j ≠ 8 → (setWI W k v).2.2.1 j = W.2.2.1 j := fun j a b => if_neg (by omega)
    refine ⟨⟨by rw [e1 0 (by decide)]; exact b1, ?_, e3, ?_, ?_, ?_, ?_⟩, e2 9 (by decide)⟩
    · unfold LasR; rw [e1 6 (by decide)]; exact b2
    · unfold SnaR; rw [e1 4 (by decide), e2 10 (by decide), hi 9 (by decide) (by decide)]; exact b4
    · unfold BufR; rw [e1 10 (by decide), e2 18 (by decide)]; exact b5
    · unfold FmtR; rw [e1 9 (by decide), e2 16 (by decide)]; exact b6
    · rw [e2 25 (by decide), hi 10 (by decide) (by decide)]; exact b7
  unfold Hi_keep
  rw [c4]
  by_cases h8 : c = 8
  · subst h8
    rcases m_record (M := M) (Or.inl c5) with ⟨-, M3, e1, e2, e3, e4, e5⟩ | ⟨c', hc', e0, -⟩
    · rw [if_pos (by decide), c3, nI_1, show (9 : Int32) = nI 9 from rfl, pk_rem (by omega) (by omega) (by omega)]
      refine ⟨7, _, M3, Or.inl rfl, rfl, e1, fin _ _ _ (Or.inl rfl) e3 (fun j hj => by rw [e2, setF_n _ _ hj, setF_n _ _ hj]) ?_⟩
      refine ⟨(a + 1) % 9, 8, Nat.mod_lt _ (by decide), Nat.le_refl _, wi_s _ _ _, c4, by rw [e2, setF_s], fun k hk => ?_⟩
      show Top (W.1 (((a + 1) % 9 + k) % 9)) _
      by_cases h7 : k < 7
      · rw [show ((a + 1) % 9 + k) % 9 = (a + (k + 1)) % 9 by omega]
        exact (c6 (k + 1) (by omega)).ext (fun j hj => e4 k j h7 hj)
      · obtain rfl : k = 7 := by omega
        rw [show ((a + 1) % 9 + 7) % 9 = (a + 8) % 9 by omega]
        exact hkp.ext e5
    · rw [c5] at e0
      exact absurd ((q_eq (by omega) (by omega)).mp e0) (by omega)
  · rcases m_record (M := M) (Or.inr ⟨c, by omega, c5⟩) with ⟨e0, -⟩ | ⟨c', hc', e0, M3, e1, e2, e3, e4, e5⟩
    · rw [c5] at e0
      exact absurd ((q_eq (by omega) (by omega)).mp e0) (by omega)
    · obtain rfl : c = c' := by
        rw [c5] at e0
        exact (q_eq (by omega) (by omega)).mp e0
      rw [if_neg (show ¬ (8 : Int32) ≤ nI c from fun q => absurd ((q_le (a := 8) (by omega) (by omega)).mp q) (by omega)), nI_1]
      refine ⟨8, _, M3, Or.inr rfl, rfl, e1, fin _ _ _ (Or.inr rfl) e3 (fun j hj => by rw [e2, setF_n _ _ hj]) ?_⟩
      refine ⟨a, c + 1, c1, by omega, c3, wi_s _ _ _, by rw [e2, setF_s], fun k hk2 => ?_⟩
      show Top (W.1 ((a + k) % 9)) _
      by_cases h7 : k < c
      · exact (c6 k h7).ext (fun j hj => e4 k j h7 hj)
      · obtain rfl : k = c := by omega
        exact hkp.ext e5
/-- an operation of the face: prepared, done, recorded -/
theorem WRel.opR (h : WRel W M) {M0 : MdM} (e0 : M0 = setA M 3 (va_cpy (M.2 0) (M.2 3) (257 * 0) (257 * 0) 257)) {x : Option (Int32 × StM)} {y : Option (Int32 × MdM)} (hop : OpR ((W.1 9).1 2) 0 (W.1 9) M0 x y) :
    ∃ v W1 A' W' M1 M', Hi_prepare W = some W1 ∧ W1.1 9 = W.1 9 ∧ x = some (v, A') ∧ SA_settled (setS W1 9 A') v = some (v, W') ∧ y = some (v, En M1 v) ∧ Md_recorded 0 (En M1 v) v = some (v, M') ∧ WRel W' M' ∧ M'.1 9 = M.1 9 := by
  obtain ⟨v, A', M1, ex, ey, hs, hR, h2, hd⟩ := hop
  obtain ⟨d, hd1, hd2⟩ := h.1.2
  obtain ⟨a, c, hH⟩ := h.2.2.1
  have hH' : HisA W M a c := hH
  have hm := Nat.mod_lt (a + c) (show 9 > 0 by decide)
  obtain ⟨hW1, hH1⟩ := h.slot hH' (St_copyFrom (W.1 9) (W.1 ((a + c) % 9)))
  generalize hB : St_copyFrom (W.1 9) (W.1 ((a + c) % 9)) = B at hW1 hH1
  have e9 : (setS W ((a + c) % 9) B).1 9 = W.1 9 := setS_n _ _ (by omega)
  have ht : Top A' (M1.2 0) := by
    refine ⟨by rw [h2]; exact hR, ?_⟩
    rcases hd with hd | ⟨q, hq, hd, hle⟩
    · exact ⟨d, hd1, by rw [hd, hd2]⟩
    · rw [hd2, nI_add] at hd hle
      exact ⟨d + q, (q_le (b := 999) (by omega) (by omega)).mp hle, hd⟩
  have i1 : ∀ k, k ≠ 9 → k ≠ 11 → k ≠ 12 → M1.1 k = M.1 k := fun k p q r => by rw [hs.1 k q r, e0]; rfl
  have i9 : (En M1 v).1 9 = M.1 9 := (hs.1 9 (by decide) (by decide)).trans (by rw [e0]; rfl)
  have i2 : ∀ j, j ≠ 0 → j ≠ 2 → j ≠ 3 → j ≠ 7 → j ≠ 8 → M1.2 j = M.2 j := fun j p _ q r s => by rw [hs.2 j p r s, e0, setA_n _ _ q]
  have hW2 : WRel (setS (setS W ((a + c) % 9) B) 9 A') M1 := hW1.step ht i1 i2
  have hH2 : HisA (setS (setS W ((a + c) % 9) B) 9 A') M1 a c := by
    obtain ⟨c1, c2, c3, c4, c5, c6⟩ := hH1
    refine ⟨c1, c2, c3, c4, (i1 8 (by decide) (by decide) (by decide)).trans c5, fun k hk => ?_⟩
    rw [setS_n _ _ (by have := Nat.mod_lt (a + k) (show 9 > 0 by decide); omega), i2 5 (by decide) (by decide) (by decide) (by decide) (by decide)]
    exact c6 k hk
  have hW3 := hW2.cnt v
  refine ⟨v, setS W ((a + c) % 9) B, A', ?_⟩
  by_cases hv : v < 0
  · refine ⟨_, M1, En M1 v, by rw [← hB]; exact prep_n hH'.1 hH'.2.1 hH'.2.2.1 hH'.2.2.2.1, e9, ex, ?_, ey, ?_, hW3, i9⟩
    · unfold SA_settled
      rw [if_pos hv, lu]
      rfl
    · unfold Md_recorded
      rw [if_pos hv]
  · have hk : Top ((SA_counted (setS (setS W ((a + c) % 9) B) 9 A') v).2.1 ((a + c) % 9)) ((En M1 v).2 3) := by
      show Top ((setS (setS W ((a + c) % 9) B) 9 A').1 ((a + c) % 9)) ((setA M1 6 _).2 3)
      rw [setS_n _ _ (by omega), setS_s, setA_n _ _ (by decide), hs.2 3 (by decide) (by decide) (by decide), e0, setA_s, ← hB]
      exact (h.1.copy _).ext (fun j hj => cpy0 _ _ j hj)
    have hH3 : HisA (SA_counted (setS (setS W ((a + c) % 9) B) 9 A') v).2 (En M1 v) a c := hH2
    obtain ⟨k, w, M3, hk7, g1, g2, g3, g4⟩ := hW3.rec hH3 hk
    refine ⟨_, M1, M3, by rw [← hB]; exact prep_n hH'.1 hH'.2.1 hH'.2.2.1 hH'.2.2.2.1, e9, ex, ?_, ey, ?_, g3, g4.trans i9⟩
    · unfold SA_settled
      rw [if_neg hv]
      have g1' : Hi_keep (setS (setS W ((a + c) % 9) B) 9 A') = some (setWI (setS (setS W ((a + c) % 9) B) 9 A') k w) := by
        unfold Hi_keep at g1 ⊢
        have q7 : (SA_counted (setS (setS W ((a + c) % 9) B) 9 A') v).2.2.2.1 = (setS (setS W ((a + c) % 9) B) 9 A').2.2.1 := rfl
        rw [q7] at g1
        by_cases c8 : 8 ≤ (setS (setS W ((a + c) % 9) B) 9 A').2.2.1 8
        · rw [if_pos c8] at g1 ⊢
          have g := congrArg (fun z : WM => z.2.2.1) (Option.some.inj g1)
          exact congrArg some (Prod.ext rfl (Prod.ext rfl (Prod.ext g rfl)))
        · rw [if_neg c8] at g1 ⊢
          have g := congrArg (fun z : WM => z.2.2.1) (Option.some.inj g1)
          exact congrArg some (Prod.ext rfl (Prod.ext rfl (Prod.ext g rfl)))
      rw [g1', bs, lu]
      rfl
    · unfold Md_recorded
      rw [if_neg hv, g2, bs]
end WR
/-! a new archive; a folder more -/
def Zr (f : Nat → Int32) (n : Nat) : Prop := ∀ j, 25 + 5 * n ≤ j → j < 145 → f j = 0
def gB (f : Nat → Int32) (p h r l : Int32) : Nat → Int32 := upd (upd (upd (upd (fun j => if j < 257 then 0 else f j) 1 p) 2 h) 3 r) 4 l
theorem m_beginL {ρ : Nat} (p h r l : Int32) : ∀ (n k : Nat) (M : MdM), k ≤ 257 → 257 - k < n → Md_begin_L3 ρ n M p h r l (nI k) = some (setA M ρ (upd (upd (upd (upd (fun j => if k ≤ j ∧ j < 257 then 0 else M.2 ρ j) 1 p) 2 h) 3 r) 4 l)) := by
  intro n
  induction n with
  | zero => intro k M h1 h2; omega
  | succ n ih =>
    intro k M h1 h2
    unfold Md_begin_L3
    by_cases hk : 257 ≤ k
    · rw [if_pos (show (257 : Int32) ≤ nI k from nI_le (a := 257) hk (by omega)), tn1, tn2, tn3, tn4]
      rw [show (fun j => if k ≤ j ∧ j < 257 then 0 else M.2 ρ j) = M.2 ρ from funext fun j => if_neg (by omega)]
    · rw [if_neg (show ¬ (257 : Int32) ≤ nI k from nI_ge (b := 257) (by omega) (by omega)), if_pos (q_in (by omega) (by omega)), q_cl (by omega), nI_1, ih (k + 1) _ (by omega) (by omega), setA_A, setA_s]
      rw [show (fun j => if k + 1 ≤ j ∧ j < 257 then 0 else upd (M.2 ρ) k 0 j) = (fun j => if k ≤ j ∧ j < 257 then 0 else M.2 ρ j) from funext fun j => by
        unfold upd
        by_cases c : j = k
        · rw [if_neg (by omega), if_pos c, if_pos (by omega)]
        · by_cases c2 : k + 1 ≤ j ∧ j < 257
          · rw [if_pos c2, if_pos (by omega)]
          · rw [if_neg c2, if_neg c, if_neg (by omega)]]
theorem m_begin {ρ : Nat} {M : MdM} (p h r l : Int32) : Md_begin ρ M p h r l = some (setA M ρ (gB (M.2 ρ) p h r l)) := by
  unfold Md_begin
  rw [show (0 : Int32) = nI 0 from rfl, m_beginL p h r l FU 0 M (by omega) (FU_gt (by omega))]
  unfold gB
  rw [show (fun j => if 0 ≤ j ∧ j < 257 then 0 else M.2 ρ j) = (fun j => if j < 257 then 0 else M.2 ρ j) from funext fun j => by
    by_cases c : j < 257
    · rw [if_pos ⟨Nat.zero_le _, c⟩, if_pos c]
    · rw [if_neg (fun q => c q.2), if_neg c]]
theorem rep_gd (n i : Nat) : (List.replicate n (0 : Int32)).getD i 0 = 0 := by
  rw [List.getD_eq_getElem?_getD, List.getElem?_replicate]
  split <;> rfl
theorem s_begin (A : StM) (f : Nat → Int32) {p h r l : Nat} (hp : 1 ≤ p ∧ p < 1000) (hr : r ≤ 8) : ∃ A', St_begin A (nI p) (nI h) (nI r) (nI l) = some A' ∧ RI (nI h) A' (gB f (nI p) (nI h) (nI r) (nI l)) ∧ A'.1 0 = 0 ∧ A'.1 2 = nI h ∧ A'.2 0 = [] ∧ Zr (gB f (nI p) (nI h) (nI r) (nI l)) 0 := by
  have hin : (0 : Int32) ≤ nI r ∧ nI r ≤ 900 := ⟨nI_pos' (by omega), show nI r ≤ nI 900 from nI_le (by omega) (by omega)⟩
  unfold St_begin
  rw [if_pos hin, if_pos hin, lu, if_pos (by decide)]
  have z : ∀ j, j ≠ 1 → j ≠ 2 → j ≠ 3 → j ≠ 4 → j < 257 → gB f (nI p) (nI h) (nI r) (nI l) j = 0 := fun j a b c d e => (if_neg d).trans ((if_neg c).trans ((if_neg b).trans ((if_neg a).trans (if_pos e))))
  have e5 : lnfill 8 (nI r) = List.replicate r 0 := by
    unfold lnfill
    rw [q_cl (by omega), Nat.min_eq_left hr]
  have e15 : lnfill 11 11 = List.replicate 11 0 := rfl
  rw [e5, e15]
  refine ⟨_, rfl, ⟨?_, ?_, ?_, ?_, ?_, ?_⟩, rfl, rfl, rfl, fun j h1 h2 => z j (by omega) (by omega) (by omega) (by omega) (by omega)⟩
  · refine ⟨?_, ?_, ?_, ?_, ?_, ?_, ?_, ?_, ?_, ?_, ?_, ?_, ?_, ?_, ?_, ?_, ?_, ?_, ?_, ?_, ?_, ?_⟩
    · exact z 0 (by decide) (by decide) (by decide) (by decide) (by decide)
    · rfl
    · rfl
    · rfl
    · show _ = nI (List.replicate r (0 : Int32)).length
      rw [List.length_replicate]; rfl
    · exact z 5 (by decide) (by decide) (by decide) (by decide) (by decide)
    · exact z 6 (by decide) (by decide) (by decide) (by decide) (by decide)
    · exact z 7 (by decide) (by decide) (by decide) (by decide) (by decide)
    · exact z 8 (by decide) (by decide) (by decide) (by decide) (by decide)
    · exact fun i hi => absurd hi (Nat.not_lt_zero i)
    · exact fun i hi => absurd hi (Nat.not_lt_zero i)
    · exact fun i hi => absurd hi (Nat.not_lt_zero i)
    · exact fun i hi => absurd hi (Nat.not_lt_zero i)
    · exact fun i hi => absurd hi (Nat.not_lt_zero i)
    · intro i hi
      have hi : i < (List.replicate r (0 : Int32)).length := hi
      rw [List.length_replicate] at hi
      show _ = (List.replicate r (0 : Int32)).getD i 0
      rw [rep_gd]
      exact z _ (by omega) (by omega) (by omega) (by omega) (by omega)
    · exact fun i hi => absurd hi (Nat.not_lt_zero i)
    · exact fun i hi => absurd hi (Nat.not_lt_zero i)
    · exact fun i hi => absurd hi (Nat.not_lt_zero i)
    · exact fun i hi => absurd hi (Nat.not_lt_zero i)
    · exact fun i hi => absurd hi (Nat.not_lt_zero i)
    · exact fun i hi => absurd hi (Nat.not_lt_zero i)
    · intro k k1 k2
      show _ = (List.replicate 11 (0 : Int32)).getD k 0
      rw [rep_gd]
      exact z _ (by omega) (by omega) (by omega) (by omega) (by omega)
  · refine ⟨Nat.zero_le _, rfl, rfl, rfl, rfl, ?_, rfl, Nat.zero_le _, Nat.zero_le _, Nat.zero_le _, rfl, rfl, rfl, rfl⟩
    show (List.replicate r (0 : Int32)).length ≤ 8
    rw [List.length_replicate]; exact hr
  · refine ⟨List.nodup_nil, List.nodup_nil, fun x hx => absurd hx List.not_mem_nil, fun x hx => absurd hx List.not_mem_nil, fun k hk => absurd hk (Nat.not_lt_zero k), fun k hk => absurd hk (Nat.not_lt_zero k), fun k hk => absurd hk (Nat.not_lt_zero k), fun q hq => ?_⟩
    show (List.replicate r (0 : Int32)).getD q 0 = nI (List.count (nI q) [])
    rw [rep_gd]; rfl
  · exact ⟨List.nodup_nil, fun x hx => absurd hx List.not_mem_nil⟩
  · exact fun s hs => absurd hs (Nat.not_lt_zero s)
  · exact nI_nle (by omega) (by omega)
theorem s_addFolder {H : Int32} {ρ : Nat} {A : StM} {M : MdM} (h : RI H A (M.2 ρ)) (hz : Zr (M.2 ρ) (A.2 0).length) (hn : (A.2 0).length < 24) {m e : Nat} (hm : m ≤ 9999) (hnew : nI m ∉ A.2 0) : ∃ M', Md_addFolder ρ M (nI m) (nI e) = some M' ∧ M'.1 = M.1 ∧ (∀ j, j ≠ ρ → M'.2 j = M.2 j) ∧ RI H (St_addFolder A (nI m) (nI e)) (M'.2 ρ) ∧ (St_addFolder A (nI m) (nI e)).1 = A.1 ∧ ((St_addFolder A (nI m) (nI e)).2 0) = A.2 0 ++ [nI m] ∧ Zr (M'.2 ρ) ((A.2 0).length + 1) := by
  have zfo := h.sz.fo
  have ze1 := h.sz.e1
  have ze2 := h.sz.e2
  have ze3 := h.sz.e3
  have ze4 := h.sz.e4
  have zr := h.sz.r
  have ze6 := h.sz.e6
  have zl := h.sz.l
  have zt := h.sz.t
  have zs := h.sz.s
  have ze12 := h.sz.e12
  have ze13 := h.sz.e13
  have ze14 := h.sz.e14
  have ze15 := h.sz.e15
  have hlf : (A.2 7).length ≤ (A.2 0).length := nd_len (A.2 0).length h.fd.1 (fun x hx => by
    obtain ⟨k, c1, c2, -⟩ := h.fd.2.2.1 x hx
    exact ⟨k, c1, c2⟩)
  generalize hnn : (A.2 0).length = n at *
  generalize hll : (A.2 7).length = nl at *
  have hM : Md_addFolder ρ M (nI m) (nI e) = some (setA M ρ (gIns (upd (upd (upd (M.2 ρ) 5 (nI (n + 1))) (25 + 5 * n) (nI m)) (26 + 5 * n) (nI e)) nl nl (nI n))) := by
    unfold Md_addFolder
    rw [tn5, h.rel.nf, hnn, lu, nI_1, lay0 (by omega), bs, lay1 (by omega), bs]
    simp only [setA_A, setA_s]
    have h6 : upd (upd (upd (M.2 ρ) 5 (nI (n + 1))) (25 + 5 * n) (nI m)) (26 + 5 * n) (nI e) 6 = nI nl := (if_neg (by omega)).trans ((if_neg (by omega)).trans ((if_neg (by omega)).trans (h.rel.nl.trans (by rw [hll]))))
    rw [tn6, h6, m_insert (M := setA M ρ (upd (upd (upd (M.2 ρ) 5 (nI (n + 1))) (25 + 5 * n) (nI m)) (26 + 5 * n) (nI e))) (n := nl) (p := nl) (by rw [setA_s]; exact h6) (Nat.le_refl _) (by omega), bs, setA_A, setA_s]
  have hA : St_addFolder A (nI m) (nI e) = setL (setL (setL (setL (setL (setL A 7 (A.2 7 ++ [nI n])) 0 (A.2 0 ++ [nI m])) 1 (A.2 1 ++ [nI e])) 2 (A.2 2 ++ [0])) 3 (A.2 3 ++ [-1])) 4 (A.2 4 ++ [0]) := by
    unfold St_addFolder
    rw [hnn, la_in (xs := A.2 7) _ (by omega), la_in (xs := A.2 0) _ (by omega), la_in (xs := A.2 1) _ (by omega), la_in (xs := A.2 2) _ (by omega), la_in (xs := A.2 3) _ (by omega), la_in (xs := A.2 4) _ (by omega)]
  refine ⟨_, hM, rfl, fun j hj => setA_n _ _ hj, ?_, rfl, by rw [hA]; rfl, ?_⟩
  · rw [setA_s, hA]
    generalize hA' : setL (setL (setL (setL (setL (setL A 7 (A.2 7 ++ [nI n])) 0 (A.2 0 ++ [nI m])) 1 (A.2 1 ++ [nI e])) 2 (A.2 2 ++ [0])) 3 (A.2 3 ++ [-1])) 4 (A.2 4 ++ [0]) = A'
    have e0 : A'.2 0 = A.2 0 ++ [nI m] := by rw [← hA']; rfl
    have e1 : A'.2 1 = A.2 1 ++ [nI e] := by rw [← hA']; rfl
    have e2 : A'.2 2 = A.2 2 ++ [0] := by rw [← hA']; rfl
    have e3 : A'.2 3 = A.2 3 ++ [-1] := by rw [← hA']; rfl
    have e4 : A'.2 4 = A.2 4 ++ [0] := by rw [← hA']; rfl
    have e7 : A'.2 7 = A.2 7 ++ [nI n] := by rw [← hA']; rfl
    have ei : A'.1 = A.1 := by rw [← hA']; rfl
    have eo : ∀ j, j ≠ 0 → j ≠ 1 → j ≠ 2 → j ≠ 3 → j ≠ 4 → j ≠ 7 → A'.2 j = A.2 j := fun j a b c d e' f' => by rw [← hA', setL_n _ _ e', setL_n _ _ d, setL_n _ _ c, setL_n _ _ b, setL_n _ _ a, setL_n _ _ f']
    have e5 := eo 5 (by decide) (by decide) (by decide) (by decide) (by decide) (by decide)
    have e6 := eo 6 (by decide) (by decide) (by decide) (by decide) (by decide) (by decide)
    have e10 := eo 10 (by decide) (by decide) (by decide) (by decide) (by decide) (by decide)
    have e11 := eo 11 (by decide) (by decide) (by decide) (by decide) (by decide) (by decide)
    have e12 := eo 12 (by decide) (by decide) (by decide) (by decide) (by decide) (by decide)
    have e13 := eo 13 (by decide) (by decide) (by decide) (by decide) (by decide) (by decide)
    have e14 := eo 14 (by decide) (by decide) (by decide) (by decide) (by decide) (by decide)
    have e15 := eo 15 (by decide) (by decide) (by decide) (by decide) (by decide) (by decide)
    generalize hg : upd (upd (upd (M.2 ρ) 5 (nI (n + 1))) (25 + 5 * n) (nI m)) (26 + 5 * n) (nI e) = g
    have hlow : ∀ j, j ≠ 5 → j ≠ 6 → j ≠ 25 + 5 * n → j ≠ 26 + 5 * n → j ≠ 145 + nl → gIns g nl nl (nI n) j = M.2 ρ j := fun j a b c d e' => by
      unfold gIns
      rw [if_neg b, if_neg e', if_neg (by omega), ← hg]
      exact (if_neg d).trans ((if_neg c).trans (if_neg a))
    have hst : ∀ j, j ≤ n → (A'.2 2).getD j 0 = if j = n then 0 else (A.2 2).getD j 0 := fun j hj => by
      rw [e2, gd_app1 j (by omega), ze2]
    have hho : ∀ j, j ≤ n → (A'.2 3).getD j 0 = if j = n then -1 else (A.2 3).getD j 0 := fun j hj => by
      rw [e3, gd_app1 j (by omega), ze3]
    have nrow : nI n ∉ A.2 7 := fun hx => by
      obtain ⟨k, c1, c2, -⟩ := h.fd.2.2.1 _ hx
      have := (q_eq (by omega) (by omega)).mp c2
      omega
    refine ⟨?_, ?_, ?_, ?_, ?_, by rw [ei]; exact h.per⟩
    · refine ⟨?_, ?_, ?_, ?_, ?_, ?_, ?_, ?_, ?_, ?_, ?_, ?_, ?_, ?_, ?_, ?_, ?_, ?_, ?_, ?_, ?_, ?_⟩
      · rw [ei, hlow 0 (by omega) (by omega) (by omega) (by omega) (by omega)]; exact h.rel.day
      · rw [ei, hlow 1 (by omega) (by omega) (by omega) (by omega) (by omega)]; exact h.rel.per
      · rw [ei, hlow 4 (by omega) (by omega) (by omega) (by omega) (by omega)]; exact h.rel.lim
      · rw [hlow 2 (by omega) (by omega) (by omega) (by omega) (by omega)]; exact h.rel.hd
      · rw [e5, hlow 3 (by omega) (by omega) (by omega) (by omega) (by omega)]; exact h.rel.nr
      · rw [e0, List.length_append, List.length_singleton, hnn]
        unfold gIns
        rw [if_neg (by omega), if_neg (by omega), if_neg (by omega), ← hg]
        exact (if_neg (by omega)).trans ((if_neg (by omega)).trans (if_pos rfl))
      · rw [e7, List.length_append, List.length_singleton, hll]
        refine (if_pos rfl).trans ?_
        rw [← hg]
        refine (congrArg (fun q => q + 1) ((if_neg (by omega)).trans ((if_neg (by omega)).trans (if_neg (by omega))))).trans ?_
        rw [h.rel.nl, hll, nI_1]
      · rw [e10, hlow 7 (by omega) (by omega) (by omega) (by omega) (by omega)]; exact h.rel.nt
      · rw [e11, hlow 8 (by omega) (by omega) (by omega) (by omega) (by omega)]; exact h.rel.ns
      · rw [e0]
        intro i hi
        rw [List.length_append, List.length_singleton] at hi
        rw [gd_app1 i (by omega)]
        by_cases c : i = (A.2 0).length
        · rw [if_pos c]
          unfold gIns
          rw [if_neg (by omega), if_neg (by omega), if_neg (by omega), ← hg]
          exact (if_neg (by omega)).trans (if_pos (by omega))
        · rw [if_neg c, hlow _ (by omega) (by omega) (by omega) (by omega) (by omega)]; exact h.rel.mk i (by omega)
      · rw [e1]
        intro i hi
        rw [List.length_append, List.length_singleton] at hi
        rw [gd_app1 i (by omega)]
        by_cases c : i = (A.2 1).length
        · rw [if_pos c]
          unfold gIns
          rw [if_neg (by omega), if_neg (by omega), if_neg (by omega), ← hg]
          exact if_pos (by omega)
        · rw [if_neg c, hlow _ (by omega) (by omega) (by omega) (by omega) (by omega)]; exact h.rel.em i (by omega)
      · intro i hi
        rw [e2, List.length_append, List.length_singleton] at hi
        rw [hst i (by omega), hlow _ (by omega) (by omega) (by omega) (by omega) (by omega)]
        by_cases c : i = n
        · rw [if_pos c]; exact hz _ (by omega) (by omega)
        · rw [if_neg c]; exact h.rel.st i (by omega)
      · intro i hi e'
        rw [e3, List.length_append, List.length_singleton] at hi
        rw [hst i (by omega)] at e'
        rw [hho i (by omega), hlow _ (by omega) (by omega) (by omega) (by omega) (by omega)]
        by_cases c : i = n
        · rw [if_pos c] at e'; exact absurd e' (by decide)
        · rw [if_neg c] at e' ⊢; exact h.rel.wi i (by omega) e'
      · rw [e4]
        intro i hi
        rw [List.length_append, List.length_singleton] at hi
        rw [gd_app1 i (by omega), hlow _ (by omega) (by omega) (by omega) (by omega) (by omega)]
        by_cases c : i = (A.2 4).length
        · rw [if_pos c]; exact hz _ (by omega) (by omega)
        · rw [if_neg c]; exact h.rel.tm i (by omega)
      · rw [e6]
        intro i hi
        rw [hlow _ (by omega) (by omega) (by omega) (by omega) (by omega)]; exact h.rel.sv i hi
      · rw [e7]
        intro i hi
        rw [List.length_append, List.length_singleton] at hi
        rw [gd_app1 i (by omega), Nat.one_mul]
        by_cases c : i = (A.2 7).length
        · rw [if_pos c]
          unfold gIns
          rw [if_neg (by omega), if_pos (by omega)]
        · rw [if_neg c, hlow _ (by omega) (by omega) (by omega) (by omega) (by omega)]; exact h.row (by omega)
      · rw [e10]
        intro i hi
        rw [hlow _ (by omega) (by omega) (by omega) (by omega) (by omega)]; exact h.rel.tr i hi
      · rw [e11]
        intro i hi
        rw [hlow _ (by omega) (by omega) (by omega) (by omega) (by omega)]; exact h.rel.s0 i hi
      · rw [e12]
        intro i hi
        rw [hlow _ (by omega) (by omega) (by omega) (by omega) (by omega)]; exact h.rel.s1 i hi
      · rw [e13]
        intro i hi
        rw [hlow _ (by omega) (by omega) (by omega) (by omega) (by omega)]; exact h.rel.s2 i hi
      · rw [e14]
        intro i hi
        rw [hlow _ (by omega) (by omega) (by omega) (by omega) (by omega)]; exact h.rel.s3 i hi
      · intro k k1 k2
        rw [e15, hlow _ (by omega) (by omega) (by omega) (by omega) (by omega)]; exact h.rel.ac k k1 k2
    · unfold Sz
      rw [e0, e1, e2, e3, e4, e5, e6, e7, e10, e11, e12, e13, e14, e15]
      simp only [List.length_append, List.length_singleton]
      exact ⟨by omega, by omega, by omega, by omega, by omega, zr, ze6, by omega, zt, zs, ze12, ze13, ze14, ze15⟩
    · obtain ⟨b1, b2, b3, b4, b5, b6, b7, b8⟩ := h.fd
      rw [hnn] at b3 b4 b5 b6 b7
      have hl0 : (A'.2 0).length = n + 1 := by rw [e0, List.length_append, List.length_singleton, hnn]
      unfold FdR
      rw [hl0, e5, e7, e10]
      refine ⟨?_, b2, fun x hx => ?_, fun x hx => ?_, fun j hj e' => ?_, fun j hj e' => ?_, fun j hj => ?_, fun j hj => ?_⟩
      · refine List.nodup_append.mpr ⟨b1, List.nodup_cons.mpr ⟨List.not_mem_nil, List.nodup_nil⟩, fun a ha b hb e' => ?_⟩
        rw [List.mem_singleton.mp hb] at e'
        exact nrow (e' ▸ ha)
      · rcases List.mem_append.mp hx with hx | hx
        · obtain ⟨k, c1, c2, c3⟩ := b3 x hx
          refine ⟨k, by omega, c2, ?_⟩
          rw [hst k (by omega), if_neg (by omega)]; exact c3
        · refine ⟨n, by omega, List.mem_singleton.mp hx, ?_⟩
          rw [hst n (by omega), if_pos rfl]
      · obtain ⟨k, c1, c2, c3⟩ := b4 x hx
        refine ⟨k, by omega, c2, ?_⟩
        rw [hst k (by omega), if_neg (by omega)]; exact c3
      · rw [hst j (by omega)] at e'
        by_cases c : j = n
        · rw [c]; exact List.mem_append.mpr (Or.inr (List.mem_singleton.mpr rfl))
        · rw [if_neg c] at e'
          exact List.mem_append.mpr (Or.inl (b5 j (by omega) e'))
      · rw [hst j (by omega)] at e'
        by_cases c : j = n
        · rw [if_pos c] at e'; exact absurd e' (by decide)
        · rw [if_neg c] at e'
          exact b6 j (by omega) e'
      · rw [hst j (by omega), hho j (by omega)]
        by_cases c : j = n
        · rw [if_pos c, if_pos c]; exact Or.inl ⟨Or.inl rfl, rfl⟩
        · rw [if_neg c, if_neg c]; exact b7 j (by omega)
      · rw [b8 j hj, e3, List.count_append, List.count_singleton]
        congr 1
        rw [if_neg (by simpa using fun q : (-1 : Int32) = nI j => q_m1 (a := j) (by omega) q.symm)]
        rfl
    · refine ⟨?_, fun x hx => ?_⟩
      · rw [e0]
        refine List.nodup_append.mpr ⟨h.mk.1, List.nodup_cons.mpr ⟨List.not_mem_nil, List.nodup_nil⟩, fun a ha b hb e' => ?_⟩
        rw [List.mem_singleton.mp hb] at e'
        exact hnew (e' ▸ ha)
      · rw [e0] at hx
        rcases List.mem_append.mp hx with hx | hx
        · exact h.mk.2 x hx
        · exact ⟨m, hm, List.mem_singleton.mp hx⟩
    · intro i hi
      rw [e11] at hi ⊢
      have hl0 : (A'.2 0).length = n + 1 := by rw [e0, List.length_append, List.length_singleton, hnn]
      rw [e5, e12, hl0]
      obtain ⟨g1, k, g2, g3⟩ := h.sp i hi
      exact ⟨g1, k, by omega, g3⟩
  · rw [setA_s]
    intro j h1 h2
    unfold gIns
    rw [if_neg (by omega), if_neg (by omega), if_neg (by omega)]
    refine (if_neg (by omega)).trans ((if_neg (by omega)).trans ((if_neg (by omega)).trans ?_))
    exact hz j (by omega) h2
