section FC
variable {W : WM} {M : MdM}
/-- after a question by halving -/
theorem WRel.hq (h : WRel W M) {M' : MdM} {x r : Int32} {L : List Int32} (hq : HQ (W.1 9) (setF M 9 0) M' x r L) : WRel (setS W 9 (setL (W.1 9) 8 L)) M' := by
  refine h.step ?_ (fun k a b c => ?_) (fun j a b c d e => ?_)
  · rw [hq.2.1 0 (by decide)]
    exact h.1.l8 L
  · rw [hq.1 k b c, setF_n _ _ a]
  · exact hq.2.1 j d
theorem WRel.sm (h : WRel W M) {M' : MdM} {A : StM} (hs : Sm 0 (setF M 9 0) M') (ht : Top A (M'.2 0)) : WRel (setS W 9 A) M' :=
  h.step ht (fun k a b c => by rw [hs.1 k b c, setF_n _ _ a]) (fun j a _ _ d e => hs.2 j a d e)
theorem f_gap (h : WRel W M) : P2 W (SA_gap W) (Md_gap 0 M) := by
  obtain ⟨a, b, c, e1, e2, e3, e4⟩ := s_gap h.1.1
  unfold SA_gap
  rw [e1, e2, e3, bs, bs, bs, nI_add, nI_add]
  exact ⟨_, _, rfl, e4, h.thr 0⟩
theorem f_found (h : WRel W M) (p : Int32) : P3 (SA_found W p) (Md_found 0 M p) := by
  obtain ⟨r, L, M', e1, e2, e3⟩ := s_halve (h.t9 0).w (by decide) p
  unfold SA_found Md_found
  rw [e1, e2, bs, bs]
  exact ⟨_, _, _, rfl, rfl, h.hq e3⟩
theorem f_looks (h : WRel W M) (p : Int32) : P3 (SA_looks W p) (Md_looks 0 M p) := by
  obtain ⟨r, L, M', e1, e2, e3⟩ := s_halve (h.t9 0).w (by decide) p
  unfold SA_looks Md_looks
  rw [e1, e2, bs, bs, lu, e3.2.2.1]
  exact ⟨_, _, _, rfl, rfl, h.hq e3⟩
theorem f_missed (h : WRel W M) : P3 (SA_missed W) (Md_missed 0 M) := by
  obtain ⟨v, L, M', e1, e2, -, e3, e4⟩ := s_missed (h.t9 0) (by decide)
  unfold SA_missed Md_missed
  rw [e1, e2, bs, bs]
  exact ⟨_, _, _, rfl, rfl, h.sm e3 (by rw [e4]; exact h.1.l8 L)⟩
theorem f_refilePlace (h : WRel W M) (p : Int32) : P3 (SA_refilePlace W p) (Md_refilePlace 0 M p) := by
  obtain ⟨r, L, M', e1, e2, e3⟩ := s_halve (h.t9 0).w (by decide) p
  have hl := h.1.1.sz.l
  have hw := h.hq e3
  unfold SA_refilePlace Md_refilePlace
  rw [e1, e2, bs, bs, lu, lu]
  rcases e3.2.2.2.2.2.2.1 with ⟨rfl, g⟩ | ⟨q, hq, rfl, -, g⟩
  · rw [if_pos rfl, bs, g]
    exact ⟨_, _, _, rfl, rfl, hw⟩
  · rw [if_neg (q_m1 (by omega)), bs, g]
    exact ⟨_, _, _, rfl, rfl, hw⟩
theorem f_inversions (h : WRel W M) : P2 W (SA_inversions W) (Md_inversions 0 M) := by
  obtain ⟨v, e1, e2⟩ := s_inversions (h.t9 0)
  unfold SA_inversions Md_inversions
  rw [e1, e2, bs, bs]
  exact ⟨_, _, rfl, rfl, h.thr 0⟩
theorem f_swapsLeft (h : WRel W M) : P2 W (SA_swapsLeft W) (Md_swapsLeft 0 M) := by
  obtain ⟨v, e1, e2⟩ := s_inversions (h.t9 0)
  unfold SA_swapsLeft Md_swapsLeft
  rw [e1, e2, bs, bs]
  exact ⟨_, _, rfl, rfl, h.thr 0⟩
theorem f_longestOrdered (h : WRel W M) : P3 (SA_longestOrdered W) (Md_longestOrdered 0 M) := by
  obtain ⟨v, R, M', e1, e2, e3, e4⟩ := s_longest h.1.1 (by decide)
  unfold SA_longestOrdered
  rw [e1, e2, bs]
  refine ⟨_, _, _, rfl, rfl, h.step (A := setL (W.1 9) 9 R) ?_ (fun k a b c => by rw [e3.1 k b c, setF_n _ _ a]) (fun j a _ _ d e => e3.2 j a d e)⟩
  rw [e4]; exact h.1.l9 R
theorem f_lookedAt (h : WRel W M) (p q : Int32) : P3 (SA_lookedAt W p q) (Md_lookedAt 0 M p q) := by
  obtain ⟨r, L, M', e1, e2, e3⟩ := s_halve (h.t9 0).w (by decide) p
  have hl := h.1.1.sz.l
  have hw := h.hq e3
  have hR := hw.1.1
  obtain ⟨x1, x2, x3, x4, x5, x6, -⟩ := e3
  unfold SA_lookedAt Md_lookedAt
  rw [e1, e2, bs, bs, lu, x3, inr_0 (by omega), setL_s, setL_n _ _ (by decide)]
  by_cases h0 : q < 0
  · rw [if_pos h0, if_pos rfl, lg_neg h0, lg_neg (by decide)]
    exact ⟨_, _, _, rfl, rfl, hw⟩
  · obtain ⟨j, hj, rfl⟩ := nI_of h0
    rw [if_neg h0]
    by_cases h1 : L.length ≤ j
    · have : lnget L (nI j) = -1 := by
        unfold lnget
        rw [if_neg (fun q => nI_nlt h1 hj q.2)]
      rw [if_pos (nI_le h1 hj), if_pos rfl, this, lg_neg (by decide)]
      exact ⟨_, _, _, rfl, rfl, hw⟩
    · obtain ⟨m, hm, em⟩ := x6 _ (gd_mem (show j < L.length by omega))
      rw [if_neg (nI_ge (by omega) (by omega)), if_neg (by decide), if_pos (q_in (by omega) (by omega)), q_cl (by omega), x5 j (by omega), em, e_fa (by omega), bs, lg_in (by omega) (by omega), em, lg_in hm (by omega)]
      have := hR.row (p := m) (by rw [setS_s]; exact hm)
      rw [setS_s] at this
      rw [this]
      exact ⟨_, _, _, rfl, rfl, hw⟩
theorem f_mostAsked (h : WRel W M) : P2 W (SA_mostAsked W) (Md_mostAsked 0 M) := by
  have hR := h.t9 0
  have hw := h.thr 0
  have zf := hR.sz.fo
  have zs := hR.sz.s
  unfold SA_mostAsked Md_mostAsked
  generalize hM0 : setF M 9 0 = M0 at hR hw
  have go : ∀ (n i : Nat) (b m : Int32), ((W.1 9).2 0).length - i < n → i ≤ ((W.1 9).2 0).length → ∃ v, SA_mostAsked_L6 W n m b (nI i) = some v ∧ Md_mostAsked_L11 0 n M0 b m (nI i) = some (v, M0) := by
    intro n
    induction n with
    | zero => intro i b m h1; omega
    | succ n ih =>
      intro i b m h1 h2
      unfold SA_mostAsked_L6 Md_mostAsked_L11
      rw [tn5, hR.rel.nf]
      by_cases hi : ((W.1 9).2 0).length ≤ i
      · rw [if_pos ((q_le (by omega) (by omega)).mpr hi), if_pos ((q_le (by omega) (by omega)).mpr hi)]
        exact ⟨_, rfl, rfl⟩
      · have hn : ¬ nI ((W.1 9).2 0).length ≤ nI i := fun q => hi ((q_le (by omega) (by omega)).mp q)
        rw [if_neg hn, if_neg hn, show Md_slipsWith 0 M0 1 (nI i) = _ from m_slipsWith hR (w := 1) (by decide) hR.sz.e12 hR.rel.s1 (nI i), bs, lu, nI_1]
        by_cases g : lncnt ((W.1 9).2 12) (nI i) ≤ m
        · rw [if_pos g, if_pos g]
          exact ih (i + 1) b m (by omega) (by omega)
        · rw [if_neg g, if_neg g]
          exact ih (i + 1) (nI i) _ (by omega) (by omega)
  obtain ⟨v, e1, e2⟩ := go FU 0 (-1) 0 (FU_gt (by omega)) (Nat.zero_le _)
  exact ⟨v, M0, e1, e2, hw⟩
theorem areThere_cases (h : WRel W M) (p q : Int32) : ((St_hasReader (W.1 9) p = 0 ∨ (St_hasReader (W.1 9) p = 1 ∧ St_hasFolder (W.1 9) q = 0)) ∧ Md_areThere 0 M p q = some 0) ∨ ∃ r k, r < ((W.1 9).2 5).length ∧ k < ((W.1 9).2 0).length ∧ p = nI r ∧ q = nI k ∧ St_hasReader (W.1 9) p = 1 ∧ St_hasFolder (W.1 9) q = 1 ∧ Md_areThere 0 M p q = some 1 := by
  have z := h.1.1.sz
  have zf := z.fo
  have zr := z.r
  unfold Md_areThere Md_isReader Md_isFolder
  rw [bs, bs, tn3, tn5, h.1.1.rel.nr, h.1.1.rel.nf]
  rcases hasR (A := W.1 9) (by omega) p with ⟨e1, e2⟩ | ⟨r, hr, rfl, e1, e2⟩
  · rw [e2, if_pos rfl]
    exact Or.inl ⟨Or.inl e1, rfl⟩
  · rw [e2, if_neg (by decide)]
    rcases hasF (A := W.1 9) (by omega) q with ⟨e3, e4⟩ | ⟨k, hk, rfl, e3, e4⟩
    · rw [e4, if_pos rfl]
      exact Or.inl ⟨Or.inr ⟨e1, e3⟩, rfl⟩
    · rw [e4, if_neg (by decide)]
      exact Or.inr ⟨r, k, hr, hk, rfl, rfl, e1, e3, rfl⟩
theorem f_why (h : WRel W M) (p q : Int32) : E2 W ci1 (SA_why W p q) (Md_why 0 M p q) := by
  unfold SA_why Md_why
  rcases areThere_cases h p q with ⟨g, e⟩ | ⟨r, k, hr, hk, rfl, rfl, e1, e2, e⟩
  · rw [e, bs, lacks0, lu]
    try dsimp only
    rw [if_neg (show ¬ (1 : Int32) = 0 by decide)]
    refine Or.inl ⟨1, 0, _, ?_, rfl, setF_s _ _ _, h.thr 1⟩
    rcases g with g | ⟨g1, g2⟩
    · rw [if_pos g]
    · rw [if_neg (by rw [g1]; decide), if_pos g2]
  · rw [e, bs, lacks1, lu]
    try dsimp only
    rw [if_pos rfl, if_neg (by rw [e1]; decide), if_neg (by rw [e2]; decide)]
    obtain ⟨v, e3, e4⟩ := s_refusal (h.t9 0) hr hk
    rw [e3, e4, bs, bs]
    exact Or.inr ⟨_, _, rfl, rfl, setF_s _ _ _, h.thr 0⟩
theorem f_cause (h : WRel W M) (p q : Int32) : E2 W ci1 (SA_cause W p q) (Md_cause 0 M p q) := by
  unfold SA_cause Md_cause
  rcases areThere_cases h p q with ⟨g, e⟩ | ⟨r, k, hr, hk, rfl, rfl, e1, e2, e⟩
  · rw [e, bs, lacks0, lu]
    try dsimp only
    rw [if_neg (show ¬ (1 : Int32) = 0 by decide)]
    refine Or.inl ⟨1, 0, _, ?_, rfl, setF_s _ _ _, h.thr 1⟩
    rcases g with g | ⟨g1, g2⟩
    · rw [if_pos g]
    · rw [if_neg (by rw [g1]; decide), if_pos g2]
  · rw [e, bs, lacks1, lu]
    try dsimp only
    rw [if_pos rfl, if_neg (by rw [e1]; decide), if_neg (by rw [e2]; decide)]
    obtain ⟨v, e3, e4⟩ := s_refusal (h.t9 0) hr hk
    rw [e3, e4, bs, bs]
    by_cases hv : v = -3
    · rw [if_pos hv, if_pos hv]
      rcases s_slipOf (h.t9 0) (nI r) (nI k) with ⟨g1, g2⟩ | ⟨s, -, g1, g2⟩
      · rw [g1, g2, bs, bs, bs]
        exact Or.inr ⟨_, _, rfl, rfl, setF_s _ _ _, h.thr 0⟩
      · rw [g1, g2, bs, bs, bs]
        exact Or.inr ⟨_, _, rfl, rfl, setF_s _ _ _, h.thr 0⟩
    · rw [if_neg hv, if_neg hv, bs]
      exact Or.inr ⟨_, _, rfl, rfl, setF_s _ _ _, h.thr 0⟩
theorem f_waitsFor (h : WRel W M) (p : Int32) : P1 W (SA_waitsFor W p) (Md_waitsFor 0 M p) := by
  have z := h.1.1.sz
  have zs := z.s
  have zf := z.fo
  have zr := z.r
  have z1 := z.e1
  have z2 := z.e2
  have z3 := z.e3
  have z12 := z.e12
  have hR := h.t9 0
  have hw := h.thr 0
  unfold SA_waitsFor Md_waitsFor Md_isSlip
  rw [bs, tn8, show (setF M 9 0).2 0 8 = _ from hR.rel.ns]
  rcases hasS (A := W.1 9) (by omega) p with ⟨e1, e2, -⟩ | ⟨s, hs, rfl, e1, e2⟩
  · rw [e1, e2, if_pos rfl, if_pos rfl]
    exact ⟨_, rfl, hw⟩
  · obtain ⟨⟨r, hr, er⟩, k, hk, ek⟩ := hR.sp s hs
    rw [e1, e2, if_neg (show ¬ (1 : Int32) = 0 by decide), if_neg (show ¬ (1 : Int32) = 0 by decide), os1 (by omega), bs, hR.rel.s1 s (by omega), ek, m_idleness hR hs, bs, lg_in (xs := (W.1 9).2 12) (by omega) (by omega), ek, lu, of3 (by omega), of1 (by omega), hR.rel.em k (by omega), m_daysToRefiling hR, os0 (by omega), hR.rel.s0 s hs, er, lg_in (xs := (W.1 9).2 3) (by omega) (by omega), lg_in (xs := (W.1 9).2 1) (by omega) (by omega), lg_in (xs := (W.1 9).2 11) hs (by omega), er, lg_in (xs := (W.1 9).2 5) hr (by omega), hR.fd.2.2.2.2.2.2.2 r hr, tn0, h.1.1.rel.day]
    by_cases c1 : St_idleness (W.1 9) (nI s) = 1
    · rw [if_pos c1, if_pos c1, bs]
      have hst : ((W.1 9).2 2).getD k 0 = 1 := by
        unfold St_idleness at c1
        rw [lg_in (xs := (W.1 9).2 12) (by omega) (by omega), ek, lu, lg_in (xs := (W.1 9).2 2) (by omega) (by omega), lu] at c1
        rcases hR.fd.2.2.2.2.2.2.1 k hk with ⟨g | g, -⟩ | ⟨g, -⟩
        · rw [g, if_neg (by decide), if_neg (by decide)] at c1
          by_cases g2 : St_isClosed (W.1 9) (nI k) = 0
          · rw [if_pos g2] at c1
            split at c1
            · exact absurd c1 (by decide)
            · exact absurd c1 (by decide)
          · rw [if_neg g2] at c1; exact absurd c1 (by decide)
        · rw [g, if_neg (by decide), if_pos rfl] at c1
          exact absurd c1 (by decide)
        · exact g
      rw [hR.rel.wi k (by omega) hst]
      exact ⟨_, rfl, hw⟩
    · rw [if_neg c1, if_neg c1]
      by_cases c2 : St_idleness (W.1 9) (nI s) = 2
      · rw [if_pos c2, if_pos c2, bs]
        exact ⟨_, rfl, hw⟩
      · rw [if_neg c2, if_neg c2]
        by_cases c3 : St_idleness (W.1 9) (nI s) = 3
        · rw [if_pos c3, if_pos c3, bs]
          exact ⟨_, rfl, hw⟩
        · rw [if_neg c3, if_neg c3]
          by_cases c4 : St_idleness (W.1 9) (nI s) = 4
          · rw [if_pos c4, if_pos c4, bs, m_foldersOf hR (by omega), bs]
            exact ⟨_, rfl, hw⟩
          · rw [if_neg c4, if_neg c4]
            exact ⟨_, rfl, hw⟩
/-! forecasts -/
theorem setS_S (W : WM) (i : Nat) (A B : StM) : setS (setS W i A) i B = setS W i B := Prod.ext (funext fun j => by
  show (if j = i then B else if j = i then A else _) = (if j = i then B else _)
  by_cases c : j = i
  · rw [if_pos c, if_pos c]
  · rw [if_neg c, if_neg c, if_neg c]) rfl
theorem m_aside (M : MdM) : Md_goAside 0 M = some (setA M 2 (va_cpy (M.2 0) (M.2 2) (257 * 0) (257 * 0) 257)) := by
  unfold Md_goAside
  rw [show Md_copy M 0 0 2 0 = _ from m_copy (a := 0) (b := 0) (i := 0) (j := 2) (by decide) (by decide) (by decide) (by decide), bs]
theorem m_back (M : MdM) (v : Int32) : Md_laidBack 0 M v = some (v, setA M 0 (va_cpy (M.2 2) (M.2 0) (257 * 0) (257 * 0) 257)) := by
  unfold Md_laidBack
  rw [show Md_copy M 2 0 0 0 = _ from m_copy (a := 0) (b := 0) (i := 2) (j := 0) (by decide) (by decide) (by decide) (by decide), bs]
/-- behind a forecast all is as it was -/
theorem WRel.fore (h : WRel W M) {M0 M1 : MdM} (e0 : M0 = setA (setF M 9 0) 2 (va_cpy (M.2 0) (M.2 2) (257 * 0) (257 * 0) 257)) (hs : Sm 0 M0 M1) (A : StM) : WRel (setS W 10 A) (setA M1 0 (va_cpy (M1.2 2) (M1.2 0) (257 * 0) (257 * 0) 257)) := by
  refine WRel.draft ?_ A
  have h2 : ∀ j, j ≠ 0 → j ≠ 2 → j ≠ 3 → j ≠ 7 → j ≠ 8 → (setA M1 0 (va_cpy (M1.2 2) (M1.2 0) (257 * 0) (257 * 0) 257)).2 j = M.2 j := fun j a b c d e => by
    rw [setA_n _ _ a, hs.2 j a d e, e0, setA_n _ _ b]; rfl
  have := h.step (A := W.1 9) (M' := setA M1 0 (va_cpy (M1.2 2) (M1.2 0) (257 * 0) (257 * 0) 257)) ?_ (fun k a b c => by
    show M1.1 k = _
    rw [hs.1 k b c, e0]
    exact setF_n _ _ a) h2
  · rwa [setS_id] at this
  · refine h.1.ext fun j hj => ?_
    rw [setA_s, cpy0 _ _ _ hj, hs.2 2 (by decide) (by decide) (by decide), e0, setA_s, cpy0 _ _ _ hj]
theorem drf (h : WRel W M) {M0 : MdM} (e0 : M0 = setA (setF M 9 0) 2 (va_cpy (M.2 0) (M.2 2) (257 * 0) (257 * 0) 257)) : RI ((W.1 9).1 2) (St_copyFrom (W.1 9) (W.1 10)) (M0.2 0) := by
  rw [e0, setA_n _ _ (by decide)]
  exact h.1.1.copy _
theorem f_servedIn (h : WRel W M) (p : Int32) : P3 (SA_servedIn W p) (Md_servedIn 0 M p) := by
  have z := h.1.1.sz
  have zs := z.s
  have z12 := z.e12
  have hR := h.t9 0
  unfold SA_servedIn Md_servedIn Md_isSlip
  rw [bs, tn8, show (setF M 9 0).2 0 8 = _ from hR.rel.ns]
  rcases hasS (A := W.1 9) (by omega) p with ⟨e1, e2, -⟩ | ⟨s, hs, rfl, e1, e2⟩
  · rw [e1, e2, if_pos rfl, if_pos rfl]
    exact ⟨_, _, _, rfl, rfl, h.thr 0⟩
  · rw [e1, e2, if_neg (show ¬ (1 : Int32) = 0 by decide), if_neg (show ¬ (1 : Int32) = 0 by decide), m_aside, bs, lu, lu, lu]
    generalize hM0 : setA (setF M 9 0) 2 (va_cpy ((setF M 9 0).2 0) ((setF M 9 0).2 2) (257 * 0) (257 * 0) 257) = M0
    have hD := drf h hM0.symm
    have hR0 : RI ((W.1 9).1 2) (W.1 9) (M0.2 0) := by rw [← hM0, setA_n _ _ (by decide)]; exact h.1.1
    rw [os0 (by omega), bs, hR0.rel.s0 s hs, os1 (by omega), bs, hR0.rel.s1 s (by omega), lg_in (xs := (W.1 9).2 11) hs (by omega), lg_in (xs := (W.1 9).2 12) (by omega) (by omega)]
    have go : ∀ (n i : Nat) (A : StM) (M1 : MdM), i ≤ 61 → 61 - i < n → RI ((W.1 9).1 2) A (M1.2 0) → A.1 2 = (W.1 9).1 2 → Sm 0 M0 M1 → ∃ v A' M', SA_servedIn_L60 n (setS W 10 A) (nI s) (((W.1 9).2 11).getD s 0) (((W.1 9).2 12).getD s 0) (nI i) = some (v, setS W 10 A') ∧ Md_servedIn_L36 0 n M1 (nI s) (((W.1 9).2 11).getD s 0) (((W.1 9).2 12).getD s 0) (nI i) = some (v, M') ∧ WRel (setS W 10 A') M' := by
      intro n
      induction n with
      | zero => intro i A M1 h1 h2; omega
      | succ n ih =>
        intro i A M1 h1 h2 h3 h4 h5
        unfold SA_servedIn_L60 Md_servedIn_L36
        by_cases hi : 60 < i
        · rw [if_pos (show (60 : Int32) < nI i from nI_lt (a := 60) hi (by omega)), if_pos (show (60 : Int32) < nI i from nI_lt (a := 60) hi (by omega)), m_back, bs]
          exact ⟨_, A, _, rfl, rfl, h.fore hM0.symm h5 A⟩
        · have hn : ¬ (60 : Int32) < nI i := nI_nlt (a := 60) (by omega) (by omega)
          obtain ⟨w, A2, M2, g1, g2, g3, g4, -, -, g5, -, -⟩ := s_nextDay h3 (by decide)
          rw [if_neg hn, if_neg hn, setS_s, g1, bs, tn2, h3.rel.hd, ← h4, g2, bs, nI_1]
          have hss : setS (setS W 10 A) 10 A2 = setS W 10 A2 := Prod.ext (funext fun j => by
            show (if j = 10 then _ else if j = 10 then _ else _) = (if j = 10 then _ else _)
            by_cases c : j = 10
            · rw [if_pos c, if_pos c]
            · rw [if_neg c, if_neg c, if_neg c]) rfl
          have h45 : A2.1 2 = (W.1 9).1 2 := g5.trans h4
          rcases s_slipOf g4 (((W.1 9).2 11).getD s 0) (((W.1 9).2 12).getD s 0) with ⟨k1, k2⟩ | ⟨s', hs', k1, k2⟩
          · rw [k1, k2, bs, bs, if_pos rfl, if_pos rfl, m_back, bs, hss]
            exact ⟨_, A2, _, rfl, rfl, h.fore hM0.symm (h5.tr g3) A2⟩
          · have zz := g4.sz.s
            rw [k1, k2, bs, bs, if_neg (q_m1 (by omega)), if_neg (q_m1 (by omega)), hss]
            exact ih (i + 1) A2 M2 (by omega) (by omega) g4 h45 (h5.tr g3)
    obtain ⟨v, A', M', g1, g2, g3⟩ := go FU 1 _ M0 (by omega) (FU_gt (by omega)) hD rfl (Sm.rf _ _)
    exact ⟨_, _, _, g1, g2, g3⟩
theorem fore_day (h : WRel W M) {q : Nat} (hq : q ≤ 60) : (St_copyFrom (W.1 9) (W.1 10)).1 0 + nI q ≤ 1059 := by
  obtain ⟨d, h1, h2⟩ := h.1.2
  show (W.1 9).1 0 + nI q ≤ nI 1059
  rw [h2, nI_add]
  exact nI_le (by omega) (by omega)
theorem f_servedBy (h : WRel W M) (p : Int32) : E3 W ci1 (SA_servedBy W p) (Md_servedBy 0 M p) := by
  unfold SA_servedBy Md_servedBy Md_areDays
  by_cases h0 : p < 0
  · rw [if_pos h0, inr_lo h0, lacks0, lu]
    try dsimp only
    rw [if_neg (show ¬ (1 : Int32) = 0 by decide)]
    exact Or.inl ⟨0, 0, _, rfl, rfl, setF_s _ _ _, h.thr 1⟩
  · obtain ⟨j, hj, rfl⟩ := nI_of h0
    rw [if_neg h0]
    by_cases h1 : j ≤ 60
    · rw [if_pos (show nI j ≤ (60 : Int32) from nI_le (b := 60) h1 (by omega)), inr_in h0 (show ¬ (60 : Int32) < nI j from nI_nlt (a := 60) h1 (by omega)), lacks1]
      simp only [lu]
      rw [if_pos trivial, m_aside, bs]
      generalize hM0 : setA (setF M 9 0) 2 (va_cpy ((setF M 9 0).2 0) ((setF M 9 0).2 2) (257 * 0) (257 * 0) 257) = M0
      have hD := drf h hM0.symm
      obtain ⟨w, A', M', e1, e2, e3, e4, -, -⟩ := s_passDays hD (by decide) (q := j) (by omega) (fore_day h h1)
      rw [e1, bs, tn2, hD.rel.hd, show (W.1 9).1 2 = (St_copyFrom (W.1 9) (W.1 10)).1 2 from rfl, e2, bs, m_back, bs]
      refine Or.inr ⟨_, _, _, rfl, rfl, ?_, ?_⟩
      · show M'.1 9 = 0
        rw [e3.1 9 (by decide) (by decide), ← hM0]
        exact setF_s M 9 0
      · try dsimp only
        simp only [setS_S]
        exact h.fore hM0.symm e3 A'
    · rw [if_neg (show ¬ nI j ≤ (60 : Int32) from nI_ge (a := 60) (by omega) hj), inr_hi (show (60 : Int32) < nI j from nI_lt (a := 60) (by omega) hj), lacks0, lu]
      try dsimp only
      rw [if_neg (show ¬ (1 : Int32) = 0 by decide)]
      exact Or.inl ⟨0, 0, _, rfl, rfl, setF_s _ _ _, h.thr 1⟩
end FC
