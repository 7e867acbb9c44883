section FC
variable {W : WM} {M : MdM}
theorem f_waitingIn (h : WRel W M) (p : Int32) : E3 W ci1 (SA_waitingIn W p) (Md_waitingIn 0 M p) := by
  unfold SA_waitingIn Md_waitingIn Md_areDays
  by_cases h0 : p < 0
  · rw [if_pos h0, inr_lo h0, lacks0, lu]
    try dsimp only
    rw [if_neg (show ¬ (1 : Int32) = 0 by decide)]
    exact Or.inl ⟨0, 0, _, rfl, rfl, setF_s _ _ _, h.thr 1⟩
  · obtain ⟨j, hj, rfl⟩ := nI_of h0
    rw [if_neg h0]
    by_cases h1 : j ≤ 60
    · rw [if_pos (show nI j ≤ (60 : Int32) from nI_le (b := 60) h1 (by omega)), inr_in h0 (show ¬ (60 : Int32) < nI j from nI_nlt (a := 60) h1 (by omega)), lacks1]
      simp only [lu]
      rw [if_pos trivial, m_aside, bs]
      generalize hM0 : setA (setF M 9 0) 2 (va_cpy ((setF M 9 0).2 0) ((setF M 9 0).2 2) (257 * 0) (257 * 0) 257) = M0
      have hD := drf h hM0.symm
      obtain ⟨w, A', M', e1, e2, e3, e4, -, -⟩ := s_passDays hD (by decide) (q := j) (by omega) (fore_day h h1)
      rw [e1, bs, tn2, hD.rel.hd, show (W.1 9).1 2 = (St_copyFrom (W.1 9) (W.1 10)).1 2 from rfl, e2, bs, m_back, bs, tn8, e4.rel.ns]
      refine Or.inr ⟨_, _, _, rfl, rfl, ?_, ?_⟩
      · show M'.1 9 = 0
        rw [e3.1 9 (by decide) (by decide), ← hM0]
        exact setF_s M 9 0
      · try dsimp only
        simp only [setS_S]
        exact h.fore hM0.symm e3 A'
    · rw [if_neg (show ¬ nI j ≤ (60 : Int32) from nI_ge (a := 60) (by omega) hj), inr_hi (show (60 : Int32) < nI j from nI_lt (a := 60) (by omega) hj), lacks0, lu]
      try dsimp only
      rw [if_neg (show ¬ (1 : Int32) = 0 by decide)]
      exact Or.inl ⟨0, 0, _, rfl, rfl, setF_s _ _ _, h.thr 1⟩
theorem f_servedWith (h : WRel W M) (p : Int32) : E3 W ci1 (SA_servedWith W p) (Md_servedWith 0 M p) := by
  unfold SA_servedWith Md_servedWith
  by_cases h0 : p < 1
  · rw [if_pos h0, inr_lo h0, lacks0, lu]
    try dsimp only
    rw [if_neg (show ¬ (1 : Int32) = 0 by decide)]
    exact Or.inl ⟨0, 0, _, rfl, rfl, setF_s _ _ _, h.thr 1⟩
  · rw [if_neg h0]
    by_cases h1 : p ≤ 6
    · rw [if_pos h1, inr_in h0 (Int32.not_lt.mpr h1), lacks1]
      simp only [lu]
      rw [if_pos trivial, m_aside, bs]
      generalize hM0 : setA (setF M 9 0) 2 (va_cpy ((setF M 9 0).2 0) ((setF M 9 0).2 2) (257 * 0) (257 * 0) 257) = M0
      have hD : RI ((W.1 9).1 2) (setI (St_copyFrom (W.1 9) (W.1 10)) 2 p) (M0.2 0) := drf h hM0.symm
      obtain ⟨w, A', M', e1, e2, e3, e4, -, -⟩ := s_passDays hD (by decide) (q := 10) (by omega) (p2 := 1059) (fore_day h (q := 10) (by omega))
      have e1 : St_passDays (setI (St_copyFrom (W.1 9) (W.1 10)) 2 p) 10 1059 = some (w, A') := e1
      have e2 : Md_passOn 0 M0 10 p = some (w, M') := e2
      rw [e1, bs, e2, bs, m_back, bs]
      refine Or.inr ⟨_, _, _, rfl, rfl, ?_, ?_⟩
      · show M'.1 9 = 0
        rw [e3.1 9 (by decide) (by decide), ← hM0]
        exact setF_s M 9 0
      · try dsimp only
        simp only [setS_S]
        exact h.fore hM0.symm e3 A'
    · rw [if_neg h1, inr_hi (Int32.not_le.mp h1), lacks0, lu]
      try dsimp only
      rw [if_neg (show ¬ (1 : Int32) = 0 by decide)]
      exact Or.inl ⟨0, 0, _, rfl, rfl, setF_s _ _ _, h.thr 1⟩
theorem f_missedAfter (h : WRel W M) (p : Int32) : E3 W ci1 (SA_missedAfter W p) (Md_missedAfter 0 M p) := by
  unfold SA_missedAfter Md_missedAfter
  by_cases h0 : p < 0
  · rw [if_pos h0, inr_lo h0, lacks0, lu]
    try dsimp only
    rw [if_neg (show ¬ (1 : Int32) = 0 by decide)]
    exact Or.inl ⟨0, 0, _, rfl, rfl, setF_s _ _ _, h.thr 1⟩
  · obtain ⟨j, hj, rfl⟩ := nI_of h0
    rw [if_neg h0]
    by_cases h1 : j ≤ 99
    · rw [if_pos (show nI j ≤ (99 : Int32) from nI_le (b := 99) h1 (by omega)), inr_in h0 (show ¬ (99 : Int32) < nI j from nI_nlt (a := 99) h1 (by omega)), lacks1]
      simp only [lu]
      rw [if_pos trivial, m_aside, bs]
      generalize hM0 : setA (setF M 9 0) 2 (va_cpy ((setF M 9 0).2 0) ((setF M 9 0).2 2) (257 * 0) (257 * 0) 257) = M0
      have hD := drf h hM0.symm
      obtain ⟨v, xs, M1, -, e1, e2, e3, e4⟩ := s_swapL hD FU 0 j (by omega) (Nat.zero_le _) (FU_gt (by omega))
      obtain ⟨w, L, M', g1, g2, -, g3, g4⟩ := s_missed e4 (by decide)
      rw [show Rw_swapWrongPairs (St_copyFrom (W.1 9) (W.1 10)) (nI j) = _ from e1, show Md_swapOn 0 M0 (nI j) = _ from e2, bs, bs, g1, g2, bs, bs, m_back, bs]
      refine Or.inr ⟨_, _, _, rfl, rfl, ?_, ?_⟩
      · show M'.1 9 = 0
        rw [g3.1 9 (by decide) (by decide), e3.1 9 (by decide) (by decide), ← hM0]
        exact setF_s M 9 0
      · try dsimp only
        simp only [setS_S]
        exact h.fore hM0.symm (e3.tr g3) _
    · rw [if_neg (show ¬ nI j ≤ (99 : Int32) from nI_ge (a := 99) (by omega) hj), inr_hi (show (99 : Int32) < nI j from nI_lt (a := 99) (by omega) hj), lacks0, lu]
      try dsimp only
      rw [if_neg (show ¬ (1 : Int32) = 0 by decide)]
      exact Or.inl ⟨0, 0, _, rfl, rfl, setF_s _ _ _, h.thr 1⟩
/-! the operations on the face -/
theorem f_slip (h : WRel W M) (p q : Int32) : E3 W ci1 (SA_slip W p q) (Md_slip 0 M p q) := by
  unfold SA_slip Md_slip
  rcases areThere_cases h p q with ⟨g, e⟩ | ⟨r, k, hr, hk, rfl, rfl, e1, e2, e⟩
  · rw [e, bs, lacks0, lu]
    try dsimp only
    rw [if_neg (show ¬ (1 : Int32) = 0 by decide)]
    refine Or.inl ⟨1, 0, _, ?_, rfl, setF_s _ _ _, h.thr 1⟩
    rcases g with g | ⟨g1, g2⟩
    · rw [if_pos g]
    · rw [if_neg (by rw [g1]; decide), if_pos g2]
  · rw [e, bs, lacks1, lu]
    try dsimp only
    rw [if_pos rfl, if_neg (by rw [e1]; decide), if_neg (by rw [e2]; decide), m_keep, bs]
    obtain ⟨v, W1, A', W', M1, M', g1, g2, g3, g4, g5, g6, g7, g8⟩ := (h.thr 0).opR rfl (o_slip (h.t9 0) hr hk (M := setA (setF M 9 0) 3 _))
    rw [g1, bs, g2, g3, bs, g4, bs, g5, bs, g6, bs]
    exact Or.inr ⟨_, _, _, rfl, rfl, g8.trans (setF_s _ _ _), g7⟩
theorem f_dropSlip (h : WRel W M) (p : Int32) : P3 (SA_dropSlip W p) (Md_dropSlip 0 M p) := by
  unfold SA_dropSlip Md_dropSlip
  rw [m_keep, bs]
  obtain ⟨v, W1, A', W', M1, M', g1, g2, g3, g4, g5, g6, g7, g8⟩ := (h.thr 0).opR rfl (o_drop (h.t9 0) p (M := setA (setF M 9 0) 3 _))
  rw [g1, bs, g2, g5, bs, g6, bs, lu, Option.some.inj g3]
  try dsimp only
  rw [g4, bs]
  exact ⟨_, _, _, rfl, rfl, g7⟩
theorem isF_cases (h : WRel W M) (p : Int32) : (St_hasFolder (W.1 9) p = 0 ∧ Md_isFolder 0 M p = some 0) ∨ ∃ k, k < ((W.1 9).2 0).length ∧ p = nI k ∧ St_hasFolder (W.1 9) p = 1 ∧ Md_isFolder 0 M p = some 1 := by
  have zf := h.1.1.sz.fo
  unfold Md_isFolder
  rw [tn5, h.1.1.rel.nf]
  rcases hasF (A := W.1 9) (by omega) p with ⟨e1, e2⟩ | ⟨k, hk, rfl, e1, e2⟩
  · exact Or.inl ⟨e1, by rw [e2]⟩
  · exact Or.inr ⟨k, hk, rfl, e1, by rw [e2]⟩
theorem f_giveBack (h : WRel W M) (p : Int32) : E3 W ci1 (SA_giveBack W p) (Md_giveBack 0 M p) := by
  unfold SA_giveBack Md_giveBack
  rcases isF_cases h p with ⟨e1, e2⟩ | ⟨k, hk, rfl, e1, e2⟩
  · rw [e1, e2, bs, lacks0, lu]
    try dsimp only
    rw [if_pos rfl, if_neg (show ¬ (1 : Int32) = 0 by decide)]
    exact Or.inl ⟨1, 0, _, rfl, rfl, setF_s _ _ _, h.thr 1⟩
  · rw [e1, e2, bs, lacks1, lu]
    try dsimp only
    rw [if_neg (show ¬ (1 : Int32) = 0 by decide), if_pos rfl, m_keep, bs]
    obtain ⟨v, W1, A', W', M1, M', g1, g2, g3, g4, g5, g6, g7, g8⟩ := (h.thr 0).opR rfl (o_back (h.t9 0) hk (M := setA (setF M 9 0) 3 _))
    rw [g1, bs, g2, g5, bs, g6, bs, lu, Option.some.inj g3]
    try dsimp only
    rw [g4, bs]
    exact Or.inr ⟨_, _, _, rfl, rfl, g8.trans (setF_s _ _ _), g7⟩
theorem f_days (h : WRel W M) (p : Int32) : E3 W ci1 (SA_days W p) (Md_days 0 M p) := by
  unfold SA_days Md_days
  by_cases h0 : p < 1
  · rw [if_pos h0, inr_lo h0, lacks0, lu]
    try dsimp only
    rw [if_neg (show ¬ (1 : Int32) = 0 by decide)]
    exact Or.inl ⟨0, 0, _, rfl, rfl, setF_s _ _ _, h.thr 1⟩
  · rw [if_neg h0]
    by_cases h1 : p ≤ 60
    · obtain ⟨j, hj, rfl⟩ : ∃ j : Nat, j ≤ 60 ∧ p = nI j := by
        obtain ⟨j, hj, rfl⟩ := nI_of (x := p) (fun q => h0 (Int32.lt_of_lt_of_le q (by decide)))
        exact ⟨j, (nI_leI (b := 60) hj (by omega)).mp h1, rfl⟩
      rw [if_pos h1, inr_in h0 (Int32.not_lt.mpr h1), lacks1, lu]
      try dsimp only
      rw [if_pos rfl, m_keep, bs]
      obtain ⟨v, W1, A', W', M1, M', g1, g2, g3, g4, g5, g6, g7, g8⟩ := (h.thr 0).opR rfl (o_days (h.t9 0) (by decide) rfl hj (M := setA (setF M 9 0) 3 _))
      rw [g1, bs, g2, g3, bs, g4, bs, g5, bs, g6, bs]
      exact Or.inr ⟨_, _, _, rfl, rfl, g8.trans (setF_s _ _ _), g7⟩
    · rw [if_neg h1, inr_hi (Int32.not_le.mp h1), lacks0, lu]
      try dsimp only
      rw [if_neg (show ¬ (1 : Int32) = 0 by decide)]
      exact Or.inl ⟨0, 0, _, rfl, rfl, setF_s _ _ _, h.thr 1⟩
theorem f_misfile (h : WRel W M) (p q : Int32) : E3 W ci1 (SA_misfile W p q) (Md_misfile 0 M p q) := by
  unfold SA_misfile Md_misfile
  rcases isF_cases h p with ⟨e1, e2⟩ | ⟨k, hk, rfl, e1, e2⟩
  · rw [e1, e2, bs, lacks0, lu]
    try dsimp only
    rw [if_pos rfl, if_neg (show ¬ (1 : Int32) = 0 by decide)]
    exact Or.inl ⟨1, 0, _, rfl, rfl, setF_s _ _ _, h.thr 1⟩
  · rw [e1, e2, bs, lacks1, lu]
    try dsimp only
    rw [if_neg (show ¬ (1 : Int32) = 0 by decide), if_pos rfl, m_keep, bs]
    obtain ⟨v, W1, A', W', M1, M', g1, g2, g3, g4, g5, g6, g7, g8⟩ := (h.thr 0).opR rfl (o_misfile (h.t9 0) hk q (M := setA (setF M 9 0) 3 _))
    rw [g1, bs, g2, g5, bs, g6, bs, lu, Option.some.inj g3]
    try dsimp only
    rw [g4, bs]
    exact Or.inr ⟨_, _, _, rfl, rfl, g8.trans (setF_s _ _ _), g7⟩
theorem f_straighten (h : WRel W M) (p : Int32) : E3 W ci1 (SA_straighten W p) (Md_straighten 0 M p) := by
  unfold SA_straighten Md_straighten
  rcases isF_cases h p with ⟨e1, e2⟩ | ⟨k, hk, rfl, e1, e2⟩
  · rw [e1, e2, bs, lacks0, lu]
    try dsimp only
    rw [if_pos rfl, if_neg (show ¬ (1 : Int32) = 0 by decide)]
    exact Or.inl ⟨1, 0, _, rfl, rfl, setF_s _ _ _, h.thr 1⟩
  · rw [e1, e2, bs, lacks1, lu]
    try dsimp only
    rw [if_neg (show ¬ (1 : Int32) = 0 by decide), if_pos rfl, m_keep, bs]
    obtain ⟨v, W1, A', W', M1, M', g1, g2, g3, g4, g5, g6, g7, g8⟩ := (h.thr 0).opR rfl (o_straighten (h.t9 0) hk (M := setA (setF M 9 0) 3 _))
    rw [g1, bs, g2, g3, bs, g4, bs, g5, bs, g6, bs]
    exact Or.inr ⟨_, _, _, rfl, rfl, g8.trans (setF_s _ _ _), g7⟩
theorem f_check (h : WRel W M) (p : Int32) : E3 W ci1 (SA_check W p) (Md_check 0 M p) := by
  unfold SA_check Md_check
  by_cases h0 : p < 1
  · rw [if_pos h0, inr_lo h0, lacks0, lu]
    try dsimp only
    rw [if_neg (show ¬ (1 : Int32) = 0 by decide)]
    exact Or.inl ⟨0, 0, _, rfl, rfl, setF_s _ _ _, h.thr 1⟩
  · rw [if_neg h0]
    by_cases h1 : p ≤ 99
    · obtain ⟨j, hj, rfl⟩ : ∃ j : Nat, j ≤ 99 ∧ p = nI j := by
        obtain ⟨j, hj, rfl⟩ := nI_of (x := p) (fun q => h0 (Int32.lt_of_lt_of_le q (by decide)))
        exact ⟨j, (nI_leI (b := 99) hj (by omega)).mp h1, rfl⟩
      rw [if_pos h1, inr_in h0 (Int32.not_lt.mpr h1), lacks1, lu]
      try dsimp only
      rw [if_pos rfl, m_keep, bs]
      obtain ⟨v, W1, A', W', M1, M', g1, g2, g3, g4, g5, g6, g7, g8⟩ := (h.thr 0).opR rfl (o_check (h.t9 0) (show j < 1000 by omega) (M := setA (setF M 9 0) 3 _))
      rw [g1, bs, g2, g3, bs, g4, bs, g5, bs, g6, bs]
      exact Or.inr ⟨_, _, _, rfl, rfl, g8.trans (setF_s _ _ _), g7⟩
    · rw [if_neg h1, inr_hi (Int32.not_le.mp h1), lacks0, lu]
      try dsimp only
      rw [if_neg (show ¬ (1 : Int32) = 0 by decide)]
      exact Or.inl ⟨0, 0, _, rfl, rfl, setF_s _ _ _, h.thr 1⟩
theorem f_setEmbargo (h : WRel W M) (p q : Int32) : E3 W ci2 (SA_setEmbargo W p q) (Md_setEmbargo 0 M p q) := by
  unfold SA_setEmbargo Md_setEmbargo
  rcases isF_cases h p with ⟨e1, e2⟩ | ⟨k, hk, rfl, e1, e2⟩
  · rw [e1, e2, bs, lacks0, lu]
    try dsimp only
    rw [if_pos rfl, if_neg (show ¬ (1 : Int32) = 0 by decide)]
    exact Or.inl ⟨1, 0, _, rfl, rfl, setF_s _ _ _, h.thr 1⟩
  · rw [e1, e2, bs, lacks1, lu]
    try dsimp only
    rw [if_neg (show ¬ (1 : Int32) = 0 by decide), if_pos rfl]
    by_cases h0 : q < 0
    · rw [if_pos h0, inr_lo h0, if_pos rfl, lu]
      exact Or.inl ⟨0, _, _, rfl, rfl, setF_s _ _ _, (h.thr 0).thr 2⟩
    · rw [if_neg h0]
      by_cases h1 : q ≤ 999
      · rw [if_pos h1, inr_in h0 (Int32.not_lt.mpr h1), if_neg (by decide), m_keep, bs]
        obtain ⟨v, W1, A', W', M1, M', g1, g2, g3, g4, g5, g6, g7, g8⟩ := (h.thr 0).opR rfl (o_embargo (h.t9 0) hk q (M := setA (setF M 9 0) 3 _))
        rw [g1, bs, g2, g5, bs, g6, bs, lu, Option.some.inj g3]
        try dsimp only
        rw [g4, bs]
        exact Or.inr ⟨_, _, _, rfl, rfl, g8.trans (setF_s _ _ _), g7⟩
      · rw [if_neg h1, inr_hi (Int32.not_le.mp h1), if_pos rfl, lu]
        exact Or.inl ⟨0, _, _, rfl, rfl, setF_s _ _ _, (h.thr 0).thr 2⟩
/-! undo, snapshot, what is told -/
theorem f_errorPosition (h : WRel W M) : SA_errorPosition W = (Md_errorPosition 0 M).1 ∧ WRel W (Md_errorPosition 0 M).2 := ⟨h.2.2.2.2.2.2, h.thr 0⟩
theorem f_undoCount (h : WRel W M) : SA_undoCount W = (Md_undoCount 0 M).1 ∧ WRel W (Md_undoCount 0 M).2 := by
  obtain ⟨a, c, c1, c2, c3, c4, c5, c6⟩ := h.2.2.1
  exact ⟨c4.trans c5.symm, h.thr 0⟩
theorem f_formattedByte (h : WRel W M) (p : Int32) : P1 W (SA_formattedByte W p) (Md_formattedByte 0 M p) := by
  obtain ⟨h1, h2, h3⟩ := h.2.2.2.2.2.1
  unfold SA_formattedByte Md_formattedByte
  rw [h2, inr_0 (by omega)]
  by_cases h0 : p < 0
  · rw [if_pos h0, if_pos rfl, lg_neg h0]
    exact ⟨_, rfl, h.thr 0⟩
  · obtain ⟨j, hj, rfl⟩ := nI_of h0
    rw [if_neg h0]
    by_cases g : (W.2.1 1).length ≤ j
    · have : lnget (W.2.1 1) (nI j) = -1 := by
        unfold lnget
        rw [if_neg (fun q => nI_nlt g hj q.2)]
      rw [if_pos (nI_le g hj), if_pos rfl, this]
      exact ⟨_, rfl, h.thr 0⟩
    · rw [if_neg (nI_ge (by omega) (by omega)), if_neg (by decide), if_pos (q_in (by omega) (by omega)), q_cl (by omega), h3 j (by omega), lg_in (by omega) (by omega)]
      exact ⟨_, rfl, h.thr 0⟩
theorem f_undo (h : WRel W M) : P3 (SA_undo W) (Md_undo 0 M) := by
  have hw := h
  obtain ⟨b1, b2, ⟨a, c, c1, c2, c3, c4, c5, c6⟩, b4, b5, b6, b7⟩ := h
  unfold SA_undo Md_undo Hi_takeBack Hi_count
  rw [c4, c5]
  cases c with
  | zero =>
    rw [if_pos (by decide), if_pos (by decide), bs, if_pos rfl]
    exact ⟨_, _, _, rfl, rfl, hw.thr 0⟩
  | succ c =>
    have hne : ¬ nI (c + 1) = 0 := nI_ne0 (by omega) (by omega)
    rw [if_neg hne, if_neg hne, lu, nI_pred]
    have hx : hix (setWI W 8 (nI c)) = nI ((a + c) % 9) := hix_n (W := setWI W 8 (nI c)) c1 (by omega) c3 (wi_s _ _ _)
    have hm := Nat.mod_lt (a + c) (show 9 > 0 by decide)
    rw [hx, if_pos (q_in (by omega) (by omega)), q_cl (by omega), bs]
    try dsimp only
    rw [if_neg (show ¬ (1 : Int32) = 0 by decide), show (0 : Int32) = nI 0 from rfl]
    generalize hM1 : setA (setF (setF M 9 (nI 0)) 8 (nI c)) 6 (upd (M.2 6) (2 : Int32).toNatClampNeg ((M.2 6) (2 : Int32).toNatClampNeg + 1)) = M1
    rw [m_copy (M := M1) (a := c) (b := 0) (i := 5) (j := 0) (by show _ ≤ 2056; omega) (by decide) (by omega) (by decide), bs]
    have e6 : M1.2 6 = upd (M.2 6) 2 (M.2 6 2 + 1) := by rw [← hM1, setA_s, tn2]
    have eo : ∀ j, j ≠ 6 → M1.2 j = M.2 j := fun j hj => by rw [← hM1, setA_n _ _ hj]; rfl
    have ei : ∀ k, k ≠ 9 → k ≠ 8 → M1.1 k = M.1 k := fun k p q => by
      rw [← hM1]
      exact (setF_n _ _ q).trans (setF_n _ _ p)
    have e8 : M1.1 8 = nI c := by rw [← hM1]; exact setF_s (setF M 9 (nI 0)) 8 (nI c)
    refine ⟨nI c, _, setA M1 0 (va_cpy (M1.2 5) (M1.2 0) (257 * c) (257 * 0) 257), rfl, ?_, ?_⟩
    · show some (M1.1 8, _) = some (nI c, _)
      rw [e8]
    · refine ⟨?_, ?_, ?_, ?_, ?_, ?_, ?_⟩
      · show Top ((setS (setWI W 8 (nI c)) 9 _).1 9) _
        rw [setS_s]
        refine Top.copy (A2 := W.1 ((a + c) % 9)) ?_ _
        refine (c6 c (by omega)).ext fun j hj => ?_
        rw [setA_s]
        unfold va_cpy
        rw [if_pos ⟨by omega, by omega⟩, eo 5 (by decide)]
        show M.2 5 (257 * c + (j - 257 * 0)) = M.2 5 (257 * c + j)
        rw [show j - 257 * 0 = j by omega]
      · show (lnraise (W.2.1 2) (nI 2) 1).length = 3 ∧ ∀ k, k < 3 → (setA M1 0 _).2 6 k = (lnraise (W.2.1 2) (nI 2) 1).getD k 0
        rw [setA_n _ _ (by decide), e6]
        exact las_up b2.1 b2.2 (by decide)
      · refine ⟨a, c, c1, by omega, c3, wi_s _ _ _, e8, fun k hk => ?_⟩
        show Top ((setS (setWI W 8 (nI c)) 9 _).1 ((a + k) % 9)) (fun j => (setA M1 0 _).2 5 (257 * k + j))
        rw [setS_n _ _ (by have := Nat.mod_lt (a + k) (show 9 > 0 by decide); omega), setA_n _ _ (by decide), eo 5 (by decide)]
        exact c6 k (by omega)
      · show W.2.2.1 9 = M1.1 10 ∧ (M1.1 10 = 0 ∨ (M1.1 10 = 1 ∧ Top (W.1 11) (M1.2 4)))
        rw [ei 10 (by decide) (by decide), eo 4 (by decide)]
        exact b4
      · show (W.2.1 0).length ≤ 700 ∧ M1.1 18 = _ ∧ ∀ i, i < (W.2.1 0).length → (setA M1 0 _).2 10 i = _
        rw [ei 18 (by decide) (by decide), setA_n _ _ (by decide), eo 10 (by decide)]
        exact b5
      · show (W.2.1 1).length ≤ 128 ∧ M1.1 16 = _ ∧ ∀ i, i < (W.2.1 1).length → (setA M1 0 _).2 9 i = _
        rw [ei 16 (by decide) (by decide), setA_n _ _ (by decide), eo 9 (by decide)]
        exact b6
      · show W.2.2.1 10 = M1.1 25
        rw [ei 25 (by decide) (by decide)]
        exact b7
theorem f_saveSnapshot (h : WRel W M) : ∃ M', Md_saveSnapshot 0 M = some M' ∧ WRel (SA_saveSnapshot W) M' := by
  obtain ⟨b1, b2, ⟨a, c, c1, c2, c3, c4, c5, c6⟩, b4, b5, b6, b7⟩ := h
  unfold SA_saveSnapshot Md_saveSnapshot
  rw [show Md_copy (setF M 9 0) 0 0 4 0 = _ from m_copy (M := setF M 9 0) (a := 0) (b := 0) (i := 0) (j := 4) (by decide) (by decide) (by decide) (by decide), bs, lu]
  refine ⟨_, rfl, ?_⟩
  refine ⟨?_, b2, ⟨a, c, c1, c2, c3, c4, c5, fun k hk => ?_⟩, ?_, b5, b6, b7⟩
  · show Top ((setS W 11 (St_copyFrom (W.1 9) (W.1 11))).1 9) (M.2 0)
    rw [setS_n _ _ (by decide)]
    exact b1
  · show Top ((setS W 11 (St_copyFrom (W.1 9) (W.1 11))).1 ((a + k) % 9)) (fun j => M.2 5 (257 * k + j))
    rw [setS_n _ _ (by have := Nat.mod_lt (a + k) (show 9 > 0 by decide); omega)]
    exact c6 k hk
  · refine ⟨rfl, Or.inr ⟨rfl, ?_⟩⟩
    show Top ((setS W 11 (St_copyFrom (W.1 9) (W.1 11))).1 11) ((setA (setF M 9 0) 4 (va_cpy (M.2 0) (M.2 4) (257 * 0) (257 * 0) 257)).2 4)
    rw [setS_s, setA_s]
    exact (b1.copy _).ext fun j hj => cpy0 _ _ j hj
theorem f_restoreSnapshot (h : WRel W M) : ∃ v M', Md_restoreSnapshot 0 M = some (v, M') ∧ (SA_restoreSnapshot W).1 = v ∧ WRel (SA_restoreSnapshot W).2 M' := by
  have hw := h
  obtain ⟨b1, b2, ⟨a, c, c1, c2, c3, c4, c5, c6⟩, b4, b5, b6, b7⟩ := h
  unfold SA_restoreSnapshot Md_restoreSnapshot
  rw [b4.1]
  rcases b4.2 with h0 | ⟨h1, ht⟩
  · rw [if_pos h0, if_pos h0]
    exact ⟨_, _, rfl, rfl, hw.thr 0⟩
  · have hne : ¬ M.1 10 = 0 := by rw [h1]; decide
    rw [if_neg hne, if_neg hne, show Md_copy (setF M 9 0) 4 0 0 0 = _ from m_copy (M := setF M 9 0) (a := 0) (b := 0) (i := 4) (j := 0) (by decide) (by decide) (by decide) (by decide), bs, lu, lu]
    refine ⟨_, _, rfl, rfl, ?_⟩
    refine ⟨?_, b2, ⟨a, 0, c1, by omega, c3, rfl, rfl, fun k hk => absurd hk (Nat.not_lt_zero k)⟩, ?_, b5, b6, b7⟩
    · show Top ((setS W 9 (St_copyFrom (W.1 11) (W.1 9))).1 9) ((setA (setF M 9 0) 0 (va_cpy (M.2 4) (M.2 0) (257 * 0) (257 * 0) 257)).2 0)
      rw [setS_s, setA_s]
      exact (ht.copy _).ext fun j hj => cpy0 _ _ j hj
    · refine ⟨b4.1, Or.inr ⟨h1, ?_⟩⟩
      show Top ((setS W 9 (St_copyFrom (W.1 11) (W.1 9))).1 11) (M.2 4)
      rw [setS_n _ _ (by decide)]
      exact ht
end FC
