/-! read-only questions, second part: counts and first places -/
section RO
variable {H : Int32} {A : StM} {ρ : Nat} {M : MdM} {f : Nat → Int32}
theorem m_folderMarked (h : RI H A (M.2 ρ)) (x : Int32) : Md_folderMarked ρ M x = some (lnpl (A.2 0) x) := by
  have hf := h.sz.fo
  have go : ∀ (n i : Nat), i ≤ (A.2 0).length → (A.2 0).length - i < n → Md_folderMarked_L2 ρ M n x (nI i) = some (lnplN ((A.2 0).drop i) x i) := by
    intro n
    induction n with
    | zero => intro i h1 h2; omega
    | succ n ih =>
      intro i h1 h2
      unfold Md_folderMarked_L2
      rw [tn5, h.rel.nf]
      by_cases hi : i = (A.2 0).length
      · rw [if_pos ((q_le (by omega) (by omega)).mpr (by omega)), hi, List.drop_length]; rfl
      · rw [if_neg (fun q => hi (by have := (q_le (by omega) (by omega)).mp q; omega)), of0 (by omega), bs, h.rel.mk i (by omega), drop_getD _ i (by omega), lnplN]
        by_cases hx : (A.2 0).getD i 0 = x
        · rw [if_pos hx, if_pos hx]
        · rw [if_neg hx, if_neg hx, nI_1, ih (i + 1) (by omega) (by omega)]
  exact go FU 0 (Nat.zero_le _) (FU_gt (by omega))
theorem m_placeOf (h : RI H A (M.2 ρ)) {x : Int32} (hx : x ∈ A.2 7) : ∃ i, i < (A.2 7).length ∧ (A.2 7).getD i 0 = x ∧ lnpl (A.2 7) x = nI i ∧ Md_placeOf ρ M x = some (nI i) := by
  have hl := h.sz.l
  obtain ⟨i, h1, h2, h3, h4⟩ := lp_mem hx
  refine ⟨i, h1, h2, h4, ?_⟩
  have go : ∀ (n p : Nat), p ≤ i → i - p < n → Md_placeOf_L2 ρ M n x (nI p) = some (nI i) := by
    intro n
    induction n with
    | zero => intro p g1 g2; omega
    | succ n ih =>
      intro p g1 g2
      unfold Md_placeOf_L2
      rw [e_fa (by omega), bs, h.row (by omega)]
      by_cases hp : p = i
      · rw [if_pos (by rw [hp]; exact h2), hp]
      · rw [if_neg (h3 p (by omega)), nI_1, ih (p + 1) (by omega) (by omega)]
  exact go FU 0 (Nat.zero_le _) (FU_gt (by omega))
theorem m_trolleyPlace (h : RI H A (M.2 ρ)) {x : Int32} (hx : x ∈ A.2 10) : ∃ i, i < (A.2 10).length ∧ (A.2 10).getD i 0 = x ∧ lnpl (A.2 10) x = nI i ∧ Md_trolleyPlace ρ M x = some (nI i) := by
  have hl := h.sz.t
  obtain ⟨i, h1, h2, h3, h4⟩ := lp_mem hx
  refine ⟨i, h1, h2, h4, ?_⟩
  have go : ∀ (n p : Nat), p ≤ i → i - p < n → Md_trolleyPlace_L2 ρ M n x (nI p) = some (nI i) := by
    intro n
    induction n with
    | zero => intro p g1 g2; omega
    | succ n ih =>
      intro p g1 g2
      unfold Md_trolleyPlace_L2
      rw [show (169 : Int32) = nI 169 from rfl, nI_add, if_pos (q_in (by omega) (by omega)), q_cl (by omega), h.trol (by omega)]
      by_cases hp : p = i
      · rw [if_pos (by rw [hp]; exact h2), hp]
      · rw [if_neg (h3 p (by omega)), nI_1, ih (p + 1) (by omega) (by omega)]
  exact go FU 0 (Nat.zero_le _) (FU_gt (by omega))
theorem m_isWrong (h : RI H A (M.2 ρ)) {p : Nat} (hp : p + 1 < (A.2 7).length) : Md_isWrong ρ M (nI p) = some (Rw_isWrong A (nI (p + 1))) := by
  have hl := h.sz.l
  unfold Md_isWrong
  rw [m_markAt h.w (by omega), bs, nI_1, m_markAt h.w hp, bs]
  have e : Rw_isWrong A (nI (p + 1)) = if Rw_markAt A (nI p) ≤ Rw_markAt A (nI (p + 1)) then 0 else 1 := by
    unfold Rw_isWrong
    rw [if_neg (nI_nle (by omega) (by omega)), nI_pred]
    rfl
  rw [e]
  by_cases h1 : Rw_markAt A (nI p) ≤ Rw_markAt A (nI (p + 1))
  · rw [if_pos h1, if_pos h1]
  · rw [if_neg h1, if_neg h1]
theorem s_countWrong (h : RI H A (M.2 ρ)) : ∃ v, Rw_wrongPairs A = some v ∧ Md_countWrong ρ M = some v := by
  have hl := h.sz.l
  have go : ∀ (n m i : Nat) (c : Int32), (A.2 7).length - i < n → (A.2 7).length - i < m → i ≤ (A.2 7).length → ∃ v, Rw_wrongPairs_L4 A n c (nI (i + 1)) = some v ∧ Md_countWrong_L4 ρ M m c (nI i) = some v := by
    intro n
    induction n with
    | zero => intro m i c h1; omega
    | succ n ih =>
      intro m i c h1 h2 h3
      cases m with
      | zero => omega
      | succ m =>
        unfold Rw_wrongPairs_L4 Md_countWrong_L4
        rw [tn6, h.rel.nl]
        simp only [lu, nI_1, Int32.add_zero]
        by_cases hi : (A.2 7).length ≤ i + 1
        · rw [if_pos ((q_le (by omega) (by omega)).mpr hi), if_pos ((q_le (by omega) (by omega)).mpr hi)]
          exact ⟨c, rfl, rfl⟩
        · have hn : ¬ nI (A.2 7).length ≤ nI (i + 1) := fun q => hi ((q_le (by omega) (by omega)).mp q)
          rw [if_neg hn, if_neg hn, m_isWrong h (by omega), bs]
          by_cases hw : Rw_isWrong A (nI (i + 1)) = 0
          · rw [if_pos hw, if_pos hw]
            exact ih m (i + 1) c (by omega) (by omega) (by omega)
          · rw [if_neg hw, if_neg hw]
            exact ih m (i + 1) (c + 1) (by omega) (by omega) (by omega)
  exact go FU FU 0 0 (FU_gt (by omega)) (FU_gt (by omega)) (Nat.zero_le _)
theorem s_firstWrong (h : RI H A (M.2 ρ)) : (Rw_firstWrong A = some (-1) ∧ Md_firstWrong ρ M = some (-1)) ∨ ∃ p, p + 1 < (A.2 7).length ∧ Rw_firstWrong A = some (nI (p + 1)) ∧ Md_firstWrong ρ M = some (nI p) := by
  have hl := h.sz.l
  have go : ∀ (n m i : Nat), (A.2 7).length - i < n → (A.2 7).length - i < m → i ≤ (A.2 7).length → (Rw_firstWrong_L2 A n (nI (i + 1)) = some (-1) ∧ Md_firstWrong_L2 ρ M m (nI i) = some (-1)) ∨ ∃ p, p + 1 < (A.2 7).length ∧ Rw_firstWrong_L2 A n (nI (i + 1)) = some (nI (p + 1)) ∧ Md_firstWrong_L2 ρ M m (nI i) = some (nI p) := by
    intro n
    induction n with
    | zero => intro m i h1; omega
    | succ n ih =>
      intro m i h1 h2 h3
      cases m with
      | zero => omega
      | succ m =>
        unfold Rw_firstWrong_L2 Md_firstWrong_L2
        rw [tn6, h.rel.nl]
        simp only [nI_1]
        by_cases hi : (A.2 7).length ≤ i + 1
        · rw [if_pos ((q_le (by omega) (by omega)).mpr hi), if_pos ((q_le (by omega) (by omega)).mpr hi)]
          exact Or.inl ⟨rfl, rfl⟩
        · have hn : ¬ nI (A.2 7).length ≤ nI (i + 1) := fun q => hi ((q_le (by omega) (by omega)).mp q)
          rw [if_neg hn, if_neg hn, m_isWrong h (by omega), bs]
          by_cases hw : Rw_isWrong A (nI (i + 1)) = 0
          · rw [if_pos hw, if_pos hw]
            exact ih m (i + 1) (by omega) (by omega) (by omega)
          · rw [if_neg hw, if_neg hw]
            exact Or.inr ⟨i, by omega, rfl, rfl⟩
  exact go FU FU 0 (FU_gt (by omega)) (FU_gt (by omega)) (Nat.zero_le _)
theorem s_inversions (h : RI H A (M.2 ρ)) : ∃ v, Rw_pairsInWrongOrder A = some v ∧ Md_countInversions ρ M = some v := by
  have hl := h.sz.l
  have inner : ∀ (n m i j : Nat) (c : Int32), i - j < n → i - j < m → j ≤ i → i < (A.2 7).length → ∃ c', (∀ k, Rw_pairsInWrongOrder_L24 A k n c (nI i) (Rw_markAt A (nI i)) (nI j) = k c' (nI i) (Rw_markAt A (nI i)) (nI i)) ∧ ∀ k, Md_countInversions_L17 ρ M k m c (nI i) (nI j) = k c' (nI i) (nI i) := by
    intro n
    induction n with
    | zero => intro m i j c h1; omega
    | succ n ih =>
      intro m i j c h1 h2 h3 h4
      cases m with
      | zero => omega
      | succ m =>
        by_cases hj : j = i
        · subst hj
          refine ⟨c, fun k => ?_, fun k => ?_⟩
          · unfold Rw_pairsInWrongOrder_L24
            rw [if_pos (Int32.le_refl _)]
          · unfold Md_countInversions_L17
            rw [if_pos (Int32.le_refl _)]
        · have hn : ¬ nI i ≤ nI j := nI_ge (show j < i by omega) (by omega)
          by_cases hw : Rw_markAt A (nI j) ≤ Rw_markAt A (nI i)
          · obtain ⟨c', e1, e2⟩ := ih m i (j + 1) c (by omega) (by omega) (by omega) h4
            refine ⟨c', fun k => ?_, fun k => ?_⟩
            · unfold Rw_pairsInWrongOrder_L24
              rw [if_neg hn, if_pos hw, nI_1, e1]
            · unfold Md_countInversions_L17
              rw [if_neg hn, m_markAt h.w (by omega), bs, m_markAt h.w (by omega), bs, if_pos hw, lu, Int32.add_zero, nI_1, e2]
          · obtain ⟨c', e1, e2⟩ := ih m i (j + 1) (c + 1) (by omega) (by omega) (by omega) h4
            refine ⟨c', fun k => ?_, fun k => ?_⟩
            · unfold Rw_pairsInWrongOrder_L24
              rw [if_neg hn, if_neg hw, nI_1, e1]
            · unfold Md_countInversions_L17
              rw [if_neg hn, m_markAt h.w (by omega), bs, m_markAt h.w (by omega), bs, if_neg hw, lu, nI_1, e2]
  have outer : ∀ (n m i : Nat) (c : Int32), (A.2 7).length - i < n → (A.2 7).length - i < m → i ≤ (A.2 7).length → ∃ v, Rw_pairsInWrongOrder_L4 A n c (nI i) = some v ∧ Md_countInversions_L4 ρ M m c (nI i) = some v := by
    intro n
    induction n with
    | zero => intro m i c h1; omega
    | succ n ih =>
      intro m i c h1 h2 h3
      cases m with
      | zero => omega
      | succ m =>
        unfold Rw_pairsInWrongOrder_L4 Md_countInversions_L4
        rw [tn6, h.rel.nl]
        by_cases hi : (A.2 7).length ≤ i
        · rw [if_pos ((q_le (by omega) (by omega)).mpr hi), if_pos ((q_le (by omega) (by omega)).mpr hi)]
          exact ⟨c, rfl, rfl⟩
        · have hn : ¬ nI (A.2 7).length ≤ nI i := fun q => hi ((q_le (by omega) (by omega)).mp q)
          obtain ⟨c', e1, e2⟩ := inner FU FU i 0 c (FU_gt (by omega)) (FU_gt (by omega)) (Nat.zero_le _) (by omega)
          rw [if_neg hn, if_neg hn, lu]
          have e1' := e1 (fun v1_93 v2_94 v3_95 v4_96 => Rw_pairsInWrongOrder_L4 A n v1_93 (v2_94 + 1))
          have e2' := e2 (fun v1_385 v2_386 v3_387 => Md_countInversions_L4 ρ M m v1_385 (v2_386 + 1))
          rw [show nI 0 = (0 : Int32) from rfl] at e1' e2'
          rw [e1', e2', nI_1]
          exact ih m (i + 1) c' (by omega) (by omega) (by omega)
  by_cases h0 : (A.2 7).length = 0
  · refine ⟨0, ?_, ?_⟩
    · show Rw_pairsInWrongOrder_L4 A (999 + 1) 0 1 = _
      unfold Rw_pairsInWrongOrder_L4
      rw [h0, if_pos (by decide)]
    · show Md_countInversions_L4 ρ M (999 + 1) 0 0 = _
      unfold Md_countInversions_L4
      rw [tn6, h.rel.nl, h0, if_pos (by decide)]
  · obtain ⟨v, e1, e2⟩ := outer FU 999 1 0 (FU_gt (by omega)) (by omega) (by omega)
    refine ⟨v, e1, ?_⟩
    show Md_countInversions_L4 ρ M (999 + 1) 0 (nI 0) = _
    unfold Md_countInversions_L4
    obtain ⟨c', -, e3⟩ := inner FU FU 0 0 0 (FU_gt (by omega)) (FU_gt (by omega)) (Nat.zero_le _) (by omega)
    have e3' := e3 (fun v1_385 v2_386 v3_387 => Md_countInversions_L4 ρ M 999 v1_385 (v2_386 + 1))
    rw [tn6, h.rel.nl, if_neg (fun q => h0 (by have := (q_le (b := 0) (by omega) (by omega)).mp q; omega))]
    rw [show nI 0 = (0 : Int32) from rfl] at e3' ⊢
    have e4 : Md_countInversions_L17 ρ M (fun v1_385 v2_386 v3_387 => Md_countInversions_L4 ρ M 999 v1_385 (v2_386 + 1)) FU 0 0 0 = Md_countInversions_L4 ρ M 999 0 (0 + 1) := by
      show Md_countInversions_L17 ρ M _ (999 + 1) 0 0 0 = _
      unfold Md_countInversions_L17
      rw [if_pos (by decide)]
    rw [e4]
    exact e2
theorem s_orderPlace (h : RI H A (M.2 ρ)) {k : Nat} (hk : k < (A.2 0).length) (p0 : Nat) (hp0 : p0 < (A.2 7).length → Rw_markAt A (nI p0) = (A.2 0).getD k 0) : ∃ v, v + (if p0 < (A.2 7).length then 1 else 0) ≤ (A.2 7).length ∧ Rw_placeInOrder A ((A.2 0).getD k 0) = some (nI v) ∧ Md_orderPlace ρ M (nI k) = some (nI v) := by
  have hl := h.sz.l
  have hf := h.sz.fo
  have go : ∀ (n i c : Nat), (A.2 7).length - i < n → c + (if p0 < i then 1 else 0) ≤ i → i ≤ (A.2 7).length → ∃ v, v + (if p0 < (A.2 7).length then 1 else 0) ≤ (A.2 7).length ∧ Rw_placeInOrder_L4 A n ((A.2 0).getD k 0) (nI c) (nI i) = some (nI v) ∧ Md_orderPlace_L4 ρ M n (nI k) (nI c) (nI i) = some (nI v) := by
    intro n
    induction n with
    | zero => intro i c h1; omega
    | succ n ih =>
      intro i c h1 h2 h3
      unfold Rw_placeInOrder_L4 Md_orderPlace_L4
      rw [tn6, h.rel.nl]
      by_cases hi : (A.2 7).length ≤ i
      · rw [if_pos ((q_le (by omega) (by omega)).mpr hi), if_pos ((q_le (by omega) (by omega)).mpr hi)]
        obtain rfl : i = (A.2 7).length := by omega
        exact ⟨c, h2, rfl, rfl⟩
      · have hn : ¬ nI (A.2 7).length ≤ nI i := fun q => hi ((q_le (by omega) (by omega)).mp q)
        rw [if_neg hn, if_neg hn, m_markAt h.w (by omega), bs, of0 (by omega), bs, h.rel.mk k hk, lu, lu, nI_1, Int32.add_zero, nI_1]
        by_cases hw : (A.2 0).getD k 0 ≤ Rw_markAt A (nI i)
        · rw [if_pos hw, if_pos hw]
          exact ih (i + 1) c (by omega) (by split at h2 <;> split <;> omega) (by omega)
        · rw [if_neg hw, if_neg hw]
          have hne : p0 ≠ i := fun q => hw (by rw [← hp0 (by omega), q]; exact Int32.le_refl _)
          exact ih (i + 1) (c + 1) (by omega) (by split at h2 <;> split <;> omega) (by omega)
  exact go FU 0 0 (FU_gt (by omega)) (by rw [if_neg (Nat.not_lt_zero _)]; exact Nat.le_refl _) (Nat.zero_le _)
theorem cnt_drop (xs : List Int32) (v : Int32) (i : Nat) (h : i < xs.length) : (xs.drop i).count v = (if xs.getD i 0 = v then 1 else 0) + (xs.drop (i + 1)).count v := by
  rw [drop_getD xs i h, List.count_cons]
  by_cases hv : xs.getD i 0 = v
  · rw [if_pos hv, if_pos (beq_iff_eq.mpr hv), Nat.add_comm]
  · rw [if_neg hv, if_neg (fun q => hv (beq_iff_eq.mp q)), Nat.add_comm]
theorem m_foldersOf (h : RI H A (M.2 ρ)) {r : Nat} (hr : r < 100) : Md_foldersOf ρ M (nI r) = some (nI ((A.2 3).count (nI r))) := by
  have hf := h.sz.fo
  have h2 := h.sz.e2
  have h3 := h.sz.e3
  have go : ∀ (n i c : Nat), (A.2 0).length - i < n → i ≤ (A.2 0).length → Md_foldersOf_L4 ρ M n (nI r) (nI c) (nI i) = some (nI (c + ((A.2 3).drop i).count (nI r))) := by
    intro n
    induction n with
    | zero => intro i c h1; omega
    | succ n ih =>
      intro i c h1 hi1
      unfold Md_foldersOf_L4 Md_isIn
      simp only [lu, nI_1, Int32.add_zero]
      rw [tn5, h.rel.nf]
      by_cases hi : i = (A.2 0).length
      · rw [if_pos ((q_le (by omega) (by omega)).mpr (by omega)), hi, ← h3, List.drop_length, List.count_nil, Nat.add_zero]
      · rw [if_neg (fun q => hi (by have := (q_le (by omega) (by omega)).mp q; omega)), of2 (by omega), bs, h.rel.st i (by omega), cnt_drop _ _ i (by omega)]
        rcases h.fd.2.2.2.2.2.2.1 i (by omega) with ⟨g1, g2⟩ | ⟨g1, -⟩
        · have g3 : ¬ (A.2 2).getD i 0 = 1 := by rcases g1 with q | q <;> rw [q] <;> decide
          rw [if_neg g3, bs, if_pos rfl, g2, if_neg (fun q => q_m1 (by omega) q.symm), Nat.zero_add]
          exact ih (i + 1) c (by omega) (by omega)
        · rw [if_pos g1, bs, if_neg (by decide), of3 (by omega), bs, h.rel.wi i (by omega) g1]
          by_cases hv : (A.2 3).getD i 0 = nI r
          · rw [if_pos hv, if_pos hv, ih (i + 1) (c + 1) (by omega) (by omega), Nat.add_assoc]
          · rw [if_neg hv, if_neg hv, ih (i + 1) c (by omega) (by omega), Nat.zero_add]
  have := go FU 0 0 (FU_gt (by omega)) (Nat.zero_le _)
  rwa [Nat.zero_add, List.drop_zero] at this
theorem m_countIn (h : RI H A (M.2 ρ)) (s : Int32) : Md_countIn ρ M s = some (lncnt (A.2 2) s) := by
  have hf := h.sz.fo
  have h2 := h.sz.e2
  have go : ∀ (n i c : Nat), (A.2 0).length - i < n → i ≤ (A.2 0).length → Md_countIn_L4 ρ M n s (nI c) (nI i) = some (nI (c + ((A.2 2).drop i).count s)) := by
    intro n
    induction n with
    | zero => intro i c h1; omega
    | succ n ih =>
      intro i c h1 hi1
      unfold Md_countIn_L4 Md_isIn
      simp only [lu, nI_1, Int32.add_zero]
      rw [tn5, h.rel.nf]
      by_cases hi : i = (A.2 0).length
      · rw [if_pos ((q_le (by omega) (by omega)).mpr (by omega)), hi, ← h2, List.drop_length, List.count_nil, Nat.add_zero]
      · rw [if_neg (fun q => hi (by have := (q_le (by omega) (by omega)).mp q; omega)), of2 (by omega), bs, h.rel.st i (by omega), cnt_drop _ _ i (by omega)]
        by_cases hv : (A.2 2).getD i 0 = s
        · rw [if_pos hv, if_pos hv, bs, if_neg (by decide), ih (i + 1) (c + 1) (by omega) (by omega), Nat.add_assoc]
        · rw [if_neg hv, if_neg hv, bs, if_pos rfl, ih (i + 1) c (by omega) (by omega), Nat.zero_add]
  have := go FU 0 0 (FU_gt (by omega)) (Nat.zero_le _)
  rwa [Nat.zero_add, List.drop_zero] at this
/-- slips with a number: a generic count over one of their four columns -/
theorem m_slipsWith (h : RI H A (M.2 ρ)) {w : Nat} (hw : w < 4) {xs : List Int32} (hx : xs.length = (A.2 11).length) (ha : Arr (M.2 ρ) (193 + w) 4 xs) (v : Int32) : Md_slipsWith ρ M (nI w) v = some (lncnt xs v) := by
  have hs := h.sz.s
  have go : ∀ (n i c : Nat), xs.length - i < n → i ≤ xs.length → Md_slipsWith_L5 ρ M n (nI w) v (nI c) (nI i) = some (nI (c + (xs.drop i).count v)) := by
    intro n
    induction n with
    | zero => intro i c h1; omega
    | succ n ih =>
      intro i c h1 hi1
      unfold Md_slipsWith_L5
      simp only [lu, nI_1, Int32.add_zero]
      rw [tn8, h.rel.ns]
      by_cases hi : i = xs.length
      · rw [if_pos ((q_le (by omega) (by omega)).mpr (by omega)), hi, List.drop_length, List.count_nil, Nat.add_zero]
      · rw [if_neg (fun q => hi (by have := (q_le (by omega) (by omega)).mp q; omega)), e_os (by omega), bs, show 193 + 4 * i + w = 193 + w + 4 * i by omega, ha i (by omega), cnt_drop _ _ i (by omega)]
        by_cases hv : xs.getD i 0 = v
        · rw [if_pos hv, if_pos hv, ih (i + 1) (c + 1) (by omega) (by omega), Nat.add_assoc]
        · rw [if_neg hv, if_neg hv, ih (i + 1) c (by omega) (by omega), Nat.zero_add]
  have := go FU 0 0 (FU_gt (by omega)) (Nat.zero_le _)
  rwa [Nat.zero_add, List.drop_zero] at this
theorem m_timesIn {b : Nat} {xs : List Int32} (hb : b + xs.length ≤ 257) (ha : ∀ i, i < xs.length → M.2 ρ (b + i) = xs.getD i 0) (v : Int32) : Md_timesIn ρ M (nI b) (nI xs.length) v = some (lncnt xs v) := by
  have go : ∀ (n i c : Nat), xs.length - i < n → i ≤ xs.length → Md_timesIn_L6 ρ M n (nI b) (nI xs.length) v (nI c) (nI i) = some (nI (c + (xs.drop i).count v)) := by
    intro n
    induction n with
    | zero => intro i c h1; omega
    | succ n ih =>
      intro i c h1 hi1
      unfold Md_timesIn_L6
      simp only [lu, nI_1, Int32.add_zero]
      by_cases hi : i = xs.length
      · rw [if_pos ((q_le (by omega) (by omega)).mpr (by omega)), hi, List.drop_length, List.count_nil, Nat.add_zero]
      · rw [if_neg (fun q => hi (by have := (q_le (by omega) (by omega)).mp q; omega)), nI_add, if_pos (q_in (by omega) (by omega)), q_cl (by omega), ha i (by omega), cnt_drop _ _ i (by omega)]
        by_cases hv : xs.getD i 0 = v
        · rw [if_pos hv, if_pos hv, ih (i + 1) (c + 1) (by omega) (by omega), Nat.add_assoc]
        · rw [if_neg hv, if_neg hv, ih (i + 1) c (by omega) (by omega), Nat.zero_add]
  have := go FU 0 0 (FU_gt (by omega)) (Nat.zero_le _)
  rwa [Nat.zero_add, List.drop_zero] at this
theorem s_slipOf (h : RI H A (M.2 ρ)) (r k : Int32) : (Sl_placeFor A r k = some (-1) ∧ Md_slipOf ρ M r k = some (-1)) ∨ ∃ s, s < (A.2 11).length ∧ Sl_placeFor A r k = some (nI s) ∧ Md_slipOf ρ M r k = some (nI s) := by
  have hs := h.sz.s
  have h12 := h.sz.e12
  have go : ∀ (n i : Nat), (A.2 11).length - i < n → i ≤ (A.2 11).length → (Sl_placeFor_L2 A n r k (nI i) = some (-1) ∧ Md_slipOf_L2 ρ M n r k (nI i) = some (-1)) ∨ ∃ s, s < (A.2 11).length ∧ Sl_placeFor_L2 A n r k (nI i) = some (nI s) ∧ Md_slipOf_L2 ρ M n r k (nI i) = some (nI s) := by
    intro n
    induction n with
    | zero => intro i h1; omega
    | succ n ih =>
      intro i h1 hi1
      unfold Sl_placeFor_L2 Md_slipOf_L2
      rw [tn8, h.rel.ns]
      by_cases hi : (A.2 11).length ≤ i
      · rw [if_pos ((q_le (by omega) (by omega)).mpr hi), if_pos ((q_le (by omega) (by omega)).mpr hi)]
        exact Or.inl ⟨rfl, rfl⟩
      · have hn : ¬ nI (A.2 11).length ≤ nI i := fun q => hi ((q_le (by omega) (by omega)).mp q)
        rw [if_neg hn, if_neg hn, os0 (by omega), bs, h.rel.s0 i (by omega), lg_in (by omega) (by omega), os1 (by omega), bs, h.rel.s1 i (by omega), lg_in (by omega) (by omega), nI_1]
        by_cases g1 : (A.2 11).getD i 0 = r
        · rw [if_pos g1, if_pos g1]
          by_cases g2 : (A.2 12).getD i 0 = k
          · rw [if_pos g2, if_pos g2]
            exact Or.inr ⟨i, by omega, rfl, rfl⟩
          · rw [if_neg g2, if_neg g2]
            exact ih (i + 1) (by omega) (by omega)
        · rw [if_neg g1, if_neg g1]
          exact ih (i + 1) (by omega) (by omega)
  exact go FU 0 (FU_gt (by omega)) (Nat.zero_le _)
theorem m_isClosed (h : RI H A (M.2 ρ)) {k : Nat} (hk : k < (A.2 0).length) : Md_isClosed ρ M (nI k) = some (St_isClosed A (nI k)) := by
  have hf := h.sz.fo
  have h1 := h.sz.e1
  unfold Md_isClosed St_isClosed
  rw [of1 (by omega), bs, h.rel.em k (by omega), tn0, h.rel.day, lg_in (by omega) (by omega)]
  by_cases g : (A.2 1).getD k 0 ≤ A.1 0
  · rw [if_pos g, if_pos g]
  · rw [if_neg g, if_neg g]
theorem m_idleness (h : RI H A (M.2 ρ)) {s : Nat} (hs : s < (A.2 11).length) : Md_idleness ρ M (nI s) = some (St_idleness A (nI s)) := by
  have hs1 := h.sz.s
  have h12 := h.sz.e12
  have hf := h.sz.fo
  have h2 := h.sz.e2
  have hr := h.sz.r
  obtain ⟨⟨r, hr1, er⟩, k, hk, ek⟩ := h.sp s hs
  unfold Md_idleness St_idleness Md_isIn
  rw [os1 (by omega), bs, h.rel.s1 s (by omega), ek, of2 (by omega), bs, h.rel.st k (by omega), lg_in (by omega) (by omega), ek, lu, lg_in (by omega) (by omega), lu, m_isClosed h hk, os0 (by omega), h.rel.s0 s (by omega), er, lg_in (by omega) (by omega), er, lg_in (by omega) (by omega), h.fd.2.2.2.2.2.2.2 r hr1]
  rcases h.fd.2.2.2.2.2.2.1 k hk with ⟨g1 | g1, -⟩ | ⟨g1, -⟩
  · rw [g1, if_pos rfl, bs, if_neg (by decide), if_neg (by decide), if_neg (by decide), bs, bs, m_foldersOf h (by omega), bs, tn4, h.rel.lim]
    by_cases g2 : St_isClosed A (nI k) = 0
    · rw [if_pos g2, if_pos g2]
      by_cases g3 : nI ((A.2 3).count (nI r)) < A.1 3
      · rw [if_pos g3, if_pos g3]
      · rw [if_neg g3, if_neg g3]
    · rw [if_neg g2, if_neg g2]
  · simp (decide := true) only [g1, bs, if_true, if_false]
  · simp (decide := true) only [g1, bs, if_true, if_false]
theorem m_daysToRefiling (h : RI H A (M.2 ρ)) : Md_daysToRefiling ρ M = some (St_daysToRefiling A) := by
  unfold Md_daysToRefiling St_daysToRefiling
  rw [tn1, tn0, h.rel.per, h.rel.day, if_neg h.per, if_pos (fun q => h.per (by rw [q]; decide))]
theorem s_refusal (h : RI H A (M.2 ρ)) {r k : Nat} (hr : r < (A.2 5).length) (hk : k < (A.2 0).length) : ∃ v, St_refusal A (nI r) (nI k) = some v ∧ Md_refusal ρ M (nI r) (nI k) = some v := by
  have hf := h.sz.fo
  have hrr := h.sz.r
  have h2 := h.sz.e2
  have h3 := h.sz.e3
  have hs := h.sz.s
  unfold St_refusal Md_refusal Md_isIn St_hasReader St_hasFolder Sl_count
  rw [if_neg (q_neg (by omega)), if_neg (nI_ge hr (by omega)), if_neg (by decide), if_neg (q_neg (by omega)), if_neg (nI_ge hk (by omega)), if_neg (by decide), lg_in (by omega) (by omega), of2 (by omega), bs, h.rel.st k (by omega), of3 (by omega), tn8, h.rel.ns]
  have tail : ∃ v, (Option.bind (Sl_placeFor A (nI r) (nI k)) fun q_196 => if q_196 = (-1) then (if nI (A.2 11).length < 16 then (some (0)) else (some ((-4)))) else (some ((-3 : Int32)))) = some v ∧ (Option.bind (Md_slipOf ρ M (nI r) (nI k)) fun q_732 => if q_732 = (-1) then (if nI (A.2 11).length = 16 then (some ((-4))) else (some (0))) else (some ((-3)))) = some v := by
    rcases s_slipOf h (nI r) (nI k) with ⟨e1, e2⟩ | ⟨s, hs1, e1, e2⟩
    · rw [e1, e2, bs, bs, if_pos rfl, if_pos rfl]
      by_cases g : (A.2 11).length = 16
      · rw [g, if_neg (by decide), if_pos (by decide)]
        exact ⟨_, rfl, rfl⟩
      · rw [if_pos (show nI (A.2 11).length < (16 : Int32) from nI_lt (b := 16) (by omega) (by omega)), if_neg (show ¬ nI (A.2 11).length = (16 : Int32) from fun q => g ((q_eq (b := 16) (by omega) (by omega)).mp q))]
        exact ⟨_, rfl, rfl⟩
    · rw [e1, e2, bs, bs, if_neg (q_m1 (by omega)), if_neg (q_m1 (by omega))]
      exact ⟨_, rfl, rfl⟩
  rcases h.fd.2.2.2.2.2.2.1 k hk with ⟨g1, g2⟩ | ⟨g1, -⟩
  · have g3 : ¬ (A.2 2).getD k 0 = 1 := by rcases g1 with q | q <;> rw [q] <;> decide
    rw [if_neg g3, bs, if_pos rfl, g2, if_neg (fun q => q_m1 (by omega) q.symm)]
    exact tail
  · rw [if_pos g1, bs, if_neg (show ¬ (1 : Int32) = 0 by decide), bs, h.rel.wi k (by omega) g1]
    by_cases g4 : (A.2 3).getD k 0 = nI r
    · rw [if_pos g4, if_pos g4]
      exact ⟨_, rfl, rfl⟩
    · rw [if_neg g4, if_neg g4]
      exact tail
end RO
