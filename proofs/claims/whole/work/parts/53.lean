/-! read-only questions, third part -/
/-- what the reference's other cells keep -/
def Sm (ρ : Nat) (M M' : MdM) : Prop := (∀ k, k ≠ 11 → k ≠ 12 → M'.1 k = M.1 k) ∧ ∀ j, j ≠ ρ → j ≠ 7 → j ≠ 8 → M'.2 j = M.2 j
theorem Sm.rf (ρ : Nat) (M : MdM) : Sm ρ M M := ⟨fun _ _ _ => rfl, fun _ _ _ _ => rfl⟩
theorem Sm.tr {ρ : Nat} {M M' M'' : MdM} (h : Sm ρ M M') (h' : Sm ρ M' M'') : Sm ρ M M'' := ⟨fun k a b => (h'.1 k a b).trans (h.1 k a b), fun j a b c => (h'.2 j a b c).trans (h.2 j a b c)⟩
theorem Sm.setA (ρ : Nat) (M : MdM) (g : Nat → Int32) : Sm ρ M (setA M ρ g) := ⟨fun _ _ _ => rfl, fun j a _ _ => setA_n _ _ a⟩
section RO
variable {H : Int32} {A : StM} {ρ : Nat} {M : MdM} {f : Nat → Int32}
theorem HQ.sm {M' : MdM} {x r : Int32} {L : List Int32} (h : HQ A M M' x r L) : Sm ρ M M' := ⟨fun k b c => h.1 k b c, fun j _ b _ => h.2.1 j b⟩
theorem s_missed (h : RI H A (M.2 ρ)) (hρ : ρ ≠ 7) : ∃ v L M', Rw_missedByHalving A = some (nI v, setL A 8 L) ∧ Md_countMissed ρ M = some (nI v, M') ∧ v ≤ (A.2 7).length ∧ Sm ρ M M' ∧ M'.2 ρ = M.2 ρ := by
  have hl := h.sz.l
  have go : ∀ (n i c : Nat) (L : List Int32) (M1 : MdM), (A.2 7).length - i < n → i ≤ (A.2 7).length → c ≤ i → Sm ρ M M1 → M1.2 ρ = M.2 ρ → ∃ v L' M', Rw_missedByHalving_L4 n (setL A 8 L) (nI c) (nI i) = some (nI v, setL A 8 L') ∧ Md_countMissed_L4 ρ n M1 (nI c) (nI i) = some (nI v, M') ∧ v ≤ (A.2 7).length ∧ Sm ρ M M' ∧ M'.2 ρ = M.2 ρ := by
    intro n
    induction n with
    | zero => intro i c L M1 h1; omega
    | succ n ih =>
      intro i c L M1 h1 h2 h2' h3 h4
      have hR : RI H (setL A 8 L) (M1.2 ρ) := by rw [h4]; exact h
      unfold Rw_missedByHalving_L4 Md_countMissed_L4
      rw [tn6, hR.rel.nl, show (setL A 8 L).2 7 = A.2 7 from rfl]
      by_cases hi : (A.2 7).length ≤ i
      · rw [if_pos ((q_le (by omega) (by omega)).mpr hi), if_pos ((q_le (by omega) (by omega)).mpr hi)]
        exact ⟨c, L, M1, rfl, rfl, by omega, h3, h4⟩
      · have hn : ¬ nI (A.2 7).length ≤ nI i := fun q => hi ((q_le (by omega) (by omega)).mp q)
        have hi' : i < (A.2 7).length := by omega
        rw [if_neg hn, if_neg hn, m_markAt hR.w hi', bs]
        obtain ⟨r, L2, M2, e1, e2, e3⟩ := s_halve hR.w hρ (Rw_markAt (setL A 8 L) (nI i))
        rw [setL_L] at e1
        rw [e1, e2, bs, bs, lu, lu, nI_1, nI_1]
        have e4 : Sm ρ M M2 := h3.tr e3.sm
        have e5 : M2.2 ρ = M.2 ρ := (e3.2.1 ρ hρ).trans h4
        rcases e3.2.2.2.2.2.2.1 with ⟨rfl, -⟩ | ⟨p, hp, rfl, hp2, -⟩
        · rw [if_pos rfl, if_neg (fun q => q_m1 (by omega) q.symm)]
          exact ih (i + 1) (c + 1) L2 M2 (by omega) (by omega) (by omega) e4 e5
        · have hpi : p = i := markAt_inj h hp hi' hp2
          rw [if_neg (q_m1 (by have : p < (A.2 7).length := hp; omega)), if_pos (by rw [hpi]), Int32.add_zero]
          exact ih (i + 1) c L2 M2 (by omega) (by omega) (by omega) e4 e5
  have h8 : setL A 8 (A.2 8) = A := Prod.ext rfl (funext fun j => by by_cases q : j = 8 <;> simp [setL, va_up, q])
  have := go FU 0 0 (A.2 8) M (FU_gt (by omega)) (Nat.zero_le _) (Nat.le_refl _) (Sm.rf _ _) rfl
  rw [h8] at this
  exact this
theorem s_gap (h : RI H A (M.2 ρ)) : ∃ a b c : Nat, St_foldersAstray A = some (nI a) ∧ St_readersAboveLimit A = some (nI b) ∧ St_slipsForOwnFolders A = some (nI c) ∧ Md_gap ρ M = some (nI (a + b + c), setF M 9 0) := by
  have hf := h.sz.fo
  have hr := h.sz.r
  have hs := h.sz.s
  have hl := h.sz.l
  have ht := h.sz.t
  have h2 := h.sz.e2
  have h3 := h.sz.e3
  have h12 := h.sz.e12
  have h' : RI H A ((setF M 9 0).2 ρ) := h
  unfold Md_gap
  generalize setF M 9 0 = M at h' ⊢
  have g3 : ∀ (n i : Nat), (A.2 11).length - i < n → i ≤ (A.2 11).length → ∃ x, ∀ c c', St_slipsForOwnFolders_L4 A n (nI c') (nI i) = some (nI (c' + x)) ∧ Md_gap_L127 ρ n M (nI c) (nI i) = some (nI (c + x), M) := by
    intro n
    induction n with
    | zero => intro i h1; omega
    | succ n ih =>
      intro i h1 hi1
      by_cases hi : (A.2 11).length ≤ i
      · refine ⟨0, fun c c' => ?_⟩
        unfold St_slipsForOwnFolders_L4 Md_gap_L127 Sl_count
        rw [tn8, h'.rel.ns, if_pos ((q_le (by omega) (by omega)).mpr hi), if_pos ((q_le (by omega) (by omega)).mpr hi)]
        exact ⟨rfl, rfl⟩
      · have hn : ¬ nI (A.2 11).length ≤ nI i := fun q => hi ((q_le (by omega) (by omega)).mp q)
        obtain ⟨⟨r, hr1, er⟩, k, hk, ek⟩ := h'.sp i (by omega)
        obtain ⟨x, hx⟩ := ih (i + 1) (by omega) (by omega)
        refine ⟨if (A.2 3).getD k 0 = nI r then 1 + x else x, fun c c' => ?_⟩
        unfold St_slipsForOwnFolders_L4 Md_gap_L127 Sl_count Md_isIn
        simp only [lu, nI_1, Int32.add_zero]
        rw [tn8, h'.rel.ns, if_neg hn, if_neg hn, os1 (by omega), bs, h'.rel.s1 i (by omega), ek, of2 (by omega), bs, h'.rel.st k (by omega), of3 (by omega), os0 (by omega), h'.rel.s0 i (by omega), er, lg_in (by omega) (by omega), ek, lg_in (by omega) (by omega), lg_in (by omega) (by omega), er]
        rcases h'.fd.2.2.2.2.2.2.1 k hk with ⟨g1, g2⟩ | ⟨g1, -⟩
        · have g3 : ¬ (A.2 2).getD k 0 = 1 := by rcases g1 with q | q <;> rw [q] <;> decide
          have g4 : ¬ (A.2 3).getD k 0 = nI r := fun q => q_m1 (a := r) (by omega) (by rw [← q, g2])
          rw [if_neg g3, bs, if_pos rfl, if_neg g4, if_neg g4]
          exact ⟨(hx c c').1, (hx c c').2⟩
        · rw [if_pos g1, bs, if_neg (show ¬ (1 : Int32) = 0 by decide), bs, h'.rel.wi k (by omega) g1, bs]
          by_cases g4 : (A.2 3).getD k 0 = nI r
          · rw [if_pos g4, if_pos g4, if_pos g4]
            have := hx (c + 1) (c' + 1)
            rw [Nat.add_assoc, Nat.add_assoc] at this
            exact this
          · rw [if_neg g4, if_neg g4, if_neg g4]
            exact hx c c'
  have g2 : ∀ (n i : Nat), (A.2 5).length - i < n → i ≤ (A.2 5).length → ∃ x y, St_slipsForOwnFolders A = some (nI y) ∧ ∀ c c', St_readersAboveLimit_L4 A n (nI c') (nI i) = some (nI (c' + x)) ∧ Md_gap_L87 ρ n M (nI c) (nI i) = some (nI (c + x + y), M) := by
    intro n
    induction n with
    | zero => intro i h1; omega
    | succ n ih =>
      intro i h1 hi1
      by_cases hi : (A.2 5).length ≤ i
      · obtain ⟨y, hy⟩ := g3 FU 0 (FU_gt (by omega)) (Nat.zero_le _)
        refine ⟨0, y, (hy 0 0).1.trans (by rw [Nat.zero_add]), fun c c' => ?_⟩
        unfold St_readersAboveLimit_L4 Md_gap_L87
        rw [tn3, h'.rel.nr, if_pos ((q_le (by omega) (by omega)).mpr hi), if_pos ((q_le (by omega) (by omega)).mpr hi)]
        exact ⟨rfl, (hy c 0).2⟩
      · have hn : ¬ nI (A.2 5).length ≤ nI i := fun q => hi ((q_le (by omega) (by omega)).mp q)
        obtain ⟨x, y, hy, hx⟩ := ih (i + 1) (by omega) (by omega)
        refine ⟨if nI ((A.2 3).count (nI i)) ≤ A.1 3 then x else 1 + x, y, hy, fun c c' => ?_⟩
        unfold St_readersAboveLimit_L4 Md_gap_L87 lncnt
        simp only [lu, nI_1, Int32.add_zero]
        rw [tn3, h'.rel.nr, if_neg hn, if_neg hn, m_foldersOf h' (by omega), bs, tn4, h'.rel.lim]
        by_cases g : nI ((A.2 3).count (nI i)) ≤ A.1 3
        · rw [if_pos g, if_pos g, if_pos g]
          exact hx c c'
        · rw [if_neg g, if_neg g, if_neg g]
          have := hx (c + 1) (c' + 1)
          rw [Nat.add_assoc, Nat.add_assoc c] at this
          exact this
  have g1 : ∀ (n i : Nat), (A.2 0).length - i < n → i ≤ (A.2 0).length → ∃ x z y, St_slipsForOwnFolders A = some (nI y) ∧ St_readersAboveLimit A = some (nI z) ∧ ∀ c c', St_foldersAstray_L4 A n (nI c') (nI i) = some (nI (c' + x)) ∧ Md_gap_L9 ρ n M (nI c) (nI i) = some (nI (c + x + z + y), M) := by
    intro n
    induction n with
    | zero => intro i h1; omega
    | succ n ih =>
      intro i h1 hi1
      by_cases hi : (A.2 0).length ≤ i
      · obtain ⟨z, y, hy, hz⟩ := g2 FU 0 (FU_gt (by omega)) (Nat.zero_le _)
        refine ⟨0, z, y, hy, (hz 0 0).1.trans (by rw [Nat.zero_add]), fun c c' => ?_⟩
        unfold St_foldersAstray_L4 Md_gap_L9
        rw [tn5, h'.rel.nf, if_pos ((q_le (by omega) (by omega)).mpr hi), if_pos ((q_le (by omega) (by omega)).mpr hi)]
        exact ⟨rfl, (hz c 0).2⟩
      · have hn : ¬ nI (A.2 0).length ≤ nI i := fun q => hi ((q_le (by omega) (by omega)).mp q)
        obtain ⟨x, z, y, hy, hz, hx⟩ := ih (i + 1) (by omega) (by omega)
        have e1 : Md_timesIn ρ M 145 (nI (A.2 7).length) (nI i) = some (lncnt (A.2 7) (nI i)) := m_timesIn (b := 145) (by omega) (fun p hp => h'.row hp) (nI i)
        have e2 : Md_timesIn ρ M 169 (nI (A.2 10).length) (nI i) = some (lncnt (A.2 10) (nI i)) := m_timesIn (b := 169) (by omega) (fun p hp => h'.trol hp) (nI i)
        have key : ∀ P : Prop, ∀ [Decidable P], ∃ x', ∀ c c', (if P then St_foldersAstray_L4 A n (nI c') (nI (i + 1)) else St_foldersAstray_L4 A n (nI (c' + 1)) (nI (i + 1))) = some (nI (c' + x')) ∧ (if P then Md_gap_L9 ρ n M (nI c) (nI (i + 1)) else Md_gap_L9 ρ n M (nI (c + 1)) (nI (i + 1))) = some (nI (c + x' + z + y), M) := by
          intro P _
          by_cases hP : P
          · refine ⟨x, fun c c' => ?_⟩
            rw [if_pos hP, if_pos hP]
            exact hx c c'
          · refine ⟨1 + x, fun c c' => ?_⟩
            rw [if_neg hP, if_neg hP]
            have := hx (c + 1) (c' + 1)
            rw [Nat.add_assoc, Nat.add_assoc c] at this
            exact this
        rcases h'.fd.2.2.2.2.2.2.1 i (by omega) with ⟨q1, q2⟩ | ⟨q1, r, hr1, q2⟩
        · have q3 : ¬ (A.2 2).getD i 0 = 1 := by rcases q1 with q | q <;> rw [q] <;> decide
          obtain ⟨x', hx'⟩ := key (lncnt (A.2 7) (nI i) + lncnt (A.2 10) (nI i) = 1)
          refine ⟨x', z, y, hy, hz, fun c c' => ?_⟩
          unfold St_foldersAstray_L4 Md_gap_L9 Md_isIn
          simp only [lu, nI_1, Int32.add_zero]
          rw [tn5, tn6, tn7, h'.rel.nf, h'.rel.nl, h'.rel.nt, if_neg hn, if_neg hn, e1, bs, e2, bs, of2 (by omega), bs, h'.rel.st i (by omega), if_neg q3, bs, if_pos rfl, lg_in (by omega) (by omega), q2, if_pos rfl]
          exact hx' c c'
        · obtain ⟨x', hx'⟩ := key (lncnt (A.2 7) (nI i) + lncnt (A.2 10) (nI i) + 1 = 1)
          refine ⟨x', z, y, hy, hz, fun c c' => ?_⟩
          unfold St_foldersAstray_L4 Md_gap_L9 Md_isIn
          simp only [lu, nI_1, Int32.add_zero]
          rw [tn5, tn6, tn7, h'.rel.nf, h'.rel.nl, h'.rel.nt, if_neg hn, if_neg hn, e1, bs, e2, bs, of2 (by omega), bs, h'.rel.st i (by omega), if_pos q1, bs, if_neg (show ¬ (1 : Int32) = 0 by decide), lg_in (by omega) (by omega), q2, if_neg (q_m1 (by omega))]
          exact hx' c c'
  obtain ⟨x, z, y, hy, hz, hx⟩ := g1 FU 0 (FU_gt (by omega)) (Nat.zero_le _)
  refine ⟨x, z, y, (hx 0 0).1.trans (by rw [Nat.zero_add]), hz, hy, (hx 0 0).2.trans (by rw [Nat.zero_add])⟩
theorem s_longest (h : RI H A (M.2 ρ)) (hρ : ρ ≠ 8) : ∃ v R M', Rw_longestRun A = some (v, setL A 9 R) ∧ Md_longestOrdered ρ M = some (v, M') ∧ Sm ρ (setF M 9 0) M' ∧ M'.2 ρ = M.2 ρ := by
  have hl := h.sz.l
  have inner : ∀ (n m i j a : Nat) (R : List Int32) (c c' : Int32) (M1 : MdM), i - j < n → i - j < m → j ≤ i → i < (A.2 7).length → R.length = i → (∀ p, p < i → ∃ b, b ≤ p + 1 ∧ R.getD p 0 = nI b) → a ≤ i → RI H A (M1.2 ρ) → (∀ p, p < i → M1.2 8 p = R.getD p 0) → M1.2 8 i = nI (a + 1) →
      ∃ a' M', a' ≤ i ∧ (∀ k, Rw_longestRun_L27 k n (setL A 9 R) c (nI i) (nI a) (nI j) = k (setL A 9 R) c (nI i) (nI a') (nI i)) ∧ (∀ k, Md_longestOrdered_L29 ρ k m M1 c' (nI i) (nI j) = k M' c' (nI i) (nI i)) ∧ M'.1 = M1.1 ∧ (∀ q, q ≠ 8 → M'.2 q = M1.2 q) ∧ (∀ p, p < i → M'.2 8 p = R.getD p 0) ∧ M'.2 8 i = nI (a' + 1) := by
    intro n
    induction n with
    | zero => intro m i j a R c c' M1 h1; omega
    | succ n ih =>
      intro m i j a R c c' M1 h1 h2 h3 h4 h5 h6 h7 h8 h9 h10
      cases m with
      | zero => omega
      | succ m =>
        by_cases hj : j = i
        · subst hj
          refine ⟨a, M1, h7, fun k => ?_, fun k => ?_, rfl, fun _ _ => rfl, h9, h10⟩
          · unfold Rw_longestRun_L27
            rw [if_pos (Int32.le_refl _)]
          · unfold Md_longestOrdered_L29
            rw [if_pos (Int32.le_refl _)]
        · have hn : ¬ nI i ≤ nI j := nI_ge (show j < i by omega) (by omega)
          have hi24 : inB (nI i) 24 := q_in (by omega) (by omega)
          have hj24 : inB (nI j) 24 := q_in (by omega) (by omega)
          have same : setA M1 8 (upd (M1.2 8) i (M1.2 8 i)) = M1 := Prod.ext rfl (funext fun q => by
            by_cases h : q = 8
            · subst h
              refine (setA_s _ _ _).trans (funext fun p => ?_)
              by_cases hp : p = i
              · rw [hp]; exact if_pos rfl
              · exact if_neg hp
            · exact setA_n _ _ h)
          obtain ⟨b, hb, eb⟩ := h6 j (by omega)
          by_cases hw : Rw_markAt A (nI i) ≤ Rw_markAt A (nI j)
          · obtain ⟨a', M', k1, k2, k3, k4⟩ := ih m i (j + 1) a R c c' M1 (by omega) (by omega) (by omega) h4 h5 h6 h7 h8 h9 h10
            refine ⟨a', M', k1, fun k => ?_, fun k => ?_, k4⟩
            · unfold Rw_longestRun_L27
              rw [if_neg hn, if_pos (show Rw_markAt (setL A 9 R) (nI i) ≤ Rw_markAt (setL A 9 R) (nI j) from hw), nI_1, k2]
            · unfold Md_longestOrdered_L29
              rw [if_neg hn, m_markAt h8.w (by omega), bs, m_markAt h8.w (by omega), bs, if_pos hw, if_pos hi24, if_pos hi24, q_cl (by omega), same, nI_1, k3]
          · by_cases hab : b ≤ a
            · obtain ⟨a', M', k1, k2, k3, k4⟩ := ih m i (j + 1) a R c c' M1 (by omega) (by omega) (by omega) h4 h5 h6 h7 h8 h9 h10
              refine ⟨a', M', k1, fun k => ?_, fun k => ?_, k4⟩
              · unfold Rw_longestRun_L27
                rw [if_neg hn, if_neg (show ¬ Rw_markAt (setL A 9 R) (nI i) ≤ Rw_markAt (setL A 9 R) (nI j) from hw), setL_s, lg_in (by omega) (by omega), eb, if_neg (nI_nlt hab (by omega)), lu, nI_1, k2]
              · unfold Md_longestOrdered_L29
                rw [if_neg hn, m_markAt h8.w (by omega), bs, m_markAt h8.w (by omega), bs, if_neg hw]
                simp only [if_pos hj24, if_pos hi24]
                rw [q_cl (by omega), q_cl (by omega), h9 j (by omega), eb, h10, if_pos (nI_lt (by omega) (by omega)), ← h10, same, nI_1, k3]
            · have hM2 : ∀ M2 : MdM, M2 = setA M1 8 (upd (M1.2 8) i (nI (b + 1))) → RI H A (M2.2 ρ) ∧ (∀ p, p < i → M2.2 8 p = R.getD p 0) ∧ M2.2 8 i = nI (b + 1) := by
                intro M2 e
                subst e
                refine ⟨by rw [setA_n _ _ hρ]; exact h8, fun p hp => ?_, ?_⟩
                · rw [setA_s, ← h9 p hp]; exact if_neg (by omega)
                · rw [setA_s]; exact if_pos rfl
              obtain ⟨q1, q2, q3⟩ := hM2 _ rfl
              obtain ⟨a', M', k1, k2, k3, k4, k5, k6, k7⟩ := ih m i (j + 1) b R c c' _ (by omega) (by omega) (by omega) h4 h5 h6 (by omega) q1 q2 q3
              refine ⟨a', M', k1, fun k => ?_, fun k => ?_, k4.trans rfl, fun q hq => (k5 q hq).trans (setA_n _ _ hq), k6, k7⟩
              · unfold Rw_longestRun_L27
                rw [if_neg hn, if_neg (show ¬ Rw_markAt (setL A 9 R) (nI i) ≤ Rw_markAt (setL A 9 R) (nI j) from hw), setL_s, lg_in (by omega) (by omega), eb, if_pos (nI_lt (by omega) (by omega)), lu, nI_1, k2]
              · unfold Md_longestOrdered_L29
                rw [if_neg hn, m_markAt h8.w (by omega), bs, m_markAt h8.w (by omega), bs, if_neg hw]
                simp only [if_pos hj24, if_pos hi24]
                rw [q_cl (by omega), q_cl (by omega), h9 j (by omega), eb, h10, if_neg (nI_nlt (by omega) (by omega)), nI_1, nI_1, k3]
  have outer : ∀ (n i c : Nat) (R : List Int32) (M1 : MdM), (A.2 7).length - i < n → i ≤ (A.2 7).length → c ≤ i → R.length = i → (∀ p, p < i → ∃ b, b ≤ p + 1 ∧ R.getD p 0 = nI b) → M1.2 ρ = M.2 ρ → Sm ρ (setF M 9 0) M1 → (∀ p, p < i → M1.2 8 p = R.getD p 0) →
      ∃ v R' M', Rw_longestRun_L11 n (setL A 9 R) (nI c) (nI i) = some (v, setL A 9 R') ∧ Md_longestOrdered_L9 ρ n M1 (nI c) (nI i) = some (v, M') ∧ Sm ρ (setF M 9 0) M' ∧ M'.2 ρ = M.2 ρ := by
    intro n
    induction n with
    | zero => intro i c R M1 h1; omega
    | succ n ih =>
      intro i c R M1 h1 h2 h3 h4 h5 h6 h7 h8
      have hR : RI H A (M1.2 ρ) := by rw [h6]; exact h
      unfold Rw_longestRun_L11 Md_longestOrdered_L9
      rw [tn6, hR.rel.nl, show (setL A 9 R).2 7 = A.2 7 from rfl]
      by_cases hi : (A.2 7).length ≤ i
      · rw [if_pos ((q_le (by omega) (by omega)).mpr hi), if_pos ((q_le (by omega) (by omega)).mpr hi)]
        exact ⟨nI c, R, M1, rfl, rfl, h7, h6⟩
      · have hn : ¬ nI (A.2 7).length ≤ nI i := fun q => hi ((q_le (by omega) (by omega)).mp q)
        have hi24 : inB (nI i) 24 := q_in (by omega) (by omega)
        rw [if_neg hn, if_neg hn, if_pos hi24, q_cl (by omega)]
        have g1 : RI H A ((setA M1 8 (upd (M1.2 8) i 1)).2 ρ) := by rw [setA_n _ _ hρ]; exact hR
        have g2 : ∀ p, p < i → (setA M1 8 (upd (M1.2 8) i 1)).2 8 p = R.getD p 0 := fun p hp => by
          rw [setA_s, ← h8 p hp]; exact if_neg (by omega)
        have g3 : (setA M1 8 (upd (M1.2 8) i 1)).2 8 i = nI (0 + 1) := by rw [setA_s]; exact if_pos rfl
        obtain ⟨a', M', k1, k2, k3, k4, k5, k6, k7⟩ := inner FU FU i 0 0 R (nI c) (nI c) _ (FU_gt (by omega)) (FU_gt (by omega)) (Nat.zero_le _) (by omega) h4 h5 (Nat.zero_le _) g1 g2 g3
        rw [show nI 0 = (0 : Int32) from rfl] at k2 k3
        rw [k2, k3, if_pos hi24, if_pos hi24, q_cl (by omega), k7, lu, lu, setL_s, setL_L, la_in _ (by omega), nI_1, nI_1]
        have m1 : M'.2 ρ = M.2 ρ := (k5 ρ hρ).trans ((setA_n _ _ hρ).trans h6)
        have m2 : Sm ρ (setF M 9 0) M' := h7.tr ⟨fun k _ _ => by rw [k4]; rfl, fun j _ _ b => by rw [k5 j b]; exact setA_n _ _ b⟩
        have m3 : (R ++ [nI (a' + 1)]).length = i + 1 := by rw [List.length_append, List.length_singleton, h4]
        have m4 : ∀ p, p < i + 1 → ∃ b, b ≤ p + 1 ∧ (R ++ [nI (a' + 1)]).getD p 0 = nI b := fun p hp => by
          rw [gd_app1 p (by omega)]
          by_cases hq : p = R.length
          · rw [if_pos hq]; exact ⟨a' + 1, by omega, rfl⟩
          · rw [if_neg hq]; exact h5 p (by omega)
        have m5 : ∀ p, p < i + 1 → M'.2 8 p = (R ++ [nI (a' + 1)]).getD p 0 := fun p hp => by
          rw [gd_app1 p (by omega)]
          by_cases hq : p = R.length
          · rw [if_pos hq, hq, h4]; exact k7
          · rw [if_neg hq]; exact k6 p (by omega)
        by_cases hc : a' + 1 ≤ c
        · rw [if_neg (nI_nlt hc (by omega)), if_pos ((q_le (by omega) (by omega)).mpr hc)]
          exact ih (i + 1) c _ M' (by omega) (by omega) (by omega) m3 m4 m1 m2 m5
        · rw [if_pos (nI_lt (by omega) (by omega)), if_neg (fun q => hc ((q_le (by omega) (by omega)).mp q))]
          exact ih (i + 1) (a' + 1) _ M' (by omega) (by omega) (by omega) m3 m4 m1 m2 m5
  exact outer FU 0 0 [] (setF M 9 0) (FU_gt (by omega)) (Nat.zero_le _) (Nat.le_refl _) rfl (fun p hp => absurd hp (Nat.not_lt_zero p)) rfl (Sm.rf _ _) (fun p hp => absurd hp (Nat.not_lt_zero p))
end RO
