/-! the beginning -/
def K0 (A : StM) (M : MdM) (xs : List Int32) : Prop := RI (nI 2) A (M.2 0) ∧ Zr (M.2 0) xs.length ∧ A.2 0 = xs ∧ A.1 0 = 0 ∧ A.1 2 = nI 2 ∧ M.1 = M00.1 ∧ ∀ j, j ≠ 0 → M.2 j = M00.2 j
theorem K0.add {A : StM} {M : MdM} {xs : List Int32} (h : K0 A M xs) (m e : Nat) (hm : m ≤ 9999) (hn : nI m ∉ xs) (hl : xs.length < 24) : ∃ M', Md_addFolder 0 M (nI m) (nI e) = some M' ∧ K0 (St_addFolder A (nI m) (nI e)) M' (xs ++ [nI m]) := by
  obtain ⟨h1, h2, h3, h4, h5, h6, h7⟩ := h
  obtain ⟨M', g1, g2, g3, g4, g5, g6, g7⟩ := s_addFolder h1 (by rw [h3]; exact h2) (by rw [h3]; exact hl) (m := m) (e := e) hm (by rw [h3]; exact hn)
  refine ⟨M', g1, g4, ?_, by rw [g6, h3], by rw [g5, h4], by rw [g5, h5], g2.trans h6, fun j hj => (g3 j hj).trans (h7 j hj)⟩
  rw [List.length_append, List.length_singleton, ← h3]
  exact g7
theorem s_init : ∃ W0 M0, SA_init = some W0 ∧ Md_init = some M0 ∧ WRel W0 M0 ∧ M0.1 9 = 0 := by
  obtain ⟨A0, a1, a2, a3, a4, a5, a6⟩ := s_begin (W00.1 9) (M00.2 0) (p := 3) (h := 2) (r := 2) (l := 2) (by omega) (by omega)
  have k0 : K0 A0 (setA M00 0 (gB (M00.2 0) (nI 3) (nI 2) (nI 2) (nI 2))) [] := ⟨by rw [setA_s]; exact a2, by rw [setA_s]; exact a6, a5, a3, a4, rfl, fun j hj => setA_n _ _ hj⟩
  obtain ⟨M1, b1, k1⟩ := k0.add 10 0 (by omega) (by decide) (by decide)
  obtain ⟨M2, b2, k2⟩ := k1.add 20 0 (by omega) (by decide) (by decide)
  obtain ⟨M3, b3, k3⟩ := k2.add 30 4 (by omega) (by decide) (by decide)
  obtain ⟨M4, b4, k4⟩ := k3.add 50 0 (by omega) (by decide) (by decide)
  obtain ⟨M5, b5, h1, h2, h3, h4, h5, h6, h7⟩ := k4.add 40 0 (by omega) (by decide) (by decide)
  have hM : Md_init = some M5 := by
    unfold Md_init
    rw [show Md_begin 0 M00 3 2 2 2 = _ from m_begin (nI 3) (nI 2) (nI 2) (nI 2), bs]
    rw [show Md_addFolder 0 _ 10 0 = _ from b1, bs, show Md_addFolder 0 M1 20 0 = _ from b2, bs, show Md_addFolder 0 M2 30 4 = _ from b3, bs, show Md_addFolder 0 M3 50 0 = _ from b4, bs, show Md_addFolder 0 M4 40 0 = _ from b5, bs]
  have a1' : St_begin (W00.1 9) 3 2 2 2 = some A0 := a1
  unfold SA_init
  rw [if_pos (by decide), a1', bs]
  simp only [lu]
  refine ⟨_, M5, rfl, hM, ⟨?_, ⟨rfl, fun k hk => ?_⟩, ⟨0, 0, by decide, by decide, rfl, rfl, ?_, fun k hk => absurd hk (Nat.not_lt_zero k)⟩, ⟨?_, Or.inl ?_⟩, ⟨Nat.zero_le _, ?_, fun i hi => absurd hi (Nat.not_lt_zero i)⟩, ⟨Nat.zero_le _, ?_, fun i hi => absurd hi (Nat.not_lt_zero i)⟩, ?_⟩, ?_⟩
  · rw [setS_s]
    refine ⟨?_, 0, by decide, h4⟩
    have e2 : (St_addFolder (St_addFolder (St_addFolder (St_addFolder (St_addFolder A0 10 0) 20 0) 30 4) 50 0) 40 0).1 2 = nI 2 := h5
    rw [e2]
    exact h1
  · rw [h7 6 (by decide)]
    show (0 : Int32) = (lnfill 3 3).getD k 0
    rcases (show k = 0 ∨ k = 1 ∨ k = 2 by omega) with rfl | rfl | rfl <;> rfl
  · rw [h6]; rfl
  · rw [h6]; rfl
  · rw [h6]; rfl
  · rw [h6]; rfl
  · rw [h6]; rfl
  · rw [h6]; rfl
  · rw [h6]; rfl
