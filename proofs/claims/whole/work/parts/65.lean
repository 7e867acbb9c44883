/-! the folder farthest from its place in order -/
def dO (A : StM) (p : Nat) : Nat := ((Rw_placeInOrder A (Rw_markAt A (nI p))).getD 0).toNatClampNeg
def dD (A : StM) (p : Nat) : Nat := if dO A p ≤ p then p - dO A p else dO A p - p
theorem abs1 {a b : Nat} (ha : a < 1000) (hb : b < 1000) : (if (0 : Int32) ≤ nI a - nI b then nI a - nI b else 0 - (nI a - nI b)) = nI (if b ≤ a then a - b else b - a) ∧ (if (0 : Int32) ≤ nI a - nI b then some (nI a - nI b) else some (-(nI a - nI b))) = some (nI (if b ≤ a then a - b else b - a)) := by
  by_cases h : b ≤ a
  · rw [pk_sub h, if_pos (nI_pos' (by omega)), if_pos (nI_pos' (by omega)), if_pos h]
    exact ⟨rfl, rfl⟩
  · have hn : ¬ (0 : Int32) ≤ nI a - nI b := Int32.not_le.mpr (pk_sneg (by omega) (by omega))
    have e1 : (0 : Int32) - (nI a - nI b) = nI b - nI a := by grind
    have e2 : -(nI a - nI b) = nI b - nI a := by grind
    rw [if_neg hn, if_neg hn, if_neg h, e1, e2, pk_sub (by omega)]
    exact ⟨rfl, rfl⟩
section MM
variable {H : Int32} {A : StM} {M : MdM}
theorem dO_spec (h : RI H A (M.2 0)) {p k : Nat} (hp : p < (A.2 7).length) (ek : (A.2 7).getD p 0 = nI k) (hk : k < (A.2 0).length) : Rw_placeInOrder A (Rw_markAt A (nI p)) = some (nI (dO A p)) ∧ Md_orderPlace 0 M (nI k) = some (nI (dO A p)) ∧ dO A p ≤ 24 := by
  have zl := h.sz.l
  have zf := h.sz.fo
  obtain ⟨k', c1, c2, c3⟩ := markAt_k h.w hp
  have : k = k' := (q_eq (by omega) (by omega)).mp (ek.symm.trans c2)
  subst this
  obtain ⟨v, hv, e1, e2⟩ := s_orderPlace h hk p (fun _ => c3)
  have : dO A p = v := by
    unfold dO
    rw [c3, e1]
    exact q_cl (by omega)
  rw [this, c3]
  exact ⟨e1, e2, by omega⟩
theorem m_misplacement (h : RI H A (M.2 0)) {p k : Nat} (hp : p < (A.2 7).length) (ek : (A.2 7).getD p 0 = nI k) (hk : k < (A.2 0).length) : Md_misplacement 0 M (nI k) = some (nI (dD A p)) := by
  have zl := h.sz.l
  obtain ⟨-, e2, e3⟩ := dO_spec h hp ek hk
  obtain ⟨q, q1, q2, -, q4⟩ := m_placeOf h (x := nI k) (by rw [← ek]; exact gd_mem hp)
  have : q = p := nd_inj h.fd.1 q1 hp (q2.trans ek.symm)
  subst this
  unfold Md_misplacement
  rw [q4, bs, e2, bs, lu]
  exact (abs1 (by omega) (by omega)).2
/-- the best of the folders passed in the row's order, in the folders' order -/
def BR (A : StM) (i : Nat) (far : Nat) (ans : Int32) : Prop := (far = 0 ∧ ans = -1 ∧ ∀ q, q < i → dD A q = 0) ∨ ∃ q0 k0, q0 < i ∧ (A.2 7).getD q0 0 = nI k0 ∧ k0 < 24 ∧ ans = nI k0 ∧ dD A q0 = far ∧ 0 < far ∧ (∀ q, q < i → dD A q ≤ far) ∧ ∀ q k, q < i → (A.2 7).getD q 0 = nI k → k < 24 → dD A q = far → k0 ≤ k
theorem s_far (h : RI H A (M.2 0)) : ∃ v far, Rw_farthestFromOrder A = some v ∧ BR A (A.2 7).length far v ∧ far ≤ 24 := by
  have zl := h.sz.l
  have zf := h.sz.fo
  have go : ∀ (n i far : Nat) (ans : Int32), (A.2 7).length - i < n → i ≤ (A.2 7).length → far ≤ 24 → BR A i far ans → ∃ v far', Rw_farthestFromOrder_L6 A n (nI far) ans (nI i) = some v ∧ BR A (A.2 7).length far' v ∧ far' ≤ 24 := by
    intro n
    induction n with
    | zero => intro i far ans h1; omega
    | succ n ih =>
      intro i far ans h1 h2 h3 h4
      unfold Rw_farthestFromOrder_L6
      by_cases hi : (A.2 7).length ≤ i
      · rw [if_pos ((q_le (by omega) (by omega)).mpr hi)]
        obtain rfl : i = (A.2 7).length := by omega
        exact ⟨ans, far, rfl, h4, h3⟩
      · have hi' : i < (A.2 7).length := by omega
        obtain ⟨k, hk, ek, -⟩ := h.rowk hi'
        obtain ⟨e1, -, e3⟩ := dO_spec h hi' ek hk
        have ed : (if (0 : Int32) ≤ nI i - nI (dO A i) then nI i - nI (dO A i) else 0 - (nI i - nI (dO A i))) = nI (dD A i) := (abs1 (by omega) (by omega)).1
        have hdl : dD A i ≤ 24 := by unfold dD; split <;> omega
        rw [if_neg (fun q => hi ((q_le (by omega) (by omega)).mp q)), lg_in hi' (by omega), ek, lu, e1, bs, lu, ed, nI_1]
        have keep : dD A i ≤ far → (dD A i = far → far = 0 ∨ ∃ k0, ans = nI k0 ∧ k0 < 24 ∧ k0 ≤ k) → BR A (i + 1) far ans := by
          intro g1 g2
          rcases h4 with ⟨a1, a2, a3⟩ | ⟨q0, k0, b1, b2, b2', b3, b4, b5, b6, b7⟩
          · refine Or.inl ⟨a1, a2, fun q hq => ?_⟩
            by_cases c : q = i
            · rw [c]; omega
            · exact a3 q (by omega)
          · refine Or.inr ⟨q0, k0, by omega, b2, b2', b3, b4, b5, fun q hq => ?_, fun q k' hq e hk' e' => ?_⟩
            · by_cases c : q = i
              · rw [c]; exact g1
              · exact b6 q (by omega)
            · by_cases c : q = i
              · subst c
                have : k = k' := (q_eq (by omega) (by omega)).mp (ek.symm.trans e)
                subst this
                rcases g2 e' with g | ⟨k1, g3, g4, g5⟩
                · omega
                · have : k0 = k1 := (q_eq (by omega) (by omega)).mp (b3.symm.trans g3)
                  omega
              · exact b7 q k' (by omega) e hk' e'
        by_cases g1 : far < dD A i
        · rw [if_pos (nI_lt g1 (by omega))]
          refine ih (i + 1) (dD A i) (nI k) (by omega) (by omega) hdl (Or.inr ⟨i, k, by omega, ek, by omega, rfl, rfl, by omega, fun q hq => ?_, fun q k' hq e hk' e' => ?_⟩)
          · by_cases c : q = i
            · rw [c]; exact Nat.le_refl _
            · rcases h4 with ⟨a1, a2, a3⟩ | ⟨q0, k0, b1, b2, b2', b3, b4, b5, b6, b7⟩
              · have := a3 q (by omega); omega
              · have := b6 q (by omega); omega
          · by_cases c : q = i
            · subst c
              have : k = k' := (q_eq (by omega) (by omega)).mp (ek.symm.trans e)
              omega
            · rcases h4 with ⟨a1, a2, a3⟩ | ⟨q0, k0, b1, b2, b2', b3, b4, b5, b6, b7⟩
              · have := a3 q (by omega); omega
              · have := b6 q (by omega); omega
        · rw [if_neg (nI_nlt (by omega) (by omega))]
          by_cases g2 : dD A i = 0
          · rw [if_pos (by rw [g2]; decide)]
            refine ih (i + 1) far ans (by omega) (by omega) h3 (keep (by omega) (fun e => Or.inl (by omega)))
          · rw [if_neg (nI_nle (by omega) (by omega))]
            by_cases g3 : dD A i = far
            · rw [if_pos (by rw [g3])]
              rcases h4 with ⟨a1, a2, a3⟩ | ⟨q0, k0, b1, b2, b2', b3, b4, b5, b6, b7⟩
              · omega
              · rw [b3]
                by_cases g4 : k0 ≤ k
                · rw [if_pos (nI_le g4 (by omega)), ← b3]
                  exact ih (i + 1) far ans (by omega) (by omega) h3 (keep (by omega) (fun _ => Or.inr ⟨k0, b3, b2', g4⟩))
                · rw [if_neg (nI_ge (by omega) (by omega)), g3]
                  refine ih (i + 1) far (nI k) (by omega) (by omega) h3 (Or.inr ⟨i, k, by omega, ek, by omega, rfl, g3, b5, fun q hq => ?_, fun q k' hq e hk' e' => ?_⟩)
                  · by_cases c : q = i
                    · rw [c]; omega
                    · exact b6 q (by omega)
                  · by_cases c : q = i
                    · subst c
                      have : k = k' := (q_eq (by omega) (by omega)).mp (ek.symm.trans e)
                      omega
                    · have := b7 q k' (by omega) e hk' e'
                      omega
            · rw [if_neg (fun q => g3 ((q_eq (by omega) (by omega)).mp q))]
              exact ih (i + 1) far ans (by omega) (by omega) h3 (keep (by omega) (fun e => absurd e g3))
  exact go FU 0 0 (-1) (FU_gt (by omega)) (Nat.zero_le _) (by omega) (Or.inl ⟨rfl, rfl, fun q hq => absurd hq (Nat.not_lt_zero q)⟩)
/-- what the reference has found among the folders below i -/
def MI (A : StM) (i m : Nat) (b : Int32) : Prop := (m = 0 ∧ b = -1 ∧ ∀ q k, k < i → q < (A.2 7).length → (A.2 7).getD q 0 = nI k → dD A q = 0) ∨ ∃ q0 k0, q0 < (A.2 7).length ∧ (A.2 7).getD q0 0 = nI k0 ∧ k0 < i ∧ b = nI k0 ∧ dD A q0 = m ∧ 0 < m ∧ (∀ q k, k < i → q < (A.2 7).length → (A.2 7).getD q 0 = nI k → dD A q ≤ m) ∧ ∀ q k, k < k0 → q < (A.2 7).length → (A.2 7).getD q 0 = nI k → dD A q < m
/-- .. by the folders' numbers -/
theorem s_most (h : RI H A (M.2 0)) {far : Nat} {v : Int32} (hb : BR A (A.2 7).length far v) (hf : far ≤ 24) : ∃ M', Md_mostMisplaced_L11 0 FU M (-1) 0 (nI 0) = some (v, M') ∧ M' = M := by
  have zl := h.sz.l
  have zf := h.sz.fo
  have z2 := h.sz.e2
  have fin : ∀ m b, MI A (A.2 0).length m b → b = v := by
    intro m b hI
    have kk : ∀ q, q < (A.2 7).length → ∃ k, k < (A.2 0).length ∧ (A.2 7).getD q 0 = nI k := fun q hq => by
      obtain ⟨k, a, b, -⟩ := h.rowk hq
      exact ⟨k, a, b⟩
    rcases hI with ⟨a1, a2, a3⟩ | ⟨q0, k0, b1, b2, b3, b4, b5, b6, b7, b8⟩
    · rcases hb with ⟨c1, c2, c3⟩ | ⟨q1, k1, d1, d2, d2', d3, d4, d5, d6, d7⟩
      · rw [a2, c2]
      · obtain ⟨k, e1, e2⟩ := kk q1 d1
        have := a3 q1 k e1 d1 e2
        omega
    · rcases hb with ⟨c1, c2, c3⟩ | ⟨q1, k1, d1, d2, d2', d3, d4, d5, d6, d7⟩
      · have := c3 q0 b1
        omega
      · obtain ⟨k, e1, e2⟩ := kk q1 d1
        have hk1 : k1 = k := (q_eq (by omega) (by omega)).mp (d2.symm.trans e2)
        have h1 := b7 q1 k e1 d1 e2
        have h2 := d6 q0 b1
        have hm : m = far := by omega
        have h3 := d7 q0 k0 b1 b2 (by omega) (by omega)
        have h4 : ¬ k1 < k0 := fun c => by
          have := b8 q1 k1 c d1 d2
          omega
        rw [b4, d3]
        congr 1
        omega
  have go : ∀ (n i m : Nat) (b : Int32), (A.2 0).length - i < n → i ≤ (A.2 0).length → m ≤ 24 → MI A i m b → Md_mostMisplaced_L11 0 n M b (nI m) (nI i) = some (v, M) := by
    intro n
    induction n with
    | zero => intro i m b h1; omega
    | succ n ih =>
      intro i m b h1 h2 h3 h4
      unfold Md_mostMisplaced_L11 Md_isIn
      rw [tn5, h.rel.nf]
      by_cases hi : (A.2 0).length ≤ i
      · rw [if_pos ((q_le (by omega) (by omega)).mpr hi)]
        obtain rfl : i = (A.2 0).length := by omega
        rw [fin m b h4]
      · have hi' : i < (A.2 0).length := by omega
        rw [if_neg (fun q => hi ((q_le (by omega) (by omega)).mp q)), of2 (by omega), bs, h.rel.st i (by omega), nI_1]
        by_cases hst : (A.2 2).getD i 0 = 0
        · obtain ⟨p, hp, ep⟩ := mem_gd.mp (h.fd.2.2.2.2.1 i hi' hst)
          have uq : ∀ q, q < (A.2 7).length → (A.2 7).getD q 0 = nI i → q = p := fun q hq e => nd_inj h.fd.1 hq hp (e.trans ep.symm)
          have hdl : dD A p ≤ 24 := by
            have := (dO_spec h hp ep hi').2.2
            unfold dD; split <;> omega
          rw [if_pos hst, bs, if_neg (by decide), m_misplacement h hp ep hi', bs]
          by_cases g : dD A p ≤ m
          · rw [if_pos (nI_le g (by omega))]
            refine ih (i + 1) m b (by omega) (by omega) h3 ?_
            rcases h4 with ⟨a1, a2, a3⟩ | ⟨q0, k0, b1, b2, b3, b4, b5, b6, b7, b8⟩
            · refine Or.inl ⟨a1, a2, fun q k hk hq e => ?_⟩
              by_cases c : k = i
              · subst c; rw [uq q hq e]; omega
              · exact a3 q k (by omega) hq e
            · refine Or.inr ⟨q0, k0, b1, b2, by omega, b4, b5, b6, fun q k hk hq e => ?_, b8⟩
              by_cases c : k = i
              · subst c; rw [uq q hq e]; exact g
              · exact b7 q k (by omega) hq e
          · rw [if_neg (nI_ge (by omega) (by omega))]
            refine ih (i + 1) (dD A p) (nI i) (by omega) (by omega) hdl (Or.inr ⟨p, i, hp, ep, by omega, rfl, rfl, by omega, fun q k hk hq e => ?_, fun q k hk hq e => ?_⟩)
            · by_cases c : k = i
              · subst c; rw [uq q hq e]; exact Nat.le_refl _
              · rcases h4 with ⟨a1, a2, a3⟩ | ⟨q0, k0, b1, b2, b3, b4, b5, b6, b7, b8⟩
                · have := a3 q k (by omega) hq e; omega
                · have := b7 q k (by omega) hq e; omega
            · rcases h4 with ⟨a1, a2, a3⟩ | ⟨q0, k0, b1, b2, b3, b4, b5, b6, b7, b8⟩
              · have := a3 q k (by omega) hq e; omega
              · have := b7 q k (by omega) hq e; omega
        · have no : ∀ q, q < (A.2 7).length → (A.2 7).getD q 0 = nI i → False := fun q hq e => by
            obtain ⟨k', c1, c2, c3⟩ := h.rowk hq
            have : i = k' := (q_eq (by omega) (by omega)).mp (e.symm.trans c2)
            subst this
            exact hst c3
          rw [if_neg hst, bs, if_pos rfl, if_pos (nI_pos' (by omega))]
          refine ih (i + 1) m b (by omega) (by omega) h3 ?_
          rcases h4 with ⟨a1, a2, a3⟩ | ⟨q0, k0, b1, b2, b3, b4, b5, b6, b7, b8⟩
          · refine Or.inl ⟨a1, a2, fun q k hk hq e => ?_⟩
            by_cases c : k = i
            · subst c; exact absurd (no q hq e) id
            · exact a3 q k (by omega) hq e
          · refine Or.inr ⟨q0, k0, b1, b2, by omega, b4, b5, b6, fun q k hk hq e => ?_, b8⟩
            by_cases c : k = i
            · subst c; exact absurd (no q hq e) id
            · exact b7 q k (by omega) hq e
  exact ⟨M, go FU 0 0 (-1) (FU_gt (by omega)) (Nat.zero_le _) (by omega) (Or.inl ⟨rfl, rfl, fun q k hk => absurd hk (Nat.not_lt_zero k)⟩), rfl⟩
theorem f_mostMisplaced {W : WM} {M : MdM} (h : WRel W M) : P2 W (SA_mostMisplaced W) (Md_mostMisplaced 0 M) := by
  obtain ⟨v, far, e1, e2, e3⟩ := s_far (h.t9 0)
  obtain ⟨M', e4, rfl⟩ := s_most (h.t9 0) e2 e3
  unfold SA_mostMisplaced Md_mostMisplaced
  rw [e1, bs]
  exact ⟨_, _, rfl, e4, h.thr 0⟩
end MM
