section WR
variable {W : WM} {M : MdM}
theorem WRel.cnt (h : WRel W M) (v : Int32) : WRel (SA_counted W v).2 (En M v) := by
  obtain ⟨b1, b2, b3, b4, b5, b6, b7⟩ := h
  exact ⟨b1, las_En b2 rfl rfl, b3, b4, b5, b6, b7⟩
def HisA (W : WM) (M : MdM) (a c : Nat) : Prop := a < 9 ∧ c ≤ 8 ∧ W.2.2.1 7 = nI a ∧ W.2.2.1 8 = nI c ∧ M.1 8 = nI c ∧ ∀ k, k < c → Top (W.1 ((a + k) % 9)) (fun j => M.2 5 (257 * k + j))
theorem WRel.slot (h : WRel W M) {a c : Nat} (ha : HisA W M a c) (B : StM) : WRel (setS W ((a + c) % 9) B) M ∧ HisA (setS W ((a + c) % 9) B) M a c := by
  have hm := Nat.mod_lt (a + c) (show 9 > 0 by decide)
  obtain ⟨b1, b2, -, b4, b5, b6, b7⟩ := h
  obtain ⟨c1, c2, c3, c4, c5, c6⟩ := ha
  have hA : HisA (setS W ((a + c) % 9) B) M a c := ⟨c1, c2, c3, c4, c5, fun k hk => by
    rw [setS_n _ _ (by omega)]
    exact c6 k hk⟩
  exact ⟨⟨by rw [setS_n _ _ (by omega)]; exact b1, b2, ⟨a, c, hA⟩, by unfold SnaR; rw [setS_n _ _ (by omega)]; exact b4, b5, b6, b7⟩, hA⟩
theorem m_record (h : M.1 8 = nI 8 ∨ ∃ c, c < 8 ∧ M.1 8 = nI c) : (M.1 8 = nI 8 ∧ ∃ M', Md_record 0 M = some M' ∧ M'.1 = (setF (setF M 8 (nI 7)) 8 (nI 8)).1 ∧ (∀ j, j ≠ 5 → M'.2 j = M.2 j) ∧ (∀ k j, k < 7 → j < 257 → M'.2 5 (257 * k + j) = M.2 5 (257 * (k + 1) + j)) ∧ ∀ j, j < 257 → M'.2 5 (257 * 7 + j) = M.2 3 j) ∨
    ∃ c, c < 8 ∧ M.1 8 = nI c ∧ ∃ M', Md_record 0 M = some M' ∧ M'.1 = (setF M 8 (nI (c + 1))).1 ∧ (∀ j, j ≠ 5 → M'.2 j = M.2 j) ∧ (∀ k j, k < c → j < 257 → M'.2 5 (257 * k + j) = M.2 5 (257 * k + j)) ∧ ∀ j, j < 257 → M'.2 5 (257 * c + j) = M.2 3 j := by
  unfold Md_record
  rcases h with h | ⟨c, hc, h⟩
  · left
    refine ⟨h, ?_⟩
    rw [if_pos (show M.1 8 = 8 by rw [h]; rfl)]
    exact rec_L (M.2 5) FU 1 M (by omega) (by omega) (FU_gt (by omega)) h (fun q => by rw [if_neg (by omega)])
  · right
    refine ⟨c, hc, h, ?_⟩
    rw [if_neg (show ¬ M.1 8 = 8 by rw [h]; exact fun q => absurd ((q_eq (b := 8) (by omega) (by omega)).mp q) (by omega)), h, show Md_copy M 3 0 5 (nI c) = _ from m_copy (a := 0) (b := c) (i := 3) (j := 5) (by decide) (by show _ ≤ 2056; omega) (by decide) (by omega), bs]
    refine ⟨_, rfl, ?_, fun j hj => (setA_n M _ hj), fun k j hk hj => ?_, fun j hj => ?_⟩
    · show (setF M 8 (M.1 8 + 1)).1 = _
      rw [h, nI_1]
    · show (setA M 5 _).2 5 _ = _
      rw [setA_s]
      exact if_neg (by omega)
    · show (setA M 5 _).2 5 _ = _
      rw [setA_s]
      refine (if_pos ⟨by omega, by omega⟩).trans ?_
      show M.2 3 (257 * 0 + (257 * c + j - 257 * c)) = _
      rw [show 257 * 0 + (257 * c + j - 257 * c) = j by omega]
theorem WRel.rec (h : WRel W M) {a c : Nat} (ha : HisA W M a c) (hkp : Top (W.1 ((a + c) % 9)) (M.2 3)) : ∃ k v M3, (k = 7 ∨ k = 8) ∧ Hi_keep W = some (setWI W k v) ∧ Md_record 0 M = some M3 ∧ WRel (setWI W k v) M3 ∧ M3.1 9 = M.1 9 := by
  obtain ⟨b1, b2, -, b4, b5, b6, b7⟩ := h
  obtain ⟨c1, c2, c3, c4, c5, c6⟩ := ha
  have fin : ∀ (k : Nat) (v : Int32) (M3 : MdM), (k = 7 ∨ k = 8) → (∀ j, j ≠ 5 → M3.2 j = M.2 j) → (∀ j, j ≠ 8 → M3.1 j = M.1 j) → HisR (setWI W k v) M3 → WRel (setWI W k v) M3 ∧ M3.1 9 = M.1 9 := by
    intro k v M3 hkk e1 e2 e3
    have hi : ∀ j, j ≠ 7 → j ≠ 8 → (setWI W k v).2.2.1 j = W.2.2.1 j := fun j a b => if_neg (by omega)
    refine ⟨⟨by rw [e1 0 (by decide)]; exact b1, ?_, e3, ?_, ?_, ?_, ?_⟩, e2 9 (by decide)⟩
    · unfold LasR; rw [e1 6 (by decide)]; exact b2
    · unfold SnaR; rw [e1 4 (by decide), e2 10 (by decide), hi 9 (by decide) (by decide)]; exact b4
    · unfold BufR; rw [e1 10 (by decide), e2 18 (by decide)]; exact b5
    · unfold FmtR; rw [e1 9 (by decide), e2 16 (by decide)]; exact b6
    · rw [e2 25 (by decide), hi 10 (by decide) (by decide)]; exact b7
  unfold Hi_keep
  rw [c4]
  by_cases h8 : c = 8
  · subst h8
    rcases m_record (M := M) (Or.inl c5) with ⟨-, M3, e1, e2, e3, e4, e5⟩ | ⟨c', hc', e0, -⟩
    · rw [if_pos (by decide), c3, nI_1, show (9 : Int32) = nI 9 from rfl, pk_rem (by omega) (by omega) (by omega)]
      refine ⟨7, _, M3, Or.inl rfl, rfl, e1, fin _ _ _ (Or.inl rfl) e3 (fun j hj => by rw [e2, setF_n _ _ hj, setF_n _ _ hj]) ?_⟩
      refine ⟨(a + 1) % 9, 8, Nat.mod_lt _ (by decide), Nat.le_refl _, wi_s _ _ _, c4, by rw [e2, setF_s], fun k hk => ?_⟩
      show Top (W.1 (((a + 1) % 9 + k) % 9)) _
      by_cases h7 : k < 7
      · rw [show ((a + 1) % 9 + k) % 9 = (a + (k + 1)) % 9 by omega]
        exact (c6 (k + 1) (by omega)).ext (fun j hj => e4 k j h7 hj)
      · obtain rfl : k = 7 := by omega
        rw [show ((a + 1) % 9 + 7) % 9 = (a + 8) % 9 by omega]
        exact hkp.ext e5
    · rw [c5] at e0
      exact absurd ((q_eq (by omega) (by omega)).mp e0) (by omega)
  · rcases m_record (M := M) (Or.inr ⟨c, by omega, c5⟩) with ⟨e0, -⟩ | ⟨c', hc', e0, M3, e1, e2, e3, e4, e5⟩
    · rw [c5] at e0
      exact absurd ((q_eq (by omega) (by omega)).mp e0) (by omega)
    · obtain rfl : c = c' := by
        rw [c5] at e0
        exact (q_eq (by omega) (by omega)).mp e0
      rw [if_neg (show ¬ (8 : Int32) ≤ nI c from fun q => absurd ((q_le (a := 8) (by omega) (by omega)).mp q) (by omega)), nI_1]
      refine ⟨8, _, M3, Or.inr rfl, rfl, e1, fin _ _ _ (Or.inr rfl) e3 (fun j hj => by rw [e2, setF_n _ _ hj]) ?_⟩
      refine ⟨a, c + 1, c1, by omega, c3, wi_s _ _ _, by rw [e2, setF_s], fun k hk2 => ?_⟩
      show Top (W.1 ((a + k) % 9)) _
      by_cases h7 : k < c
      · exact (c6 k h7).ext (fun j hj => e4 k j h7 hj)
      · obtain rfl : k = c := by omega
        exact hkp.ext e5
/-- an operation of the face: prepared, done, recorded -/
theorem WRel.opR (h : WRel W M) {M0 : MdM} (e0 : M0 = setA M 3 (va_cpy (M.2 0) (M.2 3) (257 * 0) (257 * 0) 257)) {x : Option (Int32 × StM)} {y : Option (Int32 × MdM)} (hop : OpR ((W.1 9).1 2) 0 (W.1 9) M0 x y) :
    ∃ v W1 A' W' M1 M', Hi_prepare W = some W1 ∧ W1.1 9 = W.1 9 ∧ x = some (v, A') ∧ SA_settled (setS W1 9 A') v = some (v, W') ∧ y = some (v, En M1 v) ∧ Md_recorded 0 (En M1 v) v = some (v, M') ∧ WRel W' M' ∧ M'.1 9 = M.1 9 := by
  obtain ⟨v, A', M1, ex, ey, hs, hR, h2, hd⟩ := hop
  obtain ⟨d, hd1, hd2⟩ := h.1.2
  obtain ⟨a, c, hH⟩ := h.2.2.1
  have hH' : HisA W M a c := hH
  have hm := Nat.mod_lt (a + c) (show 9 > 0 by decide)
  obtain ⟨hW1, hH1⟩ := h.slot hH' (St_copyFrom (W.1 9) (W.1 ((a + c) % 9)))
  generalize hB : St_copyFrom (W.1 9) (W.1 ((a + c) % 9)) = B at hW1 hH1
  have e9 : (setS W ((a + c) % 9) B).1 9 = W.1 9 := setS_n _ _ (by omega)
  have ht : Top A' (M1.2 0) := by
    refine ⟨by rw [h2]; exact hR, ?_⟩
    rcases hd with hd | ⟨q, hq, hd, hle⟩
    · exact ⟨d, hd1, by rw [hd, hd2]⟩
    · rw [hd2, nI_add] at hd hle
      exact ⟨d + q, (q_le (b := 999) (by omega) (by omega)).mp hle, hd⟩
  have i1 : ∀ k, k ≠ 9 → k ≠ 11 → k ≠ 12 → M1.1 k = M.1 k := fun k p q r => by rw [hs.1 k q r, e0]; rfl
  have i9 : (En M1 v).1 9 = M.1 9 := (hs.1 9 (by decide) (by decide)).trans (by rw [e0]; rfl)
  have i2 : ∀ j, j ≠ 0 → j ≠ 2 → j ≠ 3 → j ≠ 7 → j ≠ 8 → M1.2 j = M.2 j := fun j p _ q r s => by rw [hs.2 j p r s, e0, setA_n _ _ q]
  have hW2 : WRel (setS (setS W ((a + c) % 9) B) 9 A') M1 := hW1.step ht i1 i2
  have hH2 : HisA (setS (setS W ((a + c) % 9) B) 9 A') M1 a c := by
    obtain ⟨c1, c2, c3, c4, c5, c6⟩ := hH1
    refine ⟨c1, c2, c3, c4, (i1 8 (by decide) (by decide) (by decide)).trans c5, fun k hk => ?_⟩
    rw [setS_n _ _ (by have := Nat.mod_lt (a + k) (show 9 > 0 by decide); omega), i2 5 (by decide) (by decide) (by decide) (by decide) (by decide)]
    exact c6 k hk
  have hW3 := hW2.cnt v
  refine ⟨v, setS W ((a + c) % 9) B, A', ?_⟩
  by_cases hv : v < 0
  · refine ⟨_, M1, En M1 v, by rw [← hB]; exact prep_n hH'.1 hH'.2.1 hH'.2.2.1 hH'.2.2.2.1, e9, ex, ?_, ey, ?_, hW3, i9⟩
    · unfold SA_settled
      rw [if_pos hv, lu]
      rfl
    · unfold Md_recorded
      rw [if_pos hv]
  · have hk : Top ((SA_counted (setS (setS W ((a + c) % 9) B) 9 A') v).2.1 ((a + c) % 9)) ((En M1 v).2 3) := by
      show Top ((setS (setS W ((a + c) % 9) B) 9 A').1 ((a + c) % 9)) ((setA M1 6 _).2 3)
      rw [setS_n _ _ (by omega), setS_s, setA_n _ _ (by decide), hs.2 3 (by decide) (by decide) (by decide), e0, setA_s, ← hB]
      exact (h.1.copy _).ext (fun j hj => cpy0 _ _ j hj)
    have hH3 : HisA (SA_counted (setS (setS W ((a + c) % 9) B) 9 A') v).2 (En M1 v) a c := hH2
    obtain ⟨k, w, M3, hk7, g1, g2, g3, g4⟩ := hW3.rec hH3 hk
    refine ⟨_, M1, M3, by rw [← hB]; exact prep_n hH'.1 hH'.2.1 hH'.2.2.1 hH'.2.2.2.1, e9, ex, ?_, ey, ?_, g3, g4.trans i9⟩
    · unfold SA_settled
      rw [if_neg hv]
      have g1' : Hi_keep (setS (setS W ((a + c) % 9) B) 9 A') = some (setWI (setS (setS W ((a + c) % 9) B) 9 A') k w) := by
        unfold Hi_keep at g1 ⊢
        have q7 : (SA_counted (setS (setS W ((a + c) % 9) B) 9 A') v).2.2.2.1 = (setS (setS W ((a + c) % 9) B) 9 A').2.2.1 := rfl
        rw [q7] at g1
        by_cases c8 : 8 ≤ (setS (setS W ((a + c) % 9) B) 9 A').2.2.1 8
        · rw [if_pos c8] at g1 ⊢
          have g := congrArg (fun z : WM => z.2.2.1) (Option.some.inj g1)
          exact congrArg some (Prod.ext rfl (Prod.ext rfl (Prod.ext g rfl)))
        · rw [if_neg c8] at g1 ⊢
          have g := congrArg (fun z : WM => z.2.2.1) (Option.some.inj g1)
          exact congrArg some (Prod.ext rfl (Prod.ext rfl (Prod.ext g rfl)))
      rw [g1', bs, lu]
      rfl
    · unfold Md_recorded
      rw [if_neg hv, g2, bs]
end WR
