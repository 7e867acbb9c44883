/-! the face, call by call -/
def P1 (W : WM) (x : Int32) (y : Option (Int32 × MdM)) : Prop := ∃ M', y = some (x, M') ∧ WRel W M'
def P2 (W : WM) (x : Option Int32) (y : Option (Int32 × MdM)) : Prop := ∃ v M', x = some v ∧ y = some (v, M') ∧ WRel W M'
def P3 (x : Option (Int32 × WM)) (y : Option (Int32 × MdM)) : Prop := ∃ v W' M', x = some (v, W') ∧ y = some (v, M') ∧ WRel W' M'
def E2 (W : WM) (ci : Nat → Int32) (x : Option (Nat ⊕ Int32)) (y : Option (Int32 × MdM)) : Prop := (∃ k b M', x = some (.inl k) ∧ y = some (b, M') ∧ M'.1 9 = ci k ∧ WRel W M') ∨ ∃ v M', x = some (.inr v) ∧ y = some (v, M') ∧ M'.1 9 = 0 ∧ WRel W M'
def E3 (W : WM) (ci : Nat → Int32) (x : Option (Nat ⊕ (Int32 × WM))) (y : Option (Int32 × MdM)) : Prop := (∃ k b M', x = some (.inl k) ∧ y = some (b, M') ∧ M'.1 9 = ci k ∧ WRel W M') ∨ ∃ v W' M', x = some (.inr (v, W')) ∧ y = some (v, M') ∧ M'.1 9 = 0 ∧ WRel W' M'
/-- which number the law gives each exception: one of a kind alone; both -/
def ci1 : Nat → Int32 := fun k => 1
def ci2 : Nat → Int32 := fun k => if k = 0 then 2 else 1
theorem lacks0 (ρ : Nat) (M : MdM) : Md_lacks ρ M 0 = (1, setF M 9 1) := by
  unfold Md_lacks
  rw [if_pos rfl, if_pos rfl]
theorem lacks1 (ρ : Nat) (M : MdM) : Md_lacks ρ M 1 = (0, setF M 9 0) := by
  unfold Md_lacks
  rw [if_neg (by decide), if_neg (by decide)]
theorem i_ne {j c : Nat} (hj : j < 2 ^ 31) (hc : c < 2 ^ 31) (h : j ≠ c) : ¬ nI j = nI c := fun e => h ((nI_eq hj hc).mp e)
theorem n_ne {x : Int32} (h : x < 0) {c : Nat} (hc : c < 2 ^ 31) : ¬ x = nI c := fun e => nI_pos hc (e ▸ h)
theorem inr_lo {x a b : Int32} (h : x < a) : Md_inRange x a b = 0 := if_pos h
theorem inr_hi {x a b : Int32} (h : b < x) : Md_inRange x a b = 0 := by
  unfold Md_inRange
  by_cases c : x < a
  · rw [if_pos c]
  · rw [if_neg c, if_pos h]
theorem inr_in {x a b : Int32} (h1 : ¬ x < a) (h2 : ¬ b < x) : Md_inRange x a b = 1 := by
  unfold Md_inRange
  rw [if_neg h1, if_neg h2]
/-- a folder, a reader that there is, or not -/
theorem hasF {A : StM} (hl : (A.2 0).length < 1000) (x : Int32) : (St_hasFolder A x = 0 ∧ Md_inRange x 0 (nI (A.2 0).length - 1) = 0) ∨ ∃ k, k < (A.2 0).length ∧ x = nI k ∧ St_hasFolder A x = 1 ∧ Md_inRange x 0 (nI (A.2 0).length - 1) = 1 := by
  unfold St_hasFolder
  rw [inr_0 (by omega)]
  by_cases h0 : x < 0
  · rw [if_pos h0]; exact Or.inl ⟨rfl, rfl⟩
  · rw [if_neg h0]
    obtain ⟨j, hj, rfl⟩ := nI_of h0
    by_cases h1 : (A.2 0).length ≤ j
    · rw [if_pos (nI_le h1 hj)]; exact Or.inl ⟨rfl, rfl⟩
    · rw [if_neg (nI_ge (by omega) (by omega))]; exact Or.inr ⟨j, by omega, rfl, rfl, rfl⟩
theorem hasR {A : StM} (hl : (A.2 5).length < 1000) (x : Int32) : (St_hasReader A x = 0 ∧ Md_inRange x 0 (nI (A.2 5).length - 1) = 0) ∨ ∃ k, k < (A.2 5).length ∧ x = nI k ∧ St_hasReader A x = 1 ∧ Md_inRange x 0 (nI (A.2 5).length - 1) = 1 := by
  unfold St_hasReader
  rw [inr_0 (by omega)]
  by_cases h0 : x < 0
  · rw [if_pos h0]; exact Or.inl ⟨rfl, rfl⟩
  · rw [if_neg h0]
    obtain ⟨j, hj, rfl⟩ := nI_of h0
    by_cases h1 : (A.2 5).length ≤ j
    · rw [if_pos (nI_le h1 hj)]; exact Or.inl ⟨rfl, rfl⟩
    · rw [if_neg (nI_ge (by omega) (by omega))]; exact Or.inr ⟨j, by omega, rfl, rfl, rfl⟩
theorem hasS {A : StM} (hl : (A.2 11).length < 1000) (x : Int32) : (Sl_has A x = 0 ∧ Md_inRange x 0 (nI (A.2 11).length - 1) = 0 ∧ ∀ xs : List Int32, xs.length = (A.2 11).length → lnget xs x = -1) ∨ ∃ k, k < (A.2 11).length ∧ x = nI k ∧ Sl_has A x = 1 ∧ Md_inRange x 0 (nI (A.2 11).length - 1) = 1 := by
  unfold Sl_has
  rw [inr_0 (by omega)]
  by_cases h0 : x < 0
  · rw [if_pos h0]; exact Or.inl ⟨rfl, rfl, fun xs _ => lg_neg h0⟩
  · rw [if_neg h0]
    obtain ⟨j, hj, rfl⟩ := nI_of h0
    by_cases h1 : (A.2 11).length ≤ j
    · rw [if_pos (nI_le h1 hj)]
      refine Or.inl ⟨rfl, rfl, fun xs hx => ?_⟩
      unfold lnget
      rw [if_neg (fun q => nI_nlt (by omega) hj q.2)]
    · rw [if_neg (nI_ge (by omega) (by omega))]; exact Or.inr ⟨j, by omega, rfl, rfl, rfl⟩
section FC
variable {W : WM} {M : MdM}
theorem Top.ri9 {A : StM} {f : Nat → Int32} (h : Top A f) : RI (A.1 2) A f := h.1
theorem WRel.t9 (h : WRel W M) (v : Int32) : RI ((W.1 9).1 2) (W.1 9) ((setF M 9 v).2 0) := h.1.1
theorem f_size (h : WRel W M) (p : Int32) : E2 W ci1 (SA_size W p) (Md_size 0 M p) := by
  have z := h.1.1.sz
  have bad : (∀ c : Nat, c < 12 → ¬ p = nI c) → Md_inRange p 0 11 = 0 → E2 W ci1 (SA_size W p) (Md_size 0 M p) := by
    intro h1 h2
    refine Or.inl ⟨0, 0, setF M 9 1, ?_, ?_, setF_s _ _ _, h.thr 1⟩
    · unfold SA_size
      rw [if_neg (show ¬ p = 0 from h1 0 (by decide)), if_neg (show ¬ p = 1 from h1 1 (by decide)), if_neg (show ¬ p = 2 from h1 2 (by decide)), if_neg (show ¬ p = 3 from h1 3 (by decide)), if_neg (show ¬ p = 4 from h1 4 (by decide)), if_neg (show ¬ p = 5 from h1 5 (by decide)), if_neg (show ¬ p = 6 from h1 6 (by decide)), if_neg (show ¬ p = 7 from h1 7 (by decide)), if_neg (show ¬ p = 8 from h1 8 (by decide)), if_neg (show ¬ p = 9 from h1 9 (by decide)), if_neg (show ¬ p = 10 from h1 10 (by decide)), if_neg (show ¬ p = 11 from h1 11 (by decide))]
    · unfold Md_size
      rw [h2, lacks0, lu]
      try dsimp only
      rw [if_neg (show ¬ (1 : Int32) = 0 by decide)]
  by_cases h0 : p < 0
  · exact bad (fun c hc => n_ne h0 (by omega)) (inr_lo h0)
  · obtain ⟨j, hj, rfl⟩ := nI_of h0
    by_cases h1 : j < 12
    · right
      have hin : Md_inRange (nI j) 0 11 = 1 := inr_in h0 (fun q => absurd ((nI_ltI (a := 11) (by omega) hj).mp q) (by omega))
      unfold SA_size Md_size
      rw [hin, lacks1, lu]
      try dsimp only
      rw [if_pos rfl]
      have hw := h.thr 0
      have hR := h.t9 0
      match j, h1 with
      | 0, _ =>
        rw [if_pos (show nI 0 = 0 from rfl), if_neg (show ¬ nI 0 = 7 by decide), if_neg (show ¬ nI 0 = 8 by decide), if_neg (show ¬ nI 0 = 9 by decide), if_neg (show ¬ nI 0 = 10 by decide), if_neg (show ¬ nI 0 = 11 by decide), if_pos (q_in (by decide) (by decide)), q_cl (by decide), (h.t9 0).rel.day]
        exact ⟨_, _, rfl, rfl, setF_s _ _ _, hw⟩
      | 1, _ =>
        rw [if_neg (show ¬ nI 1 = 0 by decide), if_pos (show nI 1 = 1 from rfl), if_neg (show ¬ nI 1 = 7 by decide), if_neg (show ¬ nI 1 = 8 by decide), if_neg (show ¬ nI 1 = 9 by decide), if_neg (show ¬ nI 1 = 10 by decide), if_neg (show ¬ nI 1 = 11 by decide), if_pos (q_in (by decide) (by decide)), q_cl (by decide), (h.t9 0).rel.per]
        exact ⟨_, _, rfl, rfl, setF_s _ _ _, hw⟩
      | 2, _ =>
        rw [if_neg (show ¬ nI 2 = 0 by decide), if_neg (show ¬ nI 2 = 1 by decide), if_pos (show nI 2 = 2 from rfl), if_neg (show ¬ nI 2 = 7 by decide), if_neg (show ¬ nI 2 = 8 by decide), if_neg (show ¬ nI 2 = 9 by decide), if_neg (show ¬ nI 2 = 10 by decide), if_neg (show ¬ nI 2 = 11 by decide), if_pos (q_in (by decide) (by decide)), q_cl (by decide), (h.t9 0).rel.hd]
        exact ⟨_, _, rfl, rfl, setF_s _ _ _, hw⟩
      | 3, _ =>
        rw [if_neg (show ¬ nI 3 = 0 by decide), if_neg (show ¬ nI 3 = 1 by decide), if_neg (show ¬ nI 3 = 2 by decide), if_pos (show nI 3 = 3 from rfl), if_neg (show ¬ nI 3 = 7 by decide), if_neg (show ¬ nI 3 = 8 by decide), if_neg (show ¬ nI 3 = 9 by decide), if_neg (show ¬ nI 3 = 10 by decide), if_neg (show ¬ nI 3 = 11 by decide), if_pos (q_in (by decide) (by decide)), q_cl (by decide), (h.t9 0).rel.nr]
        exact ⟨_, _, rfl, rfl, setF_s _ _ _, hw⟩
      | 4, _ =>
        rw [if_neg (show ¬ nI 4 = 0 by decide), if_neg (show ¬ nI 4 = 1 by decide), if_neg (show ¬ nI 4 = 2 by decide), if_neg (show ¬ nI 4 = 3 by decide), if_pos (show nI 4 = 4 from rfl), if_neg (show ¬ nI 4 = 7 by decide), if_neg (show ¬ nI 4 = 8 by decide), if_neg (show ¬ nI 4 = 9 by decide), if_neg (show ¬ nI 4 = 10 by decide), if_neg (show ¬ nI 4 = 11 by decide), if_pos (q_in (by decide) (by decide)), q_cl (by decide), (h.t9 0).rel.lim]
        exact ⟨_, _, rfl, rfl, setF_s _ _ _, hw⟩
      | 5, _ =>
        rw [if_neg (show ¬ nI 5 = 0 by decide), if_neg (show ¬ nI 5 = 1 by decide), if_neg (show ¬ nI 5 = 2 by decide), if_neg (show ¬ nI 5 = 3 by decide), if_neg (show ¬ nI 5 = 4 by decide), if_pos (show nI 5 = 5 from rfl), if_neg (show ¬ nI 5 = 7 by decide), if_neg (show ¬ nI 5 = 8 by decide), if_neg (show ¬ nI 5 = 9 by decide), if_neg (show ¬ nI 5 = 10 by decide), if_neg (show ¬ nI 5 = 11 by decide), if_pos (q_in (by decide) (by decide)), q_cl (by decide), (h.t9 0).rel.nf]
        exact ⟨_, _, rfl, rfl, setF_s _ _ _, hw⟩
      | 6, _ =>
        rw [if_neg (show ¬ nI 6 = 0 by decide), if_neg (show ¬ nI 6 = 1 by decide), if_neg (show ¬ nI 6 = 2 by decide), if_neg (show ¬ nI 6 = 3 by decide), if_neg (show ¬ nI 6 = 4 by decide), if_neg (show ¬ nI 6 = 5 by decide), if_pos (show nI 6 = 6 from rfl), if_neg (show ¬ nI 6 = 7 by decide), if_neg (show ¬ nI 6 = 8 by decide), if_neg (show ¬ nI 6 = 9 by decide), if_neg (show ¬ nI 6 = 10 by decide), if_neg (show ¬ nI 6 = 11 by decide), if_pos (q_in (by decide) (by decide)), q_cl (by decide), (h.t9 0).rel.nl]
        exact ⟨_, _, rfl, rfl, setF_s _ _ _, hw⟩
      | 7, _ =>
        rw [if_neg (show ¬ nI 7 = 0 by decide), if_neg (show ¬ nI 7 = 1 by decide), if_neg (show ¬ nI 7 = 2 by decide), if_neg (show ¬ nI 7 = 3 by decide), if_neg (show ¬ nI 7 = 4 by decide), if_neg (show ¬ nI 7 = 5 by decide), if_neg (show ¬ nI 7 = 6 by decide), if_pos (show nI 7 = 7 from rfl), if_pos (show nI 7 = 7 from rfl), m_countIn hR, bs]
        exact ⟨_, _, rfl, rfl, setF_s _ _ _, hw⟩
      | 8, _ =>
        rw [if_neg (show ¬ nI 8 = 0 by decide), if_neg (show ¬ nI 8 = 1 by decide), if_neg (show ¬ nI 8 = 2 by decide), if_neg (show ¬ nI 8 = 3 by decide), if_neg (show ¬ nI 8 = 4 by decide), if_neg (show ¬ nI 8 = 5 by decide), if_neg (show ¬ nI 8 = 6 by decide), if_neg (show ¬ nI 8 = 7 by decide), if_pos (show nI 8 = 8 from rfl), if_neg (show ¬ nI 8 = 7 by decide), if_pos (show nI 8 = 8 from rfl), tn7, hR.rel.nt]
        exact ⟨_, _, rfl, rfl, setF_s _ _ _, hw⟩
      | 9, _ =>
        rw [if_neg (show ¬ nI 9 = 0 by decide), if_neg (show ¬ nI 9 = 1 by decide), if_neg (show ¬ nI 9 = 2 by decide), if_neg (show ¬ nI 9 = 3 by decide), if_neg (show ¬ nI 9 = 4 by decide), if_neg (show ¬ nI 9 = 5 by decide), if_neg (show ¬ nI 9 = 6 by decide), if_neg (show ¬ nI 9 = 7 by decide), if_neg (show ¬ nI 9 = 8 by decide), if_pos (show nI 9 = 9 from rfl), if_neg (show ¬ nI 9 = 7 by decide), if_neg (show ¬ nI 9 = 8 by decide), if_pos (show nI 9 = 9 from rfl), tn8, hR.rel.ns]
        exact ⟨_, _, rfl, rfl, setF_s _ _ _, hw⟩
      | 10, _ =>
        obtain ⟨v, e1, e2⟩ := s_countWrong hR
        rw [if_neg (show ¬ nI 10 = 0 by decide), if_neg (show ¬ nI 10 = 1 by decide), if_neg (show ¬ nI 10 = 2 by decide), if_neg (show ¬ nI 10 = 3 by decide), if_neg (show ¬ nI 10 = 4 by decide), if_neg (show ¬ nI 10 = 5 by decide), if_neg (show ¬ nI 10 = 6 by decide), if_neg (show ¬ nI 10 = 7 by decide), if_neg (show ¬ nI 10 = 8 by decide), if_neg (show ¬ nI 10 = 9 by decide), if_pos (show nI 10 = 10 from rfl), if_neg (show ¬ nI 10 = 7 by decide), if_neg (show ¬ nI 10 = 8 by decide), if_neg (show ¬ nI 10 = 9 by decide), if_pos (show nI 10 = 10 from rfl), e1, e2, bs, bs]
        exact ⟨_, _, rfl, rfl, setF_s _ _ _, hw⟩
      | 11, _ =>
        rw [if_neg (show ¬ nI 11 = 0 by decide), if_neg (show ¬ nI 11 = 1 by decide), if_neg (show ¬ nI 11 = 2 by decide), if_neg (show ¬ nI 11 = 3 by decide), if_neg (show ¬ nI 11 = 4 by decide), if_neg (show ¬ nI 11 = 5 by decide), if_neg (show ¬ nI 11 = 6 by decide), if_neg (show ¬ nI 11 = 7 by decide), if_neg (show ¬ nI 11 = 8 by decide), if_neg (show ¬ nI 11 = 9 by decide), if_neg (show ¬ nI 11 = 10 by decide), if_pos (show nI 11 = 11 from rfl), if_neg (show ¬ nI 11 = 7 by decide), if_neg (show ¬ nI 11 = 8 by decide), if_neg (show ¬ nI 11 = 9 by decide), if_neg (show ¬ nI 11 = 10 by decide), if_pos (show nI 11 = 11 from rfl), m_daysToRefiling hR, bs]
        exact ⟨_, _, rfl, rfl, setF_s _ _ _, hw⟩
    · exact bad (fun c hc => i_ne hj (by omega) (by omega)) (inr_hi (nI_lt (a := 11) (by omega) hj))
theorem f_account (h : WRel W M) (p : Int32) : E2 W ci1 (SA_account W p) (Md_account 0 M p) := by
  unfold SA_account Md_account
  by_cases h0 : p < 0
  · rw [if_pos h0, inr_lo h0, lacks0, lu]
    try dsimp only
    rw [if_neg (show ¬ (1 : Int32) = 0 by decide)]
    exact Or.inl ⟨0, 0, _, rfl, rfl, setF_s _ _ _, h.thr 1⟩
  · obtain ⟨j, hj, rfl⟩ := nI_of h0
    rw [if_neg h0]
    by_cases h1 : j < 11
    · rw [if_pos (show nI j < (11 : Int32) from nI_lt (b := 11) h1 (by omega)), inr_in h0 (show ¬ (10 : Int32) < nI j from nI_nlt (a := 10) (by omega) (by omega)), lacks1, lu]
      try dsimp only
      rw [if_pos rfl]
      right
      have hR := h.t9 0
      by_cases h3 : 3 ≤ j
      · rw [if_pos (show (3 : Int32) ≤ nI j from nI_le (a := 3) h3 hj), if_pos (show (3 : Int32) ≤ nI j from nI_le (a := 3) h3 hj), bs, e_tallied h3 h1, bs, hR.rel.ac j h3 h1, lg_in (by rw [hR.sz.e15]; exact h1) (by rw [hR.sz.e15]; omega)]
        exact ⟨_, _, rfl, rfl, setF_s _ _ _, h.thr 0⟩
      · have n3 : ¬ (3 : Int32) ≤ nI j := nI_ge (b := 3) (show j < 3 by omega) (by omega)
        rw [if_neg n3, if_neg n3, bs, if_pos (q_in (by omega) (by omega)), q_cl (by omega)]
        obtain ⟨l1, l2⟩ := h.2.1
        rw [lg_in (by omega) (by omega), ← l2 j (by omega)]
        exact ⟨_, _, rfl, rfl, setF_s _ _ _, h.thr 0⟩
    · rw [if_neg (show ¬ nI j < (11 : Int32) from nI_nlt (b := 11) (by omega) hj), inr_hi (show (10 : Int32) < nI j from nI_lt (a := 10) (by omega) hj), lacks0, lu]
      try dsimp only
      rw [if_neg (show ¬ (1 : Int32) = 0 by decide)]
      exact Or.inl ⟨0, 0, _, rfl, rfl, setF_s _ _ _, h.thr 1⟩
theorem f_folder (h : WRel W M) (p q : Int32) : E2 W ci2 (SA_folder W p q) (Md_folder 0 M p q) := by
  have z := h.1.1.sz
  have zf := z.fo
  have z1 := z.e1
  have z2 := z.e2
  have z3 := z.e3
  have z4 := z.e4
  unfold SA_folder Md_folder Md_isFolder
  rw [bs, tn5, h.1.1.rel.nf]
  rcases hasF (A := W.1 9) (by omega) p with ⟨e1, e2⟩ | ⟨k, hk, rfl, e1, e2⟩
  · rw [e1, e2, lacks0, lu]
    try dsimp only
    rw [if_pos rfl, if_neg (show ¬ (1 : Int32) = 0 by decide)]
    exact Or.inl ⟨1, 0, _, rfl, rfl, setF_s _ _ _, h.thr 1⟩
  · rw [e1, e2, lacks1, lu]
    try dsimp only
    rw [if_neg (show ¬ (1 : Int32) = 0 by decide), if_pos rfl]
    have hR := h.t9 0
    have hw := h.thr 0
    have bad : (∀ c : Nat, c < 7 → ¬ q = nI c) → E2 W ci2 (if q = 0 then (some (.inr (lnget ((W.1 9).2 0) (nI k)))) else (if q = 1 then (some (.inr (lnget ((W.1 9).2 1) (nI k)))) else (if q = 2 then (some (.inr (lnget ((W.1 9).2 2) (nI k)))) else (if q = 3 then (some (.inr (St_whereabouts (W.1 9) (nI k)))) else (if q = 4 then (some (.inr (lncnt ((W.1 9).2 12) (nI k)))) else (if q = 5 then (some (.inr (lnget ((W.1 9).2 4) (nI k)))) else (if q = 6 then (Option.bind (if St_isClosed (W.1 9) (nI k) = 0 then (some 0) else (some 1)) fun b_1415 => some (.inr b_1415)) else (some (.inl 0)))))))))
        (if q = 0 then (Option.bind (Md_of 0 (setF M 9 0) (nI k) q) fun q_576 => some ((q_576, setF M 9 0))) else (if q = 1 then (Option.bind (Md_of 0 (setF M 9 0) (nI k) q) fun q_578 => some ((q_578, setF M 9 0))) else (if q = 2 then (Option.bind (Md_of 0 (setF M 9 0) (nI k) q) fun q_580 => some ((q_580, setF M 9 0))) else (if q = 3 then (Option.bind (Md_whereIs 0 (setF M 9 0) (nI k)) fun q_582 => some ((q_582, setF M 9 0))) else (if q = 4 then (Option.bind (Md_slipsWith 0 (setF M 9 0) 1 (nI k)) fun q_584 => some ((q_584, setF M 9 0))) else (if q = 5 then (Option.bind (Md_of 0 (setF M 9 0) (nI k) 4) fun q_586 => some ((q_586, setF M 9 0))) else (if q = 6 then (Option.bind (Md_isClosed 0 (setF M 9 0) (nI k)) fun q_588 => if q_588 = 0 then (some ((0, setF M 9 0))) else (some ((1, setF M 9 0)))) else (lt' (Md_raise 0 (setF M 9 0) 2) fun q_590 => some ((q_590.1, q_590.2)))))))))) := by
      intro h1
      rw [if_neg (show ¬ q = 0 from h1 0 (by decide)), if_neg (show ¬ q = 1 from h1 1 (by decide)), if_neg (show ¬ q = 2 from h1 2 (by decide)), if_neg (show ¬ q = 3 from h1 3 (by decide)), if_neg (show ¬ q = 4 from h1 4 (by decide)), if_neg (show ¬ q = 5 from h1 5 (by decide)), if_neg (show ¬ q = 6 from h1 6 (by decide)), if_neg (show ¬ q = 0 from h1 0 (by decide)), if_neg (show ¬ q = 1 from h1 1 (by decide)), if_neg (show ¬ q = 2 from h1 2 (by decide)), if_neg (show ¬ q = 3 from h1 3 (by decide)), if_neg (show ¬ q = 4 from h1 4 (by decide)), if_neg (show ¬ q = 5 from h1 5 (by decide)), if_neg (show ¬ q = 6 from h1 6 (by decide)), lu]
      refine Or.inl ⟨0, _, _, rfl, rfl, setF_s _ _ _, ?_⟩
      exact hw.thr 2
    by_cases h0 : q < 0
    · exact bad (fun c hc => n_ne h0 (by omega))
    · obtain ⟨j, hj, rfl⟩ := nI_of h0
      by_cases h1 : j < 7
      · right
        match j, h1 with
        | 0, _ =>
          rw [if_pos (show nI 0 = 0 from rfl), if_pos (show nI 0 = 0 from rfl), show Md_of 0 (setF M 9 0) (nI k) (nI 0) = _ from of0 (by omega), bs, hR.rel.mk k hk, lg_in hk (by omega)]
          exact ⟨_, _, rfl, rfl, setF_s _ _ _, hw⟩
        | 1, _ =>
          rw [if_neg (show ¬ nI 1 = 0 by decide), if_pos (show nI 1 = 1 from rfl), if_neg (show ¬ nI 1 = 0 by decide), if_pos (show nI 1 = 1 from rfl), show Md_of 0 (setF M 9 0) (nI k) (nI 1) = _ from of1 (by omega), bs, hR.rel.em k (by omega), lg_in (by omega) (by omega)]
          exact ⟨_, _, rfl, rfl, setF_s _ _ _, hw⟩
        | 2, _ =>
          rw [if_neg (show ¬ nI 2 = 0 by decide), if_neg (show ¬ nI 2 = 1 by decide), if_pos (show nI 2 = 2 from rfl), if_neg (show ¬ nI 2 = 0 by decide), if_neg (show ¬ nI 2 = 1 by decide), if_pos (show nI 2 = 2 from rfl), show Md_of 0 (setF M 9 0) (nI k) (nI 2) = _ from of2 (by omega), bs, hR.rel.st k (by omega), lg_in (by omega) (by omega)]
          exact ⟨_, _, rfl, rfl, setF_s _ _ _, hw⟩
        | 3, _ =>
          have hwh : Md_whereIs 0 (setF M 9 0) (nI k) = some (St_whereabouts (W.1 9) (nI k)) := by
            unfold Md_whereIs St_whereabouts
            rw [of2 (by omega), bs, hR.rel.st k (by omega), lg_in (by omega) (by omega), lg_in (by omega) (by omega)]
            rcases hR.fd.2.2.2.2.2.2.1 k hk with ⟨g1 | g1, -⟩ | ⟨g1, -⟩
            · obtain ⟨i, i1, i2, i3, i4⟩ := m_placeOf hR (hR.fd.2.2.2.2.1 k hk g1)
              rw [g1, if_pos rfl, if_pos rfl, i4, bs, i3]
            · obtain ⟨i, i1, i2, i3, i4⟩ := m_trolleyPlace hR (hR.fd.2.2.2.2.2.1 k hk g1)
              rw [g1, if_neg (by decide), if_neg (by decide), if_neg (by decide), if_pos rfl, i4, bs, i3]
            · rw [g1, if_neg (by decide), if_pos rfl, of3 (by omega), bs, hR.rel.wi k (by omega) g1, if_neg (by decide), if_neg (by decide)]
          rw [if_neg (show ¬ nI 3 = 0 by decide), if_neg (show ¬ nI 3 = 1 by decide), if_neg (show ¬ nI 3 = 2 by decide), if_pos (show nI 3 = 3 from rfl), if_neg (show ¬ nI 3 = 0 by decide), if_neg (show ¬ nI 3 = 1 by decide), if_neg (show ¬ nI 3 = 2 by decide), if_pos (show nI 3 = 3 from rfl), hwh, bs]
          exact ⟨_, _, rfl, rfl, setF_s _ _ _, hw⟩
        | 4, _ =>
          rw [if_neg (show ¬ nI 4 = 0 by decide), if_neg (show ¬ nI 4 = 1 by decide), if_neg (show ¬ nI 4 = 2 by decide), if_neg (show ¬ nI 4 = 3 by decide), if_pos (show nI 4 = 4 from rfl), if_neg (show ¬ nI 4 = 0 by decide), if_neg (show ¬ nI 4 = 1 by decide), if_neg (show ¬ nI 4 = 2 by decide), if_neg (show ¬ nI 4 = 3 by decide), if_pos (show nI 4 = 4 from rfl), show Md_slipsWith 0 (setF M 9 0) 1 (nI k) = _ from m_slipsWith hR (w := 1) (by decide) z.e12 hR.rel.s1 (nI k), bs]
          exact ⟨_, _, rfl, rfl, setF_s _ _ _, hw⟩
        | 5, _ =>
          rw [if_neg (show ¬ nI 5 = 0 by decide), if_neg (show ¬ nI 5 = 1 by decide), if_neg (show ¬ nI 5 = 2 by decide), if_neg (show ¬ nI 5 = 3 by decide), if_neg (show ¬ nI 5 = 4 by decide), if_pos (show nI 5 = 5 from rfl), if_neg (show ¬ nI 5 = 0 by decide), if_neg (show ¬ nI 5 = 1 by decide), if_neg (show ¬ nI 5 = 2 by decide), if_neg (show ¬ nI 5 = 3 by decide), if_neg (show ¬ nI 5 = 4 by decide), if_pos (show nI 5 = 5 from rfl), of4 (by omega), bs, hR.rel.tm k (by omega), lg_in (by omega) (by omega)]
          exact ⟨_, _, rfl, rfl, setF_s _ _ _, hw⟩
        | 6, _ =>
          rw [if_neg (show ¬ nI 6 = 0 by decide), if_neg (show ¬ nI 6 = 1 by decide), if_neg (show ¬ nI 6 = 2 by decide), if_neg (show ¬ nI 6 = 3 by decide), if_neg (show ¬ nI 6 = 4 by decide), if_neg (show ¬ nI 6 = 5 by decide), if_pos (show nI 6 = 6 from rfl), if_neg (show ¬ nI 6 = 0 by decide), if_neg (show ¬ nI 6 = 1 by decide), if_neg (show ¬ nI 6 = 2 by decide), if_neg (show ¬ nI 6 = 3 by decide), if_neg (show ¬ nI 6 = 4 by decide), if_neg (show ¬ nI 6 = 5 by decide), if_pos (show nI 6 = 6 from rfl), m_isClosed hR hk, bs]
          by_cases g : St_isClosed (W.1 9) (nI k) = 0
          · rw [if_pos g, if_pos g, bs]
            exact ⟨_, _, rfl, rfl, setF_s _ _ _, hw⟩
          · rw [if_neg g, if_neg g, bs]
            exact ⟨_, _, rfl, rfl, setF_s _ _ _, hw⟩
      · exact bad (fun c hc => i_ne hj (by omega) (by omega))
theorem f_marked (h : WRel W M) (p : Int32) : P1 W (SA_marked W p) (Md_marked 0 M p) := by
  unfold SA_marked Md_marked
  rw [m_folderMarked (h.t9 0), bs]
  exact ⟨_, rfl, h.thr 0⟩
theorem f_at (h : WRel W M) (p : Int32) : P1 W (SA_at W p) (Md_at 0 M p) := by
  have hR := h.t9 0
  have zl := hR.sz.l
  unfold SA_at Md_at
  rw [tn6, h.1.1.rel.nl, inr_0 (by omega)]
  by_cases h0 : p < 0
  · rw [if_pos h0, if_pos rfl, lg_neg h0]
    exact ⟨_, rfl, h.thr 0⟩
  · obtain ⟨j, hj, rfl⟩ := nI_of h0
    rw [if_neg h0]
    by_cases h1 : ((W.1 9).2 7).length ≤ j
    · rw [if_pos (nI_le h1 hj), if_pos rfl]
      have : lnget ((W.1 9).2 7) (nI j) = -1 := by
        unfold lnget
        rw [if_neg (fun q => nI_nlt h1 hj q.2)]
      rw [this]
      exact ⟨_, rfl, h.thr 0⟩
    · rw [if_neg (nI_ge (by omega) (by omega)), if_neg (by decide), e_fa (by omega), bs, hR.row (by omega), lg_in (by omega) (by omega)]
      exact ⟨_, rfl, h.thr 0⟩
theorem f_reader (h : WRel W M) (p q : Int32) : E2 W ci2 (SA_reader W p q) (Md_reader 0 M p q) := by
  have z := h.1.1.sz
  have zr := z.r
  have z6 := z.e6
  unfold SA_reader Md_reader Md_isReader
  rw [bs, tn3, h.1.1.rel.nr]
  rcases hasR (A := W.1 9) (by omega) p with ⟨e1, e2⟩ | ⟨k, hk, rfl, e1, e2⟩
  · rw [e1, e2, lacks0, lu]
    try dsimp only
    rw [if_pos rfl, if_neg (show ¬ (1 : Int32) = 0 by decide)]
    exact Or.inl ⟨1, 0, _, rfl, rfl, setF_s _ _ _, h.thr 1⟩
  · rw [e1, e2, lacks1, lu]
    try dsimp only
    rw [if_neg (show ¬ (1 : Int32) = 0 by decide), if_pos rfl]
    have hR := h.t9 0
    have hw := h.thr 0
    have bad : (∀ c : Nat, c < 3 → ¬ q = nI c) → E2 W ci2 (if q = 0 then (some (.inr (lnget ((W.1 9).2 5) (nI k)))) else (if q = 1 then (some (.inr (lncnt ((W.1 9).2 11) (nI k)))) else (if q = 2 then (some (.inr (lnget ((W.1 9).2 6) (nI k)))) else (some (.inl 0)))))
        (if q = 0 then (Option.bind (Md_foldersOf 0 (setF M 9 0) (nI k)) fun q_599 => some ((q_599, setF M 9 0))) else (if q = 1 then (Option.bind (Md_slipsWith 0 (setF M 9 0) 0 (nI k)) fun q_601 => some ((q_601, setF M 9 0))) else (if q = 2 then (if inB (17 + (nI k)) 257 then (some ((((setF M 9 0).2 0) (17 + (nI k)).toNatClampNeg, setF M 9 0))) else none) else (lt' (Md_raise 0 (setF M 9 0) 2) fun q_604 => some ((q_604.1, q_604.2)))))) := by
      intro h1
      rw [if_neg (show ¬ q = 0 from h1 0 (by decide)), if_neg (show ¬ q = 1 from h1 1 (by decide)), if_neg (show ¬ q = 2 from h1 2 (by decide)), if_neg (show ¬ q = 0 from h1 0 (by decide)), if_neg (show ¬ q = 1 from h1 1 (by decide)), if_neg (show ¬ q = 2 from h1 2 (by decide)), lu]
      refine Or.inl ⟨0, _, _, rfl, rfl, setF_s _ _ _, ?_⟩
      exact hw.thr 2
    by_cases h0 : q < 0
    · exact bad (fun c hc => n_ne h0 (by omega))
    · obtain ⟨j, hj, rfl⟩ := nI_of h0
      by_cases h1 : j < 3
      · right
        match j, h1 with
        | 0, _ =>
          rw [if_pos (show nI 0 = 0 from rfl), if_pos (show nI 0 = 0 from rfl), m_foldersOf hR (by omega), bs, lg_in hk (by omega), hR.fd.2.2.2.2.2.2.2 k hk]
          exact ⟨_, _, rfl, rfl, setF_s _ _ _, hw⟩
        | 1, _ =>
          rw [if_neg (show ¬ nI 1 = 0 by decide), if_pos (show nI 1 = 1 from rfl), if_neg (show ¬ nI 1 = 0 by decide), if_pos (show nI 1 = 1 from rfl), show Md_slipsWith 0 (setF M 9 0) 0 (nI k) = _ from m_slipsWith hR (w := 0) (by decide) rfl hR.rel.s0 (nI k), bs]
          exact ⟨_, _, rfl, rfl, setF_s _ _ _, hw⟩
        | 2, _ =>
          rw [if_neg (show ¬ nI 2 = 0 by decide), if_neg (show ¬ nI 2 = 1 by decide), if_pos (show nI 2 = 2 from rfl), if_neg (show ¬ nI 2 = 0 by decide), if_neg (show ¬ nI 2 = 1 by decide), if_pos (show nI 2 = 2 from rfl), show (17 : Int32) = nI 17 from rfl, nI_add, if_pos (q_in (by omega) (by omega)), q_cl (by omega), hR.serv (by omega), lg_in (by omega) (by omega)]
          exact ⟨_, _, rfl, rfl, setF_s _ _ _, hw⟩
      · exact bad (fun c hc => i_ne hj (by omega) (by omega))
theorem f_waiting (h : WRel W M) (p q : Int32) : E2 W ci1 (SA_waiting W p q) (Md_waiting 0 M p q) := by
  have z := h.1.1.sz
  have zs := z.s
  have z12 := z.e12
  have z13 := z.e13
  have z14 := z.e14
  unfold SA_waiting Md_waiting Md_isSlip
  by_cases h0 : q < 0
  · rw [if_pos h0, inr_lo h0, lacks0, lu]
    try dsimp only
    rw [if_neg (show ¬ (1 : Int32) = 0 by decide)]
    exact Or.inl ⟨0, 0, _, rfl, rfl, setF_s _ _ _, h.thr 1⟩
  · obtain ⟨j, hj, rfl⟩ := nI_of h0
    rw [if_neg h0]
    by_cases h1 : j < 5
    · rw [if_pos (show nI j ≤ (4 : Int32) from nI_le (b := 4) (by omega) (by omega)), inr_in h0 (show ¬ (4 : Int32) < nI j from nI_nlt (a := 4) (by omega) (by omega)), lacks1, lu]
      try dsimp only
      rw [if_pos rfl, bs]
      right
      have hR := h.t9 0
      have hw := h.thr 0
      rw [tn8, show (setF M 9 0).2 0 8 = _ from hR.rel.ns]
      rcases hasS (A := W.1 9) (by omega) p with ⟨e1, e2, e3⟩ | ⟨k, hk, rfl, e1, e2⟩
      · rw [e2, if_pos rfl, e1, e3 _ rfl, e3 _ z12, e3 _ z13, e3 _ z14]
        match j, h1 with
        | 0, _ =>
          rw [if_pos (show nI 0 = 0 from rfl)]
          exact ⟨_, _, rfl, rfl, setF_s _ _ _, hw⟩
        | 1, _ =>
          rw [if_neg (show ¬ nI 1 = 0 by decide), if_pos (show nI 1 = 1 from rfl)]
          exact ⟨_, _, rfl, rfl, setF_s _ _ _, hw⟩
        | 2, _ =>
          rw [if_neg (show ¬ nI 2 = 0 by decide), if_neg (show ¬ nI 2 = 1 by decide), if_pos (show nI 2 = 2 from rfl)]
          exact ⟨_, _, rfl, rfl, setF_s _ _ _, hw⟩
        | 3, _ =>
          rw [if_neg (show ¬ nI 3 = 0 by decide), if_neg (show ¬ nI 3 = 1 by decide), if_neg (show ¬ nI 3 = 2 by decide), if_pos (show nI 3 = 3 from rfl)]
          exact ⟨_, _, rfl, rfl, setF_s _ _ _, hw⟩
        | 4, _ =>
          rw [if_neg (show ¬ nI 4 = 0 by decide), if_neg (show ¬ nI 4 = 1 by decide), if_neg (show ¬ nI 4 = 2 by decide), if_neg (show ¬ nI 4 = 3 by decide), if_pos rfl, bs]
          exact ⟨_, _, rfl, rfl, setF_s _ _ _, hw⟩
      · rw [e2, if_neg (show ¬ (1 : Int32) = 0 by decide), e1]
        match j, h1 with
        | 0, _ =>
          rw [if_pos (show nI 0 = 0 from rfl), if_neg (show ¬ (4 : Int32) ≤ nI 0 by decide), show Md_ofSlip 0 (setF M 9 0) (nI k) (nI 0) = _ from os0 (by omega), bs, hR.rel.s0 k (by omega), lg_in (by omega) (by omega)]
          exact ⟨_, _, rfl, rfl, setF_s _ _ _, hw⟩
        | 1, _ =>
          rw [if_neg (show ¬ nI 1 = 0 by decide), if_pos (show nI 1 = 1 from rfl), if_neg (show ¬ (4 : Int32) ≤ nI 1 by decide), show Md_ofSlip 0 (setF M 9 0) (nI k) (nI 1) = _ from os1 (by omega), bs, hR.rel.s1 k (by omega), lg_in (by omega) (by omega)]
          exact ⟨_, _, rfl, rfl, setF_s _ _ _, hw⟩
        | 2, _ =>
          rw [if_neg (show ¬ nI 2 = 0 by decide), if_neg (show ¬ nI 2 = 1 by decide), if_pos (show nI 2 = 2 from rfl), if_neg (show ¬ (4 : Int32) ≤ nI 2 by decide), show Md_ofSlip 0 (setF M 9 0) (nI k) (nI 2) = _ from os2 (by omega), bs, hR.rel.s2 k (by omega), lg_in (by omega) (by omega)]
          exact ⟨_, _, rfl, rfl, setF_s _ _ _, hw⟩
        | 3, _ =>
          rw [if_neg (show ¬ nI 3 = 0 by decide), if_neg (show ¬ nI 3 = 1 by decide), if_neg (show ¬ nI 3 = 2 by decide), if_pos (show nI 3 = 3 from rfl), if_neg (show ¬ (4 : Int32) ≤ nI 3 by decide), show Md_ofSlip 0 (setF M 9 0) (nI k) (nI 3) = _ from os3 (by omega), bs, hR.rel.s3 k (by omega), lg_in (by omega) (by omega)]
          exact ⟨_, _, rfl, rfl, setF_s _ _ _, hw⟩
        | 4, _ =>
          rw [if_neg (show ¬ nI 4 = 0 by decide), if_neg (show ¬ nI 4 = 1 by decide), if_neg (show ¬ nI 4 = 2 by decide), if_neg (show ¬ nI 4 = 3 by decide), if_neg (show ¬ (1 : Int32) = 0 by decide), bs, if_pos (show (4 : Int32) ≤ nI 4 by decide), m_idleness hR hk, bs]
          exact ⟨_, _, rfl, rfl, setF_s _ _ _, hw⟩
    · rw [if_neg (show ¬ nI j ≤ (4 : Int32) from nI_ge (a := 4) (by omega) hj), inr_hi (show (4 : Int32) < nI j from nI_lt (a := 4) (by omega) hj), lacks0, lu]
      try dsimp only
      rw [if_neg (show ¬ (1 : Int32) = 0 by decide)]
      exact Or.inl ⟨0, 0, _, rfl, rfl, setF_s _ _ _, h.thr 1⟩
end FC
