/-! words, numbers, errors -/
section PW
variable {b : List Int32} {n s p : Nat} {W : WM} {M : MdM}
theorem s_isWordL {cs : List Int32} (hl : cs.length ≤ 7) (h : PS b n W M p) (hs : s + cs.length = p) (h2 : W.2.2.1 2 = nI s) (h21 : M.1 21 = nI s) : ∀ (m k : Nat), k ≤ cs.length → cs.length - k < m → ∃ r, (r = 0 ∨ r = 1) ∧ Tk_isWord_L28 cs W m (nI k) = some r ∧ ∀ ρ, Md_isWord_L39 ρ cs M m 1 (nI k) = some r := by
  obtain ⟨a1, a2, a3, a4, a5, a6, a7, a8, a9, a10⟩ := h
  intro m
  induction m with
  | zero => intro k h1 h2; omega
  | succ m ih =>
    intro k k1 k2
    by_cases hk : cs.length ≤ k
    · refine ⟨1, Or.inr rfl, ?_, fun ρ => ?_⟩
      · unfold Tk_isWord_L28
        rw [if_pos (nI_le hk (by omega))]
      · unfold Md_isWord_L39
        rw [if_neg (show ¬ (1 : Int32) = 0 by decide), if_pos (nI_le hk (by omega)), if_pos (Or.inr rfl)]
    · have hin : inB (nI k) cs.length := q_in (by omega) (by omega)
      have hin2 : inB (nI (s + k)) 700 := q_in (by omega) (by omega)
      by_cases hc : b.getD (s + k) 0 = cs.getD k 0
      · obtain ⟨r, r1, r2, r3⟩ := ih (k + 1) (by omega) (by omega)
        refine ⟨r, r1, ?_, fun ρ => ?_⟩
        · unfold Tk_isWord_L28
          rw [if_neg (nI_ge (by omega) (by omega)), if_pos hin, h2, nI_add, a1, lg_in (by omega) (by omega), q_cl (by omega), if_pos hc, nI_1, r2]
        · unfold Md_isWord_L39
          rw [if_neg (show ¬ (1 : Int32) = 0 by decide), if_neg (nI_ge (by omega) (by omega)), if_pos hin, h21, nI_add, if_pos hin2, q_cl (by omega), q_cl (by omega), a10 _ (by omega), if_pos hc.symm, bs, nI_1, r3]
      · refine ⟨0, Or.inl rfl, ?_, fun ρ => ?_⟩
        · unfold Tk_isWord_L28
          rw [if_neg (nI_ge (by omega) (by omega)), if_pos hin, h2, nI_add, a1, lg_in (by omega) (by omega), q_cl (by omega), if_neg hc]
        · unfold Md_isWord_L39
          rw [if_neg (show ¬ (1 : Int32) = 0 by decide), if_neg (nI_ge (by omega) (by omega)), if_pos hin, h21, nI_add, if_pos hin2, q_cl (by omega), q_cl (by omega), a10 _ (by omega), if_neg (fun q => hc q.symm), bs, nI_1]
          cases m with
          | zero => omega
          | succ m =>
            unfold Md_isWord_L39
            rw [if_pos rfl, if_pos (Or.inl rfl)]
theorem w_no (ρ : Nat) (cs : List Int32) (M : MdM) : Md_isWord_L39 ρ cs M FU 0 0 = some 0 := by
  show Md_isWord_L39 ρ cs M (999 + 1) 0 0 = some 0
  unfold Md_isWord_L39
  rw [if_pos rfl, if_pos (Or.inl rfl)]
theorem s_isWord {cs : List Int32} (hl : cs.length ≤ 7) (h : TK b n W M s p) : ∃ r, (r = 0 ∨ r = 1) ∧ Tk_isWord cs W = some r ∧ (∀ ρ, Md_isWord ρ cs M = some r) := by
  obtain ⟨hp, hsp, h2, h21, hk⟩ := h
  have h0 := hp
  obtain ⟨a1, a2, a3, a4, a5, a6, a7, a8, a9, a10⟩ := hp
  unfold Tk_isWord Md_isWord
  have no : W.2.2.1 3 ≠ 1 → M.1 22 ≠ 1 → ∃ r, (r = 0 ∨ r = 1) ∧ (if W.2.2.1 3 = 1 then (if (W.2.2.1 1) - (W.2.2.1 2) = nI cs.length then (Tk_isWord_L28 cs W FU 0) else (some (0))) else (some (0))) = some r ∧ ∀ ρ, (Option.bind (if M.1 23 = 0 then (if M.1 22 = 1 then (if nI cs.length = (M.1 20) - (M.1 21) then (some 1) else (some 0)) else (some 0)) else (some 0)) fun b_1109 => Md_isWord_L39 ρ cs M FU b_1109 0) = some r := by
    intro g1 g2
    refine ⟨0, Or.inl rfl, by rw [if_neg g1], fun ρ => ?_⟩
    rw [if_pos a9, if_neg g2, bs, w_no]
  rcases hk with ⟨k1, k2⟩ | ⟨hsn, ⟨k1, k2⟩ | ⟨k1, k2, -⟩ | ⟨k1, k2, -⟩ | ⟨k1, k2, -⟩⟩
  · exact no (by rw [k1]; decide) (by rw [k2]; decide)
  · by_cases hln : s + cs.length = p
    · obtain ⟨r, r1, r2, r3⟩ := s_isWordL hl h0 hln h2 h21 FU 0 (Nat.zero_le _) (FU_gt (by omega))
      refine ⟨r, r1, ?_, fun ρ => ?_⟩
      · rw [if_pos k1, a5, h2, pk_sub hsp, if_pos (by congr 1; omega)]
        exact r2
      · rw [if_pos a9, if_pos k2, a8, h21, pk_sub hsp, if_pos (by congr 1; omega), bs]
        exact r3 ρ
    · have hne : ¬ nI (p - s) = nI cs.length := fun q => hln (by have := (q_eq (by omega) (by omega)).mp q; omega)
      refine ⟨0, Or.inl rfl, ?_, fun ρ => ?_⟩
      · rw [if_pos k1, a5, h2, pk_sub hsp, if_neg hne]
      · rw [if_pos a9, if_pos k2, a8, h21, pk_sub hsp, if_neg (fun q => hne q.symm), bs, w_no]
  · exact no (by rw [k1]; decide) (by rw [k2]; decide)
  · exact no (by rw [k1]; decide) (by rw [k2]; decide)
  · exact no (by rw [k1]; decide) (by rw [k2]; decide)
/-- an error at this token, on both sides -/
def Wf (W : WM) (c : Int32) : WM := setWI (setWI W 5 c) 6 (W.2.2.1 2)
def Mf (M : MdM) (c : Int32) : MdM := setF (setF M 23 c) 24 (M.1 21)
theorem p_fail (W : WM) (c : Int32) : Ps_fail W c = (0, Wf W c) := rfl
theorem d_ok (ρ : Nat) (M : MdM) (c : Int32) : Md_demand ρ M 1 c = M := by
  unfold Md_demand
  rw [if_neg (by decide)]
theorem d_no (ρ : Nat) {M : MdM} (h : M.1 23 = 0) (c : Int32) : Md_demand ρ M 0 c = Mf M c := by
  unfold Md_demand
  rw [if_pos rfl, if_pos h]
  rfl
/-- the reference behind an error: nothing more is read -/
def ER (M : MdM) : Prop := ¬ M.1 23 = 0 ∧ ∃ s p, s ≤ p ∧ p ≤ 700 ∧ M.1 21 = nI s ∧ M.1 20 = nI p
theorem er_of (h : TK b n W M s p) {c : Int32} (hc : ¬ c = 0) : ER (Mf M c) := by
  obtain ⟨hp, hsp, h2, h21, hk⟩ := h
  refine ⟨?_, s, p, hsp, ?_, ?_, ?_⟩
  · show ¬ (setF (setF M 23 c) 24 (M.1 21)).1 23 = 0
    rw [setF_n _ _ (by decide), setF_s]
    exact hc
  · have := hp.2.1; have := hp.2.2.1; have := hp.2.2.2.2.2.1; omega
  · exact (setF_n _ _ (by decide)).trans ((setF_n _ _ (by decide)).trans h21)
  · exact (setF_n _ _ (by decide)).trans ((setF_n _ _ (by decide)).trans hp.2.2.2.2.2.2.2.1)
theorem er_a {M : MdM} (h : ER M) (j : Nat) (f : Nat → Int32) : ER (setA M j f) := h
theorem er_f {M : MdM} (h : ER M) {k : Nat} (v : Int32) (h1 : k ≠ 23) (h2 : k ≠ 21) (h3 : k ≠ 20) : ER (setF M k v) := by
  obtain ⟨g1, s, p, g2, g3, g4, g5⟩ := h
  exact ⟨by rw [setF_n _ _ (Ne.symm h1)]; exact g1, s, p, g2, g3, by rw [setF_n _ _ (Ne.symm h2)]; exact g4, by rw [setF_n _ _ (Ne.symm h3)]; exact g5⟩
theorem e_dem (ρ : Nat) {M : MdM} (h : ER M) (x c : Int32) : Md_demand ρ M x c = M := by
  unfold Md_demand
  rw [if_neg h.1]
  split <;> rfl
theorem e_adv (ρ : Nat) {M : MdM} (h : ER M) : Md_advance ρ M = some M := by
  unfold Md_advance
  rw [if_neg h.1]
theorem e_val (ρ : Nat) {M : MdM} (h : ER M) : ∃ r, Md_value ρ M = some r := by
  obtain ⟨-, s, p, h1, h2, h3, h4⟩ := h
  unfold Md_value
  rw [h3, lu]
  have go : ∀ (m k : Nat) (v : Int32), k ≤ p → p - k < m → ∃ r, Md_value_L7 ρ M m v (nI k) = some r := by
    intro m
    induction m with
    | zero => intro k v g1 g2; omega
    | succ m ih =>
      intro k v g1 g2
      unfold Md_value_L7
      rw [h4]
      by_cases hk : p ≤ k
      · rw [if_pos (nI_le hk (by omega))]
        exact ⟨_, rfl⟩
      · rw [if_neg (nI_ge (by omega) (by omega)), if_pos (q_in (by omega) (by omega)), q_cl (by omega), lu, nI_1]
        split
        · split
          · exact ih _ _ (by omega) (by omega)
          · exact ih _ _ (by omega) (by omega)
        · exact ⟨_, rfl⟩
  exact go FU s 0 h1 (FU_gt (by omega))
theorem e_look (ρ : Nat) {M : MdM} (h : ER M) (lo hi : Int32) : Md_look ρ M lo hi = some (lo, M) := by
  obtain ⟨r, hr⟩ := e_val ρ h
  unfold Md_look
  simp only [lu, e_dem ρ h, hr, bs]
  rw [if_neg h.1]
  split <;> rfl
theorem e_num (ρ : Nat) {M : MdM} (h : ER M) (lo hi : Int32) : Md_readNumber ρ M lo hi = some (lo, M) := by
  unfold Md_readNumber
  simp only [lu, e_look ρ h, e_adv ρ h, bs]
theorem e_isW (ρ : Nat) {M : MdM} (h : ER M) (cs : List Int32) : Md_isWord ρ cs M = some 0 := by
  unfold Md_isWord
  rw [if_neg h.1, bs, w_no]
theorem e_acc (ρ : Nat) {M : MdM} (h : ER M) (cs : List Int32) : Md_accept ρ cs M = some (0, M) := by
  unfold Md_accept
  rw [e_isW ρ h, bs, if_pos rfl, if_pos (Or.inl rfl)]
theorem e_exp (ρ : Nat) {M : MdM} (h : ER M) (x : Int32) : Md_expect ρ M x = some M := by
  unfold Md_expect Md_isSymbol
  rw [if_neg h.1, bs, lu, e_dem ρ h, e_adv ρ h, bs]
theorem e_mark (ρ : Nat) {M : MdM} (h : ER M) : Md_readNewMark ρ M = some (0, M) := by
  unfold Md_readNewMark
  simp only [lu, e_look ρ h, bs, e_dem ρ h, e_adv ρ h]
  rw [if_neg h.1]
theorem e_fold (ρ : Nat) {M : MdM} (h : ER M) : Md_readFolder ρ M = some M := by
  unfold Md_readFolder
  simp only [lu, if_neg h.1, bs, e_dem ρ h, e_adv ρ h, e_mark ρ h, e_acc ρ h, e_exp ρ h, if_true]
theorem e_L67 (ρ : Nat) {M : MdM} (h : ER M) (a c d e : Int32) : Md_readText_L67 ρ FU M a c d e = some M := by
  show Md_readText_L67 ρ (999 + 1) M a c d e = some M
  unfold Md_readText_L67
  rw [if_neg h.1]
/-- a number looked at -/
theorem s_look (h : TK b n W M s p) {lo hi : Nat} (h1 : lo ≤ hi) (h2 : hi ≤ 9999) : (∃ x, lo ≤ x ∧ x ≤ hi ∧ W.2.2.1 3 = 2 ∧ W.2.2.1 4 = nI x ∧ ∀ ρ, ρ < 2 → Md_look ρ M (nI lo) (nI hi) = some (nI x, M)) ∨
    (W.2.2.1 3 ≠ 2 ∧ ∀ ρ, ρ < 2 → Md_look ρ M (nI lo) (nI hi) = some (nI lo, Mf M 1)) ∨ (W.2.2.1 3 = 2 ∧ (W.2.2.1 4 < nI lo ∨ ¬ W.2.2.1 4 < nI lo ∧ ¬ W.2.2.1 4 ≤ nI hi) ∧ ∀ ρ, ρ < 2 → Md_look ρ M (nI lo) (nI hi) = some (nI lo, Mf M 2)) := by
  have h0 := h
  have er := fun c (hc : ¬ c = 0) => er_of h0 hc
  obtain ⟨hp, hsp, h2', h21, hk⟩ := h
  have a9 := hp.2.2.2.2.2.2.2.2.1
  have no : W.2.2.1 3 ≠ 2 → M.1 22 ≠ 2 → (W.2.2.1 3 ≠ 2 ∧ ∀ ρ, ρ < 2 → Md_look ρ M (nI lo) (nI hi) = some (nI lo, Mf M 1)) := by
    intro g1 g2
    refine ⟨g1, fun ρ hρ => ?_⟩
    obtain ⟨r, hr⟩ := e_val ρ (er 1 (by decide))
    unfold Md_look
    rw [if_neg g2]
    simp only [lu, d_no ρ a9, hr, bs, e_dem ρ (er 1 (by decide))]
    rw [if_neg (er 1 (by decide)).1]
  rcases hk with ⟨k1, k2⟩ | ⟨hsn, ⟨k1, k2⟩ | ⟨k1, k2, r, r1, r2, x, x1, x2, x3, x4⟩ | ⟨k1, k2, -⟩ | ⟨k1, k2, -⟩⟩
  · exact Or.inr (Or.inl (no (by rw [k1]; decide) (by rw [k2]; decide)))
  · exact Or.inr (Or.inl (no (by rw [k1]; decide) (by rw [k2]; decide)))
  · have hv : ∀ ρ, ρ < 2 → Md_value ρ M = some r := fun ρ hρ => by
      rcases (show ρ = 0 ∨ ρ = 1 by omega) with rfl | rfl
      · exact r1
      · exact r2
    have bad : Md_inRange r (nI lo) (nI hi) = 0 → ∀ ρ, ρ < 2 → Md_look ρ M (nI lo) (nI hi) = some (nI lo, Mf M 2) := fun g ρ hρ => by
      unfold Md_look
      rw [if_pos k2]
      simp only [lu, d_ok, hv ρ hρ, bs, g, d_no ρ a9]
      rw [if_neg (er 2 (by decide)).1]
    by_cases c1 : x < lo
    · refine Or.inr (Or.inr ⟨k1, Or.inl ?_, bad ?_⟩)
      · rw [x3 (by omega)]; exact nI_lt c1 (by omega)
      · rw [x2]; exact inr_lo (nI_lt c1 (by omega))
    · by_cases c2 : x ≤ hi
      · refine Or.inl ⟨x, by omega, c2, k1, x3 (by omega), fun ρ hρ => ?_⟩
        have g : Md_inRange r (nI lo) (nI hi) = 1 := by
          rw [x2]; exact inr_in (nI_nlt (by omega) (by omega)) (nI_nlt c2 (by omega))
        unfold Md_look
        rw [if_pos k2]
        simp only [lu, d_ok, hv ρ hρ, bs, g]
        rw [if_pos a9, x2]
      · refine Or.inr (Or.inr ⟨k1, Or.inr ?_, bad ?_⟩)
        · by_cases c3 : x < 1000000
          · rw [x3 c3]; exact ⟨nI_nlt (by omega) (by omega), nI_ge (by omega) (by omega)⟩
          · rw [x4 (by omega)]
            exact ⟨show ¬ nI 1000000 < nI lo from nI_nlt (by omega) (by omega), show ¬ nI 1000000 ≤ nI hi from nI_ge (by omega) (by omega)⟩
        · rw [x2]; exact inr_hi (nI_lt (by omega) (by omega))
  · exact Or.inr (Or.inl (no (by rw [k1]; decide) (by rw [k2]; decide)))
  · exact Or.inr (Or.inl (no (by rw [k1]; decide) (by rw [k2]; decide)))
/-- a number read: the component's next and test, the reference's scan and look -/
theorem p_num (h : PS b n W M p) {lo hi : Nat} (h1 : lo ≤ hi) (h2 : hi ≤ 9999) {ρ : Nat} (hρ : ρ < 2) : ∃ s q W' M', Md_scan ρ M = some M' ∧ TK b n W' M' s q ∧ FrW W W' ∧ FrM M M' ∧
    ((∃ x, lo ≤ x ∧ x ≤ hi ∧ Ps_readNumber W (nI lo) (nI hi) = some (1, W') ∧ W'.2.2.1 4 = nI x ∧ Md_look ρ M' (nI lo) (nI hi) = some (nI x, M')) ∨
     ∃ c, ¬ c = 0 ∧ Ps_readNumber W (nI lo) (nI hi) = some (0, Wf W' c) ∧ Md_look ρ M' (nI lo) (nI hi) = some (nI lo, Mf M' c)) := by
  obtain ⟨s, q, W', M', e1, e2, e3, e4, e5⟩ := s_tok (ρ := ρ) h
  refine ⟨s, q, W', M', e2, e3, e4, e5, ?_⟩
  unfold Ps_readNumber Tk_kind Tk_value
  simp only [e1, bs, lu, p_fail]
  rcases s_look e3 h1 h2 with ⟨x, x1, x2, x3, x4, x5⟩ | ⟨x1, x2⟩ | ⟨x1, x2, x3⟩
  · refine Or.inl ⟨x, x1, x2, ?_, x4, x5 ρ hρ⟩
    rw [if_pos x3, x4, if_neg (nI_nlt x1 (by omega)), if_pos (nI_le x2 (by omega))]
  · refine Or.inr ⟨1, by decide, ?_, x2 ρ hρ⟩
    rw [if_neg x1, if_pos (Or.inl trivial)]
  · refine Or.inr ⟨2, by decide, ?_, x3 ρ hρ⟩
    rw [if_pos x1]
    rcases x2 with x2 | ⟨x2, x4⟩
    · rw [if_pos x2, if_pos (Or.inl trivial)]
    · rw [if_neg x2, if_neg x4, if_pos (Or.inl trivial)]
/-- the sign behind an entry -/
theorem s_sym (h : TK b n W M s p) : (W.2.2.1 3 = 3 ∧ ∀ ρ, Md_isSymbol ρ M 59 = some 1) ∨ (W.2.2.1 3 ≠ 3 ∧ ∀ ρ, Md_isSymbol ρ M 59 = some 0) := by
  obtain ⟨hp, hsp, h2, h21, hk⟩ := h
  obtain ⟨a1, a2, a3, a4, a5, a6, a7, a8, a9, a10⟩ := hp
  have no : W.2.2.1 3 ≠ 3 → M.1 22 ≠ 3 → (W.2.2.1 3 ≠ 3 ∧ ∀ ρ, Md_isSymbol ρ M 59 = some 0) := fun g1 g2 => ⟨g1, fun ρ => by
    unfold Md_isSymbol
    rw [if_pos a9, if_neg g2]⟩
  rcases hk with ⟨k1, k2⟩ | ⟨hsn, ⟨k1, k2⟩ | ⟨k1, k2, -⟩ | ⟨k1, k2, k3⟩ | ⟨k1, k2, k3⟩⟩
  · exact Or.inr (no (by rw [k1]; decide) (by rw [k2]; decide))
  · exact Or.inr (no (by rw [k1]; decide) (by rw [k2]; decide))
  · exact Or.inr (no (by rw [k1]; decide) (by rw [k2]; decide))
  · refine Or.inl ⟨k1, fun ρ => ?_⟩
    unfold Md_isSymbol
    rw [if_pos a9, if_pos k2, h21, if_pos (q_in (by omega) (by omega)), q_cl (by omega), a10 s (by omega), if_pos k3]
  · refine Or.inr ⟨by rw [k1]; decide, fun ρ => ?_⟩
    unfold Md_isSymbol
    rw [if_pos a9, if_pos k2, h21, if_pos (q_in (by omega) (by omega)), q_cl (by omega), a10 s (by omega), if_neg k3]
/-- the end of an entry: its sign, and the token behind it -/
theorem p_end (h : TK b n W M s p) {ρ : Nat} : (∃ s' q W' M', Ps_isEnded W = some (1, W) ∧ Tk_next W = some W' ∧ Md_expect ρ M 59 = some M' ∧ TK b n W' M' s' q ∧ FrW W W' ∧ FrM M M') ∨ (Ps_isEnded W = some (0, Wf W 1) ∧ Md_expect ρ M 59 = some (Mf M 1)) := by
  have a9 := h.1.2.2.2.2.2.2.2.2.1
  unfold Ps_isEnded Tk_kind Md_expect
  rcases s_sym h with ⟨g1, g2⟩ | ⟨g1, g2⟩
  · obtain ⟨s', q, W', M', e1, e2, e3, e4, e5⟩ := s_tok (ρ := ρ) h.1
    refine Or.inl ⟨s', q, W', M', by rw [if_pos g1], e1, ?_, e3, e4, e5⟩
    rw [g2 ρ, bs, lu, d_ok]
    unfold Md_advance
    rw [if_pos a9, e2, bs, bs]
  · refine Or.inr ⟨?_, ?_⟩
    · simp only [lu, p_fail]
      rw [if_neg g1, if_pos trivial, bs, if_pos (Or.inl rfl)]
    · rw [g2 ρ, bs, lu, d_no ρ a9, e_adv ρ (er_of h (by decide)), bs]
end PW
