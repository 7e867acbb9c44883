/-! the text read in tokens -/
def TX (T B : List Int32) (M : WM) (pos : Nat) (R : List Int32) : Prop := M.2.1 0 = T ++ B ∧ M.2.2.1 0 = nI T.length ∧ M.2.2.1 1 = nI pos ∧ T.drop pos = R ∧ pos ≤ T.length ∧ T.length ≤ 600 ∧ B.length < 20
def NX (M M' : WM) (st kd : Nat) : Prop := M'.1 = M.1 ∧ M'.2.1 = M.2.1 ∧ M'.2.2.1 0 = M.2.2.1 0 ∧ M'.2.2.1 2 = nI st ∧ M'.2.2.1 3 = nI kd ∧ ∀ k, 5 ≤ k → M'.2.2.1 k = M.2.2.1 k
theorem wi_o (M : WM) {k j : Nat} (v : Int32) (h : j ≠ k) : (setWI M k v).2.2.1 j = M.2.2.1 j := if_neg h
theorem wi_s (M : WM) (k : Nat) (v : Int32) : (setWI M k v).2.2.1 k = v := by
  show va_up M.2.2.1 k v k = v
  exact if_pos rfl
section Tok
variable {T B : List Int32}
theorem tx_ch {M : WM} {pos : Nat} {c : Int32} {R : List Int32} (h : TX T B M pos (c :: R)) : pos < T.length ∧ lnget (M.2.1 0) (M.2.2.1 1) = c ∧ T.drop (pos + 1) = R := by
  obtain ⟨h1, h2, h3, h4, h5, h6, h7⟩ := h
  have hp : pos < T.length := by
    rcases Nat.lt_or_ge pos T.length with q | q
    · exact q
    · rw [List.drop_eq_nil_of_le q] at h4; cases h4
  have h8 := h4
  rw [List.drop_eq_getElem_cons hp] at h8
  obtain ⟨e1, e2⟩ := List.cons.inj h8
  refine ⟨hp, ?_, e2⟩
  rw [h1, h3, lg_in (by rw [List.length_append]; omega) (by rw [List.length_append]; omega), List.getD_eq_getElem?_getD, List.getElem?_append_left hp, List.getElem?_eq_getElem hp, ← e1]
  rfl
theorem tx_nil {M : WM} {pos : Nat} (h : TX T B M pos []) : pos = T.length := by
  have := List.drop_eq_nil_iff.mp h.2.2.2.1
  have := h.2.2.2.2.1
  omega
theorem tx_len {M : WM} {pos : Nat} {R : List Int32} (h : TX T B M pos R) : pos + R.length = T.length := by
  have := congrArg List.length h.2.2.2.1
  rw [List.length_drop] at this
  have := h.2.2.2.2.1
  omega
/-- the head of what is left is no letter (no digit) -/
def noL (f : Int32 → Int32) (R : List Int32) : Prop := ∀ c S, R = c :: S → f c = 0
theorem rd_word (hB : True) {R : List Int32} (hR : noL Tk_isLetter R) : ∀ (w : List Int32) (fuel pos : Nat) (M : WM), TX T B M pos (w ++ R) → (∀ c ∈ w, Tk_isLetter c = 1) → w.length < fuel → ∃ M', Tk_readWord_L5 fuel M = some M' ∧ TX T B M' (pos + w.length) R ∧ M'.1 = M.1 ∧ M'.2.1 = M.2.1 ∧ ∀ k, k ≠ 1 → M'.2.2.1 k = M.2.2.1 k := by
  intro w
  induction w with
  | nil =>
    intro fuel pos M h hw hf
    obtain ⟨fuel, rfl⟩ : ∃ k, fuel = k + 1 := ⟨fuel - 1, by omega⟩
    refine ⟨M, ?_, h, rfl, rfl, fun k _ => rfl⟩
    have h0 := h.2.1; have h1 := h.2.2.1; have h5 := h.2.2.2.2.1; have h6 := h.2.2.2.2.2.1
    have h : TX T B M pos R := h
    rw [Tk_readWord_L5]
    cases R with
    | nil =>
      have hp := tx_nil h
      rw [h0, h1, if_pos (show nI T.length ≤ nI pos by rw [hp]; exact Int32.le_refl _)]
    | cons c S =>
      obtain ⟨a, b, -⟩ := tx_ch h
      rw [b, h0, h1, if_neg (nI_ge a (by omega)), if_pos (hR c S rfl)]
  | cons c w ih =>
    intro fuel pos M h hw hf
    obtain ⟨fuel, rfl⟩ : ∃ k, fuel = k + 1 := ⟨fuel - 1, by omega⟩
    obtain ⟨a, b, e⟩ := tx_ch (R := w ++ R) h
    obtain ⟨h0, h1, h2, h3, h4, h5, h6⟩ := h
    have hf : w.length + 1 < fuel + 1 := hf
    obtain ⟨M', g1, g2, g3, g4, g5⟩ := ih fuel (pos + 1) (setWI M 1 (nI (pos + 1))) ⟨h0, h1, wi_s M 1 _, e, a, h5, h6⟩ (fun x hx => hw x (List.mem_cons_of_mem _ hx)) (by omega)
    refine ⟨M', ?_, by rw [List.length_cons, show pos + (w.length + 1) = pos + 1 + w.length by omega]; exact g2, g3, g4, fun k hk => (g5 k hk).trans (wi_o M _ hk)⟩
    rw [Tk_readWord_L5, b, h1, h2, if_neg (nI_ge a (by omega)), if_neg (by rw [hw c List.mem_cons_self]; decide), nI_1]
    exact g1
def vf (v c : Int32) : Int32 := if v * 10 + c - 48 < 1000000 then v * 10 + c - 48 else 1000000
theorem rd_num {R : List Int32} (hR : noL Tk_isDigit R) : ∀ (w : List Int32) (fuel pos : Nat) (M : WM), TX T B M pos (w ++ R) → (∀ c ∈ w, Tk_isDigit c = 1) → w.length < fuel → ∃ M', Tk_readNumber_L10 fuel M = some M' ∧ TX T B M' (pos + w.length) R ∧ M'.1 = M.1 ∧ M'.2.1 = M.2.1 ∧ M'.2.2.1 4 = w.foldl vf (M.2.2.1 4) ∧ ∀ k, k ≠ 1 → k ≠ 4 → M'.2.2.1 k = M.2.2.1 k := by
  intro w
  induction w with
  | nil =>
    intro fuel pos M h hw hf
    obtain ⟨fuel, rfl⟩ : ∃ k, fuel = k + 1 := ⟨fuel - 1, by omega⟩
    refine ⟨M, ?_, h, rfl, rfl, rfl, fun k _ _ => rfl⟩
    have h0 := h.2.1; have h1 := h.2.2.1; have h5 := h.2.2.2.2.1; have h6 := h.2.2.2.2.2.1
    have h : TX T B M pos R := h
    rw [Tk_readNumber_L10]
    cases R with
    | nil =>
      have hp := tx_nil h
      rw [h0, h1, if_pos (show nI T.length ≤ nI pos by rw [hp]; exact Int32.le_refl _)]
    | cons c S =>
      obtain ⟨a, b, -⟩ := tx_ch h
      rw [b, h0, h1, if_neg (nI_ge a (by omega)), if_pos (hR c S rfl)]
  | cons c w ih =>
    intro fuel pos M h hw hf
    obtain ⟨fuel, rfl⟩ : ∃ k, fuel = k + 1 := ⟨fuel - 1, by omega⟩
    obtain ⟨a, b, e⟩ := tx_ch (R := w ++ R) h
    obtain ⟨h0, h1, h2, h3, h4, h5, h6⟩ := h
    have hf : w.length + 1 < fuel + 1 := hf
    obtain ⟨M', g1, g2, g3, g4, g5, g6⟩ := ih fuel (pos + 1) (setWI (setWI M 4 (vf (M.2.2.1 4) c)) 1 (nI (pos + 1))) ⟨h0, h1, wi_s _ 1 _, e, a, h5, h6⟩ (fun x hx => hw x (List.mem_cons_of_mem _ hx)) (by omega)
    refine ⟨M', ?_, by rw [List.length_cons, show pos + (w.length + 1) = pos + 1 + w.length by omega]; exact g2, g3, g4, ?_, fun k hk hk4 => (g6 k hk hk4).trans ((wi_o _ _ hk).trans (wi_o M _ hk4))⟩
    · rw [Tk_readNumber_L10, b, h1, h2, if_neg (nI_ge a (by omega)), if_neg (by rw [hw c List.mem_cons_self]; decide), nI_1]
      exact g1
    · rw [g5]; rfl
/-- a token behind at most one blank -/
theorem nx_blank {M : WM} {pos : Nat} {R : List Int32} (h : TX T B M pos (32 :: R)) (n : Nat) : ∃ M', TX T B M' (pos + 1) R ∧ M'.1 = M.1 ∧ M'.2.1 = M.2.1 ∧ (∀ k, k ≠ 1 → M'.2.2.1 k = M.2.2.1 k) ∧ Tk_next_L0 (n + 1) M = Tk_next_L0 n M' := by
  obtain ⟨a, b, e⟩ := tx_ch h
  obtain ⟨h0, h1, h2, h3, h4, h5, h6⟩ := h
  refine ⟨setWI M 1 (nI (pos + 1)), ⟨h0, h1, wi_s M 1 _, e, a, h5, h6⟩, rfl, rfl, fun k hk => wi_o M _ hk, ?_⟩
  rw [Tk_next_L0, b, h1, h2, if_neg (nI_ge a (by omega)), if_neg (show ¬ Tk_isBlank 32 = 0 by decide), nI_1]
theorem nx_word0 {M : WM} {pos : Nat} {w R : List Int32} (hR : noL Tk_isLetter R) (h : TX T B M pos (w ++ R)) (hw : ∀ c ∈ w, Tk_isLetter c = 1) (hb : ∀ c ∈ w, Tk_isBlank c = 0) (h0 : w ≠ []) (n : Nat) : ∃ M', Tk_next_L0 (n + 1) M = some M' ∧ TX T B M' (pos + w.length) R ∧ NX M M' pos 1 ∧ M'.2.2.1 4 = M.2.2.1 4 := by
  obtain ⟨c, w', rfl⟩ : ∃ c w', w = c :: w' := by
    cases w with
    | nil => exact absurd rfl h0
    | cons c w' => exact ⟨c, w', rfl⟩
  obtain ⟨a, b, e⟩ := tx_ch (R := w' ++ R) h
  have hlen := tx_len h
  obtain ⟨g0, g1, g2, g3, g4, g5, g6⟩ := h
  obtain ⟨M', f1, f2, f3, f4, f5⟩ := rd_word True.intro hR (c :: w') FU pos (setWI (setWI M 2 (nI pos)) 3 1) ⟨g0, g1, g2, g3, g4, g5, g6⟩ hw (by
    rw [List.length_append] at hlen
    unfold FU; omega)
  refine ⟨M', ?_, f2, ⟨f3, f4, f5 0 (by omega), f5 2 (by omega), f5 3 (by omega), fun k hk => (f5 k (by omega)).trans ((wi_o _ _ (by omega)).trans (wi_o _ _ (by omega)))⟩, f5 4 (by omega)⟩
  rw [Tk_next_L0]
  simp only [ltb]
  rw [b, g1, g2, if_neg (nI_ge a (by omega)), if_pos (hb c List.mem_cons_self), if_pos (nI_lt a (by omega)), if_neg (by rw [hw c List.mem_cons_self]; decide)]
  unfold Tk_readWord
  rw [f1]
  rfl
theorem nx_num0 {M : WM} {pos : Nat} {w R : List Int32} (hR : noL Tk_isDigit R) (h : TX T B M pos (w ++ R)) (hw : ∀ c ∈ w, Tk_isDigit c = 1) (hb : ∀ c ∈ w, Tk_isBlank c = 0 ∧ Tk_isLetter c = 0) (h0 : w ≠ []) (n : Nat) : ∃ M', Tk_next_L0 (n + 1) M = some M' ∧ TX T B M' (pos + w.length) R ∧ NX M M' pos 2 ∧ M'.2.2.1 4 = w.foldl vf 0 := by
  obtain ⟨c, w', rfl⟩ : ∃ c w', w = c :: w' := by
    cases w with
    | nil => exact absurd rfl h0
    | cons c w' => exact ⟨c, w', rfl⟩
  obtain ⟨a, b, e⟩ := tx_ch (R := w' ++ R) h
  have hlen := tx_len h
  obtain ⟨g0, g1, g2, g3, g4, g5, g6⟩ := h
  obtain ⟨M', f1, f2, f3, f4, f45, f5⟩ := rd_num hR (c :: w') FU pos (setWI (setWI (setWI M 2 (nI pos)) 3 2) 4 0) ⟨g0, g1, g2, g3, g4, g5, g6⟩ hw (by
    rw [List.length_append] at hlen
    unfold FU; omega)
  refine ⟨M', ?_, f2, ⟨f3, f4, f5 0 (by omega) (by omega), f5 2 (by omega) (by omega), f5 3 (by omega) (by omega), fun k hk => (f5 k (by omega) (by omega)).trans ((wi_o _ _ (by omega)).trans ((wi_o _ _ (by omega)).trans (wi_o _ _ (by omega))))⟩, f45⟩
  rw [Tk_next_L0]
  simp only [ltb]
  rw [b, g1, g2, if_neg (nI_ge a (by omega)), if_pos (hb c List.mem_cons_self).1, if_pos (nI_lt a (by omega)), if_pos (hb c List.mem_cons_self).2, if_neg (by rw [hw c List.mem_cons_self]; decide)]
  unfold Tk_readNumber
  rw [f1]
  rfl
theorem nx_semi {M : WM} {pos : Nat} {R : List Int32} (h : TX T B M pos (59 :: R)) : ∃ M', Tk_next M = some M' ∧ TX T B M' (pos + 1) R ∧ NX M M' pos 3 ∧ M'.2.2.1 4 = M.2.2.1 4 := by
  obtain ⟨a, b, e⟩ := tx_ch h
  obtain ⟨g0, g1, g2, g3, g4, g5, g6⟩ := h
  refine ⟨setWI (setWI (setWI M 2 (nI pos)) 3 3) 1 (nI (pos + 1)), ?_, ⟨g0, g1, rfl, e, a, g5, g6⟩, ⟨rfl, rfl, rfl, rfl, rfl, fun k hk => (wi_o _ _ (by omega)).trans ((wi_o _ _ (by omega)).trans (wi_o _ _ (by omega)))⟩, rfl⟩
  unfold Tk_next
  rw [show FU = 999 + 1 from rfl, Tk_next_L0]
  simp only [ltb]
  rw [b, g1, g2, if_neg (nI_ge a (by omega)), if_pos (show Tk_isBlank 59 = 0 by decide), if_pos (nI_lt a (by omega)), if_pos (show Tk_isLetter 59 = 0 by decide), if_pos (show Tk_isDigit 59 = 0 by decide), if_pos (show (59 : Int32) = 59 from rfl), nI_1]
  rfl
theorem nx_end {M : WM} {pos : Nat} (h : TX T B M pos []) : ∃ M', Tk_next M = some M' ∧ NX M M' pos 0 := by
  have hp := tx_nil h
  obtain ⟨g0, g1, g2, g3, g4, g5, g6⟩ := h
  refine ⟨setWI (setWI M 2 (nI pos)) 3 0, ?_, ⟨rfl, rfl, rfl, rfl, rfl, fun k hk => (wi_o _ _ (by omega)).trans (wi_o _ _ (by omega))⟩⟩
  unfold Tk_next
  rw [show FU = 999 + 1 from rfl, Tk_next_L0]
  simp only [ltb]
  rw [g1, g2, if_pos (show nI T.length ≤ nI pos by rw [hp]; exact Int32.le_refl _), if_neg (show ¬ nI pos < nI T.length by rw [hp]; exact fun z => Int32.lt_irrefl z)]
end Tok
