/-! the text of format; the two measures -/
def dgt (m u : Nat) : Int32 := nI (48 + m / u % 10)
def dgs (m : Nat) : List Int32 := if m < 10 then [dgt m 1] else if m < 100 then [dgt m 10, dgt m 1] else if m < 1000 then [dgt m 100, dgt m 10, dgt m 1] else [dgt m 1000, dgt m 100, dgt m 10, dgt m 1]
theorem dgs_len (m : Nat) : (dgs m).length ≤ 4 := by
  unfold dgs
  split
  · simp
  · split
    · simp
    · split <;> simp
theorem dgt_e {m u : Nat} (hm : m ≤ 9999) (hu : 0 < u) (hu2 : u ≤ 1000) : (48 : Int32) + ((nI m / nI u) - (nI m / nI u) / 10 * 10) = dgt m u := by
  have hd : m / u ≤ m := Nat.div_le_self _ _
  rw [pk_div (by omega) hu (by omega), show (10 : Int32) = nI 10 from rfl, pk_rem (by omega) (by omega) (by omega), show (48 : Int32) = nI 48 from rfl, nI_add]
  rfl
theorem wl1 (W : WM) (a b : List Int32) : setWL (setWL W 1 a) 1 b = setWL W 1 b := Prod.ext rfl (Prod.ext (funext fun j => by
  show (if j = 1 then b else if j = 1 then a else _) = (if j = 1 then b else _)
  by_cases c : j = 1
  · rw [if_pos c, if_pos c]
  · rw [if_neg c, if_neg c, if_neg c]) rfl)
theorem ws1 (W : WM) (a : List Int32) : (setWL W 1 a).2.1 1 = a := rfl
theorem wi1 (W : WM) : setWL W 1 (W.2.1 1) = W := Prod.ext rfl (Prod.ext (funext fun j => by
  show (if j = 1 then W.2.1 1 else W.2.1 j) = W.2.1 j
  by_cases c : j = 1
  · rw [if_pos c, c]
  · rw [if_neg c]) rfl)
theorem s_number (W : WM) (xs : List Int32) (hl : xs.length + 4 ≤ 128) {m : Nat} (hm : m ≤ 9999) : SA_appendNumber (setWL W 1 xs) (nI m) = some (setWL W 1 (xs ++ dgs m)) := by
  have yes : ∀ (n u : Nat) (ys : List Int32), ys.length < 128 → 0 < u → u ≤ 1000 → (u ≤ m ∨ u = 1) → SA_appendNumber_L4 (n + 1) (setWL W 1 ys) (nI m) (nI u) = SA_appendNumber_L4 n (setWL W 1 (ys ++ [dgt m u])) (nI m) (nI (u / 10)) := by
    intro n u ys h1 h2 h3 h4
    show (if nI u ≤ 0 then _ else _) = _
    rw [if_neg (nI_nle h2 (by omega)), ws1, dgt_e hm h2 h3, la_in _ h1, wl1, show (10 : Int32) = nI 10 from rfl, pk_div (by omega) (by omega) (by omega)]
    simp only [lu]
    by_cases h5 : u ≤ m
    · rw [if_pos (nI_le h5 (by omega))]
    · rw [if_neg (nI_ge (by omega) (by omega)), if_pos (show nI u = (1 : Int32) by rw [show u = 1 by omega]; rfl)]
  have no : ∀ (n u : Nat) (ys : List Int32), 1 < u → u ≤ 1000 → ¬ u ≤ m → SA_appendNumber_L4 (n + 1) (setWL W 1 ys) (nI m) (nI u) = SA_appendNumber_L4 n (setWL W 1 ys) (nI m) (nI (u / 10)) := by
    intro n u ys h2 h3 h4
    show (if nI u ≤ 0 then _ else _) = _
    rw [if_neg (nI_nle (by omega) (by omega)), if_neg (nI_ge (by omega) (by omega)), if_neg (show ¬ nI u = (1 : Int32) from fun q => absurd ((q_eq (b := 1) (by omega) (by omega)).mp q) (by omega)), show (10 : Int32) = nI 10 from rfl, pk_div (by omega) (by omega) (by omega), lu]
  have nd : ∀ (n : Nat) (ys : List Int32), SA_appendNumber_L4 (n + 1) (setWL W 1 ys) (nI m) (nI 0) = some (setWL W 1 ys) := by
    intro n ys
    show (if nI 0 ≤ 0 then _ else _) = _
    rw [if_pos (by decide)]
  show SA_appendNumber_L4 (995 + 1 + 1 + 1 + 1 + 1) (setWL W 1 xs) (nI m) (nI 1000) = _
  unfold dgs
  by_cases c1 : m < 10
  · rw [no _ 1000 _ (by omega) (by omega) (by omega), no _ _ _ (by omega) (by omega) (by omega), no _ _ _ (by omega) (by omega) (by omega), yes _ _ _ (by omega) (by omega) (by omega) (Or.inr rfl), nd, if_pos c1]
  · rw [if_neg c1]
    by_cases c2 : m < 100
    · rw [no _ 1000 _ (by omega) (by omega) (by omega), no _ _ _ (by omega) (by omega) (by omega), yes _ _ _ (by omega) (by omega) (by omega) (by omega), yes _ _ _ (by simp; omega) (by omega) (by omega) (by omega), nd, if_pos c2, List.append_assoc]
      rfl
    · rw [if_neg c2]
      by_cases c3 : m < 1000
      · rw [no _ 1000 _ (by omega) (by omega) (by omega), yes _ _ _ (by omega) (by omega) (by omega) (by omega), yes _ _ _ (by simp; omega) (by omega) (by omega) (by omega), yes _ _ _ (by simp; omega) (by omega) (by omega) (by omega), nd, if_pos c3, List.append_assoc, List.append_assoc]
        rfl
      · rw [yes _ 1000 _ (by omega) (by omega) (by omega) (by omega), yes _ _ _ (by simp; omega) (by omega) (by omega) (by omega), yes _ _ _ (by simp; omega) (by omega) (by omega) (by omega), yes _ _ _ (by simp; omega) (by omega) (by omega) (by omega), nd, if_neg c3, List.append_assoc, List.append_assoc, List.append_assoc]
        rfl
/-- the reference's text so far -/
def FmtS (l : List Int32) (M : MdM) : Prop := M.1 16 = nI l.length ∧ ∀ i, i < l.length → M.2 9 i = l.getD i 0
def FrF (M M' : MdM) : Prop := (∀ k, k ≠ 16 → M'.1 k = M.1 k) ∧ ∀ j, j ≠ 9 → M'.2 j = M.2 j
theorem FrF.rf (M : MdM) : FrF M M := ⟨fun _ _ => rfl, fun _ _ => rfl⟩
theorem FrF.tr {M M' M'' : MdM} (h : FrF M M') (h' : FrF M' M'') : FrF M M'' := ⟨fun k a => (h'.1 k a).trans (h.1 k a), fun j a => (h'.2 j a).trans (h.2 j a)⟩
theorem m_write {M : MdM} {l : List Int32} (h : FmtS l M) (hl : l.length < 200) (v : Int32) : ∃ M', Md_write 0 M v = some M' ∧ FmtS (l ++ [v]) M' ∧ FrF M M' := by
  obtain ⟨h1, h2⟩ := h
  unfold Md_write
  rw [h1, if_pos (q_in hl (by omega)), q_cl (by omega), nI_1]
  refine ⟨_, rfl, ⟨by rw [setF_s, List.length_append, List.length_singleton], fun i hi => ?_⟩, fun k hk => setF_n _ _ hk, fun j hj => setA_n _ _ hj⟩
  rw [List.length_append, List.length_singleton] at hi
  show (setA M 9 _).2 9 i = _
  rw [setA_s, gd_app1 i (by omega)]
  by_cases c : i = l.length
  · rw [if_pos c, c]; exact if_pos rfl
  · rw [if_neg c, ← h2 i (by omega)]; exact if_neg c
theorem m_number {M : MdM} {l : List Int32} (h : FmtS l M) (hl : l.length + 4 ≤ 200) {m : Nat} (hm : m ≤ 9999) : ∃ M', Md_writeNumber 0 M (nI m) = some M' ∧ FmtS (l ++ dgs m) M' ∧ FrF M M' := by
  have w0 : ∀ (n : Nat) (p : Int32) (M : MdM), Md_writeNumber_L20 0 (n + 1) M (nI m) p (nI 0) = some M := by
    intro n p M
    show (if nI 0 ≤ 0 then _ else _) = _
    rw [if_pos (by decide)]
  have w1 : ∀ (n u : Nat) (p : Int32) (M : MdM) (ys : List Int32), FmtS ys M → ys.length < 200 → 0 < u → u ≤ 1000 → ∃ M1, FmtS (ys ++ [dgt m u]) M1 ∧ FrF M M1 ∧ Md_writeNumber_L20 0 (n + 1) M (nI m) p (nI u) = Md_writeNumber_L20 0 n M1 (nI m) p (nI (u / 10)) := by
    intro n u p M ys g1 g2 g3 g4
    obtain ⟨M1, e1, e2, e3⟩ := m_write g1 g2 (dgt m u)
    refine ⟨M1, e2, e3, ?_⟩
    show (if nI u ≤ 0 then _ else _) = _
    rw [if_neg (nI_nle g3 (by omega)), dgt_e hm g3 g4, e1, bs, lu, show (10 : Int32) = nI 10 from rfl, pk_div (by omega) (by omega) (by omega)]
  have pw : ∀ (n p : Nat), 0 < p → p ≤ 1000 → Md_writeNumber_L2 0 (n + 1) M (nI m) (nI p) = if m / p ≤ 9 then Md_writeNumber_L20 0 FU M (nI m) (nI p) (nI p) else Md_writeNumber_L2 0 n M (nI m) (nI (p * 10)) := by
    intro n p g1 g2
    have hd : m / p ≤ m := Nat.div_le_self _ _
    show (if ¬ nI p = 0 then _ else none) = _
    rw [if_pos (nI_ne0 g1 (by omega)), pk_div (by omega) g1 (by omega), show (10 : Int32) = nI 10 from rfl, pk_mul, lu]
    by_cases c : m / p ≤ 9
    · rw [if_pos (show nI (m / p) ≤ (9 : Int32) from nI_le (b := 9) c (by omega)), if_pos c]
    · rw [if_neg (show ¬ nI (m / p) ≤ (9 : Int32) from nI_ge (a := 9) (by omega) (by omega)), if_neg c]
  show ∃ M', Md_writeNumber_L2 0 (996 + 1 + 1 + 1 + 1) M (nI m) (nI 1) = some M' ∧ _
  have hF : FU = 995 + 1 + 1 + 1 + 1 + 1 := rfl
  unfold dgs
  by_cases c1 : m < 10
  · rw [pw _ 1 (by omega) (by omega), if_pos (by omega), if_pos c1, hF]
    obtain ⟨M1, a1, b1, e1⟩ := w1 999 1 (nI 1) M l h (by omega) (by omega) (by omega)
    rw [e1, show 1 / 10 = 0 from rfl, w0]
    exact ⟨M1, rfl, a1, b1⟩
  · rw [if_neg c1]
    by_cases c2 : m < 100
    · rw [pw _ 1 (by omega) (by omega), if_neg (by omega), pw _ _ (by omega) (by omega), if_pos (by omega), if_pos c2, hF]
      obtain ⟨M1, a1, b1, e1⟩ := w1 999 10 (nI (1 * 10)) M l h (by omega) (by omega) (by omega)
      obtain ⟨M2, a2, b2, e2⟩ := w1 998 1 (nI (1 * 10)) M1 _ a1 (by simp; omega) (by omega) (by omega)
      rw [show Md_writeNumber_L20 0 (995 + 1 + 1 + 1 + 1 + 1) M (nI m) (nI (1 * 10)) (nI (1 * 10)) = _ from e1, show 10 / 10 = 1 from rfl, e2, show 1 / 10 = 0 from rfl, w0]
      rw [List.append_assoc] at a2
      exact ⟨M2, rfl, a2, b1.tr b2⟩
    · rw [if_neg c2]
      by_cases c3 : m < 1000
      · rw [pw _ 1 (by omega) (by omega), if_neg (by omega), pw _ _ (by omega) (by omega), if_neg (by omega), pw _ _ (by omega) (by omega), if_pos (by omega), if_pos c3, hF]
        obtain ⟨M1, a1, b1, e1⟩ := w1 999 100 (nI (1 * 10 * 10)) M l h (by omega) (by omega) (by omega)
        obtain ⟨M2, a2, b2, e2⟩ := w1 998 10 (nI (1 * 10 * 10)) M1 _ a1 (by simp; omega) (by omega) (by omega)
        obtain ⟨M3, a3, b3, e3⟩ := w1 997 1 (nI (1 * 10 * 10)) M2 _ a2 (by simp; omega) (by omega) (by omega)
        rw [show Md_writeNumber_L20 0 (995 + 1 + 1 + 1 + 1 + 1) M (nI m) (nI (1 * 10 * 10)) (nI (1 * 10 * 10)) = _ from e1, show 100 / 10 = 10 from rfl, e2, show 10 / 10 = 1 from rfl, e3, show 1 / 10 = 0 from rfl, w0]
        rw [List.append_assoc, List.append_assoc] at a3
        exact ⟨M3, rfl, a3, (b1.tr b2).tr b3⟩
      · rw [pw _ 1 (by omega) (by omega), if_neg (by omega), pw _ _ (by omega) (by omega), if_neg (by omega), pw _ _ (by omega) (by omega), if_neg (by omega), pw _ _ (by omega) (by omega), if_pos (by omega), if_neg c3, hF]
        obtain ⟨M1, a1, b1, e1⟩ := w1 999 1000 (nI (1 * 10 * 10 * 10)) M l h (by omega) (by omega) (by omega)
        obtain ⟨M2, a2, b2, e2⟩ := w1 998 100 (nI (1 * 10 * 10 * 10)) M1 _ a1 (by simp; omega) (by omega) (by omega)
        obtain ⟨M3, a3, b3, e3⟩ := w1 997 10 (nI (1 * 10 * 10 * 10)) M2 _ a2 (by simp; omega) (by omega) (by omega)
        obtain ⟨M4, a4, b4, e4⟩ := w1 996 1 (nI (1 * 10 * 10 * 10)) M3 _ a3 (by simp; omega) (by omega) (by omega)
        rw [show Md_writeNumber_L20 0 (995 + 1 + 1 + 1 + 1 + 1) M (nI m) (nI (1 * 10 * 10 * 10)) (nI (1 * 10 * 10 * 10)) = _ from e1, show 1000 / 10 = 100 from rfl, e2, show 100 / 10 = 10 from rfl, e3, show 10 / 10 = 1 from rfl, e4, show 1 / 10 = 0 from rfl, w0]
        rw [List.append_assoc, List.append_assoc, List.append_assoc] at a4
        exact ⟨M4, rfl, a4, ((b1.tr b2).tr b3).tr b4⟩
section FM
variable {H : Int32} {A : StM} {f : Nat → Int32}
theorem RI.both (h : RI H A f) : (A.2 7).length + (A.2 10).length ≤ 24 := by
  have hz := h.sz.fo
  have hn : (A.2 7 ++ A.2 10).Nodup := by
    refine List.nodup_append.mpr ⟨h.fd.1, h.fd.2.1, fun a ha b hb e => ?_⟩
    subst e
    obtain ⟨k, c1, c2, c3⟩ := h.fd.2.2.1 _ ha
    obtain ⟨k', d1, d2, d3⟩ := h.fd.2.2.2.1 _ hb
    have : k = k' := (q_eq (by omega) (by omega)).mp (c2.symm.trans d2)
    subst this
    rw [c3] at d3
    exact absurd d3 (by decide)
  have := nd_len (A.2 0).length hn (fun x hx => by
    rcases List.mem_append.mp hx with hx | hx
    · obtain ⟨k, c1, c2, -⟩ := h.fd.2.2.1 _ hx
      exact ⟨k, c1, c2⟩
    · obtain ⟨k, c1, c2, -⟩ := h.fd.2.2.2.1 _ hx
      exact ⟨k, c1, c2⟩)
  rw [List.length_append] at this
  omega
theorem RI.mark (h : RI H A f) {k : Nat} (hk : k < (A.2 0).length) : ∃ m, m ≤ 9999 ∧ (A.2 0).getD k 0 = nI m := h.mk.2 _ (gd_mem hk)
theorem s_fmt2 (W : WM) (h : RI H (W.1 9) f) : ∀ (n i : Nat) (xs : List Int32) (M : MdM), M.2 0 = f → ((W.1 9).2 10).length - i < n → i ≤ ((W.1 9).2 10).length → xs.length + 5 * (((W.1 9).2 10).length - i) ≤ 128 → FmtS xs M → ∃ ys M', SA_format_L90 n (setWL W 1 xs) (nI i) = some (nI ys.length, setWL W 1 ys) ∧ Md_format_L71 0 n M (nI i) = some (nI ys.length, M') ∧ ys.length ≤ 128 ∧ FmtS ys M' ∧ FrF M M' := by
  have zt := h.sz.t
  have zf := h.sz.fo
  intro n
  induction n with
  | zero => intro i xs M h0 h1; omega
  | succ n ih =>
    intro i xs M h0 h1 h2 h3 h4
    have hR : RI H (W.1 9) (M.2 0) := by rw [h0]; exact h
    unfold SA_format_L90 Md_format_L71
    rw [show ((setWL W 1 xs).1 9) = W.1 9 from rfl, ws1, tn7, hR.rel.nt]
    by_cases hi : ((W.1 9).2 10).length ≤ i
    · rw [if_pos ((q_le (by omega) (by omega)).mpr hi), if_pos ((q_le (by omega) (by omega)).mpr hi), h4.1]
      exact ⟨xs, M, rfl, rfl, by omega, h4, FrF.rf M⟩
    · have hn : ¬ nI ((W.1 9).2 10).length ≤ nI i := fun q => hi ((q_le (by omega) (by omega)).mp q)
      obtain ⟨k, hk, ek, -⟩ := hR.trk (p := i) (by omega)
      obtain ⟨m, hm, em⟩ := hR.mark hk
      have hdl := dgs_len m
      rw [if_neg hn, if_neg hn, lg_in (xs := (W.1 9).2 10) (by omega) (by omega), ek, lg_in (xs := (W.1 9).2 0) hk (by omega), em, show (169 : Int32) = nI 169 from rfl, nI_add, nI_1, wl1]
      by_cases h00 : i = 0
      · rw [if_pos (show nI i ≤ 0 by rw [h00]; decide), if_pos (show nI i ≤ 0 by rw [h00]; decide), s_number W xs (by omega) hm, bs, if_pos (q_in (by omega) (by omega)), q_cl (by omega), hR.trol (by omega), ek, of0 (by omega), bs, hR.rel.mk k hk, em]
        obtain ⟨M1, e1, e2, e3⟩ := m_number h4 (by omega) hm
        rw [e1, bs]
        obtain ⟨ys, M', g1, g2, g3, g4, g5⟩ := ih (i + 1) (xs ++ dgs m) M1 ((e3.2 0 (by decide)).trans h0) (by omega) (by omega) (by rw [List.length_append]; omega) e2
        exact ⟨ys, M', g1, g2, g3, g4, e3.tr g5⟩
      · rw [if_neg (nI_nle (by omega) (by omega)), if_neg (nI_nle (by omega) (by omega)), la_in (xs := xs) _ (by omega), s_number W (xs ++ [32]) (by rw [List.length_append, List.length_singleton]; omega) hm, bs]
        obtain ⟨M0, d1, d2, d3⟩ := m_write h4 (by omega) 32
        have hR0 : RI H (W.1 9) (M0.2 0) := by rw [d3.2 0 (by decide)]; exact hR
        rw [d1, bs, if_pos (q_in (by omega) (by omega)), q_cl (by omega), hR0.trol (by omega), ek, of0 (by omega), bs, hR0.rel.mk k hk, em]
        obtain ⟨M1, e1, e2, e3⟩ := m_number d2 (by rw [List.length_append, List.length_singleton]; omega) hm
        rw [e1, bs]
        obtain ⟨ys, M', g1, g2, g3, g4, g5⟩ := ih (i + 1) (xs ++ [32] ++ dgs m) M1 ((e3.2 0 (by decide)).trans ((d3.2 0 (by decide)).trans h0)) (by omega) (by omega) (by rw [List.length_append, List.length_append, List.length_singleton]; omega) e2
        exact ⟨ys, M', g1, g2, g3, g4, (d3.tr e3).tr g5⟩
theorem s_fmt1 (W : WM) (h : RI H (W.1 9) f) : ∀ (n i : Nat) (xs : List Int32) (M : MdM), M.2 0 = f → ((W.1 9).2 7).length - i < n → i ≤ ((W.1 9).2 7).length → xs.length + 5 * (((W.1 9).2 7).length - i) + 1 + 5 * ((W.1 9).2 10).length ≤ 128 → FmtS xs M → ∃ ys M', SA_format_L9 n (setWL W 1 xs) (nI i) = some (nI ys.length, setWL W 1 ys) ∧ Md_format_L12 0 n M (nI i) = some (nI ys.length, M') ∧ ys.length ≤ 128 ∧ FmtS ys M' ∧ FrF M M' := by
  have zl := h.sz.l
  have zt := h.sz.t
  have zf := h.sz.fo
  intro n
  induction n with
  | zero => intro i xs M h0 h1; omega
  | succ n ih =>
    intro i xs M h0 h1 h2 h3 h4
    have hR : RI H (W.1 9) (M.2 0) := by rw [h0]; exact h
    unfold SA_format_L9 Md_format_L12
    rw [show ((setWL W 1 xs).1 9) = W.1 9 from rfl, ws1, tn6, hR.rel.nl]
    by_cases hi : ((W.1 9).2 7).length ≤ i
    · rw [if_pos ((q_le (by omega) (by omega)).mpr hi), if_pos ((q_le (by omega) (by omega)).mpr hi), la_in (xs := xs) _ (by omega), wl1]
      obtain ⟨M0, d1, d2, d3⟩ := m_write h4 (by omega) 124
      rw [d1, bs]
      obtain ⟨ys, M', g1, g2, g3, g4, g5⟩ := s_fmt2 W h FU 0 (xs ++ [124]) M0 ((d3.2 0 (by decide)).trans h0) (FU_gt (by omega)) (Nat.zero_le _) (by rw [List.length_append, List.length_singleton]; omega) d2
      exact ⟨ys, M', g1, g2, g3, g4, d3.tr g5⟩
    · have hn : ¬ nI ((W.1 9).2 7).length ≤ nI i := fun q => hi ((q_le (by omega) (by omega)).mp q)
      obtain ⟨k, hk, ek, em1⟩ := markAt_k hR.w (p := i) (by omega)
      obtain ⟨m, hm, em⟩ := hR.mark hk
      have hma : Rw_markAt (W.1 9) (nI i) = nI m := em1.trans em
      have hdl := dgs_len m
      rw [if_neg hn, if_neg hn, hma, nI_1]
      by_cases h00 : i = 0
      · rw [if_pos (show nI i ≤ 0 by rw [h00]; decide), if_pos (show nI i ≤ 0 by rw [h00]; decide), s_number W xs (by omega) hm, bs, m_markAt hR.w (by omega), bs, hma]
        obtain ⟨M1, e1, e2, e3⟩ := m_number h4 (by omega) hm
        rw [e1, bs]
        obtain ⟨ys, M', g1, g2, g3, g4, g5⟩ := ih (i + 1) (xs ++ dgs m) M1 ((e3.2 0 (by decide)).trans h0) (by omega) (by omega) (by rw [List.length_append]; omega) e2
        exact ⟨ys, M', g1, g2, g3, g4, e3.tr g5⟩
      · obtain ⟨i, rfl⟩ : ∃ q, i = q + 1 := ⟨i - 1, by omega⟩
        rw [if_neg (nI_nle (by omega) (by omega)), if_neg (nI_nle (by omega) (by omega)), nI_pred, m_isWrong hR (by omega), bs]
        have sep : ∀ b : Int32, ∃ ys M', (Option.bind (SA_appendNumber (setWL W 1 (lnadd 128 xs b)) (nI m)) fun M_1590 => SA_format_L9 n M_1590 (nI (i + 1 + 1))) = some (nI ys.length, setWL W 1 ys) ∧ (Option.bind (Md_write 0 M b) fun M_960 => Option.bind (Md_markAt 0 M_960 (nI (i + 1))) fun q_961 => Option.bind (Md_writeNumber 0 M_960 q_961) fun M_962 => Md_format_L12 0 n M_962 (nI (i + 1 + 1))) = some (nI ys.length, M') ∧ ys.length ≤ 128 ∧ FmtS ys M' ∧ FrF M M' := by
          intro b
          obtain ⟨M0, d1, d2, d3⟩ := m_write h4 (by omega) b
          have hR0 : RI H (W.1 9) (M0.2 0) := by rw [d3.2 0 (by decide)]; exact hR
          obtain ⟨M1, e1, e2, e3⟩ := m_number d2 (by rw [List.length_append, List.length_singleton]; omega) hm
          obtain ⟨ys, M', g1, g2, g3, g4, g5⟩ := ih (i + 1 + 1) (xs ++ [b] ++ dgs m) M1 ((e3.2 0 (by decide)).trans ((d3.2 0 (by decide)).trans h0)) (by omega) (by omega) (by rw [List.length_append, List.length_append, List.length_singleton]; omega) e2
          rw [la_in (xs := xs) _ (by omega), s_number W (xs ++ [b]) (by rw [List.length_append, List.length_singleton]; omega) hm, bs, d1, bs, m_markAt hR0.w (by omega), bs, hma, e1, bs]
          exact ⟨ys, M', g1, g2, g3, g4, (d3.tr e3).tr g5⟩
        by_cases hw : Rw_isWrong (W.1 9) (nI (i + 1)) = 0
        · rw [if_pos hw, if_pos hw, bs, wl1]
          exact sep 32
        · rw [if_neg hw, if_neg hw, bs, wl1]
          exact sep 33
theorem f_format {W : WM} {M : MdM} (h : WRel W M) : P3 (SA_format W) (Md_format 0 M) := by
  have hb := h.1.1.both
  have zl := h.1.1.sz.l
  obtain ⟨b1, b2, ⟨a, c, c1, c2, c3, c4, c5, c6⟩, b4, b5, b6, b7⟩ := h
  unfold SA_format Md_format
  obtain ⟨ys, M', g1, g2, g3, g4, g5⟩ := s_fmt1 W b1.1 FU 0 [] (setF (setF M 9 0) 16 0) rfl (FU_gt (by omega)) (Nat.zero_le _) (by show 0 + _ + 1 + _ ≤ 128; omega) ⟨setF_s _ _ _, fun i hi => absurd hi (Nat.not_lt_zero i)⟩
  have i1 : ∀ k, k ≠ 16 → k ≠ 9 → M'.1 k = M.1 k := fun k p q => (g5.1 k p).trans ((setF_n _ _ p).trans (setF_n _ _ q))
  have i2 : ∀ j, j ≠ 9 → M'.2 j = M.2 j := fun j p => g5.2 j p
  refine ⟨_, _, M', g1, g2, by rw [i2 0 (by decide)]; exact b1, by unfold LasR; rw [i2 6 (by decide)]; exact b2, ⟨a, c, c1, c2, c3, c4, (i1 8 (by decide) (by decide)).trans c5, fun k hk => by rw [i2 5 (by decide)]; exact c6 k hk⟩, by unfold SnaR; rw [i1 10 (by decide) (by decide), i2 4 (by decide)]; exact b4, by unfold BufR; rw [i1 18 (by decide) (by decide), i2 10 (by decide)]; exact b5, ?_, by rw [i1 25 (by decide) (by decide)]; exact b7⟩
  unfold FmtR
  rw [ws1]
  exact ⟨g3, g4.1, g4.2⟩
/-! measures: the same words of bits, and no NaN -/
theorem f_foundShare {W : WM} {M : MdM} (h : WRel W M) : ∃ v W' M', SA_foundShare W = some (v, W') ∧ Md_foundShare 0 M = some (v, M') ∧ WRel W' M' ∧ isNaN64 (FP.f2d v) = false := by
  have zl := h.1.1.sz.l
  have hR := h.t9 0
  unfold SA_foundShare Md_foundShare
  rw [lu, tn6, h.1.1.rel.nl]
  by_cases h0 : ((W.1 9).2 7).length = 0
  · rw [h0, if_pos (by decide), if_pos (by decide)]
    exact ⟨_, _, _, rfl, rfl, h.thr 0, by decide +kernel⟩
  · have hne : ¬ nI ((W.1 9).2 7).length = 0 := nI_ne0 (by omega) (by omega)
    obtain ⟨v, L, M', e1, e2, e3, e4, e5⟩ := s_missed hR (by decide)
    rw [if_neg hne, if_neg hne, e1, e2, bs, bs, e5, hR.rel.nl, pk_sub e3]
    have q := fz_fdiv (((W.1 9).2 7).length - v) (by omega) ((W.1 9).2 7).length (by omega) h0
    change isNaN32 (FP.fdiv (FP.i2f (nI (((W.1 9).2 7).length - v))) (FP.i2f (nI ((W.1 9).2 7).length))) = false ∧ isNaN64 (FP.f2d (FP.fdiv (FP.i2f (nI (((W.1 9).2 7).length - v))) (FP.i2f (nI ((W.1 9).2 7).length)))) = false at q
    obtain ⟨q1, q2⟩ := q
    rw [if_pos q1, if_pos q1]
    exact ⟨_, _, _, rfl, rfl, h.sm e4 (by rw [e5]; exact h.1.l8 L), q2⟩
theorem f_meanWait {W : WM} {M : MdM} (h : WRel W M) : ∃ v M', SA_meanWait W = some v ∧ Md_meanWait 0 M = some (v, M') ∧ WRel W M' ∧ isNaN64 v = false := by
  have hR := h.t9 0
  have z := hR.sz.e15
  unfold SA_meanWait Md_meanWait
  rw [lu, show lnget ((W.1 9).2 15) 4 = _ from lg_in (i := 4) (by omega) (by omega), show lnget ((W.1 9).2 15) 10 = _ from lg_in (i := 10) (by omega) (by omega), show Md_tallied 0 (setF M 9 0) 4 = _ from e_tallied (a := 4) (by omega) (by omega), bs, show Md_tallied 0 (setF M 9 0) 10 = _ from e_tallied (a := 10) (by omega) (by omega), hR.rel.ac 4 (by omega) (by omega), hR.rel.ac 10 (by omega) (by omega)]
  by_cases h0 : ((W.1 9).2 15).getD 4 0 = 0
  · rw [if_pos h0, if_pos h0]
    exact ⟨_, _, rfl, rfl, h.thr 0, by decide +kernel⟩
  · have := fz_ddiv (((W.1 9).2 15).getD 10 0) (((W.1 9).2 15).getD 4 0) h0
    rw [if_neg h0, if_neg h0, bs, if_pos this, if_pos this]
    exact ⟨_, _, rfl, rfl, h.thr 0, this⟩
end FM
