/-! the text of format; the two measures -/
def dgt (m u : Nat) : Int32 := nI (48 + m / u % 10)
def dgs (m : Nat) : List Int32 := if m < 10 then [dgt m 1] else if m < 100 then [dgt m 10, dgt m 1] else if m < 1000 then [dgt m 100, dgt m 10, dgt m 1] else [dgt m 1000, dgt m 100, dgt m 10, dgt m 1]
theorem dgs_len (m : Nat) : (dgs m).length ≤ 4 := by
  unfold dgs
  split
  · decide
  · split
    · simp
    · split <;> simp
theorem dgt_e {m u : Nat} (hm : m ≤ 9999) (hu : 0 < u) (hu2 : u ≤ 1000) : (48 : Int32) + ((nI m / nI u) - (nI m / nI u) / 10 * 10) = dgt m u := by
  have hd : m / u ≤ m := Nat.div_le_self _ _
  rw [pk_div (by omega) hu (by omega), show (10 : Int32) = nI 10 from rfl, pk_rem (by omega) (by omega) (by omega), show (48 : Int32) = nI 48 from rfl, nI_add]
  rfl
theorem wl1 (W : WM) (a b : List Int32) : setWL (setWL W 1 a) 1 b = setWL W 1 b := Prod.ext rfl (Prod.ext (funext fun j => by
  show (if j = 1 then b else if j = 1 then a else _) = (if j = 1 then b else _)
  by_cases c : j = 1
  · rw [if_pos c, if_pos c]
  · rw [if_neg c, if_neg c, if_neg c]) rfl)
theorem ws1 (W : WM) (a : List Int32) : (setWL W 1 a).2.1 1 = a := if_pos rfl
theorem wi1 (W : WM) : setWL W 1 (W.2.1 1) = W := Prod.ext rfl (Prod.ext (funext fun j => by
  show (if j = 1 then W.2.1 1 else W.2.1 j) = W.2.1 j
  by_cases c : j = 1
  · rw [if_pos c, c]
  · rw [if_neg c]) rfl)
theorem s_number (W : WM) (xs : List Int32) (hl : xs.length + 4 ≤ 128) {m : Nat} (hm : m ≤ 9999) : SA_appendNumber (setWL W 1 xs) (nI m) = some (setWL W 1 (xs ++ dgs m)) := by
  have yes : ∀ (n u : Nat) (ys : List Int32), ys.length < 128 → 0 < u → u ≤ 1000 → (u ≤ m ∨ u = 1) → SA_appendNumber_L4 (n + 1) (setWL W 1 ys) (nI m) (nI u) = SA_appendNumber_L4 n (setWL W 1 (ys ++ [dgt m u])) (nI m) (nI (u / 10)) := by
    intro n u ys h1 h2 h3 h4
    show (if nI u ≤ 0 then _ else _) = _
    rw [if_neg (nI_nle h2 (by omega)), ws1, dgt_e hm h2 h3, la_in _ h1, wl1, show (10 : Int32) = nI 10 from rfl, pk_div (by omega) (by omega) (by omega), lu, lu, lu]
    by_cases h5 : u ≤ m
    · rw [if_pos (nI_le h5 (by omega))]
    · rw [if_neg (nI_ge (by omega) (by omega)), if_pos (show nI u = nI 1 by rw [show u = 1 by omega])]
  have no : ∀ (n u : Nat) (ys : List Int32), 1 < u → u ≤ 1000 → ¬ u ≤ m → SA_appendNumber_L4 (n + 1) (setWL W 1 ys) (nI m) (nI u) = SA_appendNumber_L4 n (setWL W 1 ys) (nI m) (nI (u / 10)) := by
    intro n u ys h2 h3 h4
    show (if nI u ≤ 0 then _ else _) = _
    rw [if_neg (nI_nle (by omega) (by omega)), if_neg (nI_ge (by omega) (by omega)), if_neg (show ¬ nI u = nI 1 from fun q => absurd ((q_eq (by omega) (by omega)).mp q) (by omega)), show (10 : Int32) = nI 10 from rfl, pk_div (by omega) (by omega) (by omega), lu]
  have nd : ∀ (n : Nat) (ys : List Int32), SA_appendNumber_L4 (n + 1) (setWL W 1 ys) (nI m) (nI 0) = some (setWL W 1 ys) := by
    intro n ys
    show (if nI 0 ≤ 0 then _ else _) = _
    rw [if_pos (by decide)]
  show SA_appendNumber_L4 (995 + 1 + 1 + 1 + 1 + 1) (setWL W 1 xs) (nI m) (nI 1000) = _
  unfold dgs
  by_cases c1 : m < 10
  · rw [no _ 1000 _ (by omega) (by omega) (by omega), no _ _ _ (by omega) (by omega) (by omega), no _ _ _ (by omega) (by omega) (by omega), yes _ _ _ (by omega) (by omega) (by omega) (Or.inr rfl), nd, if_pos c1]
  · rw [if_neg c1]
    by_cases c2 : m < 100
    · rw [no _ 1000 _ (by omega) (by omega) (by omega), no _ _ _ (by omega) (by omega) (by omega), yes _ _ _ (by omega) (by omega) (by omega) (by omega), yes _ _ _ (by simp; omega) (by omega) (by omega) (by omega), nd, if_pos c2, List.append_assoc]
      rfl
    · rw [if_neg c2]
      by_cases c3 : m < 1000
      · rw [no _ 1000 _ (by omega) (by omega) (by omega), yes _ _ _ (by omega) (by omega) (by omega) (by omega), yes _ _ _ (by simp; omega) (by omega) (by omega) (by omega), yes _ _ _ (by simp; omega) (by omega) (by omega) (by omega), nd, if_pos c3, List.append_assoc, List.append_assoc]
        rfl
      · rw [yes _ 1000 _ (by omega) (by omega) (by omega) (by omega), yes _ _ _ (by simp; omega) (by omega) (by omega) (by omega), yes _ _ _ (by simp; omega) (by omega) (by omega) (by omega), yes _ _ _ (by simp; omega) (by omega) (by omega) (by omega), nd, if_neg c3, List.append_assoc, List.append_assoc, List.append_assoc]
        rfl
/-- the reference's text so far -/
def FmtS (l : List Int32) (M : MdM) : Prop := M.1 16 = nI l.length ∧ ∀ i, i < l.length → M.2 9 i = l.getD i 0
def FrF (M M' : MdM) : Prop := (∀ k, k ≠ 16 → M'.1 k = M.1 k) ∧ ∀ j, j ≠ 9 → M'.2 j = M.2 j
theorem FrF.rf (M : MdM) : FrF M M := ⟨fun _ _ => rfl, fun _ _ => rfl⟩
theorem FrF.tr {M M' M'' : MdM} (h : FrF M M') (h' : FrF M' M'') : FrF M M'' := ⟨fun k a => (h'.1 k a).trans (h.1 k a), fun j a => (h'.2 j a).trans (h.2 j a)⟩
theorem m_write {M : MdM} {l : List Int32} (h : FmtS l M) (hl : l.length < 200) (v : Int32) : ∃ M', Md_write 0 M v = some M' ∧ FmtS (l ++ [v]) M' ∧ FrF M M' := by
  obtain ⟨h1, h2⟩ := h
  unfold Md_write
  rw [h1, if_pos (q_in hl (by omega)), q_cl (by omega), nI_1]
  refine ⟨_, rfl, ⟨by rw [setF_s, List.length_append, List.length_singleton], fun i hi => ?_⟩, fun k hk => setF_n _ _ hk, fun j hj => setA_n _ _ hj⟩
  rw [List.length_append, List.length_singleton] at hi
  show (setA M 9 _).2 9 i = _
  rw [setA_s, gd_app1 i (by omega)]
  by_cases c : i = l.length
  · rw [if_pos c, c]; exact if_pos rfl
  · rw [if_neg c, ← h2 i (by omega)]; exact if_neg c
theorem m_number {M : MdM} {l : List Int32} (h : FmtS l M) (hl : l.length + 4 ≤ 200) {m : Nat} (hm : m ≤ 9999) : ∃ M', Md_writeNumber 0 M (nI m) = some M' ∧ FmtS (l ++ dgs m) M' ∧ FrF M M' := by
  have w0 : ∀ (n : Nat) (p : Int32) (M : MdM), Md_writeNumber_L20 0 (n + 1) M (nI m) p (nI 0) = some M := by
    intro n p M
    show (if nI 0 ≤ 0 then _ else _) = _
    rw [if_pos (by decide)]
  have w1 : ∀ (n u : Nat) (p : Int32) (M : MdM) (ys : List Int32), FmtS ys M → ys.length < 200 → 0 < u → u ≤ 1000 → ∃ M1, FmtS (ys ++ [dgt m u]) M1 ∧ FrF M M1 ∧ Md_writeNumber_L20 0 (n + 1) M (nI m) p (nI u) = Md_writeNumber_L20 0 n M1 (nI m) p (nI (u / 10)) := by
    intro n u p M ys g1 g2 g3 g4
    obtain ⟨M1, e1, e2, e3⟩ := m_write g1 g2 (dgt m u)
    refine ⟨M1, e2, e3, ?_⟩
    show (if nI u ≤ 0 then _ else _) = _
    rw [if_neg (nI_nle g3 (by omega)), dgt_e hm g3 g4, e1, bs, lu, show (10 : Int32) = nI 10 from rfl, pk_div (by omega) (by omega) (by omega)]
  have pw : ∀ (n p : Nat), 0 < p → p ≤ 1000 → Md_writeNumber_L2 0 (n + 1) M (nI m) (nI p) = if m / p ≤ 9 then Md_writeNumber_L20 0 FU M (nI m) (nI p) (nI p) else Md_writeNumber_L2 0 n M (nI m) (nI (p * 10)) := by
    intro n p g1 g2
    have hd : m / p ≤ m := Nat.div_le_self _ _
    show (if ¬ nI p = 0 then _ else none) = _
    rw [if_pos (nI_ne0 g1 (by omega)), pk_div (by omega) g1 (by omega), show (10 : Int32) = nI 10 from rfl, pk_mul, lu]
    by_cases c : m / p ≤ 9
    · rw [if_pos (show nI (m / p) ≤ (9 : Int32) from nI_le (b := 9) c (by omega)), if_pos c]
    · rw [if_neg (show ¬ nI (m / p) ≤ (9 : Int32) from nI_ge (a := 9) (by omega) (by omega)), if_neg c]
  show ∃ M', Md_writeNumber_L2 0 (996 + 1 + 1 + 1 + 1) M (nI m) (nI 1) = some M' ∧ _
  have hF : FU = 995 + 1 + 1 + 1 + 1 + 1 := rfl
  unfold dgs
  by_cases c1 : m < 10
  · rw [pw _ 1 (by omega) (by omega), if_pos (by omega), if_pos c1, hF]
    obtain ⟨M1, a1, b1, e1⟩ := w1 999 1 (nI 1) M l h (by omega) (by omega) (by omega)
    rw [e1, show 1 / 10 = 0 from rfl, w0]
    exact ⟨M1, rfl, a1, b1⟩
  · rw [if_neg c1]
    by_cases c2 : m < 100
    · rw [pw _ 1 (by omega) (by omega), if_neg (by omega), pw _ _ (by omega) (by omega), if_pos (by omega), if_pos c2, hF]
      obtain ⟨M1, a1, b1, e1⟩ := w1 999 10 (nI (1 * 10)) M l h (by omega) (by omega) (by omega)
      obtain ⟨M2, a2, b2, e2⟩ := w1 998 1 (nI (1 * 10)) M1 _ a1 (by simp; omega) (by omega) (by omega)
      rw [show Md_writeNumber_L20 0 (995 + 1 + 1 + 1 + 1 + 1) M (nI m) (nI (1 * 10)) (nI (1 * 10)) = _ from e1, show 10 / 10 = 1 from rfl, e2, show 1 / 10 = 0 from rfl, w0]
      rw [List.append_assoc] at a2
      exact ⟨M2, rfl, a2, b1.tr b2⟩
    · rw [if_neg c2]
      by_cases c3 : m < 1000
      · rw [pw _ 1 (by omega) (by omega), if_neg (by omega), pw _ _ (by omega) (by omega), if_neg (by omega), pw _ _ (by omega) (by omega), if_pos (by omega), if_pos c3, hF]
        obtain ⟨M1, a1, b1, e1⟩ := w1 999 100 (nI (1 * 10 * 10)) M l h (by omega) (by omega) (by omega)
        obtain ⟨M2, a2, b2, e2⟩ := w1 998 10 (nI (1 * 10 * 10)) M1 _ a1 (by simp; omega) (by omega) (by omega)
        obtain ⟨M3, a3, b3, e3⟩ := w1 997 1 (nI (1 * 10 * 10)) M2 _ a2 (by simp; omega) (by omega) (by omega)
        rw [show Md_writeNumber_L20 0 (995 + 1 + 1 + 1 + 1 + 1) M (nI m) (nI (1 * 10 * 10)) (nI (1 * 10 * 10)) = _ from e1, show 100 / 10 = 10 from rfl, e2, show 10 / 10 = 1 from rfl, e3, show 1 / 10 = 0 from rfl, w0]
        rw [List.append_assoc, List.append_assoc] at a3
        exact ⟨M3, rfl, a3, (b1.tr b2).tr b3⟩
      · rw [pw _ 1 (by omega) (by omega), if_neg (by omega), pw _ _ (by omega) (by omega), if_neg (by omega), pw _ _ (by omega) (by omega), if_neg (by omega), pw _ _ (by omega) (by omega), if_pos (by omega), if_neg c3, hF]
        obtain ⟨M1, a1, b1, e1⟩ := w1 999 1000 (nI (1 * 10 * 10 * 10)) M l h (by omega) (by omega) (by omega)
        obtain ⟨M2, a2, b2, e2⟩ := w1 998 100 (nI (1 * 10 * 10 * 10)) M1 _ a1 (by simp; omega) (by omega) (by omega)
        obtain ⟨M3, a3, b3, e3⟩ := w1 997 10 (nI (1 * 10 * 10 * 10)) M2 _ a2 (by simp; omega) (by omega) (by omega)
        obtain ⟨M4, a4, b4, e4⟩ := w1 996 1 (nI (1 * 10 * 10 * 10)) M3 _ a3 (by simp; omega) (by omega) (by omega)
        rw [show Md_writeNumber_L20 0 (995 + 1 + 1 + 1 + 1 + 1) M (nI m) (nI (1 * 10 * 10 * 10)) (nI (1 * 10 * 10 * 10)) = _ from e1, show 1000 / 10 = 100 from rfl, e2, show 100 / 10 = 10 from rfl, e3, show 10 / 10 = 1 from rfl, e4, show 1 / 10 = 0 from rfl, w0]
        rw [List.append_assoc, List.append_assoc, List.append_assoc] at a4
        exact ⟨M4, rfl, a4, ((b1.tr b2).tr b3).tr b4⟩
section FM
variable {H : Int32} {A : StM} {f : Nat → Int32}
theorem RI.both (h : RI H A f) : (A.2 7).length + (A.2 10).length ≤ 24 := by
  have hz := h.sz.fo
  have hn : (A.2 7 ++ A.2 10).Nodup := by
    refine List.nodup_append.mpr ⟨h.fd.1, h.fd.2.1, fun a ha b hb e => ?_⟩
    subst e
    obtain ⟨k, c1, c2, c3⟩ := h.fd.2.2.1 _ ha
    obtain ⟨k', d1, d2, d3⟩ := h.fd.2.2.2.1 _ hb
    have : k = k' := (q_eq (by omega) (by omega)).mp (c2.symm.trans d2)
    subst this
    rw [c3] at d3
    exact absurd d3 (by decide)
  have := nd_len (A.2 0).length hn (fun x hx => by
    rcases List.mem_append.mp hx with hx | hx
    · obtain ⟨k, c1, c2, -⟩ := h.fd.2.2.1 _ hx
      exact ⟨k, c1, c2⟩
    · obtain ⟨k, c1, c2, -⟩ := h.fd.2.2.2.1 _ hx
      exact ⟨k, c1, c2⟩)
  rw [List.length_append] at this
  omega
theorem RI.mark (h : RI H A f) {k : Nat} (hk : k < (A.2 0).length) : ∃ m, m ≤ 9999 ∧ (A.2 0).getD k 0 = nI m := h.mk.2 _ (gd_mem hk)
theorem s_fmt2 (W : WM) (h : RI H (W.1 9) f) : ∀ (n i : Nat) (xs : List Int32) (M : MdM), M.2 0 = f → ((W.1 9).2 10).length - i < n → i ≤ ((W.1 9).2 10).length → xs.length + 5 * (((W.1 9).2 10).length - i) ≤ 128 → FmtS xs M → ∃ ys M', SA_format_L90 n (setWL W 1 xs) (nI i) = some (nI ys.length, setWL W 1 ys) ∧ Md_format_L71 0 n M (nI i) = some (nI ys.length, M') ∧ ys.length ≤ 128 ∧ FmtS ys M' ∧ FrF M M' := by
  have zt := h.sz.t
  have zf := h.sz.fo
  intro n
  induction n with
  | zero => intro i xs M h0 h1; omega
  | succ n ih =>
    intro i xs M h0 h1 h2 h3 h4
    have hR : RI H (W.1 9) (M.2 0) := by rw [h0]; exact h
    unfold SA_format_L90 Md_format_L71
    rw [show ((setWL W 1 xs).1 9) = W.1 9 from rfl, ws1, tn7, hR.rel.nt]
    by_cases hi : ((W.1 9).2 10).length ≤ i
    · rw [if_pos ((q_le (by omega) (by omega)).mpr hi), if_pos ((q_le (by omega) (by omega)).mpr hi), h4.1]
      exact ⟨xs, M, rfl, rfl, by omega, h4, FrF.rf M⟩
    · have hn : ¬ nI ((W.1 9).2 10).length ≤ nI i := fun q => hi ((q_le (by omega) (by omega)).mp q)
      obtain ⟨k, hk, ek, -⟩ := hR.trk (p := i) (by omega)
      obtain ⟨m, hm, em⟩ := hR.mark hk
      have hdl := dgs_len m
      rw [if_neg hn, if_neg hn, lg_in (xs := (W.1 9).2 10) (by omega) (by omega), ek, lg_in (xs := (W.1 9).2 0) hk (by omega), em, show (169 : Int32) = nI 169 from rfl, nI_add, if_pos (q_in (by omega) (by omega)), if_pos (q_in (by omega) (by omega)), q_cl (by omega), hR.trol (by omega), ek, of0 (by omega), bs, hR.rel.mk k hk, em, nI_1, wl1]
      by_cases h00 : i = 0
      · rw [if_pos (show nI i ≤ 0 by rw [h00]; decide), if_pos (show nI i ≤ 0 by rw [h00]; decide), s_number W xs (by omega) hm, bs]
        obtain ⟨M1, e1, e2, e3⟩ := m_number h4 (by omega) hm
        rw [e1, bs]
        obtain ⟨ys, M', g1, g2, g3, g4, g5⟩ := ih (i + 1) (xs ++ dgs m) M1 ((e3.2 0 (by decide)).trans h0) (by omega) (by omega) (by rw [List.length_append]; omega) e2
        exact ⟨ys, M', g1, g2, g3, g4, e3.tr g5⟩
      · rw [if_neg (nI_nle (by omega) (by omega)), if_neg (nI_nle (by omega) (by omega)), la_in (xs := xs) _ (by omega), s_number W (xs ++ [32]) (by rw [List.length_append, List.length_singleton]; omega) hm, bs]
        obtain ⟨M0, d1, d2, d3⟩ := m_write h4 (by omega) 32
        have hR0 : RI H (W.1 9) (M0.2 0) := by rw [d3.2 0 (by decide)]; exact hR
        rw [d1, bs, hR0.trol (by omega), ek, of0 (by omega), bs, hR0.rel.mk k hk, em]
        obtain ⟨M1, e1, e2, e3⟩ := m_number d2 (by rw [List.length_append, List.length_singleton]; omega) hm
        rw [e1, bs]
        obtain ⟨ys, M', g1, g2, g3, g4, g5⟩ := ih (i + 1) (xs ++ [32] ++ dgs m) M1 ((e3.2 0 (by decide)).trans ((d3.2 0 (by decide)).trans h0)) (by omega) (by omega) (by rw [List.length_append, List.length_append, List.length_singleton]; omega) e2
        exact ⟨ys, M', g1, g2, g3, g4, (d3.tr e3).tr g5⟩
theorem s_fmt1 (W : WM) (h : RI H (W.1 9) f) : ∀ (n i : Nat) (xs : List Int32) (M : MdM), M.2 0 = f → ((W.1 9).2 7).length - i < n → i ≤ ((W.1 9).2 7).length → xs.length + 5 * (((W.1 9).2 7).length - i) + 1 + 5 * ((W.1 9).2 10).length ≤ 128 → FmtS xs M → ∃ ys M', SA_format_L9 n (setWL W 1 xs) (nI i) = some (nI ys.length, setWL W 1 ys) ∧ Md_format_L12 0 n M (nI i) = some (nI ys.length, M') ∧ ys.length ≤ 128 ∧ FmtS ys M' ∧ FrF M M' := by
  have zl := h.sz.l
  have zt := h.sz.t
  have zf := h.sz.fo
  intro n
  induction n with
  | zero => intro i xs M h0 h1; omega
  | succ n ih =>
    intro i xs M h0 h1 h2 h3 h4
    have hR : RI H (W.1 9) (M.2 0) := by rw [h0]; exact h
    unfold SA_format_L9 Md_format_L12
    rw [show ((setWL W 1 xs).1 9) = W.1 9 from rfl, ws1, tn6, hR.rel.nl]
    by_cases hi : ((W.1 9).2 7).length ≤ i
    · rw [if_pos ((q_le (by omega) (by omega)).mpr hi), if_pos ((q_le (by omega) (by omega)).mpr hi), la_in (xs := xs) _ (by omega), wl1]
      obtain ⟨M0, d1, d2, d3⟩ := m_write h4 (by omega) 124
      rw [d1, bs]
      obtain ⟨ys, M', g1, g2, g3, g4, g5⟩ := s_fmt2 W h FU 0 (xs ++ [124]) M0 ((d3.2 0 (by decide)).trans h0) (FU_gt (by omega)) (Nat.zero_le _) (by rw [List.length_append, List.length_singleton]; omega) d2
      exact ⟨ys, M', g1, g2, g3, g4, d3.tr g5⟩
    · have hn : ¬ nI ((W.1 9).2 7).length ≤ nI i := fun q => hi ((q_le (by omega) (by omega)).mp q)
      obtain ⟨k, hk, ek, em1⟩ := markAt_k hR.w (p := i) (by omega)
      obtain ⟨m, hm, em⟩ := hR.mark hk
      have hma : Rw_markAt (W.1 9) (nI i) = nI m := em1.trans em
      have hdl := dgs_len m
      rw [if_neg hn, if_neg hn, hma, nI_1, wl1]
      by_cases h00 : i = 0
      · rw [if_pos (show nI i ≤ 0 by rw [h00]; decide), if_pos (show nI i ≤ 0 by rw [h00]; decide), s_number W xs (by omega) hm, bs, m_markAt hR.w (by omega), bs, hma]
        obtain ⟨M1, e1, e2, e3⟩ := m_number h4 (by omega) hm
        rw [e1, bs]
        obtain ⟨ys, M', g1, g2, g3, g4, g5⟩ := ih (i + 1) (xs ++ dgs m) M1 ((e3.2 0 (by decide)).trans h0) (by omega) (by omega) (by rw [List.length_append]; omega) e2
        exact ⟨ys, M', g1, g2, g3, g4, e3.tr g5⟩
      · obtain ⟨i, rfl⟩ : ∃ q, i = q + 1 := ⟨i - 1, by omega⟩
        rw [if_neg (nI_nle (by omega) (by omega)), if_neg (nI_nle (by omega) (by omega)), nI_pred, m_isWrong hR (by omega), bs]
        have sep : ∀ b : Int32, ∃ ys M', (Option.bind (SA_appendNumber (setWL W 1 (lnadd 128 xs b)) (nI m)) fun M_1590 => SA_format_L9 n M_1590 (nI (i + 1 + 1))) = some (nI ys.length, setWL W 1 ys) ∧ (Option.bind (Md_write 0 M b) fun M_960 => Option.bind (Md_markAt 0 M_960 (nI (i + 1))) fun q_961 => Option.bind (Md_writeNumber 0 M_960 q_961) fun M_962 => Md_format_L12 0 n M_962 (nI (i + 1 + 1))) = some (nI ys.length, M') ∧ ys.length ≤ 128 ∧ FmtS ys M' ∧ FrF M M' := by
          intro b
          obtain ⟨M0, d1, d2, d3⟩ := m_write h4 (by omega) b
          have hR0 : RI H (W.1 9) (M0.2 0) := by rw [d3.2 0 (by decide)]; exact hR
          obtain ⟨M1, e1, e2, e3⟩ := m_number d2 (by rw [List.length_append, List.length_singleton]; omega) hm
          obtain ⟨ys, M', g1, g2, g3, g4, g5⟩ := ih (i + 1 + 1) (xs ++ [b] ++ dgs m) M1 ((e3.2 0 (by decide)).trans ((d3.2 0 (by decide)).trans h0)) (by omega) (by omega) (by rw [List.length_append, List.length_append, List.length_singleton]; omega) e2
          rw [la_in (xs := xs) _ (by omega), s_number W (xs ++ [b]) (by rw [List.length_append, List.length_singleton]; omega) hm, bs, d1, bs, m_markAt hR0.w (by omega), bs, hma, e1, bs]
          exact ⟨ys, M', g1, g2, g3, g4, (d3.tr e3).tr g5⟩
        by_cases hw : Rw_isWrong (W.1 9) (nI (i + 1)) = 0
        · rw [if_pos hw, if_pos hw, bs]
          exact sep 32
        · rw [if_neg hw, if_neg hw, bs]
          exact sep 33
theorem f_format {W : WM} {M : MdM} (h : WRel W M) : P3 (SA_format W) (Md_format 0 M) := by
  have hb := h.1.1.both
  have zl := h.1.1.sz.l
  obtain ⟨b1, b2, ⟨a, c, c1, c2, c3, c4, c5, c6⟩, b4, b5, b6, b7⟩ := h
  unfold SA_format Md_format
  obtain ⟨ys, M', g1, g2, g3, g4, g5⟩ := s_fmt1 W b1.1 FU 0 [] (setF (setF M 9 0) 16 0) rfl (FU_gt (by omega)) (Nat.zero_le _) (by show 0 + _ + 1 + _ ≤ 128; omega) ⟨setF_s _ _ _, fun i hi => absurd hi (Nat.not_lt_zero i)⟩
  have i1 : ∀ k, k ≠ 16 → k ≠ 9 → M'.1 k = M.1 k := fun k p q => (g5.1 k p).trans ((setF_n _ _ p).trans (setF_n _ _ q))
  have i2 : ∀ j, j ≠ 9 → M'.2 j = M.2 j := fun j p => g5.2 j p
  refine ⟨_, _, M', g1, g2, by rw [i2 0 (by decide)]; exact b1, by unfold LasR; rw [i2 6 (by decide)]; exact b2, ⟨a, c, c1, c2, c3, c4, (i1 8 (by decide) (by decide)).trans c5, fun k hk => by rw [i2 5 (by decide)]; exact c6 k hk⟩, by unfold SnaR; rw [i1 10 (by decide) (by decide), i2 4 (by decide)]; exact b4, by unfold BufR; rw [i1 18 (by decide) (by decide), i2 10 (by decide)]; exact b5, ?_, by rw [i1 25 (by decide) (by decide)]; exact b7⟩
  unfold FmtR
  rw [ws1]
  exact ⟨g3, g4.1, g4.2⟩
/-! measures: the same words of bits, and no NaN -/
theorem f_foundShare {W : WM} {M : MdM} (h : WRel W M) : ∃ v W' M', SA_foundShare W = some (v, W') ∧ Md_foundShare 0 M = some (v, M') ∧ WRel W' M' ∧ isNaN64 (FP.f2d v) = false := by
  have zl := h.1.1.sz.l
  have hR := h.t9 0
  unfold SA_foundShare Md_foundShare
  rw [lu, tn6, h.1.1.rel.nl]
  by_cases h0 : ((W.1 9).2 7).length = 0
  · rw [h0, if_pos (by decide), if_pos (by decide)]
    exact ⟨_, _, _, rfl, rfl, h.thr 0, by decide +kernel⟩
  · have hne : ¬ nI ((W.1 9).2 7).length = 0 := nI_ne0 (by omega) (by omega)
    obtain ⟨v, L, M', e1, e2, e3, e4, e5⟩ := s_missed hR (by decide)
    rw [if_neg hne, if_neg hne, e1, e2, bs, bs, e5, hR.rel.nl, pk_sub e3]
    obtain ⟨q1, q2⟩ := fz_fdiv (((W.1 9).2 7).length - v) (by omega) ((W.1 9).2 7).length (by omega) h0
    rw [if_pos q1, if_pos q1]
    exact ⟨_, _, _, rfl, rfl, h.sm e4 (by rw [e5]; exact h.1.l8 L), q2⟩
theorem f_meanWait {W : WM} {M : MdM} (h : WRel W M) : ∃ v M', SA_meanWait W = some v ∧ Md_meanWait 0 M = some (v, M') ∧ WRel W M' ∧ isNaN64 v = false := by
  have hR := h.t9 0
  have z := hR.sz.e15
  unfold SA_meanWait Md_meanWait
  rw [lu, show lnget ((W.1 9).2 15) 4 = _ from lg_in (i := 4) (by omega) (by omega), show lnget ((W.1 9).2 15) 10 = _ from lg_in (i := 10) (by omega) (by omega), show Md_tallied 0 (setF M 9 0) 4 = _ from e_tallied (a := 4) (by omega) (by omega), bs, show Md_tallied 0 (setF M 9 0) 10 = _ from e_tallied (a := 10) (by omega) (by omega), hR.rel.ac 4 (by omega) (by omega), hR.rel.ac 10 (by omega) (by omega)]
  by_cases h0 : ((W.1 9).2 15).getD 4 0 = 0
  · rw [if_pos h0, if_pos h0]
    exact ⟨_, _, rfl, rfl, h.thr 0, by decide +kernel⟩
  · have := fz_ddiv (((W.1 9).2 15).getD 10 0) (((W.1 9).2 15).getD 4 0) h0
    rw [if_neg h0, if_neg h0, bs, if_pos this, if_pos this]
    exact ⟨_, _, rfl, rfl, h.thr 0, this⟩
end FM
/-! tokens -/
/-- where both readers stand in the text: position p, the token's start s -/
def PS (b : List Int32) (n : Nat) (W : WM) (M : MdM) (p : Nat) : Prop := W.2.1 0 = b ∧ b.length ≤ 700 ∧ n ≤ b.length ∧ W.2.2.1 0 = nI n ∧ W.2.2.1 1 = nI p ∧ p ≤ n ∧ M.1 19 = nI n ∧ M.1 20 = nI p ∧ M.1 23 = 0 ∧ ∀ i, i < b.length → M.2 10 i = b.getD i 0
/-- the value that both see in a number: the same below a million, or both at least that -/
def VR (c r : Int32) : Prop := ∃ x, x < 100000000 ∧ r = nI x ∧ (x < 1000000 → c = nI x) ∧ (1000000 ≤ x → c = 1000000)
/-- the token that has been read -/
def TK (b : List Int32) (n : Nat) (W : WM) (M : MdM) (s p : Nat) : Prop := PS b n W M p ∧ s ≤ p ∧ W.2.2.1 2 = nI s ∧ M.1 21 = nI s ∧
  ((W.2.2.1 3 = 0 ∧ M.1 22 = 0) ∨ (s < n ∧ ((W.2.2.1 3 = 1 ∧ M.1 22 = 1) ∨ (W.2.2.1 3 = 2 ∧ M.1 22 = 2 ∧ ∃ r, Md_value 0 M = some r ∧ Md_value 1 M = some r ∧ VR (W.2.2.1 4) r) ∨ (W.2.2.1 3 = 3 ∧ M.1 22 = 3 ∧ b.getD s 0 = 59) ∨ (W.2.2.1 3 = 4 ∧ M.1 22 = 3 ∧ b.getD s 0 ≠ 59))))
def FrW (W W' : WM) : Prop := W'.1 = W.1 ∧ W'.2.1 = W.2.1 ∧ W'.2.2.2 = W.2.2.2 ∧ ∀ k, k ≠ 1 → k ≠ 2 → k ≠ 3 → k ≠ 4 → W'.2.2.1 k = W.2.2.1 k
def FrM (M M' : MdM) : Prop := M'.2 = M.2 ∧ ∀ k, k ≠ 20 → k ≠ 21 → k ≠ 22 → M'.1 k = M.1 k
theorem FrW.rf (W : WM) : FrW W W := ⟨rfl, rfl, rfl, fun _ _ _ _ _ => rfl⟩
theorem FrM.rf (M : MdM) : FrM M M := ⟨rfl, fun _ _ _ _ => rfl⟩
theorem FrW.tr {W W' W'' : WM} (h : FrW W W') (h' : FrW W' W'') : FrW W W'' := ⟨h'.1.trans h.1, h'.2.1.trans h.2.1, h'.2.2.1.trans h.2.2.1, fun k a b c d => (h'.2.2.2 k a b c d).trans (h.2.2.2 k a b c d)⟩
theorem FrM.tr {M M' M'' : MdM} (h : FrM M M') (h' : FrM M' M'') : FrM M M'' := ⟨h'.1.trans h.1, fun k a b c => (h'.2 k a b c).trans (h.2 k a b c)⟩
theorem FrW.wi (W : WM) {k : Nat} (v : Int32) (h : k = 1 ∨ k = 2 ∨ k = 3 ∨ k = 4) : FrW W (setWI W k v) := ⟨rfl, rfl, rfl, fun j a b c d => wi_n _ _ (by omega)⟩
theorem FrM.f (M : MdM) {k : Nat} (v : Int32) (h : k = 20 ∨ k = 21 ∨ k = 22) : FrM M (setF M k v) := ⟨rfl, fun j a b c => setF_n _ _ (by omega)⟩
theorem PS.fr {b : List Int32} {n : Nat} {W W' : WM} {M M' : MdM} {p q : Nat} (h : PS b n W M p) (hW : FrW W W') (hM : FrM M M') (h1 : W'.2.2.1 1 = nI q) (h2 : M'.1 20 = nI q) (hq : q ≤ n) : PS b n W' M' q := by
  obtain ⟨a1, a2, a3, a4, a5, a6, a7, a8, a9, a10⟩ := h
  refine ⟨by rw [hW.2.1]; exact a1, a2, a3, by rw [hW.2.2.2 0 (by decide) (by decide) (by decide) (by decide)]; exact a4, h1, hq, by rw [hM.2 19 (by decide) (by decide) (by decide)]; exact a7, h2, by rw [hM.2 23 (by decide) (by decide) (by decide)]; exact a9, fun i hi => by rw [hM.1]; exact a10 i hi⟩
section TKS
variable {b : List Int32} {n : Nat} {W : WM} {M : MdM} {ρ : Nat}
theorem m_byteAt (h : M.1 19 = nI n) (hn : n ≤ b.length) (hl : b.length ≤ 700) (hb : ∀ i, i < b.length → M.2 10 i = b.getD i 0) {q : Nat} (hq : q ≤ n) : Md_byteAt ρ M (nI q) = some (if q < n then b.getD q 0 else -1) := by
  unfold Md_byteAt
  rw [h]
  by_cases c : q < n
  · rw [if_neg (nI_ge c (by omega)), if_pos (q_in (by omega) (by omega)), q_cl (by omega), if_pos c, hb q (by omega)]
  · rw [if_pos (nI_le (by omega) (by omega)), if_neg c]
theorem m_isLetter (h : M.1 19 = nI n) (hn : n ≤ b.length) (hl : b.length ≤ 700) (hb : ∀ i, i < b.length → M.2 10 i = b.getD i 0) {q : Nat} (hq : q ≤ n) : Md_isLetter ρ M (nI q) = some (if q < n then Tk_isLetter (b.getD q 0) else 0) := by
  unfold Md_isLetter Tk_isLetter
  rw [m_byteAt h hn hl hb hq, bs, bs]
  by_cases c : q < n
  · rw [if_pos c, if_pos c]
    by_cases c1 : b.getD q 0 < 97
    · rw [if_pos c1, if_pos c1]
    · rw [if_neg c1, if_neg c1]
      by_cases c2 : 122 < b.getD q 0
      · rw [if_pos c2, if_pos c2]
      · rw [if_neg c2, if_neg c2]
  · rw [if_neg c, if_neg c, if_pos (by decide)]
theorem m_isDigit (h : M.1 19 = nI n) (hn : n ≤ b.length) (hl : b.length ≤ 700) (hb : ∀ i, i < b.length → M.2 10 i = b.getD i 0) {q : Nat} (hq : q ≤ n) : Md_isDigit ρ M (nI q) = some (if q < n then Tk_isDigit (b.getD q 0) else 0) := by
  unfold Md_isDigit Tk_isDigit
  rw [m_byteAt h hn hl hb hq, bs, bs]
  by_cases c : q < n
  · rw [if_pos c, if_pos c]
    by_cases c1 : b.getD q 0 < 48
    · rw [if_pos c1, if_pos c1]
    · rw [if_neg c1, if_neg c1]
      by_cases c2 : 57 < b.getD q 0
      · rw [if_pos c2, if_pos c2]
      · rw [if_neg c2, if_neg c2]
  · rw [if_neg c, if_neg c, if_pos (by decide)]
/-- a word to its end -/
theorem s_word : ∀ (m m' p : Nat) (W : WM) (M : MdM), PS b n W M p → n - p < m → n - p < m' → ∃ q W' M', p ≤ q ∧ Tk_readWord_L5 m W = some W' ∧ Md_scan_L77 ρ m' M = some (setF M' 22 1) ∧ PS b n W' M' q ∧ FrW W W' ∧ FrM M M' ∧ W'.2.2.1 2 = W.2.2.1 2 ∧ W'.2.2.1 3 = W.2.2.1 3 ∧ M'.1 21 = M.1 21 := by
  intro m
  induction m with
  | zero => intro m' p W M h h1; omega
  | succ m ih =>
    intro m' p W M h h1 h2
    cases m' with
    | zero => omega
    | succ m' =>
      have h0 := h
      obtain ⟨a1, a2, a3, a4, a5, a6, a7, a8, a9, a10⟩ := h
      unfold Tk_readWord_L5 Md_scan_L77
      rw [a4, a5, a8, m_isLetter a7 a3 a2 a10 a6, bs, a1]
      by_cases hp : p < n
      · rw [if_neg (nI_ge hp (by omega)), if_pos hp, lg_in (by omega) (by omega)]
        by_cases hc : Tk_isLetter (b.getD p 0) = 0
        · rw [if_pos hc, if_pos hc]
          exact ⟨p, W, M, Nat.le_refl _, rfl, rfl, h0, FrW.rf W, FrM.rf M, rfl, rfl, rfl⟩
        · rw [if_neg hc, if_neg hc, nI_1]
          obtain ⟨q, W', M', g1, g2, g3, g4, g5, g6, g7, g8, g9⟩ := ih m' (p + 1) (setWI W 1 (nI (p + 1))) (setF M 20 (nI (p + 1))) (h0.fr (FrW.wi W _ (by omega)) (FrM.f M _ (by omega)) (wi_s _ _ _) (setF_s _ _ _) (by omega)) (by omega) (by omega)
          exact ⟨q, W', M', by omega, g2, g3, g4, (FrW.wi W _ (by omega)).tr g5, (FrM.f M _ (by omega)).tr g6, g7.trans (wi_n _ _ (by decide)), g8.trans (wi_n _ _ (by decide)), g9.trans (setF_n _ _ (by decide))⟩
      · rw [if_pos (nI_le (by omega) (by omega)), if_neg hp, if_pos rfl]
        exact ⟨p, W, M, Nat.le_refl _, rfl, rfl, h0, FrW.rf W, FrM.rf M, rfl, rfl, rfl⟩
/-- what the reference's value is, digit by digit -/
def vfold (b : List Int32) : Nat → Nat → Int32 → Int32
  | 0, _, v => v
  | m + 1, k, v => vfold b m (k + 1) (if v ≤ 9999999 then ((10 * v) + b.getD k 0) - 48 else v)
theorem m_valueL {s p : Nat} (hb : ∀ i, i < b.length → M.2 10 i = b.getD i 0) (hp : p ≤ b.length) (hl : b.length ≤ 700) (h20 : M.1 20 = nI p) (h22 : M.1 22 = 2) : ∀ (m k : Nat) (v : Int32), k ≤ p → p - k < m → Md_value_L7 ρ M m v (nI k) = some (vfold b (p - k) k v) := by
  intro m
  induction m with
  | zero => intro k v h1 h2; omega
  | succ m ih =>
    intro k v h1 h2
    unfold Md_value_L7
    rw [h20]
    by_cases hk : p ≤ k
    · rw [if_pos (nI_le hk (by omega)), show p - k = 0 by omega]
      rfl
    · obtain ⟨d, hd⟩ : ∃ d, p - k = d + 1 := ⟨p - k - 1, by omega⟩
      have hd' : p - (k + 1) = d := by omega
      rw [if_neg (nI_ge (by omega) (by omega)), if_pos h22, if_pos (q_in (by omega) (by omega)), q_cl (by omega), hb k (by omega), lu, nI_1, hd]
      unfold vfold
      by_cases hv : v ≤ 9999999
      · rw [if_pos hv, if_pos hv, ih (k + 1) _ (by omega) (by omega), hd']
      · rw [if_neg hv, if_neg hv, ih (k + 1) _ (by omega) (by omega), hd']
/-- one digit more on both sides -/
theorem VR.step {c r d : Int32} (h : VR c r) (hd : Tk_isDigit d ≠ 0) : VR (if ((c * 10) + d) - 48 < 1000000 then ((c * 10) + d) - 48 else 1000000) (if r ≤ 9999999 then ((10 * r) + d) - 48 else r) := by
  obtain ⟨x, hx, rfl, h1, h2⟩ := h
  have hdd : ∃ j, j ≤ 9 ∧ d = nI (48 + j) := by
    unfold Tk_isDigit at hd
    by_cases c1 : d < 48
    · rw [if_pos c1] at hd; exact absurd rfl hd
    · rw [if_neg c1] at hd
      by_cases c2 : 57 < d
      · rw [if_pos c2] at hd; exact absurd rfl hd
      · obtain ⟨j, hj, rfl⟩ := nI_of (x := d) (fun q => c1 (Int32.lt_trans q (by decide)))
        have g1 : ¬ nI j < nI 48 := c1
        have g2 : ¬ nI 57 < nI j := c2
        rw [nI_ltI (by omega) (by omega)] at g1 g2
        exact ⟨j - 48, by omega, by congr 1; omega⟩
  obtain ⟨j, hj, rfl⟩ := hdd
  have ev : ∀ y : Nat, y < 10000000 → ((10 : Int32) * nI y + nI (48 + j)) - 48 = nI (10 * y + j) := fun y hy => by
    rw [show (10 : Int32) = nI 10 from rfl, show (48 : Int32) = nI 48 from rfl, pk_mul, nI_add, pk_sub (by omega)]
    congr 1
    omega
  have ev' : ∀ y : Nat, y < 10000000 → (nI y * (10 : Int32) + nI (48 + j)) - 48 = nI (10 * y + j) := fun y hy => by
    rw [Int32.mul_comm, ev y hy]
  by_cases hb : x < 1000000
  · rw [h1 hb, ev' x (by omega), if_pos (show nI x ≤ (9999999 : Int32) from nI_le (b := 9999999) (by omega) (by omega)), ev x (by omega)]
    refine ⟨10 * x + j, by omega, rfl, fun g => ?_, fun g => ?_⟩
    · rw [if_pos (show nI (10 * x + j) < (1000000 : Int32) from nI_lt (b := 1000000) g (by omega))]
    · rw [if_neg (show ¬ nI (10 * x + j) < (1000000 : Int32) from nI_nlt (b := 1000000) g (by omega))]
  · rw [h2 (by omega), show (1000000 : Int32) = nI 1000000 from rfl, ev' 1000000 (by omega), if_neg (show ¬ nI (10 * 1000000 + j) < (1000000 : Int32) from nI_nlt (b := 1000000) (by omega) (by omega))]
    by_cases hr : x ≤ 9999999
    · rw [if_pos (show nI x ≤ (9999999 : Int32) from nI_le (b := 9999999) hr (by omega)), ev x (by omega)]
      exact ⟨10 * x + j, by omega, rfl, fun g => absurd g (by omega), fun _ => rfl⟩
    · rw [if_neg (show ¬ nI x ≤ (9999999 : Int32) from nI_ge (a := 9999999) (by omega) (by omega))]
      exact ⟨x, hx, rfl, fun g => absurd g (by omega), fun _ => rfl⟩
theorem vfold_end (b : List Int32) : ∀ (m k : Nat) (v : Int32), vfold b (m + 1) k v = if vfold b m k v ≤ 9999999 then ((10 * vfold b m k v) + b.getD (k + m) 0) - 48 else vfold b m k v := by
  intro m
  induction m with
  | zero => intro k v; rfl
  | succ m ih =>
    intro k v
    show vfold b (m + 1) (k + 1) _ = _
    rw [ih, show k + 1 + m = k + (m + 1) by omega]
    rfl
/-- a number to its end -/
theorem s_digits {s : Nat} : ∀ (m m' p : Nat) (W : WM) (M : MdM), PS b n W M p → s ≤ p → n - p < m → n - p < m' → VR (W.2.2.1 4) (vfold b (p - s) s 0) → ∃ q W' M', p ≤ q ∧ Tk_readNumber_L10 m W = some W' ∧ Md_scan_L120 ρ m' M = some (setF M' 22 2) ∧ PS b n W' M' q ∧ FrW W W' ∧ FrM M M' ∧ W'.2.2.1 2 = W.2.2.1 2 ∧ W'.2.2.1 3 = W.2.2.1 3 ∧ M'.1 21 = M.1 21 ∧ VR (W'.2.2.1 4) (vfold b (q - s) s 0) := by
  intro m
  induction m with
  | zero => intro m' p W M h hs h1; omega
  | succ m ih =>
    intro m' p W M h hs h1 h2 hv
    cases m' with
    | zero => omega
    | succ m' =>
      have h0 := h
      obtain ⟨a1, a2, a3, a4, a5, a6, a7, a8, a9, a10⟩ := h
      unfold Tk_readNumber_L10 Md_scan_L120
      rw [a4, a5, a8, m_isDigit a7 a3 a2 a10 a6, bs, a1]
      by_cases hp : p < n
      · rw [if_neg (nI_ge hp (by omega)), if_pos hp, lg_in (by omega) (by omega)]
        by_cases hc : Tk_isDigit (b.getD p 0) = 0
        · rw [if_pos hc, if_pos hc]
          exact ⟨p, W, M, Nat.le_refl _, rfl, rfl, h0, FrW.rf W, FrM.rf M, rfl, rfl, rfl, hv⟩
        · rw [if_neg hc, if_neg hc, nI_1]
          have hv' := hv.step hc
          rw [show b.getD p 0 = b.getD (s + (p - s)) 0 by congr 1; omega, ← vfold_end, show p - s + 1 = p + 1 - s by omega] at hv'
          generalize hcv : (if ((W.2.2.1 4 * 10) + b.getD (s + (p - s)) 0) - 48 < 1000000 then ((W.2.2.1 4 * 10) + b.getD (s + (p - s)) 0) - 48 else 1000000) = cv at hv'
          rw [show b.getD p 0 = b.getD (s + (p - s)) 0 by congr 1; omega, hcv]
          have fw : FrW W (setWI (setWI W 4 cv) 1 (nI (p + 1))) := (FrW.wi W _ (by omega)).tr (FrW.wi _ _ (by omega))
          obtain ⟨q, W', M', g1, g2, g3, g4, g5, g6, g7, g8, g9, g10⟩ := ih m' (p + 1) (setWI (setWI W 4 cv) 1 (nI (p + 1))) (setF M 20 (nI (p + 1))) (h0.fr fw (FrM.f M _ (by omega)) (wi_s _ _ _) (setF_s _ _ _) (by omega)) (by omega) (by omega) (by omega) (by rw [wi_n _ _ (by decide), wi_s]; exact hv')
          exact ⟨q, W', M', by omega, g2, g3, g4, fw.tr g5, (FrM.f M _ (by omega)).tr g6, g7.trans ((wi_n _ _ (by decide)).trans (wi_n _ _ (by decide))), g8.trans ((wi_n _ _ (by decide)).trans (wi_n _ _ (by decide))), g9.trans (setF_n _ _ (by decide)), g10⟩
      · rw [if_pos (nI_le (by omega) (by omega)), if_neg hp, if_pos rfl]
        exact ⟨p, W, M, Nat.le_refl _, rfl, rfl, h0, FrW.rf W, FrM.rf M, rfl, rfl, rfl, hv⟩
/-- the next token -/
theorem s_next : ∀ (m m' p : Nat) (W : WM) (M : MdM), PS b n W M p → n - p < m → n - p < m' → ∃ s q W' M', Tk_next_L0 m W = some W' ∧ Md_scan_L0 ρ m' M = some M' ∧ TK b n W' M' s q ∧ FrW W W' ∧ FrM M M' := by
  intro m
  induction m with
  | zero => intro m' p W M h h1; omega
  | succ m ih =>
    intro m' p W M h h1 h2
    cases m' with
    | zero => omega
    | succ m' =>
      have h0 := h
      obtain ⟨a1, a2, a3, a4, a5, a6, a7, a8, a9, a10⟩ := h
      unfold Tk_next_L0 Md_scan_L0
      rw [a4, a5, a8, a7, m_byteAt a7 a3 a2 a10 a6, bs, bs, a1]
      have hM21 : FrM M (setF M 21 (nI p)) := FrM.f M _ (by omega)
      have h19 : (setF M 21 (nI p)).1 19 = nI n := (setF_n _ _ (by decide)).trans a7
      rw [m_isLetter (M := setF M 21 (nI p)) h19 a3 a2 a10 a6, bs, m_isDigit (M := setF M 21 (nI p)) h19 a3 a2 a10 a6, bs]
      by_cases hp : p < n
      · rw [if_neg (nI_ge hp (by omega)), if_pos hp, if_pos hp, if_pos hp, if_pos (nI_lt hp (by omega)), if_pos (nI_lt hp (by omega)), lg_in (by omega) (by omega), lu, nI_1]
        -- a blank, or a token
        have tok : ∃ s q W' M', (if Tk_isLetter (b.getD p 0) = 0 then (if Tk_isDigit (b.getD p 0) = 0 then (Option.bind (if b.getD p 0 = 59 then (some (3 : Int32)) else (some 4)) fun b_1246 => some (setWI (setWI (setWI W 2 (nI p)) 3 b_1246) 1 (nI (p + 1)))) else (Option.bind (Tk_readNumber (setWI W 2 (nI p))) fun M_1247 => some (M_1247))) else (Option.bind (Tk_readWord (setWI W 2 (nI p))) fun M_1248 => some (M_1248))) = some W' ∧
            (if Tk_isLetter (b.getD p 0) = 0 then (if Tk_isDigit (b.getD p 0) = 0 then (some (setF (setF (setF M 21 (nI p)) 20 (nI (p + 1))) 22 3)) else (Md_scan_L120 ρ FU (setF M 21 (nI p)))) else (Md_scan_L77 ρ FU (setF M 21 (nI p)))) = some M' ∧ TK b n W' M' s q ∧ FrW W W' ∧ FrM M M' := by
          by_cases hl : Tk_isLetter (b.getD p 0) = 0
          · rw [if_pos hl, if_pos hl]
            by_cases hd : Tk_isDigit (b.getD p 0) = 0
            · rw [if_pos hd, if_pos hd]
              have mk : ∀ kd : Int32, ∃ W', W' = setWI (setWI (setWI W 2 (nI p)) 3 kd) 1 (nI (p + 1)) ∧ FrW W W' ∧ W'.2.2.1 2 = nI p ∧ W'.2.2.1 3 = kd ∧ W'.2.2.1 1 = nI (p + 1) := fun kd => ⟨_, rfl, ((FrW.wi W _ (by omega)).tr (FrW.wi _ _ (by omega))).tr (FrW.wi _ _ (by omega)), (wi_n _ _ (by decide)).trans ((wi_n _ _ (by decide)).trans (wi_s _ _ _)), (wi_n _ _ (by decide)).trans (wi_s _ _ _), wi_s _ _ _⟩
              have fm : FrM M (setF (setF (setF M 21 (nI p)) 20 (nI (p + 1))) 22 3) := (hM21.tr (FrM.f _ _ (by omega))).tr (FrM.f _ _ (by omega))
              have m20 : (setF (setF (setF M 21 (nI p)) 20 (nI (p + 1))) 22 3).1 20 = nI (p + 1) := (setF_n _ _ (by decide)).trans (setF_s _ _ _)
              have m21 : (setF (setF (setF M 21 (nI p)) 20 (nI (p + 1))) 22 3).1 21 = nI p := (setF_n _ _ (by decide)).trans ((setF_n _ _ (by decide)).trans (setF_s _ _ _))
              by_cases h59 : b.getD p 0 = 59
              · obtain ⟨W', e, f1, f2, f3, f4⟩ := mk 3
                rw [if_pos h59, bs, ← e]
                exact ⟨p, p + 1, W', _, rfl, rfl, ⟨h0.fr f1 fm f4 m20 (by omega), by omega, f2, m21, Or.inr ⟨hp, Or.inr (Or.inr (Or.inl ⟨f3, setF_s _ _ _, h59⟩))⟩⟩, f1, fm⟩
              · obtain ⟨W', e, f1, f2, f3, f4⟩ := mk 4
                rw [if_neg h59, bs, ← e]
                exact ⟨p, p + 1, W', _, rfl, rfl, ⟨h0.fr f1 fm f4 m20 (by omega), by omega, f2, m21, Or.inr ⟨hp, Or.inr (Or.inr (Or.inr ⟨f3, setF_s _ _ _, h59⟩))⟩⟩, f1, fm⟩
            · rw [if_neg hd, if_neg hd]
              have f0 : FrW W (setWI (setWI (setWI W 2 (nI p)) 3 2) 4 0) := ((FrW.wi W _ (by omega)).tr (FrW.wi _ _ (by omega))).tr (FrW.wi _ _ (by omega))
              obtain ⟨q, W', M', g1, g2, g3, g4, g5, g6, g7, g8, g9, g10⟩ := s_digits (ρ := ρ) (s := p) FU FU p (setWI (setWI (setWI W 2 (nI p)) 3 2) 4 0) (setF M 21 (nI p)) (h0.fr f0 hM21 ((wi_n _ _ (by decide)).trans ((wi_n _ _ (by decide)).trans ((wi_n _ _ (by decide)).trans a5))) ((setF_n _ _ (by decide)).trans a8) a6) (Nat.le_refl _) (FU_gt (by omega)) (FU_gt (by omega)) (by rw [wi_s, Nat.sub_self]; exact ⟨0, by omega, rfl, fun _ => rfl, fun g => absurd g (by omega)⟩)
              have e1 : Tk_readNumber (setWI W 2 (nI p)) = some W' := g2
              rw [e1, bs]
              have fm : FrM M (setF M' 22 2) := (hM21.tr g6).tr (FrM.f _ _ (by omega))
              have m20 : (setF M' 22 2).1 20 = nI q := (setF_n _ _ (by decide)).trans g4.2.2.2.2.2.2.2.1
              have m21 : (setF M' 22 2).1 21 = nI p := (setF_n _ _ (by decide)).trans (g9.trans (setF_s _ _ _))
              have hps : PS b n W' (setF M' 22 2) q := h0.fr (f0.tr g5) fm g4.2.2.2.2.1 m20 g4.2.2.2.2.2.1
              have val : ∀ ρ, Md_value ρ (setF M' 22 2) = some (vfold b (q - p) p 0) := fun ρ => by
                unfold Md_value
                rw [m21, lu]
                exact m_valueL (s := p) hps.2.2.2.2.2.2.2.2.2 (by have := hps.2.2.2.2.2.1; omega) a2 m20 (setF_s _ _ _) FU p 0 g1 (FU_gt (by have := hps.2.2.2.2.2.1; omega))
              refine ⟨p, q, W', _, rfl, g3, ⟨hps, g1, ?_, m21, Or.inr ⟨hp, Or.inr (Or.inl ⟨?_, setF_s _ _ _, _, val 0, val 1, g10⟩)⟩⟩, f0.tr g5, fm⟩
              · exact g7.trans ((wi_n _ _ (by decide)).trans ((wi_n _ _ (by decide)).trans (wi_s _ _ _)))
              · exact g8.trans ((wi_n _ _ (by decide)).trans (wi_s _ _ _))
          · rw [if_neg hl, if_neg hl]
            have f0 : FrW W (setWI (setWI W 2 (nI p)) 3 1) := (FrW.wi W _ (by omega)).tr (FrW.wi _ _ (by omega))
            obtain ⟨q, W', M', g1, g2, g3, g4, g5, g6, g7, g8, g9⟩ := s_word (ρ := ρ) FU FU p (setWI (setWI W 2 (nI p)) 3 1) (setF M 21 (nI p)) (h0.fr f0 hM21 ((wi_n _ _ (by decide)).trans ((wi_n _ _ (by decide)).trans a5)) ((setF_n _ _ (by decide)).trans a8) a6) (FU_gt (by omega)) (FU_gt (by omega))
            have e1 : Tk_readWord (setWI W 2 (nI p)) = some W' := g2
            rw [e1, bs]
            have fm : FrM M (setF M' 22 1) := (hM21.tr g6).tr (FrM.f _ _ (by omega))
            refine ⟨p, q, W', _, rfl, g3, ⟨h0.fr (f0.tr g5) fm g4.2.2.2.2.1 ((setF_n _ _ (by decide)).trans g4.2.2.2.2.2.2.2.1) g4.2.2.2.2.2.1, g1, ?_, ?_, Or.inr ⟨hp, Or.inl ⟨?_, setF_s _ _ _⟩⟩⟩, f0.tr g5, fm⟩
            · exact g7.trans ((wi_n _ _ (by decide)).trans (wi_s _ _ _))
            · exact (setF_n _ _ (by decide)).trans (g9.trans (setF_s _ _ _))
            · exact g8.trans (wi_s _ _ _)
        have blank : ∃ s q W' M', Tk_next_L0 m (setWI W 1 (nI (p + 1))) = some W' ∧ Md_scan_L0 ρ m' (setF M 20 (nI (p + 1))) = some M' ∧ TK b n W' M' s q ∧ FrW W W' ∧ FrM M M' := by
          obtain ⟨s, q, W', M', g1, g2, g3, g4, g5⟩ := ih m' (p + 1) _ _ (h0.fr (FrW.wi W (k := 1) (nI (p + 1)) (by omega)) (FrM.f M (k := 20) (nI (p + 1)) (by omega)) (wi_s _ _ _) (setF_s _ _ _) (by omega)) (by omega) (by omega)
          exact ⟨s, q, W', M', g1, g2, g3, (FrW.wi W _ (by omega)).tr g4, (FrM.f M _ (by omega)).tr g5⟩
        unfold Tk_isBlank
        by_cases h32 : b.getD p 0 = 32
        · rw [if_pos h32, if_neg (by decide), if_pos h32]
          exact blank
        · rw [if_neg h32, if_neg h32]
          by_cases h10 : b.getD p 0 = 10
          · rw [if_pos h10, if_neg (by decide), if_pos h10]
            exact blank
          · rw [if_neg h10, if_pos rfl, if_neg h10]
            exact tok
      · obtain rfl : p = n := by omega
        rw [if_pos (Int32.le_refl _), if_neg (Int32.lt_irrefl _), if_neg hp, if_neg (by decide), if_neg (by decide), if_neg (Int32.lt_irrefl _)]
        have f0 : FrW W (setWI (setWI W 2 (nI p)) 3 0) := (FrW.wi W _ (by omega)).tr (FrW.wi _ _ (by omega))
        have fm : FrM M (setF (setF M 21 (nI p)) 22 0) := hM21.tr (FrM.f _ _ (by omega))
        exact ⟨p, p, _, _, rfl, rfl, ⟨h0.fr f0 fm ((wi_n _ _ (by decide)).trans ((wi_n _ _ (by decide)).trans a5)) ((setF_n _ _ (by decide)).trans ((setF_n _ _ (by decide)).trans a8)) a6, Nat.le_refl _, (wi_n _ _ (by decide)).trans (wi_s _ _ _), (setF_n _ _ (by decide)).trans (setF_s _ _ _), Or.inl ⟨wi_s _ _ _, setF_s _ _ _⟩⟩, f0, fm⟩
theorem s_tok {p : Nat} (h : PS b n W M p) : ∃ s q W' M', Tk_next W = some W' ∧ Md_scan ρ M = some M' ∧ TK b n W' M' s q ∧ FrW W W' ∧ FrM M M' :=
  s_next FU FU p W M h (FU_gt (by have := h.2.1; have := h.2.2.1; omega)) (FU_gt (by have := h.2.1; have := h.2.2.1; omega))
end TKS
/-! words, numbers, errors -/
section PW
variable {b : List Int32} {n s p : Nat} {W : WM} {M : MdM}
theorem s_isWordL {cs : List Int32} (hl : cs.length ≤ 7) (h : PS b n W M p) (hs : s + cs.length = p) (h2 : W.2.2.1 2 = nI s) (h21 : M.1 21 = nI s) : ∀ (m k : Nat), k ≤ cs.length → cs.length - k < m → ∃ r, (r = 0 ∨ r = 1) ∧ Tk_isWord_L28 cs W m (nI k) = some r ∧ ∀ ρ, Md_isWord_L39 ρ cs M m 1 (nI k) = some r := by
  obtain ⟨a1, a2, a3, a4, a5, a6, a7, a8, a9, a10⟩ := h
  intro m
  induction m with
  | zero => intro k h1 h2; omega
  | succ m ih =>
    intro k k1 k2
    by_cases hk : cs.length ≤ k
    · refine ⟨1, Or.inr rfl, ?_, fun ρ => ?_⟩
      · unfold Tk_isWord_L28
        rw [if_pos (nI_le hk (by omega))]
      · unfold Md_isWord_L39
        rw [if_neg (show ¬ (1 : Int32) = 0 by decide), if_pos (nI_le hk (by omega)), if_pos (Or.inr rfl)]
    · have hin : inB (nI k) cs.length := q_in (by omega) (by omega)
      have hin2 : inB (nI (s + k)) 700 := q_in (by omega) (by omega)
      by_cases hc : b.getD (s + k) 0 = cs.getD k 0
      · obtain ⟨r, r1, r2, r3⟩ := ih (k + 1) (by omega) (by omega)
        refine ⟨r, r1, ?_, fun ρ => ?_⟩
        · unfold Tk_isWord_L28
          rw [if_neg (nI_ge (by omega) (by omega)), if_pos hin, h2, nI_add, a1, lg_in (by omega) (by omega), q_cl (by omega), if_pos hc, nI_1, r2]
        · unfold Md_isWord_L39
          rw [if_neg (show ¬ (1 : Int32) = 0 by decide), if_neg (nI_ge (by omega) (by omega)), if_pos hin, h21, nI_add, if_pos hin2, q_cl (by omega), q_cl (by omega), a10 _ (by omega), if_pos hc.symm, bs, nI_1, r3]
      · refine ⟨0, Or.inl rfl, ?_, fun ρ => ?_⟩
        · unfold Tk_isWord_L28
          rw [if_neg (nI_ge (by omega) (by omega)), if_pos hin, h2, nI_add, a1, lg_in (by omega) (by omega), q_cl (by omega), if_neg hc]
        · unfold Md_isWord_L39
          rw [if_neg (show ¬ (1 : Int32) = 0 by decide), if_neg (nI_ge (by omega) (by omega)), if_pos hin, h21, nI_add, if_pos hin2, q_cl (by omega), q_cl (by omega), a10 _ (by omega), if_neg (fun q => hc q.symm), bs, nI_1]
          cases m with
          | zero => omega
          | succ m =>
            unfold Md_isWord_L39
            rw [if_pos rfl, if_pos (Or.inl rfl)]
theorem w_no (ρ : Nat) (cs : List Int32) (M : MdM) : Md_isWord_L39 ρ cs M FU 0 0 = some 0 := by
  show Md_isWord_L39 ρ cs M (999 + 1) 0 0 = some 0
  unfold Md_isWord_L39
  rw [if_pos rfl, if_pos (Or.inl rfl)]
theorem s_isWord {cs : List Int32} (hl : cs.length ≤ 7) (h : TK b n W M s p) : ∃ r, (r = 0 ∨ r = 1) ∧ Tk_isWord cs W = some r ∧ (∀ ρ, Md_isWord ρ cs M = some r) := by
  obtain ⟨hp, hsp, h2, h21, hk⟩ := h
  have h0 := hp
  obtain ⟨a1, a2, a3, a4, a5, a6, a7, a8, a9, a10⟩ := hp
  unfold Tk_isWord Md_isWord
  have no : W.2.2.1 3 ≠ 1 → M.1 22 ≠ 1 → ∃ r, (r = 0 ∨ r = 1) ∧ (if W.2.2.1 3 = 1 then (if (W.2.2.1 1) - (W.2.2.1 2) = nI cs.length then (Tk_isWord_L28 cs W FU 0) else (some (0))) else (some (0))) = some r ∧ ∀ ρ, (Option.bind (if M.1 23 = 0 then (if M.1 22 = 1 then (if nI cs.length = (M.1 20) - (M.1 21) then (some 1) else (some 0)) else (some 0)) else (some 0)) fun b_1109 => Md_isWord_L39 ρ cs M FU b_1109 0) = some r := by
    intro g1 g2
    refine ⟨0, Or.inl rfl, by rw [if_neg g1], fun ρ => ?_⟩
    rw [if_pos a9, if_neg g2, bs, w_no]
  rcases hk with ⟨k1, k2⟩ | ⟨hsn, ⟨k1, k2⟩ | ⟨k1, k2, -⟩ | ⟨k1, k2, -⟩ | ⟨k1, k2, -⟩⟩
  · exact no (by rw [k1]; decide) (by rw [k2]; decide)
  · by_cases hln : s + cs.length = p
    · obtain ⟨r, r1, r2, r3⟩ := s_isWordL hl h0 hln h2 h21 FU 0 (Nat.zero_le _) (FU_gt (by omega))
      refine ⟨r, r1, ?_, fun ρ => ?_⟩
      · rw [if_pos k1, a5, h2, pk_sub hsp, if_pos (by congr 1; omega)]
        exact r2
      · rw [if_pos a9, if_pos k2, a8, h21, pk_sub hsp, if_pos (by congr 1; omega), bs]
        exact r3 ρ
    · have hne : ¬ nI (p - s) = nI cs.length := fun q => hln (by have := (q_eq (by omega) (by omega)).mp q; omega)
      refine ⟨0, Or.inl rfl, ?_, fun ρ => ?_⟩
      · rw [if_pos k1, a5, h2, pk_sub hsp, if_neg hne]
      · rw [if_pos a9, if_pos k2, a8, h21, pk_sub hsp, if_neg (fun q => hne q.symm), bs, w_no]
  · exact no (by rw [k1]; decide) (by rw [k2]; decide)
  · exact no (by rw [k1]; decide) (by rw [k2]; decide)
  · exact no (by rw [k1]; decide) (by rw [k2]; decide)
/-- an error at this token, on both sides -/
def Wf (W : WM) (c : Int32) : WM := setWI (setWI W 5 c) 6 (W.2.2.1 2)
def Mf (M : MdM) (c : Int32) : MdM := setF (setF M 23 c) 24 (M.1 21)
theorem p_fail (W : WM) (c : Int32) : Ps_fail W c = (0, Wf W c) := rfl
theorem d_ok (ρ : Nat) (M : MdM) (c : Int32) : Md_demand ρ M 1 c = M := by
  unfold Md_demand
  rw [if_neg (by decide)]
theorem d_no (ρ : Nat) {M : MdM} (h : M.1 23 = 0) (c : Int32) : Md_demand ρ M 0 c = Mf M c := by
  unfold Md_demand
  rw [if_pos rfl, if_pos h]
  rfl
/-- the reference behind an error: nothing more is read -/
def ER (M : MdM) : Prop := ¬ M.1 23 = 0 ∧ ∃ s p, s ≤ p ∧ p ≤ 700 ∧ M.1 21 = nI s ∧ M.1 20 = nI p
theorem er_of (h : TK b n W M s p) {c : Int32} (hc : ¬ c = 0) : ER (Mf M c) := by
  obtain ⟨hp, hsp, h2, h21, hk⟩ := h
  refine ⟨?_, s, p, hsp, ?_, ?_, ?_⟩
  · show ¬ (setF (setF M 23 c) 24 (M.1 21)).1 23 = 0
    rw [setF_n _ _ (by decide), setF_s]
    exact hc
  · have := hp.2.1; have := hp.2.2.1; have := hp.2.2.2.2.2.1; omega
  · exact (setF_n _ _ (by decide)).trans ((setF_n _ _ (by decide)).trans h21)
  · exact (setF_n _ _ (by decide)).trans ((setF_n _ _ (by decide)).trans hp.2.2.2.2.2.2.2.1)
theorem er_a {M : MdM} (h : ER M) (j : Nat) (f : Nat → Int32) : ER (setA M j f) := h
theorem er_f {M : MdM} (h : ER M) {k : Nat} (v : Int32) (h1 : k ≠ 23) (h2 : k ≠ 21) (h3 : k ≠ 20) : ER (setF M k v) := by
  obtain ⟨g1, s, p, g2, g3, g4, g5⟩ := h
  exact ⟨by rw [setF_n _ _ (Ne.symm h1)]; exact g1, s, p, g2, g3, by rw [setF_n _ _ (Ne.symm h2)]; exact g4, by rw [setF_n _ _ (Ne.symm h3)]; exact g5⟩
theorem e_dem (ρ : Nat) {M : MdM} (h : ER M) (x c : Int32) : Md_demand ρ M x c = M := by
  unfold Md_demand
  rw [if_neg h.1]
  split <;> rfl
theorem e_adv (ρ : Nat) {M : MdM} (h : ER M) : Md_advance ρ M = some M := by
  unfold Md_advance
  rw [if_neg h.1]
theorem e_val (ρ : Nat) {M : MdM} (h : ER M) : ∃ r, Md_value ρ M = some r := by
  obtain ⟨-, s, p, h1, h2, h3, h4⟩ := h
  unfold Md_value
  rw [h3, lu]
  have go : ∀ (m k : Nat) (v : Int32), k ≤ p → p - k < m → ∃ r, Md_value_L7 ρ M m v (nI k) = some r := by
    intro m
    induction m with
    | zero => intro k v g1 g2; omega
    | succ m ih =>
      intro k v g1 g2
      unfold Md_value_L7
      rw [h4]
      by_cases hk : p ≤ k
      · rw [if_pos (nI_le hk (by omega))]
        exact ⟨_, rfl⟩
      · rw [if_neg (nI_ge (by omega) (by omega)), if_pos (q_in (by omega) (by omega)), q_cl (by omega), lu, nI_1]
        split
        · split
          · exact ih _ _ (by omega) (by omega)
          · exact ih _ _ (by omega) (by omega)
        · exact ⟨_, rfl⟩
  exact go FU s 0 h1 (FU_gt (by omega))
theorem e_look (ρ : Nat) {M : MdM} (h : ER M) (lo hi : Int32) : Md_look ρ M lo hi = some (lo, M) := by
  obtain ⟨r, hr⟩ := e_val ρ h
  unfold Md_look
  simp only [lu, e_dem ρ h, hr, bs]
  rw [if_neg h.1]
  split <;> rfl
theorem e_num (ρ : Nat) {M : MdM} (h : ER M) (lo hi : Int32) : Md_readNumber ρ M lo hi = some (lo, M) := by
  unfold Md_readNumber
  simp only [lu, e_look ρ h, e_adv ρ h, bs]
theorem e_isW (ρ : Nat) {M : MdM} (h : ER M) (cs : List Int32) : Md_isWord ρ cs M = some 0 := by
  unfold Md_isWord
  rw [if_neg h.1, bs, w_no]
theorem e_acc (ρ : Nat) {M : MdM} (h : ER M) (cs : List Int32) : Md_accept ρ cs M = some (0, M) := by
  unfold Md_accept
  rw [e_isW ρ h, bs, if_pos rfl, if_pos (Or.inl rfl)]
theorem e_exp (ρ : Nat) {M : MdM} (h : ER M) (x : Int32) : Md_expect ρ M x = some M := by
  unfold Md_expect Md_isSymbol
  rw [if_neg h.1, bs, lu, e_dem ρ h, e_adv ρ h, bs]
theorem e_mark (ρ : Nat) {M : MdM} (h : ER M) : Md_readNewMark ρ M = some (0, M) := by
  unfold Md_readNewMark
  simp only [lu, e_look ρ h, bs, e_dem ρ h, e_adv ρ h]
  rw [if_neg h.1]
theorem e_fold (ρ : Nat) {M : MdM} (h : ER M) : Md_readFolder ρ M = some M := by
  unfold Md_readFolder
  simp only [lu, if_neg h.1, bs, e_dem ρ h, e_adv ρ h, e_mark ρ h, e_acc ρ h, e_exp ρ h]
  rw [if_pos rfl]
theorem e_L67 (ρ : Nat) {M : MdM} (h : ER M) (a c d e : Int32) : Md_readText_L67 ρ FU M a c d e = some M := by
  show Md_readText_L67 ρ (999 + 1) M a c d e = some M
  unfold Md_readText_L67
  rw [if_neg h.1]
/-- a number looked at -/
theorem s_look (h : TK b n W M s p) {lo hi : Nat} (h1 : lo ≤ hi) (h2 : hi ≤ 9999) : (∃ x, lo ≤ x ∧ x ≤ hi ∧ W.2.2.1 3 = 2 ∧ W.2.2.1 4 = nI x ∧ ∀ ρ, ρ < 2 → Md_look ρ M (nI lo) (nI hi) = some (nI x, M)) ∨
    (W.2.2.1 3 ≠ 2 ∧ ∀ ρ, ρ < 2 → Md_look ρ M (nI lo) (nI hi) = some (nI lo, Mf M 1)) ∨ (W.2.2.1 3 = 2 ∧ (W.2.2.1 4 < nI lo ∨ ¬ W.2.2.1 4 < nI lo ∧ ¬ W.2.2.1 4 ≤ nI hi) ∧ ∀ ρ, ρ < 2 → Md_look ρ M (nI lo) (nI hi) = some (nI lo, Mf M 2)) := by
  have h0 := h
  have er := fun c (hc : ¬ c = 0) => er_of h0 hc
  obtain ⟨hp, hsp, h2', h21, hk⟩ := h
  have a9 := hp.2.2.2.2.2.2.2.2.1
  have no : W.2.2.1 3 ≠ 2 → M.1 22 ≠ 2 → (W.2.2.1 3 ≠ 2 ∧ ∀ ρ, ρ < 2 → Md_look ρ M (nI lo) (nI hi) = some (nI lo, Mf M 1)) := by
    intro g1 g2
    refine ⟨g1, fun ρ hρ => ?_⟩
    obtain ⟨r, hr⟩ := e_val ρ (er 1 (by decide))
    unfold Md_look
    rw [if_neg g2]
    simp only [lu, d_no ρ a9, hr, bs, e_dem ρ (er 1 (by decide))]
    rw [if_neg (er 1 (by decide)).1]
  rcases hk with ⟨k1, k2⟩ | ⟨hsn, ⟨k1, k2⟩ | ⟨k1, k2, r, r1, r2, x, x1, x2, x3, x4⟩ | ⟨k1, k2, -⟩ | ⟨k1, k2, -⟩⟩
  · exact Or.inr (Or.inl (no (by rw [k1]; decide) (by rw [k2]; decide)))
  · exact Or.inr (Or.inl (no (by rw [k1]; decide) (by rw [k2]; decide)))
  · have hv : ∀ ρ, ρ < 2 → Md_value ρ M = some r := fun ρ hρ => by
      rcases (show ρ = 0 ∨ ρ = 1 by omega) with rfl | rfl
      · exact r1
      · exact r2
    have bad : Md_inRange r (nI lo) (nI hi) = 0 → ∀ ρ, ρ < 2 → Md_look ρ M (nI lo) (nI hi) = some (nI lo, Mf M 2) := fun g ρ hρ => by
      unfold Md_look
      rw [if_pos k2]
      simp only [lu, d_ok, hv ρ hρ, bs, g, d_no ρ a9]
      rw [if_neg (er 2 (by decide)).1]
    by_cases c1 : x < lo
    · refine Or.inr (Or.inr ⟨k1, Or.inl ?_, bad ?_⟩)
      · rw [x3 (by omega)]; exact nI_lt c1 (by omega)
      · rw [x2]; exact inr_lo (nI_lt c1 (by omega))
    · by_cases c2 : x ≤ hi
      · refine Or.inl ⟨x, by omega, c2, k1, x3 (by omega), fun ρ hρ => ?_⟩
        have g : Md_inRange r (nI lo) (nI hi) = 1 := by
          rw [x2]; exact inr_in (nI_nlt (by omega) (by omega)) (nI_nlt c2 (by omega))
        unfold Md_look
        rw [if_pos k2]
        simp only [lu, d_ok, hv ρ hρ, bs, g]
        rw [if_pos a9, x2]
      · refine Or.inr (Or.inr ⟨k1, Or.inr ?_, bad ?_⟩)
        · by_cases c3 : x < 1000000
          · rw [x3 c3]; exact ⟨nI_nlt (by omega) (by omega), nI_ge (by omega) (by omega)⟩
          · rw [x4 (by omega)]
            exact ⟨show ¬ nI 1000000 < nI lo from nI_nlt (by omega) (by omega), show ¬ nI 1000000 ≤ nI hi from nI_ge (by omega) (by omega)⟩
        · rw [x2]; exact inr_hi (nI_lt (by omega) (by omega))
  · exact Or.inr (Or.inl (no (by rw [k1]; decide) (by rw [k2]; decide)))
  · exact Or.inr (Or.inl (no (by rw [k1]; decide) (by rw [k2]; decide)))
/-- a number read: the component's next and test, the reference's scan and look -/
theorem p_num (h : PS b n W M p) {lo hi : Nat} (h1 : lo ≤ hi) (h2 : hi ≤ 9999) {ρ : Nat} (hρ : ρ < 2) : ∃ s q W' M', Md_scan ρ M = some M' ∧ TK b n W' M' s q ∧ FrW W W' ∧ FrM M M' ∧
    ((∃ x, lo ≤ x ∧ x ≤ hi ∧ Ps_readNumber W (nI lo) (nI hi) = some (1, W') ∧ W'.2.2.1 4 = nI x ∧ Md_look ρ M' (nI lo) (nI hi) = some (nI x, M')) ∨
     ∃ c, ¬ c = 0 ∧ Ps_readNumber W (nI lo) (nI hi) = some (0, Wf W' c) ∧ Md_look ρ M' (nI lo) (nI hi) = some (nI lo, Mf M' c)) := by
  obtain ⟨s, q, W', M', e1, e2, e3, e4, e5⟩ := s_tok (ρ := ρ) h
  refine ⟨s, q, W', M', e2, e3, e4, e5, ?_⟩
  unfold Ps_readNumber Tk_kind Tk_value
  simp only [e1, bs, lu, p_fail]
  rcases s_look e3 h1 h2 with ⟨x, x1, x2, x3, x4, x5⟩ | ⟨x1, x2⟩ | ⟨x1, x2, x3⟩
  · refine Or.inl ⟨x, x1, x2, ?_, x4, x5 ρ hρ⟩
    rw [if_pos x3, x4, if_neg (nI_nlt x1 (by omega)), if_pos (nI_le x2 (by omega))]
  · refine Or.inr ⟨1, by decide, ?_, x2 ρ hρ⟩
    rw [if_neg x1, if_pos (Or.inl rfl)]
  · refine Or.inr ⟨2, by decide, ?_, x3 ρ hρ⟩
    rw [if_pos x1]
    rcases x2 with x2 | ⟨x2, x4⟩
    · rw [if_pos x2, if_pos (Or.inl rfl)]
    · rw [if_neg x2, if_neg x4, if_pos (Or.inl rfl)]
/-- the sign behind an entry -/
theorem s_sym (h : TK b n W M s p) : (W.2.2.1 3 = 3 ∧ ∀ ρ, Md_isSymbol ρ M 59 = some 1) ∨ (W.2.2.1 3 ≠ 3 ∧ ∀ ρ, Md_isSymbol ρ M 59 = some 0) := by
  obtain ⟨hp, hsp, h2, h21, hk⟩ := h
  obtain ⟨a1, a2, a3, a4, a5, a6, a7, a8, a9, a10⟩ := hp
  have no : W.2.2.1 3 ≠ 3 → M.1 22 ≠ 3 → (W.2.2.1 3 ≠ 3 ∧ ∀ ρ, Md_isSymbol ρ M 59 = some 0) := fun g1 g2 => ⟨g1, fun ρ => by
    unfold Md_isSymbol
    rw [if_pos a9, if_neg g2]⟩
  rcases hk with ⟨k1, k2⟩ | ⟨hsn, ⟨k1, k2⟩ | ⟨k1, k2, -⟩ | ⟨k1, k2, k3⟩ | ⟨k1, k2, k3⟩⟩
  · exact Or.inr (no (by rw [k1]; decide) (by rw [k2]; decide))
  · exact Or.inr (no (by rw [k1]; decide) (by rw [k2]; decide))
  · exact Or.inr (no (by rw [k1]; decide) (by rw [k2]; decide))
  · refine Or.inl ⟨k1, fun ρ => ?_⟩
    unfold Md_isSymbol
    rw [if_pos a9, if_pos k2, h21, if_pos (q_in (by omega) (by omega)), q_cl (by omega), a10 s (by omega), if_pos k3]
  · refine Or.inr ⟨by rw [k1]; decide, fun ρ => ?_⟩
    unfold Md_isSymbol
    rw [if_pos a9, if_pos k2, h21, if_pos (q_in (by omega) (by omega)), q_cl (by omega), a10 s (by omega), if_neg k3]
/-- the end of an entry: its sign, and the token behind it -/
theorem p_end (h : TK b n W M s p) {ρ : Nat} : (∃ s' q W' M', Ps_isEnded W = some (1, W) ∧ Tk_next W = some W' ∧ Md_expect ρ M 59 = some M' ∧ TK b n W' M' s' q ∧ FrW W W' ∧ FrM M M') ∨ (Ps_isEnded W = some (0, Wf W 1) ∧ Md_expect ρ M 59 = some (Mf M 1)) := by
  have a9 := h.1.2.2.2.2.2.2.2.2.1
  unfold Ps_isEnded Tk_kind Md_expect
  rcases s_sym h with ⟨g1, g2⟩ | ⟨g1, g2⟩
  · obtain ⟨s', q, W', M', e1, e2, e3, e4, e5⟩ := s_tok (ρ := ρ) h.1
    refine Or.inl ⟨s', q, W', M', by rw [if_pos g1], e1, ?_, e3, e4, e5⟩
    rw [g2 ρ, bs, lu, d_ok]
    unfold Md_advance
    rw [if_pos a9, e2, bs, bs]
  · refine Or.inr ⟨?_, ?_⟩
    · simp only [lu, p_fail]
      rw [if_neg g1, if_pos rfl, bs, if_pos (Or.inl rfl)]
    · rw [g2 ρ, bs, lu, d_no ρ a9, e_adv ρ (er_of h (by decide)), bs]
end PW
