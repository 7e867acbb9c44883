/-! the text goes into the buffer -/
theorem setWL_s (M : WM) (x y : List Int32) : setWL (setWL M 0 x) 0 y = setWL M 0 y := by
  refine Prod.ext rfl (Prod.ext (funext fun j => ?_) rfl)
  show va_up (va_up M.2.1 0 x) 0 y j = va_up M.2.1 0 y j
  by_cases h : j = 0 <;> simp [va_up, h]
theorem setWL_0 (M : WM) (x : List Int32) : (setWL M 0 x).2.1 0 = x := rfl
theorem la_4 {X : List Int32} (a b c e : Int32) (h : X.length + 4 ≤ 700) : lnadd 700 (lnadd 700 (lnadd 700 (lnadd 700 X a) b) c) e = X ++ [a, b, c, e] := by
  rw [la_in (xs := X) a (by omega), la_in (xs := X ++ [a]) b (by rw [List.length_append]; show _ + 1 < 700; omega), la_in (xs := X ++ [a] ++ [b]) c (by rw [List.length_append, List.length_append]; show _ + 1 + 1 < 700; omega), la_in (xs := X ++ [a] ++ [b] ++ [c]) e (by rw [List.length_append, List.length_append, List.length_append]; show _ + 1 + 1 + 1 < 700; omega)]
  simp only [List.append_assoc]
  rfl
theorem ab_ok (M : WM) (w : Int32) (h : (M.2.1 0).length + 4 ≤ 700) : SA_appendBytes M w = some (setWL M 0 (M.2.1 0 ++ [dec8 w 24, dec8 w 16, dec8 w 8, dec8 w 0])) := by
  unfold SA_appendBytes
  rw [show FU = 995 + 1 + 1 + 1 + 1 + 1 from rfl]
  rw [SA_appendBytes_L3, if_neg (by decide), SA_appendBytes_L3, show (24 : Int32) + -8 = 16 by decide, if_neg (by decide), SA_appendBytes_L3, show (16 : Int32) + -8 = 8 by decide, if_neg (by decide), SA_appendBytes_L3, show (8 : Int32) + -8 = 0 by decide, if_neg (by decide), SA_appendBytes_L3, show (0 : Int32) + -8 = -8 by decide, if_pos (by decide)]
  simp only [setWL_s, setWL_0]
  rw [la_4 _ _ _ _ h]
  rfl
theorem fd_ok (M : WM) (w0 w1 w2 w3 w4 : Int32) (h : (M.2.1 0).length + 20 ≤ 700) : ∃ r, SA_feed M w0 w1 w2 w3 w4 = some (r, setWL M 0 (M.2.1 0 ++ [dec8 w0 24, dec8 w0 16, dec8 w0 8, dec8 w0 0, dec8 w1 24, dec8 w1 16, dec8 w1 8, dec8 w1 0, dec8 w2 24, dec8 w2 16, dec8 w2 8, dec8 w2 0, dec8 w3 24, dec8 w3 16, dec8 w3 8, dec8 w3 0, dec8 w4 24, dec8 w4 16, dec8 w4 8, dec8 w4 0])) := by
  unfold SA_feed
  rw [show (20 : Int32) = nI 20 from rfl, nI_add, if_pos (show nI ((M.2.1 0).length + 20) ≤ 700 from (q_le (b := 700) (by omega) (by omega)).mpr h)]
  rw [ab_ok M w0 (by omega)]
  simp only [bs]
  rw [ab_ok _ w1 (by rw [setWL_0, List.length_append]; show _ + 4 + 4 ≤ 700; omega)]
  simp only [bs, setWL_s, setWL_0]
  rw [ab_ok _ w2 (by rw [setWL_0, List.length_append, List.length_append]; show _ + 4 + 4 + 4 ≤ 700; omega)]
  simp only [bs, setWL_s, setWL_0]
  rw [ab_ok _ w3 (by rw [setWL_0, List.length_append, List.length_append, List.length_append]; show _ + 4 + 4 + 4 + 4 ≤ 700; omega)]
  simp only [bs, setWL_s, setWL_0]
  rw [ab_ok _ w4 (by rw [setWL_0, List.length_append, List.length_append, List.length_append, List.length_append]; show _ + 4 + 4 + 4 + 4 + 4 ≤ 700; omega)]
  simp only [bs, setWL_s, setWL_0, List.append_assoc]
  exact ⟨_, rfl⟩
/-- twenty bytes out of five words -/
theorem dec_20 {l : List Int32} (hl : l.length = 20) (hb : ∀ x ∈ l, x &&& 255 = x) : [dec8 (wd l 0) 24, dec8 (wd l 0) 16, dec8 (wd l 0) 8, dec8 (wd l 0) 0, dec8 (wd l 1) 24, dec8 (wd l 1) 16, dec8 (wd l 1) 8, dec8 (wd l 1) 0, dec8 (wd l 2) 24, dec8 (wd l 2) 16, dec8 (wd l 2) 8, dec8 (wd l 2) 0, dec8 (wd l 3) 24, dec8 (wd l 3) 16, dec8 (wd l 3) 8, dec8 (wd l 3) 0, dec8 (wd l 4) 24, dec8 (wd l 4) 16, dec8 (wd l 4) 8, dec8 (wd l 4) 0] = l := by
  have hg : ∀ j, j < 20 → l.getD j 0 &&& 255 = l.getD j 0 := fun j hj => hb _ (gd_mem (by omega))
  have h4 : ∀ i, i < 5 → dec8 (wd l i) 24 = l.getD (4 * i) 0 ∧ dec8 (wd l i) 16 = l.getD (4 * i + 1) 0 ∧ dec8 (wd l i) 8 = l.getD (4 * i + 2) 0 ∧ dec8 (wd l i) 0 = l.getD (4 * i + 3) 0 := fun i hi => dec_ok (hg _ (by omega)) (hg _ (by omega)) (hg _ (by omega)) (hg _ (by omega))
  obtain ⟨a0, a1, a2, a3⟩ := h4 0 (by omega)
  obtain ⟨b0, b1, b2, b3⟩ := h4 1 (by omega)
  obtain ⟨c0, c1, c2, c3⟩ := h4 2 (by omega)
  obtain ⟨d0, d1, d2, d3⟩ := h4 3 (by omega)
  obtain ⟨e0, e1, e2, e3⟩ := h4 4 (by omega)
  rw [a0, a1, a2, a3, b0, b1, b2, b3, c0, c1, c2, c3, d0, d1, d2, d3, e0, e1, e2, e3]
  have hx : l = (List.range 20).map (fun j => l.getD j 0) := by
    have := rg_ext (n := 20) (xs := l) (g := fun j => l.getD j 0) hl (fun i hi => by
      rw [List.getD_eq_getElem?_getD, List.getElem?_eq_getElem (by omega)]; rfl)
    exact this
  conv => rhs; rw [hx]
  rfl
def FS (W0 : WM) (T : List Int32) (M : LwS) : Prop := M.1.2.1 0 = T.take (20 * (T.length / 20)) ∧ M.2 5 = nI T.length ∧ (∀ i, i < 5 → M.2 i = wd (T.drop (20 * (T.length / 20))) i) ∧ M.1.2.2.1 = W0.2.2.1
theorem md_n (L k : Nat) (hL : L < 100000) (h0 : 0 < k) (hk : k < 1000) : nI L - nI L / nI k * nI k = nI (L % k) := by
  have h1 := Nat.div_add_mod L k
  rw [Nat.mul_comm] at h1
  rw [pk_div (by omega) (by omega) (by omega), show nI (L / k) * nI k = nI (L / k * k) from (Int32.ofNat_mul _ _).symm, pk_sub (Nat.div_mul_le_self _ _)]
  congr 1
  omega
/-- a byte said, in numbers -/
theorem add_eq (M : LwS) (c : Int32) {L : Nat} (hL : L < 10000) (h5 : M.2 5 = nI L) : Lw_add M c = (if (L + 1) % 20 = 0 then Option.bind (SA_feed M.1 (upd (upd M.2 (L % 20 / 4) (M.2 (L % 20 / 4) ||| sb (L % 4) c)) 5 (nI (L + 1)) 0) (upd (upd M.2 (L % 20 / 4) (M.2 (L % 20 / 4) ||| sb (L % 4) c)) 5 (nI (L + 1)) 1) (upd (upd M.2 (L % 20 / 4) (M.2 (L % 20 / 4) ||| sb (L % 4) c)) 5 (nI (L + 1)) 2) (upd (upd M.2 (L % 20 / 4) (M.2 (L % 20 / 4) ||| sb (L % 4) c)) 5 (nI (L + 1)) 3) (upd (upd M.2 (L % 20 / 4) (M.2 (L % 20 / 4) ||| sb (L % 4) c)) 5 (nI (L + 1)) 4)) fun q => Lw_add_L65 FU (q.2, upd (upd M.2 (L % 20 / 4) (M.2 (L % 20 / 4) ||| sb (L % 4) c)) 5 (nI (L + 1))) c 0 else some (M.1, upd (upd M.2 (L % 20 / 4) (M.2 (L % 20 / 4) ||| sb (L % 4) c)) 5 (nI (L + 1)))) := by
  have t5 : (5 : Int32).toNatClampNeg = 5 := tn5
  have e1 : (nI L - nI L / 20 * 20) / 4 = nI (L % 20 / 4) := by
    rw [show (20 : Int32) = nI 20 from rfl, md_n L 20 (by omega) (by omega) (by omega), show (4 : Int32) = nI 4 from rfl, pk_div (by omega) (by omega) (by omega)]
  have e2 : ((24 : Int32) - 8 * (nI L - nI L / 4 * 4)) &&& 31 = nI (24 - 8 * (L % 4)) := by
    rw [show nI L - nI L / 4 * 4 = nI (L % 4) from md_n L 4 (by omega) (by omega) (by omega)]
    exact sb_eq _ (Nat.mod_lt _ (by omega))
  have i5 : inB 5 6 := by decide
  have i0 : inB 0 6 := by decide
  have i1 : inB 1 6 := by decide
  have i2 : inB 2 6 := by decide
  have i3 : inB 3 6 := by decide
  have i4 : inB 4 6 := by decide
  have iw : inB (nI (L % 20 / 4)) 6 := q_in (by omega) (by omega)
  have ew : (upd M.2 (L % 20 / 4) (M.2 (L % 20 / 4) ||| sb (L % 4) c)) 5 = nI L := (if_neg (by omega)).trans h5
  have hcl : (nI (L % 20 / 4)).toNatClampNeg = L % 20 / 4 := q_cl (by omega)
  have ew2 : (upd M.2 (L % 20 / 4) (M.2 (L % 20 / 4) ||| c <<< nI (24 - 8 * (L % 4)))) 5 = nI L := ew
  have e20 : nI (L + 1) - nI (L + 1) / 20 * 20 = nI ((L + 1) % 20) := md_n (L + 1) 20 (by omega) (by omega) (by omega)
  unfold Lw_add
  simp only [t5, tn0, tn1, tn2, tn3, tn4, h5, e1, e2, hcl, if_pos i5, if_pos iw, if_pos i0, if_pos i1, if_pos i2, if_pos i3, if_pos i4, ew2, nI_1, up_s, e20]
  by_cases h : (L + 1) % 20 = 0
  · rw [if_pos h, if_pos (show nI ((L + 1) % 20) = 0 by rw [h]; rfl)]
    rfl
  · rw [if_neg h, if_neg (fun z => h ((z0 (by omega)).mp z))]
    rfl
theorem cl_ok (V : WM) (w : Nat → Int32) (c : Int32) : Lw_add_L65 FU (V, w) c 0 = some (V, upd (upd (upd (upd (upd w 0 0) 1 0) 2 0) 3 0) 4 0) := by
  rw [show FU = 994 + 1 + 1 + 1 + 1 + 1 + 1 from rfl]
  rw [Lw_add_L65, if_neg (by decide), if_pos (by decide), show (0 : Int32) + 1 = 1 by decide, Lw_add_L65, if_neg (by decide), if_pos (by decide), show (1 : Int32) + 1 = 2 by decide, Lw_add_L65, if_neg (by decide), if_pos (by decide), show (2 : Int32) + 1 = 3 by decide, Lw_add_L65, if_neg (by decide), if_pos (by decide), show (3 : Int32) + 1 = 4 by decide, Lw_add_L65, if_neg (by decide), if_pos (by decide), show (4 : Int32) + 1 = 5 by decide, Lw_add_L65, if_pos (by decide)]
  rw [tn0, tn1, tn2, tn3, tn4]
theorem fs_add {W0 : WM} {T : List Int32} {M : LwS} {c : Int32} (h : FS W0 T M) (hl : T.length < 680) (hb : ∀ x ∈ T, x &&& 255 = x) (hc : c &&& 255 = c) : ∃ M', Lw_add M c = some M' ∧ FS W0 (T ++ [c]) M' := by
  obtain ⟨h0, h5, hw, hi⟩ := h
  have hlen : (T ++ [c]).length = T.length + 1 := by rw [List.length_append]; rfl
  have hdl : (T.drop (20 * (T.length / 20))).length = T.length % 20 := by rw [List.length_drop]; omega
  rw [add_eq M c (L := T.length) (by omega) h5]
  have hnew : ∀ i, i < 5 → (upd (upd M.2 (T.length % 20 / 4) (M.2 (T.length % 20 / 4) ||| sb (T.length % 4) c)) 5 (nI (T.length + 1))) i = wd (T.drop (20 * (T.length / 20)) ++ [c]) i := by
    intro i hi5
    rw [wd_app, hdl, show T.length % 20 % 4 = T.length % 4 by omega, ← hw i hi5]
    rw [show (upd (upd M.2 (T.length % 20 / 4) (M.2 (T.length % 20 / 4) ||| sb (T.length % 4) c)) 5 (nI (T.length + 1))) i = (upd M.2 (T.length % 20 / 4) (M.2 (T.length % 20 / 4) ||| sb (T.length % 4) c)) i from if_neg (by omega)]
    by_cases he : i = T.length % 20 / 4
    · rw [he, if_pos rfl]; exact if_pos rfl
    · rw [if_neg he]; exact if_neg he
  have happ : (T ++ [c]).drop (20 * (T.length / 20)) = T.drop (20 * (T.length / 20)) ++ [c] := List.drop_append_of_le_length (by omega)
  by_cases hz : (T.length + 1) % 20 = 0
  · rw [if_pos hz, hnew 0 (by omega), hnew 1 (by omega), hnew 2 (by omega), hnew 3 (by omega), hnew 4 (by omega)]
    have hbl : (M.1.2.1 0).length = 20 * (T.length / 20) := by rw [h0, List.length_take]; omega
    have h20 : (T.drop (20 * (T.length / 20)) ++ [c]).length = 20 := by rw [List.length_append, hdl]; show T.length % 20 + 1 = 20; omega
    have hdec := dec_20 h20 (fun x hx => by
      rcases List.mem_append.mp hx with q | q
      · exact hb x (List.mem_of_mem_drop q)
      · rw [List.mem_singleton.mp q]; exact hc)
    obtain ⟨r, ef⟩ := fd_ok M.1 (wd (T.drop (20 * (T.length / 20)) ++ [c]) 0) (wd (T.drop (20 * (T.length / 20)) ++ [c]) 1) (wd (T.drop (20 * (T.length / 20)) ++ [c]) 2) (wd (T.drop (20 * (T.length / 20)) ++ [c]) 3) (wd (T.drop (20 * (T.length / 20)) ++ [c]) 4) (by omega)
    rw [hdec] at ef
    rw [ef]
    simp only [bs]
    rw [cl_ok]
    have hq : 20 * ((T ++ [c]).length / 20) = (T ++ [c]).length := by rw [hlen]; omega
    refine ⟨_, rfl, ?_, ?_, fun i hi5 => ?_, hi⟩
    · rw [hq, List.take_length, setWL_0, h0, ← List.append_assoc, List.take_append_drop]
    · rw [hlen]; rfl
    · rw [hq, List.drop_length, wd_nil]
      rcases (show i = 0 ∨ i = 1 ∨ i = 2 ∨ i = 3 ∨ i = 4 by omega) with rfl | rfl | rfl | rfl | rfl <;> rfl
  · rw [if_neg hz]
    have hq : 20 * ((T ++ [c]).length / 20) = 20 * (T.length / 20) := by rw [hlen]; omega
    refine ⟨_, rfl, ?_, ?_, fun i hi5 => ?_, hi⟩
    · rw [hq, h0]
      exact (List.take_append_of_le_length (by omega)).symm
    · rw [hlen]; rfl
    · rw [hq, happ]
      exact hnew i hi5
theorem fs_say {W0 : WM} : ∀ (cs T : List Int32) (M : LwS), FS W0 T M → T.length + cs.length ≤ 680 → (∀ x ∈ T, x &&& 255 = x) → (∀ x ∈ cs, x &&& 255 = x) → ∃ M', Lw_say cs M = some M' ∧ FS W0 (T ++ cs) M' := by
  intro cs
  induction cs with
  | nil => exact fun T M h _ _ _ => ⟨M, rfl, by rw [List.append_nil]; exact h⟩
  | cons c cs ih =>
    intro T M h hl hb hc
    rw [List.length_cons] at hl
    obtain ⟨M1, e1, h1⟩ := fs_add h (by omega) hb (hc c List.mem_cons_self)
    obtain ⟨M2, e2, h2⟩ := ih (T ++ [c]) M1 h1 (by rw [List.length_append]; show T.length + 1 + cs.length ≤ 680; omega) (fun x hx => by
      rcases List.mem_append.mp hx with q | q
      · exact hb x q
      · rw [List.mem_singleton.mp q]; exact hc c List.mem_cons_self) (fun x hx => hc x (List.mem_cons_of_mem _ hx))
    refine ⟨M2, ?_, by rw [List.append_assoc] at h2; exact h2⟩
    unfold Lw_say
    rw [e1, bs]
    exact e2
theorem fs_endL {W0 : WM} (v : Int32) : ∀ (i fuel : Nat) (T : List Int32) (M : LwS), FS W0 T M → (T.length + i) % 20 = 0 → i < 20 → T.length + i ≤ 680 → i < fuel → (∀ x ∈ T, x &&& 255 = x) → ∃ M' B, Lw_end_L4 fuel M v = some (v, M') ∧ M'.1.2.1 0 = T ++ B ∧ M'.1.2.2.1 = W0.2.2.1 ∧ B.length = i := by
  have i5 : inB 5 6 := by decide
  intro i
  induction i with
  | zero =>
    intro fuel T M h hm _ hl hf hb
    obtain ⟨fuel, rfl⟩ : ∃ k, fuel = k + 1 := ⟨fuel - 1, by omega⟩
    obtain ⟨h0, h5, -, hi⟩ := h
    have e20 : nI T.length - nI T.length / 20 * 20 = nI (T.length % 20) := md_n T.length 20 (by omega) (by omega) (by omega)
    refine ⟨(M.1, upd M.2 5 0), [], ?_, ?_, hi, rfl⟩
    · rw [Lw_end_L4, if_pos i5]
      simp only [tn5, h5, e20]
      rw [show T.length % 20 = 0 by omega, if_pos (show nI 0 = 0 from rfl), if_pos i5]
    · show M.1.2.1 0 = _
      rw [h0, show 20 * (T.length / 20) = T.length by omega, List.take_length, List.append_nil]
  | succ i ih =>
    intro fuel T M h hm hi20 hl hf hb
    obtain ⟨fuel, rfl⟩ : ∃ k, fuel = k + 1 := ⟨fuel - 1, by omega⟩
    have h5 := h.2.1
    have e20 : nI T.length - nI T.length / 20 * 20 = nI (T.length % 20) := md_n T.length 20 (by omega) (by omega) (by omega)
    obtain ⟨M1, e1, h1⟩ := fs_add (c := 32) h (by omega) hb (by decide)
    obtain ⟨M', B, e2, h2, h3, h9⟩ := ih fuel (T ++ [32]) M1 h1 (by rw [List.length_append]; show (T.length + 1 + i) % 20 = 0; omega) (by omega) (by rw [List.length_append]; show T.length + 1 + i ≤ 680; omega) (by omega) (fun x hx => by
      rcases List.mem_append.mp hx with q | q
      · exact hb x q
      · rw [List.mem_singleton.mp q]; decide)
    refine ⟨M', 32 :: B, ?_, by rw [h2, List.append_assoc]; rfl, h3, congrArg (· + 1) h9⟩
    rw [Lw_end_L4, if_pos i5]
    simp only [tn5, h5, e20]
    rw [if_neg (fun z => by have := (z0 (by omega)).mp z; omega), e1, bs]
    exact e2
theorem fs_end {W0 : WM} {T : List Int32} {M : LwS} (h : FS W0 T M) (hl : T.length ≤ 600) (hb : ∀ x ∈ T, x &&& 255 = x) : ∃ M' B, Lw_end M = some (nI T.length, M') ∧ M'.1.2.1 0 = T ++ B ∧ M'.1.2.2.1 = W0.2.2.1 ∧ B.length < 20 := by
  obtain ⟨i, h1, h2⟩ : ∃ i, (T.length + i) % 20 = 0 ∧ i < 20 := ⟨(20 - T.length % 20) % 20, by omega, by omega⟩
  obtain ⟨M', B, e, h3, h4, h9⟩ := fs_endL (nI T.length) i FU T M h h1 h2 (by omega) (by unfold FU; omega) hb
  refine ⟨M', B, ?_, h3, h4, by omega⟩
  unfold Lw_end
  rw [if_pos (by decide)]
  simp only [ltb, tn5, h.2.1]
  exact e
