/-! a day: searches -/
def gSl (f : Nat → Int32) (c s : Nat) : Nat → Int32 := fun j => if 193 + 4 * s ≤ j ∧ j < 193 + 4 * c then f (j + 4) else f j
theorem lnrem_len {xs : List Int32} {s : Nat} (h : s < xs.length) (hl : xs.length ≤ 1000) : (lnrem xs (nI s)).length = xs.length - 1 := by
  rw [lm_in h hl, ln_rem h]
theorem lnrem_gd {xs : List Int32} {s : Nat} (h : s < xs.length) (hl : xs.length ≤ 1000) (i : Nat) : (lnrem xs (nI s)).getD i 0 = if i < s then xs.getD i 0 else xs.getD (i + 1) 0 := by
  rw [lm_in h hl, gd_rem h]
section DY
variable {H : Int32} {A : StM} {ρ : Nat} {M : MdM} {f : Nat → Int32}
theorem m_shiftS {c : Nat} (hc : c < 16) : ∀ (m j s : Nat) (M1 : MdM) (y : Int32), 193 ≤ j → j ≤ 193 + 4 * c → 193 + 4 * c - j < m → M1.2 ρ 8 = nI c → Md_removeSlip_L19 ρ m M1 y (nI j) = some (setA M1 ρ (fun q => if j ≤ q ∧ q < 193 + 4 * c then M1.2 ρ (q + 4) else M1.2 ρ q)) := by
  intro m
  induction m with
  | zero => intro j s M1 y h1 h2 h3; omega
  | succ m ih =>
    intro j s M1 y h1 h2 h3 h4
    unfold Md_removeSlip_L19
    rw [tn8, h4, show (193 : Int32) = nI 193 from rfl, show (4 : Int32) = nI 4 from rfl, pk_mul, nI_add, nI_add]
    by_cases hk : 193 + 4 * c ≤ j
    · rw [if_pos ((q_le (by omega) (by omega)).mpr hk)]
      congr 1
      refine Prod.ext rfl (funext fun q => ?_)
      by_cases hq : q = ρ
      · subst hq
        rw [setA_s]
        funext i
        exact (if_neg (by omega)).symm
      · exact (setA_n _ _ hq).symm
    · rw [if_neg (fun q => hk ((q_le (by omega) (by omega)).mp q))]
      by_cases hj : j + 4 < 257
      · rw [if_pos (q_in hj (by omega)), if_pos (q_in (by omega) (by omega)), q_cl (by omega), q_cl (by omega), nI_1, ih (j + 1) s _ y (by omega) (by omega) (by omega) (by rw [setA_s]; exact (if_neg (by omega)).trans h4), setA_A, setA_s]
        congr 3
        funext i
        unfold upd
        by_cases h8 : i = j
        · rw [if_neg (by omega), if_pos h8, if_pos (by omega), h8]
        · by_cases h9 : j + 1 ≤ i ∧ i < 193 + 4 * c
          · rw [if_pos h9, if_neg (by omega), if_pos (by omega)]
          · rw [if_neg h9, if_neg h8, if_neg (by omega)]
      · omega
theorem m_removeSlip {c s : Nat} (h8 : M.2 ρ 8 = nI (c + 1)) (hc : c < 16) (hs : s ≤ c) : Md_removeSlip ρ M (nI s) = some (setA M ρ (gSl (upd (M.2 ρ) 8 (nI c)) c s)) := by
  unfold Md_removeSlip
  rw [tn8, h8, nI_pred, show (193 : Int32) = nI 193 from rfl, show (4 : Int32) = nI 4 from rfl, pk_mul, nI_add, lu]
  rw [m_shiftS (c := c) (by omega) FU (193 + 4 * s) s _ (nI s) (by omega) (by omega) (FU_gt (by omega)) (by rw [setA_s]; exact if_pos rfl), setA_A, setA_s]
  rfl
theorem Arr.shift {b : Nat} {xs : List Int32} {c s : Nat} (hb : 193 ≤ b ∧ b < 197) (h : Arr f b 4 xs) (hl : xs.length = c + 1) (hs : s ≤ c) (hc : c < 16) (v : Int32) : Arr (gSl (upd f 8 v) c s) b 4 (lnrem xs (nI s)) := by
  intro i hi
  rw [lnrem_len (by omega) (by omega)] at hi
  rw [lnrem_gd (by omega) (by omega)]
  unfold gSl
  by_cases c1 : i < s
  · rw [if_neg (by omega), if_pos c1, ← h i (by omega)]
    exact if_neg (by omega)
  · rw [if_pos (by omega), if_neg c1, ← h (i + 1) (by omega), show b + 4 * i + 4 = b + 4 * (i + 1) by omega]
    exact if_neg (by omega)
/-- a slip taken away: the relation, the sizes, the slips -/
theorem Rel.rmslip (h : Rel H A f) (hz : Sz A) {s : Nat} (hs : s < (A.2 11).length) : Rel H (Sl_removeAt A (nI s)) (gSl (upd f 8 (nI ((A.2 11).length - 1))) ((A.2 11).length - 1) s) := by
  have z := hz.s
  have z12 := hz.e12
  have z13 := hz.e13
  have z14 := hz.e14
  refine h.onslips hz rfl (fun j a b c d => ?_) (fun j a b => ?_) ?_ ?_ ?_ ?_ ?_
  · unfold Sl_removeAt
    rw [setL_n _ _ d, setL_n _ _ c, setL_n _ _ b, setL_n _ _ a]
  · unfold gSl
    rw [if_neg (by omega)]
    exact if_neg a
  · show gSl (upd f 8 (nI ((A.2 11).length - 1))) ((A.2 11).length - 1) s 8 = nI (lnrem (A.2 11) (nI s)).length
    rw [lnrem_len hs (by omega)]
    unfold gSl
    rw [if_neg (by omega)]
    exact if_pos rfl
  · exact Arr.shift (xs := A.2 11) (by omega) h.s0 (by omega) (by omega) (by omega) _
  · exact Arr.shift (xs := A.2 12) (by omega) h.s1 (by omega) (by omega) (by omega) _
  · exact Arr.shift (xs := A.2 13) (by omega) h.s2 (by omega) (by omega) (by omega) _
  · exact Arr.shift (xs := A.2 14) (by omega) h.s3 (by omega) (by omega) (by omega) _
theorem Sz.rmslip (hz : Sz A) {s : Nat} (hs : s < (A.2 11).length) : Sz (Sl_removeAt A (nI s)) := by
  have z := hz.s
  have z12 := hz.e12
  have z13 := hz.e13
  have z14 := hz.e14
  refine ⟨hz.1, hz.2.1, hz.2.2.1, hz.2.2.2.1, hz.2.2.2.2.1, hz.2.2.2.2.2.1, hz.2.2.2.2.2.2.1, hz.2.2.2.2.2.2.2.1, hz.2.2.2.2.2.2.2.2.1, ?_, ?_, ?_, ?_, hz.e15⟩
  · show (lnrem (A.2 11) (nI s)).length ≤ 16
    rw [lnrem_len hs (by omega)]; omega
  · show (lnrem (A.2 12) (nI s)).length = (lnrem (A.2 11) (nI s)).length
    rw [lnrem_len (by omega) (by omega), lnrem_len hs (by omega)]; omega
  · show (lnrem (A.2 13) (nI s)).length = (lnrem (A.2 11) (nI s)).length
    rw [lnrem_len (by omega) (by omega), lnrem_len hs (by omega)]; omega
  · show (lnrem (A.2 14) (nI s)).length = (lnrem (A.2 11) (nI s)).length
    rw [lnrem_len (by omega) (by omega), lnrem_len hs (by omega)]; omega
theorem Sp.rmslip (hp : Sp A) (hz : Sz A) {s : Nat} (hs : s < (A.2 11).length) : Sp (Sl_removeAt A (nI s)) := by
  have z := hz.s
  have z12 := hz.e12
  intro i hi
  have hi : i < (lnrem (A.2 11) (nI s)).length := hi
  rw [lnrem_len hs (by omega)] at hi
  show (∃ r, r < (A.2 5).length ∧ (lnrem (A.2 11) (nI s)).getD i 0 = nI r) ∧ ∃ k, k < (A.2 0).length ∧ (lnrem (A.2 12) (nI s)).getD i 0 = nI k
  rw [lnrem_gd hs (by omega), lnrem_gd (by omega) (by omega)]
  by_cases c : i < s
  · rw [if_pos c, if_pos c]; exact hp i (by omega)
  · rw [if_neg c, if_neg c]; exact hp (i + 1) (by omega)
theorem RI.rmslip (h : RI H A f) {s : Nat} (hs : s < (A.2 11).length) : RI H (Sl_removeAt A (nI s)) (gSl (upd f 8 (nI ((A.2 11).length - 1))) ((A.2 11).length - 1) s) :=
  ⟨h.rel.rmslip h.sz hs, h.sz.rmslip hs, h.fd, h.mk, h.sp.rmslip h.sz hs, h.per⟩
theorem cnt_set {xs : List Int32} {k : Nat} (hk : k < xs.length) (v a : Int32) : (xs.set k v).count a + (if xs.getD k 0 = a then 1 else 0) = xs.count a + (if v = a then 1 else 0) := by
  have h0 : ∀ ys : List Int32, k < ys.length → ys.count a = (ys.take k).count a + ((if ys.getD k 0 = a then 1 else 0) + (ys.drop (k + 1)).count a) := by
    intro ys hy
    conv => lhs; rw [← List.take_append_drop k ys]
    rw [List.count_append, cnt_drop ys a k hy]
  rw [h0 (xs.set k v) (by rw [List.length_set]; exact hk), h0 xs hk, getD_set _ _ _ _ hk, if_pos rfl, List.take_set_of_le (Nat.le_refl _), List.drop_set_of_lt (show k < k + 1 by omega)]
  omega
/-- what serving does to the folders -/
theorem FdR.serve (h : FdR A) (hz : Sz A) {k r q : Nat} (hk : k < (A.2 0).length) (hr : r < (A.2 5).length) (hq : q < (A.2 7).length) (eq : (A.2 7).getD q 0 = nI k) (sk : (A.2 2).getD k 0 = 0) {A' : StM} (e0 : A'.2 0 = A.2 0) (e7 : A'.2 7 = (A.2 7).take q ++ (A.2 7).drop (q + 1)) (e10 : A'.2 10 = A.2 10) (e2 : A'.2 2 = (A.2 2).set k 1) (e3 : A'.2 3 = (A.2 3).set k (nI r)) (e5 : A'.2 5 = (A.2 5).set r ((A.2 5).getD r 0 + 1)) : FdR A' := by
  have zf := hz.fo
  have z2 := hz.e2
  have z3 := hz.e3
  have zr := hz.r
  obtain ⟨b1, b2, b3, b4, b5, b6, b7, b8⟩ := h
  have hst : ∀ j, j < (A.2 0).length → (A'.2 2).getD j 0 = if j = k then 1 else (A.2 2).getD j 0 := fun j hj => by rw [e2]; exact getD_set _ _ _ _ (by omega)
  have hho : ∀ j, j < (A.2 0).length → (A'.2 3).getD j 0 = if j = k then nI r else (A.2 3).getD j 0 := fun j hj => by rw [e3]; exact getD_set _ _ _ _ (by omega)
  have hm : ∀ x, x ∈ A'.2 7 ↔ x ∈ A.2 7 ∧ x ≠ nI k := fun x => by rw [e7, mem_rem b1 hq, eq]
  have hl5 : (A'.2 5).length = (A.2 5).length := by rw [e5, List.length_set]
  refine ⟨by rw [e7]; exact nd_rem b1, by rw [e10]; exact b2, fun x hx => ?_, fun x hx => ?_, fun j hj e => ?_, fun j hj e => ?_, fun j hj => ?_, fun j hj => ?_⟩
  · obtain ⟨h1, h2⟩ := (hm x).mp hx
    obtain ⟨k', c1, c2, c3⟩ := b3 x h1
    refine ⟨k', by rw [e0]; exact c1, c2, ?_⟩
    rw [hst k' c1, if_neg (fun c => h2 (by rw [c2, c]))]
    exact c3
  · rw [e10] at hx
    obtain ⟨k', c1, c2, c3⟩ := b4 x hx
    refine ⟨k', by rw [e0]; exact c1, c2, ?_⟩
    rw [hst k' c1, if_neg (fun c => by rw [c, sk] at c3; exact absurd c3 (by decide))]
    exact c3
  · rw [e0] at hj
    rw [hst j hj] at e
    by_cases c : j = k
    · rw [if_pos c] at e; exact absurd e (by decide)
    · rw [if_neg c] at e
      exact (hm _).mpr ⟨b5 j hj e, fun c' => c ((q_eq (by omega) (by omega)).mp c')⟩
  · rw [e0] at hj
    rw [hst j hj] at e
    by_cases c : j = k
    · rw [if_pos c] at e; exact absurd e (by decide)
    · rw [if_neg c] at e
      rw [e10]; exact b6 j hj e
  · rw [e0] at hj
    rw [hst j hj, hho j hj, hl5]
    by_cases c : j = k
    · rw [if_pos c, if_pos c]; exact Or.inr ⟨rfl, r, hr, rfl⟩
    · rw [if_neg c, if_neg c]; exact b7 j hj
  · rw [hl5] at hj
    rw [e5, e3, getD_set _ _ _ _ hr]
    have h1 := cnt_set (xs := A.2 3) (k := k) (by omega) (nI r) (nI j)
    have h2 : (A.2 3).getD k 0 = -1 := by
      rcases b7 k hk with ⟨-, t⟩ | ⟨t, -⟩
      · exact t
      · rw [sk] at t; exact absurd t (by decide)
    rw [h2, if_neg (fun c => q_m1 (a := j) (by omega) c.symm)] at h1
    by_cases c : j = r
    · subst c
      rw [if_pos rfl] at h1
      rw [if_pos rfl, b8 j hj, nI_1]
      congr 1
      omega
    · rw [if_neg (fun c' => c ((q_eq (by omega) (by omega)).mp c').symm)] at h1
      rw [if_neg c, b8 j hj]
      congr 1
      omega
theorem s_serve (h : RI H A (M.2 ρ)) {s k : Nat} (hs : s < (A.2 11).length) (hk : k < (A.2 0).length) (ek : (A.2 12).getD s 0 = nI k) (sk : (A.2 2).getD k 0 = 0) : ∃ M', Md_serve ρ M (nI s) = some M' ∧ Sm ρ M M' ∧ RI H (St_serve A (nI s)) (M'.2 ρ) ∧ (St_serve A (nI s)).1 = A.1 ∧ ((St_serve A (nI s)).2 15).getD 4 0 = (A.2 15).getD 4 0 + 1 ∧ ((St_serve A (nI s)).2 11).length = (A.2 11).length - 1 := by
  have z := h.sz
  have zl := z.l
  have zf := z.fo
  have zr := z.r
  have zs := z.s
  have z2 := z.e2
  have z3 := z.e3
  have z4 := z.e4
  have z6 := z.e6
  have z12 := z.e12
  have z13 := z.e13
  have z15 := z.e15
  obtain ⟨⟨r, hr, er⟩, -⟩ := h.sp s hs
  obtain ⟨q, hq, eq, lq, e1⟩ := m_remove h (h.fd.2.2.2.2.1 k hk sk)
  obtain ⟨c, hc⟩ : ∃ c, (A.2 11).length = c + 1 := ⟨(A.2 11).length - 1, by omega⟩
  -- the relation, step by step
  have hlr := ln_rem hq
  have r1 : Rel H (setL A 7 ((A.2 7).take q ++ (A.2 7).drop (q + 1))) (gRem (M.2 ρ) ((A.2 7).length - 1) q) := by
    refine h.rel.onrow z rfl (fun j a _ _ => setL_n _ _ a) (fun j a b => ?_) ?_ ?_
    · unfold gRem gSh
      rw [if_neg (by omega)]
      exact if_neg a
    · rw [setL_s, hlr]
      unfold gRem gSh
      rw [if_neg (by omega)]
      refine (if_pos rfl).trans ?_
      rw [h.rel.nl]
      obtain ⟨d, hd⟩ : ∃ d, (A.2 7).length = d + 1 := ⟨(A.2 7).length - 1, by omega⟩
      rw [hd, nI_pred]; rfl
    · rw [setL_s]
      intro i hi
      rw [hlr] at hi
      rw [gd_rem hq]
      unfold gRem gSh
      by_cases c1 : i < q
      · rw [if_neg (by omega), if_pos c1, ← h.row (by omega)]; exact if_neg (by omega)
      · rw [if_pos (by omega), if_neg c1, ← h.row (by omega)]; exact if_neg (by omega)
  have y1 : Sz (setL A 7 ((A.2 7).take q ++ (A.2 7).drop (q + 1))) := z.set7 (by omega)
  generalize hg1 : gRem (M.2 ρ) ((A.2 7).length - 1) q = g1 at r1 e1
  have r4 : Rel H (setL (setL (setL (setL A 7 ((A.2 7).take q ++ (A.2 7).drop (q + 1))) 2 ((A.2 2).set k 1)) 3 ((A.2 3).set k (nI r))) 4 ((A.2 4).set k ((A.2 4).getD k 0 + 1))) (upd (upd (upd g1 (27 + 5 * k) 1) (28 + 5 * k) (nI r)) (29 + 5 * k) ((A.2 4).getD k 0 + 1)) := by
    refine r1.onfold y1 rfl (fun j a b c d => ?_) (fun j hj => ?_) ?_ ?_ ?_ ?_
    · rw [setL_n _ _ d, setL_n _ _ c, setL_n _ _ b]
    · exact (if_neg (by omega)).trans ((if_neg (by omega)).trans (if_neg (by omega)))
    · exact (((Arr.ne (xs := A.2 1) r1.em (fun i hi => by omega)).ne (fun i hi => by omega)).ne (fun i hi => by omega))
    · exact (((Arr.set (xs := A.2 2) r1.st (by omega) (by omega)).ne (fun i hi => by omega)).ne (fun i hi => by omega))
    · intro i hi e
      have hi : i < ((A.2 3).set k (nI r)).length := hi
      rw [List.length_set] at hi
      have e : ((A.2 2).set k 1).getD i 0 = 1 := e
      show _ = ((A.2 3).set k (nI r)).getD i 0
      rw [getD_set _ _ _ _ (by omega)] at e
      rw [getD_set _ _ _ _ (by omega)]
      unfold upd
      by_cases c1 : i = k
      · rw [if_neg (by omega), if_pos (by omega), if_pos c1]
      · rw [if_neg c1] at e
        rw [if_neg (by omega), if_neg (by omega), if_neg (by omega), if_neg c1]
        exact r1.wi i hi e
    · exact Arr.set (xs := A.2 4) (((Arr.ne (xs := A.2 4) r1.tm (fun i hi => by omega)).ne (fun i hi => by omega))) (by omega) (by omega)
  have y4 : Sz (setL (setL (setL (setL A 7 ((A.2 7).take q ++ (A.2 7).drop (q + 1))) 2 ((A.2 2).set k 1)) 3 ((A.2 3).set k (nI r))) 4 ((A.2 4).set k ((A.2 4).getD k 0 + 1))) :=
    ((y1.len (setL_len (by rw [List.length_set]; rfl))).len (setL_len (by rw [List.length_set]; rfl))).len (setL_len (by rw [List.length_set]; rfl))
  generalize hA4 : setL (setL (setL (setL A 7 ((A.2 7).take q ++ (A.2 7).drop (q + 1))) 2 ((A.2 2).set k 1)) 3 ((A.2 3).set k (nI r))) 4 ((A.2 4).set k ((A.2 4).getD k 0 + 1)) = A4 at r4 y4
  have f4 : ∀ j, j ≠ 7 → j ≠ 2 → j ≠ 3 → j ≠ 4 → A4.2 j = A.2 j := fun j a b c d => by rw [← hA4, setL_n _ _ d, setL_n _ _ c, setL_n _ _ b, setL_n _ _ a]
  generalize hg4 : upd (upd (upd g1 (27 + 5 * k) 1) (28 + 5 * k) (nI r)) (29 + 5 * k) ((A.2 4).getD k 0 + 1) = g4 at r4
  have r5 : Rel H (setL A4 5 ((A.2 5).set r ((A.2 5).getD r 0 + 1))) g4 := r4.onhave y4 rfl (fun j a => setL_n _ _ a) (fun _ => rfl) (by rw [setL_s, List.length_set, r4.nr, f4 5 (by decide) (by decide) (by decide) (by decide)])
  have y5 : Sz (setL A4 5 ((A.2 5).set r ((A.2 5).getD r 0 + 1))) := y4.len (setL_len (by rw [List.length_set, f4 5 (by decide) (by decide) (by decide) (by decide)]))
  have h17 : g4 (17 + r) = (A.2 6).getD r 0 := by
    have := r4.sv
    rw [f4 6 (by decide) (by decide) (by decide) (by decide)] at this
    have := this r (by omega)
    rwa [Nat.one_mul] at this
  have r6 : Rel H (setL (setL A4 5 ((A.2 5).set r ((A.2 5).getD r 0 + 1))) 6 ((A.2 6).set r ((A.2 6).getD r 0 + 1))) (upd g4 (17 + r) ((A.2 6).getD r 0 + 1)) := by
    refine r5.onserv y5 rfl (fun j a => setL_n _ _ a) (fun j hj => if_neg (by omega)) ?_
    rw [setL_s]
    have h6 : Arr g4 17 1 (A.2 6) := by
      have := r4.sv
      rwa [f4 6 (by decide) (by decide) (by decide) (by decide)] at this
    have := Arr.set h6 (j := r) (v := (A.2 6).getD r 0 + 1) (by omega) (by omega)
    rwa [Nat.one_mul] at this
  have y6 : Sz (setL (setL A4 5 ((A.2 5).set r ((A.2 5).getD r 0 + 1))) 6 ((A.2 6).set r ((A.2 6).getD r 0 + 1))) := y5.len (setL_len (by rw [List.length_set, setL_n _ _ (by decide), f4 6 (by decide) (by decide) (by decide) (by decide)]))
  generalize hA6 : setL (setL A4 5 ((A.2 5).set r ((A.2 5).getD r 0 + 1))) 6 ((A.2 6).set r ((A.2 6).getD r 0 + 1)) = A6 at r6 y6
  have f6 : ∀ j, j ≠ 7 → j ≠ 2 → j ≠ 3 → j ≠ 4 → j ≠ 5 → j ≠ 6 → A6.2 j = A.2 j := fun j a b c d a' b' => by rw [← hA6, setL_n _ _ b', setL_n _ _ a', f4 j a b c d]
  have f615 : A6.2 15 = A.2 15 := f6 15 (by decide) (by decide) (by decide) (by decide) (by decide) (by decide)
  generalize hg6 : upd g4 (17 + r) ((A.2 6).getD r 0 + 1) = g6 at r6
  have r7 := r6.tally y6 (a := 4) (by omega) (by omega) ((A.2 15).getD 4 0 + 1)
  have y7 : Sz (setL A6 15 ((A6.2 15).set 4 ((A.2 15).getD 4 0 + 1))) := y6.len (setL_len (by rw [List.length_set]))
  have r8 := r7.tally y7 (a := 10) (by omega) (by omega) ((A.2 15).getD 10 0 + (A.1 0 - (A.2 13).getD s 0))
  have y8 := y7.len (setL_len (k := 15) (A := setL A6 15 ((A6.2 15).set 4 ((A.2 15).getD 4 0 + 1))) (ys := (((setL A6 15 ((A6.2 15).set 4 ((A.2 15).getD 4 0 + 1))).2 15).set 10 ((A.2 15).getD 10 0 + (A.1 0 - (A.2 13).getD s 0)))) (by rw [List.length_set]))
  rw [setL_s, setL_L, f615] at r8 y8
  have f11 : (setL A6 15 (((A.2 15).set 4 ((A.2 15).getD 4 0 + 1)).set 10 ((A.2 15).getD 10 0 + (A.1 0 - (A.2 13).getD s 0)))).2 11 = A.2 11 := by
    rw [setL_n _ _ (by decide), f6 11 (by decide) (by decide) (by decide) (by decide) (by decide) (by decide)]
  have r9 := r8.rmslip y8 (s := s) (by rw [f11]; exact hs)
  have y9 := y8.rmslip (s := s) (by rw [f11]; exact hs)
  rw [f11] at r9
  -- what the component computes
  have eS : St_serve A (nI s) = Sl_removeAt (setL A6 15 (((A.2 15).set 4 ((A.2 15).getD 4 0 + 1)).set 10 ((A.2 15).getD 10 0 + (A.1 0 - (A.2 13).getD s 0)))) (nI s) := by
    unfold St_serve
    rw [lg_in (xs := A.2 12) (by omega) (by omega), ek, lu, lg_in (xs := A.2 11) hs (by omega), er, lu, lu, lq, lm_in hq (by omega), ls_in (xs := A.2 2) _ (by omega) (by omega), ls_in (xs := A.2 3) _ (by omega) (by omega), lr_in (xs := A.2 4) _ (by omega) (by omega), lr_in (xs := A.2 5) _ hr (by omega), lr_in (xs := A.2 6) _ (by omega) (by omega), lg_in (xs := A.2 13) (by omega) (by omega), setL_L]
    rw [show lnraise (A.2 15) 4 1 = (A.2 15).set 4 ((A.2 15).getD 4 0 + 1) from lr_in (i := 4) _ (by omega) (by omega)]
    rw [show lnraise ((A.2 15).set 4 ((A.2 15).getD 4 0 + 1)) 10 (A.1 0 - (A.2 13).getD s 0) = _ from lr_in (i := 10) _ (by rw [List.length_set]; omega) (by rw [List.length_set]; omega)]
    rw [getD_set _ _ _ 10 (by omega), if_neg (by omega), hA4, hA6]
  -- what the reference computes
  have eM : Md_serve ρ M (nI s) = some (setA M ρ (gSl (upd (upd (upd g6 (6 + 4) ((A.2 15).getD 4 0 + 1)) (6 + 10) ((A.2 15).getD 10 0 + (A.1 0 - (A.2 13).getD s 0))) 8 (nI c)) c s)) := by
    unfold Md_serve
    rw [os1 (by omega), bs, h.rel.s1 s (by omega), ek, os0 (by omega), bs, h.rel.s0 s hs, er, e1, bs, lu, lay2 (by omega), bs, lay3 (by omega), bs, of4 (by omega), bs, lay4 (by omega), bs]
    simp only [setA_A, setA_s]
    have t4 : upd (upd g1 (27 + 5 * k) 1) (28 + 5 * k) (nI r) (29 + 5 * k) = (A.2 4).getD k 0 := by
      refine (if_neg (by omega)).trans ((if_neg (by omega)).trans ?_)
      exact r1.tm k (show k < (A.2 4).length by omega)
    rw [t4, hg4, show (17 : Int32) = nI 17 from rfl, nI_add, if_pos (q_in (by omega) (by omega)), if_pos (q_in (by omega) (by omega)), q_cl (by omega), h17, hg6]
    rw [show Md_tally ρ (setA M ρ g6) 4 1 = _ from e_tally (a := 4) (by omega) (by omega), bs, os2 (by omega), bs]
    simp only [setA_A, setA_s]
    have t5 : g6 (6 + 4) = (A.2 15).getD 4 0 := by rw [r6.ac 4 (by omega) (by omega), f615]
    have t6 : upd g6 (6 + 4) ((A.2 15).getD 4 0 + 1) (195 + 4 * s) = (A.2 13).getD s 0 := by
      refine (if_neg (by omega)).trans ?_
      have := r6.s2
      rw [f6 13 (by decide) (by decide) (by decide) (by decide) (by decide) (by decide)] at this
      exact this s (by omega)
    have t7 : upd g6 (6 + 4) ((A.2 15).getD 4 0 + 1) 0 = A.1 0 := by
      refine (if_neg (by omega)).trans ?_
      rw [r6.day, ← hA6, ← hA4]; rfl
    rw [t5, tn0, t6, t7]
    rw [show Md_tally ρ (setA M ρ (upd g6 (6 + 4) ((A.2 15).getD 4 0 + 1))) 10 (A.1 0 - (A.2 13).getD s 0) = _ from e_tally (a := 10) (by omega) (by omega), bs]
    simp only [setA_A, setA_s]
    have t8 : upd g6 (6 + 4) ((A.2 15).getD 4 0 + 1) (6 + 10) = (A.2 15).getD 10 0 := by
      refine (if_neg (by omega)).trans ?_
      rw [r6.ac 10 (by omega) (by omega), f615]
    rw [t8, m_removeSlip (c := c) (s := s) (by
      rw [setA_s, r8.ns, f11, hc]) (by omega) (by omega), bs, setA_A, setA_s]
  refine ⟨_, eM, Sm.setA _ _ _, ?_, ?_, ?_, ?_⟩
  · rw [setA_s, eS]
    have hc' : (A.2 11).length - 1 = c := by omega
    rw [hc'] at r9
    refine ⟨r9, y9, ?_, ?_, ?_, ?_⟩
    · refine FdR.serve (A := A) h.fd z hk hr hq eq sk ?_ ?_ ?_ ?_ ?_ ?_
      · show A6.2 0 = _
        exact f6 0 (by decide) (by decide) (by decide) (by decide) (by decide) (by decide)
      · show A6.2 7 = _
        rw [← hA6, ← hA4]; rfl
      · show A6.2 10 = _
        exact f6 10 (by decide) (by decide) (by decide) (by decide) (by decide) (by decide)
      · show A6.2 2 = _
        rw [← hA6, ← hA4]; rfl
      · show A6.2 3 = _
        rw [← hA6, ← hA4]; rfl
      · show A6.2 5 = _
        rw [← hA6]; rfl
    · have hm := h.mk
      unfold Mk
      rw [show (Sl_removeAt (setL A6 15 (((A.2 15).set 4 ((A.2 15).getD 4 0 + 1)).set 10 ((A.2 15).getD 10 0 + (A.1 0 - (A.2 13).getD s 0)))) (nI s)).2 0 = A.2 0 from f6 0 (by decide) (by decide) (by decide) (by decide) (by decide) (by decide)]
      exact hm
    · refine Sp.rmslip ?_ y8 (by rw [f11]; exact hs)
      intro i hi
      rw [f11] at hi ⊢
      rw [show (setL A6 15 (((A.2 15).set 4 ((A.2 15).getD 4 0 + 1)).set 10 ((A.2 15).getD 10 0 + (A.1 0 - (A.2 13).getD s 0)))).2 12 = A.2 12 from f6 12 (by decide) (by decide) (by decide) (by decide) (by decide) (by decide)]
      rw [show (setL A6 15 (((A.2 15).set 4 ((A.2 15).getD 4 0 + 1)).set 10 ((A.2 15).getD 10 0 + (A.1 0 - (A.2 13).getD s 0)))).2 0 = A.2 0 from f6 0 (by decide) (by decide) (by decide) (by decide) (by decide) (by decide)]
      rw [show (setL A6 15 (((A.2 15).set 4 ((A.2 15).getD 4 0 + 1)).set 10 ((A.2 15).getD 10 0 + (A.1 0 - (A.2 13).getD s 0)))).2 5 = (A.2 5).set r ((A.2 5).getD r 0 + 1) from by show A6.2 5 = _; rw [← hA6]; rfl]
      rw [List.length_set]
      exact h.sp i hi
    · show ¬ A6.1 1 ≤ 0
      rw [← hA6, ← hA4]
      exact h.per
  · rw [eS]
    show A6.1 = A.1
    rw [← hA6, ← hA4]; rfl
  · rw [eS]
    show (((A.2 15).set 4 ((A.2 15).getD 4 0 + 1)).set 10 _).getD 4 0 = _
    rw [getD_set _ _ _ 4 (by rw [List.length_set]; omega), if_neg (by omega), getD_set _ _ _ 4 (by omega), if_pos rfl]
  · rw [eS]
    show (lnrem ((setL A6 15 (((A.2 15).set 4 ((A.2 15).getD 4 0 + 1)).set 10 ((A.2 15).getD 10 0 + (A.1 0 - (A.2 13).getD s 0)))).2 11) (nI s)).length = _
    rw [f11, lnrem_len hs (by omega)]
end DY
