section OP
variable {H : Int32} {A : StM} {ρ : Nat} {M : MdM} {f : Nat → Int32}
theorem FdR.back (h : FdR A) (hz : Sz A) {k r : Nat} (hk : k < (A.2 0).length) (hr : r < (A.2 5).length) (g1 : (A.2 2).getD k 0 = 1) (g2 : (A.2 3).getD k 0 = nI r) (nk : nI k ∉ A.2 10) {A' : StM} (e0 : A'.2 0 = A.2 0) (e7 : A'.2 7 = A.2 7) (e10 : A'.2 10 = A.2 10 ++ [nI k]) (e2 : A'.2 2 = (A.2 2).set k 2) (e3 : A'.2 3 = (A.2 3).set k (-1)) (e5 : A'.2 5 = (A.2 5).set r ((A.2 5).getD r 0 + -1)) : FdR A' := by
  have zf := hz.fo
  have zr := hz.r
  have z2 := hz.e2
  have z3 := hz.e3
  obtain ⟨b1, b2, b3, b4, b5, b6, b7, b8⟩ := h
  have hst : ∀ j, j < (A.2 0).length → (A'.2 2).getD j 0 = if j = k then 2 else (A.2 2).getD j 0 := fun j hj => by rw [e2]; exact getD_set _ _ _ _ (by omega)
  have hho : ∀ j, j < (A.2 0).length → (A'.2 3).getD j 0 = if j = k then -1 else (A.2 3).getD j 0 := fun j hj => by rw [e3]; exact getD_set _ _ _ _ (by omega)
  have l5 : (A'.2 5).length = (A.2 5).length := by rw [e5, List.length_set]
  unfold FdR
  rw [e0, e7, e10, l5]
  refine ⟨b1, ?_, fun x hx => ?_, fun x hx => ?_, fun j hj e => ?_, fun j hj e => ?_, fun j hj => ?_, fun j hj => ?_⟩
  · refine List.nodup_append.mpr ⟨b2, List.nodup_cons.mpr ⟨List.not_mem_nil, List.nodup_nil⟩, fun a ha b hb e => ?_⟩
    rw [List.mem_singleton.mp hb] at e
    exact nk (e ▸ ha)
  · obtain ⟨k', c1, c2, c3⟩ := b3 x hx
    refine ⟨k', c1, c2, (hst k' c1).trans ?_⟩
    rw [if_neg (fun c => by rw [c, g1] at c3; exact absurd c3 (by decide))]
    exact c3
  · rcases List.mem_append.mp hx with hx | hx
    · obtain ⟨k', c1, c2, c3⟩ := b4 x hx
      refine ⟨k', c1, c2, (hst k' c1).trans ?_⟩
      by_cases c : k' = k
      · rw [if_pos c]
      · rw [if_neg c]; exact c3
    · exact ⟨k, hk, List.mem_singleton.mp hx, (hst k hk).trans (if_pos rfl)⟩
  · have e := (hst j hj).symm.trans e
    by_cases c : j = k
    · rw [if_pos c] at e; exact absurd e (by decide)
    · rw [if_neg c] at e; exact b5 j hj e
  · have e := (hst j hj).symm.trans e
    by_cases c : j = k
    · rw [c]; exact List.mem_append.mpr (Or.inr (List.mem_singleton.mpr rfl))
    · rw [if_neg c] at e
      exact List.mem_append.mpr (Or.inl (b6 j hj e))
  · rw [hst j hj, hho j hj]
    by_cases c : j = k
    · rw [if_pos c, if_pos c]; exact Or.inl ⟨Or.inr rfl, rfl⟩
    · rw [if_neg c, if_neg c]; exact b7 j hj
  · have hc := b8 j hj
    rw [e5, e3, getD_set _ _ _ _ hr]
    have h1 := cnt_set (xs := A.2 3) (k := k) (by omega) (-1) (nI j)
    rw [g2, if_neg (show ¬ (-1 : Int32) = nI j from fun c => q_m1 (a := j) (by omega) c.symm)] at h1
    by_cases c : j = r
    · subst c
      rw [if_pos rfl] at h1
      rw [if_pos rfl, hc]
      obtain ⟨d, hd⟩ : ∃ d, (A.2 3).count (nI j) = d + 1 := ⟨(A.2 3).count (nI j) - 1, by omega⟩
      rw [hd, pk_m1]
      congr 1
      omega
    · rw [if_neg (show ¬ nI r = nI j from fun c' => c ((q_eq (by omega) (by omega)).mp c').symm)] at h1
      rw [if_neg c, hc]
      congr 1
      omega
theorem o_back (h : RI H A (M.2 ρ)) {k : Nat} (hk : k < (A.2 0).length) : OpR H ρ A M (some (St_bringBack A (nI k))) (Md_doReturn ρ M (nI k)) := by
  have z := h.sz
  have zf := z.fo
  have zr := z.r
  have zt := z.t
  have z1 := z.e1
  have z2 := z.e2
  have z3 := z.e3
  have z4 := z.e4
  unfold St_bringBack Md_doReturn Md_isIn St_hasFolder
  rw [if_neg (q_neg (by omega)), if_neg (nI_ge hk (by omega)), if_neg (by decide), lg_in (xs := A.2 3) (by omega) (by omega), lu, of2 (by omega), bs, h.rel.st k (by omega)]
  rcases h.fd.2.2.2.2.2.2.1 k hk with ⟨g1, g2⟩ | ⟨g1, r, hr, g2⟩
  · have g3 : ¬ (A.2 2).getD k 0 = 1 := by rcases g1 with q | q <;> rw [q] <;> decide
    rw [if_neg g3, bs, if_pos rfl, g2, if_pos rfl]
    exact OpR.same h (-2)
  · rw [if_pos g1, bs, if_neg (show ¬ (1 : Int32) = 0 by decide), g2, if_neg (q_m1 (by omega)), lay2 (by omega), bs]
    have nk : nI k ∉ A.2 10 := fun hx => by
      obtain ⟨k', c1, c2, c3⟩ := h.fd.2.2.2.1 _ hx
      have : k = k' := (q_eq (by omega) (by omega)).mp c2
      subst this
      rw [g1] at c3
      exact absurd c3 (by decide)
    have hlen : (A.2 10).length < 24 := by
      have := nd_len (A.2 0).length (List.nodup_cons.mpr ⟨nk, h.fd.2.1⟩) (fun x hx => by
        rcases List.mem_cons.mp hx with rfl | hx
        · exact ⟨k, hk, rfl⟩
        · obtain ⟨k', c1, c2, -⟩ := h.fd.2.2.2.1 x hx
          exact ⟨k', c1, c2⟩)
      rw [List.length_cons] at this
      omega
    simp only [setA_A, setA_s]
    rw [tn7, show upd (M.2 ρ) (27 + 5 * k) 2 7 = nI (A.2 10).length from (if_neg (by omega)).trans h.rel.nt, show (169 : Int32) = nI 169 from rfl, nI_add, if_pos (q_in (by omega) (by omega)), q_cl (by omega), of3 (by omega), bs]
    simp only [setA_A, setA_s]
    generalize hn : (A.2 10).length = n at hlen
    rw [show upd (upd (M.2 ρ) (27 + 5 * k) 2) (169 + n) (nI k) 7 = nI n from (if_neg (by omega)).trans ((if_neg (by omega)).trans (h.rel.nt.trans (by rw [hn]))), nI_1]
    generalize hg : upd (upd (upd (M.2 ρ) (27 + 5 * k) 2) (169 + n) (nI k)) 7 (nI (n + 1)) = g
    rw [show g (28 + 5 * k) = nI r from by
      rw [← hg]
      refine (if_neg (by omega)).trans ((if_neg (by omega)).trans ((if_neg (by omega)).trans ?_))
      rw [h.rel.wi k (by omega) g1, g2], m_ends, bs]
    have eA : setL (setL (setL (setL A 3 (lnset (A.2 3) (nI k) (-1))) 5 (lnraise (A.2 5) (nI r) (-1))) 2 (lnset (A.2 2) (nI k) 2)) 10 (lnadd 24 (A.2 10) (nI k)) = setL (setL (setL (setL A 3 ((A.2 3).set k (-1))) 2 ((A.2 2).set k 2)) 5 ((A.2 5).set r ((A.2 5).getD r 0 + -1))) 10 (A.2 10 ++ [nI k]) := by
      rw [ls_in (xs := A.2 3) _ (by omega) (by omega), ls_in (xs := A.2 2) _ (by omega) (by omega), lr_in (xs := A.2 5) _ hr (by omega), la_in (xs := A.2 10) _ (by omega)]
      refine Prod.ext (by simp only [setL_1]) (funext fun j => ?_)
      show (if j = 10 then _ else if j = 2 then _ else if j = 5 then _ else if j = 3 then _ else A.2 j) = (if j = 10 then _ else if j = 5 then _ else if j = 2 then _ else if j = 3 then _ else A.2 j)
      by_cases c1 : j = 10
      · rw [if_pos c1, if_pos c1]
      · rw [if_neg c1, if_neg c1]
        by_cases c2 : j = 2
        · rw [if_pos c2, if_neg (by omega), if_pos c2]
        · rw [if_neg c2, if_neg c2]
    rw [eA]
    refine ⟨_, _, _, rfl, rfl, Sm.setA _ _ _, ?_, rfl, Or.inl rfl⟩
    rw [setA_s]
    have r2 : Rel H (setL (setL A 3 ((A.2 3).set k (-1))) 2 ((A.2 2).set k 2)) (upd (M.2 ρ) (27 + 5 * k) 2) := by
      refine h.rel.onfold z rfl (fun j a b c d => by rw [setL_n _ _ b, setL_n _ _ c]) (fun j hj => if_neg (by omega)) ?_ ?_ ?_ ?_
      · exact Arr.ne (xs := A.2 1) h.rel.em (fun i hi => by omega)
      · exact Arr.set (xs := A.2 2) h.rel.st (by omega) (by omega)
      · intro i hi e
        have e : ((A.2 2).set k 2).getD i 0 = 1 := e
        have hi : i < ((A.2 3).set k (-1)).length := hi
        rw [List.length_set] at hi
        show _ = ((A.2 3).set k (-1)).getD i 0
        rw [getD_set _ _ _ _ (by omega)] at e ⊢
        by_cases c : i = k
        · rw [if_pos c] at e; exact absurd e (by decide)
        · rw [if_neg c] at e ⊢
          exact (if_neg (by omega)).trans (h.rel.wi i hi e)
      · exact Arr.ne (xs := A.2 4) h.rel.tm (fun i hi => by omega)
    have y2 : Sz (setL (setL A 3 ((A.2 3).set k (-1))) 2 ((A.2 2).set k 2)) := (z.len (setL_len (by rw [List.length_set]))).len (setL_len (by rw [List.length_set]; rfl))
    have r5 : Rel H (setL (setL (setL A 3 ((A.2 3).set k (-1))) 2 ((A.2 2).set k 2)) 5 ((A.2 5).set r ((A.2 5).getD r 0 + -1))) (upd (M.2 ρ) (27 + 5 * k) 2) := r2.onhave y2 rfl (fun j a => setL_n _ _ a) (fun _ => rfl) (by rw [setL_s, List.length_set, r2.nr]; rfl)
    have y5 : Sz (setL (setL (setL A 3 ((A.2 3).set k (-1))) 2 ((A.2 2).set k 2)) 5 ((A.2 5).set r ((A.2 5).getD r 0 + -1))) := y2.len (setL_len (by rw [List.length_set]; rfl))
    have hl : (A.2 10 ++ [nI k]).length = n + 1 := by rw [List.length_append, List.length_singleton, hn]
    have r10 : Rel H (setL (setL (setL (setL A 3 ((A.2 3).set k (-1))) 2 ((A.2 2).set k 2)) 5 ((A.2 5).set r ((A.2 5).getD r 0 + -1))) 10 (A.2 10 ++ [nI k])) g := by
      refine r5.ontrol y5 rfl (fun j a => setL_n _ _ a) (fun j a b => ?_) ?_ ?_
      · rw [← hg]; exact (if_neg a).trans (if_neg (by omega))
      · rw [setL_s, hl, ← hg]; exact if_pos rfl
      · rw [setL_s]
        intro i hi
        rw [hl] at hi
        rw [gd_app1 i (by omega), ← hg]
        by_cases c : i = (A.2 10).length
        · rw [if_pos c]; exact (if_neg (by omega)).trans (if_pos (by omega))
        · rw [if_neg c, ← h.trol (by omega)]
          exact (if_neg (by omega)).trans ((if_neg (by omega)).trans (if_neg (by omega)))
    generalize hA' : setL (setL (setL (setL A 3 ((A.2 3).set k (-1))) 2 ((A.2 2).set k 2)) 5 ((A.2 5).set r ((A.2 5).getD r 0 + -1))) 10 (A.2 10 ++ [nI k]) = A' at r10
    have eo : ∀ j, j ≠ 3 → j ≠ 2 → j ≠ 5 → j ≠ 10 → A'.2 j = A.2 j := fun j a b c d => by rw [← hA', setL_n _ _ d, setL_n _ _ c, setL_n _ _ b, setL_n _ _ a]
    have e3 : A'.2 3 = (A.2 3).set k (-1) := by rw [← hA', setL_n _ _ (by decide), setL_n _ _ (by decide), setL_n _ _ (by decide), setL_s]
    have e2 : A'.2 2 = (A.2 2).set k 2 := by rw [← hA', setL_n _ _ (by decide), setL_n _ _ (by decide), setL_s]
    have e5 : A'.2 5 = (A.2 5).set r ((A.2 5).getD r 0 + -1) := by rw [← hA', setL_n _ _ (by decide), setL_s]
    have e10 : A'.2 10 = A.2 10 ++ [nI k] := by rw [← hA', setL_s]
    have ei : A'.1 = A.1 := by rw [← hA']; rfl
    have e0 : A'.2 0 = A.2 0 := eo 0 (by decide) (by decide) (by decide) (by decide)
    refine ⟨r10, ?_, h.fd.back z hk hr g1 g2 nk e0 (eo 7 (by decide) (by decide) (by decide) (by decide)) e10 e2 e3 e5, ?_, ?_, by rw [ei]; exact h.per⟩
    · unfold Sz
      rw [e0, eo 1 (by decide) (by decide) (by decide) (by decide), e2, e3, eo 4 (by decide) (by decide) (by decide) (by decide), e5, eo 6 (by decide) (by decide) (by decide) (by decide), eo 7 (by decide) (by decide) (by decide) (by decide), e10, eo 11 (by decide) (by decide) (by decide) (by decide), eo 12 (by decide) (by decide) (by decide) (by decide), eo 13 (by decide) (by decide) (by decide) (by decide), eo 14 (by decide) (by decide) (by decide) (by decide), eo 15 (by decide) (by decide) (by decide) (by decide), List.length_set, List.length_set, List.length_set, hl]
      exact ⟨z.1, z.e1, z.e2, z.e3, z.e4, z.r, z.e6, z.l, by omega, z.s, z.e12, z.e13, z.e14, z.e15⟩
    · unfold Mk
      rw [e0]
      exact h.mk
    · intro i hi
      rw [eo 11 (by decide) (by decide) (by decide) (by decide)] at hi ⊢
      rw [e5, eo 12 (by decide) (by decide) (by decide) (by decide), e0, List.length_set]
      exact h.sp i hi
theorem o_days (h : RI H A (M.2 ρ)) (hρ : ρ ≠ 7) (hH : A.1 2 = H) {q : Nat} (hq : q ≤ 60) : OpR H ρ A M (St_passDays A (nI q) 999) (Md_doDays ρ M (nI q)) := by
  unfold Md_doDays
  rw [tn0, tn2, h.rel.day, h.rel.hd]
  by_cases hp : A.1 0 + nI q ≤ 999
  · obtain ⟨w, A', M', e1, e2, e3, e4, e5, e6⟩ := s_passDays h hρ (q := q) (by omega) hp
    rw [if_pos hp, e1, ← hH, e2, bs, m_ends, bs]
    rw [hH]
    exact ⟨w, A', M', rfl, rfl, e3, e4, e6, Or.inr ⟨q, hq, e5, hp⟩⟩
  · unfold St_passDays
    rw [if_neg hp, if_neg hp]
    exact OpR.same h (-2)
theorem o_misfile (h : RI H A (M.2 ρ)) {k : Nat} (hk : k < (A.2 0).length) (x : Int32) : OpR H ρ A M (some (Rw_moveTo A (nI k) x)) (Md_doMisfile ρ M (nI k) x) := by
  have z := h.sz
  have zf := z.fo
  have zl := z.l
  have z2 := z.e2
  unfold Rw_moveTo Md_doMisfile Md_isIn
  rw [of2 (by omega), bs, h.rel.st k (by omega), tn6, h.rel.nl, inr_0 (by omega), lu]
  by_cases hst : (A.2 2).getD k 0 = 0
  · obtain ⟨i, hi, -, -, e⟩ := lp_mem (h.fd.2.2.2.2.1 k hk hst)
    rw [if_pos hst, bs, if_neg (show ¬ (1 : Int32) = 0 by decide), e, if_neg (q_m1 (by omega))]
    by_cases h0 : x < 0
    · rw [if_pos h0, if_pos h0, if_pos rfl]
      exact OpR.same h (-3)
    · rw [if_neg h0, if_neg h0]
      obtain ⟨j, hj, rfl⟩ := nI_of h0
      by_cases h1 : (A.2 7).length ≤ j
      · rw [if_neg (nI_nlt h1 (by omega)), if_pos (nI_le h1 hj), if_pos rfl]
        exact OpR.same h (-3)
      · rw [if_pos (nI_lt (by omega) (by omega)), if_neg (nI_ge (by omega) (by omega)), if_neg (by decide)]
        obtain ⟨q, M2, M3, g1, g2, g3, g4, g5, g6, g7⟩ := s_move h hk hst (p := j) (by omega)
        have hqi : nI i = nI q := e.symm.trans g3
        rw [g4, bs, lu, g5, bs, m_ends, bs, setL_L, hqi]
        exact ⟨_, _, M3, rfl, rfl, g6, g7, rfl, Or.inl rfl⟩
  · have nk : nI k ∉ A.2 7 := fun hx => by
      obtain ⟨k', c1, c2, c3⟩ := h.fd.2.2.1 _ hx
      have : k = k' := (q_eq (by omega) (by omega)).mp c2
      subst this
      exact hst c3
    rw [if_neg hst, bs, if_pos rfl, lp_not nk, if_pos rfl]
    exact OpR.same h (-2)
theorem o_straighten (h : RI H A (M.2 ρ)) {k : Nat} (hk : k < (A.2 0).length) : OpR H ρ A M (Rw_moveToOrder A (nI k)) (Md_doStraighten ρ M (nI k)) := by
  have z := h.sz
  have zf := z.fo
  have zl := z.l
  have z2 := z.e2
  unfold Rw_moveToOrder Md_doStraighten Md_isIn
  rw [of2 (by omega), bs, h.rel.st k (by omega), lu]
  by_cases hst : (A.2 2).getD k 0 = 0
  · obtain ⟨i, hi, ei, -, e⟩ := lp_mem (h.fd.2.2.2.2.1 k hk hst)
    rw [if_pos hst, bs, if_neg (show ¬ (1 : Int32) = 0 by decide), e, if_neg (q_m1 (by omega)), lg_in (xs := A.2 0) hk (by omega)]
    obtain ⟨v, hv, e1, e2⟩ := s_orderPlace h hk i (fun _ => by
      obtain ⟨k', c1, c2, c3⟩ := markAt_k h.w hi
      have : k = k' := (q_eq (by omega) (by omega)).mp (ei.symm.trans c2)
      rw [c3, this])
    rw [if_pos hi] at hv
    obtain ⟨q, M2, M3, g1, g2, g3, g4, g5, g6, g7⟩ := s_move h hk hst (p := v) (by omega)
    have hqi : nI i = nI q := e.symm.trans g3
    rw [e1, e2, bs, bs, g4, bs, lu, g5, bs, m_ends, bs, setL_L, hqi]
    exact ⟨_, _, M3, rfl, rfl, g6, g7, rfl, Or.inl rfl⟩
  · have nk : nI k ∉ A.2 7 := fun hx => by
      obtain ⟨k', c1, c2, c3⟩ := h.fd.2.2.1 _ hx
      have : k = k' := (q_eq (by omega) (by omega)).mp c2
      subst this
      exact hst c3
    rw [if_neg hst, bs, if_pos rfl, lp_not nk, if_pos rfl]
    exact OpR.same h (-2)
theorem o_check (h : RI H A (M.2 ρ)) {m : Nat} (hm : m < 1000) : OpR H ρ A M (St_swapNeighbours A (nI m)) (Md_doCheck ρ M (nI m)) := by
  obtain ⟨v, xs, M', e1, e2, e3, e4, e5⟩ := s_swapL h FU 0 m hm (Nat.zero_le _) (FU_gt (by omega))
  unfold St_swapNeighbours Md_doCheck
  rw [show Rw_swapWrongPairs A (nI m) = some (nI v, setL A 7 xs) from e2, show Md_swapOn ρ M (nI m) = some (nI v, M') from e3, bs, bs, lu, lu, show Md_tally ρ M' 9 (nI v) = _ from e_tally (a := 9) (by omega) (by omega), bs, m_ends, bs]
  refine ⟨_, _, _, rfl, rfl, e4.tr (Sm.setA _ _ _), ?_, rfl, Or.inl rfl⟩
  rw [setA_s]
  exact e5.tally (a := 9) (by omega) (by omega) (nI v)
theorem o_embargo (h : RI H A (M.2 ρ)) {k : Nat} (hk : k < (A.2 0).length) (x : Int32) : OpR H ρ A M (some (St_closeUntil A (nI k) x)) (Md_doEmbargo ρ M (nI k) x) := by
  have z := h.sz
  have zf := z.fo
  have z1 := z.e1
  have z2 := z.e2
  have z3 := z.e3
  have z4 := z.e4
  unfold St_closeUntil Md_doEmbargo St_hasFolder
  rw [if_neg (q_neg (by omega)), if_neg (nI_ge hk (by omega)), if_neg (by decide), lg_in (xs := A.2 1) (by omega) (by omega), lu, of1 (by omega), bs, h.rel.em k (by omega), lay1 (by omega), bs, m_ends, bs, ls_in (xs := A.2 1) _ (by omega) (by omega)]
  refine ⟨_, _, _, rfl, rfl, Sm.setA _ _ _, ?_, rfl, Or.inl rfl⟩
  rw [setA_s]
  refine ⟨h.rel.onfold z rfl (fun j a b c d => setL_n _ _ a) (fun j hj => if_neg (by omega)) ?_ ?_ ?_ ?_, z.len (setL_len (by rw [List.length_set])), h.fd, h.mk, h.sp, h.per⟩
  · exact Arr.set (xs := A.2 1) h.rel.em (by omega) (by omega)
  · exact Arr.ne (xs := A.2 2) h.rel.st (fun i hi => by omega)
  · intro i hi e
    exact (if_neg (by have hi : i < (A.2 3).length := hi; omega)).trans (h.rel.wi i hi e)
  · exact Arr.ne (xs := A.2 4) h.rel.tm (fun i hi => by omega)
end OP
