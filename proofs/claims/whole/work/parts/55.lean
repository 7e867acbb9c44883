/-! the row changes -/
theorem nd_of {xs : List Int32} (h : ∀ i j, i < j → j < xs.length → xs.getD i 0 ≠ xs.getD j 0) : xs.Nodup := by
  refine List.pairwise_iff_getElem.mpr fun i j hi hj hij => ?_
  have := h i j hij hj
  rw [List.getD_eq_getElem?_getD, List.getD_eq_getElem?_getD, List.getElem?_eq_getElem hi, List.getElem?_eq_getElem hj] at this
  exact this
theorem perm_of {xs ys : List Int32} (s : Nat → Nat) (hl : ys.length = xs.length) (hs : ∀ i, i < xs.length → s i < xs.length ∧ s (s i) = i) (he : ∀ i, i < xs.length → ys.getD i 0 = xs.getD (s i) 0) (hn : xs.Nodup) : ys.Nodup ∧ ∀ x, x ∈ ys ↔ x ∈ xs := by
  refine ⟨nd_of fun i j hij hj e => ?_, fun x => ⟨fun hx => ?_, fun hx => ?_⟩⟩
  · rw [hl] at hj
    rw [he i (by omega), he j hj] at e
    have h1 := nd_inj hn (hs i (by omega)).1 (hs j hj).1 e
    have h2 := (hs i (by omega)).2
    have h3 := (hs j hj).2
    rw [h1, h3] at h2
    omega
  · obtain ⟨i, hi, rfl⟩ := mem_gd.mp hx
    rw [hl] at hi
    rw [he i hi]
    exact gd_mem (hs i hi).1
  · obtain ⟨i, hi, rfl⟩ := mem_gd.mp hx
    refine mem_gd.mpr ⟨s i, by rw [hl]; exact (hs i hi).1, ?_⟩
    rw [he _ (hs i hi).1, (hs i hi).2]
def gIns (f : Nat → Int32) (n p : Nat) (x : Int32) : Nat → Int32 := fun j => if j = 6 then f 6 + 1 else if j = 145 + p then x else if 145 + p < j ∧ j ≤ 145 + n then f (j - 1) else f j
def gSh (f : Nat → Int32) (k c : Nat) : Nat → Int32 := fun j => if 145 + k ≤ j ∧ j < 145 + c then f (j + 1) else f j
def gRem (f : Nat → Int32) (c p : Nat) : Nat → Int32 := gSh (upd f 6 (f 6 - 1)) p c
section RW
variable {H : Int32} {A : StM} {ρ : Nat} {M : MdM} {f : Nat → Int32}
theorem m_insert {n p : Nat} {x : Int32} (h6 : M.2 ρ 6 = nI n) (hp : p ≤ n) (hn : n < 100) : Md_insert ρ M x (nI p) = some (setA M ρ (gIns (M.2 ρ) n p x)) := by
  have go : ∀ (m k : Nat) (M1 : MdM), p ≤ k → k < 100 → k - p < m → Md_insert_L8 ρ m M1 x (nI p) (nI k) = some (setA M1 ρ (gIns (M1.2 ρ) k p x)) := by
    intro m
    induction m with
    | zero => intro k M1 h1 h2 h3; omega
    | succ m ih =>
      intro k M1 h1 h2 h3
      unfold Md_insert_L8
      rw [show (145 : Int32) = nI 145 from rfl, nI_add, nI_add, tn6]
      by_cases hk : k = p
      · subst hk
        rw [if_pos (Int32.le_refl _), if_pos (q_in (by omega) (by omega)), q_cl (by omega)]
        congr 2
        funext j
        unfold gIns upd
        by_cases h6 : j = 6
        · rw [if_pos h6, if_pos h6, if_neg (by omega)]
        · rw [if_neg h6, if_neg h6]
          by_cases h7 : j = 145 + k
          · rw [if_pos h7, if_pos h7]
          · rw [if_neg h7, if_neg h7, if_neg (by omega)]
      · obtain ⟨k, rfl⟩ : ∃ q, k = q + 1 := ⟨k - 1, by omega⟩
        rw [if_neg (nI_ge (show p < k + 1 by omega) (by omega)), nI_pred, e_fa (by omega), bs, if_pos (q_in (by omega) (by omega)), q_cl (by omega), pk_m1, ih k _ (by omega) (by omega) (by omega), setA_A, setA_s]
        congr 2
        funext j
        unfold gIns upd
        by_cases h6 : j = 6
        · rw [if_pos h6, if_pos h6, if_neg (by omega)]
        · rw [if_neg h6, if_neg h6]
          by_cases h7 : j = 145 + p
          · rw [if_pos h7, if_pos h7]
          · rw [if_neg h7, if_neg h7]
            by_cases h8 : j = 145 + (k + 1)
            · rw [if_neg (by omega), if_pos h8, if_pos (by omega), h8]; rfl
            · by_cases h9 : 145 + p < j ∧ j ≤ 145 + k
              · rw [if_pos h9, if_neg (by omega), if_pos (by omega)]
              · rw [if_neg h9, if_neg h8, if_neg (by omega)]
  unfold Md_insert
  rw [tn6, lu, h6]
  exact go FU n M hp hn (FU_gt (by omega))
theorem m_shift {c : Nat} {x y : Int32} (hc : c < 100) : ∀ (m k : Nat) (M1 : MdM), k ≤ c → c - k < m → M1.2 ρ 6 = nI c → Md_remove_L19 ρ m M1 x y (nI k) = some (y, setA M1 ρ (gSh (M1.2 ρ) k c)) := by
  intro m
  induction m with
  | zero => intro k M1 h1 h2; omega
  | succ m ih =>
    intro k M1 h1 h2 h3
    unfold Md_remove_L19
    rw [tn6, h3]
    by_cases hk : c ≤ k
    · rw [if_pos ((q_le (by omega) (by omega)).mpr hk)]
      congr 2
      refine Prod.ext rfl (funext fun q => ?_)
      by_cases hq : q = ρ
      · subst hq
        rw [setA_s]
        funext j
        exact (if_neg (by omega)).symm
      · exact (setA_n _ _ hq).symm
    · rw [if_neg (fun q => hk ((q_le (by omega) (by omega)).mp q)), nI_1, e_fa (by omega), bs, show (145 : Int32) = nI 145 from rfl, nI_add, if_pos (q_in (by omega) (by omega)), q_cl (by omega), ih (k + 1) _ (by omega) (by omega) (by rw [setA_s]; exact (if_neg (by omega)).trans h3), setA_A, setA_s]
      congr 3
      funext j
      unfold gSh upd
      by_cases h8 : j = 145 + k
      · rw [if_neg (by omega), if_pos h8, if_pos (by omega), h8]; rfl
      · by_cases h9 : 145 + (k + 1) ≤ j ∧ j < 145 + c
        · rw [if_pos h9, if_neg (by omega), if_pos (by omega)]
        · rw [if_neg h9, if_neg h8, if_neg (by omega)]
theorem m_remove (h : RI H A (M.2 ρ)) {x : Int32} (hx : x ∈ A.2 7) : ∃ q, q < (A.2 7).length ∧ (A.2 7).getD q 0 = x ∧ lnpl (A.2 7) x = nI q ∧ Md_remove ρ M x = some (nI q, setA M ρ (gRem (M.2 ρ) ((A.2 7).length - 1) q)) := by
  have hl := h.sz.l
  obtain ⟨q, h1, h2, h3, h4⟩ := m_placeOf h hx
  refine ⟨q, h1, h2, h3, ?_⟩
  unfold Md_remove
  rw [h4, bs, tn6, m_shift (c := (A.2 7).length - 1) (by omega) FU q _ (by omega) (FU_gt (by omega)) (by
    rw [setA_s]
    refine (if_pos rfl).trans ?_
    rw [h.rel.nl]
    obtain ⟨d, hd⟩ : ∃ d, (A.2 7).length = d + 1 := ⟨(A.2 7).length - 1, by omega⟩
    rw [hd, nI_pred]; rfl), setA_A, setA_s]
  rfl
theorem FdR.perm7 (h : FdR A) {ys : List Int32} (hn : ys.Nodup) (hm : ∀ x, x ∈ ys ↔ x ∈ A.2 7) : FdR (setL A 7 ys) := by
  obtain ⟨a1, a2, a3, a4, a5, a6, a7, a8⟩ := h
  exact ⟨hn, a2, fun x hx => a3 x ((hm x).mp hx), a4, fun k hk e => (hm _).mpr (a5 k hk e), a6, a7, a8⟩
theorem Sz.set7 (h : Sz A) {ys : List Int32} (hl : ys.length ≤ 24) : Sz (setL A 7 ys) := ⟨h.1, h.2.1, h.2.2.1, h.2.2.2.1, h.2.2.2.2.1, h.2.2.2.2.2.1, h.2.2.2.2.2.2.1, hl, h.2.2.2.2.2.2.2.2⟩
theorem RI.perm7 (h : RI H A f) {ys : List Int32} {g : Nat → Int32} (hl : ys.length = (A.2 7).length) (hn : ys.Nodup) (hm : ∀ x, x ∈ ys ↔ x ∈ A.2 7) (hg : ∀ j, ¬ (145 ≤ j ∧ j < 169) → g j = f j) (hr : ∀ i, i < ys.length → g (145 + i) = ys.getD i 0) : RI H (setL A 7 ys) g :=
  ⟨h.rel.onrow h.sz rfl (fun j a _ _ => setL_n _ _ a) (fun j _ b => hg j b) (by rw [setL_s, hl, hg 6 (by omega)]; exact h.rel.nl) (by rw [setL_s]; exact hr), h.sz.set7 (by have := h.sz.l; omega), h.fd.perm7 hn hm, h.mk, h.sp, h.per⟩
/-- a folder of the row put to another place -/
theorem s_move (h : RI H A (M.2 ρ)) {k p : Nat} (hk : k < (A.2 0).length) (hst : (A.2 2).getD k 0 = 0) (hp : p < (A.2 7).length) : ∃ q M2 M3, q < (A.2 7).length ∧ (A.2 7).getD q 0 = nI k ∧ lnpl (A.2 7) (nI k) = nI q ∧ Md_remove ρ M (nI k) = some (nI q, M2) ∧ Md_insert ρ M2 (nI k) (nI p) = some M3 ∧ Sm ρ M M3 ∧ RI H (setL A 7 (lnins 24 (lnrem (A.2 7) (nI q)) (nI p) (nI k))) (M3.2 ρ) := by
  have hl := h.sz.l
  obtain ⟨q, h1, h2, h3, h4⟩ := m_remove h (h.fd.2.2.2.2.1 k hk hst)
  have hlr := ln_rem h1
  have h6 : (setA M ρ (gRem (M.2 ρ) ((A.2 7).length - 1) q)).2 ρ 6 = nI ((A.2 7).length - 1) := by
    rw [setA_s]
    refine (if_neg (by omega)).trans ((if_pos rfl).trans ?_)
    rw [h.rel.nl]
    obtain ⟨d, hd⟩ : ∃ d, (A.2 7).length = d + 1 := ⟨(A.2 7).length - 1, by omega⟩
    rw [hd, nI_pred]; rfl
  refine ⟨q, _, _, h1, h2, h3, h4, m_insert h6 (by omega) (by omega), ?_, ?_⟩
  · rw [setA_A]; exact Sm.setA _ _ _
  · rw [setA_s, setA_s, lm_in h1 (by omega), li_in _ (by omega) (by omega) (by omega)]
    have hli := ln_ins (xs := (A.2 7).take q ++ (A.2 7).drop (q + 1)) (i := p) (v := nI k) (by omega)
    have nk : nI k ∉ (A.2 7).take q ++ (A.2 7).drop (q + 1) := fun hx => ((mem_rem h.fd.1 h1).mp hx).2 h2.symm
    refine h.perm7 (by omega) (nd_ins (nd_rem h.fd.1) nk) (fun x => ?_) (fun j hj => ?_) (fun i hi => ?_)
    · rw [mem_ins, mem_rem h.fd.1 h1, h2]
      constructor
      · rintro (rfl | hx)
        · rw [← h2]; exact gd_mem h1
        · exact hx.1
      · intro hx
        by_cases e : x = nI k
        · exact Or.inl e
        · exact Or.inr ⟨hx, e⟩
    · unfold gIns
      by_cases e6 : j = 6
      · subst e6
        rw [if_pos rfl]
        rw [setA_s] at h6
        rw [h6, h.rel.nl, nI_1]
        congr 1
        omega
      · rw [if_neg e6, if_neg (by omega), if_neg (by omega)]
        unfold gRem gSh
        rw [if_neg (by omega)]
        exact if_neg e6
    · rw [hli] at hi
      rw [gd_ins (by omega), gd_rem h1, gd_rem h1]
      unfold gIns gRem gSh
      rw [if_neg (by omega)]
      have hu : ∀ j, 145 ≤ j → upd (M.2 ρ) 6 (M.2 ρ 6 - 1) j = M.2 ρ j := fun j hj => if_neg (by omega)
      by_cases c1 : i = p
      · rw [if_pos (by omega), if_neg (by omega), if_pos c1]
      · rw [if_neg (by omega), if_neg c1]
        by_cases c2 : i < p
        · rw [if_neg (by omega), if_pos c2]
          by_cases c3 : i < q
          · rw [if_neg (by omega), if_pos c3, hu _ (by omega), h.row (by omega)]
          · rw [if_pos (by omega), if_neg c3, hu _ (by omega), show 145 + i + 1 = 145 + (i + 1) by omega, h.row (by omega)]
        · rw [if_pos (by omega), if_neg c2]
          by_cases c3 : i - 1 < q
          · rw [if_neg (by omega), if_pos c3, hu _ (by omega), show 145 + i - 1 = 145 + (i - 1) by omega, h.row (by omega)]
          · rw [if_pos (by omega), if_neg c3, hu _ (by omega), show 145 + i - 1 + 1 = 145 + (i - 1 + 1) by omega, h.row (by omega)]
theorem s_swapL (h : RI H A (M.2 ρ)) : ∀ (n c m : Nat), m < 1000 → c ≤ m → m - c < n → ∃ v xs M', v ≤ m ∧ Rw_swapWrongPairs_L2 n A (nI m) (nI c) = some (nI v, setL A 7 xs) ∧ Md_swapOn_L2 ρ n M (nI m) (nI c) = some (nI v, M') ∧ Sm ρ M M' ∧ RI H (setL A 7 xs) (M'.2 ρ) := by
  intro n
  induction n generalizing A M with
  | zero => intro c m h1 h2 h3; omega
  | succ n ih =>
    intro c m h1 h2 h3
    have hl := h.sz.l
    have hA : setL A 7 (A.2 7) = A := Prod.ext rfl (funext fun j => by by_cases q : j = 7 <;> simp [setL, va_up, q])
    unfold Rw_swapWrongPairs_L2 Md_swapOn_L2
    by_cases hc : m ≤ c
    · obtain rfl : m = c := by omega
      rw [if_pos (Int32.le_refl _), if_pos (Int32.le_refl _)]
      exact ⟨m, A.2 7, M, Nat.le_refl _, by rw [hA], rfl, Sm.rf _ _, by rw [hA]; exact h⟩
    · have hn : ¬ nI m ≤ nI c := fun q => hc ((q_le (by omega) (by omega)).mp q)
      rw [if_neg hn, if_neg hn]
      rcases s_firstWrong h with ⟨e1, e2⟩ | ⟨p, hp, e1, e2⟩
      · rw [e1, e2, bs, bs, if_pos rfl, if_pos rfl]
        exact ⟨c, A.2 7, M, h2, by rw [hA], rfl, Sm.rf _ _, by rw [hA]; exact h⟩
      · rw [e1, e2, bs, bs, if_neg (q_m1 (by omega)), if_neg (q_m1 (by omega)), bs]
        simp only [lu, nI_1]
        rw [e_fa (by omega), bs, e_fa (by omega), bs, h.row hp, h.row (p := p) (by omega), setL_L, nI_pred, lg_in hp (by omega), lg_in (i := p) (by omega) (by omega), ls_in _ hp (by omega), ls_in _ (by rw [List.length_set]; omega) (by rw [List.length_set]; omega), show (145 : Int32) = nI 145 from rfl, nI_add, nI_1, if_pos (q_in (by omega) (by omega)), if_pos (q_in (by omega) (by omega)), q_cl (by omega), q_cl (by omega)]
        generalize hys : ((A.2 7).set (p + 1) ((A.2 7).getD p 0)).set p ((A.2 7).getD (p + 1) 0) = ys
        have hyl : ys.length = (A.2 7).length := by rw [← hys, List.length_set, List.length_set]
        have hyg : ∀ i, i < (A.2 7).length → ys.getD i 0 = (A.2 7).getD (if i = p then p + 1 else if i = p + 1 then p else i) 0 := by
          intro i hi
          rw [← hys, getD_set _ _ _ _ (by rw [List.length_set]; omega)]
          by_cases c1 : i = p
          · rw [if_pos c1, if_pos c1]
          · rw [if_neg c1, if_neg c1, getD_set _ _ _ _ (by omega)]
            by_cases c2 : i = p + 1
            · rw [if_pos c2, if_pos c2]
            · rw [if_neg c2, if_neg c2]
        obtain ⟨y1, y2⟩ := perm_of (fun i => if i = p then p + 1 else if i = p + 1 then p else i) hyl (fun i hi => by
          refine ⟨?_, ?_⟩
          · show (if i = p then p + 1 else if i = p + 1 then p else i) < _
            split
            · omega
            · split <;> omega
          · show (if (if i = p then p + 1 else if i = p + 1 then p else i) = p then p + 1 else if (if i = p then p + 1 else if i = p + 1 then p else i) = p + 1 then p else (if i = p then p + 1 else if i = p + 1 then p else i)) = i
            by_cases c1 : i = p
            · rw [if_pos c1, if_neg (by omega), if_pos rfl]; exact c1.symm
            · rw [if_neg c1]
              by_cases c2 : i = p + 1
              · rw [if_pos c2, if_pos rfl]; exact c2.symm
              · rw [if_neg c2, if_neg c1, if_neg c2]) hyg h.fd.1
        have hR : RI H (setL A 7 ys) ((setA M ρ (upd (upd (M.2 ρ) (145 + p) ((A.2 7).getD (p + 1) 0)) (145 + p + 1) ((A.2 7).getD p 0))).2 ρ) := by
          rw [setA_s]
          refine h.perm7 hyl y1 y2 (fun j hj => (if_neg (by omega)).trans (if_neg (by omega))) (fun i hi => ?_)
          rw [hyl] at hi
          rw [hyg i hi]
          unfold upd
          by_cases c1 : i = p
          · rw [if_neg (by omega), if_pos (by omega), if_pos c1]
          · rw [if_neg c1]
            by_cases c2 : i = p + 1
            · rw [if_pos (by omega), if_pos c2]
            · rw [if_neg (by omega), if_neg (by omega), if_neg c2, h.row hi]
        obtain ⟨v, xs, M', v1, v2, v3, v4, v5⟩ := ih hR (c + 1) m h1 (by omega) (by omega)
        rw [setL_L] at v2 v5
        exact ⟨v, xs, M', v1, v2, v3, (Sm.setA ρ M _).tr v4, v5⟩
end RW
