/-! a new archive; a folder more -/
def Zr (f : Nat → Int32) (n : Nat) : Prop := ∀ j, 25 + 5 * n ≤ j → j < 145 → f j = 0
def gB (f : Nat → Int32) (p h r l : Int32) : Nat → Int32 := upd (upd (upd (upd (fun j => if j < 257 then 0 else f j) 1 p) 2 h) 3 r) 4 l
theorem m_beginL {ρ : Nat} (p h r l : Int32) : ∀ (n k : Nat) (M : MdM), k ≤ 257 → 257 - k < n → Md_begin_L3 ρ n M p h r l (nI k) = some (setA M ρ (upd (upd (upd (upd (fun j => if k ≤ j ∧ j < 257 then 0 else M.2 ρ j) 1 p) 2 h) 3 r) 4 l)) := by
  intro n
  induction n with
  | zero => intro k M h1 h2; omega
  | succ n ih =>
    intro k M h1 h2
    unfold Md_begin_L3
    by_cases hk : 257 ≤ k
    · rw [if_pos (show (257 : Int32) ≤ nI k from nI_le (a := 257) hk (by omega)), tn1, tn2, tn3, tn4]
      rw [show (fun j => if k ≤ j ∧ j < 257 then 0 else M.2 ρ j) = M.2 ρ from funext fun j => if_neg (by omega)]
    · rw [if_neg (show ¬ (257 : Int32) ≤ nI k from nI_ge (b := 257) (by omega) (by omega)), if_pos (q_in (by omega) (by omega)), q_cl (by omega), nI_1, ih (k + 1) _ (by omega) (by omega), setA_A, setA_s]
      rw [show (fun j => if k + 1 ≤ j ∧ j < 257 then 0 else upd (M.2 ρ) k 0 j) = (fun j => if k ≤ j ∧ j < 257 then 0 else M.2 ρ j) from funext fun j => by
        unfold upd
        by_cases c : j = k
        · rw [if_neg (by omega), if_pos c, if_pos (by omega)]
        · by_cases c2 : k + 1 ≤ j ∧ j < 257
          · rw [if_pos c2, if_pos (by omega)]
          · rw [if_neg c2, if_neg c, if_neg (by omega)]]
theorem m_begin {ρ : Nat} {M : MdM} (p h r l : Int32) : Md_begin ρ M p h r l = some (setA M ρ (gB (M.2 ρ) p h r l)) := by
  unfold Md_begin
  rw [show (0 : Int32) = nI 0 from rfl, m_beginL p h r l FU 0 M (by omega) (FU_gt (by omega))]
  unfold gB
  rw [show (fun j => if 0 ≤ j ∧ j < 257 then 0 else M.2 ρ j) = (fun j => if j < 257 then 0 else M.2 ρ j) from funext fun j => by
    by_cases c : j < 257
    · rw [if_pos ⟨Nat.zero_le _, c⟩, if_pos c]
    · rw [if_neg (fun q => c q.2), if_neg c]]
theorem rep_gd (n i : Nat) : (List.replicate n (0 : Int32)).getD i 0 = 0 := by
  rw [List.getD_eq_getElem?_getD, List.getElem?_replicate]
  split <;> rfl
theorem s_begin (A : StM) (f : Nat → Int32) {p h r l : Nat} (hp : 1 ≤ p ∧ p < 1000) (hr : r ≤ 8) : ∃ A', St_begin A (nI p) (nI h) (nI r) (nI l) = some A' ∧ RI (nI h) A' (gB f (nI p) (nI h) (nI r) (nI l)) ∧ A'.1 0 = 0 ∧ A'.1 2 = nI h ∧ A'.2 0 = [] ∧ Zr (gB f (nI p) (nI h) (nI r) (nI l)) 0 := by
  have hin : (0 : Int32) ≤ nI r ∧ nI r ≤ 900 := ⟨nI_pos' (by omega), show nI r ≤ nI 900 from nI_le (by omega) (by omega)⟩
  unfold St_begin
  rw [if_pos hin, if_pos hin, lu, if_pos (by decide)]
  have z : ∀ j, j ≠ 1 → j ≠ 2 → j ≠ 3 → j ≠ 4 → j < 257 → gB f (nI p) (nI h) (nI r) (nI l) j = 0 := fun j a b c d e => (if_neg d).trans ((if_neg c).trans ((if_neg b).trans ((if_neg a).trans (if_pos e))))
  have e5 : lnfill 8 (nI r) = List.replicate r 0 := by
    unfold lnfill
    rw [q_cl (by omega), Nat.min_eq_left hr]
  have e15 : lnfill 11 11 = List.replicate 11 0 := rfl
  rw [e5, e15]
  refine ⟨_, rfl, ⟨?_, ?_, ?_, ?_, ?_, ?_⟩, rfl, rfl, rfl, fun j h1 h2 => z j (by omega) (by omega) (by omega) (by omega) (by omega)⟩
  · refine ⟨?_, ?_, ?_, ?_, ?_, ?_, ?_, ?_, ?_, ?_, ?_, ?_, ?_, ?_, ?_, ?_, ?_, ?_, ?_, ?_, ?_, ?_⟩
    · exact z 0 (by decide) (by decide) (by decide) (by decide) (by decide)
    · rfl
    · rfl
    · rfl
    · show _ = nI (List.replicate r (0 : Int32)).length
      rw [List.length_replicate]; rfl
    · exact z 5 (by decide) (by decide) (by decide) (by decide) (by decide)
    · exact z 6 (by decide) (by decide) (by decide) (by decide) (by decide)
    · exact z 7 (by decide) (by decide) (by decide) (by decide) (by decide)
    · exact z 8 (by decide) (by decide) (by decide) (by decide) (by decide)
    · exact fun i hi => absurd hi (Nat.not_lt_zero i)
    · exact fun i hi => absurd hi (Nat.not_lt_zero i)
    · exact fun i hi => absurd hi (Nat.not_lt_zero i)
    · exact fun i hi => absurd hi (Nat.not_lt_zero i)
    · exact fun i hi => absurd hi (Nat.not_lt_zero i)
    · intro i hi
      have hi : i < (List.replicate r (0 : Int32)).length := hi
      rw [List.length_replicate] at hi
      show _ = (List.replicate r (0 : Int32)).getD i 0
      rw [rep_gd]
      exact z _ (by omega) (by omega) (by omega) (by omega) (by omega)
    · exact fun i hi => absurd hi (Nat.not_lt_zero i)
    · exact fun i hi => absurd hi (Nat.not_lt_zero i)
    · exact fun i hi => absurd hi (Nat.not_lt_zero i)
    · exact fun i hi => absurd hi (Nat.not_lt_zero i)
    · exact fun i hi => absurd hi (Nat.not_lt_zero i)
    · exact fun i hi => absurd hi (Nat.not_lt_zero i)
    · intro k k1 k2
      show _ = (List.replicate 11 (0 : Int32)).getD k 0
      rw [rep_gd]
      exact z _ (by omega) (by omega) (by omega) (by omega) (by omega)
  · refine ⟨Nat.zero_le _, rfl, rfl, rfl, rfl, ?_, rfl, Nat.zero_le _, Nat.zero_le _, Nat.zero_le _, rfl, rfl, rfl, rfl⟩
    show (List.replicate r (0 : Int32)).length ≤ 8
    rw [List.length_replicate]; exact hr
  · refine ⟨List.nodup_nil, List.nodup_nil, fun x hx => absurd hx List.not_mem_nil, fun x hx => absurd hx List.not_mem_nil, fun k hk => absurd hk (Nat.not_lt_zero k), fun k hk => absurd hk (Nat.not_lt_zero k), fun k hk => absurd hk (Nat.not_lt_zero k), fun q hq => ?_⟩
    show (List.replicate r (0 : Int32)).getD q 0 = nI (List.count (nI q) [])
    rw [rep_gd]; rfl
  · exact ⟨List.nodup_nil, fun x hx => absurd hx List.not_mem_nil⟩
  · exact fun s hs => absurd hs (Nat.not_lt_zero s)
  · exact nI_nle (by omega) (by omega)
theorem s_addFolder {H : Int32} {ρ : Nat} {A : StM} {M : MdM} (h : RI H A (M.2 ρ)) (hz : Zr (M.2 ρ) (A.2 0).length) (hn : (A.2 0).length < 24) {m e : Nat} (hm : m ≤ 9999) (hnew : nI m ∉ A.2 0) : ∃ M', Md_addFolder ρ M (nI m) (nI e) = some M' ∧ M'.1 = M.1 ∧ (∀ j, j ≠ ρ → M'.2 j = M.2 j) ∧ RI H (St_addFolder A (nI m) (nI e)) (M'.2 ρ) ∧ (St_addFolder A (nI m) (nI e)).1 = A.1 ∧ ((St_addFolder A (nI m) (nI e)).2 0) = A.2 0 ++ [nI m] ∧ Zr (M'.2 ρ) ((A.2 0).length + 1) := by
  have zfo := h.sz.fo
  have ze1 := h.sz.e1
  have ze2 := h.sz.e2
  have ze3 := h.sz.e3
  have ze4 := h.sz.e4
  have zr := h.sz.r
  have ze6 := h.sz.e6
  have zl := h.sz.l
  have zt := h.sz.t
  have zs := h.sz.s
  have ze12 := h.sz.e12
  have ze13 := h.sz.e13
  have ze14 := h.sz.e14
  have ze15 := h.sz.e15
  have hlf : (A.2 7).length ≤ (A.2 0).length := nd_len (A.2 0).length h.fd.1 (fun x hx => by
    obtain ⟨k, c1, c2, -⟩ := h.fd.2.2.1 x hx
    exact ⟨k, c1, c2⟩)
  generalize hnn : (A.2 0).length = n at *
  generalize hll : (A.2 7).length = nl at *
  have hM : Md_addFolder ρ M (nI m) (nI e) = some (setA M ρ (gIns (upd (upd (upd (M.2 ρ) 5 (nI (n + 1))) (25 + 5 * n) (nI m)) (26 + 5 * n) (nI e)) nl nl (nI n))) := by
    unfold Md_addFolder
    rw [tn5, h.rel.nf, hnn, lu, nI_1, lay0 (by omega), bs, lay1 (by omega), bs]
    simp only [setA_A, setA_s]
    have h6 : upd (upd (upd (M.2 ρ) 5 (nI (n + 1))) (25 + 5 * n) (nI m)) (26 + 5 * n) (nI e) 6 = nI nl := (if_neg (by omega)).trans ((if_neg (by omega)).trans ((if_neg (by omega)).trans (h.rel.nl.trans (by rw [hll]))))
    rw [tn6, h6, m_insert (M := setA M ρ (upd (upd (upd (M.2 ρ) 5 (nI (n + 1))) (25 + 5 * n) (nI m)) (26 + 5 * n) (nI e))) (n := nl) (p := nl) (by rw [setA_s]; exact h6) (Nat.le_refl _) (by omega), bs, setA_A, setA_s]
  have hA : St_addFolder A (nI m) (nI e) = setL (setL (setL (setL (setL (setL A 7 (A.2 7 ++ [nI n])) 0 (A.2 0 ++ [nI m])) 1 (A.2 1 ++ [nI e])) 2 (A.2 2 ++ [0])) 3 (A.2 3 ++ [-1])) 4 (A.2 4 ++ [0]) := by
    unfold St_addFolder
    rw [hnn, la_in (xs := A.2 7) _ (by omega), la_in (xs := A.2 0) _ (by omega), la_in (xs := A.2 1) _ (by omega), la_in (xs := A.2 2) _ (by omega), la_in (xs := A.2 3) _ (by omega), la_in (xs := A.2 4) _ (by omega)]
  refine ⟨_, hM, rfl, fun j hj => setA_n _ _ hj, ?_, rfl, by rw [hA]; rfl, ?_⟩
  · rw [setA_s, hA]
    generalize hA' : setL (setL (setL (setL (setL (setL A 7 (A.2 7 ++ [nI n])) 0 (A.2 0 ++ [nI m])) 1 (A.2 1 ++ [nI e])) 2 (A.2 2 ++ [0])) 3 (A.2 3 ++ [-1])) 4 (A.2 4 ++ [0]) = A'
    have e0 : A'.2 0 = A.2 0 ++ [nI m] := by rw [← hA']; rfl
    have e1 : A'.2 1 = A.2 1 ++ [nI e] := by rw [← hA']; rfl
    have e2 : A'.2 2 = A.2 2 ++ [0] := by rw [← hA']; rfl
    have e3 : A'.2 3 = A.2 3 ++ [-1] := by rw [← hA']; rfl
    have e4 : A'.2 4 = A.2 4 ++ [0] := by rw [← hA']; rfl
    have e7 : A'.2 7 = A.2 7 ++ [nI n] := by rw [← hA']; rfl
    have ei : A'.1 = A.1 := by rw [← hA']; rfl
    have eo : ∀ j, j ≠ 0 → j ≠ 1 → j ≠ 2 → j ≠ 3 → j ≠ 4 → j ≠ 7 → A'.2 j = A.2 j := fun j a b c d e' f' => by rw [← hA', setL_n _ _ e', setL_n _ _ d, setL_n _ _ c, setL_n _ _ b, setL_n _ _ a, setL_n _ _ f']
    have e5 := eo 5 (by decide) (by decide) (by decide) (by decide) (by decide) (by decide)
    have e6 := eo 6 (by decide) (by decide) (by decide) (by decide) (by decide) (by decide)
    have e10 := eo 10 (by decide) (by decide) (by decide) (by decide) (by decide) (by decide)
    have e11 := eo 11 (by decide) (by decide) (by decide) (by decide) (by decide) (by decide)
    have e12 := eo 12 (by decide) (by decide) (by decide) (by decide) (by decide) (by decide)
    have e13 := eo 13 (by decide) (by decide) (by decide) (by decide) (by decide) (by decide)
    have e14 := eo 14 (by decide) (by decide) (by decide) (by decide) (by decide) (by decide)
    have e15 := eo 15 (by decide) (by decide) (by decide) (by decide) (by decide) (by decide)
    generalize hg : upd (upd (upd (M.2 ρ) 5 (nI (n + 1))) (25 + 5 * n) (nI m)) (26 + 5 * n) (nI e) = g
    have hlow : ∀ j, j ≠ 5 → j ≠ 6 → j ≠ 25 + 5 * n → j ≠ 26 + 5 * n → j ≠ 145 + nl → gIns g nl nl (nI n) j = M.2 ρ j := fun j a b c d e' => by
      unfold gIns
      rw [if_neg b, if_neg e', if_neg (by omega), ← hg]
      exact (if_neg d).trans ((if_neg c).trans (if_neg a))
    have hst : ∀ j, j ≤ n → (A'.2 2).getD j 0 = if j = n then 0 else (A.2 2).getD j 0 := fun j hj => by
      rw [e2, gd_app1 j (by omega), ze2]
    have hho : ∀ j, j ≤ n → (A'.2 3).getD j 0 = if j = n then -1 else (A.2 3).getD j 0 := fun j hj => by
      rw [e3, gd_app1 j (by omega), ze3]
    have nrow : nI n ∉ A.2 7 := fun hx => by
      obtain ⟨k, c1, c2, -⟩ := h.fd.2.2.1 _ hx
      have := (q_eq (by omega) (by omega)).mp c2
      omega
    refine ⟨?_, ?_, ?_, ?_, ?_, by rw [ei]; exact h.per⟩
    · refine ⟨?_, ?_, ?_, ?_, ?_, ?_, ?_, ?_, ?_, ?_, ?_, ?_, ?_, ?_, ?_, ?_, ?_, ?_, ?_, ?_, ?_, ?_⟩
      · rw [ei, hlow 0 (by omega) (by omega) (by omega) (by omega) (by omega)]; exact h.rel.day
      · rw [ei, hlow 1 (by omega) (by omega) (by omega) (by omega) (by omega)]; exact h.rel.per
      · rw [ei, hlow 4 (by omega) (by omega) (by omega) (by omega) (by omega)]; exact h.rel.lim
      · rw [hlow 2 (by omega) (by omega) (by omega) (by omega) (by omega)]; exact h.rel.hd
      · rw [e5, hlow 3 (by omega) (by omega) (by omega) (by omega) (by omega)]; exact h.rel.nr
      · rw [e0, List.length_append, List.length_singleton, hnn]
        unfold gIns
        rw [if_neg (by omega), if_neg (by omega), if_neg (by omega), ← hg]
        exact (if_neg (by omega)).trans ((if_neg (by omega)).trans (if_pos rfl))
      · rw [e7, List.length_append, List.length_singleton, hll]
        refine (if_pos rfl).trans ?_
        rw [← hg]
        refine (congrArg (fun q => q + 1) ((if_neg (by omega)).trans ((if_neg (by omega)).trans (if_neg (by omega))))).trans ?_
        rw [h.rel.nl, hll, nI_1]
      · rw [e10, hlow 7 (by omega) (by omega) (by omega) (by omega) (by omega)]; exact h.rel.nt
      · rw [e11, hlow 8 (by omega) (by omega) (by omega) (by omega) (by omega)]; exact h.rel.ns
      · rw [e0]
        intro i hi
        rw [List.length_append, List.length_singleton] at hi
        rw [gd_app1 i (by omega)]
        by_cases c : i = (A.2 0).length
        · rw [if_pos c]
          unfold gIns
          rw [if_neg (by omega), if_neg (by omega), if_neg (by omega), ← hg]
          exact (if_neg (by omega)).trans (if_pos (by omega))
        · rw [if_neg c, hlow _ (by omega) (by omega) (by omega) (by omega) (by omega)]; exact h.rel.mk i (by omega)
      · rw [e1]
        intro i hi
        rw [List.length_append, List.length_singleton] at hi
        rw [gd_app1 i (by omega)]
        by_cases c : i = (A.2 1).length
        · rw [if_pos c]
          unfold gIns
          rw [if_neg (by omega), if_neg (by omega), if_neg (by omega), ← hg]
          exact if_pos (by omega)
        · rw [if_neg c, hlow _ (by omega) (by omega) (by omega) (by omega) (by omega)]; exact h.rel.em i (by omega)
      · intro i hi
        rw [e2, List.length_append, List.length_singleton] at hi
        rw [hst i (by omega), hlow _ (by omega) (by omega) (by omega) (by omega) (by omega)]
        by_cases c : i = n
        · rw [if_pos c]; exact hz _ (by omega) (by omega)
        · rw [if_neg c]; exact h.rel.st i (by omega)
      · intro i hi e'
        rw [e3, List.length_append, List.length_singleton] at hi
        rw [hst i (by omega)] at e'
        rw [hho i (by omega), hlow _ (by omega) (by omega) (by omega) (by omega) (by omega)]
        by_cases c : i = n
        · rw [if_pos c] at e'; exact absurd e' (by decide)
        · rw [if_neg c] at e' ⊢; exact h.rel.wi i (by omega) e'
      · rw [e4]
        intro i hi
        rw [List.length_append, List.length_singleton] at hi
        rw [gd_app1 i (by omega), hlow _ (by omega) (by omega) (by omega) (by omega) (by omega)]
        by_cases c : i = (A.2 4).length
        · rw [if_pos c]; exact hz _ (by omega) (by omega)
        · rw [if_neg c]; exact h.rel.tm i (by omega)
      · rw [e6]
        intro i hi
        rw [hlow _ (by omega) (by omega) (by omega) (by omega) (by omega)]; exact h.rel.sv i hi
      · rw [e7]
        intro i hi
        rw [List.length_append, List.length_singleton] at hi
        rw [gd_app1 i (by omega), Nat.one_mul]
        by_cases c : i = (A.2 7).length
        · rw [if_pos c]
          unfold gIns
          rw [if_neg (by omega), if_pos (by omega)]
        · rw [if_neg c, hlow _ (by omega) (by omega) (by omega) (by omega) (by omega)]; exact h.row (by omega)
      · rw [e10]
        intro i hi
        rw [hlow _ (by omega) (by omega) (by omega) (by omega) (by omega)]; exact h.rel.tr i hi
      · rw [e11]
        intro i hi
        rw [hlow _ (by omega) (by omega) (by omega) (by omega) (by omega)]; exact h.rel.s0 i hi
      · rw [e12]
        intro i hi
        rw [hlow _ (by omega) (by omega) (by omega) (by omega) (by omega)]; exact h.rel.s1 i hi
      · rw [e13]
        intro i hi
        rw [hlow _ (by omega) (by omega) (by omega) (by omega) (by omega)]; exact h.rel.s2 i hi
      · rw [e14]
        intro i hi
        rw [hlow _ (by omega) (by omega) (by omega) (by omega) (by omega)]; exact h.rel.s3 i hi
      · intro k k1 k2
        rw [e15, hlow _ (by omega) (by omega) (by omega) (by omega) (by omega)]; exact h.rel.ac k k1 k2
    · unfold Sz
      rw [e0, e1, e2, e3, e4, e5, e6, e7, e10, e11, e12, e13, e14, e15]
      simp only [List.length_append, List.length_singleton]
      exact ⟨by omega, by omega, by omega, by omega, by omega, zr, ze6, by omega, zt, zs, ze12, ze13, ze14, ze15⟩
    · obtain ⟨b1, b2, b3, b4, b5, b6, b7, b8⟩ := h.fd
      rw [hnn] at b3 b4 b5 b6 b7
      have hl0 : (A'.2 0).length = n + 1 := by rw [e0, List.length_append, List.length_singleton, hnn]
      unfold FdR
      rw [hl0, e5, e7, e10]
      refine ⟨?_, b2, fun x hx => ?_, fun x hx => ?_, fun j hj e' => ?_, fun j hj e' => ?_, fun j hj => ?_, fun j hj => ?_⟩
      · refine List.nodup_append.mpr ⟨b1, List.nodup_cons.mpr ⟨List.not_mem_nil, List.nodup_nil⟩, fun a ha b hb e' => ?_⟩
        rw [List.mem_singleton.mp hb] at e'
        exact nrow (e' ▸ ha)
      · rcases List.mem_append.mp hx with hx | hx
        · obtain ⟨k, c1, c2, c3⟩ := b3 x hx
          refine ⟨k, by omega, c2, ?_⟩
          rw [hst k (by omega), if_neg (by omega)]; exact c3
        · refine ⟨n, by omega, List.mem_singleton.mp hx, ?_⟩
          rw [hst n (by omega), if_pos rfl]
      · obtain ⟨k, c1, c2, c3⟩ := b4 x hx
        refine ⟨k, by omega, c2, ?_⟩
        rw [hst k (by omega), if_neg (by omega)]; exact c3
      · rw [hst j (by omega)] at e'
        by_cases c : j = n
        · rw [c]; exact List.mem_append.mpr (Or.inr (List.mem_singleton.mpr rfl))
        · rw [if_neg c] at e'
          exact List.mem_append.mpr (Or.inl (b5 j (by omega) e'))
      · rw [hst j (by omega)] at e'
        by_cases c : j = n
        · rw [if_pos c] at e'; exact absurd e' (by decide)
        · rw [if_neg c] at e'
          exact b6 j (by omega) e'
      · rw [hst j (by omega), hho j (by omega)]
        by_cases c : j = n
        · rw [if_pos c, if_pos c]; exact Or.inl ⟨Or.inl rfl, rfl⟩
        · rw [if_neg c, if_neg c]; exact b7 j (by omega)
      · rw [b8 j hj, e3, List.count_append, List.count_singleton]
        congr 1
        rw [if_neg (by simpa using fun q : (-1 : Int32) = nI j => q_m1 (a := j) (by omega) q.symm)]
        rfl
    · refine ⟨?_, fun x hx => ?_⟩
      · rw [e0]
        refine List.nodup_append.mpr ⟨h.mk.1, List.nodup_cons.mpr ⟨List.not_mem_nil, List.nodup_nil⟩, fun a ha b hb e' => ?_⟩
        rw [List.mem_singleton.mp hb] at e'
        exact hnew (e' ▸ ha)
      · rw [e0] at hx
        rcases List.mem_append.mp hx with hx | hx
        · exact h.mk.2 x hx
        · exact ⟨m, hm, List.mem_singleton.mp hx⟩
    · intro i hi
      rw [e11] at hi ⊢
      have hl0 : (A'.2 0).length = n + 1 := by rw [e0, List.length_append, List.length_singleton, hnn]
      rw [e5, e12, hl0]
      obtain ⟨g1, k, g2, g3⟩ := h.sp i hi
      exact ⟨g1, k, by omega, g3⟩
  · rw [setA_s]
    intro j h1 h2
    unfold gIns
    rw [if_neg (by omega), if_neg (by omega), if_neg (by omega)]
    refine (if_neg (by omega)).trans ((if_neg (by omega)).trans ((if_neg (by omega)).trans ?_))
    exact hz j (by omega) h2
