/-! read-only questions: the reference's answer is the component's -/
theorem bs {α β : Type} (a : α) (f : α → Option β) : Option.bind (some a) f = f a := rfl
theorem lu {α β : Type} (a : α) (f : α → β) : lt' a f = f a := rfl
theorem setL_L (M : StM) (j : Nat) (a b : List Int32) : setL (setL M j a) j b = setL M j b := by
  refine Prod.ext rfl (funext fun i => ?_)
  by_cases h : i = j <;> simp [setL, va_up, h]
theorem setL_s (M : StM) (j : Nat) (a : List Int32) : (setL M j a).2 j = a := if_pos rfl
theorem setL_n (M : StM) {j i : Nat} (a : List Int32) (h : i ≠ j) : (setL M j a).2 i = M.2 i := if_neg h
theorem setA_n (M : MdM) {j i : Nat} (f : Nat → Int32) (h : i ≠ j) : (setA M j f).2 i = M.2 i := if_neg h
theorem setF_s (M : MdM) (j : Nat) (v : Int32) : (setF M j v).1 j = v := if_pos rfl
theorem setF_n (M : MdM) {j i : Nat} (v : Int32) (h : i ≠ j) : (setF M j v).1 i = M.1 i := if_neg h
/-- what halving needs -/
def RW (H : Int32) (A : StM) (f : Nat → Int32) : Prop := Rel H A f ∧ Sz A ∧ ∀ x ∈ A.2 7, ∃ k, k < (A.2 0).length ∧ x = nI k ∧ (A.2 2).getD k 0 = 0
theorem RW.rel {H : Int32} {A : StM} {f : Nat → Int32} (h : RW H A f) : Rel H A f := h.1
theorem RW.sz {H : Int32} {A : StM} {f : Nat → Int32} (h : RW H A f) : Sz A := h.2.1
theorem RI.w {H : Int32} {A : StM} {f : Nat → Int32} (h : RI H A f) : RW H A f := ⟨h.1, h.2.1, h.2.2.1.2.2.1⟩
section RO
variable {H : Int32} {A : StM} {ρ : Nat} {M : MdM} {f : Nat → Int32}
theorem RI.l8 (h : RI H A f) (L : List Int32) : RI H (setL A 8 L) f := h
theorem RI.l9 (h : RI H A f) (L : List Int32) : RI H (setL A 9 L) f := h
theorem RW.row (h : RW H A f) {p : Nat} (hp : p < (A.2 7).length) : f (145 + p) = (A.2 7).getD p 0 := by
  have := h.rel.rw p hp
  rwa [Nat.one_mul] at this
theorem RI.trol (h : RI H A f) {p : Nat} (hp : p < (A.2 10).length) : f (169 + p) = (A.2 10).getD p 0 := by
  have := h.rel.tr p hp
  rwa [Nat.one_mul] at this
theorem RI.serv (h : RI H A f) {p : Nat} (hp : p < (A.2 6).length) : f (17 + p) = (A.2 6).getD p 0 := by
  have := h.rel.sv p hp
  rwa [Nat.one_mul] at this
theorem RW.rowk (h : RW H A f) {p : Nat} (hp : p < (A.2 7).length) : ∃ k, k < (A.2 0).length ∧ (A.2 7).getD p 0 = nI k ∧ (A.2 2).getD k 0 = 0 := h.2.2 _ (gd_mem hp)
theorem RI.row (h : RI H A f) {p : Nat} (hp : p < (A.2 7).length) : f (145 + p) = (A.2 7).getD p 0 := h.w.row hp
theorem RI.rowk (h : RI H A f) {p : Nat} (hp : p < (A.2 7).length) : ∃ k, k < (A.2 0).length ∧ (A.2 7).getD p 0 = nI k ∧ (A.2 2).getD k 0 = 0 := h.w.rowk hp
theorem RI.trk (h : RI H A f) {p : Nat} (hp : p < (A.2 10).length) : ∃ k, k < (A.2 0).length ∧ (A.2 10).getD p 0 = nI k ∧ (A.2 2).getD k 0 = 2 := h.fd.2.2.2.1 _ (gd_mem hp)
theorem markAt_k (h : RW H A f) {p : Nat} (hp : p < (A.2 7).length) : ∃ k, k < (A.2 0).length ∧ (A.2 7).getD p 0 = nI k ∧ Rw_markAt A (nI p) = (A.2 0).getD k 0 := by
  obtain ⟨k, hk, e, -⟩ := h.rowk hp
  refine ⟨k, hk, e, ?_⟩
  have h1 := h.sz.l
  have h2 := h.sz.fo
  unfold Rw_markAt
  rw [lg_in hp (by omega), e, lg_in hk (by omega)]
theorem m_markAt (h : RW H A (M.2 ρ)) {p : Nat} (hp : p < (A.2 7).length) : Md_markAt ρ M (nI p) = some (Rw_markAt A (nI p)) := by
  obtain ⟨k, hk, e, e2⟩ := markAt_k h hp
  have h1 := h.sz.l
  have h2 := h.sz.fo
  unfold Md_markAt
  rw [e_fa (by omega), bs, h.row hp, e, of0 (by omega), bs, h.rel.mk k hk, e2]
theorem markAt_inj (h : RI H A f) {p q : Nat} (hp : p < (A.2 7).length) (hq : q < (A.2 7).length) (e : Rw_markAt A (nI p) = Rw_markAt A (nI q)) : p = q := by
  obtain ⟨k, hk, e1, e2⟩ := markAt_k h.w hp
  obtain ⟨k', hk', e1', e2'⟩ := markAt_k h.w hq
  have h3 : k = k' := nd_inj h.mk.1 hk hk' (by rw [← e2, ← e2', e])
  exact nd_inj h.fd.1 hp hq (by rw [e1, e1', h3])
/-- what a search by halving answers on both sides -/
def HQ (A : StM) (M M' : MdM) (x r : Int32) (L : List Int32) : Prop :=
  (∀ k, k ≠ 11 → k ≠ 12 → M'.1 k = M.1 k) ∧ (∀ j, j ≠ 7 → M'.2 j = M.2 j) ∧ M'.1 11 = nI L.length ∧ L.length ≤ 24 ∧ (∀ i, i < L.length → M'.2 7 i = L.getD i 0) ∧ (∀ y ∈ L, ∃ p, p < (A.2 7).length ∧ y = nI p) ∧
  ((r = -1 ∧ M'.1 12 = Rw_placeBehindMiss (setL A 8 L) x) ∨ (∃ p, p < (A.2 7).length ∧ r = nI p ∧ Rw_markAt A (nI p) = x ∧ M'.1 12 = nI p)) ∧ ∃ q, q ≤ (A.2 7).length ∧ M'.1 12 = nI q
theorem pbm_app {L : List Int32} {m : Nat} {x : Int32} (hm : m < (A.2 7).length) (hl : (A.2 7).length ≤ 24) (hL : L.length < 24) : Rw_placeBehindMiss (setL A 8 (L ++ [nI m])) x = if Rw_markAt A (nI m) ≤ x then nI m + 1 else nI m := by
  unfold Rw_placeBehindMiss
  rw [setL_s, List.length_append, List.length_singleton, nI_pred, lg_in (by rw [List.length_append, List.length_singleton]; omega) (by rw [List.length_append, List.length_singleton]; omega), gd_app1 _ (Nat.le_refl _), if_pos rfl, lu, if_neg (q_m1 (by omega))]
  rfl
theorem halve_sim (h : RW H A (M.2 ρ)) (hρ : ρ ≠ 7) (x : Int32) : ∀ (n lo hi : Nat) (L : List Int32) (M1 : MdM), hi ≤ (A.2 7).length → lo ≤ hi → L.length + (hi - lo) ≤ 24 → hi - lo < n →
    (∀ k, k ≠ 11 → k ≠ 12 → M1.1 k = M.1 k) → (∀ j, j ≠ 7 → M1.2 j = M.2 j) → M1.1 11 = nI L.length → (∀ i, i < L.length → M1.2 7 i = L.getD i 0) → (∀ y ∈ L, ∃ p, p < (A.2 7).length ∧ y = nI p) → M1.1 12 = Rw_placeBehindMiss (setL A 8 L) x → (∃ q, q ≤ (A.2 7).length ∧ M1.1 12 = nI q) →
    ∃ r L' M', Rw_halve_L22 n (setL A 8 L) x (nI lo) (nI hi - 1) (nI L.length) = some (r, setL A 8 L') ∧ Md_halve_L22 ρ n M1 x (nI lo) (nI hi - 1) = some (r, M') ∧ HQ A M M' x r L' := by
  intro n
  induction n with
  | zero => intro lo hi L M1 h1 h2 h3 h4; omega
  | succ n ih =>
    intro lo hi L M1 h1 h2 h3 h4 g1 g2 g3 g4 g5 g6 g7
    have hl := h.sz.l
    unfold Rw_halve_L22 Md_halve_L22
    simp only [lu]
    by_cases hlo : lo = hi
    · subst hlo
      have hc : nI lo - 1 < nI lo := by
        cases lo with
        | zero => decide
        | succ lo => rw [nI_pred]; exact nI_lt (Nat.lt_succ_self _) (by omega)
      refine ⟨-1, L, M1, ?_, by rw [if_pos hc], g1, g2, g3, by omega, g4, g5, Or.inl ⟨rfl, g6⟩, g7⟩
      by_cases hq : (24 : Int32) ≤ nI L.length
      · rw [if_pos hq]
      · rw [if_neg hq, if_pos hc]
    · obtain ⟨hi, rfl⟩ : ∃ k, hi = k + 1 := ⟨hi - 1, by omega⟩
      have hm1 : lo ≤ (lo + hi) / 2 := by omega
      have hm2 : (lo + hi) / 2 < hi + 1 := by omega
      have hmid : (nI lo + nI hi) / 2 = nI ((lo + hi) / 2) := by
        rw [nI_add, show (2 : Int32) = nI 2 from rfl, pk_div (by omega) (by omega) (by omega)]
      rw [nI_pred]
      rw [if_neg (show ¬ (24 : Int32) ≤ nI L.length from fun q => absurd ((q_le (a := 24) (by omega) (by omega)).mp q) (by omega)), if_neg (nI_nlt (show lo ≤ hi by omega) (by omega)), if_neg (nI_nlt (show lo ≤ hi by omega) (by omega)), hmid]
      generalize (lo + hi) / 2 = m at hm1 hm2
      have hmL : m < (A.2 7).length := by omega
      have em : lnget ((setL A 8 L).2 0) (lnget ((setL A 8 L).2 7) (nI m)) = Rw_markAt A (nI m) := rfl
      have hM1 : RW H A (M1.2 ρ) := by rw [g2 ρ hρ]; exact h
      rw [em, m_markAt hM1 hmL, bs, setL_s, setL_L, la_in _ (by omega), if_pos (show inB (M1.1 11) 24 by rw [g3]; exact q_in (by omega) (by omega)), g3, q_cl (by omega)]
      have base : ∀ v : Int32, (∃ q, q ≤ (A.2 7).length ∧ v = nI q) → ∀ M2 : MdM, M2 = setF (setF (setA M1 7 (upd (M1.2 7) L.length (nI m))) 11 (nI L.length + 1)) 12 v → (∀ k, k ≠ 11 → k ≠ 12 → M2.1 k = M.1 k) ∧ (∀ j, j ≠ 7 → M2.2 j = M.2 j) ∧ M2.1 11 = nI (L ++ [nI m]).length ∧ (∀ i, i < (L ++ [nI m]).length → M2.2 7 i = (L ++ [nI m]).getD i 0) ∧ (∀ y ∈ L ++ [nI m], ∃ p, p < (A.2 7).length ∧ y = nI p) ∧ M2.1 12 = v ∧ (∃ q, q ≤ (A.2 7).length ∧ M2.1 12 = nI q) := by
        intro v hv M2 e
        subst e
        refine ⟨fun k k1 k2 => ?_, fun j j1 => ?_, ?_, fun i hi => ?_, fun y hy => ?_, setF_s _ _ _, ?_⟩
        · rw [setF_n _ _ k2, setF_n _ _ k1]; exact g1 k k1 k2
        · show (setA M1 7 _).2 j = _
          rw [setA_n _ _ j1]; exact g2 j j1
        · rw [setF_n _ _ (by decide), setF_s, List.length_append, List.length_singleton, nI_1]
        · show (setA M1 7 _).2 7 i = _
          rw [List.length_append, List.length_singleton] at hi
          rw [setA_s, gd_app1 i (by omega)]
          by_cases hq : i = L.length
          · rw [if_pos hq, hq]; exact if_pos rfl
          · rw [if_neg hq]; exact (if_neg hq).trans (g4 i (by omega))
        · rcases List.mem_append.mp hy with q | q
          · exact g5 y q
          · exact ⟨m, hmL, List.mem_singleton.mp q⟩
        · rw [setF_s]; exact hv
      have hlen : (L ++ [nI m]).length = L.length + 1 := by rw [List.length_append, List.length_singleton]
      by_cases hx : Rw_markAt A (nI m) = x
      · rw [if_pos hx, if_pos hx, if_pos hx, if_neg (show ¬ Rw_markAt A (nI m) < x by rw [hx]; exact Int32.lt_irrefl)]
        obtain ⟨b1, b2, b3, b4, b5, b6, b7⟩ := base (nI m) ⟨m, by omega, rfl⟩ _ rfl
        exact ⟨nI m, L ++ [nI m], _, rfl, rfl, b1, b2, b3, by omega, b4, b5, Or.inr ⟨m, hmL, rfl, hx, b6⟩, b7⟩
      · rw [if_neg hx, if_neg hx, if_neg hx]
        by_cases hlt : Rw_markAt A (nI m) ≤ x
        · have hlt2 : Rw_markAt A (nI m) < x := Int32.lt_of_le_of_ne hlt hx
          rw [if_pos hlt, if_pos hlt, if_pos hlt2, nI_1, nI_1]
          obtain ⟨b1, b2, b3, b4, b5, b6, b7⟩ := base (nI (m + 1)) ⟨m + 1, by omega, rfl⟩ _ rfl
          have hp := pbm_app (A := A) (L := L) (x := x) hmL hl (by omega)
          rw [if_pos hlt, nI_1] at hp
          have hr := ih (m + 1) (hi + 1) (L ++ [nI m]) _ h1 (by omega) (by omega) (by omega) b1 b2 b3 b4 b5 (b6.trans hp.symm) b7
          rw [hlen, nI_pred] at hr
          rw [nI_1] at hr
          exact hr
        · have hlt2 : ¬ Rw_markAt A (nI m) < x := fun q => hlt (Int32.le_of_lt q)
          rw [if_neg hlt, if_neg hlt2, if_neg hlt, nI_1]
          obtain ⟨b1, b2, b3, b4, b5, b6, b7⟩ := base (nI m) ⟨m, by omega, rfl⟩ _ rfl
          have hp := pbm_app (A := A) (L := L) (x := x) hmL hl (by omega)
          rw [if_neg hlt] at hp
          have hr := ih lo m (L ++ [nI m]) _ (by omega) (by omega) (by omega) (by omega) b1 b2 b3 b4 b5 (b6.trans hp.symm) b7
          rw [hlen] at hr
          rw [nI_1] at hr
          exact hr
theorem s_halve (h : RW H A (M.2 ρ)) (hρ : ρ ≠ 7) (x : Int32) : ∃ r L M', Rw_halve A x = some (r, setL A 8 L) ∧ Md_halve ρ M x = some (r, M') ∧ HQ A M M' x r L := by
  have hl := h.sz.l
  obtain ⟨r, L, M', e1, e2, e3⟩ := halve_sim h hρ x FU 0 (A.2 7).length [] (setF (setF M 11 0) 12 0) (Nat.le_refl _) (Nat.zero_le _) (by simpa using hl) (FU_gt (by omega))
    (fun k k1 k2 => by rw [setF_n _ _ k2, setF_n _ _ k1]) (fun j _ => rfl) (by rw [setF_n _ _ (by decide), setF_s]; rfl) (fun i hi => absurd hi (Nat.not_lt_zero i)) (fun y hy => absurd hy List.not_mem_nil) (by rw [setF_s]; rfl) ⟨0, Nat.zero_le _, by rw [setF_s]; rfl⟩
  refine ⟨r, L, M', ?_, ?_, e3⟩
  · unfold Rw_halve
    rw [lu]
    exact e1
  · unfold Md_halve
    rw [tn6, h.rel.nl, lu]
    exact e2
end RO
