/-! the pure layer: numbers, lists, the reference's cells -/
theorem q_lt {a b : Nat} (ha : a < 100000) (hb : b < 100000) : nI a < nI b ↔ a < b := nI_ltI (by omega) (by omega)
theorem q_le {a b : Nat} (ha : a < 100000) (hb : b < 100000) : nI a ≤ nI b ↔ a ≤ b := nI_leI (by omega) (by omega)
theorem q_eq {a b : Nat} (ha : a < 100000) (hb : b < 100000) : nI a = nI b ↔ a = b := nI_eq (by omega) (by omega)
theorem q_m1 {a : Nat} (ha : a < 100000) : ¬ nI a = -1 := fun h => absurd (show nI a < 0 by rw [h]; decide) (nI_pos (by omega))
theorem q_neg {a : Nat} (ha : a < 100000) : ¬ nI a < 0 := nI_pos (by omega)
theorem q_cl {a : Nat} (ha : a < 100000) : (nI a).toNatClampNeg = a := nI_clamp (by omega)
theorem q_in {a N : Nat} (h : a < N) (hN : N < 100000) : inB (nI a) N := nI_in h (by omega)
theorem tn0 : (0 : Int32).toNatClampNeg = 0 := by decide
theorem tn1 : (1 : Int32).toNatClampNeg = 1 := by decide
theorem tn2 : (2 : Int32).toNatClampNeg = 2 := by decide
theorem tn3 : (3 : Int32).toNatClampNeg = 3 := by decide
theorem tn4 : (4 : Int32).toNatClampNeg = 4 := by decide
theorem tn5 : (5 : Int32).toNatClampNeg = 5 := by decide
theorem tn6 : (6 : Int32).toNatClampNeg = 6 := by decide
theorem tn7 : (7 : Int32).toNatClampNeg = 7 := by decide
theorem tn8 : (8 : Int32).toNatClampNeg = 8 := by decide
/-- places of a list -/
theorem lg_in {xs : List Int32} {i : Nat} (h : i < xs.length) (hl : xs.length ≤ 1000) : lnget xs (nI i) = xs.getD i 0 := by
  unfold lnget
  rw [if_pos ⟨nI_pos' (by omega), nI_lt h (by omega)⟩, nI_clamp (by omega)]
theorem lg_out {xs : List Int32} {i : Nat} (h : xs.length ≤ i) (hi : i < 100000) : lnget xs (nI i) = -1 := by
  unfold lnget
  rw [if_neg (fun q => nI_nlt h (by omega) q.2)]
theorem lg_neg {xs : List Int32} {p : Int32} (h : p < 0) : lnget xs p = -1 := by
  unfold lnget
  rw [if_neg (fun q => absurd h (Int32.not_lt.mpr q.1))]
theorem ls_in {xs : List Int32} {i : Nat} (v : Int32) (h : i < xs.length) (hl : xs.length ≤ 1000) : lnset xs (nI i) v = xs.set i v := by
  unfold lnset
  rw [if_pos ⟨nI_pos' (by omega), nI_lt h (by omega)⟩, nI_clamp (by omega)]
theorem lr_in {xs : List Int32} {i : Nat} (v : Int32) (h : i < xs.length) (hl : xs.length ≤ 1000) : lnraise xs (nI i) v = xs.set i (xs.getD i 0 + v) := by
  unfold lnraise
  rw [if_pos ⟨nI_pos' (by omega), nI_lt h (by omega)⟩, nI_clamp (by omega)]
theorem la_in {N : Nat} {xs : List Int32} (v : Int32) (h : xs.length < N) : lnadd N xs v = xs ++ [v] := if_pos h
theorem li_in {N : Nat} {xs : List Int32} {i : Nat} (v : Int32) (h : i ≤ xs.length) (hN : xs.length < N) (hl : N ≤ 1000) : lnins N xs (nI i) v = xs.take i ++ v :: xs.drop i := by
  unfold lnins
  rw [if_neg (fun q => by
    rcases q with q | q | q
    · exact nI_pos (by omega) q
    · exact nI_nlt h (by omega) q
    · omega), nI_clamp (by omega)]
theorem lm_in {xs : List Int32} {i : Nat} (h : i < xs.length) (hl : xs.length ≤ 1000) : lnrem xs (nI i) = xs.take i ++ xs.drop (i + 1) := by
  unfold lnrem
  rw [if_neg (fun q => by
    rcases q with q | q
    · exact nI_pos (by omega) q
    · exact nI_ge h (by omega) q), nI_clamp (by omega)]
theorem gd_ins {xs : List Int32} {i : Nat} {v : Int32} (h : i ≤ xs.length) (j : Nat) : (xs.take i ++ v :: xs.drop i).getD j 0 = if j < i then xs.getD j 0 else if j = i then v else xs.getD (j - 1) 0 := by
  rw [getD_app, List.length_take, Nat.min_eq_left h]
  by_cases h1 : j < i
  · rw [if_pos h1, if_pos h1, getD_take _ _ _ h1]
  · rw [if_neg h1, if_neg h1]
    by_cases h2 : j = i
    · subst h2
      rw [if_pos rfl, Nat.sub_self]; rfl
    · rw [if_neg h2]
      obtain ⟨d, rfl⟩ : ∃ d, j = i + (d + 1) := ⟨j - i - 1, by omega⟩
      rw [Nat.add_sub_cancel_left, show i + (d + 1) - 1 = i + d by omega, ← getD_drop]
      rfl
theorem gd_rem {xs : List Int32} {i : Nat} (h : i < xs.length) (j : Nat) : (xs.take i ++ xs.drop (i + 1)).getD j 0 = if j < i then xs.getD j 0 else xs.getD (j + 1) 0 := by
  rw [getD_app, List.length_take, Nat.min_eq_left (by omega)]
  by_cases h1 : j < i
  · rw [if_pos h1, if_pos h1, getD_take _ _ _ h1]
  · rw [if_neg h1, if_neg h1, getD_drop]
    congr 1
    omega
theorem gd_app1 {xs : List Int32} {v : Int32} (j : Nat) (h : j ≤ xs.length) : (xs ++ [v]).getD j 0 = if j = xs.length then v else xs.getD j 0 := by
  rw [getD_app]
  by_cases h1 : j < xs.length
  · rw [if_pos h1, if_neg (by omega)]
  · obtain rfl : j = xs.length := by omega
    rw [if_neg h1, if_pos rfl, Nat.sub_self]; rfl
theorem ln_ins {xs : List Int32} {i : Nat} {v : Int32} (h : i ≤ xs.length) : (xs.take i ++ v :: xs.drop i).length = xs.length + 1 := by
  simp only [List.length_append, List.length_take, List.length_cons, List.length_drop]; omega
theorem ln_rem {xs : List Int32} {i : Nat} (h : i < xs.length) : (xs.take i ++ xs.drop (i + 1)).length = xs.length - 1 := by
  simp only [List.length_append, List.length_take, List.length_drop]; omega
theorem mem_gd {xs : List Int32} {x : Int32} : x ∈ xs ↔ ∃ i, i < xs.length ∧ xs.getD i 0 = x := by
  rw [List.mem_iff_getElem]
  constructor
  · rintro ⟨i, hi, e⟩
    exact ⟨i, hi, by rw [List.getD_eq_getElem?_getD, List.getElem?_eq_getElem hi]; exact e⟩
  · rintro ⟨i, hi, e⟩
    refine ⟨i, hi, ?_⟩
    rw [List.getD_eq_getElem?_getD, List.getElem?_eq_getElem hi] at e
    exact e
theorem gd_mem {xs : List Int32} {i : Nat} (h : i < xs.length) : xs.getD i 0 ∈ xs := mem_gd.mpr ⟨i, h, rfl⟩
theorem nd_inj {xs : List Int32} (h : xs.Nodup) {i j : Nat} (hi : i < xs.length) (hj : j < xs.length) (e : xs.getD i 0 = xs.getD j 0) : i = j := by
  have h1 : xs[i]? = xs[j]? := by
    rw [List.getD_eq_getElem?_getD, List.getD_eq_getElem?_getD, List.getElem?_eq_getElem hi, List.getElem?_eq_getElem hj] at e
    rw [List.getElem?_eq_getElem hi, List.getElem?_eq_getElem hj]
    exact congrArg some e
  exact List.getElem?_inj hi h h1
theorem mem_ins {xs : List Int32} {i : Nat} {v x : Int32} : x ∈ xs.take i ++ v :: xs.drop i ↔ x = v ∨ x ∈ xs := by
  have h := (List.perm_middle (a := v) (l₁ := xs.take i) (l₂ := xs.drop i)).mem_iff (a := x)
  rw [h, List.take_append_drop, List.mem_cons]
theorem nd_ins {xs : List Int32} {i : Nat} {v : Int32} (h : xs.Nodup) (hv : v ∉ xs) : (xs.take i ++ v :: xs.drop i).Nodup := by
  have h1 := (List.perm_middle (a := v) (l₁ := xs.take i) (l₂ := xs.drop i)).nodup_iff
  rw [h1, List.take_append_drop, List.nodup_cons]
  exact ⟨hv, h⟩
theorem nd_rem {xs : List Int32} {i : Nat} (h : xs.Nodup) : (xs.take i ++ xs.drop (i + 1)).Nodup := by
  rw [← List.eraseIdx_eq_take_drop_succ]
  exact h.eraseIdx i
theorem mem_rem {xs : List Int32} {i : Nat} {x : Int32} (h : xs.Nodup) (hi : i < xs.length) : x ∈ xs.take i ++ xs.drop (i + 1) ↔ x ∈ xs ∧ x ≠ xs.getD i 0 := by
  rw [← List.eraseIdx_eq_take_drop_succ, List.mem_eraseIdx_iff_getElem?]
  constructor
  · rintro ⟨j, hj, e⟩
    obtain ⟨hj1, e1⟩ := List.getElem?_eq_some_iff.mp e
    have e2 : xs.getD j 0 = x := by rw [List.getD_eq_getElem?_getD, e]; rfl
    refine ⟨mem_gd.mpr ⟨j, hj1, e2⟩, fun q => hj (nd_inj h hj1 hi (e2.trans q))⟩
  · rintro ⟨h1, h2⟩
    obtain ⟨j, hj, e⟩ := mem_gd.mp h1
    refine ⟨j, fun q => h2 (by rw [← e, q]), ?_⟩
    rw [List.getElem?_eq_getElem hj, ← e, List.getD_eq_getElem?_getD, List.getElem?_eq_getElem hj]
    rfl
/-- the first place of a number -/
theorem lp_spec (v : Int32) : ∀ (xs : List Int32) (s : Nat), (∃ i, i < xs.length ∧ xs.getD i 0 = v ∧ (∀ j, j < i → xs.getD j 0 ≠ v) ∧ lnplN xs v s = nI (s + i)) ∨ ((∀ i, i < xs.length → xs.getD i 0 ≠ v) ∧ lnplN xs v s = -1) := by
  intro xs
  induction xs with
  | nil => exact fun s => Or.inr ⟨fun i hi => absurd hi (Nat.not_lt_zero i), rfl⟩
  | cons x xs ih =>
    intro s
    unfold lnplN
    by_cases hx : x = v
    · rw [if_pos hx]
      exact Or.inl ⟨0, Nat.zero_lt_succ _, hx, fun j hj => absurd hj (Nat.not_lt_zero j), rfl⟩
    · rw [if_neg hx]
      rcases ih (s + 1) with ⟨i, h1, h2, h3, h4⟩ | ⟨h1, h2⟩
      · refine Or.inl ⟨i + 1, Nat.succ_lt_succ h1, h2, fun j hj => ?_, by rw [h4]; congr 1; omega⟩
        cases j with
        | zero => exact hx
        | succ j => exact h3 j (by omega)
      · refine Or.inr ⟨fun i hi => ?_, h2⟩
        cases i with
        | zero => exact hx
        | succ i => exact h1 i (Nat.lt_of_succ_lt_succ hi)
theorem lp_cases (xs : List Int32) (v : Int32) : (∃ i, i < xs.length ∧ xs.getD i 0 = v ∧ (∀ j, j < i → xs.getD j 0 ≠ v) ∧ lnpl xs v = nI i) ∨ ((∀ i, i < xs.length → xs.getD i 0 ≠ v) ∧ lnpl xs v = -1) := by
  have h := lp_spec v xs 0
  simpa using h
theorem lp_mem {xs : List Int32} {v : Int32} (h : v ∈ xs) : ∃ i, i < xs.length ∧ xs.getD i 0 = v ∧ (∀ j, j < i → xs.getD j 0 ≠ v) ∧ lnpl xs v = nI i := by
  rcases lp_cases xs v with h1 | ⟨h1, -⟩
  · exact h1
  · obtain ⟨i, hi, e⟩ := mem_gd.mp h
    exact absurd e (h1 i hi)
theorem lp_not {xs : List Int32} {v : Int32} (h : v ∉ xs) : lnpl xs v = -1 := by
  rcases lp_cases xs v with ⟨i, hi, e, -, -⟩ | ⟨-, h1⟩
  · exact absurd (mem_gd.mpr ⟨i, hi, e⟩) h
  · exact h1
theorem nd_len {xs : List Int32} (n : Nat) (h : xs.Nodup) (hm : ∀ x ∈ xs, ∃ k, k < n ∧ x = nI k) : xs.length ≤ n := by
  have h1 := h.length_le_of_subset (l₂ := (List.range n).map nI) (fun x hx => by
    obtain ⟨k, hk, e⟩ := hm x hx
    exact List.mem_map.mpr ⟨k, List.mem_range.mpr hk, e.symm⟩)
  rw [List.length_map, List.length_range] at h1
  exact h1
/-! the relation of a Stacks to the reference's row of numbers -/
def Arr (f : Nat → Int32) (b s : Nat) (xs : List Int32) : Prop := ∀ i, i < xs.length → f (b + s * i) = xs.getD i 0
theorem Arr.ne {f : Nat → Int32} {b s : Nat} {xs : List Int32} (h : Arr f b s xs) {k : Nat} {v : Int32} (hk : ∀ i, i < xs.length → b + s * i ≠ k) : Arr (upd f k v) b s xs := fun i hi => by
  rw [← h i hi]
  exact if_neg (hk i hi)
theorem Arr.set {f : Nat → Int32} {b s : Nat} {xs : List Int32} (h : Arr f b s xs) {j : Nat} {v : Int32} (hs : 0 < s) (hj : j < xs.length) : Arr (upd f (b + s * j) v) b s (xs.set j v) := fun i hi => by
  rw [List.length_set] at hi
  rw [getD_set xs j v i hj]
  by_cases h1 : i = j
  · rw [if_pos h1, h1]; exact if_pos rfl
  · rw [if_neg h1, ← h i hi]
    exact if_neg (fun q => h1 (Nat.eq_of_mul_eq_mul_left hs (by omega)))
theorem Arr.push {f : Nat → Int32} {b s : Nat} {xs : List Int32} (h : Arr f b s xs) {v : Int32} (hs : 0 < s) : Arr (upd f (b + s * xs.length) v) b s (xs ++ [v]) := fun i hi => by
  rw [List.length_append, List.length_singleton] at hi
  rw [gd_app1 i (by omega)]
  by_cases h1 : i = xs.length
  · rw [if_pos h1, h1]; exact if_pos rfl
  · rw [if_neg h1, ← h i (by omega)]
    exact if_neg (fun q => h1 (Nat.eq_of_mul_eq_mul_left hs (by omega)))
def Rel (H : Int32) (A : StM) (f : Nat → Int32) : Prop :=
  f 0 = A.1 0 ∧ f 1 = A.1 1 ∧ f 4 = A.1 3 ∧ f 2 = H ∧ f 3 = nI (A.2 5).length ∧ f 5 = nI (A.2 0).length ∧ f 6 = nI (A.2 7).length ∧ f 7 = nI (A.2 10).length ∧ f 8 = nI (A.2 11).length ∧
  Arr f 25 5 (A.2 0) ∧ Arr f 26 5 (A.2 1) ∧ Arr f 27 5 (A.2 2) ∧ (∀ i, i < (A.2 3).length → (A.2 2).getD i 0 = 1 → f (28 + 5 * i) = (A.2 3).getD i 0) ∧ Arr f 29 5 (A.2 4) ∧
  Arr f 17 1 (A.2 6) ∧ Arr f 145 1 (A.2 7) ∧ Arr f 169 1 (A.2 10) ∧ Arr f 193 4 (A.2 11) ∧ Arr f 194 4 (A.2 12) ∧ Arr f 195 4 (A.2 13) ∧ Arr f 196 4 (A.2 14) ∧
  ∀ k, 3 ≤ k → k < 11 → f (6 + k) = (A.2 15).getD k 0
def Sz (A : StM) : Prop := (A.2 0).length ≤ 24 ∧ (A.2 1).length = (A.2 0).length ∧ (A.2 2).length = (A.2 0).length ∧ (A.2 3).length = (A.2 0).length ∧ (A.2 4).length = (A.2 0).length ∧ (A.2 5).length ≤ 8 ∧ (A.2 6).length = (A.2 5).length ∧ (A.2 7).length ≤ 24 ∧ (A.2 10).length ≤ 24 ∧ (A.2 11).length ≤ 16 ∧ (A.2 12).length = (A.2 11).length ∧ (A.2 13).length = (A.2 11).length ∧ (A.2 14).length = (A.2 11).length ∧ (A.2 15).length = 11
def Fd (A : StM) : Prop := (A.2 7).Nodup ∧ (A.2 10).Nodup ∧ (∀ x ∈ A.2 7, ∃ k, k < (A.2 0).length ∧ x = nI k ∧ (A.2 2).getD k 0 = 0) ∧ (∀ x ∈ A.2 10, ∃ k, k < (A.2 0).length ∧ x = nI k ∧ (A.2 2).getD k 0 = 2) ∧ (∀ k, k < (A.2 0).length → (A.2 2).getD k 0 = 0 → nI k ∈ A.2 7) ∧ (∀ k, k < (A.2 0).length → (A.2 2).getD k 0 = 2 → nI k ∈ A.2 10) ∧ (∀ k, k < (A.2 0).length → (((A.2 2).getD k 0 = 0 ∨ (A.2 2).getD k 0 = 2) ∧ (A.2 3).getD k 0 = -1) ∨ ((A.2 2).getD k 0 = 1 ∧ ∃ r, r < (A.2 5).length ∧ (A.2 3).getD k 0 = nI r)) ∧ ∀ r, r < (A.2 5).length → (A.2 5).getD r 0 = nI ((A.2 3).count (nI r))
def Mk (A : StM) : Prop := (A.2 0).Nodup ∧ ∀ x ∈ A.2 0, ∃ m, m ≤ 9999 ∧ x = nI m
def Sp (A : StM) : Prop := ∀ s, s < (A.2 11).length → (∃ r, r < (A.2 5).length ∧ (A.2 11).getD s 0 = nI r) ∧ ∃ k, k < (A.2 0).length ∧ (A.2 12).getD s 0 = nI k
def RI (H : Int32) (A : StM) (f : Nat → Int32) : Prop := Rel H A f ∧ Sz A ∧ Fd A ∧ Mk A ∧ Sp A ∧ ¬ A.1 1 ≤ 0
section RIa
variable {H : Int32} {A : StM} {f : Nat → Int32}
theorem RI.rel (h : RI H A f) : Rel H A f := h.1
theorem RI.sz (h : RI H A f) : Sz A := h.2.1
theorem RI.fd (h : RI H A f) : Fd A := h.2.2.1
theorem RI.mk (h : RI H A f) : Mk A := h.2.2.2.1
theorem RI.sp (h : RI H A f) : Sp A := h.2.2.2.2.1
theorem RI.per (h : RI H A f) : ¬ A.1 1 ≤ 0 := h.2.2.2.2.2
theorem Sz.f (h : Sz A) : (A.2 0).length ≤ 24 := h.1
theorem Sz.e1 (h : Sz A) : (A.2 1).length = (A.2 0).length := h.2.1
theorem Sz.e2 (h : Sz A) : (A.2 2).length = (A.2 0).length := h.2.2.1
theorem Sz.e3 (h : Sz A) : (A.2 3).length = (A.2 0).length := h.2.2.2.1
theorem Sz.e4 (h : Sz A) : (A.2 4).length = (A.2 0).length := h.2.2.2.2.1
theorem Sz.r (h : Sz A) : (A.2 5).length ≤ 8 := h.2.2.2.2.2.1
theorem Sz.e6 (h : Sz A) : (A.2 6).length = (A.2 5).length := h.2.2.2.2.2.2.1
theorem Sz.l (h : Sz A) : (A.2 7).length ≤ 24 := h.2.2.2.2.2.2.2.1
theorem Sz.t (h : Sz A) : (A.2 10).length ≤ 24 := h.2.2.2.2.2.2.2.2.1
theorem Sz.s (h : Sz A) : (A.2 11).length ≤ 16 := h.2.2.2.2.2.2.2.2.2.1
theorem Sz.e12 (h : Sz A) : (A.2 12).length = (A.2 11).length := h.2.2.2.2.2.2.2.2.2.2.1
theorem Sz.e13 (h : Sz A) : (A.2 13).length = (A.2 11).length := h.2.2.2.2.2.2.2.2.2.2.2.1
theorem Sz.e14 (h : Sz A) : (A.2 14).length = (A.2 11).length := h.2.2.2.2.2.2.2.2.2.2.2.2.1
theorem Sz.e15 (h : Sz A) : (A.2 15).length = 11 := h.2.2.2.2.2.2.2.2.2.2.2.2.2
theorem Rel.day (h : Rel H A f) : f 0 = A.1 0 := h.1
theorem Rel.per (h : Rel H A f) : f 1 = A.1 1 := h.2.1
theorem Rel.lim (h : Rel H A f) : f 4 = A.1 3 := h.2.2.1
theorem Rel.hd (h : Rel H A f) : f 2 = H := h.2.2.2.1
theorem Rel.nr (h : Rel H A f) : f 3 = nI (A.2 5).length := h.2.2.2.2.1
theorem Rel.nf (h : Rel H A f) : f 5 = nI (A.2 0).length := h.2.2.2.2.2.1
theorem Rel.nl (h : Rel H A f) : f 6 = nI (A.2 7).length := h.2.2.2.2.2.2.1
theorem Rel.nt (h : Rel H A f) : f 7 = nI (A.2 10).length := h.2.2.2.2.2.2.2.1
theorem Rel.ns (h : Rel H A f) : f 8 = nI (A.2 11).length := h.2.2.2.2.2.2.2.2.1
theorem Rel.mk (h : Rel H A f) : Arr f 25 5 (A.2 0) := h.2.2.2.2.2.2.2.2.2.1
theorem Rel.em (h : Rel H A f) : Arr f 26 5 (A.2 1) := h.2.2.2.2.2.2.2.2.2.2.1
theorem Rel.st (h : Rel H A f) : Arr f 27 5 (A.2 2) := h.2.2.2.2.2.2.2.2.2.2.2.1
theorem Rel.wi (h : Rel H A f) : ∀ i, i < (A.2 3).length → (A.2 2).getD i 0 = 1 → f (28 + 5 * i) = (A.2 3).getD i 0 := h.2.2.2.2.2.2.2.2.2.2.2.2.1
theorem Rel.tm (h : Rel H A f) : Arr f 29 5 (A.2 4) := h.2.2.2.2.2.2.2.2.2.2.2.2.2.1
theorem Rel.sv (h : Rel H A f) : Arr f 17 1 (A.2 6) := h.2.2.2.2.2.2.2.2.2.2.2.2.2.2.1
theorem Rel.rw (h : Rel H A f) : Arr f 145 1 (A.2 7) := h.2.2.2.2.2.2.2.2.2.2.2.2.2.2.2.1
theorem Rel.tr (h : Rel H A f) : Arr f 169 1 (A.2 10) := h.2.2.2.2.2.2.2.2.2.2.2.2.2.2.2.2.1
theorem Rel.s0 (h : Rel H A f) : Arr f 193 4 (A.2 11) := h.2.2.2.2.2.2.2.2.2.2.2.2.2.2.2.2.2.1
theorem Rel.s1 (h : Rel H A f) : Arr f 194 4 (A.2 12) := h.2.2.2.2.2.2.2.2.2.2.2.2.2.2.2.2.2.2.1
theorem Rel.s2 (h : Rel H A f) : Arr f 195 4 (A.2 13) := h.2.2.2.2.2.2.2.2.2.2.2.2.2.2.2.2.2.2.2.1
theorem Rel.s3 (h : Rel H A f) : Arr f 196 4 (A.2 14) := h.2.2.2.2.2.2.2.2.2.2.2.2.2.2.2.2.2.2.2.2.1
theorem Rel.ac (h : Rel H A f) : ∀ k, 3 ≤ k → k < 11 → f (6 + k) = (A.2 15).getD k 0 := h.2.2.2.2.2.2.2.2.2.2.2.2.2.2.2.2.2.2.2.2.2
end RIa
/-! the reference's cells read and written -/
theorem c5 : (5 : Int32) = nI 5 := rfl
theorem e_ix5 (i w : Nat) : (25 + (5 * nI i)) + nI w = nI (25 + 5 * i + w) := by
  rw [show (25 : Int32) = nI 25 from rfl, show (5 : Int32) = nI 5 from rfl, pk_mul, nI_add, nI_add]
theorem e_ix4 (i w : Nat) : (193 + (4 * nI i)) + nI w = nI (193 + 4 * i + w) := by
  rw [show (193 : Int32) = nI 193 from rfl, show (4 : Int32) = nI 4 from rfl, pk_mul, nI_add, nI_add]
theorem e_of {ρ : Nat} {M : MdM} {i w : Nat} (h : 25 + 5 * i + w < 257) : Md_of ρ M (nI i) (nI w) = some (M.2 ρ (25 + 5 * i + w)) := by
  unfold Md_of
  rw [e_ix5, if_pos (q_in h (by omega)), q_cl (by omega)]
theorem of0 {ρ : Nat} {M : MdM} {i : Nat} (h : i < 24) : Md_of ρ M (nI i) 0 = some (M.2 ρ (25 + 5 * i)) := e_of (w := 0) (by omega)
theorem of1 {ρ : Nat} {M : MdM} {i : Nat} (h : i < 24) : Md_of ρ M (nI i) 1 = some (M.2 ρ (26 + 5 * i)) := (e_of (w := 1) (by omega)).trans (by congr 2; omega)
theorem of2 {ρ : Nat} {M : MdM} {i : Nat} (h : i < 24) : Md_of ρ M (nI i) 2 = some (M.2 ρ (27 + 5 * i)) := (e_of (w := 2) (by omega)).trans (by congr 2; omega)
theorem of3 {ρ : Nat} {M : MdM} {i : Nat} (h : i < 24) : Md_of ρ M (nI i) 3 = some (M.2 ρ (28 + 5 * i)) := (e_of (w := 3) (by omega)).trans (by congr 2; omega)
theorem of4 {ρ : Nat} {M : MdM} {i : Nat} (h : i < 24) : Md_of ρ M (nI i) 4 = some (M.2 ρ (29 + 5 * i)) := (e_of (w := 4) (by omega)).trans (by congr 2; omega)
theorem e_lay {ρ : Nat} {M : MdM} {i w : Nat} {v : Int32} (h : 25 + 5 * i + w < 257) : Md_lay ρ M (nI i) (nI w) v = some (setA M ρ (upd (M.2 ρ) (25 + 5 * i + w) v)) := by
  unfold Md_lay
  rw [e_ix5, if_pos (q_in h (by omega)), q_cl (by omega)]
theorem lay0 {ρ : Nat} {M : MdM} {i : Nat} {v : Int32} (h : i < 24) : Md_lay ρ M (nI i) 0 v = some (setA M ρ (upd (M.2 ρ) (25 + 5 * i) v)) := e_lay (w := 0) (by omega)
theorem lay1 {ρ : Nat} {M : MdM} {i : Nat} {v : Int32} (h : i < 24) : Md_lay ρ M (nI i) 1 v = some (setA M ρ (upd (M.2 ρ) (26 + 5 * i) v)) := (e_lay (w := 1) (by omega)).trans (by congr 3; omega)
theorem lay2 {ρ : Nat} {M : MdM} {i : Nat} {v : Int32} (h : i < 24) : Md_lay ρ M (nI i) 2 v = some (setA M ρ (upd (M.2 ρ) (27 + 5 * i) v)) := (e_lay (w := 2) (by omega)).trans (by congr 3; omega)
theorem lay3 {ρ : Nat} {M : MdM} {i : Nat} {v : Int32} (h : i < 24) : Md_lay ρ M (nI i) 3 v = some (setA M ρ (upd (M.2 ρ) (28 + 5 * i) v)) := (e_lay (w := 3) (by omega)).trans (by congr 3; omega)
theorem lay4 {ρ : Nat} {M : MdM} {i : Nat} {v : Int32} (h : i < 24) : Md_lay ρ M (nI i) 4 v = some (setA M ρ (upd (M.2 ρ) (29 + 5 * i) v)) := (e_lay (w := 4) (by omega)).trans (by congr 3; omega)
theorem e_os {ρ : Nat} {M : MdM} {i w : Nat} (h : 193 + 4 * i + w < 257) : Md_ofSlip ρ M (nI i) (nI w) = some (M.2 ρ (193 + 4 * i + w)) := by
  unfold Md_ofSlip
  rw [e_ix4, if_pos (q_in h (by omega)), q_cl (by omega)]
theorem os0 {ρ : Nat} {M : MdM} {i : Nat} (h : i < 16) : Md_ofSlip ρ M (nI i) 0 = some (M.2 ρ (193 + 4 * i)) := e_os (w := 0) (by omega)
theorem os1 {ρ : Nat} {M : MdM} {i : Nat} (h : i < 16) : Md_ofSlip ρ M (nI i) 1 = some (M.2 ρ (194 + 4 * i)) := (e_os (w := 1) (by omega)).trans (by congr 2; omega)
theorem os2 {ρ : Nat} {M : MdM} {i : Nat} (h : i < 16) : Md_ofSlip ρ M (nI i) 2 = some (M.2 ρ (195 + 4 * i)) := (e_os (w := 2) (by omega)).trans (by congr 2; omega)
theorem os3 {ρ : Nat} {M : MdM} {i : Nat} (h : i < 16) : Md_ofSlip ρ M (nI i) 3 = some (M.2 ρ (196 + 4 * i)) := (e_os (w := 3) (by omega)).trans (by congr 2; omega)
theorem e_fa {ρ : Nat} {M : MdM} {p : Nat} (h : p < 112) : Md_folderAt ρ M (nI p) = some (M.2 ρ (145 + p)) := by
  unfold Md_folderAt
  rw [show (145 : Int32) = nI 145 from rfl, nI_add, if_pos (q_in (by omega) (by omega)), q_cl (by omega)]
theorem e_tally {ρ : Nat} {M : MdM} {a : Nat} {v : Int32} (h1 : 3 ≤ a) (h2 : a < 11) : Md_tally ρ M (nI a) v = some (setA M ρ (upd (M.2 ρ) (6 + a) (M.2 ρ (6 + a) + v))) := by
  unfold Md_tally
  rw [show (9 + nI a) - 3 = nI (6 + a) by rw [show (9 : Int32) = nI 9 from rfl, show (3 : Int32) = nI 3 from rfl, nI_add, pk_sub (by omega)]; congr 1; omega]
  rw [if_pos (q_in (by omega) (by omega)), if_pos (q_in (by omega) (by omega)), q_cl (by omega)]
theorem e_tallied {ρ : Nat} {M : MdM} {a : Nat} (h1 : 3 ≤ a) (h2 : a < 11) : Md_tallied ρ M (nI a) = some (M.2 ρ (6 + a)) := by
  unfold Md_tallied
  rw [show (9 + nI a) - 3 = nI (6 + a) by rw [show (9 : Int32) = nI 9 from rfl, show (3 : Int32) = nI 3 from rfl, nI_add, pk_sub (by omega)]; congr 1; omega]
  rw [if_pos (q_in (by omega) (by omega)), q_cl (by omega)]
/-- the reference's in-range test -/
theorem inr_0 {x : Int32} {n : Nat} (hn : n < 100000) : Md_inRange x 0 (nI n - 1) = if x < 0 then 0 else if nI n ≤ x then 0 else 1 := by
  unfold Md_inRange
  by_cases h0 : x < 0
  · rw [if_pos h0, if_pos h0]
  · rw [if_neg h0, if_neg h0]
    obtain ⟨j, hj, rfl⟩ := nI_of h0
    cases n with
    | zero =>
      rw [if_pos (show nI 0 - 1 < nI j from Int32.lt_of_lt_of_le (show nI 0 - 1 < 0 by decide) (nI_pos' hj)), if_pos (show nI 0 ≤ nI j from nI_pos' hj)]
    | succ n =>
      rw [nI_pred]
      by_cases h1 : n < j
      · rw [if_pos (nI_lt h1 hj), if_pos ((nI_leI (by omega) hj).mpr h1)]
      · rw [if_neg (nI_nlt (by omega) (by omega)), if_neg (fun q => h1 ((nI_leI (by omega) hj).mp q))]
/-! read-only questions: the reference's answer is the component's -/
theorem bs {α β : Type} (a : α) (f : α → Option β) : Option.bind (some a) f = f a := rfl
theorem lu {α β : Type} (a : α) (f : α → β) : lt' a f = f a := rfl
theorem setL_L (M : StM) (j : Nat) (a b : List Int32) : setL (setL M j a) j b = setL M j b := by
  refine Prod.ext rfl (funext fun i => ?_)
  by_cases h : i = j <;> simp [setL, va_up, h]
theorem setL_s (M : StM) (j : Nat) (a : List Int32) : (setL M j a).2 j = a := if_pos rfl
theorem setL_n (M : StM) {j i : Nat} (a : List Int32) (h : i ≠ j) : (setL M j a).2 i = M.2 i := if_neg h
theorem setA_n (M : MdM) {j i : Nat} (f : Nat → Int32) (h : i ≠ j) : (setA M j f).2 i = M.2 i := if_neg h
theorem setF_s (M : MdM) (j : Nat) (v : Int32) : (setF M j v).1 j = v := if_pos rfl
theorem setF_n (M : MdM) {j i : Nat} (v : Int32) (h : i ≠ j) : (setF M j v).1 i = M.1 i := if_neg h
/-- what halving needs -/
def RW (H : Int32) (A : StM) (f : Nat → Int32) : Prop := Rel H A f ∧ Sz A ∧ ∀ x ∈ A.2 7, ∃ k, k < (A.2 0).length ∧ x = nI k ∧ (A.2 2).getD k 0 = 0
theorem RW.rel {H : Int32} {A : StM} {f : Nat → Int32} (h : RW H A f) : Rel H A f := h.1
theorem RW.sz {H : Int32} {A : StM} {f : Nat → Int32} (h : RW H A f) : Sz A := h.2.1
theorem RI.w {H : Int32} {A : StM} {f : Nat → Int32} (h : RI H A f) : RW H A f := ⟨h.1, h.2.1, h.2.2.1.2.2.1⟩
section RO
variable {H : Int32} {A : StM} {ρ : Nat} {M : MdM} {f : Nat → Int32}
theorem RI.l8 (h : RI H A f) (L : List Int32) : RI H (setL A 8 L) f := h
theorem RI.l9 (h : RI H A f) (L : List Int32) : RI H (setL A 9 L) f := h
theorem RW.row (h : RW H A f) {p : Nat} (hp : p < (A.2 7).length) : f (145 + p) = (A.2 7).getD p 0 := by
  have := h.rel.rw p hp
  rwa [Nat.one_mul] at this
theorem RI.trol (h : RI H A f) {p : Nat} (hp : p < (A.2 10).length) : f (169 + p) = (A.2 10).getD p 0 := by
  have := h.rel.tr p hp
  rwa [Nat.one_mul] at this
theorem RI.serv (h : RI H A f) {p : Nat} (hp : p < (A.2 6).length) : f (17 + p) = (A.2 6).getD p 0 := by
  have := h.rel.sv p hp
  rwa [Nat.one_mul] at this
theorem RW.rowk (h : RW H A f) {p : Nat} (hp : p < (A.2 7).length) : ∃ k, k < (A.2 0).length ∧ (A.2 7).getD p 0 = nI k ∧ (A.2 2).getD k 0 = 0 := h.2.2 _ (gd_mem hp)
theorem RI.row (h : RI H A f) {p : Nat} (hp : p < (A.2 7).length) : f (145 + p) = (A.2 7).getD p 0 := h.w.row hp
theorem RI.rowk (h : RI H A f) {p : Nat} (hp : p < (A.2 7).length) : ∃ k, k < (A.2 0).length ∧ (A.2 7).getD p 0 = nI k ∧ (A.2 2).getD k 0 = 0 := h.w.rowk hp
theorem RI.trk (h : RI H A f) {p : Nat} (hp : p < (A.2 10).length) : ∃ k, k < (A.2 0).length ∧ (A.2 10).getD p 0 = nI k ∧ (A.2 2).getD k 0 = 2 := h.fd.2.2.2.1 _ (gd_mem hp)
theorem markAt_k (h : RW H A f) {p : Nat} (hp : p < (A.2 7).length) : ∃ k, k < (A.2 0).length ∧ (A.2 7).getD p 0 = nI k ∧ Rw_markAt A (nI p) = (A.2 0).getD k 0 := by
  obtain ⟨k, hk, e, -⟩ := h.rowk hp
  refine ⟨k, hk, e, ?_⟩
  have h1 := h.sz.l
  have h2 := h.sz.f
  unfold Rw_markAt
  rw [lg_in hp (by omega), e, lg_in hk (by omega)]
theorem m_markAt (h : RW H A (M.2 ρ)) {p : Nat} (hp : p < (A.2 7).length) : Md_markAt ρ M (nI p) = some (Rw_markAt A (nI p)) := by
  obtain ⟨k, hk, e, e2⟩ := markAt_k h hp
  have h1 := h.sz.l
  have h2 := h.sz.f
  unfold Md_markAt
  rw [e_fa (by omega), bs, h.row hp, e, of0 (by omega), bs, h.rel.mk k hk, e2]
theorem markAt_inj (h : RI H A f) {p q : Nat} (hp : p < (A.2 7).length) (hq : q < (A.2 7).length) (e : Rw_markAt A (nI p) = Rw_markAt A (nI q)) : p = q := by
  obtain ⟨k, hk, e1, e2⟩ := markAt_k h.w hp
  obtain ⟨k', hk', e1', e2'⟩ := markAt_k h.w hq
  have h3 : k = k' := nd_inj h.mk.1 hk hk' (by rw [← e2, ← e2', e])
  exact nd_inj h.fd.1 hp hq (by rw [e1, e1', h3])
/-- what a search by halving answers on both sides -/
def HQ (A : StM) (M M' : MdM) (x r : Int32) (L : List Int32) : Prop :=
  (∀ k, k ≠ 11 → k ≠ 12 → M'.1 k = M.1 k) ∧ (∀ j, j ≠ 7 → M'.2 j = M.2 j) ∧ M'.1 11 = nI L.length ∧ L.length ≤ 24 ∧ (∀ i, i < L.length → M'.2 7 i = L.getD i 0) ∧ (∀ y ∈ L, ∃ p, p < (A.2 7).length ∧ y = nI p) ∧
  ((r = -1 ∧ M'.1 12 = Rw_placeBehindMiss (setL A 8 L) x) ∨ (∃ p, p < (A.2 7).length ∧ r = nI p ∧ Rw_markAt A (nI p) = x ∧ M'.1 12 = nI p)) ∧ ∃ q, q ≤ (A.2 7).length ∧ M'.1 12 = nI q
theorem pbm_app {L : List Int32} {m : Nat} {x : Int32} (hm : m < (A.2 7).length) (hl : (A.2 7).length ≤ 24) (hL : L.length < 24) : Rw_placeBehindMiss (setL A 8 (L ++ [nI m])) x = if Rw_markAt A (nI m) ≤ x then nI m + 1 else nI m := by
  unfold Rw_placeBehindMiss
  rw [setL_s, List.length_append, List.length_singleton, nI_pred, lg_in (by rw [List.length_append, List.length_singleton]; omega) (by rw [List.length_append, List.length_singleton]; omega), gd_app1 _ (Nat.le_refl _), if_pos rfl, lu, if_neg (q_m1 (by omega))]
  rfl
theorem halve_sim (h : RW H A (M.2 ρ)) (hρ : ρ ≠ 7) (x : Int32) : ∀ (n lo hi : Nat) (L : List Int32) (M1 : MdM), hi ≤ (A.2 7).length → lo ≤ hi → L.length + (hi - lo) ≤ 24 → hi - lo < n →
    (∀ k, k ≠ 11 → k ≠ 12 → M1.1 k = M.1 k) → (∀ j, j ≠ 7 → M1.2 j = M.2 j) → M1.1 11 = nI L.length → (∀ i, i < L.length → M1.2 7 i = L.getD i 0) → (∀ y ∈ L, ∃ p, p < (A.2 7).length ∧ y = nI p) → M1.1 12 = Rw_placeBehindMiss (setL A 8 L) x → (∃ q, q ≤ (A.2 7).length ∧ M1.1 12 = nI q) →
    ∃ r L' M', Rw_halve_L22 n (setL A 8 L) x (nI lo) (nI hi - 1) (nI L.length) = some (r, setL A 8 L') ∧ Md_halve_L22 ρ n M1 x (nI lo) (nI hi - 1) = some (r, M') ∧ HQ A M M' x r L' := by
  intro n
  induction n with
  | zero => intro lo hi L M1 h1 h2 h3 h4; omega
  | succ n ih =>
    intro lo hi L M1 h1 h2 h3 h4 g1 g2 g3 g4 g5 g6 g7
    have hl := h.sz.l
    unfold Rw_halve_L22 Md_halve_L22
    by_cases hlo : lo = hi
    · subst hlo
      have hc : nI lo - 1 < nI lo := by
        cases lo with
        | zero => decide
        | succ lo => rw [nI_pred]; exact nI_lt (Nat.lt_succ_self _) (by omega)
      have e1 : (if (24 : Int32) ≤ nI L.length then some ((-1 : Int32), setL A 8 L) else if nI lo - 1 < nI lo then some (-1, setL A 8 L) else lt' ((nI lo + (nI lo - 1)) / 2) fun v5_59 => lt' (lnget ((setL A 8 L).2 0) (lnget ((setL A 8 L).2 7) v5_59)) fun v6_60 => if v6_60 = x then (some ((v5_59, setL (setL A 8 L) 8 (lnadd 24 ((setL A 8 L).2 8) v5_59)))) else (if v6_60 ≤ x then (lt' (v5_59 + 1) fun v2_63 => Rw_halve_L22 n (setL (setL A 8 L) 8 (lnadd 24 ((setL A 8 L).2 8) v5_59)) x v2_63 (nI lo - 1) (nI L.length + 1)) else (lt' (v5_59 - 1) fun v3_64 => Rw_halve_L22 n (setL (setL A 8 L) 8 (lnadd 24 ((setL A 8 L).2 8) v5_59)) x (nI lo) v3_64 (nI L.length + 1)))) = some ((-1 : Int32), setL A 8 L) := by
        by_cases hq : (24 : Int32) ≤ nI L.length
        · rw [if_pos hq]
        · rw [if_neg hq, if_pos hc]
      rw [if_pos hc]
      exact ⟨-1, L, M1, e1, rfl, g1, g2, g3, by omega, g4, g5, Or.inl ⟨rfl, g6⟩, g7⟩
    · obtain ⟨hi, rfl⟩ : ∃ k, hi = k + 1 := ⟨hi - 1, by omega⟩
      have hm1 : lo ≤ (lo + hi) / 2 := by omega
      have hm2 : (lo + hi) / 2 < hi + 1 := by omega
      have hmid : (nI lo + nI hi) / 2 = nI ((lo + hi) / 2) := by
        rw [nI_add, show (2 : Int32) = nI 2 from rfl, pk_div (by omega) (by omega) (by omega)]
      rw [nI_pred]
      rw [if_neg (show ¬ (24 : Int32) ≤ nI L.length from fun q => absurd ((q_le (a := 24) (by omega) (by omega)).mp q) (by omega)), if_neg (nI_nlt (show lo ≤ hi by omega) (by omega)), if_neg (nI_nlt (show lo ≤ hi by omega) (by omega)), lu, lu, lu, hmid]
      generalize (lo + hi) / 2 = m at hm1 hm2
      have hmL : m < (A.2 7).length := by omega
      have em : lnget ((setL A 8 L).2 0) (lnget ((setL A 8 L).2 7) (nI m)) = Rw_markAt A (nI m) := rfl
      have hM1 : RW H A (M1.2 ρ) := by rw [g2 ρ hρ]; exact h
      rw [em, m_markAt hM1 hmL, bs, setL_s, setL_L, la_in _ (by omega), if_pos (by rw [g3]; exact q_in (by omega) (by omega)), g3, q_cl (by omega)]
      have base : ∀ v : Int32, (∃ q, q ≤ (A.2 7).length ∧ v = nI q) → ∀ M2 : MdM, M2 = setF (setF (setA M1 7 (upd (M1.2 7) L.length (nI m))) 11 (nI L.length + 1)) 12 v → (∀ k, k ≠ 11 → k ≠ 12 → M2.1 k = M.1 k) ∧ (∀ j, j ≠ 7 → M2.2 j = M.2 j) ∧ M2.1 11 = nI (L ++ [nI m]).length ∧ (∀ i, i < (L ++ [nI m]).length → M2.2 7 i = (L ++ [nI m]).getD i 0) ∧ (∀ y ∈ L ++ [nI m], ∃ p, p < (A.2 7).length ∧ y = nI p) ∧ M2.1 12 = v ∧ (∃ q, q ≤ (A.2 7).length ∧ M2.1 12 = nI q) := by
        intro v hv M2 e
        subst e
        refine ⟨fun k k1 k2 => ?_, fun j j1 => ?_, ?_, fun i hi => ?_, fun y hy => ?_, setF_s _ _ _, ?_⟩
        · rw [setF_n _ _ k2, setF_n _ _ k1]; exact g1 k k1 k2
        · show (setA M1 7 _).2 j = _
          rw [setA_n _ _ j1]; exact g2 j j1
        · rw [setF_n _ _ (by decide), setF_s, List.length_append, List.length_singleton, nI_1]
        · show (setA M1 7 _).2 7 i = _
          rw [List.length_append, List.length_singleton] at hi
          rw [setA_s, gd_app1 i (by omega)]
          by_cases hq : i = L.length
          · rw [if_pos hq, hq]; exact if_pos rfl
          · rw [if_neg hq]; exact (if_neg hq).trans (g4 i (by omega))
        · rcases List.mem_append.mp hy with q | q
          · exact g5 y q
          · exact ⟨m, hmL, List.mem_singleton.mp q⟩
        · rw [setF_s]; exact hv
      have hlen : (L ++ [nI m]).length = L.length + 1 := by rw [List.length_append, List.length_singleton]
      by_cases hx : Rw_markAt A (nI m) = x
      · rw [if_pos hx, if_pos hx, if_pos hx, if_neg (show ¬ Rw_markAt A (nI m) < x by rw [hx]; exact Int32.lt_irrefl _)]
        obtain ⟨b1, b2, b3, b4, b5, b6, b7⟩ := base (nI m) ⟨m, by omega, rfl⟩ _ rfl
        exact ⟨nI m, L ++ [nI m], _, rfl, rfl, b1, b2, b3, by omega, b4, b5, Or.inr ⟨m, hmL, rfl, hx, b6⟩, b7⟩
      · rw [if_neg hx, if_neg hx, if_neg hx]
        by_cases hlt : Rw_markAt A (nI m) ≤ x
        · have hlt2 : Rw_markAt A (nI m) < x := Int32.lt_of_le_of_ne hlt hx
          rw [if_pos hlt, if_pos hlt, if_pos hlt2, lu, lu, nI_1, nI_1]
          obtain ⟨b1, b2, b3, b4, b5, b6, b7⟩ := base (nI (m + 1)) ⟨m + 1, by omega, rfl⟩ _ rfl
          have hp := pbm_app (A := A) (L := L) (x := x) hmL hl (by omega)
          rw [if_pos hlt, nI_1] at hp
          have hr := ih (m + 1) (hi + 1) (L ++ [nI m]) _ h1 (by omega) (by omega) (by omega) b1 b2 b3 b4 b5 (b6.trans hp.symm) b7
          rw [hlen, nI_pred] at hr
          rw [nI_1] at hr
          exact hr
        · have hlt2 : ¬ Rw_markAt A (nI m) < x := fun q => hlt (Int32.le_of_lt q)
          rw [if_neg hlt, if_neg hlt, if_neg hlt2, lu, lu, nI_1]
          obtain ⟨b1, b2, b3, b4, b5, b6, b7⟩ := base (nI m) ⟨m, by omega, rfl⟩ _ rfl
          have hp := pbm_app (A := A) (L := L) (x := x) hmL hl (by omega)
          rw [if_neg hlt] at hp
          have hr := ih lo m (L ++ [nI m]) _ (by omega) (by omega) (by omega) (by omega) b1 b2 b3 b4 b5 (b6.trans hp.symm) b7
          rw [hlen] at hr
          rw [nI_1] at hr
          exact hr
theorem s_halve (h : RW H A (M.2 ρ)) (hρ : ρ ≠ 7) (x : Int32) : ∃ r L M', Rw_halve A x = some (r, setL A 8 L) ∧ Md_halve ρ M x = some (r, M') ∧ HQ A M M' x r L := by
  have hl := h.sz.l
  obtain ⟨r, L, M', e1, e2, e3⟩ := halve_sim h hρ x FU 0 (A.2 7).length [] (setF (setF M 11 0) 12 0) (Nat.le_refl _) (Nat.zero_le _) (by simpa using hl) (FU_gt (by omega))
    (fun k k1 k2 => by rw [setF_n _ _ k2, setF_n _ _ k1]) (fun j _ => rfl) (by rw [setF_n _ _ (by decide), setF_s]; rfl) (fun i hi => absurd hi (Nat.not_lt_zero i)) (fun y hy => absurd hy List.not_mem_nil) (by rw [setF_s]; rfl) ⟨0, Nat.zero_le _, by rw [setF_s]; rfl⟩
  refine ⟨r, L, M', e1, ?_, e3⟩
  unfold Md_halve
  rw [tn6, h.rel.nl, lu]
  exact e2
end RO
/-! read-only questions, second part: counts and first places -/
section RO
variable {H : Int32} {A : StM} {ρ : Nat} {M : MdM} {f : Nat → Int32}
theorem m_folderMarked (h : RI H A (M.2 ρ)) (x : Int32) : Md_folderMarked ρ M x = some (lnpl (A.2 0) x) := by
  have hf := h.sz.f
  have go : ∀ (n i : Nat), i ≤ (A.2 0).length → (A.2 0).length - i < n → Md_folderMarked_L2 ρ M n x (nI i) = some (lnplN ((A.2 0).drop i) x i) := by
    intro n
    induction n with
    | zero => intro i h1 h2; omega
    | succ n ih =>
      intro i h1 h2
      unfold Md_folderMarked_L2
      rw [tn5, h.rel.nf]
      by_cases hi : i = (A.2 0).length
      · rw [if_pos ((q_le (by omega) (by omega)).mpr (by omega)), hi, List.drop_length]; rfl
      · rw [if_neg (fun q => hi (by have := (q_le (by omega) (by omega)).mp q; omega)), of0 (by omega), bs, h.rel.mk i (by omega), drop_getD _ i (by omega), lnplN]
        by_cases hx : (A.2 0).getD i 0 = x
        · rw [if_pos hx, if_pos hx]
        · rw [if_neg hx, if_neg hx, nI_1, ih (i + 1) (by omega) (by omega)]
  exact go FU 0 (Nat.zero_le _) (FU_gt (by omega))
theorem m_placeOf (h : RI H A (M.2 ρ)) {x : Int32} (hx : x ∈ A.2 7) : ∃ i, i < (A.2 7).length ∧ (A.2 7).getD i 0 = x ∧ lnpl (A.2 7) x = nI i ∧ Md_placeOf ρ M x = some (nI i) := by
  have hl := h.sz.l
  obtain ⟨i, h1, h2, h3, h4⟩ := lp_mem hx
  refine ⟨i, h1, h2, h4, ?_⟩
  have go : ∀ (n p : Nat), p ≤ i → i - p < n → Md_placeOf_L2 ρ M n x (nI p) = some (nI i) := by
    intro n
    induction n with
    | zero => intro p g1 g2; omega
    | succ n ih =>
      intro p g1 g2
      unfold Md_placeOf_L2
      rw [e_fa (by omega), bs, h.row (by omega)]
      by_cases hp : p = i
      · rw [if_pos (by rw [hp]; exact h2), hp]
      · rw [if_neg (h3 p (by omega)), nI_1, ih (p + 1) (by omega) (by omega)]
  exact go FU 0 (Nat.zero_le _) (FU_gt (by omega))
theorem m_trolleyPlace (h : RI H A (M.2 ρ)) {x : Int32} (hx : x ∈ A.2 10) : ∃ i, i < (A.2 10).length ∧ (A.2 10).getD i 0 = x ∧ lnpl (A.2 10) x = nI i ∧ Md_trolleyPlace ρ M x = some (nI i) := by
  have hl := h.sz.t
  obtain ⟨i, h1, h2, h3, h4⟩ := lp_mem hx
  refine ⟨i, h1, h2, h4, ?_⟩
  have go : ∀ (n p : Nat), p ≤ i → i - p < n → Md_trolleyPlace_L2 ρ M n x (nI p) = some (nI i) := by
    intro n
    induction n with
    | zero => intro p g1 g2; omega
    | succ n ih =>
      intro p g1 g2
      unfold Md_trolleyPlace_L2
      rw [show (169 : Int32) = nI 169 from rfl, nI_add, if_pos (q_in (by omega) (by omega)), q_cl (by omega), h.trol (by omega)]
      by_cases hp : p = i
      · rw [if_pos (by rw [hp]; exact h2), hp]
      · rw [if_neg (h3 p (by omega)), nI_1, ih (p + 1) (by omega) (by omega)]
  exact go FU 0 (Nat.zero_le _) (FU_gt (by omega))
theorem m_isWrong (h : RI H A (M.2 ρ)) {p : Nat} (hp : p + 1 < (A.2 7).length) : Md_isWrong ρ M (nI p) = some (Rw_isWrong A (nI (p + 1))) := by
  have hl := h.sz.l
  unfold Md_isWrong
  rw [m_markAt h.w (by omega), bs, nI_1, m_markAt h.w hp, bs]
  have e : Rw_isWrong A (nI (p + 1)) = if Rw_markAt A (nI p) ≤ Rw_markAt A (nI (p + 1)) then 0 else 1 := by
    unfold Rw_isWrong
    rw [if_neg (nI_nle (by omega) (by omega)), nI_pred]
    rfl
  rw [e]
  by_cases h1 : Rw_markAt A (nI p) ≤ Rw_markAt A (nI (p + 1))
  · rw [if_pos h1, if_pos h1]
  · rw [if_neg h1, if_neg h1]
theorem s_countWrong (h : RI H A (M.2 ρ)) : ∃ v, Rw_wrongPairs A = some v ∧ Md_countWrong ρ M = some v := by
  have hl := h.sz.l
  have go : ∀ (n m i : Nat) (c : Int32), (A.2 7).length - i < n → (A.2 7).length - i < m → i ≤ (A.2 7).length → ∃ v, Rw_wrongPairs_L4 A n c (nI (i + 1)) = some v ∧ Md_countWrong_L4 ρ M m c (nI i) = some v := by
    intro n
    induction n with
    | zero => intro m i c h1; omega
    | succ n ih =>
      intro m i c h1 h2 h3
      cases m with
      | zero => omega
      | succ m =>
        unfold Rw_wrongPairs_L4 Md_countWrong_L4
        rw [tn6, h.rel.nl, nI_1]
        by_cases hi : (A.2 7).length ≤ i + 1
        · rw [if_pos ((q_le (by omega) (by omega)).mpr hi), if_pos ((q_le (by omega) (by omega)).mpr hi)]
          exact ⟨c, rfl, rfl⟩
        · have hn : ¬ nI (A.2 7).length ≤ nI (i + 1) := fun q => hi ((q_le (by omega) (by omega)).mp q)
          rw [if_neg hn, if_neg hn, m_isWrong h (by omega), bs, lu, lu, nI_1]
          by_cases hw : Rw_isWrong A (nI (i + 1)) = 0
          · rw [if_pos hw, if_pos hw, Int32.add_zero]
            exact ih m (i + 1) c (by omega) (by omega) (by omega)
          · rw [if_neg hw, if_neg hw]
            exact ih m (i + 1) (c + 1) (by omega) (by omega) (by omega)
  exact go FU FU 0 0 (FU_gt (by omega)) (FU_gt (by omega)) (Nat.zero_le _)
theorem s_firstWrong (h : RI H A (M.2 ρ)) : (Rw_firstWrong A = some (-1) ∧ Md_firstWrong ρ M = some (-1)) ∨ ∃ p, p + 1 < (A.2 7).length ∧ Rw_firstWrong A = some (nI (p + 1)) ∧ Md_firstWrong ρ M = some (nI p) := by
  have hl := h.sz.l
  have go : ∀ (n m i : Nat), (A.2 7).length - i < n → (A.2 7).length - i < m → i ≤ (A.2 7).length → (Rw_firstWrong_L2 A n (nI (i + 1)) = some (-1) ∧ Md_firstWrong_L2 ρ M m (nI i) = some (-1)) ∨ ∃ p, p + 1 < (A.2 7).length ∧ Rw_firstWrong_L2 A n (nI (i + 1)) = some (nI (p + 1)) ∧ Md_firstWrong_L2 ρ M m (nI i) = some (nI p) := by
    intro n
    induction n with
    | zero => intro m i h1; omega
    | succ n ih =>
      intro m i h1 h2 h3
      cases m with
      | zero => omega
      | succ m =>
        unfold Rw_firstWrong_L2 Md_firstWrong_L2
        rw [tn6, h.rel.nl, nI_1]
        by_cases hi : (A.2 7).length ≤ i + 1
        · rw [if_pos ((q_le (by omega) (by omega)).mpr hi), if_pos ((q_le (by omega) (by omega)).mpr hi)]
          exact Or.inl ⟨rfl, rfl⟩
        · have hn : ¬ nI (A.2 7).length ≤ nI (i + 1) := fun q => hi ((q_le (by omega) (by omega)).mp q)
          rw [if_neg hn, if_neg hn, m_isWrong h (by omega), bs, nI_1]
          by_cases hw : Rw_isWrong A (nI (i + 1)) = 0
          · rw [if_pos hw, if_pos hw]
            exact ih m (i + 1) (by omega) (by omega) (by omega)
          · rw [if_neg hw, if_neg hw]
            exact Or.inr ⟨i, by omega, rfl, rfl⟩
  exact go FU FU 0 (FU_gt (by omega)) (FU_gt (by omega)) (Nat.zero_le _)
theorem s_inversions (h : RI H A (M.2 ρ)) : ∃ v, Rw_pairsInWrongOrder A = some v ∧ Md_countInversions ρ M = some v := by
  have hl := h.sz.l
  have inner : ∀ (n m i j : Nat) (c : Int32), i - j < n → i - j < m → j ≤ i → i < (A.2 7).length → ∃ c', (∀ k, Rw_pairsInWrongOrder_L24 A k n c (nI i) (Rw_markAt A (nI i)) (nI j) = k c' (nI i) (Rw_markAt A (nI i)) (nI i)) ∧ ∀ k, Md_countInversions_L17 ρ M k m c (nI i) (nI j) = k c' (nI i) (nI i) := by
    intro n
    induction n with
    | zero => intro m i j c h1; omega
    | succ n ih =>
      intro m i j c h1 h2 h3 h4
      cases m with
      | zero => omega
      | succ m =>
        by_cases hj : j = i
        · subst hj
          refine ⟨c, fun k => ?_, fun k => ?_⟩
          · unfold Rw_pairsInWrongOrder_L24
            rw [if_pos (Int32.le_refl _)]
          · unfold Md_countInversions_L17
            rw [if_pos (Int32.le_refl _)]
        · have hn : ¬ nI i ≤ nI j := nI_ge (show j < i by omega) (by omega)
          by_cases hw : Rw_markAt A (nI j) ≤ Rw_markAt A (nI i)
          · obtain ⟨c', e1, e2⟩ := ih m i (j + 1) c (by omega) (by omega) (by omega) h4
            refine ⟨c', fun k => ?_, fun k => ?_⟩
            · unfold Rw_pairsInWrongOrder_L24
              rw [if_neg hn, if_pos hw, nI_1, e1]
            · unfold Md_countInversions_L17
              rw [if_neg hn, m_markAt h.w (by omega), bs, m_markAt h.w (by omega), bs, if_pos hw, lu, Int32.add_zero, nI_1, e2]
          · obtain ⟨c', e1, e2⟩ := ih m i (j + 1) (c + 1) (by omega) (by omega) (by omega) h4
            refine ⟨c', fun k => ?_, fun k => ?_⟩
            · unfold Rw_pairsInWrongOrder_L24
              rw [if_neg hn, if_neg hw, nI_1, e1]
            · unfold Md_countInversions_L17
              rw [if_neg hn, m_markAt h.w (by omega), bs, m_markAt h.w (by omega), bs, if_neg hw, lu, nI_1, e2]
  have outer : ∀ (n m i : Nat) (c : Int32), (A.2 7).length - i < n → (A.2 7).length - i < m → i ≤ (A.2 7).length → ∃ v, Rw_pairsInWrongOrder_L4 A n c (nI i) = some v ∧ Md_countInversions_L4 ρ M m c (nI i) = some v := by
    intro n
    induction n with
    | zero => intro m i c h1; omega
    | succ n ih =>
      intro m i c h1 h2 h3
      cases m with
      | zero => omega
      | succ m =>
        unfold Rw_pairsInWrongOrder_L4 Md_countInversions_L4
        rw [tn6, h.rel.nl]
        by_cases hi : (A.2 7).length ≤ i
        · rw [if_pos ((q_le (by omega) (by omega)).mpr hi), if_pos ((q_le (by omega) (by omega)).mpr hi)]
          exact ⟨c, rfl, rfl⟩
        · have hn : ¬ nI (A.2 7).length ≤ nI i := fun q => hi ((q_le (by omega) (by omega)).mp q)
          obtain ⟨c', e1, e2⟩ := inner FU FU i 0 c (FU_gt (by omega)) (FU_gt (by omega)) (Nat.zero_le _) (by omega)
          rw [if_neg hn, if_neg hn, lu]
          have e1' := e1 (fun v1_93 v2_94 v3_95 v4_96 => Rw_pairsInWrongOrder_L4 A n v1_93 (v2_94 + 1))
          have e2' := e2 (fun v1_385 v2_386 v3_387 => Md_countInversions_L4 ρ M m v1_385 (v2_386 + 1))
          rw [show nI 0 = (0 : Int32) from rfl] at e1' e2'
          rw [e1', e2', nI_1]
          exact ih m (i + 1) c' (by omega) (by omega) (by omega)
  by_cases h0 : (A.2 7).length = 0
  · refine ⟨0, ?_, ?_⟩
    · show Rw_pairsInWrongOrder_L4 A (999 + 1) 0 1 = _
      unfold Rw_pairsInWrongOrder_L4
      rw [h0, if_pos (by decide)]
    · show Md_countInversions_L4 ρ M (999 + 1) 0 0 = _
      unfold Md_countInversions_L4
      rw [tn6, h.rel.nl, h0, if_pos (by decide)]
  · obtain ⟨v, e1, e2⟩ := outer FU 999 1 0 (FU_gt (by omega)) (by omega) (by omega)
    refine ⟨v, e1, ?_⟩
    show Md_countInversions_L4 ρ M (999 + 1) 0 (nI 0) = _
    unfold Md_countInversions_L4
    obtain ⟨c', -, e3⟩ := inner FU FU 0 0 0 (FU_gt (by omega)) (FU_gt (by omega)) (Nat.zero_le _) (by omega)
    have e3' := e3 (fun v1_385 v2_386 v3_387 => Md_countInversions_L4 ρ M 999 v1_385 (v2_386 + 1))
    rw [tn6, h.rel.nl, if_neg (fun q => h0 (by have := (q_le (b := 0) (by omega) (by omega)).mp q; omega))]
    rw [show nI 0 = (0 : Int32) from rfl] at e3' ⊢
    have e4 : Md_countInversions_L17 ρ M (fun v1_385 v2_386 v3_387 => Md_countInversions_L4 ρ M 999 v1_385 (v2_386 + 1)) FU 0 0 0 = Md_countInversions_L4 ρ M 999 0 (0 + 1) := by
      show Md_countInversions_L17 ρ M _ (999 + 1) 0 0 0 = _
      unfold Md_countInversions_L17
      rw [if_pos (by decide)]
    rw [e4]
    exact e2
theorem s_orderPlace (h : RI H A (M.2 ρ)) {k : Nat} (hk : k < (A.2 0).length) (p0 : Nat) (hp0 : p0 < (A.2 7).length → Rw_markAt A (nI p0) = (A.2 0).getD k 0) : ∃ v, v + (if p0 < (A.2 7).length then 1 else 0) ≤ (A.2 7).length ∧ Rw_placeInOrder A ((A.2 0).getD k 0) = some (nI v) ∧ Md_orderPlace ρ M (nI k) = some (nI v) := by
  have hl := h.sz.l
  have hf := h.sz.f
  have go : ∀ (n i c : Nat), (A.2 7).length - i < n → c + (if p0 < i then 1 else 0) ≤ i → i ≤ (A.2 7).length → ∃ v, v + (if p0 < (A.2 7).length then 1 else 0) ≤ (A.2 7).length ∧ Rw_placeInOrder_L4 A n ((A.2 0).getD k 0) (nI c) (nI i) = some (nI v) ∧ Md_orderPlace_L4 ρ M n (nI k) (nI c) (nI i) = some (nI v) := by
    intro n
    induction n with
    | zero => intro i c h1; omega
    | succ n ih =>
      intro i c h1 h2 h3
      unfold Rw_placeInOrder_L4 Md_orderPlace_L4
      rw [tn6, h.rel.nl]
      by_cases hi : (A.2 7).length ≤ i
      · rw [if_pos ((q_le (by omega) (by omega)).mpr hi), if_pos ((q_le (by omega) (by omega)).mpr hi)]
        obtain rfl : i = (A.2 7).length := by omega
        exact ⟨c, h2, rfl, rfl⟩
      · have hn : ¬ nI (A.2 7).length ≤ nI i := fun q => hi ((q_le (by omega) (by omega)).mp q)
        rw [if_neg hn, if_neg hn, m_markAt h.w (by omega), bs, of0 (by omega), bs, h.rel.mk k hk, lu, lu, nI_1, Int32.add_zero, nI_1]
        by_cases hw : (A.2 0).getD k 0 ≤ Rw_markAt A (nI i)
        · rw [if_pos hw, if_pos hw]
          exact ih (i + 1) c (by omega) (by split at h2 <;> split <;> omega) (by omega)
        · rw [if_neg hw, if_neg hw]
          have hne : p0 ≠ i := fun q => hw (by rw [← hp0 (by omega), q]; exact Int32.le_refl _)
          exact ih (i + 1) (c + 1) (by omega) (by split at h2 <;> split <;> omega) (by omega)
  exact go FU 0 0 (FU_gt (by omega)) (by rw [if_neg (Nat.not_lt_zero _)]; exact Nat.le_refl _) (Nat.zero_le _)
theorem cnt_drop (xs : List Int32) (v : Int32) (i : Nat) (h : i < xs.length) : (xs.drop i).count v = (if xs.getD i 0 = v then 1 else 0) + (xs.drop (i + 1)).count v := by
  rw [drop_getD xs i h, List.count_cons]
  by_cases hv : xs.getD i 0 = v
  · simp [hv, Nat.add_comm]
  · simp [hv]
theorem m_foldersOf (h : RI H A (M.2 ρ)) {r : Nat} (hr : r < 100) : Md_foldersOf ρ M (nI r) = some (nI ((A.2 3).count (nI r))) := by
  have hf := h.sz.f
  have h2 := h.sz.e2
  have h3 := h.sz.e3
  have go : ∀ (n i c : Nat), (A.2 0).length - i < n → i ≤ (A.2 0).length → Md_foldersOf_L4 ρ M n (nI r) (nI c) (nI i) = some (nI (c + ((A.2 3).drop i).count (nI r))) := by
    intro n
    induction n with
    | zero => intro i c h1; omega
    | succ n ih =>
      intro i c h1 hi1
      unfold Md_foldersOf_L4 Md_isIn
      rw [tn5, h.rel.nf]
      by_cases hi : i = (A.2 0).length
      · rw [if_pos ((q_le (by omega) (by omega)).mpr (by omega)), hi, ← h3, List.drop_length, List.count_nil, Nat.add_zero]
      · rw [if_neg (fun q => hi (by have := (q_le (by omega) (by omega)).mp q; omega)), of2 (by omega), bs, h.rel.st i (by omega), cnt_drop _ _ i (by omega), lu, lu, lu, nI_1, Int32.add_zero, nI_1]
        rcases h.fd.2.2.2.2.2.2.1 i (by omega) with ⟨g1, g2⟩ | ⟨g1, -⟩
        · have g3 : ¬ (A.2 2).getD i 0 = 1 := by rcases g1 with q | q <;> rw [q] <;> decide
          rw [if_neg g3, bs, if_pos rfl, g2, if_neg (fun q => q_m1 (by omega) q.symm), Nat.zero_add]
          exact ih (i + 1) c (by omega) (by omega)
        · rw [if_pos g1, bs, if_neg (by decide), of3 (by omega), bs, h.rel.wi i (by omega) g1]
          by_cases hv : (A.2 3).getD i 0 = nI r
          · rw [if_pos hv, if_pos hv, ih (i + 1) (c + 1) (by omega) (by omega), Nat.add_assoc]
          · rw [if_neg hv, if_neg hv, ih (i + 1) c (by omega) (by omega), Nat.zero_add]
  have := go FU 0 0 (FU_gt (by omega)) (Nat.zero_le _)
  rwa [Nat.zero_add, List.drop_zero] at this
theorem m_countIn (h : RI H A (M.2 ρ)) (s : Int32) : Md_countIn ρ M s = some (lncnt (A.2 2) s) := by
  have hf := h.sz.f
  have h2 := h.sz.e2
  have go : ∀ (n i c : Nat), (A.2 0).length - i < n → i ≤ (A.2 0).length → Md_countIn_L4 ρ M n s (nI c) (nI i) = some (nI (c + ((A.2 2).drop i).count s)) := by
    intro n
    induction n with
    | zero => intro i c h1; omega
    | succ n ih =>
      intro i c h1 hi1
      unfold Md_countIn_L4 Md_isIn
      rw [tn5, h.rel.nf]
      by_cases hi : i = (A.2 0).length
      · rw [if_pos ((q_le (by omega) (by omega)).mpr (by omega)), hi, ← h2, List.drop_length, List.count_nil, Nat.add_zero]
      · rw [if_neg (fun q => hi (by have := (q_le (by omega) (by omega)).mp q; omega)), of2 (by omega), bs, h.rel.st i (by omega), cnt_drop _ _ i (by omega), lu, lu, nI_1, Int32.add_zero, nI_1]
        by_cases hv : (A.2 2).getD i 0 = s
        · rw [if_pos hv, if_pos hv, bs, if_neg (by decide), ih (i + 1) (c + 1) (by omega) (by omega), Nat.add_assoc]
        · rw [if_neg hv, if_neg hv, bs, if_pos rfl, ih (i + 1) c (by omega) (by omega), Nat.zero_add]
  have := go FU 0 0 (FU_gt (by omega)) (Nat.zero_le _)
  rwa [Nat.zero_add, List.drop_zero] at this
/-- slips with a number: a generic count over one of their four columns -/
theorem m_slipsWith (h : RI H A (M.2 ρ)) {w : Nat} (hw : w < 4) {xs : List Int32} (hx : xs.length = (A.2 11).length) (ha : Arr (M.2 ρ) (193 + w) 4 xs) (v : Int32) : Md_slipsWith ρ M (nI w) v = some (lncnt xs v) := by
  have hs := h.sz.s
  have go : ∀ (n i c : Nat), xs.length - i < n → i ≤ xs.length → Md_slipsWith_L5 ρ M n (nI w) v (nI c) (nI i) = some (nI (c + (xs.drop i).count v)) := by
    intro n
    induction n with
    | zero => intro i c h1; omega
    | succ n ih =>
      intro i c h1 hi1
      unfold Md_slipsWith_L5
      rw [tn8, h.rel.ns]
      by_cases hi : i = xs.length
      · rw [if_pos ((q_le (by omega) (by omega)).mpr (by omega)), hi, List.drop_length, List.count_nil, Nat.add_zero]
      · rw [if_neg (fun q => hi (by have := (q_le (by omega) (by omega)).mp q; omega)), e_os (by omega), bs, show 193 + 4 * i + w = 193 + w + 4 * i by omega, ha i (by omega), cnt_drop _ _ i (by omega), lu, lu, nI_1, Int32.add_zero, nI_1]
        by_cases hv : xs.getD i 0 = v
        · rw [if_pos hv, if_pos hv, ih (i + 1) (c + 1) (by omega) (by omega), Nat.add_assoc]
        · rw [if_neg hv, if_neg hv, ih (i + 1) c (by omega) (by omega), Nat.zero_add]
  have := go FU 0 0 (FU_gt (by omega)) (Nat.zero_le _)
  rwa [Nat.zero_add, List.drop_zero] at this
theorem m_timesIn {b : Nat} {xs : List Int32} (hb : b + xs.length ≤ 257) (ha : ∀ i, i < xs.length → M.2 ρ (b + i) = xs.getD i 0) (v : Int32) : Md_timesIn ρ M (nI b) (nI xs.length) v = some (lncnt xs v) := by
  have go : ∀ (n i c : Nat), xs.length - i < n → i ≤ xs.length → Md_timesIn_L6 ρ M n (nI b) (nI xs.length) v (nI c) (nI i) = some (nI (c + (xs.drop i).count v)) := by
    intro n
    induction n with
    | zero => intro i c h1; omega
    | succ n ih =>
      intro i c h1 hi1
      unfold Md_timesIn_L6
      by_cases hi : i = xs.length
      · rw [if_pos ((q_le (by omega) (by omega)).mpr (by omega)), hi, List.drop_length, List.count_nil, Nat.add_zero]
      · rw [if_neg (fun q => hi (by have := (q_le (by omega) (by omega)).mp q; omega)), nI_add, if_pos (q_in (by omega) (by omega)), q_cl (by omega), ha i (by omega), cnt_drop _ _ i (by omega), lu, lu, nI_1, Int32.add_zero, nI_1]
        by_cases hv : xs.getD i 0 = v
        · rw [if_pos hv, if_pos hv, ih (i + 1) (c + 1) (by omega) (by omega), Nat.add_assoc]
        · rw [if_neg hv, if_neg hv, ih (i + 1) c (by omega) (by omega), Nat.zero_add]
  have := go FU 0 0 (FU_gt (by omega)) (Nat.zero_le _)
  rwa [Nat.zero_add, List.drop_zero] at this
theorem s_slipOf (h : RI H A (M.2 ρ)) (r k : Int32) : (Sl_placeFor A r k = some (-1) ∧ Md_slipOf ρ M r k = some (-1)) ∨ ∃ s, s < (A.2 11).length ∧ Sl_placeFor A r k = some (nI s) ∧ Md_slipOf ρ M r k = some (nI s) := by
  have hs := h.sz.s
  have h12 := h.sz.e12
  have go : ∀ (n i : Nat), (A.2 11).length - i < n → i ≤ (A.2 11).length → (Sl_placeFor_L2 A n r k (nI i) = some (-1) ∧ Md_slipOf_L2 ρ M n r k (nI i) = some (-1)) ∨ ∃ s, s < (A.2 11).length ∧ Sl_placeFor_L2 A n r k (nI i) = some (nI s) ∧ Md_slipOf_L2 ρ M n r k (nI i) = some (nI s) := by
    intro n
    induction n with
    | zero => intro i h1; omega
    | succ n ih =>
      intro i h1 hi1
      unfold Sl_placeFor_L2 Md_slipOf_L2
      rw [tn8, h.rel.ns]
      by_cases hi : (A.2 11).length ≤ i
      · rw [if_pos ((q_le (by omega) (by omega)).mpr hi), if_pos ((q_le (by omega) (by omega)).mpr hi)]
        exact Or.inl ⟨rfl, rfl⟩
      · have hn : ¬ nI (A.2 11).length ≤ nI i := fun q => hi ((q_le (by omega) (by omega)).mp q)
        rw [if_neg hn, if_neg hn, os0 (by omega), bs, h.rel.s0 i (by omega), lg_in (by omega) (by omega), os1 (by omega), bs, h.rel.s1 i (by omega), lg_in (by omega) (by omega), nI_1]
        by_cases g1 : (A.2 11).getD i 0 = r
        · rw [if_pos g1, if_pos g1]
          by_cases g2 : (A.2 12).getD i 0 = k
          · rw [if_pos g2, if_pos g2]
            exact Or.inr ⟨i, by omega, rfl, rfl⟩
          · rw [if_neg g2, if_neg g2]
            exact ih (i + 1) (by omega) (by omega)
        · rw [if_neg g1, if_neg g1]
          exact ih (i + 1) (by omega) (by omega)
  exact go FU 0 (FU_gt (by omega)) (Nat.zero_le _)
theorem m_isClosed (h : RI H A (M.2 ρ)) {k : Nat} (hk : k < (A.2 0).length) : Md_isClosed ρ M (nI k) = some (St_isClosed A (nI k)) := by
  have hf := h.sz.f
  have h1 := h.sz.e1
  unfold Md_isClosed St_isClosed
  rw [of1 (by omega), bs, h.rel.em k (by omega), tn0, h.rel.day, lg_in (by omega) (by omega)]
  by_cases g : (A.2 1).getD k 0 ≤ A.1 0
  · rw [if_pos g, if_pos g]
  · rw [if_neg g, if_neg g]
theorem m_idleness (h : RI H A (M.2 ρ)) {s : Nat} (hs : s < (A.2 11).length) : Md_idleness ρ M (nI s) = some (St_idleness A (nI s)) := by
  have hs1 := h.sz.s
  have h12 := h.sz.e12
  have hf := h.sz.f
  have h2 := h.sz.e2
  have hr := h.sz.r
  obtain ⟨⟨r, hr1, er⟩, k, hk, ek⟩ := h.sp s hs
  unfold Md_idleness St_idleness Md_isIn
  rw [os1 (by omega), bs, h.rel.s1 s (by omega), ek, of2 (by omega), bs, h.rel.st k (by omega), lg_in (by omega) (by omega), ek, lu, lg_in (by omega) (by omega), lu, m_isClosed h hk, os0 (by omega), h.rel.s0 s (by omega), er, lg_in (by omega) (by omega), er, lg_in (by omega) (by omega), h.fd.2.2.2.2.2.2.2 r hr1]
  rcases h.fd.2.2.2.2.2.2.1 k hk with ⟨g1 | g1, -⟩ | ⟨g1, -⟩
  · rw [g1, if_pos rfl, bs, if_neg (by decide), if_neg (by decide), if_neg (by decide), bs, bs, m_foldersOf h (by omega), bs, tn4, h.rel.lim]
    by_cases g2 : St_isClosed A (nI k) = 0
    · rw [if_pos g2, if_pos g2]
      by_cases g3 : nI ((A.2 3).count (nI r)) < A.1 3
      · rw [if_pos g3, if_pos g3]
      · rw [if_neg g3, if_neg g3]
    · rw [if_neg g2, if_neg g2]
  · rw [g1, if_neg (by decide), bs, if_pos rfl, if_neg (by decide), bs, if_pos rfl, if_neg (by decide), if_pos rfl]
  · rw [g1, if_neg (by decide), bs, if_pos rfl, if_pos rfl, bs, if_neg (by decide), if_pos rfl]
theorem m_daysToRefiling (h : RI H A (M.2 ρ)) : Md_daysToRefiling ρ M = some (St_daysToRefiling A) := by
  unfold Md_daysToRefiling St_daysToRefiling
  rw [tn1, tn0, h.rel.per, h.rel.day, if_neg h.per, if_pos (fun q => h.per (by rw [q]; decide))]
theorem s_refusal (h : RI H A (M.2 ρ)) {r k : Nat} (hr : r < (A.2 5).length) (hk : k < (A.2 0).length) : ∃ v, St_refusal A (nI r) (nI k) = some v ∧ Md_refusal ρ M (nI r) (nI k) = some v := by
  have hf := h.sz.f
  have hrr := h.sz.r
  have h2 := h.sz.e2
  have h3 := h.sz.e3
  have hs := h.sz.s
  unfold St_refusal Md_refusal Md_isIn St_hasReader St_hasFolder Sl_count
  rw [if_neg (q_neg (by omega)), if_neg (nI_ge hr (by omega)), if_neg (by decide), if_neg (q_neg (by omega)), if_neg (nI_ge hk (by omega)), if_neg (by decide), lg_in (by omega) (by omega), of2 (by omega), bs, h.rel.st k (by omega), of3 (by omega), tn8, h.rel.ns]
  have tail : ∃ v, (Option.bind (Sl_placeFor A (nI r) (nI k)) fun q_196 => if q_196 = (-1) then (if nI (A.2 11).length < 16 then (some (0)) else (some ((-4)))) else (some ((-3 : Int32)))) = some v ∧ (Option.bind (Md_slipOf ρ M (nI r) (nI k)) fun q_732 => if q_732 = (-1) then (if nI (A.2 11).length = 16 then (some ((-4))) else (some (0))) else (some ((-3)))) = some v := by
    rcases s_slipOf h (nI r) (nI k) with ⟨e1, e2⟩ | ⟨s, hs1, e1, e2⟩
    · rw [e1, e2, bs, bs, if_pos rfl, if_pos rfl]
      by_cases g : (A.2 11).length = 16
      · rw [g, if_neg (by decide), if_pos (by decide)]
        exact ⟨_, rfl, rfl⟩
      · rw [if_pos (show nI (A.2 11).length < nI 16 from nI_lt (by omega) (by omega)), if_neg (fun q => g ((q_eq (b := 16) (by omega) (by omega)).mp q))]
        exact ⟨_, rfl, rfl⟩
    · rw [e1, e2, bs, bs, if_neg (q_m1 (by omega)), if_neg (q_m1 (by omega))]
      exact ⟨_, rfl, rfl⟩
  rcases h.fd.2.2.2.2.2.2.1 k hk with ⟨g1, g2⟩ | ⟨g1, -⟩
  · have g3 : ¬ (A.2 2).getD k 0 = 1 := by rcases g1 with q | q <;> rw [q] <;> decide
    rw [if_neg g3, bs, if_pos rfl, g2, if_neg (fun q => q_m1 (by omega) q.symm)]
    exact tail
  · rw [if_pos g1, bs, if_neg (by decide), bs, h.rel.wi k (by omega) g1]
    by_cases g4 : (A.2 3).getD k 0 = nI r
    · rw [if_pos g4, if_pos g4]
      exact ⟨_, rfl, rfl⟩
    · rw [if_neg g4, if_neg g4]
      exact tail
end RO
/-! read-only questions, third part -/
/-- what the reference's other cells keep -/
def Sm (ρ : Nat) (M M' : MdM) : Prop := (∀ k, k ≠ 11 → k ≠ 12 → M'.1 k = M.1 k) ∧ ∀ j, j ≠ ρ → j ≠ 7 → j ≠ 8 → M'.2 j = M.2 j
theorem Sm.rf (ρ : Nat) (M : MdM) : Sm ρ M M := ⟨fun _ _ _ => rfl, fun _ _ _ _ => rfl⟩
theorem Sm.tr {ρ : Nat} {M M' M'' : MdM} (h : Sm ρ M M') (h' : Sm ρ M' M'') : Sm ρ M M'' := ⟨fun k a b => (h'.1 k a b).trans (h.1 k a b), fun j a b c => (h'.2 j a b c).trans (h.2 j a b c)⟩
theorem Sm.setA (ρ : Nat) (M : MdM) (g : Nat → Int32) : Sm ρ M (setA M ρ g) := ⟨fun _ _ _ => rfl, fun j a _ _ => setA_n _ _ a⟩
section RO
variable {H : Int32} {A : StM} {ρ : Nat} {M : MdM} {f : Nat → Int32}
theorem HQ.sm {M' : MdM} {x r : Int32} {L : List Int32} (h : HQ A M M' x r L) : Sm ρ M M' := ⟨fun k b c => h.1 k b c, fun j _ b _ => h.2.1 j b⟩
theorem s_missed (h : RI H A (M.2 ρ)) (hρ : ρ ≠ 7) : ∃ v L M', Rw_missedByHalving A = some (nI v, setL A 8 L) ∧ Md_countMissed ρ M = some (nI v, M') ∧ v ≤ (A.2 7).length ∧ Sm ρ M M' ∧ M'.2 ρ = M.2 ρ := by
  have hl := h.sz.l
  have go : ∀ (n i c : Nat) (L : List Int32) (M1 : MdM), (A.2 7).length - i < n → i ≤ (A.2 7).length → c ≤ i → Sm ρ M M1 → M1.2 ρ = M.2 ρ → ∃ v L' M', Rw_missedByHalving_L4 n (setL A 8 L) (nI c) (nI i) = some (nI v, setL A 8 L') ∧ Md_countMissed_L4 ρ n M1 (nI c) (nI i) = some (nI v, M') ∧ v ≤ (A.2 7).length ∧ Sm ρ M M' ∧ M'.2 ρ = M.2 ρ := by
    intro n
    induction n with
    | zero => intro i c L M1 h1; omega
    | succ n ih =>
      intro i c L M1 h1 h2 h2' h3 h4
      have hR : RI H (setL A 8 L) (M1.2 ρ) := by rw [h4]; exact h
      unfold Rw_missedByHalving_L4 Md_countMissed_L4
      rw [tn6, hR.rel.nl, show (setL A 8 L).2 7 = A.2 7 from rfl]
      by_cases hi : (A.2 7).length ≤ i
      · rw [if_pos ((q_le (by omega) (by omega)).mpr hi), if_pos ((q_le (by omega) (by omega)).mpr hi)]
        exact ⟨c, L, M1, rfl, rfl, by omega, h3, h4⟩
      · have hn : ¬ nI (A.2 7).length ≤ nI i := fun q => hi ((q_le (by omega) (by omega)).mp q)
        have hi' : i < (A.2 7).length := by omega
        rw [if_neg hn, if_neg hn, m_markAt hR.w hi', bs]
        obtain ⟨r, L2, M2, e1, e2, e3⟩ := s_halve hR.w hρ (Rw_markAt (setL A 8 L) (nI i))
        rw [setL_L] at e1
        rw [e1, e2, bs, bs, lu, lu, nI_1, nI_1]
        have e4 : Sm ρ M M2 := h3.tr e3.sm
        have e5 : M2.2 ρ = M.2 ρ := (e3.2.1 ρ hρ).trans h4
        rcases e3.2.2.2.2.2.2.1 with ⟨rfl, -⟩ | ⟨p, hp, rfl, hp2, -⟩
        · rw [if_pos rfl, if_neg (fun q => q_m1 (by omega) q.symm)]
          exact ih (i + 1) (c + 1) L2 M2 (by omega) (by omega) (by omega) e4 e5
        · have hpi : p = i := markAt_inj h hp hi' hp2
          rw [if_neg (q_m1 (by have : p < (A.2 7).length := hp; omega)), if_pos (by rw [hpi]), Int32.add_zero]
          exact ih (i + 1) c L2 M2 (by omega) (by omega) (by omega) e4 e5
  have h8 : setL A 8 (A.2 8) = A := Prod.ext rfl (funext fun j => by by_cases q : j = 8 <;> simp [setL, va_up, q])
  have := go FU 0 0 (A.2 8) M (FU_gt (by omega)) (Nat.zero_le _) (Nat.le_refl _) (Sm.rf _ _) rfl
  rw [h8] at this
  exact this
theorem s_gap (h : RI H A (M.2 ρ)) : ∃ a b c : Nat, St_foldersAstray A = some (nI a) ∧ St_readersAboveLimit A = some (nI b) ∧ St_slipsForOwnFolders A = some (nI c) ∧ Md_gap ρ M = some (nI (a + b + c), setF M 9 0) := by
  have hf := h.sz.f
  have hr := h.sz.r
  have hs := h.sz.s
  have hl := h.sz.l
  have ht := h.sz.t
  have h2 := h.sz.e2
  have h3 := h.sz.e3
  have h12 := h.sz.e12
  have h' : RI H A ((setF M 9 0).2 ρ) := h
  generalize setF M 9 0 = M at h'
  have g3 : ∀ (n i : Nat), (A.2 11).length - i < n → i ≤ (A.2 11).length → ∃ x, ∀ c c', St_slipsForOwnFolders_L4 A n (nI c') (nI i) = some (nI (c' + x)) ∧ Md_gap_L127 ρ n M (nI c) (nI i) = some (nI (c + x), M) := by
    intro n
    induction n with
    | zero => intro i h1; omega
    | succ n ih =>
      intro i h1 hi1
      by_cases hi : (A.2 11).length ≤ i
      · refine ⟨0, fun c c' => ?_⟩
        unfold St_slipsForOwnFolders_L4 Md_gap_L127 Sl_count
        rw [tn8, h'.rel.ns, if_pos ((q_le (by omega) (by omega)).mpr hi), if_pos ((q_le (by omega) (by omega)).mpr hi)]
        exact ⟨rfl, rfl⟩
      · have hn : ¬ nI (A.2 11).length ≤ nI i := fun q => hi ((q_le (by omega) (by omega)).mp q)
        obtain ⟨⟨r, hr1, er⟩, k, hk, ek⟩ := h'.sp i (by omega)
        obtain ⟨x, hx⟩ := ih (i + 1) (by omega) (by omega)
        refine ⟨if (A.2 3).getD k 0 = nI r then 1 + x else x, fun c c' => ?_⟩
        unfold St_slipsForOwnFolders_L4 Md_gap_L127 Sl_count Md_isIn
        rw [tn8, h'.rel.ns, if_neg hn, if_neg hn, os1 (by omega), bs, h'.rel.s1 i (by omega), ek, of2 (by omega), bs, h'.rel.st k (by omega), of3 (by omega), os0 (by omega), h'.rel.s0 i (by omega), er, lg_in (by omega) (by omega), ek, lg_in (by omega) (by omega), lg_in (by omega) (by omega), er, lu, lu, lu, nI_1, nI_1, nI_1, Int32.add_zero]
        rcases h'.fd.2.2.2.2.2.2.1 k hk with ⟨g1, g2⟩ | ⟨g1, -⟩
        · have g3 : ¬ (A.2 2).getD k 0 = 1 := by rcases g1 with q | q <;> rw [q] <;> decide
          have g4 : ¬ (A.2 3).getD k 0 = nI r := fun q => q_m1 (a := r) (by omega) (by rw [← q, g2])
          rw [if_neg g3, bs, if_pos rfl, if_neg g4, if_neg g4]
          exact ⟨(hx c c').1, (hx c c').2⟩
        · rw [if_pos g1, bs, if_neg (by decide), bs, h'.rel.wi k (by omega) g1, bs]
          by_cases g4 : (A.2 3).getD k 0 = nI r
          · rw [if_pos g4, if_pos g4, if_pos g4]
            have := hx (c + 1) (c' + 1)
            rw [Nat.add_assoc, Nat.add_assoc] at this
            exact this
          · rw [if_neg g4, if_neg g4, if_neg g4]
            exact hx c c'
  have g2 : ∀ (n i : Nat), (A.2 5).length - i < n → i ≤ (A.2 5).length → ∃ x y, St_slipsForOwnFolders A = some (nI y) ∧ ∀ c c', St_readersAboveLimit_L4 A n (nI c') (nI i) = some (nI (c' + x)) ∧ Md_gap_L87 ρ n M (nI c) (nI i) = some (nI (c + x + y), M) := by
    intro n
    induction n with
    | zero => intro i h1; omega
    | succ n ih =>
      intro i h1 hi1
      by_cases hi : (A.2 5).length ≤ i
      · obtain ⟨y, hy⟩ := g3 FU 0 (FU_gt (by omega)) (Nat.zero_le _)
        refine ⟨0, y, (hy 0 0).1.trans (by rw [Nat.zero_add]), fun c c' => ?_⟩
        unfold St_readersAboveLimit_L4 Md_gap_L87
        rw [tn3, h'.rel.nr, if_pos ((q_le (by omega) (by omega)).mpr hi), if_pos ((q_le (by omega) (by omega)).mpr hi)]
        exact ⟨rfl, (hy c 0).2⟩
      · have hn : ¬ nI (A.2 5).length ≤ nI i := fun q => hi ((q_le (by omega) (by omega)).mp q)
        obtain ⟨x, y, hy, hx⟩ := ih (i + 1) (by omega) (by omega)
        refine ⟨if nI ((A.2 3).count (nI i)) ≤ A.1 3 then x else 1 + x, y, hy, fun c c' => ?_⟩
        unfold St_readersAboveLimit_L4 Md_gap_L87 lncnt
        rw [tn3, h'.rel.nr, if_neg hn, if_neg hn, m_foldersOf h' (by omega), bs, tn4, h'.rel.lim, lu, lu, nI_1, nI_1, nI_1, Int32.add_zero]
        by_cases g : nI ((A.2 3).count (nI i)) ≤ A.1 3
        · rw [if_pos g, if_pos g, if_pos g]
          exact hx c c'
        · rw [if_neg g, if_neg g, if_neg g]
          have := hx (c + 1) (c' + 1)
          rw [Nat.add_assoc, Nat.add_assoc c] at this
          exact this
  have g1 : ∀ (n i : Nat), (A.2 0).length - i < n → i ≤ (A.2 0).length → ∃ x z y, St_slipsForOwnFolders A = some (nI y) ∧ St_readersAboveLimit A = some (nI z) ∧ ∀ c c', St_foldersAstray_L4 A n (nI c') (nI i) = some (nI (c' + x)) ∧ Md_gap_L9 ρ n M (nI c) (nI i) = some (nI (c + x + z + y), M) := by
    intro n
    induction n with
    | zero => intro i h1; omega
    | succ n ih =>
      intro i h1 hi1
      by_cases hi : (A.2 0).length ≤ i
      · obtain ⟨z, y, hy, hz⟩ := g2 FU 0 (FU_gt (by omega)) (Nat.zero_le _)
        refine ⟨0, z, y, hy, (hz 0 0).1.trans (by rw [Nat.zero_add]), fun c c' => ?_⟩
        unfold St_foldersAstray_L4 Md_gap_L9
        rw [tn5, h'.rel.nf, if_pos ((q_le (by omega) (by omega)).mpr hi), if_pos ((q_le (by omega) (by omega)).mpr hi)]
        exact ⟨rfl, (hz c 0).2⟩
      · have hn : ¬ nI (A.2 0).length ≤ nI i := fun q => hi ((q_le (by omega) (by omega)).mp q)
        obtain ⟨x, z, y, hy, hz, hx⟩ := ih (i + 1) (by omega) (by omega)
        have e1 : Md_timesIn ρ M 145 (nI (A.2 7).length) (nI i) = some (lncnt (A.2 7) (nI i)) := m_timesIn (b := 145) (by omega) (fun p hp => h'.row hp) (nI i)
        have e2 : Md_timesIn ρ M 169 (nI (A.2 10).length) (nI i) = some (lncnt (A.2 10) (nI i)) := m_timesIn (b := 169) (by omega) (fun p hp => h'.trol hp) (nI i)
        have key : ∀ P : Prop, ∀ [Decidable P], ∃ x', ∀ c c', (if P then St_foldersAstray_L4 A n (nI c') (nI (i + 1)) else St_foldersAstray_L4 A n (nI (c' + 1)) (nI (i + 1))) = some (nI (c' + x')) ∧ (if P then Md_gap_L9 ρ n M (nI c) (nI (i + 1)) else Md_gap_L9 ρ n M (nI (c + 1)) (nI (i + 1))) = some (nI (c + x' + z + y), M) := by
          intro P _
          by_cases hP : P
          · refine ⟨x, fun c c' => ?_⟩
            rw [if_pos hP, if_pos hP]
            exact hx c c'
          · refine ⟨1 + x, fun c c' => ?_⟩
            rw [if_neg hP, if_neg hP]
            have := hx (c + 1) (c' + 1)
            rw [Nat.add_assoc, Nat.add_assoc c] at this
            exact this
        rcases h'.fd.2.2.2.2.2.2.1 i (by omega) with ⟨q1, q2⟩ | ⟨q1, r, hr1, q2⟩
        · have q3 : ¬ (A.2 2).getD i 0 = 1 := by rcases q1 with q | q <;> rw [q] <;> decide
          obtain ⟨x', hx'⟩ := key (lncnt (A.2 7) (nI i) + lncnt (A.2 10) (nI i) = 1)
          refine ⟨x', z, y, hy, hz, fun c c' => ?_⟩
          unfold St_foldersAstray_L4 Md_gap_L9 Md_isIn
          rw [tn5, tn6, tn7, h'.rel.nf, h'.rel.nl, h'.rel.nt, if_neg hn, if_neg hn, e1, bs, e2, bs, of2 (by omega), bs, h'.rel.st i (by omega), if_neg q3, bs, if_pos rfl, lg_in (by omega) (by omega), q2, if_pos rfl, lu, lu, lu, lu, Int32.add_zero, Int32.add_zero, nI_1, nI_1, nI_1]
          exact hx' c c'
        · obtain ⟨x', hx'⟩ := key (lncnt (A.2 7) (nI i) + lncnt (A.2 10) (nI i) + 1 = 1)
          refine ⟨x', z, y, hy, hz, fun c c' => ?_⟩
          unfold St_foldersAstray_L4 Md_gap_L9 Md_isIn
          rw [tn5, tn6, tn7, h'.rel.nf, h'.rel.nl, h'.rel.nt, if_neg hn, if_neg hn, e1, bs, e2, bs, of2 (by omega), bs, h'.rel.st i (by omega), if_pos q1, bs, if_neg (by decide), lg_in (by omega) (by omega), q2, if_neg (q_m1 (by omega)), lu, lu, lu, lu, Int32.add_zero, nI_1, nI_1, nI_1]
          exact hx' c c'
  obtain ⟨x, z, y, hy, hz, hx⟩ := g1 FU 0 (FU_gt (by omega)) (Nat.zero_le _)
  refine ⟨x, z, y, (hx 0 0).1.trans (by rw [Nat.zero_add]), hz, hy, (hx 0 0).2.trans (by rw [Nat.zero_add])⟩
theorem s_longest (h : RI H A (M.2 ρ)) (hρ : ρ ≠ 8) : ∃ v R M', Rw_longestRun A = some (v, setL A 9 R) ∧ Md_longestOrdered ρ M = some (v, M') ∧ Sm ρ (setF M 9 0) M' ∧ M'.2 ρ = M.2 ρ := by
  have hl := h.sz.l
  have inner : ∀ (n m i j a : Nat) (R : List Int32) (c c' : Int32) (M1 : MdM), i - j < n → i - j < m → j ≤ i → i < (A.2 7).length → R.length = i → (∀ p, p < i → ∃ b, b ≤ p + 1 ∧ R.getD p 0 = nI b) → a ≤ i → RI H A (M1.2 ρ) → (∀ p, p < i → M1.2 8 p = R.getD p 0) → M1.2 8 i = nI (a + 1) →
      ∃ a' M', a' ≤ i ∧ (∀ k, Rw_longestRun_L27 k n (setL A 9 R) c (nI i) (nI a) (nI j) = k (setL A 9 R) c (nI i) (nI a') (nI i)) ∧ (∀ k, Md_longestOrdered_L29 ρ k m M1 c' (nI i) (nI j) = k M' c' (nI i) (nI i)) ∧ M'.1 = M1.1 ∧ (∀ q, q ≠ 8 → M'.2 q = M1.2 q) ∧ (∀ p, p < i → M'.2 8 p = R.getD p 0) ∧ M'.2 8 i = nI (a' + 1) := by
    intro n
    induction n with
    | zero => intro m i j a R c c' M1 h1; omega
    | succ n ih =>
      intro m i j a R c c' M1 h1 h2 h3 h4 h5 h6 h7 h8 h9 h10
      cases m with
      | zero => omega
      | succ m =>
        by_cases hj : j = i
        · subst hj
          refine ⟨a, M1, h7, fun k => ?_, fun k => ?_, rfl, fun _ _ => rfl, h9, h10⟩
          · unfold Rw_longestRun_L27
            rw [if_pos (Int32.le_refl _)]
          · unfold Md_longestOrdered_L29
            rw [if_pos (Int32.le_refl _)]
        · have hn : ¬ nI i ≤ nI j := nI_ge (show j < i by omega) (by omega)
          have hi24 : inB (nI i) 24 := q_in (by omega) (by omega)
          have hj24 : inB (nI j) 24 := q_in (by omega) (by omega)
          have same : setA M1 8 (upd (M1.2 8) i (M1.2 8 i)) = M1 := Prod.ext rfl (funext fun q => by
            by_cases h : q = 8
            · subst h
              refine (setA_s _ _ _).trans (funext fun p => ?_)
              by_cases hp : p = i
              · rw [hp]; exact if_pos rfl
              · exact if_neg hp
            · exact setA_n _ _ h)
          obtain ⟨b, hb, eb⟩ := h6 j (by omega)
          by_cases hw : Rw_markAt A (nI i) ≤ Rw_markAt A (nI j)
          · obtain ⟨a', M', k1, k2, k3, k4⟩ := ih m i (j + 1) a R c c' M1 (by omega) (by omega) (by omega) h4 h5 h6 h7 h8 h9 h10
            refine ⟨a', M', k1, fun k => ?_, fun k => ?_, k4⟩
            · unfold Rw_longestRun_L27
              rw [if_neg hn, if_pos (show Rw_markAt (setL A 9 R) (nI i) ≤ Rw_markAt (setL A 9 R) (nI j) from hw), nI_1, k2]
            · unfold Md_longestOrdered_L29
              rw [if_neg hn, m_markAt h8.w (by omega), bs, m_markAt h8.w (by omega), bs, if_pos hw, if_pos hi24, if_pos hi24, q_cl (by omega), same, nI_1, k3]
          · by_cases hab : b ≤ a
            · obtain ⟨a', M', k1, k2, k3, k4⟩ := ih m i (j + 1) a R c c' M1 (by omega) (by omega) (by omega) h4 h5 h6 h7 h8 h9 h10
              refine ⟨a', M', k1, fun k => ?_, fun k => ?_, k4⟩
              · unfold Rw_longestRun_L27
                rw [if_neg hn, if_neg (show ¬ Rw_markAt (setL A 9 R) (nI i) ≤ Rw_markAt (setL A 9 R) (nI j) from hw), setL_s, lg_in (by omega) (by omega), eb, if_neg (nI_nlt hab (by omega)), lu, nI_1, k2]
              · unfold Md_longestOrdered_L29
                rw [if_neg hn, m_markAt h8.w (by omega), bs, m_markAt h8.w (by omega), bs, if_neg hw, if_pos hj24, if_pos hi24, q_cl (by omega), q_cl (by omega), h9 j (by omega), eb, h10, if_pos (nI_lt (by omega) (by omega)), if_pos hi24, if_pos hi24, ← h10, same, nI_1, k3]
            · have hM2 : ∀ M2 : MdM, M2 = setA M1 8 (upd (M1.2 8) i (nI (b + 1))) → RI H A (M2.2 ρ) ∧ (∀ p, p < i → M2.2 8 p = R.getD p 0) ∧ M2.2 8 i = nI (b + 1) := by
                intro M2 e
                subst e
                refine ⟨by rw [setA_n _ _ hρ]; exact h8, fun p hp => ?_, ?_⟩
                · rw [setA_s, ← h9 p hp]; exact if_neg (by omega)
                · rw [setA_s]; exact if_pos rfl
              obtain ⟨q1, q2, q3⟩ := hM2 _ rfl
              obtain ⟨a', M', k1, k2, k3, k4, k5, k6, k7⟩ := ih m i (j + 1) b R c c' _ (by omega) (by omega) (by omega) h4 h5 h6 (by omega) q1 q2 q3
              refine ⟨a', M', k1, fun k => ?_, fun k => ?_, k4.trans rfl, fun q hq => (k5 q hq).trans (setA_n _ _ hq), k6, k7⟩
              · unfold Rw_longestRun_L27
                rw [if_neg hn, if_neg (show ¬ Rw_markAt (setL A 9 R) (nI i) ≤ Rw_markAt (setL A 9 R) (nI j) from hw), setL_s, lg_in (by omega) (by omega), eb, if_pos (nI_lt (by omega) (by omega)), lu, nI_1, k2]
              · unfold Md_longestOrdered_L29
                rw [if_neg hn, m_markAt h8.w (by omega), bs, m_markAt h8.w (by omega), bs, if_neg hw, if_pos hj24, if_pos hi24, q_cl (by omega), q_cl (by omega), h9 j (by omega), eb, h10, if_neg (nI_nlt (by omega) (by omega)), if_pos hj24, if_pos hi24, nI_1, nI_1, k3]
  have outer : ∀ (n i c : Nat) (R : List Int32) (M1 : MdM), (A.2 7).length - i < n → i ≤ (A.2 7).length → c ≤ i → R.length = i → (∀ p, p < i → ∃ b, b ≤ p + 1 ∧ R.getD p 0 = nI b) → M1.2 ρ = M.2 ρ → Sm ρ (setF M 9 0) M1 → (∀ p, p < i → M1.2 8 p = R.getD p 0) →
      ∃ v R' M', Rw_longestRun_L11 n (setL A 9 R) (nI c) (nI i) = some (v, setL A 9 R') ∧ Md_longestOrdered_L9 ρ n M1 (nI c) (nI i) = some (v, M') ∧ Sm ρ (setF M 9 0) M' ∧ M'.2 ρ = M.2 ρ := by
    intro n
    induction n with
    | zero => intro i c R M1 h1; omega
    | succ n ih =>
      intro i c R M1 h1 h2 h3 h4 h5 h6 h7 h8
      have hR : RI H A (M1.2 ρ) := by rw [h6]; exact h
      unfold Rw_longestRun_L11 Md_longestOrdered_L9
      rw [tn6, hR.rel.nl, show (setL A 9 R).2 7 = A.2 7 from rfl]
      by_cases hi : (A.2 7).length ≤ i
      · rw [if_pos ((q_le (by omega) (by omega)).mpr hi), if_pos ((q_le (by omega) (by omega)).mpr hi)]
        exact ⟨nI c, R, M1, rfl, rfl, h7, h6⟩
      · have hn : ¬ nI (A.2 7).length ≤ nI i := fun q => hi ((q_le (by omega) (by omega)).mp q)
        have hi24 : inB (nI i) 24 := q_in (by omega) (by omega)
        rw [if_neg hn, if_neg hn, if_pos hi24, q_cl (by omega)]
        have g1 : RI H A ((setA M1 8 (upd (M1.2 8) i 1)).2 ρ) := by rw [setA_n _ _ hρ]; exact hR
        have g2 : ∀ p, p < i → (setA M1 8 (upd (M1.2 8) i 1)).2 8 p = R.getD p 0 := fun p hp => by
          rw [setA_s, ← h8 p hp]; exact if_neg (by omega)
        have g3 : (setA M1 8 (upd (M1.2 8) i 1)).2 8 i = nI (0 + 1) := by rw [setA_s]; exact if_pos rfl
        obtain ⟨a', M', k1, k2, k3, k4, k5, k6, k7⟩ := inner FU FU i 0 0 R (nI c) (nI c) _ (FU_gt (by omega)) (FU_gt (by omega)) (Nat.zero_le _) (by omega) h4 h5 (Nat.zero_le _) g1 g2 g3
        rw [show nI 0 = (0 : Int32) from rfl] at k2 k3
        rw [k2, k3, if_pos hi24, if_pos hi24, q_cl (by omega), k7, lu, lu, setL_s, setL_L, la_in _ (by omega), nI_1, nI_1]
        have m1 : M'.2 ρ = M.2 ρ := (k5 ρ hρ).trans ((setA_n _ _ hρ).trans h6)
        have m2 : Sm ρ (setF M 9 0) M' := h7.tr ⟨fun k _ _ => by rw [k4]; rfl, fun j _ _ b => by rw [k5 j b]; exact setA_n _ _ b⟩
        have m3 : (R ++ [nI (a' + 1)]).length = i + 1 := by rw [List.length_append, List.length_singleton, h4]
        have m4 : ∀ p, p < i + 1 → ∃ b, b ≤ p + 1 ∧ (R ++ [nI (a' + 1)]).getD p 0 = nI b := fun p hp => by
          rw [gd_app1 p (by omega)]
          by_cases hq : p = R.length
          · rw [if_pos hq]; exact ⟨a' + 1, by omega, rfl⟩
          · rw [if_neg hq]; exact h5 p (by omega)
        have m5 : ∀ p, p < i + 1 → M'.2 8 p = (R ++ [nI (a' + 1)]).getD p 0 := fun p hp => by
          rw [gd_app1 p (by omega)]
          by_cases hq : p = R.length
          · rw [if_pos hq, hq, h4]; exact k7
          · rw [if_neg hq]; exact k6 p (by omega)
        by_cases hc : a' + 1 ≤ c
        · rw [if_neg (nI_nlt hc (by omega)), if_pos ((q_le (by omega) (by omega)).mpr hc)]
          exact ih (i + 1) c _ M' (by omega) (by omega) (by omega) m3 m4 m1 m2 m5
        · rw [if_pos (nI_lt (by omega) (by omega)), if_neg (fun q => hc ((q_le (by omega) (by omega)).mp q))]
          exact ih (i + 1) (a' + 1) _ M' (by omega) (by omega) (by omega) m3 m4 m1 m2 m5
  exact outer FU 0 0 [] (setF M 9 0) (FU_gt (by omega)) (Nat.zero_le _) (Nat.le_refl _) rfl (fun p hp => absurd hp (Nat.not_lt_zero p)) rfl (Sm.rf _ _) (fun p hp => absurd hp (Nat.not_lt_zero p))
end RO
/-! the relation where one region of the numbers changes -/
theorem Rel.onrow {H : Int32} {A A' : StM} {f g : Nat → Int32} (h : Rel H A f) (hz : Sz A) (hi : A'.1 = A.1) (hl : ∀ j, j ≠ 7 → j ≠ 8 → j ≠ 9 → A'.2 j = A.2 j) (hg : ∀ j, j ≠ 6 → ¬ (145 ≤ j ∧ j < 169) → g j = f j) (h6 : g 6 = nI (A'.2 7).length) (hr : ∀ i, i < (A'.2 7).length → g (145 + i) = (A'.2 7).getD i 0) : Rel H A' g := by
  have zf := hz.f
  have ze1 := hz.e1
  have ze2 := hz.e2
  have ze3 := hz.e3
  have ze4 := hz.e4
  have zr := hz.r
  have ze6 := hz.e6
  have zl := hz.l
  have zt := hz.t
  have zs := hz.s
  have ze12 := hz.e12
  have ze13 := hz.e13
  have ze14 := hz.e14
  have ze15 := hz.e15
  refine ⟨?_, ?_, ?_, ?_, ?_, ?_, ?_, ?_, ?_, ?_, ?_, ?_, ?_, ?_, ?_, ?_, ?_, ?_, ?_, ?_, ?_, ?_⟩
  · rw [hi]; exact (hg 0 (by omega) (by omega)).trans h.day
  · rw [hi]; exact (hg 1 (by omega) (by omega)).trans h.per
  · rw [hi]; exact (hg 4 (by omega) (by omega)).trans h.lim
  · exact exact (hg 2 (by omega) (by omega)).trans h.hd
  · rw [(hl 5 (by decide) (by decide) (by decide))]; exact (hg 3 (by omega) (by omega)).trans h.nr
  · rw [(hl 0 (by decide) (by decide) (by decide))]; exact (hg 5 (by omega) (by omega)).trans h.nf
  · exact h6
  · rw [(hl 10 (by decide) (by decide) (by decide))]; exact (hg 7 (by omega) (by omega)).trans h.nt
  · rw [(hl 11 (by decide) (by decide) (by decide))]; exact (hg 8 (by omega) (by omega)).trans h.ns
  · rw [(hl 0 (by decide) (by decide) (by decide))]; exact fun i hi => (hg _ (by omega) (by omega)).trans (h.mk i hi)
  · rw [(hl 1 (by decide) (by decide) (by decide))]; exact fun i hi => (hg _ (by omega) (by omega)).trans (h.em i hi)
  · rw [(hl 2 (by decide) (by decide) (by decide))]; exact fun i hi => (hg _ (by omega) (by omega)).trans (h.st i hi)
  · rw [(hl 3 (by decide) (by decide) (by decide)), (hl 2 (by decide) (by decide) (by decide))]; exact fun i hi e => (hg _ (by omega) (by omega)).trans (h.wi i hi e)
  · rw [(hl 4 (by decide) (by decide) (by decide))]; exact fun i hi => (hg _ (by omega) (by omega)).trans (h.tm i hi)
  · rw [(hl 6 (by decide) (by decide) (by decide))]; exact fun i hi => (hg _ (by omega) (by omega)).trans (h.sv i hi)
  · exact fun i hi => by rw [Nat.one_mul]; exact hr i hi
  · rw [(hl 10 (by decide) (by decide) (by decide))]; exact fun i hi => (hg _ (by omega) (by omega)).trans (h.tr i hi)
  · rw [(hl 11 (by decide) (by decide) (by decide))]; exact fun i hi => (hg _ (by omega) (by omega)).trans (h.s0 i hi)
  · rw [(hl 12 (by decide) (by decide) (by decide))]; exact fun i hi => (hg _ (by omega) (by omega)).trans (h.s1 i hi)
  · rw [(hl 13 (by decide) (by decide) (by decide))]; exact fun i hi => (hg _ (by omega) (by omega)).trans (h.s2 i hi)
  · rw [(hl 14 (by decide) (by decide) (by decide))]; exact fun i hi => (hg _ (by omega) (by omega)).trans (h.s3 i hi)
  · rw [(hl 15 (by decide) (by decide) (by decide))]; exact fun k k1 k2 => (hg _ (by omega) (by omega)).trans (h.ac k k1 k2)
theorem Rel.ontrol {H : Int32} {A A' : StM} {f g : Nat → Int32} (h : Rel H A f) (hz : Sz A) (hi : A'.1 = A.1) (hl : ∀ j, j ≠ 10 → A'.2 j = A.2 j) (hg : ∀ j, j ≠ 7 → ¬ (169 ≤ j ∧ j < 193) → g j = f j) (h7 : g 7 = nI (A'.2 10).length) (hr : ∀ i, i < (A'.2 10).length → g (169 + i) = (A'.2 10).getD i 0) : Rel H A' g := by
  have zf := hz.f
  have ze1 := hz.e1
  have ze2 := hz.e2
  have ze3 := hz.e3
  have ze4 := hz.e4
  have zr := hz.r
  have ze6 := hz.e6
  have zl := hz.l
  have zt := hz.t
  have zs := hz.s
  have ze12 := hz.e12
  have ze13 := hz.e13
  have ze14 := hz.e14
  have ze15 := hz.e15
  refine ⟨?_, ?_, ?_, ?_, ?_, ?_, ?_, ?_, ?_, ?_, ?_, ?_, ?_, ?_, ?_, ?_, ?_, ?_, ?_, ?_, ?_, ?_⟩
  · rw [hi]; exact (hg 0 (by omega) (by omega)).trans h.day
  · rw [hi]; exact (hg 1 (by omega) (by omega)).trans h.per
  · rw [hi]; exact (hg 4 (by omega) (by omega)).trans h.lim
  · exact exact (hg 2 (by omega) (by omega)).trans h.hd
  · rw [(hl 5 (by decide))]; exact (hg 3 (by omega) (by omega)).trans h.nr
  · rw [(hl 0 (by decide))]; exact (hg 5 (by omega) (by omega)).trans h.nf
  · rw [(hl 7 (by decide))]; exact (hg 6 (by omega) (by omega)).trans h.nl
  · exact h7
  · rw [(hl 11 (by decide))]; exact (hg 8 (by omega) (by omega)).trans h.ns
  · rw [(hl 0 (by decide))]; exact fun i hi => (hg _ (by omega) (by omega)).trans (h.mk i hi)
  · rw [(hl 1 (by decide))]; exact fun i hi => (hg _ (by omega) (by omega)).trans (h.em i hi)
  · rw [(hl 2 (by decide))]; exact fun i hi => (hg _ (by omega) (by omega)).trans (h.st i hi)
  · rw [(hl 3 (by decide)), (hl 2 (by decide))]; exact fun i hi e => (hg _ (by omega) (by omega)).trans (h.wi i hi e)
  · rw [(hl 4 (by decide))]; exact fun i hi => (hg _ (by omega) (by omega)).trans (h.tm i hi)
  · rw [(hl 6 (by decide))]; exact fun i hi => (hg _ (by omega) (by omega)).trans (h.sv i hi)
  · rw [(hl 7 (by decide))]; exact fun i hi => (hg _ (by omega) (by omega)).trans (h.rw i hi)
  · exact fun i hi => by rw [Nat.one_mul]; exact hr i hi
  · rw [(hl 11 (by decide))]; exact fun i hi => (hg _ (by omega) (by omega)).trans (h.s0 i hi)
  · rw [(hl 12 (by decide))]; exact fun i hi => (hg _ (by omega) (by omega)).trans (h.s1 i hi)
  · rw [(hl 13 (by decide))]; exact fun i hi => (hg _ (by omega) (by omega)).trans (h.s2 i hi)
  · rw [(hl 14 (by decide))]; exact fun i hi => (hg _ (by omega) (by omega)).trans (h.s3 i hi)
  · rw [(hl 15 (by decide))]; exact fun k k1 k2 => (hg _ (by omega) (by omega)).trans (h.ac k k1 k2)
theorem Rel.onslips {H : Int32} {A A' : StM} {f g : Nat → Int32} (h : Rel H A f) (hz : Sz A) (hi : A'.1 = A.1) (hl : ∀ j, j ≠ 11 → j ≠ 12 → j ≠ 13 → j ≠ 14 → A'.2 j = A.2 j) (hg : ∀ j, j ≠ 8 → ¬ (193 ≤ j ∧ j < 257) → g j = f j) (h8 : g 8 = nI (A'.2 11).length) (a0 : Arr g 193 4 (A'.2 11)) (a1 : Arr g 194 4 (A'.2 12)) (a2 : Arr g 195 4 (A'.2 13)) (a3 : Arr g 196 4 (A'.2 14)) : Rel H A' g := by
  have zf := hz.f
  have ze1 := hz.e1
  have ze2 := hz.e2
  have ze3 := hz.e3
  have ze4 := hz.e4
  have zr := hz.r
  have ze6 := hz.e6
  have zl := hz.l
  have zt := hz.t
  have zs := hz.s
  have ze12 := hz.e12
  have ze13 := hz.e13
  have ze14 := hz.e14
  have ze15 := hz.e15
  refine ⟨?_, ?_, ?_, ?_, ?_, ?_, ?_, ?_, ?_, ?_, ?_, ?_, ?_, ?_, ?_, ?_, ?_, ?_, ?_, ?_, ?_, ?_⟩
  · rw [hi]; exact (hg 0 (by omega) (by omega)).trans h.day
  · rw [hi]; exact (hg 1 (by omega) (by omega)).trans h.per
  · rw [hi]; exact (hg 4 (by omega) (by omega)).trans h.lim
  · exact exact (hg 2 (by omega) (by omega)).trans h.hd
  · rw [(hl 5 (by decide) (by decide) (by decide) (by decide))]; exact (hg 3 (by omega) (by omega)).trans h.nr
  · rw [(hl 0 (by decide) (by decide) (by decide) (by decide))]; exact (hg 5 (by omega) (by omega)).trans h.nf
  · rw [(hl 7 (by decide) (by decide) (by decide) (by decide))]; exact (hg 6 (by omega) (by omega)).trans h.nl
  · rw [(hl 10 (by decide) (by decide) (by decide) (by decide))]; exact (hg 7 (by omega) (by omega)).trans h.nt
  · exact h8
  · rw [(hl 0 (by decide) (by decide) (by decide) (by decide))]; exact fun i hi => (hg _ (by omega) (by omega)).trans (h.mk i hi)
  · rw [(hl 1 (by decide) (by decide) (by decide) (by decide))]; exact fun i hi => (hg _ (by omega) (by omega)).trans (h.em i hi)
  · rw [(hl 2 (by decide) (by decide) (by decide) (by decide))]; exact fun i hi => (hg _ (by omega) (by omega)).trans (h.st i hi)
  · rw [(hl 3 (by decide) (by decide) (by decide) (by decide)), (hl 2 (by decide) (by decide) (by decide) (by decide))]; exact fun i hi e => (hg _ (by omega) (by omega)).trans (h.wi i hi e)
  · rw [(hl 4 (by decide) (by decide) (by decide) (by decide))]; exact fun i hi => (hg _ (by omega) (by omega)).trans (h.tm i hi)
  · rw [(hl 6 (by decide) (by decide) (by decide) (by decide))]; exact fun i hi => (hg _ (by omega) (by omega)).trans (h.sv i hi)
  · rw [(hl 7 (by decide) (by decide) (by decide) (by decide))]; exact fun i hi => (hg _ (by omega) (by omega)).trans (h.rw i hi)
  · rw [(hl 10 (by decide) (by decide) (by decide) (by decide))]; exact fun i hi => (hg _ (by omega) (by omega)).trans (h.tr i hi)
  · exact a0
  · exact a1
  · exact a2
  · exact a3
  · rw [(hl 15 (by decide) (by decide) (by decide) (by decide))]; exact fun k k1 k2 => (hg _ (by omega) (by omega)).trans (h.ac k k1 k2)
theorem Rel.onacc {H : Int32} {A A' : StM} {f g : Nat → Int32} (h : Rel H A f) (hz : Sz A) (hi : A'.1 = A.1) (hl : ∀ j, j ≠ 15 → A'.2 j = A.2 j) (hg : ∀ j, ¬ (9 ≤ j ∧ j < 17) → g j = f j) (ha : ∀ k, 3 ≤ k → k < 11 → g (6 + k) = (A'.2 15).getD k 0) : Rel H A' g := by
  have zf := hz.f
  have ze1 := hz.e1
  have ze2 := hz.e2
  have ze3 := hz.e3
  have ze4 := hz.e4
  have zr := hz.r
  have ze6 := hz.e6
  have zl := hz.l
  have zt := hz.t
  have zs := hz.s
  have ze12 := hz.e12
  have ze13 := hz.e13
  have ze14 := hz.e14
  have ze15 := hz.e15
  refine ⟨?_, ?_, ?_, ?_, ?_, ?_, ?_, ?_, ?_, ?_, ?_, ?_, ?_, ?_, ?_, ?_, ?_, ?_, ?_, ?_, ?_, ?_⟩
  · rw [hi]; exact (hg 0 (by omega)).trans h.day
  · rw [hi]; exact (hg 1 (by omega)).trans h.per
  · rw [hi]; exact (hg 4 (by omega)).trans h.lim
  · exact exact (hg 2 (by omega)).trans h.hd
  · rw [(hl 5 (by decide))]; exact (hg 3 (by omega)).trans h.nr
  · rw [(hl 0 (by decide))]; exact (hg 5 (by omega)).trans h.nf
  · rw [(hl 7 (by decide))]; exact (hg 6 (by omega)).trans h.nl
  · rw [(hl 10 (by decide))]; exact (hg 7 (by omega)).trans h.nt
  · rw [(hl 11 (by decide))]; exact (hg 8 (by omega)).trans h.ns
  · rw [(hl 0 (by decide))]; exact fun i hi => (hg _ (by omega)).trans (h.mk i hi)
  · rw [(hl 1 (by decide))]; exact fun i hi => (hg _ (by omega)).trans (h.em i hi)
  · rw [(hl 2 (by decide))]; exact fun i hi => (hg _ (by omega)).trans (h.st i hi)
  · rw [(hl 3 (by decide)), (hl 2 (by decide))]; exact fun i hi e => (hg _ (by omega)).trans (h.wi i hi e)
  · rw [(hl 4 (by decide))]; exact fun i hi => (hg _ (by omega)).trans (h.tm i hi)
  · rw [(hl 6 (by decide))]; exact fun i hi => (hg _ (by omega)).trans (h.sv i hi)
  · rw [(hl 7 (by decide))]; exact fun i hi => (hg _ (by omega)).trans (h.rw i hi)
  · rw [(hl 10 (by decide))]; exact fun i hi => (hg _ (by omega)).trans (h.tr i hi)
  · rw [(hl 11 (by decide))]; exact fun i hi => (hg _ (by omega)).trans (h.s0 i hi)
  · rw [(hl 12 (by decide))]; exact fun i hi => (hg _ (by omega)).trans (h.s1 i hi)
  · rw [(hl 13 (by decide))]; exact fun i hi => (hg _ (by omega)).trans (h.s2 i hi)
  · rw [(hl 14 (by decide))]; exact fun i hi => (hg _ (by omega)).trans (h.s3 i hi)
  · exact ha
theorem Rel.onserv {H : Int32} {A A' : StM} {f g : Nat → Int32} (h : Rel H A f) (hz : Sz A) (hi : A'.1 = A.1) (hl : ∀ j, j ≠ 6 → A'.2 j = A.2 j) (hg : ∀ j, ¬ (17 ≤ j ∧ j < 25) → g j = f j) (hs : Arr g 17 1 (A'.2 6)) : Rel H A' g := by
  have zf := hz.f
  have ze1 := hz.e1
  have ze2 := hz.e2
  have ze3 := hz.e3
  have ze4 := hz.e4
  have zr := hz.r
  have ze6 := hz.e6
  have zl := hz.l
  have zt := hz.t
  have zs := hz.s
  have ze12 := hz.e12
  have ze13 := hz.e13
  have ze14 := hz.e14
  have ze15 := hz.e15
  refine ⟨?_, ?_, ?_, ?_, ?_, ?_, ?_, ?_, ?_, ?_, ?_, ?_, ?_, ?_, ?_, ?_, ?_, ?_, ?_, ?_, ?_, ?_⟩
  · rw [hi]; exact (hg 0 (by omega)).trans h.day
  · rw [hi]; exact (hg 1 (by omega)).trans h.per
  · rw [hi]; exact (hg 4 (by omega)).trans h.lim
  · exact exact (hg 2 (by omega)).trans h.hd
  · rw [(hl 5 (by decide))]; exact (hg 3 (by omega)).trans h.nr
  · rw [(hl 0 (by decide))]; exact (hg 5 (by omega)).trans h.nf
  · rw [(hl 7 (by decide))]; exact (hg 6 (by omega)).trans h.nl
  · rw [(hl 10 (by decide))]; exact (hg 7 (by omega)).trans h.nt
  · rw [(hl 11 (by decide))]; exact (hg 8 (by omega)).trans h.ns
  · rw [(hl 0 (by decide))]; exact fun i hi => (hg _ (by omega)).trans (h.mk i hi)
  · rw [(hl 1 (by decide))]; exact fun i hi => (hg _ (by omega)).trans (h.em i hi)
  · rw [(hl 2 (by decide))]; exact fun i hi => (hg _ (by omega)).trans (h.st i hi)
  · rw [(hl 3 (by decide)), (hl 2 (by decide))]; exact fun i hi e => (hg _ (by omega)).trans (h.wi i hi e)
  · rw [(hl 4 (by decide))]; exact fun i hi => (hg _ (by omega)).trans (h.tm i hi)
  · exact hs
  · rw [(hl 7 (by decide))]; exact fun i hi => (hg _ (by omega)).trans (h.rw i hi)
  · rw [(hl 10 (by decide))]; exact fun i hi => (hg _ (by omega)).trans (h.tr i hi)
  · rw [(hl 11 (by decide))]; exact fun i hi => (hg _ (by omega)).trans (h.s0 i hi)
  · rw [(hl 12 (by decide))]; exact fun i hi => (hg _ (by omega)).trans (h.s1 i hi)
  · rw [(hl 13 (by decide))]; exact fun i hi => (hg _ (by omega)).trans (h.s2 i hi)
  · rw [(hl 14 (by decide))]; exact fun i hi => (hg _ (by omega)).trans (h.s3 i hi)
  · rw [(hl 15 (by decide))]; exact fun k k1 k2 => (hg _ (by omega)).trans (h.ac k k1 k2)
theorem Rel.onfold {H : Int32} {A A' : StM} {f g : Nat → Int32} (h : Rel H A f) (hz : Sz A) (hi : A'.1 = A.1) (hl : ∀ j, j ≠ 1 → j ≠ 2 → j ≠ 3 → j ≠ 4 → A'.2 j = A.2 j) (hg : ∀ j, ¬ (25 ≤ j ∧ j < 145 ∧ j % 5 ≠ 0) → g j = f j) (a1 : Arr g 26 5 (A'.2 1)) (a2 : Arr g 27 5 (A'.2 2)) (a3 : ∀ i, i < (A'.2 3).length → (A'.2 2).getD i 0 = 1 → g (28 + 5 * i) = (A'.2 3).getD i 0) (a4 : Arr g 29 5 (A'.2 4)) : Rel H A' g := by
  have zf := hz.f
  have ze1 := hz.e1
  have ze2 := hz.e2
  have ze3 := hz.e3
  have ze4 := hz.e4
  have zr := hz.r
  have ze6 := hz.e6
  have zl := hz.l
  have zt := hz.t
  have zs := hz.s
  have ze12 := hz.e12
  have ze13 := hz.e13
  have ze14 := hz.e14
  have ze15 := hz.e15
  refine ⟨?_, ?_, ?_, ?_, ?_, ?_, ?_, ?_, ?_, ?_, ?_, ?_, ?_, ?_, ?_, ?_, ?_, ?_, ?_, ?_, ?_, ?_⟩
  · rw [hi]; exact (hg 0 (by omega)).trans h.day
  · rw [hi]; exact (hg 1 (by omega)).trans h.per
  · rw [hi]; exact (hg 4 (by omega)).trans h.lim
  · exact exact (hg 2 (by omega)).trans h.hd
  · rw [(hl 5 (by decide) (by decide) (by decide) (by decide))]; exact (hg 3 (by omega)).trans h.nr
  · rw [(hl 0 (by decide) (by decide) (by decide) (by decide))]; exact (hg 5 (by omega)).trans h.nf
  · rw [(hl 7 (by decide) (by decide) (by decide) (by decide))]; exact (hg 6 (by omega)).trans h.nl
  · rw [(hl 10 (by decide) (by decide) (by decide) (by decide))]; exact (hg 7 (by omega)).trans h.nt
  · rw [(hl 11 (by decide) (by decide) (by decide) (by decide))]; exact (hg 8 (by omega)).trans h.ns
  · rw [(hl 0 (by decide) (by decide) (by decide) (by decide))]; exact fun i hi => (hg _ (by omega)).trans (h.mk i hi)
  · exact a1
  · exact a2
  · exact a3
  · exact a4
  · rw [(hl 6 (by decide) (by decide) (by decide) (by decide))]; exact fun i hi => (hg _ (by omega)).trans (h.sv i hi)
  · rw [(hl 7 (by decide) (by decide) (by decide) (by decide))]; exact fun i hi => (hg _ (by omega)).trans (h.rw i hi)
  · rw [(hl 10 (by decide) (by decide) (by decide) (by decide))]; exact fun i hi => (hg _ (by omega)).trans (h.tr i hi)
  · rw [(hl 11 (by decide) (by decide) (by decide) (by decide))]; exact fun i hi => (hg _ (by omega)).trans (h.s0 i hi)
  · rw [(hl 12 (by decide) (by decide) (by decide) (by decide))]; exact fun i hi => (hg _ (by omega)).trans (h.s1 i hi)
  · rw [(hl 13 (by decide) (by decide) (by decide) (by decide))]; exact fun i hi => (hg _ (by omega)).trans (h.s2 i hi)
  · rw [(hl 14 (by decide) (by decide) (by decide) (by decide))]; exact fun i hi => (hg _ (by omega)).trans (h.s3 i hi)
  · rw [(hl 15 (by decide) (by decide) (by decide) (by decide))]; exact fun k k1 k2 => (hg _ (by omega)).trans (h.ac k k1 k2)
theorem Rel.onhave {H : Int32} {A A' : StM} {f g : Nat → Int32} (h : Rel H A f) (hz : Sz A) (hi : A'.1 = A.1) (hl : ∀ j, j ≠ 5 → A'.2 j = A.2 j) (hg : ∀ j, g j = f j) (h3 : g 3 = nI (A'.2 5).length) : Rel H A' g := by
  have zf := hz.f
  have ze1 := hz.e1
  have ze2 := hz.e2
  have ze3 := hz.e3
  have ze4 := hz.e4
  have zr := hz.r
  have ze6 := hz.e6
  have zl := hz.l
  have zt := hz.t
  have zs := hz.s
  have ze12 := hz.e12
  have ze13 := hz.e13
  have ze14 := hz.e14
  have ze15 := hz.e15
  refine ⟨?_, ?_, ?_, ?_, ?_, ?_, ?_, ?_, ?_, ?_, ?_, ?_, ?_, ?_, ?_, ?_, ?_, ?_, ?_, ?_, ?_, ?_⟩
  · rw [hi]; exact (hg 0 ).trans h.day
  · rw [hi]; exact (hg 1 ).trans h.per
  · rw [hi]; exact (hg 4 ).trans h.lim
  · exact exact (hg 2 ).trans h.hd
  · exact h3
  · rw [(hl 0 (by decide))]; exact (hg 5 ).trans h.nf
  · rw [(hl 7 (by decide))]; exact (hg 6 ).trans h.nl
  · rw [(hl 10 (by decide))]; exact (hg 7 ).trans h.nt
  · rw [(hl 11 (by decide))]; exact (hg 8 ).trans h.ns
  · rw [(hl 0 (by decide))]; exact fun i hi => (hg _ ).trans (h.mk i hi)
  · rw [(hl 1 (by decide))]; exact fun i hi => (hg _ ).trans (h.em i hi)
  · rw [(hl 2 (by decide))]; exact fun i hi => (hg _ ).trans (h.st i hi)
  · rw [(hl 3 (by decide)), (hl 2 (by decide))]; exact fun i hi e => (hg _ ).trans (h.wi i hi e)
  · rw [(hl 4 (by decide))]; exact fun i hi => (hg _ ).trans (h.tm i hi)
  · rw [(hl 6 (by decide))]; exact fun i hi => (hg _ ).trans (h.sv i hi)
  · rw [(hl 7 (by decide))]; exact fun i hi => (hg _ ).trans (h.rw i hi)
  · rw [(hl 10 (by decide))]; exact fun i hi => (hg _ ).trans (h.tr i hi)
  · rw [(hl 11 (by decide))]; exact fun i hi => (hg _ ).trans (h.s0 i hi)
  · rw [(hl 12 (by decide))]; exact fun i hi => (hg _ ).trans (h.s1 i hi)
  · rw [(hl 13 (by decide))]; exact fun i hi => (hg _ ).trans (h.s2 i hi)
  · rw [(hl 14 (by decide))]; exact fun i hi => (hg _ ).trans (h.s3 i hi)
  · rw [(hl 15 (by decide))]; exact fun k k1 k2 => (hg _ ).trans (h.ac k k1 k2)
theorem Rel.onday {H : Int32} {A : StM} {f : Nat → Int32} (h : Rel H A f) (hz : Sz A) (v : Int32) : Rel H (setI A 0 v) (upd f 0 v) := by
  have zf := hz.f
  have ze1 := hz.e1
  have ze2 := hz.e2
  have ze3 := hz.e3
  have ze4 := hz.e4
  have zr := hz.r
  have ze6 := hz.e6
  have zl := hz.l
  have zt := hz.t
  have zs := hz.s
  have ze12 := hz.e12
  have ze13 := hz.e13
  have ze14 := hz.e14
  have ze15 := hz.e15
  exact ⟨rfl, h.per, h.lim, h.hd, h.nr, h.nf, h.nl, h.nt, h.ns, show Arr (upd f 0 v) 25 5 (A.2 0) from h.mk.ne (fun i hi => by omega), show Arr (upd f 0 v) 26 5 (A.2 1) from h.em.ne (fun i hi => by omega), show Arr (upd f 0 v) 27 5 (A.2 2) from h.st.ne (fun i hi => by omega), fun i hi e => (if_neg (by omega)).trans (h.wi i hi e), show Arr (upd f 0 v) 29 5 (A.2 4) from h.tm.ne (fun i hi => by omega), show Arr (upd f 0 v) 17 1 (A.2 6) from h.sv.ne (fun i hi => by omega), show Arr (upd f 0 v) 145 1 (A.2 7) from h.rw.ne (fun i hi => by omega), show Arr (upd f 0 v) 169 1 (A.2 10) from h.tr.ne (fun i hi => by omega), show Arr (upd f 0 v) 193 4 (A.2 11) from h.s0.ne (fun i hi => by omega), show Arr (upd f 0 v) 194 4 (A.2 12) from h.s1.ne (fun i hi => by omega), show Arr (upd f 0 v) 195 4 (A.2 13) from h.s2.ne (fun i hi => by omega), show Arr (upd f 0 v) 196 4 (A.2 14) from h.s3.ne (fun i hi => by omega), fun k k1 k2 => (if_neg (by omega)).trans (h.ac k k1 k2)⟩
/-! the row changes -/
theorem nd_of {xs : List Int32} (h : ∀ i j, i < j → j < xs.length → xs.getD i 0 ≠ xs.getD j 0) : xs.Nodup := by
  refine List.pairwise_iff_getElem.mpr fun i j hi hj hij => ?_
  have := h i j hij hj
  rw [List.getD_eq_getElem?_getD, List.getD_eq_getElem?_getD, List.getElem?_eq_getElem hi, List.getElem?_eq_getElem hj] at this
  exact this
theorem perm_of {xs ys : List Int32} (s : Nat → Nat) (hl : ys.length = xs.length) (hs : ∀ i, i < xs.length → s i < xs.length ∧ s (s i) = i) (he : ∀ i, i < xs.length → ys.getD i 0 = xs.getD (s i) 0) (hn : xs.Nodup) : ys.Nodup ∧ ∀ x, x ∈ ys ↔ x ∈ xs := by
  refine ⟨nd_of fun i j hij hj e => ?_, fun x => ⟨fun hx => ?_, fun hx => ?_⟩⟩
  · rw [hl] at hj
    rw [he i (by omega), he j hj] at e
    have h1 := nd_inj hn (hs i (by omega)).1 (hs j hj).1 e
    have h2 := (hs i (by omega)).2
    have h3 := (hs j hj).2
    rw [h1, h3] at h2
    omega
  · obtain ⟨i, hi, rfl⟩ := mem_gd.mp hx
    rw [hl] at hi
    rw [he i hi]
    exact gd_mem (hs i hi).1
  · obtain ⟨i, hi, rfl⟩ := mem_gd.mp hx
    refine mem_gd.mpr ⟨s i, by rw [hl]; exact (hs i hi).1, ?_⟩
    rw [he _ (hs i hi).1, (hs i hi).2]
def gIns (f : Nat → Int32) (n p : Nat) (x : Int32) : Nat → Int32 := fun j => if j = 6 then f 6 + 1 else if j = 145 + p then x else if 145 + p < j ∧ j ≤ 145 + n then f (j - 1) else f j
def gSh (f : Nat → Int32) (k c : Nat) : Nat → Int32 := fun j => if 145 + k ≤ j ∧ j < 145 + c then f (j + 1) else f j
def gRem (f : Nat → Int32) (c p : Nat) : Nat → Int32 := gSh (upd f 6 (f 6 - 1)) p c
section RW
variable {H : Int32} {A : StM} {ρ : Nat} {M : MdM} {f : Nat → Int32}
theorem m_insert {n p : Nat} {x : Int32} (h6 : M.2 ρ 6 = nI n) (hp : p ≤ n) (hn : n < 100) : Md_insert ρ M x (nI p) = some (setA M ρ (gIns (M.2 ρ) n p x)) := by
  have go : ∀ (m k : Nat) (M1 : MdM), p ≤ k → k < 100 → k - p < m → Md_insert_L8 ρ m M1 x (nI p) (nI k) = some (setA M1 ρ (gIns (M1.2 ρ) k p x)) := by
    intro m
    induction m with
    | zero => intro k M1 h1 h2 h3; omega
    | succ m ih =>
      intro k M1 h1 h2 h3
      unfold Md_insert_L8
      rw [show (145 : Int32) = nI 145 from rfl, nI_add, nI_add, tn6]
      by_cases hk : k = p
      · subst hk
        rw [if_pos (Int32.le_refl _), if_pos (q_in (by omega) (by omega)), q_cl (by omega)]
        congr 2
        funext j
        unfold gIns upd
        by_cases h6 : j = 6
        · rw [if_pos h6, if_pos h6, if_neg (by omega)]
        · rw [if_neg h6, if_neg h6]
          by_cases h7 : j = 145 + k
          · rw [if_pos h7, if_pos h7]
          · rw [if_neg h7, if_neg h7, if_neg (by omega)]
      · obtain ⟨k, rfl⟩ : ∃ q, k = q + 1 := ⟨k - 1, by omega⟩
        rw [if_neg (nI_ge (show p < k + 1 by omega) (by omega)), nI_pred, e_fa (by omega), bs, if_pos (q_in (by omega) (by omega)), q_cl (by omega), pk_m1, ih k _ (by omega) (by omega) (by omega), setA_A, setA_s]
        congr 2
        funext j
        unfold gIns upd
        by_cases h6 : j = 6
        · rw [if_pos h6, if_pos h6, if_neg (by omega)]
        · rw [if_neg h6, if_neg h6]
          by_cases h7 : j = 145 + p
          · rw [if_pos h7, if_pos h7]
          · rw [if_neg h7, if_neg h7]
            by_cases h8 : j = 145 + (k + 1)
            · rw [if_neg (by omega), if_pos h8, if_pos (by omega), h8]; rfl
            · by_cases h9 : 145 + p < j ∧ j ≤ 145 + k
              · rw [if_pos h9, if_pos (by omega), if_neg (by omega)]
              · rw [if_neg h9, if_neg (by omega), if_neg h8]
  unfold Md_insert
  rw [tn6, lu, h6]
  exact go FU n M hp hn (FU_gt (by omega))
theorem m_shift {c : Nat} {x y : Int32} (hc : c < 100) : ∀ (m k : Nat) (M1 : MdM), k ≤ c → c - k < m → M1.2 ρ 6 = nI c → Md_remove_L19 ρ m M1 x y (nI k) = some (y, setA M1 ρ (gSh (M1.2 ρ) k c)) := by
  intro m
  induction m with
  | zero => intro k M1 h1 h2; omega
  | succ m ih =>
    intro k M1 h1 h2 h3
    unfold Md_remove_L19
    rw [tn6, h3]
    by_cases hk : c ≤ k
    · rw [if_pos ((q_le (by omega) (by omega)).mpr hk)]
      congr 2
      refine Prod.ext rfl (funext fun q => ?_)
      by_cases hq : q = ρ
      · subst hq
        rw [setA_s]
        funext j
        exact (if_neg (by omega)).symm
      · exact (setA_n _ _ hq).symm
    · rw [if_neg (fun q => hk ((q_le (by omega) (by omega)).mp q)), nI_1, e_fa (by omega), bs, show (145 : Int32) = nI 145 from rfl, nI_add, if_pos (q_in (by omega) (by omega)), q_cl (by omega), ih (k + 1) _ (by omega) (by omega) (by rw [setA_s]; exact (if_neg (by omega)).trans h3), setA_A, setA_s]
      congr 3
      funext j
      unfold gSh upd
      by_cases h8 : j = 145 + k
      · rw [if_neg (by omega), if_pos h8, if_pos (by omega), h8]; rfl
      · by_cases h9 : 145 + (k + 1) ≤ j ∧ j < 145 + c
        · rw [if_pos h9, if_pos (by omega), if_neg (by omega)]
        · rw [if_neg h9, if_neg (by omega), if_neg h8]
theorem m_remove (h : RI H A (M.2 ρ)) {x : Int32} (hx : x ∈ A.2 7) : ∃ q, q < (A.2 7).length ∧ (A.2 7).getD q 0 = x ∧ lnpl (A.2 7) x = nI q ∧ Md_remove ρ M x = some (nI q, setA M ρ (gRem (M.2 ρ) ((A.2 7).length - 1) q)) := by
  have hl := h.sz.l
  obtain ⟨q, h1, h2, h3, h4⟩ := m_placeOf h hx
  refine ⟨q, h1, h2, h3, ?_⟩
  unfold Md_remove
  rw [h4, bs, tn6, m_shift (c := (A.2 7).length - 1) (by omega) FU q _ (by omega) (FU_gt (by omega)) (by
    rw [setA_s]
    refine (if_pos rfl).trans ?_
    rw [h.rel.nl]
    obtain ⟨d, hd⟩ : ∃ d, (A.2 7).length = d + 1 := ⟨(A.2 7).length - 1, by omega⟩
    rw [hd, nI_pred]; rfl), setA_A, setA_s]
  rfl
theorem Fd.perm7 (h : Fd A) {ys : List Int32} (hn : ys.Nodup) (hm : ∀ x, x ∈ ys ↔ x ∈ A.2 7) : Fd (setL A 7 ys) := by
  obtain ⟨a1, a2, a3, a4, a5, a6, a7, a8⟩ := h
  exact ⟨hn, a2, fun x hx => a3 x ((hm x).mp hx), a4, fun k hk e => (hm _).mpr (a5 k hk e), a6, a7, a8⟩
theorem Sz.set7 (h : Sz A) {ys : List Int32} (hl : ys.length ≤ 24) : Sz (setL A 7 ys) := ⟨h.1, h.2.1, h.2.2.1, h.2.2.2.1, h.2.2.2.2.1, h.2.2.2.2.2.1, h.2.2.2.2.2.2.1, hl, h.2.2.2.2.2.2.2.2⟩
theorem RI.perm7 (h : RI H A f) {ys : List Int32} {g : Nat → Int32} (hl : ys.length = (A.2 7).length) (hn : ys.Nodup) (hm : ∀ x, x ∈ ys ↔ x ∈ A.2 7) (hg : ∀ j, ¬ (145 ≤ j ∧ j < 169) → g j = f j) (hr : ∀ i, i < ys.length → g (145 + i) = ys.getD i 0) : RI H (setL A 7 ys) g :=
  ⟨h.rel.onrow h.sz rfl (fun j a _ _ => setL_n _ _ a) (fun j _ b => hg j b) (by rw [setL_s, hl, hg 6 (by omega)]; exact h.rel.nl) (by rw [setL_s]; exact hr), h.sz.set7 (by have := h.sz.l; omega), h.fd.perm7 hn hm, h.mk, h.sp, h.per⟩
/-- a folder of the row put to another place -/
theorem s_move (h : RI H A (M.2 ρ)) {k p : Nat} (hk : k < (A.2 0).length) (hst : (A.2 2).getD k 0 = 0) (hp : p < (A.2 7).length) : ∃ q M2 M3, q < (A.2 7).length ∧ (A.2 7).getD q 0 = nI k ∧ lnpl (A.2 7) (nI k) = nI q ∧ Md_remove ρ M (nI k) = some (nI q, M2) ∧ Md_insert ρ M2 (nI k) (nI p) = some M3 ∧ Sm ρ M M3 ∧ RI H (setL A 7 (lnins 24 (lnrem (A.2 7) (nI q)) (nI p) (nI k))) (M3.2 ρ) := by
  have hl := h.sz.l
  obtain ⟨q, h1, h2, h3, h4⟩ := m_remove h (h.fd.2.2.2.2.1 k hk hst)
  have hlr := ln_rem h1
  have h6 : (setA M ρ (gRem (M.2 ρ) ((A.2 7).length - 1) q)).2 ρ 6 = nI ((A.2 7).length - 1) := by
    rw [setA_s]
    refine (if_neg (by omega)).trans ((if_pos rfl).trans ?_)
    rw [h.rel.nl]
    obtain ⟨d, hd⟩ : ∃ d, (A.2 7).length = d + 1 := ⟨(A.2 7).length - 1, by omega⟩
    rw [hd, nI_pred]; rfl
  refine ⟨q, _, _, h1, h2, h3, h4, m_insert h6 (by omega) (by omega), ?_, ?_⟩
  · rw [setA_A]; exact Sm.setA _ _ _
  · rw [setA_s, setA_s, lm_in h1 (by omega), li_in _ (by omega) (by omega) (by omega)]
    have hli := ln_ins (xs := (A.2 7).take q ++ (A.2 7).drop (q + 1)) (i := p) (v := nI k) (by omega)
    have nk : nI k ∉ (A.2 7).take q ++ (A.2 7).drop (q + 1) := fun hx => ((mem_rem h.fd.1 h1).mp hx).2 h2.symm
    refine h.perm7 (by omega) (nd_ins (nd_rem h.fd.1) nk) (fun x => ?_) (fun j hj => ?_) (fun i hi => ?_)
    · rw [mem_ins, mem_rem h.fd.1 h1, h2]
      constructor
      · rintro (rfl | hx)
        · rw [← h2]; exact gd_mem h1
        · exact hx.1
      · intro hx
        by_cases e : x = nI k
        · exact Or.inl e
        · exact Or.inr ⟨hx, e⟩
    · unfold gIns
      by_cases e6 : j = 6
      · subst e6
        rw [if_pos rfl]
        rw [setA_s] at h6
        rw [h6, h.rel.nl, nI_1]
        congr 1
        omega
      · rw [if_neg e6, if_neg (by omega), if_neg (by omega)]
        unfold gRem gSh
        rw [if_neg (by omega)]
        exact if_neg e6
    · rw [hli] at hi
      rw [gd_ins (by omega), gd_rem h1, gd_rem h1]
      unfold gIns gRem gSh
      rw [if_neg (by omega)]
      have hu : ∀ j, 145 ≤ j → upd (M.2 ρ) 6 (M.2 ρ 6 - 1) j = M.2 ρ j := fun j hj => if_neg (by omega)
      by_cases c1 : i = p
      · rw [if_pos (by omega), if_neg (by omega), if_pos c1]
      · rw [if_neg (by omega), if_neg c1]
        by_cases c2 : i < p
        · rw [if_neg (by omega), if_pos c2]
          by_cases c3 : i < q
          · rw [if_neg (by omega), if_pos c3, hu _ (by omega), h.row (by omega)]
          · rw [if_pos (by omega), if_neg c3, hu _ (by omega), show 145 + i + 1 = 145 + (i + 1) by omega, h.row (by omega)]
        · rw [if_pos (by omega), if_neg c2]
          by_cases c3 : i - 1 < q
          · rw [if_neg (by omega), if_pos c3, hu _ (by omega), show 145 + i - 1 = 145 + (i - 1) by omega, h.row (by omega)]
          · rw [if_pos (by omega), if_neg c3, hu _ (by omega), show 145 + i - 1 + 1 = 145 + (i - 1 + 1) by omega, h.row (by omega)]
theorem s_swapL (h : RI H A (M.2 ρ)) : ∀ (n c m : Nat), m < 1000 → c ≤ m → m - c < n → ∃ v xs M', v ≤ m ∧ Rw_swapWrongPairs_L2 n A (nI m) (nI c) = some (nI v, setL A 7 xs) ∧ Md_swapOn_L2 ρ n M (nI m) (nI c) = some (nI v, M') ∧ Sm ρ M M' ∧ RI H (setL A 7 xs) (M'.2 ρ) := by
  intro n
  induction n generalizing A M with
  | zero => intro c m h1 h2 h3; omega
  | succ n ih =>
    intro c m h1 h2 h3
    have hl := h.sz.l
    have hA : setL A 7 (A.2 7) = A := Prod.ext rfl (funext fun j => by by_cases q : j = 7 <;> simp [setL, va_up, q])
    unfold Rw_swapWrongPairs_L2 Md_swapOn_L2
    by_cases hc : m ≤ c
    · obtain rfl : m = c := by omega
      rw [if_pos (Int32.le_refl _), if_pos (Int32.le_refl _)]
      exact ⟨m, A.2 7, M, Nat.le_refl _, by rw [hA], rfl, Sm.rf _ _, by rw [hA]; exact h⟩
    · have hn : ¬ nI m ≤ nI c := fun q => hc ((q_le (by omega) (by omega)).mp q)
      rw [if_neg hn, if_neg hn]
      rcases s_firstWrong h with ⟨e1, e2⟩ | ⟨p, hp, e1, e2⟩
      · rw [e1, e2, bs, bs, if_pos rfl, if_pos rfl]
        exact ⟨c, A.2 7, M, h2, by rw [hA], rfl, Sm.rf _ _, by rw [hA]; exact h⟩
      · rw [e1, e2, bs, bs, if_neg (q_m1 (by omega)), if_neg (q_m1 (by omega)), bs, e_fa (by omega), bs, nI_1, e_fa (by omega), bs, h.row hp, h.row (p := p) (by omega), lu, setL_L, nI_pred, lg_in hp (by omega), lg_in (i := p) (by omega) (by omega), ls_in _ hp (by omega), ls_in _ (by rw [List.length_set]; omega) (by rw [List.length_set]; omega), show (145 : Int32) = nI 145 from rfl, nI_add, nI_1, if_pos (q_in (by omega) (by omega)), if_pos (q_in (by omega) (by omega)), q_cl (by omega), q_cl (by omega), nI_1]
        generalize hys : ((A.2 7).set (p + 1) ((A.2 7).getD p 0)).set p ((A.2 7).getD (p + 1) 0) = ys
        have hyl : ys.length = (A.2 7).length := by rw [← hys, List.length_set, List.length_set]
        have hyg : ∀ i, i < (A.2 7).length → ys.getD i 0 = (A.2 7).getD (if i = p then p + 1 else if i = p + 1 then p else i) 0 := by
          intro i hi
          rw [← hys, getD_set _ _ _ _ (by rw [List.length_set]; omega)]
          by_cases c1 : i = p
          · rw [if_pos c1, if_pos c1]
          · rw [if_neg c1, if_neg c1, getD_set _ _ _ _ (by omega)]
            by_cases c2 : i = p + 1
            · rw [if_pos c2, if_pos c2]
            · rw [if_neg c2, if_neg c2]
        obtain ⟨y1, y2⟩ := perm_of (fun i => if i = p then p + 1 else if i = p + 1 then p else i) hyl (fun i hi => by
          refine ⟨?_, ?_⟩
          · show (if i = p then p + 1 else if i = p + 1 then p else i) < _
            split
            · omega
            · split <;> omega
          · show (if (if i = p then p + 1 else if i = p + 1 then p else i) = p then p + 1 else if (if i = p then p + 1 else if i = p + 1 then p else i) = p + 1 then p else (if i = p then p + 1 else if i = p + 1 then p else i)) = i
            by_cases c1 : i = p
            · rw [if_pos c1, if_neg (by omega), if_pos rfl]; exact c1.symm
            · rw [if_neg c1]
              by_cases c2 : i = p + 1
              · rw [if_pos c2, if_pos rfl]; exact c2.symm
              · rw [if_neg c2, if_neg c1, if_neg c2]) hyg h.fd.1
        have hR : RI H (setL A 7 ys) ((setA M ρ (upd (upd (M.2 ρ) (145 + p) ((A.2 7).getD (p + 1) 0)) (145 + p + 1) ((A.2 7).getD p 0))).2 ρ) := by
          rw [setA_s]
          refine h.perm7 hyl y1 y2 (fun j hj => (if_neg (by omega)).trans (if_neg (by omega))) (fun i hi => ?_)
          rw [hyl] at hi
          rw [hyg i hi]
          unfold upd
          by_cases c1 : i = p
          · rw [if_neg (by omega), if_pos (by omega), if_pos c1]
          · rw [if_neg c1]
            by_cases c2 : i = p + 1
            · rw [if_pos (by omega), if_pos c2]
            · rw [if_neg (by omega), if_neg (by omega), if_neg c2, h.row hi]
        obtain ⟨v, xs, M', v1, v2, v3, v4, v5⟩ := ih hR (c + 1) m h1 (by omega) (by omega)
        rw [setL_L] at v2 v5
        exact ⟨v, xs, M', v1, v2, v3, (Sm.setA ρ M _).tr v4, v5⟩
end RW
/-! a day: refiling -/
theorem Sz.len {A A' : StM} (h : Sz A) (hl : ∀ j, (A'.2 j).length = (A.2 j).length) : Sz A' := by
  unfold Sz
  simp only [hl]
  exact h
theorem setL_len {A : StM} {k : Nat} {ys : List Int32} (hy : ys.length = (A.2 k).length) (j : Nat) : ((setL A k ys).2 j).length = (A.2 j).length := by
  by_cases h : j = k
  · subst h; rw [setL_s, hy]
  · rw [setL_n _ _ h]
theorem ac_up {f : Nat → Int32} {xs : List Int32} (h : ∀ k, 3 ≤ k → k < 11 → f (6 + k) = xs.getD k 0) (hl : xs.length = 11) {a : Nat} (ha : a < 11) (v : Int32) : ∀ k, 3 ≤ k → k < 11 → upd f (6 + a) v (6 + k) = (xs.set a v).getD k 0 := fun k k1 k2 => by
  rw [getD_set xs a v k (by omega)]
  by_cases e : k = a
  · rw [if_pos e, e]; exact if_pos rfl
  · rw [if_neg e, ← h k k1 k2]; exact if_neg (by omega)
theorem Rel.tally {H : Int32} {A : StM} {f : Nat → Int32} (h : Rel H A f) (hz : Sz A) {a : Nat} (h3 : 3 ≤ a) (ha : a < 11) (v : Int32) : Rel H (setL A 15 ((A.2 15).set a v)) (upd f (6 + a) v) :=
  h.onacc hz rfl (fun j q => setL_n _ _ q) (fun j q => if_neg (by omega)) (by rw [setL_s]; exact ac_up h.ac hz.e15 ha v)
theorem RI.acc {H : Int32} {A : StM} {f g : Nat → Int32} {xs : List Int32} (h : RI H A f) (hx : xs.length = 11) (hr : Rel H (setL A 15 xs) g) : RI H (setL A 15 xs) g :=
  ⟨hr, h.sz.len (setL_len (by rw [hx, h.sz.e15])), h.fd, h.mk, h.sp, h.per⟩
theorem lr_ac {H : Int32} {A : StM} {f : Nat → Int32} (h : Rel H A f) (hz : Sz A) {a : Nat} (h3 : 3 ≤ a) (ha : a < 11) (v : Int32) : lnraise (A.2 15) (nI a) v = (A.2 15).set a (f (6 + a) + v) := by
  have := hz.e15
  rw [lr_in v (by omega) (by omega), h.ac a h3 ha]
theorem RI.tally {H : Int32} {A : StM} {f : Nat → Int32} (h : RI H A f) {a : Nat} (h3 : 3 ≤ a) (ha : a < 11) (v : Int32) : RI H (setL A 15 (lnraise (A.2 15) (nI a) v)) (upd f (6 + a) (f (6 + a) + v)) := by
  rw [lr_ac h.rel h.sz h3 ha v]
  exact h.acc (by rw [List.length_set]; exact h.sz.e15) (h.rel.tally h.sz h3 ha _)
/-- between two folders of a trolley that is refiled -/
def RF (H : Int32) (A : StM) (f : Nat → Int32) (i : Nat) : Prop := Rel H A f ∧ Sz A ∧ Fd (setL A 10 ((A.2 10).drop i)) ∧ Mk A ∧ Sp A ∧ ¬ A.1 1 ≤ 0
theorem RF.w {H : Int32} {A : StM} {f : Nat → Int32} {i : Nat} (h : RF H A f i) : RW H A f := ⟨h.1, h.2.1, h.2.2.1.2.2.1⟩
theorem RI.rf {H : Int32} {A : StM} {f : Nat → Int32} (h : RI H A f) : RF H A f 0 := by
  refine ⟨h.rel, h.sz, ?_, h.mk, h.sp, h.per⟩
  rw [List.drop_zero]
  exact ⟨h.fd.1, h.fd.2.1, h.fd.2.2.1, h.fd.2.2.2.1, h.fd.2.2.2.2.1, h.fd.2.2.2.2.2.1, h.fd.2.2.2.2.2.2.1, h.fd.2.2.2.2.2.2.2⟩
theorem gIns_row {f : Nat → Int32} {xs : List Int32} {n p : Nat} {x : Int32} (hn : n = xs.length) (hf : ∀ i, i < xs.length → f (145 + i) = xs.getD i 0) (hp : p ≤ xs.length) : ∀ i, i < (xs.take p ++ x :: xs.drop p).length → gIns f n p x (145 + i) = (xs.take p ++ x :: xs.drop p).getD i 0 := by
  intro i hi
  rw [ln_ins hp] at hi
  rw [gd_ins hp]
  unfold gIns
  rw [if_neg (by omega)]
  by_cases c1 : i = p
  · rw [if_pos (by omega), if_neg (by omega), if_pos c1]
  · rw [if_neg (by omega), if_neg c1]
    by_cases c2 : i < p
    · rw [if_neg (by omega), if_pos c2, hf i (by omega)]
    · rw [if_pos (by omega), if_neg c2, show 145 + i - 1 = 145 + (i - 1) by omega, hf _ (by omega)]
section DY
variable {H : Int32} {A : StM} {ρ : Nat} {M : MdM} {f : Nat → Int32}
theorem s_refileL : ∀ (n i : Nat) (A : StM) (M : MdM), RF H A (M.2 ρ) i → ρ ≠ 7 → i ≤ (A.2 10).length → (A.2 10).length - i < n → ∃ A' M', St_refileTrolley_L2 n A (nI i) = some A' ∧ Md_refile_L2 ρ n M (nI i) = some M' ∧ Sm ρ M M' ∧ RI H A' (M'.2 ρ) ∧ A'.1 = A.1 ∧ A'.2 11 = A.2 11 ∧ (A'.2 15).getD 4 0 = (A.2 15).getD 4 0 := by
  intro n
  induction n with
  | zero => intro i A M h hρ h1 h2; omega
  | succ n ih =>
    intro i A M h hρ h1 h2
    obtain ⟨hr, hz, hF, hm, hs, hp⟩ := h
    have hw : RW H A (M.2 ρ) := ⟨hr, hz, hF.2.2.1⟩
    have zl := hz.l
    have zt := hz.t
    have zf := hz.f
    have ze2 := hz.e2
    have ze15 := hz.e15
    unfold St_refileTrolley_L2 Md_refile_L2
    rw [tn7, hr.nt]
    by_cases hi : (A.2 10).length ≤ i
    · rw [if_pos ((q_le (by omega) (by omega)).mpr hi), if_pos ((q_le (by omega) (by omega)).mpr hi)]
      rw [show Md_tally ρ M 8 (nI (A.2 10).length) = _ from e_tally (a := 8) (by omega) (by omega), bs]
      refine ⟨_, _, rfl, rfl, ?_, ?_, rfl, rfl, ?_⟩
      · rw [setA_A]; exact Sm.setA _ _ _
      · rw [setA_s, setA_s]
        have e0 : (A.2 10).drop i = [] := List.drop_eq_nil_of_le hi
        rw [e0] at hF
        have r1 := hr.tally hz (a := 8) (by omega) (by omega) (M.2 ρ (6 + 8) + nI (A.2 10).length)
        have z1 : Sz (setL A 15 ((A.2 15).set 8 (M.2 ρ (6 + 8) + nI (A.2 10).length))) := hz.len (setL_len (by rw [List.length_set]))
        have z2 : Sz (setL (setL A 15 (lnraise (A.2 15) 8 (nI (A.2 10).length))) 10 []) := by
          rw [show lnraise (A.2 15) 8 (nI (A.2 10).length) = _ from lr_ac hr hz (a := 8) (by omega) (by omega) _]
          exact ⟨z1.1, z1.2.1, z1.2.2.1, z1.2.2.2.1, z1.2.2.2.2.1, z1.2.2.2.2.2.1, z1.2.2.2.2.2.2.1, z1.2.2.2.2.2.2.2.1, Nat.zero_le _, z1.2.2.2.2.2.2.2.2.2⟩
        refine ⟨?_, z2, ?_, hm, hs, hp⟩
        · rw [show lnraise (A.2 15) 8 (nI (A.2 10).length) = _ from lr_ac hr hz (a := 8) (by omega) (by omega) _]
          refine r1.ontrol z1 rfl (fun j q => setL_n _ _ q) (fun j q _ => if_neg q) (if_pos rfl) (fun j hj => ?_)
          rw [setL_s] at hj
          exact absurd hj (Nat.not_lt_zero j)
        · exact ⟨hF.1, hF.2.1, hF.2.2.1, hF.2.2.2.1, hF.2.2.2.2.1, hF.2.2.2.2.2.1, hF.2.2.2.2.2.2.1, hF.2.2.2.2.2.2.2⟩
      · show (lnraise (A.2 15) 8 (nI (A.2 10).length)).getD 4 0 = _
        rw [show lnraise (A.2 15) 8 (nI (A.2 10).length) = _ from lr_ac hr hz (a := 8) (by omega) (by omega) _, getD_set _ _ _ _ (by omega), if_neg (by omega)]
    · have hn : ¬ nI (A.2 10).length ≤ nI i := fun q => hi ((q_le (by omega) (by omega)).mp q)
      have hi' : i < (A.2 10).length := by omega
      have hd := drop_getD (A.2 10) i hi'
      obtain ⟨k, hk, ek, sk⟩ := hF.2.2.2.1 ((A.2 10).getD i 0) (by rw [setL_s, hd]; exact List.mem_cons_self)
      have hk : k < (A.2 0).length := hk
      have sk : (A.2 2).getD k 0 = 2 := sk
      have htr : M.2 ρ (169 + i) = nI k := by
        have := hr.tr i hi'
        rw [Nat.one_mul] at this
        rw [this, ek]
      rw [if_neg hn, if_neg hn, show (169 : Int32) = nI 169 from rfl, nI_add, if_pos (q_in (by omega) (by omega)), q_cl (by omega), htr, lu, of0 (by omega), bs, hr.mk k hk, lg_in hi' (by omega), ek, lu, lg_in hk (by omega), lu]
      obtain ⟨r, L, M1, e1, e2, e3⟩ := s_halve hw hρ ((A.2 0).getD k 0)
      have nrow : nI k ∉ A.2 7 := fun hx => by
        obtain ⟨k', hk', ek', sk'⟩ := hF.2.2.1 _ hx
        have hk' : k' < (A.2 0).length := hk'
        have : k = k' := (q_eq (by omega) (by omega)).mp ek'
        subst this
        have sk' : (A.2 2).getD k 0 = 0 := sk'
        rw [sk] at sk'
        exact absurd sk' (by decide)
      obtain ⟨x1, x2, x3, x4, x5, x6, x7, q, hq, x8⟩ := e3
      have hr1 : r = -1 ∧ M1.1 12 = Rw_placeBehindMiss (setL A 8 L) ((A.2 0).getD k 0) := by
        rcases x7 with x7 | ⟨p, hp1, hp2, hp3, hp4⟩
        · exact x7
        · obtain ⟨k', hk', ek', em'⟩ := markAt_k hw hp1
          have hkk : k' = k := nd_inj hm.1 hk' hk (by rw [← em', hp3])
          exact absurd (by rw [← hkk, ← ek']; exact gd_mem hp1) nrow
      obtain ⟨rfl, hpb⟩ := hr1
      have hlen : (A.2 7).length < 24 := by
        have g1 : (nI k :: A.2 7).Nodup := List.nodup_cons.mpr ⟨nrow, hF.1⟩
        have := nd_len (A.2 0).length g1 (fun x hx => by
          rcases List.mem_cons.mp hx with rfl | hx
          · exact ⟨k, hk, rfl⟩
          · obtain ⟨k', hk', ek', -⟩ := hF.2.2.1 x hx
            exact ⟨k', hk', ek'⟩)
        rw [List.length_cons] at this
        omega
      rw [e1, e2, bs, bs, lu, show Md_tally ρ M1 7 (M1.1 11) = _ from e_tally (a := 7) (by omega) (by omega), bs, lay2 (by omega), bs]
      rw [show (setA (setA M1 ρ (upd (M1.2 ρ) (6 + 7) (M1.2 ρ (6 + 7) + M1.1 11))) ρ (upd ((setA M1 ρ (upd (M1.2 ρ) (6 + 7) (M1.2 ρ (6 + 7) + M1.1 11))).2 ρ) (27 + 5 * k) 0)).1 12 = nI q from x8]
      rw [setA_A, setA_s, x2 ρ hρ, x3]
      rw [m_insert (M := setA M1 ρ (upd (upd (M.2 ρ) (6 + 7) (M.2 ρ (6 + 7) + nI L.length)) (27 + 5 * k) 0)) (n := (A.2 7).length) (by rw [setA_s]; exact (if_neg (by omega)).trans ((if_neg (by omega)).trans hr.nl)) hq (by omega), bs, setA_A, setA_s, nI_1]
      have hA1 : Rw_placeBehindMiss (setL (setL A 8 L) 15 (lnraise ((setL A 8 L).2 15) 7 (nI ((setL A 8 L).2 8).length))) ((A.2 0).getD k 0) = nI q := hpb.symm.trans x8
      dsimp only
      rw [hA1]
      have elr : lnraise ((setL A 8 L).2 15) 7 (nI ((setL A 8 L).2 8).length) = (A.2 15).set 7 (M.2 ρ (6 + 7) + nI L.length) := lr_ac hr hz (a := 7) (by omega) (by omega) _
      have eli : lnins 24 ((setL A 8 L).2 7) (nI q) (nI k) = (A.2 7).take q ++ nI k :: (A.2 7).drop q := li_in _ hq hlen (by omega)
      have els : lnset ((setL A 8 L).2 2) (nI k) 0 = (A.2 2).set k 0 := ls_in (xs := A.2 2) 0 (by omega) (by omega)
      rw [elr, eli, els]
      have r1 := hr.tally hz (a := 7) (by omega) (by omega) (M.2 ρ (6 + 7) + nI L.length)
      have z1 : Sz (setL A 15 ((A.2 15).set 7 (M.2 ρ (6 + 7) + nI L.length))) := hz.len (setL_len (by rw [List.length_set]))
      have r2 : Rel H (setL (setL A 15 ((A.2 15).set 7 (M.2 ρ (6 + 7) + nI L.length))) 2 ((A.2 2).set k 0)) (upd (upd (M.2 ρ) (6 + 7) (M.2 ρ (6 + 7) + nI L.length)) (27 + 5 * k) 0) := by
        refine r1.onfold z1 rfl (fun j _ b _ _ => setL_n _ _ b) (fun j hj => if_neg (by omega)) ?_ ?_ ?_ ?_
        · exact Arr.ne (xs := A.2 1) r1.em (fun i hi => by have := hz.e1; omega)
        · exact Arr.set (xs := A.2 2) r1.st (by omega) (by omega)
        · intro i hi e
          have e : ((A.2 2).set k 0).getD i 0 = 1 := e
          rw [getD_set _ _ _ _ (by omega)] at e
          by_cases c : i = k
          · rw [if_pos c] at e; exact absurd e (by decide)
          · rw [if_neg c] at e
            exact (if_neg (by omega)).trans (r1.wi i hi e)
        · exact Arr.ne (xs := A.2 4) r1.tm (fun i hi => by have := hz.e4; omega)
      have z2 : Sz (setL (setL A 15 ((A.2 15).set 7 (M.2 ρ (6 + 7) + nI L.length))) 2 ((A.2 2).set k 0)) := z1.len (setL_len (by rw [List.length_set]; rfl))
      have hli := ln_ins (v := nI k) hq
      have r3 : Rel H (setL (setL (setL A 15 ((A.2 15).set 7 (M.2 ρ (6 + 7) + nI L.length))) 2 ((A.2 2).set k 0)) 7 ((A.2 7).take q ++ nI k :: (A.2 7).drop q)) (gIns (upd (upd (M.2 ρ) (6 + 7) (M.2 ρ (6 + 7) + nI L.length)) (27 + 5 * k) 0) (A.2 7).length q (nI k)) := by
        refine r2.onrow z2 rfl (fun j a _ _ => setL_n _ _ a) (fun j a b => ?_) ?_ ?_
        · unfold gIns
          rw [if_neg a, if_neg (by omega), if_neg (by omega)]
        · rw [setL_s, hli]
          refine (if_pos rfl).trans ?_
          rw [r2.nl, nI_1]; rfl
        · rw [setL_s]
          exact gIns_row rfl (fun i hi => r2.rw i hi |> fun e => by rw [Nat.one_mul] at e; exact e) hq
      have hgo := ih (i + 1) (setL (setL (setL (setL A 8 L) 15 ((A.2 15).set 7 (M.2 ρ (6 + 7) + nI L.length))) 7 ((A.2 7).take q ++ nI k :: (A.2 7).drop q)) 2 ((A.2 2).set k 0)) (setA M1 ρ (gIns (upd (upd (M.2 ρ) (6 + 7) (M.2 ρ (6 + 7) + nI L.length)) (27 + 5 * k) 0) (A.2 7).length q (nI k)))
      have hsw : ∀ j, (setL (setL (setL (setL A 8 L) 15 ((A.2 15).set 7 (M.2 ρ (6 + 7) + nI L.length))) 7 ((A.2 7).take q ++ nI k :: (A.2 7).drop q)) 2 ((A.2 2).set k 0)) = (setL (setL (setL (setL A 15 ((A.2 15).set 7 (M.2 ρ (6 + 7) + nI L.length))) 2 ((A.2 2).set k 0)) 7 ((A.2 7).take q ++ nI k :: (A.2 7).drop q)) 8 L) := fun _ => Prod.ext rfl (funext fun j => by
        show (if j = 2 then _ else if j = 7 then _ else if j = 15 then _ else if j = 8 then _ else _) = (if j = 8 then _ else if j = 7 then _ else if j = 2 then _ else if j = 15 then _ else _)
        by_cases c1 : j = 2
        · subst c1; rfl
        · by_cases c2 : j = 7
          · subst c2; rfl
          · by_cases c3 : j = 15
            · subst c3; rfl
            · rw [if_neg c1, if_neg c2, if_neg c3, if_neg c2, if_neg c1, if_neg c3])
      obtain ⟨A', M', g1, g2, g3, g4, g5, g6, g7⟩ := hgo (by
        refine ⟨?_, ?_, ?_, hm, hs, hp⟩
        · rw [setA_s, hsw 0]; exact r3
        · rw [hsw 0]
          have := z2.set7 (ys := (A.2 7).take q ++ nI k :: (A.2 7).drop q) (by omega)
          exact this
        · have hst : ∀ j, j < (A.2 0).length → ((A.2 2).set k 0).getD j 0 = if j = k then 0 else (A.2 2).getD j 0 := fun j hj => getD_set _ _ _ _ (by omega)
          obtain ⟨b1, b2, b3, b4, b5, b6, b7, b8⟩ := hF
          have b2 : ((A.2 10).drop i).Nodup := b2
          rw [hd, ek] at b2
          have b2' := List.nodup_cons.mp b2
          refine ⟨nd_ins b1 nrow, b2'.2, fun x hx => ?_, fun x hx => ?_, fun j hj e => ?_, fun j hj e => ?_, fun j hj => ?_, b8⟩
          · rcases mem_ins.mp hx with rfl | hx
            · exact ⟨k, hk, rfl, (hst k hk).trans (if_pos rfl)⟩
            · obtain ⟨k', c1, c2, c3⟩ := b3 x hx
              refine ⟨k', c1, c2, (hst k' c1).trans ?_⟩
              by_cases c : k' = k
              · rw [if_pos c]
              · rw [if_neg c]; exact c3
          · obtain ⟨k', c1, c2, c3⟩ := b4 x (by rw [setL_s, hd]; exact List.mem_cons_of_mem _ hx)
            refine ⟨k', c1, c2, (hst k' c1).trans ?_⟩
            rw [if_neg (fun c => b2'.1 (by rw [← c, ← c2]; exact hx))]
            exact c3
          · have e := (hst j hj).symm.trans e
            by_cases c : j = k
            · rw [c]; exact mem_ins.mpr (Or.inl rfl)
            · rw [if_neg c] at e
              exact mem_ins.mpr (Or.inr (b5 j hj e))
          · have e := (hst j hj).symm.trans e
            by_cases c : j = k
            · rw [if_pos c] at e; exact absurd e (by decide)
            · rw [if_neg c] at e
              have := b6 j hj e
              have this : nI j ∈ (A.2 10).drop i := this
              rw [hd, ek] at this
              rcases List.mem_cons.mp this with c' | c'
              · exact absurd ((q_eq (by have : j < (A.2 0).length := hj; omega) (by omega)).mp c') c
              · exact c'
          · have := b7 j hj
            show ((((A.2 2).set k 0).getD j 0 = 0 ∨ ((A.2 2).set k 0).getD j 0 = 2) ∧ _) ∨ (((A.2 2).set k 0).getD j 0 = 1 ∧ _)
            rw [hst j hj]
            by_cases c : j = k
            · rw [if_pos c]
              rcases this with ⟨-, t2⟩ | ⟨t1, -⟩
              · exact Or.inl ⟨Or.inl rfl, t2⟩
              · rw [c] at t1
                have t1 : (A.2 2).getD k 0 = 1 := t1
                rw [sk] at t1
                exact absurd t1 (by decide)
            · rw [if_neg c]; exact this) hρ (by show i + 1 ≤ (A.2 10).length; omega) (by show (A.2 10).length - (i + 1) < n; omega)
      refine ⟨A', M', g1, g2, ?_, g4, g5, g6, g7.trans ?_⟩
      · have s1 : Sm ρ M M1 := ⟨fun k b c => x1 k b c, fun j _ b _ => x2 j b⟩
        exact (s1.tr (Sm.setA _ _ _)).tr g3
      · show ((A.2 15).set 7 _).getD 4 0 = _
        rw [getD_set _ _ _ _ (by omega), if_neg (by omega)]
theorem s_refile (h : RI H A (M.2 ρ)) (hρ : ρ ≠ 7) : ∃ A' M', St_refileTrolley A = some A' ∧ Md_refile ρ M = some M' ∧ Sm ρ M M' ∧ RI H A' (M'.2 ρ) ∧ A'.1 = A.1 ∧ A'.2 11 = A.2 11 ∧ (A'.2 15).getD 4 0 = (A.2 15).getD 4 0 := by
  have := h.sz.t
  exact s_refileL FU 0 A M h.rf hρ (Nat.zero_le _) (FU_gt (by omega))
end DY
/-! a day: searches -/
def gSl (f : Nat → Int32) (c s : Nat) : Nat → Int32 := fun j => if 193 + 4 * s ≤ j ∧ j < 193 + 4 * c then f (j + 4) else f j
theorem lnrem_len {xs : List Int32} {s : Nat} (h : s < xs.length) (hl : xs.length ≤ 1000) : (lnrem xs (nI s)).length = xs.length - 1 := by
  rw [lm_in h hl, ln_rem h]
theorem lnrem_gd {xs : List Int32} {s : Nat} (h : s < xs.length) (hl : xs.length ≤ 1000) (i : Nat) : (lnrem xs (nI s)).getD i 0 = if i < s then xs.getD i 0 else xs.getD (i + 1) 0 := by
  rw [lm_in h hl, gd_rem h]
section DY
variable {H : Int32} {A : StM} {ρ : Nat} {M : MdM} {f : Nat → Int32}
theorem m_shiftS {c : Nat} (hc : c < 64) : ∀ (m j s : Nat) (M1 : MdM) (y : Int32), 193 ≤ j → j ≤ 193 + 4 * c → 193 + 4 * c - j < m → M1.2 ρ 8 = nI c → Md_removeSlip_L19 ρ m M1 y (nI j) = some (setA M1 ρ (fun q => if j ≤ q ∧ q < 193 + 4 * c then M1.2 ρ (q + 4) else M1.2 ρ q)) := by
  intro m
  induction m with
  | zero => intro j s M1 y h1 h2 h3; omega
  | succ m ih =>
    intro j s M1 y h1 h2 h3 h4
    unfold Md_removeSlip_L19
    rw [tn8, h4, show (193 : Int32) = nI 193 from rfl, show (4 : Int32) = nI 4 from rfl, pk_mul, nI_add, nI_add]
    by_cases hk : 193 + 4 * c ≤ j
    · rw [if_pos ((q_le (by omega) (by omega)).mpr hk)]
      congr 1
      refine Prod.ext rfl (funext fun q => ?_)
      by_cases hq : q = ρ
      · subst hq
        rw [setA_s]
        funext i
        exact (if_neg (by omega)).symm
      · exact (setA_n _ _ hq).symm
    · rw [if_neg (fun q => hk ((q_le (by omega) (by omega)).mp q))]
      by_cases hj : j + 4 < 257
      · rw [if_pos (q_in hj (by omega)), if_pos (q_in (by omega) (by omega)), q_cl (by omega), q_cl (by omega), nI_1, ih (j + 1) s _ y (by omega) (by omega) (by omega) (by rw [setA_s]; exact (if_neg (by omega)).trans h4), setA_A, setA_s]
        congr 3
        funext i
        unfold upd
        by_cases h8 : i = j
        · rw [if_neg (by omega), if_pos h8, if_pos (by omega), h8]
        · by_cases h9 : j + 1 ≤ i ∧ i < 193 + 4 * c
          · rw [if_pos h9, if_pos (by omega), if_neg (by omega)]
          · rw [if_neg h9, if_neg (by omega), if_neg h8]
      · omega
theorem m_removeSlip {c s : Nat} (h8 : M.2 ρ 8 = nI (c + 1)) (hc : c < 16) (hs : s ≤ c) : Md_removeSlip ρ M (nI s) = some (setA M ρ (gSl (upd (M.2 ρ) 8 (nI c)) c s)) := by
  unfold Md_removeSlip
  rw [tn8, h8, nI_pred, show (193 : Int32) = nI 193 from rfl, show (4 : Int32) = nI 4 from rfl, pk_mul, nI_add, lu]
  rw [m_shiftS (c := c) (by omega) FU (193 + 4 * s) s _ (nI s) (by omega) (by omega) (FU_gt (by omega)) (by rw [setA_s]; exact if_pos rfl), setA_A, setA_s]
  rfl
theorem Arr.shift {b : Nat} {xs : List Int32} {c s : Nat} (hb : 193 ≤ b ∧ b < 197) (h : Arr f b 4 xs) (hl : xs.length = c + 1) (hs : s ≤ c) (hc : c < 16) (v : Int32) : Arr (gSl (upd f 8 v) c s) b 4 (lnrem xs (nI s)) := by
  intro i hi
  rw [lnrem_len (by omega) (by omega)] at hi
  rw [lnrem_gd (by omega) (by omega)]
  unfold gSl
  by_cases c1 : i < s
  · rw [if_neg (by omega), if_pos c1, ← h i (by omega)]
    exact if_neg (by omega)
  · rw [if_pos (by omega), if_neg c1, ← h (i + 1) (by omega), show b + 4 * i + 4 = b + 4 * (i + 1) by omega]
    exact if_neg (by omega)
/-- a slip taken away: the relation, the sizes, the slips -/
theorem Rel.rmslip (h : Rel H A f) (hz : Sz A) {s : Nat} (hs : s < (A.2 11).length) : Rel H (Sl_removeAt A (nI s)) (gSl (upd f 8 (nI ((A.2 11).length - 1))) ((A.2 11).length - 1) s) := by
  have z := hz.s
  have z12 := hz.e12
  have z13 := hz.e13
  have z14 := hz.e14
  refine h.onslips hz rfl (fun j a b c d => ?_) (fun j a b => ?_) ?_ ?_ ?_ ?_ ?_
  · unfold Sl_removeAt
    rw [setL_n _ _ d, setL_n _ _ c, setL_n _ _ b, setL_n _ _ a]
  · unfold gSl
    rw [if_neg (by omega)]
    exact if_neg a
  · show gSl (upd f 8 (nI ((A.2 11).length - 1))) ((A.2 11).length - 1) s 8 = nI (lnrem (A.2 11) (nI s)).length
    rw [lnrem_len hs (by omega)]
    unfold gSl
    rw [if_neg (by omega)]
    exact if_pos rfl
  · exact Arr.shift (xs := A.2 11) (by omega) h.s0 (by omega) (by omega) (by omega) _
  · exact Arr.shift (xs := A.2 12) (by omega) h.s1 (by omega) (by omega) (by omega) _
  · exact Arr.shift (xs := A.2 13) (by omega) h.s2 (by omega) (by omega) (by omega) _
  · exact Arr.shift (xs := A.2 14) (by omega) h.s3 (by omega) (by omega) (by omega) _
theorem Sz.rmslip (hz : Sz A) {s : Nat} (hs : s < (A.2 11).length) : Sz (Sl_removeAt A (nI s)) := by
  have z := hz.s
  have z12 := hz.e12
  have z13 := hz.e13
  have z14 := hz.e14
  refine ⟨hz.1, hz.2.1, hz.2.2.1, hz.2.2.2.1, hz.2.2.2.2.1, hz.2.2.2.2.2.1, hz.2.2.2.2.2.2.1, hz.2.2.2.2.2.2.2.1, hz.2.2.2.2.2.2.2.2.1, ?_, ?_, ?_, ?_, hz.e15⟩
  · show (lnrem (A.2 11) (nI s)).length ≤ 16
    rw [lnrem_len hs (by omega)]; omega
  · show (lnrem (A.2 12) (nI s)).length = (lnrem (A.2 11) (nI s)).length
    rw [lnrem_len (by omega) (by omega), lnrem_len hs (by omega)]; omega
  · show (lnrem (A.2 13) (nI s)).length = (lnrem (A.2 11) (nI s)).length
    rw [lnrem_len (by omega) (by omega), lnrem_len hs (by omega)]; omega
  · show (lnrem (A.2 14) (nI s)).length = (lnrem (A.2 11) (nI s)).length
    rw [lnrem_len (by omega) (by omega), lnrem_len hs (by omega)]; omega
theorem Sp.rmslip (hp : Sp A) (hz : Sz A) {s : Nat} (hs : s < (A.2 11).length) : Sp (Sl_removeAt A (nI s)) := by
  have z := hz.s
  have z12 := hz.e12
  intro i hi
  have hi : i < (lnrem (A.2 11) (nI s)).length := hi
  rw [lnrem_len hs (by omega)] at hi
  show (∃ r, r < (A.2 5).length ∧ (lnrem (A.2 11) (nI s)).getD i 0 = nI r) ∧ ∃ k, k < (A.2 0).length ∧ (lnrem (A.2 12) (nI s)).getD i 0 = nI k
  rw [lnrem_gd hs (by omega), lnrem_gd (by omega) (by omega)]
  by_cases c : i < s
  · rw [if_pos c, if_pos c]; exact hp i (by omega)
  · rw [if_neg c, if_neg c]; exact hp (i + 1) (by omega)
theorem RI.rmslip (h : RI H A f) {s : Nat} (hs : s < (A.2 11).length) : RI H (Sl_removeAt A (nI s)) (gSl (upd f 8 (nI ((A.2 11).length - 1))) ((A.2 11).length - 1) s) :=
  ⟨h.rel.rmslip h.sz hs, h.sz.rmslip hs, h.fd, h.mk, h.sp.rmslip h.sz hs, h.per⟩
theorem cnt_set {xs : List Int32} {k : Nat} (hk : k < xs.length) (v a : Int32) : (xs.set k v).count a + (if xs.getD k 0 = a then 1 else 0) = xs.count a + (if v = a then 1 else 0) := by
  have h0 : ∀ ys : List Int32, k < ys.length → ys.count a = (ys.take k).count a + ((if ys.getD k 0 = a then 1 else 0) + (ys.drop (k + 1)).count a) := by
    intro ys hy
    conv => lhs; rw [← List.take_append_drop k ys]
    rw [List.count_append, cnt_drop ys a k hy]
  rw [h0 (xs.set k v) (by rw [List.length_set]; exact hk), h0 xs hk, getD_set _ _ _ _ hk, if_pos rfl, List.take_set_of_le (Nat.le_refl _), List.drop_set_of_lt (Nat.lt_succ_self _)]
  omega
/-- what serving does to the folders -/
theorem Fd.serve (h : Fd A) (hz : Sz A) {k r q : Nat} (hk : k < (A.2 0).length) (hr : r < (A.2 5).length) (hq : q < (A.2 7).length) (eq : (A.2 7).getD q 0 = nI k) (sk : (A.2 2).getD k 0 = 0) {A' : StM} (e0 : A'.2 0 = A.2 0) (e7 : A'.2 7 = (A.2 7).take q ++ (A.2 7).drop (q + 1)) (e10 : A'.2 10 = A.2 10) (e2 : A'.2 2 = (A.2 2).set k 1) (e3 : A'.2 3 = (A.2 3).set k (nI r)) (e5 : A'.2 5 = (A.2 5).set r ((A.2 5).getD r 0 + 1)) : Fd A' := by
  have zf := hz.f
  have z2 := hz.e2
  have z3 := hz.e3
  have zr := hz.r
  obtain ⟨b1, b2, b3, b4, b5, b6, b7, b8⟩ := h
  have hst : ∀ j, j < (A.2 0).length → (A'.2 2).getD j 0 = if j = k then 1 else (A.2 2).getD j 0 := fun j hj => by rw [e2]; exact getD_set _ _ _ _ (by omega)
  have hho : ∀ j, j < (A.2 0).length → (A'.2 3).getD j 0 = if j = k then nI r else (A.2 3).getD j 0 := fun j hj => by rw [e3]; exact getD_set _ _ _ _ (by omega)
  have hm : ∀ x, x ∈ A'.2 7 ↔ x ∈ A.2 7 ∧ x ≠ nI k := fun x => by rw [e7, mem_rem b1 hq, eq]
  have hl5 : (A'.2 5).length = (A.2 5).length := by rw [e5, List.length_set]
  refine ⟨by rw [e7]; exact nd_rem b1, by rw [e10]; exact b2, fun x hx => ?_, fun x hx => ?_, fun j hj e => ?_, fun j hj e => ?_, fun j hj => ?_, fun j hj => ?_⟩
  · obtain ⟨h1, h2⟩ := (hm x).mp hx
    obtain ⟨k', c1, c2, c3⟩ := b3 x h1
    refine ⟨k', by rw [e0]; exact c1, c2, ?_⟩
    rw [hst k' c1, if_neg (fun c => h2 (by rw [c2, c]))]
    exact c3
  · rw [e10] at hx
    obtain ⟨k', c1, c2, c3⟩ := b4 x hx
    refine ⟨k', by rw [e0]; exact c1, c2, ?_⟩
    rw [hst k' c1, if_neg (fun c => by rw [c, sk] at c3; exact absurd c3 (by decide))]
    exact c3
  · rw [e0] at hj
    rw [hst j hj] at e
    by_cases c : j = k
    · rw [if_pos c] at e; exact absurd e (by decide)
    · rw [if_neg c] at e
      exact (hm _).mpr ⟨b5 j hj e, fun c' => c ((q_eq (by omega) (by omega)).mp c')⟩
  · rw [e0] at hj
    rw [hst j hj] at e
    by_cases c : j = k
    · rw [if_pos c] at e; exact absurd e (by decide)
    · rw [if_neg c] at e
      rw [e10]; exact b6 j hj e
  · rw [e0] at hj
    rw [hst j hj, hho j hj, hl5]
    by_cases c : j = k
    · rw [if_pos c, if_pos c]; exact Or.inr ⟨rfl, r, hr, rfl⟩
    · rw [if_neg c, if_neg c]; exact b7 j hj
  · rw [hl5] at hj
    rw [e5, e3, getD_set _ _ _ _ hr]
    have h1 := cnt_set (xs := A.2 3) (k := k) (by omega) (nI r) (nI j)
    have h2 : (A.2 3).getD k 0 = -1 := by
      rcases b7 k hk with ⟨-, t⟩ | ⟨t, -⟩
      · exact t
      · rw [sk] at t; exact absurd t (by decide)
    rw [h2, if_neg (fun c => q_m1 (a := j) (by omega) c.symm)] at h1
    by_cases c : j = r
    · subst c
      rw [if_pos rfl] at h1
      rw [if_pos rfl, b8 j hj, nI_1]
      congr 1
      omega
    · rw [if_neg (fun c' => c ((q_eq (by omega) (by omega)).mp c').symm)] at h1
      rw [if_neg c, b8 j hj]
      congr 1
      omega
theorem s_serve (h : RI H A (M.2 ρ)) {s k : Nat} (hs : s < (A.2 11).length) (hk : k < (A.2 0).length) (ek : (A.2 12).getD s 0 = nI k) (sk : (A.2 2).getD k 0 = 0) : ∃ M', Md_serve ρ M (nI s) = some M' ∧ Sm ρ M M' ∧ RI H (St_serve A (nI s)) (M'.2 ρ) ∧ (St_serve A (nI s)).1 = A.1 ∧ ((St_serve A (nI s)).2 15).getD 4 0 = (A.2 15).getD 4 0 + 1 ∧ ((St_serve A (nI s)).2 11).length = (A.2 11).length - 1 := by
  have z := h.sz
  have zl := z.l
  have zf := z.f
  have zr := z.r
  have zs := z.s
  have z2 := z.e2
  have z3 := z.e3
  have z4 := z.e4
  have z6 := z.e6
  have z12 := z.e12
  have z13 := z.e13
  have z15 := z.e15
  obtain ⟨⟨r, hr, er⟩, -⟩ := h.sp s hs
  obtain ⟨q, hq, eq, lq, e1⟩ := m_remove h (h.fd.2.2.2.2.1 k hk sk)
  obtain ⟨c, hc⟩ : ∃ c, (A.2 11).length = c + 1 := ⟨(A.2 11).length - 1, by omega⟩
  -- the relation, step by step
  have hlr := ln_rem hq
  have r1 : Rel H (setL A 7 ((A.2 7).take q ++ (A.2 7).drop (q + 1))) (gRem (M.2 ρ) ((A.2 7).length - 1) q) := by
    refine h.rel.onrow z rfl (fun j a _ _ => setL_n _ _ a) (fun j a b => ?_) ?_ ?_
    · unfold gRem gSh
      rw [if_neg (by omega)]
      exact if_neg a
    · rw [setL_s, hlr]
      unfold gRem gSh
      rw [if_neg (by omega)]
      refine (if_pos rfl).trans ?_
      rw [h.rel.nl]
      obtain ⟨d, hd⟩ : ∃ d, (A.2 7).length = d + 1 := ⟨(A.2 7).length - 1, by omega⟩
      rw [hd, nI_pred]; rfl
    · rw [setL_s]
      intro i hi
      rw [hlr] at hi
      rw [gd_rem hq]
      unfold gRem gSh
      by_cases c1 : i < q
      · rw [if_neg (by omega), if_pos c1, ← h.row (by omega)]; exact if_neg (by omega)
      · rw [if_pos (by omega), if_neg c1, ← h.row (by omega)]; exact if_neg (by omega)
  have y1 : Sz (setL A 7 ((A.2 7).take q ++ (A.2 7).drop (q + 1))) := z.set7 (by omega)
  generalize hg1 : gRem (M.2 ρ) ((A.2 7).length - 1) q = g1 at r1 e1
  have r4 : Rel H (setL (setL (setL (setL A 7 ((A.2 7).take q ++ (A.2 7).drop (q + 1))) 2 ((A.2 2).set k 1)) 3 ((A.2 3).set k (nI r))) 4 ((A.2 4).set k ((A.2 4).getD k 0 + 1))) (upd (upd (upd g1 (27 + 5 * k) 1) (28 + 5 * k) (nI r)) (29 + 5 * k) ((A.2 4).getD k 0 + 1)) := by
    refine r1.onfold y1 rfl (fun j a b c d => ?_) (fun j hj => ?_) ?_ ?_ ?_ ?_
    · rw [setL_n _ _ d, setL_n _ _ c, setL_n _ _ b]
    · exact (if_neg (by omega)).trans ((if_neg (by omega)).trans (if_neg (by omega)))
    · exact (((Arr.ne (xs := A.2 1) r1.em (fun i hi => by omega)).ne (fun i hi => by omega)).ne (fun i hi => by omega))
    · exact (((Arr.set (xs := A.2 2) r1.st (by omega) (by omega)).ne (fun i hi => by omega)).ne (fun i hi => by omega))
    · intro i hi e
      have hi : i < ((A.2 3).set k (nI r)).length := hi
      rw [List.length_set] at hi
      have e : ((A.2 2).set k 1).getD i 0 = 1 := e
      show _ = ((A.2 3).set k (nI r)).getD i 0
      rw [getD_set _ _ _ _ (by omega)] at e
      rw [getD_set _ _ _ _ (by omega)]
      unfold upd
      by_cases c1 : i = k
      · rw [if_neg (by omega), if_pos (by omega), if_pos c1]
      · rw [if_neg c1] at e
        rw [if_neg (by omega), if_neg (by omega), if_neg (by omega), if_neg c1]
        exact r1.wi i hi e
    · exact Arr.set (xs := A.2 4) (((Arr.ne (xs := A.2 4) r1.tm (fun i hi => by omega)).ne (fun i hi => by omega))) (by omega) (by omega)
  have y4 : Sz (setL (setL (setL (setL A 7 ((A.2 7).take q ++ (A.2 7).drop (q + 1))) 2 ((A.2 2).set k 1)) 3 ((A.2 3).set k (nI r))) 4 ((A.2 4).set k ((A.2 4).getD k 0 + 1))) :=
    ((y1.len (setL_len (by rw [List.length_set]; rfl))).len (setL_len (by rw [List.length_set]; rfl))).len (setL_len (by rw [List.length_set]; rfl))
  generalize hA4 : setL (setL (setL (setL A 7 ((A.2 7).take q ++ (A.2 7).drop (q + 1))) 2 ((A.2 2).set k 1)) 3 ((A.2 3).set k (nI r))) 4 ((A.2 4).set k ((A.2 4).getD k 0 + 1)) = A4 at r4 y4
  have f4 : ∀ j, j ≠ 7 → j ≠ 2 → j ≠ 3 → j ≠ 4 → A4.2 j = A.2 j := fun j a b c d => by rw [← hA4, setL_n _ _ d, setL_n _ _ c, setL_n _ _ b, setL_n _ _ a]
  generalize hg4 : upd (upd (upd g1 (27 + 5 * k) 1) (28 + 5 * k) (nI r)) (29 + 5 * k) ((A.2 4).getD k 0 + 1) = g4 at r4
  have r5 : Rel H (setL A4 5 ((A.2 5).set r ((A.2 5).getD r 0 + 1))) g4 := r4.onhave y4 rfl (fun j a => setL_n _ _ a) (fun _ => rfl) (by rw [setL_s, List.length_set, r4.nr, f4 5 (by decide) (by decide) (by decide) (by decide)])
  have y5 : Sz (setL A4 5 ((A.2 5).set r ((A.2 5).getD r 0 + 1))) := y4.len (setL_len (by rw [List.length_set, f4 5 (by decide) (by decide) (by decide) (by decide)]))
  have h17 : g4 (17 + r) = (A.2 6).getD r 0 := by
    have := r4.sv
    rw [f4 6 (by decide) (by decide) (by decide) (by decide)] at this
    have := this r (by omega)
    rwa [Nat.one_mul] at this
  have r6 : Rel H (setL (setL A4 5 ((A.2 5).set r ((A.2 5).getD r 0 + 1))) 6 ((A.2 6).set r ((A.2 6).getD r 0 + 1))) (upd g4 (17 + r) ((A.2 6).getD r 0 + 1)) := by
    refine r5.onserv y5 rfl (fun j a => setL_n _ _ a) (fun j hj => if_neg (by omega)) ?_
    rw [setL_s]
    have h6 : Arr g4 17 1 (A.2 6) := by
      have := r4.sv
      rwa [f4 6 (by decide) (by decide) (by decide) (by decide)] at this
    have := Arr.set h6 (j := r) (v := (A.2 6).getD r 0 + 1) (by omega) (by omega)
    rwa [Nat.one_mul] at this
  have y6 : Sz (setL (setL A4 5 ((A.2 5).set r ((A.2 5).getD r 0 + 1))) 6 ((A.2 6).set r ((A.2 6).getD r 0 + 1))) := y5.len (setL_len (by rw [List.length_set, setL_n _ _ (by decide), f4 6 (by decide) (by decide) (by decide) (by decide)]))
  generalize hA6 : setL (setL A4 5 ((A.2 5).set r ((A.2 5).getD r 0 + 1))) 6 ((A.2 6).set r ((A.2 6).getD r 0 + 1)) = A6 at r6 y6
  have f6 : ∀ j, j ≠ 7 → j ≠ 2 → j ≠ 3 → j ≠ 4 → j ≠ 5 → j ≠ 6 → A6.2 j = A.2 j := fun j a b c d a' b' => by rw [← hA6, setL_n _ _ b', setL_n _ _ a', f4 j a b c d]
  have f615 : A6.2 15 = A.2 15 := f6 15 (by decide) (by decide) (by decide) (by decide) (by decide) (by decide)
  generalize hg6 : upd g4 (17 + r) ((A.2 6).getD r 0 + 1) = g6 at r6
  have r7 := r6.tally y6 (a := 4) (by omega) (by omega) ((A.2 15).getD 4 0 + 1)
  have y7 : Sz (setL A6 15 ((A6.2 15).set 4 ((A.2 15).getD 4 0 + 1))) := y6.len (setL_len (by rw [List.length_set]))
  have r8 := r7.tally y7 (a := 10) (by omega) (by omega) ((A.2 15).getD 10 0 + (A.1 0 - (A.2 13).getD s 0))
  have y8 := y7.len (setL_len (k := 15) (A := setL A6 15 ((A6.2 15).set 4 ((A.2 15).getD 4 0 + 1))) (ys := (((setL A6 15 ((A6.2 15).set 4 ((A.2 15).getD 4 0 + 1))).2 15).set 10 ((A.2 15).getD 10 0 + (A.1 0 - (A.2 13).getD s 0)))) (by rw [List.length_set]))
  rw [setL_s, setL_L, f615] at r8 y8
  have f11 : (setL A6 15 (((A.2 15).set 4 ((A.2 15).getD 4 0 + 1)).set 10 ((A.2 15).getD 10 0 + (A.1 0 - (A.2 13).getD s 0)))).2 11 = A.2 11 := by
    rw [setL_n _ _ (by decide), f6 11 (by decide) (by decide) (by decide) (by decide) (by decide) (by decide)]
  have r9 := r8.rmslip y8 (s := s) (by rw [f11]; exact hs)
  have y9 := y8.rmslip (s := s) (by rw [f11]; exact hs)
  rw [f11] at r9
  -- what the component computes
  have eS : St_serve A (nI s) = Sl_removeAt (setL A6 15 (((A.2 15).set 4 ((A.2 15).getD 4 0 + 1)).set 10 ((A.2 15).getD 10 0 + (A.1 0 - (A.2 13).getD s 0)))) (nI s) := by
    unfold St_serve
    rw [lg_in (xs := A.2 12) (by omega) (by omega), ek, lu, lg_in (xs := A.2 11) hs (by omega), er, lu, lu, lq, lm_in hq (by omega), ls_in (xs := A.2 2) _ (by omega) (by omega), ls_in (xs := A.2 3) _ (by omega) (by omega), lr_in (xs := A.2 4) _ (by omega) (by omega), lr_in (xs := A.2 5) _ hr (by omega), lr_in (xs := A.2 6) _ (by omega) (by omega), lg_in (xs := A.2 13) (by omega) (by omega), setL_L]
    rw [show lnraise (A.2 15) 4 1 = (A.2 15).set 4 ((A.2 15).getD 4 0 + 1) from lr_in (i := 4) _ (by omega) (by omega)]
    rw [show lnraise ((A.2 15).set 4 ((A.2 15).getD 4 0 + 1)) 10 (A.1 0 - (A.2 13).getD s 0) = _ from lr_in (i := 10) _ (by rw [List.length_set]; omega) (by rw [List.length_set]; omega)]
    rw [getD_set _ _ _ 10 (by omega), if_neg (by omega), hA4, hA6]
  -- what the reference computes
  have eM : Md_serve ρ M (nI s) = some (setA M ρ (gSl (upd (upd (upd g6 (6 + 4) ((A.2 15).getD 4 0 + 1)) (6 + 10) ((A.2 15).getD 10 0 + (A.1 0 - (A.2 13).getD s 0))) 8 (nI c)) c s)) := by
    unfold Md_serve
    rw [os1 (by omega), bs, h.rel.s1 s (by omega), ek, os0 (by omega), bs, h.rel.s0 s hs, er, e1, bs, lu, lay2 (by omega), bs, lay3 (by omega), bs, of4 (by omega), bs, lay4 (by omega), bs]
    simp only [setA_A, setA_s]
    have t4 : upd (upd g1 (27 + 5 * k) 1) (28 + 5 * k) (nI r) (29 + 5 * k) = (A.2 4).getD k 0 := by
      refine (if_neg (by omega)).trans ((if_neg (by omega)).trans ?_)
      exact r1.tm k (show k < (A.2 4).length by omega)
    rw [t4, hg4, show (17 : Int32) = nI 17 from rfl, nI_add, if_pos (q_in (by omega) (by omega)), if_pos (q_in (by omega) (by omega)), q_cl (by omega), h17, hg6]
    rw [show Md_tally ρ (setA M ρ g6) 4 1 = _ from e_tally (a := 4) (by omega) (by omega), bs, os2 (by omega), bs]
    simp only [setA_A, setA_s]
    have t5 : g6 (6 + 4) = (A.2 15).getD 4 0 := by rw [r6.ac 4 (by omega) (by omega), f615]
    have t6 : upd g6 (6 + 4) ((A.2 15).getD 4 0 + 1) (195 + 4 * s) = (A.2 13).getD s 0 := by
      refine (if_neg (by omega)).trans ?_
      have := r6.s2
      rw [f6 13 (by decide) (by decide) (by decide) (by decide) (by decide) (by decide)] at this
      exact this s (by omega)
    have t7 : upd g6 (6 + 4) ((A.2 15).getD 4 0 + 1) 0 = A.1 0 := by
      refine (if_neg (by omega)).trans ?_
      rw [r6.day, ← hA6, ← hA4]; rfl
    rw [t5, tn0, t6, t7]
    rw [show Md_tally ρ (setA M ρ (upd g6 (6 + 4) ((A.2 15).getD 4 0 + 1))) 10 (A.1 0 - (A.2 13).getD s 0) = _ from e_tally (a := 10) (by omega) (by omega), bs]
    simp only [setA_A, setA_s]
    have t8 : upd g6 (6 + 4) ((A.2 15).getD 4 0 + 1) (6 + 10) = (A.2 15).getD 10 0 := by
      refine (if_neg (by omega)).trans ?_
      rw [r6.ac 10 (by omega) (by omega), f615]
    rw [t8, m_removeSlip (c := c) (s := s) (by
      rw [setA_s, r8.ns, f11, hc]) (by omega) (by omega), bs, setA_A, setA_s]
  refine ⟨_, eM, Sm.setA _ _ _, ?_, ?_, ?_, ?_⟩
  · rw [setA_s, eS]
    have hc' : (A.2 11).length - 1 = c := by omega
    rw [hc'] at r9
    refine ⟨r9, y9, ?_, ?_, ?_, ?_⟩
    · refine Fd.serve (A := A) h.fd z hk hr hq eq sk ?_ ?_ ?_ ?_ ?_ ?_
      · show A6.2 0 = _
        exact f6 0 (by decide) (by decide) (by decide) (by decide) (by decide) (by decide)
      · show A6.2 7 = _
        rw [← hA6, ← hA4]; rfl
      · show A6.2 10 = _
        exact f6 10 (by decide) (by decide) (by decide) (by decide) (by decide) (by decide)
      · show A6.2 2 = _
        rw [← hA6, ← hA4]; rfl
      · show A6.2 3 = _
        rw [← hA6, ← hA4]; rfl
      · show A6.2 5 = _
        rw [← hA6]; rfl
    · have hm := h.mk
      unfold Mk
      rw [show (Sl_removeAt (setL A6 15 (((A.2 15).set 4 ((A.2 15).getD 4 0 + 1)).set 10 ((A.2 15).getD 10 0 + (A.1 0 - (A.2 13).getD s 0)))) (nI s)).2 0 = A.2 0 from f6 0 (by decide) (by decide) (by decide) (by decide) (by decide) (by decide)]
      exact hm
    · refine Sp.rmslip ?_ y8 (by rw [f11]; exact hs)
      intro i hi
      rw [f11] at hi ⊢
      rw [show (setL A6 15 (((A.2 15).set 4 ((A.2 15).getD 4 0 + 1)).set 10 ((A.2 15).getD 10 0 + (A.1 0 - (A.2 13).getD s 0)))).2 12 = A.2 12 from f6 12 (by decide) (by decide) (by decide) (by decide) (by decide) (by decide)]
      rw [show (setL A6 15 (((A.2 15).set 4 ((A.2 15).getD 4 0 + 1)).set 10 ((A.2 15).getD 10 0 + (A.1 0 - (A.2 13).getD s 0)))).2 0 = A.2 0 from f6 0 (by decide) (by decide) (by decide) (by decide) (by decide) (by decide)]
      rw [show (setL A6 15 (((A.2 15).set 4 ((A.2 15).getD 4 0 + 1)).set 10 ((A.2 15).getD 10 0 + (A.1 0 - (A.2 13).getD s 0)))).2 5 = (A.2 5).set r ((A.2 5).getD r 0 + 1) from by show A6.2 5 = _; rw [← hA6]; rfl]
      rw [List.length_set]
      exact h.sp i hi
    · show ¬ A6.1 1 ≤ 0
      rw [← hA6, ← hA4]
      exact h.per
  · rw [eS]
    show A6.1 = A.1
    rw [← hA6, ← hA4]; rfl
  · rw [eS]
    show (((A.2 15).set 4 ((A.2 15).getD 4 0 + 1)).set 10 _).getD 4 0 = _
    rw [getD_set _ _ _ 4 (by rw [List.length_set]; omega), if_neg (by omega), getD_set _ _ _ 4 (by omega), if_pos rfl]
  · rw [eS]
    show (lnrem ((setL A6 15 (((A.2 15).set 4 ((A.2 15).getD 4 0 + 1)).set 10 ((A.2 15).getD 10 0 + (A.1 0 - (A.2 13).getD s 0)))).2 11) (nI s)).length = _
    rw [f11, lnrem_len hs (by omega)]
end DY
/-! a day: all searches, days -/
section DY
variable {H : Int32} {A : StM} {ρ : Nat} {M : MdM} {f : Nat → Int32}
theorem RI.w8 (h : RI H A f) (L : List Int32) : RI H (setL A 8 L) f := h
/-- tries of a slip -/
theorem RI.try3 (h : RI H A f) {s : Nat} (hs : s < (A.2 11).length) (v : Int32) : RI H (setL A 14 ((A.2 14).set s v)) (upd f (196 + 4 * s) v) := by
  have z := h.sz
  have zs := z.s
  have z12 := z.e12
  have z13 := z.e13
  have z14 := z.e14
  refine ⟨h.rel.onslips z rfl (fun j a b c d => setL_n _ _ d) (fun j a b => if_neg (by omega)) ((if_neg (by omega)).trans h.rel.ns) ?_ ?_ ?_ ?_, z.len (setL_len (by rw [List.length_set])), h.fd, h.mk, h.sp, h.per⟩
  · exact Arr.ne (xs := A.2 11) h.rel.s0 (fun i hi => by omega)
  · exact Arr.ne (xs := A.2 12) h.rel.s1 (fun i hi => by omega)
  · exact Arr.ne (xs := A.2 13) h.rel.s2 (fun i hi => by omega)
  · exact Arr.set (xs := A.2 14) h.rel.s3 (by omega) (by omega)
theorem s_search (h : RI H A (M.2 ρ)) (hρ : ρ ≠ 7) {s k : Nat} (hs : s < (A.2 11).length) (hk : k < (A.2 0).length) (ek : (A.2 12).getD s 0 = nI k) (sk : (A.2 2).getD k 0 = 0) :
    (∃ L xs M', St_isFoundFor A (nI s) = some (1, setL (setL A 8 L) 15 xs) ∧ Md_search ρ M (nI s) = some (1, M') ∧ Sm ρ M M' ∧ RI H (setL (setL A 8 L) 15 xs) (M'.2 ρ) ∧ xs.getD 4 0 = (A.2 15).getD 4 0) ∨
    (∃ L xs ts M1 M2, St_isFoundFor A (nI s) = some (0, setL (setL (setL A 8 L) 14 ts) 15 xs) ∧ Md_search ρ M (nI s) = some (0, M1) ∧ Md_tally ρ M1 5 1 = some M2 ∧ Sm ρ M M2 ∧ RI H (setL (setL (setL A 8 L) 14 ts) 15 xs) (upd (M2.2 ρ) (196 + 4 * s) (M2.2 ρ (196 + 4 * s) + 1)) ∧ xs.getD 4 0 = (A.2 15).getD 4 0) := by
  have z := h.sz
  have zl := z.l
  have zf := z.f
  have zs := z.s
  have z12 := z.e12
  have z14 := z.e14
  have z15 := z.e15
  have et : lnget (A.2 14) (nI s) = (A.2 14).getD s 0 := lg_in (by omega) (by omega)
  have em : M.2 ρ (196 + 4 * s) = (A.2 14).getD s 0 := h.rel.s3 s (by omega)
  unfold St_isFoundFor Md_search
  rw [lg_in (xs := A.2 12) (by omega) (by omega), ek, lu, et, os3 (by omega), bs, em]
  by_cases ht : (A.2 14).getD s 0 < 2
  · rw [if_pos ht, if_pos ht, os1 (by omega), bs, h.rel.s1 s (by omega), ek, of0 (by omega), bs, h.rel.mk k hk, lg_in (xs := A.2 0) hk (by omega)]
    obtain ⟨r, L, M1, e1, e2, x1, x2, x3, x4, x5, x6, x7, -⟩ := s_halve h.w hρ ((A.2 0).getD k 0)
    rw [e1, e2, bs, bs]
    have hM1 : RI H (setL A 8 L) (M1.2 ρ) := by rw [x2 ρ hρ]; exact h
    have sm1 : Sm ρ M M1 := ⟨fun k b c => x1 k b c, fun j _ b _ => x2 j b⟩
    have t7 : Md_tally ρ M1 7 (M1.1 11) = some (setA M1 ρ (upd (M1.2 ρ) (6 + 7) (M1.2 ρ (6 + 7) + M1.1 11))) := e_tally (a := 7) (by omega) (by omega)
    have R7 := hM1.tally (a := 7) (by omega) (by omega) (nI L.length)
    have l7 : (lnraise (A.2 15) (nI 7) (nI L.length)).getD 4 0 = (A.2 15).getD 4 0 := by
      rw [lr_in (i := 7) _ (by omega) (by omega), getD_set _ _ _ _ (by omega), if_neg (by omega)]
    have len7 : (lnraise (A.2 15) (nI 7) (nI L.length)).length = 11 := by
      rw [lr_in (i := 7) _ (by omega) (by omega), List.length_set, z15]
    have sm2 : Sm ρ M (setA M1 ρ (upd (M1.2 ρ) (6 + 7) (M1.2 ρ (6 + 7) + M1.1 11))) := sm1.tr (Sm.setA _ _ _)
    rcases x7 with ⟨rfl, -⟩ | ⟨p, hp, rfl, -, -⟩
    · right
      rw [if_pos rfl, if_pos rfl, t7, bs]
      refine ⟨L, lnraise (lnraise (A.2 15) (nI 7) (nI L.length)) (nI 5) 1, (A.2 14).set s ((A.2 14).getD s 0 + 1), _, _, ?_, rfl, e_tally (a := 5) (by omega) (by omega), sm2.tr (Sm.setA _ _ _), ?_, ?_⟩
      · rw [show lnraise ((setL A 8 L).2 14) (nI s) 1 = (A.2 14).set s ((A.2 14).getD s 0 + 1) from lr_in (xs := A.2 14) _ (by omega) (by omega)]
        congr 2
        refine Prod.ext rfl (funext fun j => ?_)
        show (if j = 15 then lnraise (lnraise (A.2 15) 7 (nI L.length)) 5 1 else if j = 14 then _ else if j = 15 then _ else if j = 8 then L else A.2 j) = (if j = 15 then lnraise (lnraise (A.2 15) 7 (nI L.length)) 5 1 else if j = 14 then _ else if j = 8 then L else A.2 j)
        by_cases c : j = 15
        · rw [if_pos c, if_pos c]
        · rw [if_neg c, if_neg c, if_neg c]
      · simp only [setA_A, setA_s]
        have R5 := R7.tally (a := 5) (by omega) (by omega) 1
        rw [x3]
        have R3 := R5.try3 (s := s) hs ((A.2 14).getD s 0 + 1)
        have ev : upd (upd (M1.2 ρ) (6 + 7) (M1.2 ρ (6 + 7) + nI L.length)) (6 + 5) (upd (M1.2 ρ) (6 + 7) (M1.2 ρ (6 + 7) + nI L.length) (6 + 5) + 1) (196 + 4 * s) = (A.2 14).getD s 0 := by
          refine (if_neg (by omega)).trans ((if_neg (by omega)).trans ?_)
          rw [x2 ρ hρ]; exact em
        rw [ev]
        have eA : setL (setL (setL A 8 L) 14 ((A.2 14).set s ((A.2 14).getD s 0 + 1))) 15 (lnraise (lnraise (A.2 15) (nI 7) (nI L.length)) (nI 5) 1) = setL (setL (setL (setL A 8 L) 15 (lnraise ((setL A 8 L).2 15) (nI 7) (nI L.length))) 15 (lnraise ((setL (setL A 8 L) 15 (lnraise ((setL A 8 L).2 15) (nI 7) (nI L.length))).2 15) (nI 5) 1)) 14 ((A.2 14).set s ((A.2 14).getD s 0 + 1)) := by
          refine Prod.ext rfl (funext fun j => ?_)
          show (if j = 15 then lnraise (lnraise (A.2 15) (nI 7) (nI L.length)) (nI 5) 1 else if j = 14 then _ else if j = 8 then L else A.2 j) = (if j = 14 then _ else if j = 15 then lnraise (lnraise (A.2 15) (nI 7) (nI L.length)) (nI 5) 1 else if j = 15 then _ else if j = 8 then L else A.2 j)
          by_cases c : j = 15
          · rw [if_pos c, if_neg (by omega), if_pos c]
          · rw [if_neg c, if_neg c, if_neg c]
        rw [eA]
        exact R3
      · rw [lr_in (i := 5) _ (by omega) (by omega), getD_set _ _ _ _ (by omega), if_neg (by omega), l7]
    · left
      rw [if_neg (q_m1 (by omega)), if_neg (q_m1 (by omega)), t7, bs]
      refine ⟨L, lnraise (A.2 15) (nI 7) (nI L.length), _, rfl, rfl, sm2, ?_, l7⟩
      rw [setA_s, x3]
      exact R7
  · left
    rw [if_neg ht, if_neg ht]
    have t6 : Md_tally ρ M 6 1 = some (setA M ρ (upd (M.2 ρ) (6 + 6) (M.2 ρ (6 + 6) + 1))) := e_tally (a := 6) (by omega) (by omega)
    obtain ⟨i, hi, -, -, e⟩ := lp_mem (h.fd.2.2.2.2.1 k hk sk)
    rw [t6, bs, show lnpl ((setL A 15 (lnraise (A.2 15) 6 1)).2 7) (nI k) = nI i from e, if_neg (q_m1 (by omega))]
    have h8 : setL A 8 (A.2 8) = A := Prod.ext rfl (funext fun j => by by_cases q : j = 8 <;> simp [setL, va_up, q])
    refine ⟨A.2 8, lnraise (A.2 15) (nI 6) 1, _, by rw [h8]; rfl, rfl, Sm.setA _ _ _, ?_, ?_⟩
    · rw [h8, setA_s]
      exact h.tally (a := 6) (by omega) (by omega) 1
    · rw [lr_in (i := 6) _ (by omega) (by omega), getD_set _ _ _ _ (by omega), if_neg (by omega)]
theorem idle0 (h : RI H A f) {s : Nat} (hs : s < (A.2 11).length) (hi : St_idleness A (nI s) = 0) : ∃ k, k < (A.2 0).length ∧ (A.2 12).getD s 0 = nI k ∧ (A.2 2).getD k 0 = 0 := by
  have z := h.sz
  have zf := z.f
  have zs := z.s
  have z2 := z.e2
  have z12 := z.e12
  obtain ⟨-, k, hk, ek⟩ := h.sp s hs
  refine ⟨k, hk, ek, ?_⟩
  unfold St_idleness at hi
  rw [lg_in (xs := A.2 12) (by omega) (by omega), ek, lu, lg_in (xs := A.2 2) (by omega) (by omega), lu] at hi
  rcases h.fd.2.2.2.2.2.2.1 k hk with ⟨g | g, -⟩ | ⟨g, -⟩
  · exact g
  · rw [g, if_neg (by decide), if_pos rfl] at hi
    exact absurd hi (by decide)
  · rw [g, if_pos rfl] at hi
    exact absurd hi (by decide)
theorem s_searchL (hρ : ρ ≠ 7) (hd : Int32) : ∀ (n m s c : Nat) (v : Int32) (A : StM) (M : MdM), RI H A (M.2 ρ) → A.1 2 = hd → s ≤ (A.2 11).length → (A.2 11).length - s < n → (A.2 11).length - s < m → c ≤ s + 16 - (A.2 11).length →
    ∃ w A' M', St_nextDay_L36 n A v (nI c) (nI s) (nI ((A.2 11).length - s)) = some (v + w, A') ∧ Md_searchAll_L4 ρ m M hd (nI c) (nI s) = some M' ∧ Sm ρ M M' ∧ RI H A' (M'.2 ρ) ∧ A'.1 = A.1 ∧ (A'.2 15).getD 4 0 = (A.2 15).getD 4 0 + w := by
  intro n
  induction n with
  | zero => intro m s c v A M h h0 h1 h2; omega
  | succ n ih =>
    intro m s c v A M h h0 h1 h2 h3 h4
    cases m with
    | zero => omega
    | succ m =>
      have z := h.sz
      have zs := z.s
      have z12 := z.e12
      unfold St_nextDay_L36 Md_searchAll_L4
      rw [tn8, h.rel.ns, h0]
      by_cases he : s = (A.2 11).length
      · rw [he, Nat.sub_self, if_pos (by decide), if_pos (Int32.le_refl _)]
        exact ⟨0, A, M, by rw [Int32.add_zero], rfl, Sm.rf _ _, h, rfl, by rw [Int32.add_zero]⟩
      · have hs : s < (A.2 11).length := by omega
        rw [if_neg (nI_nle (by omega) (by omega)), if_neg (nI_ge hs (by omega))]
        by_cases hh : hd ≤ nI c
        · rw [if_pos hh, if_pos hh]
          exact ⟨0, A, M, by rw [Int32.add_zero], rfl, Sm.rf _ _, h, rfl, by rw [Int32.add_zero]⟩
        · rw [if_neg hh, if_neg hh, m_idleness h hs, bs]
          obtain ⟨d, hd'⟩ : ∃ d, (A.2 11).length - s = d + 1 := ⟨(A.2 11).length - s - 1, by omega⟩
          rw [hd', pk_m1, nI_1, nI_1]
          by_cases hi : St_idleness A (nI s) = 0
          · rw [if_pos hi, if_pos hi]
            obtain ⟨k, hk, ek, sk⟩ := idle0 h hs hi
            rcases s_search h hρ hs hk ek sk with ⟨L, xs, M1, e1, e2, e3, e4, e5⟩ | ⟨L, xs, ts, M1, M2, e1, e2, e3, e4, e5, e6⟩
            · rw [e1, e2, bs, bs, if_neg (by decide), if_neg (by decide)]
              obtain ⟨M3, g1, g2, g3, g4, g5, g6⟩ := s_serve (A := setL (setL A 8 L) 15 xs) e4 (s := s) hs hk ek sk
              have g6 : ((St_serve (setL (setL A 8 L) 15 xs) (nI s)).2 11).length = (A.2 11).length - 1 := g6
              rw [g1, bs, lu]
              dsimp only
              obtain ⟨w, A', M', k1, k2, k3, k4, k5, k6⟩ := ih m s (c + 1) (v + 1) _ M3 g3 (by rw [g4]; exact h0) (by omega) (by omega) (by omega) (by omega)
              rw [g6, show (A.2 11).length - 1 - s = d by omega] at k1
              refine ⟨1 + w, A', M', by rw [k1, Int32.add_assoc], k2, (e3.tr g2).tr k3, k4, k5.trans g4, ?_⟩
              rw [k6, g5, ← Int32.add_assoc]
              show xs.getD 4 0 + 1 + w = _
              rw [e5]
            · rw [e1, e2, bs, bs, if_pos rfl, if_pos rfl, e3, bs]
              have e196 : (193 + (4 * nI s)) + 3 = nI (196 + 4 * s) := (e_ix4 s 3).trans (by congr 1; omega)
              rw [e196, if_pos (q_in (by omega) (by omega)), if_pos (q_in (by omega) (by omega)), q_cl (by omega)]
              obtain ⟨w, A', M', k1, k2, k3, k4, k5, k6⟩ := ih m (s + 1) (c + 1) v (setL (setL (setL A 8 L) 14 ts) 15 xs) (setA M2 ρ (upd (M2.2 ρ) (196 + 4 * s) (M2.2 ρ (196 + 4 * s) + 1))) (by rw [setA_s]; exact e5) h0 (by show s + 1 ≤ (A.2 11).length; omega) (by show (A.2 11).length - (s + 1) < n; omega) (by show (A.2 11).length - (s + 1) < m; omega) (by show c + 1 ≤ s + 1 + 16 - (A.2 11).length; omega)
              have k1 : St_nextDay_L36 n (setL (setL (setL A 8 L) 14 ts) 15 xs) v (nI (c + 1)) (nI (s + 1)) (nI ((A.2 11).length - (s + 1))) = _ := k1
              rw [show (A.2 11).length - (s + 1) = d by omega] at k1
              refine ⟨w, A', M', k1, k2, (e4.tr (Sm.setA _ _ _)).tr k3, k4, k5, ?_⟩
              rw [k6]
              show xs.getD 4 0 + w = _
              rw [e6]
          · rw [if_neg hi, if_neg hi]
            obtain ⟨w, A', M', k1, k2, k3, k4, k5, k6⟩ := ih m (s + 1) c v A M h h0 (by omega) (by omega) (by omega) (by omega)
            rw [show (A.2 11).length - (s + 1) = d by omega] at k1
            exact ⟨w, A', M', k1, k2, k3, k4, k5, k6⟩
theorem RI.day1 (h : RI H A f) (v : Int32) : RI H (setI A 0 v) (upd f 0 v) :=
  ⟨h.rel.onday h.sz v, h.sz, h.fd, h.mk, h.sp, h.per⟩
theorem s_nextDay (h : RI H A (M.2 ρ)) (hρ : ρ ≠ 7) : ∃ w A' M', St_nextDay A = some (w, A') ∧ Md_pass ρ M (A.1 2) = some M' ∧ Sm ρ M M' ∧ RI H A' (M'.2 ρ) ∧ A'.1 0 = A.1 0 + 1 ∧ A'.1 1 = A.1 1 ∧ A'.1 2 = A.1 2 ∧ A'.1 3 = A.1 3 ∧ (A'.2 15).getD 4 0 = (A.2 15).getD 4 0 + w := by
  have h1 := h.day1 (A.1 0 + 1)
  have hs := h.sz.s
  have e0 : upd (M.2 ρ) 0 (M.2 ρ 0 + 1) = upd (M.2 ρ) 0 (A.1 0 + 1) := by rw [h.rel.day]
  have ep : upd (M.2 ρ) 0 (A.1 0 + 1) 1 = A.1 1 := (if_neg (by omega)).trans h.rel.per
  have ed : upd (M.2 ρ) 0 (A.1 0 + 1) 0 = A.1 0 + 1 := if_pos rfl
  unfold St_nextDay Md_pass St_isRefilingDay Sl_count
  rw [tn0, tn1, e0, ep, ed, if_pos (fun q => h.per (by rw [q]; decide))]
  rw [show (setI A 0 (A.1 0 + 1)).1 1 = A.1 1 from rfl, show (setI A 0 (A.1 0 + 1)).1 0 = A.1 0 + 1 from rfl, if_neg h.per]
  have hM1 : RI H (setI A 0 (A.1 0 + 1)) ((setA M ρ (upd (M.2 ρ) 0 (A.1 0 + 1))).2 ρ) := by rw [setA_s]; exact h1
  by_cases hq : A.1 0 + 1 - (A.1 0 + 1) / A.1 1 * A.1 1 = 0
  · rw [if_pos hq, if_pos hq, if_neg (by decide)]
    obtain ⟨A2, M2, e1, e2, e3, e4, e5, e6, e7⟩ := s_refile hM1 hρ
    have zs := e4.sz.s
    rw [e1, e2, bs, bs, lu]
    obtain ⟨w, A', M', k1, k2, k3, k4, k5, k6⟩ := s_searchL hρ (A.1 2) FU FU 0 0 0 A2 M2 e4 (by rw [e5]; rfl) (Nat.zero_le _) (FU_gt (by omega)) (FU_gt (by omega)) (Nat.zero_le _)
    rw [Nat.sub_zero, Int32.zero_add] at k1
    refine ⟨w, A', M', k1, by rw [show Md_searchAll ρ M2 (A.1 2) = some M' from k2]; rfl, ((Sm.setA _ _ _).tr e3).tr k3, k4, ?_, ?_, ?_, ?_, ?_⟩
    · rw [k5, e5]; rfl
    · rw [k5, e5]; rfl
    · rw [k5, e5]; rfl
    · rw [k5, e5]; rfl
    · rw [k6, e7]; rfl
  · rw [if_neg hq, if_neg hq, if_pos rfl, lu]
    obtain ⟨w, A', M', k1, k2, k3, k4, k5, k6⟩ := s_searchL hρ (A.1 2) FU FU 0 0 0 _ _ hM1 rfl (Nat.zero_le _) (FU_gt (by show (A.2 11).length - 0 < 1000; omega)) (FU_gt (by show (A.2 11).length - 0 < 1000; omega)) (Nat.zero_le _)
    rw [Nat.sub_zero, Int32.zero_add] at k1
    refine ⟨w, A', M', k1, by rw [show Md_searchAll ρ (setA M ρ (upd (M.2 ρ) 0 (A.1 0 + 1))) (A.1 2) = some M' from k2]; rfl, (Sm.setA _ _ _).tr k3, k4, ?_, ?_, ?_, ?_, k6⟩
    · rw [k5]; rfl
    · rw [k5]; rfl
    · rw [k5]; rfl
    · rw [k5]; rfl
theorem s_passL (hρ : ρ ≠ 7) (a2 p2 v0 : Int32) (q : Nat) (hq : q < 1000) : ∀ (n i : Nat) (v : Int32) (A : StM) (M : MdM), RI H A (M.2 ρ) → A.1 2 = a2 → i ≤ q → q - i < n → (A.2 15).getD 4 0 = v0 + v →
    ∃ w A' M', St_passDays_L18 n A (nI q) p2 v (nI i) = some (w, A') ∧ Md_passOn_L9 ρ n M (nI q) a2 v0 (nI i) = some (w, M') ∧ Sm ρ M M' ∧ RI H A' (M'.2 ρ) ∧ A'.1 0 = A.1 0 + nI (q - i) ∧ A'.1 2 = A.1 2 := by
  intro n
  induction n with
  | zero => intro i v A M h h0 h1 h2; omega
  | succ n ih =>
    intro i v A M h h0 h1 h2 h3
    unfold St_passDays_L18 Md_passOn_L9
    by_cases hi : q ≤ i
    · obtain rfl : i = q := by omega
      rw [if_pos (Int32.le_refl _), if_pos (Int32.le_refl _), show Md_tallied ρ M 4 = _ from e_tallied (a := 4) (by omega) (by omega), bs, h.rel.ac 4 (by omega) (by omega), h3]
      refine ⟨v, A, M, rfl, ?_, Sm.rf _ _, h, ?_, rfl⟩
      · rw [show v0 + v - v0 = v by grind]
      · rw [Nat.sub_self]; exact (Int32.add_zero _).symm
    · have hn : ¬ nI q ≤ nI i := fun x => hi ((q_le (by omega) (by omega)).mp x)
      obtain ⟨w1, A1, M1, e1, e2, e3, e4, e5, e6, e7, e8, e9⟩ := s_nextDay h hρ
      rw [h0] at e2
      rw [if_neg hn, if_neg hn, e1, e2, bs, bs, lu, nI_1]
      obtain ⟨w, A', M', k1, k2, k3, k4, k5, k6⟩ := ih (i + 1) (v + w1) A1 M1 e4 (by rw [e7, h0]) (by omega) (by omega) (by rw [e9, h3, Int32.add_assoc])
      refine ⟨w, A', M', k1, k2, e3.tr k3, k4, ?_, k6.trans e7⟩
      rw [k5, e5, show q - i = (q - (i + 1)) + 1 by omega, Int32.add_assoc, Int32.add_comm 1, nI_1]
/-- some days on both sides -/
theorem s_passDays (h : RI H A (M.2 ρ)) (hρ : ρ ≠ 7) {q : Nat} (hq : q < 1000) {p2 : Int32} (hp : A.1 0 + nI q ≤ p2) : ∃ w A' M', St_passDays A (nI q) p2 = some (w, A') ∧ Md_passOn ρ M (nI q) (A.1 2) = some (w, M') ∧ Sm ρ M M' ∧ RI H A' (M'.2 ρ) ∧ A'.1 0 = A.1 0 + nI q ∧ A'.1 2 = A.1 2 := by
  unfold St_passDays Md_passOn
  rw [if_pos hp, show Md_tallied ρ M 4 = _ from e_tallied (a := 4) (by omega) (by omega), bs, h.rel.ac 4 (by omega) (by omega)]
  exact s_passL hρ (A.1 2) p2 _ q hq FU 0 0 A M h rfl (Nat.zero_le _) (FU_gt (by omega)) (Int32.add_zero _).symm
end DY
/-! the operations, as they are done on what undoing restores -/
def En (M : MdM) (v : Int32) : MdM := setA M 6 (upd (M.2 6) (if v < 0 then 1 else 0) (M.2 6 (if v < 0 then 1 else 0) + 1))
theorem m_ends {ρ : Nat} (M : MdM) (v : Int32) : Md_ends ρ M v = some (v, En M v) := by
  unfold Md_ends En
  rw [tn0, tn1]
  by_cases h : v < 0
  · rw [if_neg (Int32.not_le.mpr h), if_pos h]
  · rw [if_pos (Int32.not_lt.mp h), if_neg h]
/-- an operation on both sides -/
def OpR (H : Int32) (ρ : Nat) (A : StM) (M : MdM) (x : Option (Int32 × StM)) (y : Option (Int32 × MdM)) : Prop :=
  ∃ v A' M1, x = some (v, A') ∧ y = some (v, En M1 v) ∧ Sm ρ M M1 ∧ RI H A' (M1.2 ρ) ∧ A'.1 2 = A.1 2 ∧ (A'.1 0 = A.1 0 ∨ ∃ q : Nat, q ≤ 60 ∧ A'.1 0 = A.1 0 + nI q ∧ A.1 0 + nI q ≤ 999)
section OP
variable {H : Int32} {A : StM} {ρ : Nat} {M : MdM} {f : Nat → Int32}
theorem OpR.same (h : RI H A (M.2 ρ)) (v : Int32) : OpR H ρ A M (some (v, A)) (Option.bind (Md_ends ρ M v) fun q => some (q.1, q.2)) :=
  ⟨v, A, M, rfl, by rw [m_ends]; rfl, Sm.rf _ _, h, rfl, Or.inl rfl⟩
theorem o_slip (h : RI H A (M.2 ρ)) {r k : Nat} (hr : r < (A.2 5).length) (hk : k < (A.2 0).length) : OpR H ρ A M (St_handIn A (nI r) (nI k)) (Md_doSlip ρ M (nI r) (nI k)) := by
  have z := h.sz
  have zs := z.s
  have z12 := z.e12
  have z13 := z.e13
  have z14 := z.e14
  have z15 := z.e15
  obtain ⟨v, e1, e2⟩ := s_refusal h hr hk
  unfold St_handIn Md_doSlip
  rw [e1, e2, bs, bs]
  by_cases hv : v = 0
  · subst hv
    rw [if_pos rfl, if_pos rfl]
    have hlt : (A.2 11).length < 16 := by
      unfold St_refusal St_hasReader St_hasFolder Sl_count at e1
      have zr := z.r
      have zf := z.f
      rw [if_neg (q_neg (by omega)), if_neg (nI_ge hr (by omega)), if_neg (by decide), if_neg (q_neg (by omega)), if_neg (nI_ge hk (by omega)), if_neg (by decide)] at e1
      by_cases g : lnget (A.2 3) (nI k) = nI r
      · rw [if_pos g] at e1; exact absurd (Option.some.inj e1) (by decide)
      · rw [if_neg g] at e1
        rcases s_slipOf h (nI r) (nI k) with ⟨e3, -⟩ | ⟨s, hs1, e3, -⟩
        · rw [e3, bs, if_pos rfl] at e1
          by_cases g2 : nI (A.2 11).length < 16
          · exact (q_lt (b := 16) (by omega) (by omega)).mp g2
          · rw [if_neg g2] at e1; exact absurd (Option.some.inj e1) (by decide)
        · rw [e3, bs, if_neg (q_m1 (by omega))] at e1; exact absurd (Option.some.inj e1) (by decide)
    generalize hn : (A.2 11).length = n at hlt
    have eadd : Md_addSlip ρ M (nI r) (nI k) = some (setA M ρ (upd (upd (upd (upd (upd (M.2 ρ) (193 + 4 * n) (nI r)) (194 + 4 * n) (nI k)) (195 + 4 * n) (A.1 0)) (196 + 4 * n) 0) 8 (nI (n + 1)))) := by
      unfold Md_addSlip
      rw [tn8, tn0, h.rel.ns, hn, show (193 : Int32) = nI 193 from rfl, show (4 : Int32) = nI 4 from rfl, pk_mul, nI_add, lu, show (0 : Int32) = nI 0 from rfl, show (1 : Int32) = nI 1 from rfl, show (2 : Int32) = nI 2 from rfl, show (3 : Int32) = nI 3 from rfl, nI_add, nI_add, nI_add, nI_add, if_pos (q_in (by omega) (by omega)), if_pos (q_in (by omega) (by omega)), if_pos (q_in (by omega) (by omega)), if_pos (q_in (by omega) (by omega)), q_cl (by omega), q_cl (by omega), q_cl (by omega), q_cl (by omega)]
      have a0 : upd (upd (M.2 ρ) (193 + 4 * n + 0) (nI r)) (193 + 4 * n + 1) (nI k) 0 = A.1 0 := (if_neg (by omega)).trans ((if_neg (by omega)).trans h.rel.day)
      rw [a0]
      have a8 : upd (upd (upd (upd (M.2 ρ) (193 + 4 * n + 0) (nI r)) (193 + 4 * n + 1) (nI k)) (193 + 4 * n + 2) (A.1 0)) (193 + 4 * n + 3) (nI 0) 8 = nI n := (if_neg (by omega)).trans ((if_neg (by omega)).trans ((if_neg (by omega)).trans ((if_neg (by omega)).trans (h.rel.ns.trans (by rw [hn])))))
      rw [a8, nI_add, show 193 + 4 * n + 0 = 193 + 4 * n by omega, show 193 + 4 * n + 1 = 194 + 4 * n by omega, show 193 + 4 * n + 2 = 195 + 4 * n by omega, show 193 + 4 * n + 3 = 196 + 4 * n by omega]
      rfl
    generalize hg : upd (upd (upd (upd (upd (M.2 ρ) (193 + 4 * n) (nI r)) (194 + 4 * n) (nI k)) (195 + 4 * n) (A.1 0)) (196 + 4 * n) 0) 8 (nI (n + 1)) = g at eadd
    rw [eadd, bs, lu, show Md_tally ρ (setA M ρ g) 3 1 = _ from e_tally (a := 3) (by omega) (by omega), bs, m_ends, bs]
    have eA : Sl_add A (nI r) (nI k) (A.1 0) = setL (setL (setL (setL A 11 (A.2 11 ++ [nI r])) 12 (A.2 12 ++ [nI k])) 13 (A.2 13 ++ [A.1 0])) 14 (A.2 14 ++ [0]) := by
      unfold Sl_add
      rw [la_in (xs := A.2 11) _ (by omega), la_in (xs := A.2 12) _ (by omega), la_in (xs := A.2 13) _ (by omega), la_in (xs := A.2 14) _ (by omega)]
    rw [eA]
    generalize hA' : setL (setL (setL (setL A 11 (A.2 11 ++ [nI r])) 12 (A.2 12 ++ [nI k])) 13 (A.2 13 ++ [A.1 0])) 14 (A.2 14 ++ [0]) = A'
    have e11 : A'.2 11 = A.2 11 ++ [nI r] := by rw [← hA']; rfl
    have e12 : A'.2 12 = A.2 12 ++ [nI k] := by rw [← hA']; rfl
    have e13 : A'.2 13 = A.2 13 ++ [A.1 0] := by rw [← hA']; rfl
    have e14 : A'.2 14 = A.2 14 ++ [0] := by rw [← hA']; rfl
    have eo : ∀ j, j ≠ 11 → j ≠ 12 → j ≠ 13 → j ≠ 14 → A'.2 j = A.2 j := fun j a b c d => by rw [← hA', setL_n _ _ d, setL_n _ _ c, setL_n _ _ b, setL_n _ _ a]
    have ei : A'.1 = A.1 := by rw [← hA']; rfl
    have hrel : Rel H A' g := by
      refine h.rel.onslips z ei eo (fun j a b => ?_) ?_ ?_ ?_ ?_ ?_
      · rw [← hg]
        exact (if_neg (by omega)).trans ((if_neg (by omega)).trans ((if_neg (by omega)).trans ((if_neg (by omega)).trans (if_neg (by omega)))))
      · rw [← hg, e11, List.length_append, List.length_singleton, hn]; exact if_pos rfl
      · rw [← hg, e11]
        have := Arr.push (xs := A.2 11) h.rel.s0 (v := nI r) (by omega)
        rw [hn] at this
        have hl : (A.2 11 ++ [nI r]).length = n + 1 := by rw [List.length_append, List.length_singleton, hn]
        exact (((this.ne (fun i hi => by omega)).ne (fun i hi => by omega)).ne (fun i hi => by omega)).ne (fun i hi => by omega)
      · rw [← hg, e12]
        have := Arr.push (xs := A.2 12) (h.rel.s1.ne (k := 193 + 4 * n) (v := nI r) (fun i hi => by omega)) (v := nI k) (by omega)
        rw [z12, hn] at this
        have hl : (A.2 12 ++ [nI k]).length = n + 1 := by rw [List.length_append, List.length_singleton, z12, hn]
        exact ((this.ne (fun i hi => by omega)).ne (fun i hi => by omega)).ne (fun i hi => by omega)
      · rw [← hg, e13]
        have := Arr.push (xs := A.2 13) ((h.rel.s2.ne (k := 193 + 4 * n) (v := nI r) (fun i hi => by omega)).ne (k := 194 + 4 * n) (v := nI k) (fun i hi => by omega)) (v := A.1 0) (by omega)
        rw [z13, hn] at this
        have hl : (A.2 13 ++ [A.1 0]).length = n + 1 := by rw [List.length_append, List.length_singleton, z13, hn]
        exact (this.ne (fun i hi => by omega)).ne (fun i hi => by omega)
      · rw [← hg, e14]
        have := Arr.push (xs := A.2 14) (((h.rel.s3.ne (k := 193 + 4 * n) (v := nI r) (fun i hi => by omega)).ne (k := 194 + 4 * n) (v := nI k) (fun i hi => by omega)).ne (k := 195 + 4 * n) (v := A.1 0) (fun i hi => by omega)) (v := 0) (by omega)
        rw [z14, hn] at this
        have hl : (A.2 14 ++ [(0 : Int32)]).length = n + 1 := by rw [List.length_append, List.length_singleton, z14, hn]
        exact this.ne (fun i hi => by omega)
    have hR : RI H A' g := by
      refine ⟨hrel, ?_, ?_, ?_, ?_, ?_⟩
      · unfold Sz
        rw [eo 0 (by decide) (by decide) (by decide) (by decide), eo 1 (by decide) (by decide) (by decide) (by decide), eo 2 (by decide) (by decide) (by decide) (by decide), eo 3 (by decide) (by decide) (by decide) (by decide), eo 4 (by decide) (by decide) (by decide) (by decide), eo 5 (by decide) (by decide) (by decide) (by decide), eo 6 (by decide) (by decide) (by decide) (by decide), eo 7 (by decide) (by decide) (by decide) (by decide), eo 10 (by decide) (by decide) (by decide) (by decide), eo 15 (by decide) (by decide) (by decide) (by decide), e11, e12, e13, e14]
        simp only [List.length_append, List.length_singleton]
        exact ⟨z.1, z.e1, z.e2, z.e3, z.e4, z.r, z.e6, z.l, z.t, by omega, by omega, by omega, by omega, z15⟩
      · rw [← hA']; exact h.fd
      · rw [← hA']; exact h.mk
      · intro i hi
        rw [e11, List.length_append, List.length_singleton] at hi
        rw [e11, e12, eo 5 (by decide) (by decide) (by decide) (by decide), eo 0 (by decide) (by decide) (by decide) (by decide), gd_app1 i (by omega), gd_app1 i (by omega)]
        by_cases c : i = (A.2 11).length
        · rw [if_pos c, if_pos (by omega)]
          exact ⟨⟨r, hr, rfl⟩, k, hk, rfl⟩
        · rw [if_neg c, if_neg (by omega)]
          exact h.sp i (by omega)
      · rw [ei]; exact h.per
    have hv8 : (setA (setA M ρ g) ρ (upd ((setA M ρ g).2 ρ) (6 + 3) ((setA M ρ g).2 ρ (6 + 3) + 1))).2 ρ 8 - 1 = Sl_count (setL A' 15 (lnraise (A'.2 15) 3 1)) - 1 := by
      rw [setA_s, setA_s]
      refine congrArg (fun q => q - 1) ((if_neg (by omega)).trans ?_)
      exact hrel.ns
    rw [hv8]
    refine ⟨_, _, _, rfl, rfl, ?_, ?_, by show A'.1 2 = _; rw [ei], Or.inl (by show A'.1 0 = _; rw [ei])⟩
    · rw [setA_A]; exact Sm.setA _ _ _
    · rw [setA_s, setA_s]
      exact hR.tally (a := 3) (by omega) (by omega) 1
  · rw [if_neg hv, if_neg hv]
    exact OpR.same h v
theorem o_drop (h : RI H A (M.2 ρ)) (x : Int32) : OpR H ρ A M (some (St_takeAway A x)) (Md_doDrop ρ M x) := by
  have zs := h.sz.s
  unfold St_takeAway Md_doDrop Md_isSlip Sl_has
  rw [bs, tn8, h.rel.ns, inr_0 (by omega)]
  by_cases hc : (if x < 0 then (0 : Int32) else if nI (A.2 11).length ≤ x then 0 else 1) = 0
  · rw [if_pos hc, if_pos hc]
    exact OpR.same h (-2)
  · rw [if_neg hc, if_neg hc]
    have hx : ∃ s, s < (A.2 11).length ∧ x = nI s := by
      by_cases h0 : x < 0
      · rw [if_pos h0] at hc; exact absurd rfl hc
      · rw [if_neg h0] at hc
        obtain ⟨j, hj, rfl⟩ := nI_of h0
        by_cases h1 : nI (A.2 11).length ≤ nI j
        · rw [if_pos h1] at hc; exact absurd rfl hc
        · exact ⟨j, Nat.lt_of_not_le (fun q => h1 (nI_le q hj)), rfl⟩
    obtain ⟨s, hs, rfl⟩ := hx
    obtain ⟨c, hcl⟩ : ∃ c, (A.2 11).length = c + 1 := ⟨(A.2 11).length - 1, by omega⟩
    rw [m_removeSlip (c := c) (s := s) (by rw [h.rel.ns, hcl]) (by omega) (by omega), bs, lu]
    have hR := h.rmslip hs
    rw [hcl, Nat.add_sub_cancel] at hR
    rw [setA_s, show gSl (upd (M.2 ρ) 8 (nI c)) c s 8 = Sl_count (Sl_removeAt A (nI s)) from hR.rel.ns, m_ends, bs]
    exact ⟨_, _, _, rfl, rfl, Sm.setA _ _ _, by rw [setA_s]; exact hR, rfl, Or.inl rfl⟩
theorem o_back (h : RI H A (M.2 ρ)) {k : Nat} (hk : k < (A.2 0).length) : OpR H ρ A M (some (St_bringBack A (nI k))) (Md_doReturn ρ M (nI k)) := by
  have z := h.sz
  have zf := z.f
  have zr := z.r
  have zt := z.t
  have z1 := z.e1
  have z2 := z.e2
  have z3 := z.e3
  have z4 := z.e4
  unfold St_bringBack Md_doReturn Md_isIn St_hasFolder
  rw [if_neg (q_neg (by omega)), if_neg (nI_ge hk (by omega)), if_neg (by decide), lg_in (xs := A.2 3) (by omega) (by omega), lu, of2 (by omega), bs, h.rel.st k (by omega)]
  rcases h.fd.2.2.2.2.2.2.1 k hk with ⟨g1, g2⟩ | ⟨g1, r, hr, g2⟩
  · have g3 : ¬ (A.2 2).getD k 0 = 1 := by rcases g1 with q | q <;> rw [q] <;> decide
    rw [if_neg g3, bs, if_pos rfl, g2, if_pos rfl]
    exact OpR.same h (-2)
  · rw [if_pos g1, bs, if_neg (by decide), g2, if_neg (q_m1 (by omega)), lay2 (by omega), bs]
    have nk : nI k ∉ A.2 10 := fun hx => by
      obtain ⟨k', c1, c2, c3⟩ := h.fd.2.2.2.1 _ hx
      have : k = k' := (q_eq (by omega) (by omega)).mp c2
      subst this
      rw [g1] at c3
      exact absurd c3 (by decide)
    have hlen : (A.2 10).length < 24 := by
      have := nd_len (A.2 0).length (List.nodup_cons.mpr ⟨nk, h.fd.2.1⟩) (fun x hx => by
        rcases List.mem_cons.mp hx with rfl | hx
        · exact ⟨k, hk, rfl⟩
        · obtain ⟨k', c1, c2, -⟩ := h.fd.2.2.2.1 x hx
          exact ⟨k', c1, c2⟩)
      rw [List.length_cons] at this
      omega
    simp only [setA_A, setA_s]
    rw [tn7, show upd (M.2 ρ) (27 + 5 * k) 2 7 = nI (A.2 10).length from (if_neg (by omega)).trans h.rel.nt, show (169 : Int32) = nI 169 from rfl, nI_add, if_pos (q_in (by omega) (by omega)), q_cl (by omega), of3 (by omega), bs]
    simp only [setA_A, setA_s]
    generalize hn : (A.2 10).length = n at hlen
    rw [show upd (upd (M.2 ρ) (27 + 5 * k) 2) (169 + n) (nI k) 7 = nI n from (if_neg (by omega)).trans ((if_neg (by omega)).trans (h.rel.nt.trans (by rw [hn]))), nI_1]
    generalize hg : upd (upd (upd (M.2 ρ) (27 + 5 * k) 2) (169 + n) (nI k)) 7 (nI (n + 1)) = g
    rw [show g (28 + 5 * k) = nI r from by
      rw [← hg]
      refine (if_neg (by omega)).trans ((if_neg (by omega)).trans ((if_neg (by omega)).trans ?_))
      rw [h.rel.wi k (by omega) g1, g2], m_ends, bs]
    have eA : setL (setL (setL (setL A 3 (lnset (A.2 3) (nI k) (-1))) 5 (lnraise (A.2 5) (nI r) (-1))) 2 (lnset (A.2 2) (nI k) 2)) 10 (lnadd 24 (A.2 10) (nI k)) = setL (setL (setL (setL A 3 ((A.2 3).set k (-1))) 2 ((A.2 2).set k 2)) 5 ((A.2 5).set r ((A.2 5).getD r 0 + -1))) 10 (A.2 10 ++ [nI k]) := by
      rw [ls_in (xs := A.2 3) _ (by omega) (by omega), ls_in (xs := A.2 2) _ (by omega) (by omega), lr_in (xs := A.2 5) _ hr (by omega), la_in (xs := A.2 10) _ (by omega)]
      refine Prod.ext rfl (funext fun j => ?_)
      show (if j = 10 then _ else if j = 2 then _ else if j = 5 then _ else if j = 3 then _ else A.2 j) = (if j = 10 then _ else if j = 5 then _ else if j = 2 then _ else if j = 3 then _ else A.2 j)
      by_cases c1 : j = 10
      · rw [if_pos c1, if_pos c1]
      · rw [if_neg c1, if_neg c1]
        by_cases c2 : j = 2
        · rw [if_pos c2, if_neg (by omega), if_pos c2]
        · rw [if_neg c2, if_neg c2]
    rw [eA]
    refine ⟨_, _, _, rfl, rfl, Sm.setA _ _ _, ?_, rfl, Or.inl rfl⟩
    rw [setA_s]
    have r2 : Rel H (setL (setL A 3 ((A.2 3).set k (-1))) 2 ((A.2 2).set k 2)) (upd (M.2 ρ) (27 + 5 * k) 2) := by
      refine h.rel.onfold z rfl (fun j a b c d => by rw [setL_n _ _ b, setL_n _ _ c]) (fun j hj => if_neg (by omega)) ?_ ?_ ?_ ?_
      · exact Arr.ne (xs := A.2 1) h.rel.em (fun i hi => by omega)
      · exact Arr.set (xs := A.2 2) h.rel.st (by omega) (by omega)
      · intro i hi e
        have e : ((A.2 2).set k 2).getD i 0 = 1 := e
        have hi : i < ((A.2 3).set k (-1)).length := hi
        rw [List.length_set] at hi
        show _ = ((A.2 3).set k (-1)).getD i 0
        rw [getD_set _ _ _ _ (by omega)] at e ⊢
        by_cases c : i = k
        · rw [if_pos c] at e; exact absurd e (by decide)
        · rw [if_neg c] at e ⊢
          exact (if_neg (by omega)).trans (h.rel.wi i hi e)
      · exact Arr.ne (xs := A.2 4) h.rel.tm (fun i hi => by omega)
    have y2 : Sz (setL (setL A 3 ((A.2 3).set k (-1))) 2 ((A.2 2).set k 2)) := (z.len (setL_len (by rw [List.length_set]))).len (setL_len (by rw [List.length_set]; rfl))
    have r5 : Rel H (setL (setL (setL A 3 ((A.2 3).set k (-1))) 2 ((A.2 2).set k 2)) 5 ((A.2 5).set r ((A.2 5).getD r 0 + -1))) (upd (M.2 ρ) (27 + 5 * k) 2) := r2.onhave y2 rfl (fun j a => setL_n _ _ a) (fun _ => rfl) (by rw [setL_s, List.length_set, r2.nr]; rfl)
    have y5 : Sz (setL (setL (setL A 3 ((A.2 3).set k (-1))) 2 ((A.2 2).set k 2)) 5 ((A.2 5).set r ((A.2 5).getD r 0 + -1))) := y2.len (setL_len (by rw [List.length_set]; rfl))
    have hl : (A.2 10 ++ [nI k]).length = n + 1 := by rw [List.length_append, List.length_singleton, hn]
    have r10 : Rel H (setL (setL (setL (setL A 3 ((A.2 3).set k (-1))) 2 ((A.2 2).set k 2)) 5 ((A.2 5).set r ((A.2 5).getD r 0 + -1))) 10 (A.2 10 ++ [nI k])) g := by
      refine r5.ontrol y5 rfl (fun j a => setL_n _ _ a) (fun j a b => ?_) ?_ ?_
      · rw [← hg]; exact (if_neg a).trans (if_neg (by omega))
      · rw [setL_s, hl, ← hg]; exact if_pos rfl
      · rw [setL_s]
        intro i hi
        rw [hl] at hi
        rw [gd_app1 i (by omega), ← hg]
        by_cases c : i = (A.2 10).length
        · rw [if_pos c]; exact (if_neg (by omega)).trans (if_pos (by omega))
        · rw [if_neg c, ← h.trol (by omega)]
          exact (if_neg (by omega)).trans ((if_neg (by omega)).trans (if_neg (by omega)))
    refine ⟨r10, ?_, ?_, h.mk, ?_, h.per⟩
    · refine ⟨y5.1, y5.2.1, y5.2.2.1, y5.2.2.2.1, y5.2.2.2.2.1, y5.2.2.2.2.2.1, y5.2.2.2.2.2.2.1, y5.2.2.2.2.2.2.2.1, ?_, y5.2.2.2.2.2.2.2.2.2⟩
      show (A.2 10 ++ [nI k]).length ≤ 24
      omega
    · obtain ⟨b1, b2, b3, b4, b5, b6, b7, b8⟩ := h.fd
      have hst : ∀ j, j < (A.2 0).length → ((A.2 2).set k 2).getD j 0 = if j = k then 2 else (A.2 2).getD j 0 := fun j hj => getD_set _ _ _ _ (by omega)
      have hho : ∀ j, j < (A.2 0).length → ((A.2 3).set k (-1)).getD j 0 = if j = k then -1 else (A.2 3).getD j 0 := fun j hj => getD_set _ _ _ _ (by omega)
      have l5 : ((A.2 5).set r ((A.2 5).getD r 0 + -1)).length = (A.2 5).length := List.length_set
      refine ⟨b1, ?_, fun x hx => ?_, fun x hx => ?_, fun j hj e => ?_, fun j hj e => ?_, fun j hj => ?_, fun j hj => ?_⟩
      · show (A.2 10 ++ [nI k]).Nodup
        refine List.nodup_append.mpr ⟨b2, List.nodup_cons.mpr ⟨List.not_mem_nil, List.nodup_nil⟩, fun a ha b hb e => ?_⟩
        rw [List.mem_singleton.mp hb] at e
        exact nk (e ▸ ha)
      · obtain ⟨k', c1, c2, c3⟩ := b3 x hx
        refine ⟨k', c1, c2, (hst k' c1).trans ?_⟩
        rw [if_neg (fun c => by rw [c, g1] at c3; exact absurd c3 (by decide))]
        exact c3
      · have hx : x ∈ A.2 10 ++ [nI k] := hx
        rcases List.mem_append.mp hx with hx | hx
        · obtain ⟨k', c1, c2, c3⟩ := b4 x hx
          refine ⟨k', c1, c2, (hst k' c1).trans ?_⟩
          by_cases c : k' = k
          · rw [if_pos c]
          · rw [if_neg c]; exact c3
        · exact ⟨k, hk, List.mem_singleton.mp hx, (hst k hk).trans (if_pos rfl)⟩
      · have e := (hst j hj).symm.trans e
        by_cases c : j = k
        · rw [if_pos c] at e; exact absurd e (by decide)
        · rw [if_neg c] at e; exact b5 j hj e
      · have e := (hst j hj).symm.trans e
        show nI j ∈ A.2 10 ++ [nI k]
        by_cases c : j = k
        · rw [c]; exact List.mem_append.mpr (Or.inr (List.mem_singleton.mpr rfl))
        · rw [if_neg c] at e
          exact List.mem_append.mpr (Or.inl (b6 j hj e))
      · have hj : j < (A.2 0).length := hj
        show ((((A.2 2).set k 2).getD j 0 = 0 ∨ ((A.2 2).set k 2).getD j 0 = 2) ∧ ((A.2 3).set k (-1)).getD j 0 = -1) ∨ (((A.2 2).set k 2).getD j 0 = 1 ∧ ∃ r', r' < ((A.2 5).set r ((A.2 5).getD r 0 + -1)).length ∧ ((A.2 3).set k (-1)).getD j 0 = nI r')
        rw [hst j hj, hho j hj, l5]
        by_cases c : j = k
        · rw [if_pos c, if_pos c]; exact Or.inl ⟨Or.inr rfl, rfl⟩
        · rw [if_neg c, if_neg c]; exact b7 j hj
      · have hj : j < ((A.2 5).set r ((A.2 5).getD r 0 + -1)).length := hj
        rw [l5] at hj
        show ((A.2 5).set r ((A.2 5).getD r 0 + -1)).getD j 0 = nI (((A.2 3).set k (-1)).count (nI j))
        rw [getD_set _ _ _ _ hr]
        have h1 := cnt_set (xs := A.2 3) (k := k) (by omega) (-1) (nI j)
        rw [g2, if_neg (fun c => q_m1 (a := j) (by omega) c.symm)] at h1
        by_cases c : j = r
        · subst c
          rw [if_pos rfl] at h1
          rw [if_pos rfl, b8 j hj]
          obtain ⟨d, hd⟩ : ∃ d, (A.2 3).count (nI j) = d + 1 := ⟨(A.2 3).count (nI j) - 1, by omega⟩
          rw [hd, pk_m1]
          congr 1
          omega
        · rw [if_neg (fun c' => c ((q_eq (by omega) (by omega)).mp c').symm)] at h1
          rw [if_neg c, b8 j hj]
          congr 1
    · intro i hi
      have := h.sp i hi
      show (∃ r', r' < ((A.2 5).set r ((A.2 5).getD r 0 + -1)).length ∧ _) ∧ _
      rw [List.length_set]
      exact this
theorem o_days (h : RI H A (M.2 ρ)) (hρ : ρ ≠ 7) (hH : A.1 2 = H) {q : Nat} (hq : q ≤ 60) : OpR H ρ A M (St_passDays A (nI q) 999) (Md_doDays ρ M (nI q)) := by
  unfold Md_doDays
  rw [tn0, tn2, h.rel.day, h.rel.hd]
  by_cases hp : A.1 0 + nI q ≤ 999
  · obtain ⟨w, A', M', e1, e2, e3, e4, e5, e6⟩ := s_passDays h hρ (q := q) (by omega) hp
    rw [if_pos hp, e1, ← hH, e2, bs, m_ends, bs]
    rw [hH]
    exact ⟨w, A', M', rfl, rfl, e3, e4, e6, Or.inr ⟨q, hq, e5, hp⟩⟩
  · unfold St_passDays
    rw [if_neg hp, if_neg hp]
    exact OpR.same h (-2)
theorem o_misfile (h : RI H A (M.2 ρ)) {k : Nat} (hk : k < (A.2 0).length) (x : Int32) : OpR H ρ A M (some (Rw_moveTo A (nI k) x)) (Md_doMisfile ρ M (nI k) x) := by
  have z := h.sz
  have zf := z.f
  have zl := z.l
  have z2 := z.e2
  unfold Rw_moveTo Md_doMisfile Md_isIn
  rw [of2 (by omega), bs, h.rel.st k (by omega), tn6, h.rel.nl, inr_0 (by omega), lu]
  by_cases hst : (A.2 2).getD k 0 = 0
  · obtain ⟨i, hi, -, -, e⟩ := lp_mem (h.fd.2.2.2.2.1 k hk hst)
    rw [if_pos hst, bs, if_neg (by decide), e, if_neg (q_m1 (by omega))]
    by_cases h0 : x < 0
    · rw [if_pos h0, if_pos h0, if_pos rfl]
      exact OpR.same h (-3)
    · rw [if_neg h0, if_neg h0]
      obtain ⟨j, hj, rfl⟩ := nI_of h0
      by_cases h1 : (A.2 7).length ≤ j
      · rw [if_neg (nI_nlt h1 (by omega)), if_pos (nI_le h1 hj), if_pos rfl]
        exact OpR.same h (-3)
      · rw [if_pos (nI_lt (by omega) (by omega)), if_neg (nI_ge (by omega) (by omega)), if_neg (by decide)]
        obtain ⟨q, M2, M3, g1, g2, g3, g4, g5, g6, g7⟩ := s_move h hk hst (p := j) (by omega)
        have hqi : nI i = nI q := e.symm.trans g3
        rw [g4, bs, lu, g5, bs, m_ends, bs, setL_L, hqi]
        exact ⟨_, _, M3, rfl, rfl, g6, g7, rfl, Or.inl rfl⟩
  · have nk : nI k ∉ A.2 7 := fun hx => by
      obtain ⟨k', c1, c2, c3⟩ := h.fd.2.2.1 _ hx
      have : k = k' := (q_eq (by omega) (by omega)).mp c2
      subst this
      exact hst c3
    rw [if_neg hst, bs, if_pos rfl, lp_not nk, if_pos rfl]
    exact OpR.same h (-2)
theorem o_straighten (h : RI H A (M.2 ρ)) {k : Nat} (hk : k < (A.2 0).length) : OpR H ρ A M (Rw_moveToOrder A (nI k)) (Md_doStraighten ρ M (nI k)) := by
  have z := h.sz
  have zf := z.f
  have zl := z.l
  have z2 := z.e2
  unfold Rw_moveToOrder Md_doStraighten Md_isIn
  rw [of2 (by omega), bs, h.rel.st k (by omega), lu]
  by_cases hst : (A.2 2).getD k 0 = 0
  · obtain ⟨i, hi, ei, -, e⟩ := lp_mem (h.fd.2.2.2.2.1 k hk hst)
    rw [if_pos hst, bs, if_neg (by decide), e, if_neg (q_m1 (by omega)), lg_in (xs := A.2 0) hk (by omega)]
    obtain ⟨v, hv, e1, e2⟩ := s_orderPlace h hk i (fun _ => by
      obtain ⟨k', c1, c2, c3⟩ := markAt_k h.w hi
      have : k = k' := (q_eq (by omega) (by omega)).mp (ei.symm.trans c2)
      rw [c3, this])
    rw [if_pos hi] at hv
    obtain ⟨q, M2, M3, g1, g2, g3, g4, g5, g6, g7⟩ := s_move h hk hst (p := v) (by omega)
    have hqi : nI i = nI q := e.symm.trans g3
    rw [e1, e2, bs, bs, g4, bs, lu, g5, bs, m_ends, bs, setL_L, hqi]
    exact ⟨_, _, M3, rfl, rfl, g6, g7, rfl, Or.inl rfl⟩
  · have nk : nI k ∉ A.2 7 := fun hx => by
      obtain ⟨k', c1, c2, c3⟩ := h.fd.2.2.1 _ hx
      have : k = k' := (q_eq (by omega) (by omega)).mp c2
      subst this
      exact hst c3
    rw [if_neg hst, bs, if_pos rfl, lp_not nk, if_pos rfl]
    exact OpR.same h (-2)
theorem o_check (h : RI H A (M.2 ρ)) {m : Nat} (hm : m < 1000) : OpR H ρ A M (St_swapNeighbours A (nI m)) (Md_doCheck ρ M (nI m)) := by
  obtain ⟨v, xs, M', e1, e2, e3, e4, e5⟩ := s_swapL h FU 0 m hm (Nat.zero_le _) (FU_gt (by omega))
  unfold St_swapNeighbours Md_doCheck
  rw [show Rw_swapWrongPairs A (nI m) = some (nI v, setL A 7 xs) from e2, show Md_swapOn ρ M (nI m) = some (nI v, M') from e3, bs, bs, lu, lu, show Md_tally ρ M' 9 (nI v) = _ from e_tally (a := 9) (by omega) (by omega), bs, m_ends, bs]
  refine ⟨_, _, _, rfl, rfl, e4.tr (Sm.setA _ _ _), ?_, rfl, Or.inl rfl⟩
  rw [setA_s]
  exact e5.tally (a := 9) (by omega) (by omega) (nI v)
theorem o_embargo (h : RI H A (M.2 ρ)) {k : Nat} (hk : k < (A.2 0).length) (x : Int32) : OpR H ρ A M (some (St_closeUntil A (nI k) x)) (Md_doEmbargo ρ M (nI k) x) := by
  have z := h.sz
  have zf := z.f
  have z1 := z.e1
  have z2 := z.e2
  have z3 := z.e3
  have z4 := z.e4
  unfold St_closeUntil Md_doEmbargo St_hasFolder
  rw [if_neg (q_neg (by omega)), if_neg (nI_ge hk (by omega)), if_neg (by decide), lg_in (xs := A.2 1) (by omega) (by omega), lu, of1 (by omega), bs, h.rel.em k (by omega), lay1 (by omega), bs, m_ends, bs, ls_in (xs := A.2 1) _ (by omega) (by omega)]
  refine ⟨_, _, _, rfl, rfl, Sm.setA _ _ _, ?_, rfl, Or.inl rfl⟩
  rw [setA_s]
  refine ⟨h.rel.onfold z rfl (fun j a b c d => setL_n _ _ a) (fun j hj => if_neg (by omega)) ?_ ?_ ?_ ?_, z.len (setL_len (by rw [List.length_set])), h.fd, h.mk, h.sp, h.per⟩
  · exact Arr.set (xs := A.2 1) h.rel.em (by omega) (by omega)
  · exact Arr.ne (xs := A.2 2) h.rel.st (fun i hi => by omega)
  · intro i hi e
    exact (if_neg (by have hi : i < (A.2 3).length := hi; omega)).trans (h.rel.wi i hi e)
  · exact Arr.ne (xs := A.2 4) h.rel.tm (fun i hi => by omega)
end OP
