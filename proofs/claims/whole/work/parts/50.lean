/-! the pure layer: numbers, lists, the reference's cells -/
theorem q_lt {a b : Nat} (ha : a < 100000) (hb : b < 100000) : nI a < nI b ↔ a < b := nI_ltI (by omega) (by omega)
theorem q_le {a b : Nat} (ha : a < 100000) (hb : b < 100000) : nI a ≤ nI b ↔ a ≤ b := nI_leI (by omega) (by omega)
theorem q_eq {a b : Nat} (ha : a < 100000) (hb : b < 100000) : nI a = nI b ↔ a = b := nI_eq (by omega) (by omega)
theorem q_m1 {a : Nat} (ha : a < 100000) : ¬ nI a = -1 := fun h => absurd (show nI a < 0 by rw [h]; decide) (nI_pos (by omega))
theorem q_neg {a : Nat} (ha : a < 100000) : ¬ nI a < 0 := nI_pos (by omega)
theorem q_cl {a : Nat} (ha : a < 100000) : (nI a).toNatClampNeg = a := nI_clamp (by omega)
theorem q_in {a N : Nat} (h : a < N) (hN : N < 100000) : inB (nI a) N := nI_in h (by omega)
theorem tn0 : (0 : Int32).toNatClampNeg = 0 := by decide
theorem tn1 : (1 : Int32).toNatClampNeg = 1 := by decide
theorem tn2 : (2 : Int32).toNatClampNeg = 2 := by decide
theorem tn3 : (3 : Int32).toNatClampNeg = 3 := by decide
theorem tn4 : (4 : Int32).toNatClampNeg = 4 := by decide
theorem tn5 : (5 : Int32).toNatClampNeg = 5 := by decide
theorem tn6 : (6 : Int32).toNatClampNeg = 6 := by decide
theorem tn7 : (7 : Int32).toNatClampNeg = 7 := by decide
theorem tn8 : (8 : Int32).toNatClampNeg = 8 := by decide
/-- places of a list -/
theorem lg_in {xs : List Int32} {i : Nat} (h : i < xs.length) (hl : xs.length ≤ 1000) : lnget xs (nI i) = xs.getD i 0 := by
  unfold lnget
  rw [if_pos ⟨nI_pos' (by omega), nI_lt h (by omega)⟩, nI_clamp (by omega)]
theorem lg_out {xs : List Int32} {i : Nat} (h : xs.length ≤ i) (hi : i < 100000) : lnget xs (nI i) = -1 := by
  unfold lnget
  rw [if_neg (fun q => nI_nlt h (by omega) q.2)]
theorem lg_neg {xs : List Int32} {p : Int32} (h : p < 0) : lnget xs p = -1 := by
  unfold lnget
  rw [if_neg (fun q => absurd h (Int32.not_lt.mpr q.1))]
theorem ls_in {xs : List Int32} {i : Nat} (v : Int32) (h : i < xs.length) (hl : xs.length ≤ 1000) : lnset xs (nI i) v = xs.set i v := by
  unfold lnset
  rw [if_pos ⟨nI_pos' (by omega), nI_lt h (by omega)⟩, nI_clamp (by omega)]
theorem lr_in {xs : List Int32} {i : Nat} (v : Int32) (h : i < xs.length) (hl : xs.length ≤ 1000) : lnraise xs (nI i) v = xs.set i (xs.getD i 0 + v) := by
  unfold lnraise
  rw [if_pos ⟨nI_pos' (by omega), nI_lt h (by omega)⟩, nI_clamp (by omega)]
theorem la_in {N : Nat} {xs : List Int32} (v : Int32) (h : xs.length < N) : lnadd N xs v = xs ++ [v] := if_pos h
theorem li_in {N : Nat} {xs : List Int32} {i : Nat} (v : Int32) (h : i ≤ xs.length) (hN : xs.length < N) (hl : N ≤ 1000) : lnins N xs (nI i) v = xs.take i ++ v :: xs.drop i := by
  unfold lnins
  rw [if_neg (fun q => by
    rcases q with q | q | q
    · exact nI_pos (by omega) q
    · exact nI_nlt h (by omega) q
    · omega), nI_clamp (by omega)]
theorem lm_in {xs : List Int32} {i : Nat} (h : i < xs.length) (hl : xs.length ≤ 1000) : lnrem xs (nI i) = xs.take i ++ xs.drop (i + 1) := by
  unfold lnrem
  rw [if_neg (fun q => by
    rcases q with q | q
    · exact nI_pos (by omega) q
    · exact nI_ge h (by omega) q), nI_clamp (by omega)]
theorem gd_ins {xs : List Int32} {i : Nat} {v : Int32} (h : i ≤ xs.length) (j : Nat) : (xs.take i ++ v :: xs.drop i).getD j 0 = if j < i then xs.getD j 0 else if j = i then v else xs.getD (j - 1) 0 := by
  rw [getD_app, List.length_take, Nat.min_eq_left h]
  by_cases h1 : j < i
  · rw [if_pos h1, if_pos h1, getD_take _ _ _ h1]
  · rw [if_neg h1, if_neg h1]
    by_cases h2 : j = i
    · subst h2
      rw [if_pos rfl, Nat.sub_self]; rfl
    · rw [if_neg h2]
      obtain ⟨d, rfl⟩ : ∃ d, j = i + (d + 1) := ⟨j - i - 1, by omega⟩
      rw [Nat.add_sub_cancel_left, show i + (d + 1) - 1 = i + d by omega]
      show (xs.drop i).getD d 0 = _
      rw [getD_drop]
theorem gd_rem {xs : List Int32} {i : Nat} (h : i < xs.length) (j : Nat) : (xs.take i ++ xs.drop (i + 1)).getD j 0 = if j < i then xs.getD j 0 else xs.getD (j + 1) 0 := by
  rw [getD_app, List.length_take, Nat.min_eq_left (by omega)]
  by_cases h1 : j < i
  · rw [if_pos h1, if_pos h1, getD_take _ _ _ h1]
  · rw [if_neg h1, if_neg h1, getD_drop]
    congr 1
    omega
theorem gd_app1 {xs : List Int32} {v : Int32} (j : Nat) (h : j ≤ xs.length) : (xs ++ [v]).getD j 0 = if j = xs.length then v else xs.getD j 0 := by
  rw [getD_app]
  by_cases h1 : j < xs.length
  · rw [if_pos h1, if_neg (by omega)]
  · obtain rfl : j = xs.length := by omega
    rw [if_neg h1, if_pos rfl, Nat.sub_self]; rfl
theorem ln_ins {xs : List Int32} {i : Nat} {v : Int32} (h : i ≤ xs.length) : (xs.take i ++ v :: xs.drop i).length = xs.length + 1 := by
  simp only [List.length_append, List.length_take, List.length_cons, List.length_drop]; omega
theorem ln_rem {xs : List Int32} {i : Nat} (h : i < xs.length) : (xs.take i ++ xs.drop (i + 1)).length = xs.length - 1 := by
  simp only [List.length_append, List.length_take, List.length_drop]; omega
theorem mem_gd {xs : List Int32} {x : Int32} : x ∈ xs ↔ ∃ i, i < xs.length ∧ xs.getD i 0 = x := by
  rw [List.mem_iff_getElem]
  constructor
  · rintro ⟨i, hi, e⟩
    exact ⟨i, hi, by rw [List.getD_eq_getElem?_getD, List.getElem?_eq_getElem hi]; exact e⟩
  · rintro ⟨i, hi, e⟩
    refine ⟨i, hi, ?_⟩
    rw [List.getD_eq_getElem?_getD, List.getElem?_eq_getElem hi] at e
    exact e
theorem gd_mem {xs : List Int32} {i : Nat} (h : i < xs.length) : xs.getD i 0 ∈ xs := mem_gd.mpr ⟨i, h, rfl⟩
theorem nd_inj {xs : List Int32} (h : xs.Nodup) {i j : Nat} (hi : i < xs.length) (hj : j < xs.length) (e : xs.getD i 0 = xs.getD j 0) : i = j := by
  have h1 : xs[i]? = xs[j]? := by
    rw [List.getD_eq_getElem?_getD, List.getD_eq_getElem?_getD, List.getElem?_eq_getElem hi, List.getElem?_eq_getElem hj] at e
    rw [List.getElem?_eq_getElem hi, List.getElem?_eq_getElem hj]
    exact congrArg some e
  exact (List.getElem?_inj hi h).mp h1
theorem mem_ins {xs : List Int32} {i : Nat} {v x : Int32} : x ∈ xs.take i ++ v :: xs.drop i ↔ x = v ∨ x ∈ xs := by
  have h := (List.perm_middle (a := v) (l₁ := xs.take i) (l₂ := xs.drop i)).mem_iff (a := x)
  rw [h, List.take_append_drop, List.mem_cons]
theorem nd_ins {xs : List Int32} {i : Nat} {v : Int32} (h : xs.Nodup) (hv : v ∉ xs) : (xs.take i ++ v :: xs.drop i).Nodup := by
  have h1 := (List.perm_middle (a := v) (l₁ := xs.take i) (l₂ := xs.drop i)).nodup_iff
  rw [h1, List.take_append_drop, List.nodup_cons]
  exact ⟨hv, h⟩
theorem nd_rem {xs : List Int32} {i : Nat} (h : xs.Nodup) : (xs.take i ++ xs.drop (i + 1)).Nodup := by
  rw [← List.eraseIdx_eq_take_drop_succ]
  exact h.eraseIdx i
theorem mem_rem {xs : List Int32} {i : Nat} {x : Int32} (h : xs.Nodup) (hi : i < xs.length) : x ∈ xs.take i ++ xs.drop (i + 1) ↔ x ∈ xs ∧ x ≠ xs.getD i 0 := by
  rw [← List.eraseIdx_eq_take_drop_succ, List.mem_eraseIdx_iff_getElem?]
  constructor
  · rintro ⟨j, hj, e⟩
    obtain ⟨hj1, e1⟩ := List.getElem?_eq_some_iff.mp e
    have e2 : xs.getD j 0 = x := by rw [List.getD_eq_getElem?_getD, e]; rfl
    refine ⟨mem_gd.mpr ⟨j, hj1, e2⟩, fun q => hj (nd_inj h hj1 hi (e2.trans q))⟩
  · rintro ⟨h1, h2⟩
    obtain ⟨j, hj, e⟩ := mem_gd.mp h1
    refine ⟨j, fun q => h2 (by rw [← e, q]), ?_⟩
    rw [List.getElem?_eq_getElem hj, ← e, List.getD_eq_getElem?_getD, List.getElem?_eq_getElem hj]
    rfl
/-- the first place of a number -/
theorem lp_spec (v : Int32) : ∀ (xs : List Int32) (s : Nat), (∃ i, i < xs.length ∧ xs.getD i 0 = v ∧ (∀ j, j < i → xs.getD j 0 ≠ v) ∧ lnplN xs v s = nI (s + i)) ∨ ((∀ i, i < xs.length → xs.getD i 0 ≠ v) ∧ lnplN xs v s = -1) := by
  intro xs
  induction xs with
  | nil => exact fun s => Or.inr ⟨fun i hi => absurd hi (Nat.not_lt_zero i), rfl⟩
  | cons x xs ih =>
    intro s
    unfold lnplN
    by_cases hx : x = v
    · rw [if_pos hx]
      exact Or.inl ⟨0, Nat.zero_lt_succ _, hx, fun j hj => absurd hj (Nat.not_lt_zero j), rfl⟩
    · rw [if_neg hx]
      rcases ih (s + 1) with ⟨i, h1, h2, h3, h4⟩ | ⟨h1, h2⟩
      · refine Or.inl ⟨i + 1, Nat.succ_lt_succ h1, h2, fun j hj => ?_, by rw [h4]; congr 1; omega⟩
        cases j with
        | zero => exact hx
        | succ j => exact h3 j (by omega)
      · refine Or.inr ⟨fun i hi => ?_, h2⟩
        cases i with
        | zero => exact hx
        | succ i => exact h1 i (Nat.lt_of_succ_lt_succ hi)
theorem lp_cases (xs : List Int32) (v : Int32) : (∃ i, i < xs.length ∧ xs.getD i 0 = v ∧ (∀ j, j < i → xs.getD j 0 ≠ v) ∧ lnpl xs v = nI i) ∨ ((∀ i, i < xs.length → xs.getD i 0 ≠ v) ∧ lnpl xs v = -1) := by
  have h := lp_spec v xs 0
  simpa [lnpl] using h
theorem lp_mem {xs : List Int32} {v : Int32} (h : v ∈ xs) : ∃ i, i < xs.length ∧ xs.getD i 0 = v ∧ (∀ j, j < i → xs.getD j 0 ≠ v) ∧ lnpl xs v = nI i := by
  rcases lp_cases xs v with h1 | ⟨h1, -⟩
  · exact h1
  · obtain ⟨i, hi, e⟩ := mem_gd.mp h
    exact absurd e (h1 i hi)
theorem lp_not {xs : List Int32} {v : Int32} (h : v ∉ xs) : lnpl xs v = -1 := by
  rcases lp_cases xs v with ⟨i, hi, e, -, -⟩ | ⟨-, h1⟩
  · exact absurd (mem_gd.mpr ⟨i, hi, e⟩) h
  · exact h1
theorem nd_len {xs : List Int32} (n : Nat) (h : xs.Nodup) (hm : ∀ x ∈ xs, ∃ k, k < n ∧ x = nI k) : xs.length ≤ n := by
  have h1 := h.length_le_of_subset (l₂ := (List.range n).map nI) (fun x hx => by
    obtain ⟨k, hk, e⟩ := hm x hx
    exact List.mem_map.mpr ⟨k, List.mem_range.mpr hk, e.symm⟩)
  rw [List.length_map, List.length_range] at h1
  exact h1
/-! the relation of a Stacks to the reference's row of numbers -/
def Arr (f : Nat → Int32) (b s : Nat) (xs : List Int32) : Prop := ∀ i, i < xs.length → f (b + s * i) = xs.getD i 0
theorem Arr.ne {f : Nat → Int32} {b s : Nat} {xs : List Int32} (h : Arr f b s xs) {k : Nat} {v : Int32} (hk : ∀ i, i < xs.length → b + s * i ≠ k) : Arr (upd f k v) b s xs := fun i hi => by
  rw [← h i hi]
  exact if_neg (hk i hi)
theorem Arr.set {f : Nat → Int32} {b s : Nat} {xs : List Int32} (h : Arr f b s xs) {j : Nat} {v : Int32} (hs : 0 < s) (hj : j < xs.length) : Arr (upd f (b + s * j) v) b s (xs.set j v) := fun i hi => by
  rw [List.length_set] at hi
  rw [getD_set xs j v i hj]
  by_cases h1 : i = j
  · rw [if_pos h1, h1]; exact if_pos rfl
  · rw [if_neg h1, ← h i hi]
    exact if_neg (fun q => h1 (Nat.eq_of_mul_eq_mul_left hs (by omega)))
theorem Arr.push {f : Nat → Int32} {b s : Nat} {xs : List Int32} (h : Arr f b s xs) {v : Int32} (hs : 0 < s) : Arr (upd f (b + s * xs.length) v) b s (xs ++ [v]) := fun i hi => by
  rw [List.length_append, List.length_singleton] at hi
  rw [gd_app1 i (by omega)]
  by_cases h1 : i = xs.length
  · rw [if_pos h1, h1]; exact if_pos rfl
  · rw [if_neg h1, ← h i (by omega)]
    exact if_neg (fun q => h1 (Nat.eq_of_mul_eq_mul_left hs (by omega)))
def Rel (H : Int32) (A : StM) (f : Nat → Int32) : Prop :=
  f 0 = A.1 0 ∧ f 1 = A.1 1 ∧ f 4 = A.1 3 ∧ f 2 = H ∧ f 3 = nI (A.2 5).length ∧ f 5 = nI (A.2 0).length ∧ f 6 = nI (A.2 7).length ∧ f 7 = nI (A.2 10).length ∧ f 8 = nI (A.2 11).length ∧
  Arr f 25 5 (A.2 0) ∧ Arr f 26 5 (A.2 1) ∧ Arr f 27 5 (A.2 2) ∧ (∀ i, i < (A.2 3).length → (A.2 2).getD i 0 = 1 → f (28 + 5 * i) = (A.2 3).getD i 0) ∧ Arr f 29 5 (A.2 4) ∧
  Arr f 17 1 (A.2 6) ∧ Arr f 145 1 (A.2 7) ∧ Arr f 169 1 (A.2 10) ∧ Arr f 193 4 (A.2 11) ∧ Arr f 194 4 (A.2 12) ∧ Arr f 195 4 (A.2 13) ∧ Arr f 196 4 (A.2 14) ∧
  ∀ k, 3 ≤ k → k < 11 → f (6 + k) = (A.2 15).getD k 0
def Sz (A : StM) : Prop := (A.2 0).length ≤ 24 ∧ (A.2 1).length = (A.2 0).length ∧ (A.2 2).length = (A.2 0).length ∧ (A.2 3).length = (A.2 0).length ∧ (A.2 4).length = (A.2 0).length ∧ (A.2 5).length ≤ 8 ∧ (A.2 6).length = (A.2 5).length ∧ (A.2 7).length ≤ 24 ∧ (A.2 10).length ≤ 24 ∧ (A.2 11).length ≤ 16 ∧ (A.2 12).length = (A.2 11).length ∧ (A.2 13).length = (A.2 11).length ∧ (A.2 14).length = (A.2 11).length ∧ (A.2 15).length = 11
def FdR (A : StM) : Prop := (A.2 7).Nodup ∧ (A.2 10).Nodup ∧ (∀ x ∈ A.2 7, ∃ k, k < (A.2 0).length ∧ x = nI k ∧ (A.2 2).getD k 0 = 0) ∧ (∀ x ∈ A.2 10, ∃ k, k < (A.2 0).length ∧ x = nI k ∧ (A.2 2).getD k 0 = 2) ∧ (∀ k, k < (A.2 0).length → (A.2 2).getD k 0 = 0 → nI k ∈ A.2 7) ∧ (∀ k, k < (A.2 0).length → (A.2 2).getD k 0 = 2 → nI k ∈ A.2 10) ∧ (∀ k, k < (A.2 0).length → (((A.2 2).getD k 0 = 0 ∨ (A.2 2).getD k 0 = 2) ∧ (A.2 3).getD k 0 = -1) ∨ ((A.2 2).getD k 0 = 1 ∧ ∃ r, r < (A.2 5).length ∧ (A.2 3).getD k 0 = nI r)) ∧ ∀ r, r < (A.2 5).length → (A.2 5).getD r 0 = nI ((A.2 3).count (nI r))
def Mk (A : StM) : Prop := (A.2 0).Nodup ∧ ∀ x ∈ A.2 0, ∃ m, m ≤ 9999 ∧ x = nI m
def Sp (A : StM) : Prop := ∀ s, s < (A.2 11).length → (∃ r, r < (A.2 5).length ∧ (A.2 11).getD s 0 = nI r) ∧ ∃ k, k < (A.2 0).length ∧ (A.2 12).getD s 0 = nI k
def RI (H : Int32) (A : StM) (f : Nat → Int32) : Prop := Rel H A f ∧ Sz A ∧ FdR A ∧ Mk A ∧ Sp A ∧ ¬ A.1 1 ≤ 0
section RIa
variable {H : Int32} {A : StM} {f : Nat → Int32}
theorem RI.rel (h : RI H A f) : Rel H A f := h.1
theorem RI.sz (h : RI H A f) : Sz A := h.2.1
theorem RI.fd (h : RI H A f) : FdR A := h.2.2.1
theorem RI.mk (h : RI H A f) : Mk A := h.2.2.2.1
theorem RI.sp (h : RI H A f) : Sp A := h.2.2.2.2.1
theorem RI.per (h : RI H A f) : ¬ A.1 1 ≤ 0 := h.2.2.2.2.2
theorem Sz.fo (h : Sz A) : (A.2 0).length ≤ 24 := h.1
theorem Sz.e1 (h : Sz A) : (A.2 1).length = (A.2 0).length := h.2.1
theorem Sz.e2 (h : Sz A) : (A.2 2).length = (A.2 0).length := h.2.2.1
theorem Sz.e3 (h : Sz A) : (A.2 3).length = (A.2 0).length := h.2.2.2.1
theorem Sz.e4 (h : Sz A) : (A.2 4).length = (A.2 0).length := h.2.2.2.2.1
theorem Sz.r (h : Sz A) : (A.2 5).length ≤ 8 := h.2.2.2.2.2.1
theorem Sz.e6 (h : Sz A) : (A.2 6).length = (A.2 5).length := h.2.2.2.2.2.2.1
theorem Sz.l (h : Sz A) : (A.2 7).length ≤ 24 := h.2.2.2.2.2.2.2.1
theorem Sz.t (h : Sz A) : (A.2 10).length ≤ 24 := h.2.2.2.2.2.2.2.2.1
theorem Sz.s (h : Sz A) : (A.2 11).length ≤ 16 := h.2.2.2.2.2.2.2.2.2.1
theorem Sz.e12 (h : Sz A) : (A.2 12).length = (A.2 11).length := h.2.2.2.2.2.2.2.2.2.2.1
theorem Sz.e13 (h : Sz A) : (A.2 13).length = (A.2 11).length := h.2.2.2.2.2.2.2.2.2.2.2.1
theorem Sz.e14 (h : Sz A) : (A.2 14).length = (A.2 11).length := h.2.2.2.2.2.2.2.2.2.2.2.2.1
theorem Sz.e15 (h : Sz A) : (A.2 15).length = 11 := h.2.2.2.2.2.2.2.2.2.2.2.2.2
theorem Rel.day (h : Rel H A f) : f 0 = A.1 0 := h.1
theorem Rel.per (h : Rel H A f) : f 1 = A.1 1 := h.2.1
theorem Rel.lim (h : Rel H A f) : f 4 = A.1 3 := h.2.2.1
theorem Rel.hd (h : Rel H A f) : f 2 = H := h.2.2.2.1
theorem Rel.nr (h : Rel H A f) : f 3 = nI (A.2 5).length := h.2.2.2.2.1
theorem Rel.nf (h : Rel H A f) : f 5 = nI (A.2 0).length := h.2.2.2.2.2.1
theorem Rel.nl (h : Rel H A f) : f 6 = nI (A.2 7).length := h.2.2.2.2.2.2.1
theorem Rel.nt (h : Rel H A f) : f 7 = nI (A.2 10).length := h.2.2.2.2.2.2.2.1
theorem Rel.ns (h : Rel H A f) : f 8 = nI (A.2 11).length := h.2.2.2.2.2.2.2.2.1
theorem Rel.mk (h : Rel H A f) : Arr f 25 5 (A.2 0) := h.2.2.2.2.2.2.2.2.2.1
theorem Rel.em (h : Rel H A f) : Arr f 26 5 (A.2 1) := h.2.2.2.2.2.2.2.2.2.2.1
theorem Rel.st (h : Rel H A f) : Arr f 27 5 (A.2 2) := h.2.2.2.2.2.2.2.2.2.2.2.1
theorem Rel.wi (h : Rel H A f) : ∀ i, i < (A.2 3).length → (A.2 2).getD i 0 = 1 → f (28 + 5 * i) = (A.2 3).getD i 0 := h.2.2.2.2.2.2.2.2.2.2.2.2.1
theorem Rel.tm (h : Rel H A f) : Arr f 29 5 (A.2 4) := h.2.2.2.2.2.2.2.2.2.2.2.2.2.1
theorem Rel.sv (h : Rel H A f) : Arr f 17 1 (A.2 6) := h.2.2.2.2.2.2.2.2.2.2.2.2.2.2.1
theorem Rel.rw (h : Rel H A f) : Arr f 145 1 (A.2 7) := h.2.2.2.2.2.2.2.2.2.2.2.2.2.2.2.1
theorem Rel.tr (h : Rel H A f) : Arr f 169 1 (A.2 10) := h.2.2.2.2.2.2.2.2.2.2.2.2.2.2.2.2.1
theorem Rel.s0 (h : Rel H A f) : Arr f 193 4 (A.2 11) := h.2.2.2.2.2.2.2.2.2.2.2.2.2.2.2.2.2.1
theorem Rel.s1 (h : Rel H A f) : Arr f 194 4 (A.2 12) := h.2.2.2.2.2.2.2.2.2.2.2.2.2.2.2.2.2.2.1
theorem Rel.s2 (h : Rel H A f) : Arr f 195 4 (A.2 13) := h.2.2.2.2.2.2.2.2.2.2.2.2.2.2.2.2.2.2.2.1
theorem Rel.s3 (h : Rel H A f) : Arr f 196 4 (A.2 14) := h.2.2.2.2.2.2.2.2.2.2.2.2.2.2.2.2.2.2.2.2.1
theorem Rel.ac (h : Rel H A f) : ∀ k, 3 ≤ k → k < 11 → f (6 + k) = (A.2 15).getD k 0 := h.2.2.2.2.2.2.2.2.2.2.2.2.2.2.2.2.2.2.2.2.2
end RIa
/-! the reference's cells read and written -/
theorem c5 : (5 : Int32) = nI 5 := rfl
theorem e_ix5 (i w : Nat) : (25 + (5 * nI i)) + nI w = nI (25 + 5 * i + w) := by
  rw [show (25 : Int32) = nI 25 from rfl, show (5 : Int32) = nI 5 from rfl, pk_mul, nI_add, nI_add]
theorem e_ix4 (i w : Nat) : (193 + (4 * nI i)) + nI w = nI (193 + 4 * i + w) := by
  rw [show (193 : Int32) = nI 193 from rfl, show (4 : Int32) = nI 4 from rfl, pk_mul, nI_add, nI_add]
theorem e_of {ρ : Nat} {M : MdM} {i w : Nat} (h : 25 + 5 * i + w < 257) : Md_of ρ M (nI i) (nI w) = some (M.2 ρ (25 + 5 * i + w)) := by
  unfold Md_of
  rw [e_ix5, if_pos (q_in h (by omega)), q_cl (by omega)]
theorem of0 {ρ : Nat} {M : MdM} {i : Nat} (h : i < 24) : Md_of ρ M (nI i) 0 = some (M.2 ρ (25 + 5 * i)) := e_of (w := 0) (by omega)
theorem of1 {ρ : Nat} {M : MdM} {i : Nat} (h : i < 24) : Md_of ρ M (nI i) 1 = some (M.2 ρ (26 + 5 * i)) := (e_of (w := 1) (by omega)).trans (by rw [show 25 + 5 * i + 1 = 26 + 5 * i by omega])
theorem of2 {ρ : Nat} {M : MdM} {i : Nat} (h : i < 24) : Md_of ρ M (nI i) 2 = some (M.2 ρ (27 + 5 * i)) := (e_of (w := 2) (by omega)).trans (by rw [show 25 + 5 * i + 2 = 27 + 5 * i by omega])
theorem of3 {ρ : Nat} {M : MdM} {i : Nat} (h : i < 24) : Md_of ρ M (nI i) 3 = some (M.2 ρ (28 + 5 * i)) := (e_of (w := 3) (by omega)).trans (by rw [show 25 + 5 * i + 3 = 28 + 5 * i by omega])
theorem of4 {ρ : Nat} {M : MdM} {i : Nat} (h : i < 24) : Md_of ρ M (nI i) 4 = some (M.2 ρ (29 + 5 * i)) := (e_of (w := 4) (by omega)).trans (by rw [show 25 + 5 * i + 4 = 29 + 5 * i by omega])
theorem e_lay {ρ : Nat} {M : MdM} {i w : Nat} {v : Int32} (h : 25 + 5 * i + w < 257) : Md_lay ρ M (nI i) (nI w) v = some (setA M ρ (upd (M.2 ρ) (25 + 5 * i + w) v)) := by
  unfold Md_lay
  rw [e_ix5, if_pos (q_in h (by omega)), q_cl (by omega)]
theorem lay0 {ρ : Nat} {M : MdM} {i : Nat} {v : Int32} (h : i < 24) : Md_lay ρ M (nI i) 0 v = some (setA M ρ (upd (M.2 ρ) (25 + 5 * i) v)) := e_lay (w := 0) (by omega)
theorem lay1 {ρ : Nat} {M : MdM} {i : Nat} {v : Int32} (h : i < 24) : Md_lay ρ M (nI i) 1 v = some (setA M ρ (upd (M.2 ρ) (26 + 5 * i) v)) := (e_lay (w := 1) (by omega)).trans (by rw [show 25 + 5 * i + 1 = 26 + 5 * i by omega])
theorem lay2 {ρ : Nat} {M : MdM} {i : Nat} {v : Int32} (h : i < 24) : Md_lay ρ M (nI i) 2 v = some (setA M ρ (upd (M.2 ρ) (27 + 5 * i) v)) := (e_lay (w := 2) (by omega)).trans (by rw [show 25 + 5 * i + 2 = 27 + 5 * i by omega])
theorem lay3 {ρ : Nat} {M : MdM} {i : Nat} {v : Int32} (h : i < 24) : Md_lay ρ M (nI i) 3 v = some (setA M ρ (upd (M.2 ρ) (28 + 5 * i) v)) := (e_lay (w := 3) (by omega)).trans (by rw [show 25 + 5 * i + 3 = 28 + 5 * i by omega])
theorem lay4 {ρ : Nat} {M : MdM} {i : Nat} {v : Int32} (h : i < 24) : Md_lay ρ M (nI i) 4 v = some (setA M ρ (upd (M.2 ρ) (29 + 5 * i) v)) := (e_lay (w := 4) (by omega)).trans (by rw [show 25 + 5 * i + 4 = 29 + 5 * i by omega])
theorem e_os {ρ : Nat} {M : MdM} {i w : Nat} (h : 193 + 4 * i + w < 257) : Md_ofSlip ρ M (nI i) (nI w) = some (M.2 ρ (193 + 4 * i + w)) := by
  unfold Md_ofSlip
  rw [e_ix4, if_pos (q_in h (by omega)), q_cl (by omega)]
theorem os0 {ρ : Nat} {M : MdM} {i : Nat} (h : i < 16) : Md_ofSlip ρ M (nI i) 0 = some (M.2 ρ (193 + 4 * i)) := e_os (w := 0) (by omega)
theorem os1 {ρ : Nat} {M : MdM} {i : Nat} (h : i < 16) : Md_ofSlip ρ M (nI i) 1 = some (M.2 ρ (194 + 4 * i)) := (e_os (w := 1) (by omega)).trans (by rw [show 193 + 4 * i + 1 = 194 + 4 * i by omega])
theorem os2 {ρ : Nat} {M : MdM} {i : Nat} (h : i < 16) : Md_ofSlip ρ M (nI i) 2 = some (M.2 ρ (195 + 4 * i)) := (e_os (w := 2) (by omega)).trans (by rw [show 193 + 4 * i + 2 = 195 + 4 * i by omega])
theorem os3 {ρ : Nat} {M : MdM} {i : Nat} (h : i < 16) : Md_ofSlip ρ M (nI i) 3 = some (M.2 ρ (196 + 4 * i)) := (e_os (w := 3) (by omega)).trans (by rw [show 193 + 4 * i + 3 = 196 + 4 * i by omega])
theorem e_fa {ρ : Nat} {M : MdM} {p : Nat} (h : p < 112) : Md_folderAt ρ M (nI p) = some (M.2 ρ (145 + p)) := by
  unfold Md_folderAt
  rw [show (145 : Int32) = nI 145 from rfl, nI_add, if_pos (q_in (by omega) (by omega)), q_cl (by omega)]
theorem e_tally {ρ : Nat} {M : MdM} {a : Nat} {v : Int32} (h1 : 3 ≤ a) (h2 : a < 11) : Md_tally ρ M (nI a) v = some (setA M ρ (upd (M.2 ρ) (6 + a) (M.2 ρ (6 + a) + v))) := by
  unfold Md_tally
  rw [show (9 + nI a) - 3 = nI (6 + a) by rw [show (9 : Int32) = nI 9 from rfl, show (3 : Int32) = nI 3 from rfl, nI_add, pk_sub (by omega)]; congr 1; omega]
  rw [if_pos (q_in (by omega) (by omega)), if_pos (q_in (by omega) (by omega)), q_cl (by omega)]
theorem e_tallied {ρ : Nat} {M : MdM} {a : Nat} (h1 : 3 ≤ a) (h2 : a < 11) : Md_tallied ρ M (nI a) = some (M.2 ρ (6 + a)) := by
  unfold Md_tallied
  rw [show (9 + nI a) - 3 = nI (6 + a) by rw [show (9 : Int32) = nI 9 from rfl, show (3 : Int32) = nI 3 from rfl, nI_add, pk_sub (by omega)]; congr 1; omega]
  rw [if_pos (q_in (by omega) (by omega)), q_cl (by omega)]
/-- the reference's in-range test -/
theorem inr_0 {x : Int32} {n : Nat} (hn : n < 100000) : Md_inRange x 0 (nI n - 1) = if x < 0 then 0 else if nI n ≤ x then 0 else 1 := by
  unfold Md_inRange
  by_cases h0 : x < 0
  · rw [if_pos h0, if_pos h0]
  · rw [if_neg h0, if_neg h0]
    obtain ⟨j, hj, rfl⟩ := nI_of h0
    cases n with
    | zero =>
      rw [if_pos (show nI 0 - 1 < nI j from Int32.lt_of_lt_of_le (by decide : nI 0 - 1 < 0) (nI_pos' hj)), if_pos (show nI 0 ≤ nI j from nI_pos' hj)]
    | succ n =>
      rw [nI_pred]
      by_cases h1 : n < j
      · rw [if_pos (nI_lt h1 hj), if_pos ((nI_leI (by omega) hj).mpr h1)]
      · rw [if_neg (nI_nlt (by omega) (by omega)), if_neg (fun q => h1 ((nI_leI (by omega) hj).mp q))]
