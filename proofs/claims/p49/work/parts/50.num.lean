/-! the pure layer: numbers, lists, the reference's cells -/
theorem q_lt {a b : Nat} (ha : a < 100000) (hb : b < 100000) : nI a < nI b ↔ a < b := nI_ltI (by omega) (by omega)
theorem q_le {a b : Nat} (ha : a < 100000) (hb : b < 100000) : nI a ≤ nI b ↔ a ≤ b := nI_leI (by omega) (by omega)
theorem q_eq {a b : Nat} (ha : a < 100000) (hb : b < 100000) : nI a = nI b ↔ a = b := nI_eq (by omega) (by omega)
theorem q_m1 {a : Nat} (ha : a < 100000) : ¬ nI a = -1 := fun h => absurd (show nI a < 0 by rw [h]; decide) (nI_pos (by omega))
theorem q_neg {a : Nat} (ha : a < 100000) : ¬ nI a < 0 := nI_pos (by omega)
theorem q_cl {a : Nat} (ha : a < 100000) : (nI a).toNatClampNeg = a := nI_clamp (by omega)
theorem q_in {a N : Nat} (h : a < N) (hN : N < 100000) : inB (nI a) N := nI_in h (by omega)
theorem tn1 : (1 : Int32).toNatClampNeg = 1 := by decide
theorem tn2 : (2 : Int32).toNatClampNeg = 2 := by decide
theorem tn3 : (3 : Int32).toNatClampNeg = 3 := by decide
theorem tn4 : (4 : Int32).toNatClampNeg = 4 := by decide
theorem tn5 : (5 : Int32).toNatClampNeg = 5 := by decide
theorem tn6 : (6 : Int32).toNatClampNeg = 6 := by decide
theorem tn7 : (7 : Int32).toNatClampNeg = 7 := by decide
theorem tn8 : (8 : Int32).toNatClampNeg = 8 := by decide
/-- places of a list -/
theorem lg_in {xs : List Int32} {i : Nat} (h : i < xs.length) (hl : xs.length ≤ 1000) : lnget xs (nI i) = xs.getD i 0 := by
  unfold lnget
  rw [if_pos ⟨nI_pos' (by omega), nI_lt h (by omega)⟩, nI_clamp (by omega)]
theorem lg_out {xs : List Int32} {i : Nat} (h : xs.length ≤ i) (hi : i < 100000) : lnget xs (nI i) = -1 := by
  unfold lnget
  rw [if_neg (fun q => nI_nlt h (by omega) q.2)]
theorem lg_neg {xs : List Int32} {p : Int32} (h : p < 0) : lnget xs p = -1 := by
  unfold lnget
  rw [if_neg (fun q => absurd h (Int32.not_lt.mpr q.1))]
theorem ls_in {xs : List Int32} {i : Nat} (v : Int32) (h : i < xs.length) (hl : xs.length ≤ 1000) : lnset xs (nI i) v = xs.set i v := by
  unfold lnset
  rw [if_pos ⟨nI_pos' (by omega), nI_lt h (by omega)⟩, nI_clamp (by omega)]
theorem lr_in {xs : List Int32} {i : Nat} (v : Int32) (h : i < xs.length) (hl : xs.length ≤ 1000) : lnraise xs (nI i) v = xs.set i (xs.getD i 0 + v) := by
  unfold lnraise
  rw [if_pos ⟨nI_pos' (by omega), nI_lt h (by omega)⟩, nI_clamp (by omega)]
theorem la_in {N : Nat} {xs : List Int32} (v : Int32) (h : xs.length < N) : lnadd N xs v = xs ++ [v] := if_pos h
theorem li_in {N : Nat} {xs : List Int32} {i : Nat} (v : Int32) (h : i ≤ xs.length) (hN : xs.length < N) (hl : N ≤ 1000) : lnins N xs (nI i) v = xs.take i ++ v :: xs.drop i := by
  unfold lnins
  rw [if_neg (fun q => by
    rcases q with q | q | q
    · exact nI_pos (by omega) q
    · exact nI_nlt h (by omega) q
    · omega), nI_clamp (by omega)]
theorem lm_in {xs : List Int32} {i : Nat} (h : i < xs.length) (hl : xs.length ≤ 1000) : lnrem xs (nI i) = xs.take i ++ xs.drop (i + 1) := by
  unfold lnrem
  rw [if_neg (fun q => by
    rcases q with q | q
    · exact nI_pos (by omega) q
    · exact nI_ge h (by omega) q), nI_clamp (by omega)]
theorem gd_ins {xs : List Int32} {i : Nat} {v : Int32} (h : i ≤ xs.length) (j : Nat) : (xs.take i ++ v :: xs.drop i).getD j 0 = if j < i then xs.getD j 0 else if j = i then v else xs.getD (j - 1) 0 := by
  rw [getD_app, List.length_take, Nat.min_eq_left h]
  by_cases h1 : j < i
  · rw [if_pos h1, if_pos h1, getD_take _ _ _ h1]
  · rw [if_neg h1, if_neg h1]
    by_cases h2 : j = i
    · subst h2
      rw [if_pos rfl, Nat.sub_self]; rfl
    · rw [if_neg h2]
      obtain ⟨d, rfl⟩ : ∃ d, j = i + (d + 1) := ⟨j - i - 1, by omega⟩
      rw [Nat.add_sub_cancel_left, show i + (d + 1) - 1 = i + d by omega]
      show (xs.drop i).getD d 0 = _
      rw [getD_drop]
theorem gd_rem {xs : List Int32} {i : Nat} (h : i < xs.length) (j : Nat) : (xs.take i ++ xs.drop (i + 1)).getD j 0 = if j < i then xs.getD j 0 else xs.getD (j + 1) 0 := by
  rw [getD_app, List.length_take, Nat.min_eq_left (by omega)]
  by_cases h1 : j < i
  · rw [if_pos h1, if_pos h1, getD_take _ _ _ h1]
  · rw [if_neg h1, if_neg h1, getD_drop]
    congr 1
    omega
theorem gd_app1 {xs : List Int32} {v : Int32} (j : Nat) (h : j ≤ xs.length) : (xs ++ [v]).getD j 0 = if j = xs.length then v else xs.getD j 0 := by
  rw [getD_app]
  by_cases h1 : j < xs.length
  · rw [if_pos h1, if_neg (by omega)]
  · obtain rfl : j = xs.length := by omega
    rw [if_neg h1, if_pos rfl, Nat.sub_self]; rfl
theorem ln_ins {xs : List Int32} {i : Nat} {v : Int32} (h : i ≤ xs.length) : (xs.take i ++ v :: xs.drop i).length = xs.length + 1 := by
  simp only [List.length_append, List.length_take, List.length_cons, List.length_drop]; omega
theorem ln_rem {xs : List Int32} {i : Nat} (h : i < xs.length) : (xs.take i ++ xs.drop (i + 1)).length = xs.length - 1 := by
  simp only [List.length_append, List.length_take, List.length_drop]; omega
theorem mem_gd {xs : List Int32} {x : Int32} : x ∈ xs ↔ ∃ i, i < xs.length ∧ xs.getD i 0 = x := by
  rw [List.mem_iff_getElem]
  constructor
  · rintro ⟨i, hi, e⟩
    exact ⟨i, hi, by rw [List.getD_eq_getElem?_getD, List.getElem?_eq_getElem hi]; exact e⟩
  · rintro ⟨i, hi, e⟩
    refine ⟨i, hi, ?_⟩
    rw [List.getD_eq_getElem?_getD, List.getElem?_eq_getElem hi] at e
    exact e
theorem gd_mem {xs : List Int32} {i : Nat} (h : i < xs.length) : xs.getD i 0 ∈ xs := mem_gd.mpr ⟨i, h, rfl⟩
theorem nd_inj {xs : List Int32} (h : xs.Nodup) {i j : Nat} (hi : i < xs.length) (hj : j < xs.length) (e : xs.getD i 0 = xs.getD j 0) : i = j := by
  have h1 : xs[i]? = xs[j]? := by
    rw [List.getD_eq_getElem?_getD, List.getD_eq_getElem?_getD, List.getElem?_eq_getElem hi, List.getElem?_eq_getElem hj] at e
    rw [List.getElem?_eq_getElem hi, List.getElem?_eq_getElem hj]
    exact congrArg some e
  exact (List.getElem?_inj hi h).mp h1
theorem mem_ins {xs : List Int32} {i : Nat} {v x : Int32} : x ∈ xs.take i ++ v :: xs.drop i ↔ x = v ∨ x ∈ xs := by
  have h := (List.perm_middle (a := v) (l₁ := xs.take i) (l₂ := xs.drop i)).mem_iff (a := x)
  rw [h, List.take_append_drop, List.mem_cons]
theorem nd_ins {xs : List Int32} {i : Nat} {v : Int32} (h : xs.Nodup) (hv : v ∉ xs) : (xs.take i ++ v :: xs.drop i).Nodup := by
  have h1 := (List.perm_middle (a := v) (l₁ := xs.take i) (l₂ := xs.drop i)).nodup_iff
  rw [h1, List.take_append_drop, List.nodup_cons]
  exact ⟨hv, h⟩
theorem nd_rem {xs : List Int32} {i : Nat} (h : xs.Nodup) : (xs.take i ++ xs.drop (i + 1)).Nodup := by
  rw [← List.eraseIdx_eq_take_drop_succ]
  exact h.eraseIdx i
theorem mem_rem {xs : List Int32} {i : Nat} {x : Int32} (h : xs.Nodup) (hi : i < xs.length) : x ∈ xs.take i ++ xs.drop (i + 1) ↔ x ∈ xs ∧ x ≠ xs.getD i 0 := by
  rw [← List.eraseIdx_eq_take_drop_succ, List.mem_eraseIdx_iff_getElem?]
  constructor
  · rintro ⟨j, hj, e⟩
    obtain ⟨hj1, e1⟩ := List.getElem?_eq_some_iff.mp e
    have e2 : xs.getD j 0 = x := by rw [List.getD_eq_getElem?_getD, e]; rfl
    refine ⟨mem_gd.mpr ⟨j, hj1, e2⟩, fun q => hj (nd_inj h hj1 hi (e2.trans q))⟩
  · rintro ⟨h1, h2⟩
    obtain ⟨j, hj, e⟩ := mem_gd.mp h1
    refine ⟨j, fun q => h2 (by rw [← e, q]), ?_⟩
    rw [List.getElem?_eq_getElem hj, ← e, List.getD_eq_getElem?_getD, List.getElem?_eq_getElem hj]
    rfl
/-- the first place of a number -/
theorem lp_spec (v : Int32) : ∀ (xs : List Int32) (s : Nat), (∃ i, i < xs.length ∧ xs.getD i 0 = v ∧ (∀ j, j < i → xs.getD j 0 ≠ v) ∧ lnplN xs v s = nI (s + i)) ∨ ((∀ i, i < xs.length → xs.getD i 0 ≠ v) ∧ lnplN xs v s = -1) := by
  intro xs
  induction xs with
  | nil => exact fun s => Or.inr ⟨fun i hi => absurd hi (Nat.not_lt_zero i), rfl⟩
  | cons x xs ih =>
    intro s
    unfold lnplN
    by_cases hx : x = v
    · rw [if_pos hx]
      exact Or.inl ⟨0, Nat.zero_lt_succ _, hx, fun j hj => absurd hj (Nat.not_lt_zero j), rfl⟩
    · rw [if_neg hx]
      rcases ih (s + 1) with ⟨i, h1, h2, h3, h4⟩ | ⟨h1, h2⟩
      · refine Or.inl ⟨i + 1, Nat.succ_lt_succ h1, h2, fun j hj => ?_, by rw [h4]; congr 1; omega⟩
        cases j with
        | zero => exact hx
        | succ j => exact h3 j (by omega)
      · refine Or.inr ⟨fun i hi => ?_, h2⟩
        cases i with
        | zero => exact hx
        | succ i => exact h1 i (Nat.lt_of_succ_lt_succ hi)
theorem lp_cases (xs : List Int32) (v : Int32) : (∃ i, i < xs.length ∧ xs.getD i 0 = v ∧ (∀ j, j < i → xs.getD j 0 ≠ v) ∧ lnpl xs v = nI i) ∨ ((∀ i, i < xs.length → xs.getD i 0 ≠ v) ∧ lnpl xs v = -1) := by
  have h := lp_spec v xs 0
  simpa [lnpl] using h
theorem lp_mem {xs : List Int32} {v : Int32} (h : v ∈ xs) : ∃ i, i < xs.length ∧ xs.getD i 0 = v ∧ (∀ j, j < i → xs.getD j 0 ≠ v) ∧ lnpl xs v = nI i := by
  rcases lp_cases xs v with h1 | ⟨h1, -⟩
  · exact h1
  · obtain ⟨i, hi, e⟩ := mem_gd.mp h
    exact absurd e (h1 i hi)
theorem lp_not {xs : List Int32} {v : Int32} (h : v ∉ xs) : lnpl xs v = -1 := by
  rcases lp_cases xs v with ⟨i, hi, e, -, -⟩ | ⟨-, h1⟩
  · exact absurd (mem_gd.mpr ⟨i, hi, e⟩) h
  · exact h1
/-! rows of numbers by their places; lists by a picture -/
def rg (n : Nat) (g : Nat → Int32) : List Int32 := (List.range n).map g
theorem rg_len (n : Nat) (g : Nat → Int32) : (rg n g).length = n := by unfold rg; rw [List.length_map, List.length_range]
theorem rg_q (n : Nat) (g : Nat → Int32) (i : Nat) : (rg n g)[i]? = if i < n then some (g i) else none := by
  unfold rg
  rw [List.getElem?_map]
  by_cases h : i < n
  · rw [if_pos h, List.getElem?_range h]; rfl
  · rw [if_neg h, List.getElem?_eq_none (by rw [List.length_range]; omega)]; rfl
theorem rg_d {n : Nat} (g : Nat → Int32) {i : Nat} (h : i < n) : (rg n g).getD i 0 = g i := by
  rw [List.getD_eq_getElem?_getD, rg_q, if_pos h]; rfl
theorem rg_ext {n : Nat} {xs : List Int32} {g : Nat → Int32} (hl : xs.length = n) (h : ∀ i, i < n → xs[i]? = some (g i)) : xs = rg n g := by
  apply List.ext_getElem?
  intro i
  rw [rg_q]
  by_cases hi : i < n
  · rw [if_pos hi, h i hi]
  · rw [if_neg hi, List.getElem?_eq_none (by omega)]
theorem rg_congr {n : Nat} {g g' : Nat → Int32} (h : ∀ i, i < n → g i = g' i) : rg n g = rg n g' := rg_ext (rg_len n g) fun i hi => by rw [rg_q, if_pos hi, h i hi]
/-- a list's value at a place, by a picture -/
theorem lg_map {α : Type} (φ : α → Int32) (l : List α) {i : Nat} (hi : i < 100000) (hl : l.length ≤ 1000) : lnget (l.map φ) (nI i) = match l[i]? with
    | some a => φ a
    | none => -1 := by
  cases h : l[i]? with
  | none => exact lg_out (by rw [List.length_map]; exact List.getElem?_eq_none_iff.mp h) hi
  | some a =>
    have h1 : i < l.length := (List.getElem?_eq_some_iff.mp h).1
    rw [lg_in (by rw [List.length_map]; exact h1) (by rw [List.length_map]; exact hl), List.getD_eq_getElem?_getD, List.getElem?_map, h]
    rfl
theorem lg_some {α : Type} {φ : α → Int32} {l : List α} {i : Nat} {a : α} (h : l[i]? = some a) (hl : l.length ≤ 1000) : lnget (l.map φ) (nI i) = φ a := by
  have h1 : i < l.length := (List.getElem?_eq_some_iff.mp h).1
  rw [lg_map φ l (by omega) hl, h]
theorem lg_rg {n : Nat} (g : Nat → Int32) {i : Nat} (hi : i < n) (hn : n ≤ 1000) : lnget (rg n g) (nI i) = g i := by
  rw [lg_in (by rw [rg_len]; exact hi) (by rw [rg_len]; exact hn), rg_d g hi]
theorem lg_rgo {n : Nat} (g : Nat → Int32) {i : Nat} (hi : n ≤ i) (h : i < 100000) : lnget (rg n g) (nI i) = -1 := lg_out (by rw [rg_len]; exact hi) h
theorem ls_rg {n : Nat} (g : Nat → Int32) {i : Nat} (v : Int32) (hi : i < n) (hn : n ≤ 1000) : lnset (rg n g) (nI i) v = rg n (upd g i v) := by
  rw [ls_in v (by rw [rg_len]; exact hi) (by rw [rg_len]; exact hn)]
  refine rg_ext (by rw [List.length_set, rg_len]) fun j hj => ?_
  rw [List.getElem?_set, rg_len, rg_q, if_pos hj]
  by_cases h : i = j
  · subst h; rw [if_pos rfl, if_pos hj]; simp [upd]
  · rw [if_neg h]; simp [upd, Ne.symm h]
theorem lr_rg {n : Nat} (g : Nat → Int32) {i : Nat} (v : Int32) (hi : i < n) (hn : n ≤ 1000) : lnraise (rg n g) (nI i) v = rg n (upd g i (g i + v)) := by
  rw [lr_in v (by rw [rg_len]; exact hi) (by rw [rg_len]; exact hn), rg_d g hi]
  have h := ls_rg g (g i + v) hi hn
  rwa [ls_in _ (by rw [rg_len]; exact hi) (by rw [rg_len]; exact hn)] at h
theorem la_rg {n N : Nat} (g : Nat → Int32) (v : Int32) (h : n < N) : lnadd N (rg n g) v = rg (n + 1) (upd g n v) := by
  rw [la_in v (by rw [rg_len]; exact h)]
  refine rg_ext (by rw [List.length_append, rg_len]; rfl) fun j hj => ?_
  by_cases h1 : j < n
  · rw [List.getElem?_append_left (by rw [rg_len]; exact h1), rg_q, if_pos h1]; simp [upd, show j ≠ n by omega]
  · obtain rfl : j = n := by omega
    rw [List.getElem?_append_right (by rw [rg_len]; exact Nat.le_refl _), rg_len, Nat.sub_self]; simp [upd]
theorem tk_rg {n N : Nat} (g : Nat → Int32) (h : n ≤ N) : (rg n g).take N = rg n g := List.take_of_length_le (by rw [rg_len]; exact h)
theorem rg_nil (g : Nat → Int32) : rg 0 g = [] := rfl
/-- sums and counts along places -/
def sm (n : Nat) (g : Nat → Nat) : Nat := match n with
  | 0 => 0
  | n + 1 => sm n g + g n
theorem sm_congr {n : Nat} {g g' : Nat → Nat} (h : ∀ i, i < n → g i = g' i) : sm n g = sm n g' := by
  induction n with
  | zero => rfl
  | succ n ih =>
    show sm n g + g n = sm n g' + g' n
    rw [ih (fun i hi => h i (by omega)), h n (by omega)]
theorem sm_le {n : Nat} {g g' : Nat → Nat} (h : ∀ i, i < n → g i ≤ g' i) : sm n g ≤ sm n g' := by
  induction n with
  | zero => exact Nat.le_refl _
  | succ n ih =>
    have h1 := ih (fun i hi => h i (by omega)); have h2 := h n (by omega)
    show sm n g + g n ≤ sm n g' + g' n
    omega
theorem sm_add (n : Nat) (g g' : Nat → Nat) : sm n (fun i => g i + g' i) = sm n g + sm n g' := by
  induction n with
  | zero => rfl
  | succ n ih =>
    show sm n (fun i => g i + g' i) + (g n + g' n) = sm n g + g n + (sm n g' + g' n)
    omega
theorem sm_0 (n : Nat) : sm n (fun _ => 0) = 0 := by
  induction n with
  | zero => rfl
  | succ n ih => exact ih
theorem sm_one {n i : Nat} (h : i < n) (v : Nat) : sm n (fun j => if j = i then v else 0) = v := by
  induction n with
  | zero => omega
  | succ n ih =>
    show sm n (fun j => if j = i then v else 0) + (if n = i then v else 0) = v
    by_cases h1 : n = i
    · subst h1
      rw [if_pos rfl, sm_congr (g' := fun _ => 0) (fun j hj => if_neg (by omega)), sm_0]; omega
    · rw [if_neg h1, ih (by omega)]; omega
/-- one place changed -/
theorem sm_upd {n i : Nat} (h : i < n) {g g' : Nat → Nat} (he : ∀ j, j < n → j ≠ i → g' j = g j) : sm n g' + g i = sm n g + g' i := by
  induction n with
  | zero => omega
  | succ n ih =>
    show sm n g' + g' n + g i = sm n g + g n + g' i
    by_cases h1 : n = i
    · subst h1
      rw [sm_congr (g := g') (g' := g) (fun j hj => he j (by omega) (by omega))]; omega
    · have h2 := ih (by omega) (fun j hj => he j (by omega))
      have h3 := he n (by omega) h1
      omega
theorem sm_ge {n i : Nat} (h : i < n) (g : Nat → Nat) : g i ≤ sm n g := by
  induction n with
  | zero => omega
  | succ n ih =>
    show g i ≤ sm n g + g n
    by_cases h1 : n = i
    · subst h1; omega
    · have := ih (by omega); omega
theorem rg_succ (n : Nat) (g : Nat → Int32) : rg (n + 1) g = rg n g ++ [g n] := by unfold rg; rw [List.range_succ, List.map_append]; rfl
theorem lc_rg (n : Nat) (g : Nat → Int32) (v : Int32) : lncnt (rg n g) v = nI (sm n (fun i => if g i = v then 1 else 0)) := by
  unfold lncnt
  congr 1
  induction n with
  | zero => rfl
  | succ n ih =>
    rw [rg_succ, List.count_append, ih, List.count_singleton]
    show _ = sm n (fun i => if g i = v then 1 else 0) + (if g n = v then 1 else 0)
    congr 1
    by_cases h : g n = v
    · rw [if_pos h, if_pos (beq_iff_eq.mpr h)]
    · rw [if_neg h, if_neg (fun q => h (beq_iff_eq.mp q))]
/-! lists of numbers below 100000 -/
def ml (l : List Nat) : List Int32 := l.map nI
def B5 (l : List Nat) : Prop := ∀ x ∈ l, x < 100000
theorem ml_len (l : List Nat) : (ml l).length = l.length := List.length_map _
theorem lc_ml {l : List Nat} (hb : B5 l) {v : Nat} (hv : v < 100000) : lncnt (ml l) (nI v) = nI (l.count v) := by
  unfold lncnt
  congr 1
  unfold ml
  induction l with
  | nil => rfl
  | cons x l ih =>
    rw [List.map_cons, List.count_cons, List.count_cons, ih (fun y hy => hb y (List.mem_cons_of_mem _ hy))]
    congr 1
    have hx := hb x List.mem_cons_self
    by_cases h : x = v
    · rw [if_pos (beq_iff_eq.mpr (congrArg nI h)), if_pos (beq_iff_eq.mpr h)]
    · rw [if_neg (fun q => h ((q_eq hx hv).mp (beq_iff_eq.mp q))), if_neg (fun q => h (beq_iff_eq.mp q))]
theorem lp_mlN {l : List Nat} (hb : B5 l) {v : Nat} (hv : v < 100000) : ∀ s : Nat, lnplN (ml l) (nI v) s = if v ∈ l then nI (s + l.idxOf v) else -1 := by
  unfold ml
  induction l with
  | nil => intro s; rw [if_neg List.not_mem_nil]; rfl
  | cons x l ih =>
    intro s
    have hx := hb x List.mem_cons_self
    show (if nI x = nI v then nI s else lnplN (l.map nI) (nI v) (s + 1)) = _
    by_cases h : x = v
    · subst h
      rw [if_pos rfl, if_pos List.mem_cons_self, List.idxOf_cons_self]
      rfl
    · rw [if_neg (fun q => h ((q_eq hx hv).mp q)), ih (fun y hy => hb y (List.mem_cons_of_mem _ hy)) (s + 1)]
      by_cases h1 : v ∈ l
      · rw [if_pos h1, if_pos (List.mem_cons_of_mem _ h1), List.idxOf_cons, show (x == v) = false from beq_eq_false_iff_ne.mpr h]
        show nI (s + 1 + l.idxOf v) = nI (s + (l.idxOf v + 1))
        congr 1; omega
      · rw [if_neg h1, if_neg (fun q => by
          rcases List.mem_cons.mp q with q | q
          · exact h q.symm
          · exact h1 q)]
theorem lp_ml {l : List Nat} (hb : B5 l) {v : Nat} (hv : v < 100000) : lnpl (ml l) (nI v) = if v ∈ l then nI (l.idxOf v) else -1 := by
  unfold lnpl
  rw [lp_mlN hb hv 0, Nat.zero_add]
theorem lg_ml {l : List Nat} {i : Nat} (h : i < l.length) (hl : l.length ≤ 1000) : lnget (ml l) (nI i) = nI (l.getD i 0) := by
  rw [show ml l = l.map nI from rfl, lg_some (φ := nI) (a := l.getD i 0) (by rw [List.getD_eq_getElem?_getD, List.getElem?_eq_getElem h]; rfl) hl]
theorem lg_mlo {l : List Nat} {i : Nat} (h : l.length ≤ i) (hi : i < 100000) : lnget (ml l) (nI i) = -1 := lg_out (by rw [ml_len]; exact h) hi
theorem lm_map {α : Type} {φ : α → Int32} {l : List α} {i : Nat} (h : i < l.length) (hl : l.length ≤ 1000) : lnrem (l.map φ) (nI i) = (l.eraseIdx i).map φ := by
  rw [lm_in (by rw [List.length_map]; exact h) (by rw [List.length_map]; exact hl), List.eraseIdx_eq_take_drop_succ, List.map_append, List.map_take, List.map_drop]
theorem la_map {α : Type} {φ : α → Int32} {l : List α} {N : Nat} (a : α) (h : l.length < N) : lnadd N (l.map φ) (φ a) = (l ++ [a]).map φ := by
  rw [la_in _ (by rw [List.length_map]; exact h), List.map_append]; rfl
theorem li_ml {l : List Nat} {i v : Nat} (h : i ≤ l.length) (hl : l.length < 24) : lnins 24 (ml l) (nI i) (nI v) = ml (l.take i ++ v :: l.drop i) := by
  unfold ml
  rw [li_in (nI v) (by rw [List.length_map]; exact h) (by rw [List.length_map]; exact hl) (by omega), List.map_append, List.map_cons, List.map_take, List.map_drop]
theorem lr_map {α : Type} {φ : α → Int32} {l : List α} {i : Nat} {a a' : α} (h : l[i]? = some a) (hl : l.length ≤ 1000) (v : Int32) (he : φ a + v = φ a') : lnraise (l.map φ) (nI i) v = (l.set i a').map φ := by
  have h1 : i < l.length := (List.getElem?_eq_some_iff.mp h).1
  rw [lr_in v (by rw [List.length_map]; exact h1) (by rw [List.length_map]; exact hl), List.getD_eq_getElem?_getD, List.getElem?_map, h]
  show (l.map φ).set i (φ a + v) = _
  rw [he, List.map_set]
theorem ls_ml {l : List Nat} {i v : Nat} (h : i < l.length) (hl : l.length ≤ 1000) : lnset (ml l) (nI i) (nI v) = ml (l.set i v) := by
  unfold ml
  rw [ls_in _ (by rw [List.length_map]; exact h) (by rw [List.length_map]; exact hl), List.map_set]
