/-! a Line's methods by lists -/
theorem FU_gt {n : Nat} (h : n < 1000) : n < FU := h
theorem i_lt {a b : Nat} (ha : a < 2 ^ 31) (hb : b < 2 ^ 31) : nI a < nI b ↔ a < b := nI_ltI ha hb
theorem i_le {a b : Nat} (ha : a < 2 ^ 31) (hb : b < 2 ^ 31) : nI a ≤ nI b ↔ a ≤ b := nI_leI ha hb
theorem getD_set (xs : List Int32) (j : Nat) (v : Int32) (i : Nat) (hj : j < xs.length) : (xs.set j v).getD i 0 = if i = j then v else xs.getD i 0 := by
  rw [List.getD_eq_getElem?_getD, List.getD_eq_getElem?_getD, List.getElem?_set]
  by_cases h : j = i
  · subst h
    rw [if_pos rfl, if_pos hj, if_pos rfl]; rfl
  · rw [if_neg h, if_neg (fun q => h q.symm)]
theorem pre_set {f : Nat → Int32} {N : Nat} {xs : List Int32} (h : pre_ok f N xs) (j : Nat) (v : Int32) (hj : j < xs.length) : pre_ok (upd f j v) N (xs.set j v) := by
  refine ⟨by rw [List.length_set]; exact h.1, fun i hi => ?_⟩
  rw [List.length_set] at hi
  rw [getD_set xs j v i hj]
  by_cases hij : i = j
  · subst hij; rw [if_pos rfl]; exact if_pos rfl
  · rw [if_neg hij, ← h.2 i hi]; exact if_neg hij
theorem pre_app {f : Nat → Int32} {N : Nat} {xs : List Int32} (h : pre_ok f N xs) (v : Int32) (hl : xs.length < N) : pre_ok (upd f xs.length v) N (xs ++ [v]) := by
  refine ⟨by rw [List.length_append]; exact hl, fun i hi => ?_⟩
  rw [List.length_append, List.length_singleton] at hi
  by_cases hij : i = xs.length
  · subst hij
    rw [List.getD_eq_getElem?_getD, List.getElem?_append_right (Nat.le_refl _), Nat.sub_self]
    exact if_pos rfl
  · rw [List.getD_eq_getElem?_getD, List.getElem?_append_left (by omega), ← List.getD_eq_getElem?_getD, ← h.2 i (by omega)]
    exact if_neg hij
theorem e_get {f : Nat → Int32} {N : Nat} {xs : List Int32} (hf : pre_ok f N xs) (hN : N ≤ 1000) (p : Int32) : Ln_get N (f, nI xs.length) p = some (lnget xs p) := by
  have hl : xs.length < 2 ^ 31 := by have := hf.1; omega
  unfold Ln_get lnget
  dsimp only
  by_cases h0 : p < 0
  · rw [if_pos h0, if_neg (fun h => absurd h.1 (Int32.not_le.mpr h0))]
  · obtain ⟨j, hj, rfl⟩ := nI_of h0
    rw [if_neg h0]
    by_cases h1 : xs.length ≤ j
    · rw [if_pos ((i_le hl hj).mpr h1), if_neg (fun h => absurd ((i_lt hj hl).mp h.2) (by omega))]
    · have := hf.1
      rw [if_neg (fun h => h1 ((i_le hl hj).mp h)), if_pos (nI_in (by omega) (by omega)), if_pos ⟨nI_pos' hj, (i_lt hj hl).mpr (by omega)⟩, nI_clamp hj, hf.2 j (by omega)]
theorem e_set {f : Nat → Int32} {N : Nat} {xs : List Int32} (hf : pre_ok f N xs) (hN : N ≤ 1000) (p v : Int32) : ∃ f', pre_ok f' N (lnset xs p v) ∧ Ln_set N (f, nI xs.length) p v = some (f', nI (lnset xs p v).length) := by
  have hl : xs.length < 2 ^ 31 := by have := hf.1; omega
  unfold Ln_set lnset
  dsimp only
  by_cases h0 : p < 0
  · rw [if_pos h0, if_neg (fun h => absurd h.1 (Int32.not_le.mpr h0))]
    exact ⟨f, hf, rfl⟩
  · obtain ⟨j, hj, rfl⟩ := nI_of h0
    rw [if_neg h0]
    by_cases h1 : xs.length ≤ j
    · rw [if_pos ((i_le hl hj).mpr h1), if_neg (fun h => absurd ((i_lt hj hl).mp h.2) (by omega))]
      exact ⟨f, hf, rfl⟩
    · have := hf.1
      rw [if_neg (fun h => h1 ((i_le hl hj).mp h)), if_pos ⟨nI_pos' hj, (i_lt hj hl).mpr (by omega)⟩, if_pos (nI_in (by omega) (by omega)), nI_clamp hj]
      exact ⟨_, pre_set hf j v (by omega), by rw [List.length_set]⟩
theorem e_raise {f : Nat → Int32} {N : Nat} {xs : List Int32} (hf : pre_ok f N xs) (hN : N ≤ 1000) (p v : Int32) : ∃ f', pre_ok f' N (lnraise xs p v) ∧ Ln_raise N (f, nI xs.length) p v = some (f', nI (lnraise xs p v).length) := by
  have hl : xs.length < 2 ^ 31 := by have := hf.1; omega
  unfold Ln_raise lnraise
  dsimp only
  by_cases h0 : p < 0
  · rw [if_pos h0, if_neg (fun h => absurd h.1 (Int32.not_le.mpr h0))]
    exact ⟨f, hf, rfl⟩
  · obtain ⟨j, hj, rfl⟩ := nI_of h0
    rw [if_neg h0]
    by_cases h1 : xs.length ≤ j
    · rw [if_pos ((i_le hl hj).mpr h1), if_neg (fun h => absurd ((i_lt hj hl).mp h.2) (by omega))]
      exact ⟨f, hf, rfl⟩
    · have := hf.1
      rw [if_neg (fun h => h1 ((i_le hl hj).mp h)), if_pos ⟨nI_pos' hj, (i_lt hj hl).mpr (by omega)⟩, if_pos (nI_in (by omega) (by omega)), if_pos (nI_in (by omega) (by omega)), nI_clamp hj, hf.2 j (by omega)]
      exact ⟨_, pre_set hf j _ (by omega), by rw [List.length_set]⟩
theorem e_add {f : Nat → Int32} {N : Nat} {xs : List Int32} (hf : pre_ok f N xs) (hN : N ≤ 1000) (v : Int32) : ∃ f', pre_ok f' N (lnadd N xs v) ∧ Ln_add N (f, nI xs.length) v = some (f', nI (lnadd N xs v).length) := by
  have hl : xs.length < 2 ^ 31 := by have := hf.1; omega
  have hN' : N < 2 ^ 31 := by omega
  unfold Ln_add lnadd
  dsimp only
  rw [if_neg (nI_pos hl)]
  by_cases h1 : N ≤ xs.length
  · rw [if_pos ((i_le hN' hl).mpr h1), if_neg (by omega)]
    exact ⟨f, hf, rfl⟩
  · rw [if_neg (fun h => h1 ((i_le hN' hl).mp h)), if_pos (by omega), if_pos (nI_in (by omega) hN'), nI_clamp hl]
    exact ⟨_, pre_app hf v (by omega), by rw [List.length_append, List.length_singleton, nI_1]⟩
theorem e_insL {N p : Nat} {v c : Int32} (hN : N ≤ 1000) : ∀ (n i : Nat) (f : Nat → Int32), p ≤ i → i < N → i - p < n → Ln_insert_L30 N n (f, c) (nI p) v (nI i) = some (upd (fun j => if p < j ∧ j ≤ i then f (j - 1) else f j) p v, c + 1) := by
  intro n
  induction n with
  | zero => intro i f h1 h2 h3; omega
  | succ n ih =>
    intro i f h1 h2 h3
    rw [Ln_insert_L30]
    dsimp only
    by_cases hi : i ≤ p
    · rw [if_pos ((i_le (by omega) (by omega)).mpr hi), if_pos (nI_in (by omega) (by omega)), nI_clamp (by omega)]
      congr 2
      funext j
      by_cases hj : j = p
      · subst hj; simp [upd]
      · simp only [upd, if_neg hj]
        rw [if_neg (by omega)]
    · obtain ⟨i, rfl⟩ : ∃ k, i = k + 1 := ⟨i - 1, by omega⟩
      rw [if_neg (fun h => hi ((i_le (by omega) (by omega)).mp h)), nI_pred, pk_m1, if_pos (nI_in (by omega) (by omega)), if_pos (nI_in (by omega) (by omega)), nI_clamp (by omega), nI_clamp (by omega)]
      rw [ih i _ (by omega) (by omega) (by omega)]
      congr 2
      funext j
      by_cases hj : j = p
      · subst hj; simp [upd]
      · simp only [upd, if_neg hj]
        by_cases h4 : p < j ∧ j ≤ i
        · rw [if_pos h4, if_neg (by omega), if_pos (by omega)]
        · rw [if_neg h4]
          by_cases h5 : j = i + 1
          · subst h5
            rw [if_pos rfl, if_pos (by omega)]; rfl
          · rw [if_neg h5, if_neg (by omega)]
theorem getD_app (xs ys : List Int32) (i : Nat) : (xs ++ ys).getD i 0 = if i < xs.length then xs.getD i 0 else ys.getD (i - xs.length) 0 := by
  rw [List.getD_eq_getElem?_getD]
  by_cases h : i < xs.length
  · rw [List.getElem?_append_left h, if_pos h, ← List.getD_eq_getElem?_getD]
  · rw [List.getElem?_append_right (by omega), if_neg h, ← List.getD_eq_getElem?_getD]
theorem getD_take (xs : List Int32) (k i : Nat) (h : i < k) : (xs.take k).getD i 0 = xs.getD i 0 := by
  rw [List.getD_eq_getElem?_getD, List.getElem?_take_of_lt h, ← List.getD_eq_getElem?_getD]
theorem getD_drop (xs : List Int32) (k i : Nat) : (xs.drop k).getD i 0 = xs.getD (k + i) 0 := by
  rw [List.getD_eq_getElem?_getD, List.getElem?_drop, ← List.getD_eq_getElem?_getD]
theorem e_ins {f : Nat → Int32} {N : Nat} {xs : List Int32} (hf : pre_ok f N xs) (hN : N ≤ 999) (p v : Int32) : ∃ f', pre_ok f' N (lnins N xs p v) ∧ Ln_insert N (f, nI xs.length) p v = some (f', nI (lnins N xs p v).length) := by
  have hl0 := hf.1
  have hl : xs.length < 2 ^ 31 := by omega
  have hN' : N < 2 ^ 31 := by omega
  unfold Ln_insert lnins
  dsimp only
  by_cases h0 : p < 0
  · rw [if_pos h0, if_pos (Or.inl h0)]
    exact ⟨f, hf, rfl⟩
  · obtain ⟨j, hj, rfl⟩ := nI_of h0
    rw [if_neg h0]
    by_cases h1 : xs.length < j
    · rw [if_pos ((i_lt hl hj).mpr h1), if_pos (Or.inr (Or.inl ((i_lt hl hj).mpr h1)))]
      exact ⟨f, hf, rfl⟩
    · rw [if_neg (fun h => h1 ((i_lt hl hj).mp h))]
      by_cases h2 : N ≤ xs.length
      · rw [if_neg (fun h => absurd ((i_lt hl hN').mp h) (by omega)), if_pos (Or.inr (Or.inr h2))]
        exact ⟨f, hf, rfl⟩
      · rw [if_pos ((i_lt hl hN').mpr (by omega)), if_neg (fun h => by
          rcases h with h | h | h
          · exact h0 h
          · exact h1 ((i_lt hl hj).mp h)
          · exact h2 h), nI_clamp hj]
        show ∃ f', pre_ok f' N (xs.take j ++ v :: xs.drop j) ∧ Ln_insert_L30 N FU (f, nI xs.length) (nI j) v (nI xs.length) = _
        rw [e_insL (by omega) FU xs.length f (by omega) (by omega) (FU_gt (by omega))]
        refine ⟨_, ⟨?_, fun i hi => ?_⟩, by congr 2; simp only [List.length_append, List.length_take, List.length_cons, List.length_drop]; rw [nI_1]; congr 1; omega⟩
        · simp only [List.length_append, List.length_take, List.length_cons, List.length_drop]; omega
        · simp only [List.length_append, List.length_take, List.length_cons, List.length_drop] at hi
          rw [getD_app, List.length_take, Nat.min_eq_left (by omega)]
          by_cases hij : i = j
          · subst hij
            rw [if_neg (by omega), Nat.sub_self]
            exact if_pos rfl
          · refine (if_neg hij).trans ?_
            show (if j < i ∧ i ≤ xs.length then f (i - 1) else f i) = _
            by_cases h5 : i < j
            · rw [if_neg (by omega), if_pos h5, getD_take _ _ _ h5, hf.2 i (by omega)]
            · obtain ⟨d, rfl⟩ : ∃ d, i = j + 1 + d := ⟨i - (j + 1), by omega⟩
              rw [if_pos (by omega), if_neg h5, show j + 1 + d - j = d + 1 by omega, List.getD_cons_succ, getD_drop, hf.2 _ (by omega)]
              congr 1
              omega
theorem e_remL {N c : Nat} {v : Int32} (hN : N ≤ 1000) (hc : c < N) : ∀ (n i : Nat) (f : Nat → Int32), i ≤ c → c - i < n → Ln_removeAt_L25 N n (f, nI c) v (nI i) = some (fun j => if i ≤ j ∧ j < c then f (j + 1) else f j, nI c) := by
  intro n
  induction n with
  | zero => intro i f h1 h2; omega
  | succ n ih =>
    intro i f h1 h2
    rw [Ln_removeAt_L25]
    dsimp only
    by_cases hi : c ≤ i
    · rw [if_pos ((i_le (by omega) (by omega)).mpr hi)]
      congr 2
      funext j
      rw [if_neg (by omega)]
    · rw [if_neg (fun h => hi ((i_le (by omega) (by omega)).mp h)), nI_1, if_pos (nI_in (by omega) (by omega)), if_pos (nI_in (by omega) (by omega)), nI_clamp (by omega), nI_clamp (by omega)]
      rw [ih (i + 1) _ (by omega) (by omega)]
      congr 2
      funext j
      by_cases h4 : i + 1 ≤ j ∧ j < c
      · rw [if_pos h4, if_pos (by omega)]; exact if_neg (by omega)
      · rw [if_neg h4]
        by_cases h5 : j = i
        · subst h5
          rw [if_pos (by omega)]; exact if_pos rfl
        · rw [if_neg (by omega)]; exact if_neg h5
theorem e_rem {f : Nat → Int32} {N : Nat} {xs : List Int32} (hf : pre_ok f N xs) (hN : N ≤ 999) (p : Int32) : ∃ f', pre_ok f' N (lnrem xs p) ∧ Ln_removeAt N (f, nI xs.length) p = some (f', nI (lnrem xs p).length) := by
  have hl0 := hf.1
  have hl : xs.length < 2 ^ 31 := by omega
  unfold Ln_removeAt lnrem
  dsimp only
  by_cases h0 : p < 0
  · rw [if_pos h0, if_pos (Or.inl h0)]
    exact ⟨f, hf, rfl⟩
  · obtain ⟨j, hj, rfl⟩ := nI_of h0
    rw [if_neg h0]
    by_cases h1 : xs.length ≤ j
    · rw [if_neg (fun h => absurd ((i_lt hj hl).mp h) (by omega)), if_pos (Or.inr ((i_le hl hj).mpr h1))]
      exact ⟨f, hf, rfl⟩
    · rw [if_pos ((i_lt hj hl).mpr (by omega)), if_neg (fun h => by
          rcases h with h | h
          · exact h0 h
          · exact h1 ((i_le hl hj).mp h)), nI_clamp hj]
      obtain ⟨c, hc⟩ : ∃ c, xs.length = c + 1 := ⟨xs.length - 1, by omega⟩
      rw [hc, nI_pred, e_remL (by omega) (by omega) FU j f (by omega) (FU_gt (by omega))]
      refine ⟨_, ⟨?_, fun i hi => ?_⟩, by congr 2; simp only [List.length_append, List.length_take, List.length_drop]; congr 1; omega⟩
      · simp only [List.length_append, List.length_take, List.length_drop]; omega
      · simp only [List.length_append, List.length_take, List.length_drop] at hi
        rw [getD_app, List.length_take, Nat.min_eq_left (by omega)]
        by_cases h5 : i < j
        · rw [if_neg (by omega), if_pos h5, getD_take _ _ _ h5, hf.2 i (by omega)]
        · rw [if_pos (by omega), if_neg h5, getD_drop, hf.2 _ (by omega)]
          congr 1
          omega
theorem drop_getD (xs : List Int32) (i : Nat) (h : i < xs.length) : xs.drop i = xs.getD i 0 :: xs.drop (i + 1) := by
  rw [List.drop_eq_getElem_cons h, List.getD_eq_getElem?_getD, List.getElem?_eq_getElem h]; rfl
theorem e_plL {f : Nat → Int32} {N : Nat} {xs : List Int32} (hf : pre_ok f N xs) (hN : N ≤ 999) (v : Int32) : ∀ (n i : Nat), i ≤ xs.length → xs.length - i < n → Ln_placeOf_L2 N (f, nI xs.length) n v (nI i) = some (lnplN (xs.drop i) v i) := by
  have hl0 := hf.1
  intro n
  induction n with
  | zero => intro i h1 h2; omega
  | succ n ih =>
    intro i h1 h2
    rw [Ln_placeOf_L2]
    dsimp only
    by_cases hi : xs.length ≤ i
    · rw [if_pos ((i_le (by omega) (by omega)).mpr hi), List.drop_eq_nil_of_le hi]; rfl
    · rw [if_neg (fun h => hi ((i_le (by omega) (by omega)).mp h)), if_pos (nI_in (by omega) (by omega)), nI_clamp (by omega), drop_getD xs i (by omega), nI_1, ih (i + 1) (by omega) (by omega), lnplN]
      have hfi := hf.2 i (by omega)
      by_cases hv : f i = v
      · rw [if_pos hv, if_pos (hfi.symm.trans hv)]
      · rw [if_neg hv, if_neg (fun q => hv (hfi.trans q))]
theorem e_pl {f : Nat → Int32} {N : Nat} {xs : List Int32} (hf : pre_ok f N xs) (hN : N ≤ 999) (v : Int32) : Ln_placeOf N (f, nI xs.length) v = some (lnpl xs v) := by
  unfold Ln_placeOf lnpl
  have h := e_plL hf hN v FU 0 (Nat.zero_le _) (FU_gt (by have := hf.1; omega))
  rw [nI_0, List.drop_zero] at h
  exact h
theorem e_cntL {f : Nat → Int32} {N : Nat} {xs : List Int32} (hf : pre_ok f N xs) (hN : N ≤ 999) (v : Int32) : ∀ (n i k : Nat), i ≤ xs.length → xs.length - i < n → Ln_countOf_L4 N (f, nI xs.length) n v (nI k) (nI i) = some (nI (k + (xs.drop i).count v)) := by
  have hl0 := hf.1
  intro n
  induction n with
  | zero => intro i k h1 h2; omega
  | succ n ih =>
    intro i k h1 h2
    rw [Ln_countOf_L4]
    dsimp only
    by_cases hi : xs.length ≤ i
    · rw [if_pos ((i_le (by omega) (by omega)).mpr hi), List.drop_eq_nil_of_le hi]; rfl
    · rw [if_neg (fun h => hi ((i_le (by omega) (by omega)).mp h)), if_pos (nI_in (by omega) (by omega)), nI_clamp (by omega), drop_getD xs i (by omega), nI_1, nI_1, ih (i + 1) _ (by omega) (by omega), ih (i + 1) _ (by omega) (by omega), List.count_cons]
      have hfi := hf.2 i (by omega)
      by_cases hv : f i = v
      · rw [if_pos hv, if_pos (by rw [← hfi, hv]; exact beq_self_eq_true _)]; congr 2; omega
      · rw [if_neg hv, if_neg (by rw [← hfi]; simpa using hv)]; rfl
theorem e_cnt {f : Nat → Int32} {N : Nat} {xs : List Int32} (hf : pre_ok f N xs) (hN : N ≤ 999) (v : Int32) : Ln_countOf N (f, nI xs.length) v = some (lncnt xs v) := by
  unfold Ln_countOf lncnt
  have h := e_cntL hf hN v FU 0 0 (Nat.zero_le _) (FU_gt (by have := hf.1; omega))
  rw [nI_0, List.drop_zero, Nat.zero_add] at h
  exact h
theorem e_fillL {N m : Nat} (hN : N ≤ 999) (hm : m ≤ 900) : ∀ (n i : Nat) (f : Nat → Int32) (xs : List Int32), pre_ok f N xs → i ≤ m → m - i < n → xs = List.replicate (min i N) 0 → ∃ f', pre_ok f' N (List.replicate (min m N) 0) ∧ Ln_fillWithZeros_L6 N n (f, nI xs.length) (nI m) (nI i) = some (f', nI (List.replicate (min m N) (0 : Int32)).length) := by
  intro n
  induction n with
  | zero => intro i f xs h1 h2 h3; omega
  | succ n ih =>
    intro i f xs hf h1 h2 hx
    rw [Ln_fillWithZeros_L6]
    by_cases hi : m ≤ i
    · have him : i = m := by omega
      subst him
      rw [if_pos ((i_le (by omega) (by omega)).mpr hi)]
      subst hx
      exact ⟨f, hf, rfl⟩
    · rw [if_neg (fun h => hi ((i_le (by omega) (by omega)).mp h)), nI_1]
      obtain ⟨f', hf', he⟩ := e_add hf (by omega) 0
      rw [he]
      show ∃ f'', _ ∧ Ln_fillWithZeros_L6 N n (f', _) (nI m) (nI (i + 1)) = _
      refine ih (i + 1) f' _ hf' (by omega) (by omega) ?_
      subst hx
      unfold lnadd
      rw [List.length_replicate]
      by_cases h5 : i < N
      · rw [if_pos (by omega), Nat.min_eq_left (by omega), Nat.min_eq_left (by omega), ← List.replicate_succ']
      · rw [if_neg (by omega), Nat.min_eq_right (by omega), Nat.min_eq_right (by omega)]
theorem e_fill {f : Nat → Int32} {N : Nat} {xs : List Int32} (hf : pre_ok f N xs) (hN : N ≤ 999) (m : Int32) (hm : 0 ≤ m ∧ m ≤ 900) : ∃ f', pre_ok f' N (lnfill N m) ∧ Ln_fillWithZeros N (f, nI xs.length) m = some (f', nI (lnfill N m).length) := by
  obtain ⟨j, hj, rfl⟩ := nI_of2 (x := m) (M := 900) (n := 900) rfl (Int32.not_lt.mpr hm.1) hm.2
  unfold lnfill
  rw [nI_clamp (by omega)]
  exact e_fillL hN hj FU 0 f [] ⟨Nat.zero_le _, fun i hi => absurd hi (Nat.not_lt_zero _)⟩ (Nat.zero_le _) (FU_gt (by omega)) (by simp)
theorem e_copyL {N0 N1 c : Nat} {O : LnR} (h0 : c ≤ N0) (h1 : c ≤ N1) (hN : N0 ≤ 999 ∧ N1 ≤ 999) : ∀ (n i : Nat) (f : Nat → Int32), i ≤ c → c - i < n → Ln_copyFrom_L18 N0 N1 O n (f, nI c) (nI i) = some (fun j => if i ≤ j ∧ j < c then O.1 j else f j, nI c) := by
  intro n
  induction n with
  | zero => intro i f h1 h2; omega
  | succ n ih =>
    intro i f h3 h4
    rw [Ln_copyFrom_L18]
    dsimp only
    by_cases hi : c ≤ i
    · rw [if_pos ((i_le (by omega) (by omega)).mpr hi)]
      congr 2
      funext j
      rw [if_neg (by omega)]
    · rw [if_neg (fun h => hi ((i_le (by omega) (by omega)).mp h)), nI_1, if_pos (nI_in (by omega) (by omega)), if_pos (nI_in (by omega) (by omega)), nI_clamp (by omega)]
      rw [ih (i + 1) _ (by omega) (by omega)]
      congr 2
      funext j
      by_cases h5 : i + 1 ≤ j ∧ j < c
      · rw [if_pos h5, if_pos (by omega)]
      · rw [if_neg h5]
        by_cases h6 : j = i
        · subst h6
          rw [if_pos (by omega)]; exact if_pos rfl
        · rw [if_neg (by omega)]; exact if_neg h6
theorem e_copy {f f2 : Nat → Int32} {N0 N1 : Nat} {xs ys : List Int32} (hf : pre_ok f N0 xs) (hf2 : pre_ok f2 N1 ys) (hN : N0 ≤ 999 ∧ N1 ≤ 999) : ∃ f', pre_ok f' N0 (ys.take N0) ∧ Ln_copyFrom N0 N1 (f2, nI ys.length) (f, nI xs.length) = some (f', nI (ys.take N0).length) := by
  have h1 := hf.1
  have h2 := hf2.1
  unfold Ln_copyFrom
  dsimp only
  have hc : (if nI N0 < nI ys.length then nI N0 else nI ys.length) = nI (ys.take N0).length := by
    rw [List.length_take]
    by_cases h : N0 < ys.length
    · rw [if_pos ((i_lt (by omega) (by omega)).mpr h), Nat.min_eq_left (by omega)]
    · rw [if_neg (fun q => h ((i_lt (by omega) (by omega)).mp q)), Nat.min_eq_right (by omega)]
  rw [hc, show (0 : Int32) = nI 0 from rfl, e_copyL (c := (ys.take N0).length) (by rw [List.length_take]; omega) (by rw [List.length_take]; omega) hN FU 0 f (Nat.zero_le _) (FU_gt (by rw [List.length_take]; omega))]
  refine ⟨_, ⟨by rw [List.length_take]; omega, fun i hi => ?_⟩, rfl⟩
  rw [List.length_take] at hi
  rw [List.length_take, if_pos (by omega), getD_take _ _ _ (by omega)]
  exact hf2.2 i (by omega)
section KL
variable {σ : Hp} {a N : Nat} {xs : List Int32}
theorem k_count (l : Launch) (g : Gl) (h : isLn σ a N xs) (_ : N ≤ 999) : MG l g md_Ln_count [.ref a] σ (rs (some (.int (nI xs.length))) σ) :=
  MG.lnr h fun f _ => c_Ln_count l g σ a N (f, nI xs.length) rfl
theorem k_get (l : Launch) (g : Gl) (h : isLn σ a N xs) (hN : N ≤ 999) (p : Int32) : MG l g md_Ln_get [.ref a, .int p] σ (rs (some (.int (lnget xs p))) σ) :=
  MG.lnr h fun f hf => c_Ln_get l g σ a N (f, nI xs.length) p (e_get hf (by omega) p)
theorem k_placeOf (l : Launch) (g : Gl) (h : isLn σ a N xs) (hN : N ≤ 999) (v : Int32) : MG l g md_Ln_placeOf [.ref a, .int v] σ (rs (some (.int (lnpl xs v))) σ) :=
  MG.lnr h fun f hf => c_Ln_placeOf l g σ a N (f, nI xs.length) v (e_pl hf hN v)
theorem k_countOf (l : Launch) (g : Gl) (h : isLn σ a N xs) (hN : N ≤ 999) (v : Int32) : MG l g md_Ln_countOf [.ref a, .int v] σ (rs (some (.int (lncnt xs v))) σ) :=
  MG.lnr h fun f hf => c_Ln_countOf l g σ a N (f, nI xs.length) v (e_cnt hf hN v)
theorem k_set (l : Launch) (g : Gl) (h : isLn σ a N xs) (hN : N ≤ 999) (p v : Int32) : MG l g md_Ln_set [.ref a, .int p, .int v] σ (rs none (putLn σ a N (lnset xs p v))) :=
  MG.ln h fun f hf => (e_set hf (by omega) p v).elim fun f' q => ⟨f', q.1, c_Ln_set l g σ a N (f, nI xs.length) p v q.2⟩
theorem k_raise (l : Launch) (g : Gl) (h : isLn σ a N xs) (hN : N ≤ 999) (p v : Int32) : MG l g md_Ln_raise [.ref a, .int p, .int v] σ (rs none (putLn σ a N (lnraise xs p v))) :=
  MG.ln h fun f hf => (e_raise hf (by omega) p v).elim fun f' q => ⟨f', q.1, c_Ln_raise l g σ a N (f, nI xs.length) p v q.2⟩
theorem k_add (l : Launch) (g : Gl) (h : isLn σ a N xs) (hN : N ≤ 999) (v : Int32) : MG l g md_Ln_add [.ref a, .int v] σ (rs none (putLn σ a N (lnadd N xs v))) :=
  MG.ln h fun f hf => (e_add hf (by omega) v).elim fun f' q => ⟨f', q.1, c_Ln_add l g σ a N (f, nI xs.length) v q.2⟩
theorem k_insert (l : Launch) (g : Gl) (h : isLn σ a N xs) (hN : N ≤ 999) (p v : Int32) : MG l g md_Ln_insert [.ref a, .int p, .int v] σ (rs none (putLn σ a N (lnins N xs p v))) :=
  MG.ln h fun f hf => (e_ins hf hN p v).elim fun f' q => ⟨f', q.1, c_Ln_insert l g σ a N (f, nI xs.length) p v q.2⟩
theorem k_removeAt (l : Launch) (g : Gl) (h : isLn σ a N xs) (hN : N ≤ 999) (p : Int32) : MG l g md_Ln_removeAt [.ref a, .int p] σ (rs none (putLn σ a N (lnrem xs p))) :=
  MG.ln h fun f hf => (e_rem hf hN p).elim fun f' q => ⟨f', q.1, c_Ln_removeAt l g σ a N (f, nI xs.length) p q.2⟩
theorem k_clear (l : Launch) (g : Gl) (h : isLn σ a N xs) (_ : N ≤ 999) : MG l g md_Ln_clear [.ref a] σ (rs none (putLn σ a N [])) :=
  MG.ln h fun f _ => ⟨f, ⟨Nat.zero_le _, fun i hi => absurd hi (Nat.not_lt_zero _)⟩, c_Ln_clear l g σ a N (f, nI xs.length) rfl⟩
theorem k_fill (l : Launch) (g : Gl) (h : isLn σ a N xs) (hN : N ≤ 999) (m : Int32) (hm : 0 ≤ m ∧ m ≤ 900) : MG l g md_Ln_fillWithZeros [.ref a, .int m] σ (rs none (putLn σ a N (lnfill N m))) :=
  MG.ln h fun f hf => (e_fill hf hN m hm).elim fun f' q => ⟨f', q.1, c_Ln_fillWithZeros l g σ a N (f, nI xs.length) m q.2⟩
theorem k_copyFrom (l : Launch) (g : Gl) {a1 N1 : Nat} {ys : List Int32} (h : isLn σ a N xs) (h2 : isLn σ a1 N1 ys) (hN : N ≤ 999) (hN1 : N1 ≤ 999) (hd : farL a a1) : MG l g md_Ln_copyFrom [.ref a, .ref a1] σ (rs none (putLn σ a N (ys.take N))) := by
  obtain ⟨d1, d2, d3, d4⟩ := hd
  refine MG.opn (a := a1 + 1) h2.2 (fun f2 hf2 => ?_)
  have hl : isLn (hset σ (a1 + 1) (eI N1 f2)) a N xs := ⟨(hset_ne _ _ (Ne.symm d3)).trans h.1, (hset_ne _ _ (by omega)).trans h.2⟩
  have key : MG l g md_Ln_copyFrom [.ref a, .ref a1] (hset σ (a1 + 1) (eI N1 f2)) (rs none (putLn (hset σ (a1 + 1) (eI N1 f2)) a N (ys.take N))) :=
    MG.ln hl fun f hf => (e_copy hf hf2 ⟨hN, hN1⟩).elim fun f' q => ⟨f', q.1, c_Ln_copyFrom (O := (f2, nI ys.length)) ⟨(hset_ne _ _ (by omega)).trans h2.1, hset_self _ _ _⟩ ⟨d1, d2, d3, d4⟩ l g (f, nI xs.length) q.2⟩
  have k2 := MG.cls (a := a1 + 1) (N := N1) (f := f2) (xs := ys) (by
    show (putLn (hset σ (a1 + 1) (eI N1 f2)) a N (ys.take N)).2 (a1 + 1) = _
    exact (hset_ne _ _ d4).trans ((hset_ne _ _ d3).trans (hset_self _ _ _))) hf2 key
  have he : hset (putLn (hset σ (a1 + 1) (eI N1 f2)) a N (ys.take N)) (a1 + 1) (eL N1 ys) = putLn σ a N (ys.take N) := by
    unfold putLn
    rw [hset_comm _ _ _ (Ne.symm d4), hset_comm _ _ _ (Ne.symm d3), hset_hset, hset_id h2.2]
  rw [he] at k2
  exact k2
end KL
