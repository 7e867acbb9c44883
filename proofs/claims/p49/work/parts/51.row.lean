/-! the row: what its searches and counts answer, in numbers -/
def RM (M : StM) (mk : Nat → Nat) (row : List Nat) : Prop := M.2 7 = ml row ∧ row.length ≤ 24 ∧ B5 row ∧ ∀ f ∈ row, lnget (M.2 0) (nI f) = nI (mk f) ∧ mk f < 100000
theorem setL_s (M : StM) (j : Nat) (x y : List Int32) : setL (setL M j x) j y = setL M j y := by
  refine Prod.ext rfl (funext fun i => ?_)
  by_cases h : i = j <;> simp [setL, va_up, h]
theorem RM.of8 {M : StM} {mk : Nat → Nat} {row : List Nat} (h : RM M mk row) (j : Nat) (hj : j ≠ 0 ∧ j ≠ 7) (L : List Int32) : RM (setL M j L) mk row := by
  have e0 : (setL M j L).2 0 = M.2 0 := if_neg (Ne.symm hj.1)
  have e7 : (setL M j L).2 7 = M.2 7 := if_neg (Ne.symm hj.2)
  unfold RM
  rw [e0, e7]
  exact h
abbrev rmk (mk : Nat → Nat) (row : List Nat) : List Nat := row.map mk
theorem rmk_d (mk : Nat → Nat) {row : List Nat} {i : Nat} (h : i < row.length) : (rmk mk row).getD i 0 = mk (row.getD i 0) := by
  rw [List.getD_eq_getElem?_getD, List.getElem?_map, List.getD_eq_getElem?_getD, List.getElem?_eq_getElem h]; rfl
theorem gdn_mem {l : List Nat} {i : Nat} (h : i < l.length) : l.getD i 0 ∈ l := by
  rw [List.getD_eq_getElem?_getD, List.getElem?_eq_getElem h]
  exact List.getElem_mem h
section RMs
variable {M : StM} {mk : Nat → Nat} {row : List Nat}
theorem RM.at (h : RM M mk row) {i : Nat} (hi : i < row.length) : lnget (M.2 7) (nI i) = nI (row.getD i 0) := by
  rw [h.1]; exact lg_ml hi (by have := h.2.1; omega)
theorem RM.mark (h : RM M mk row) {i : Nat} (hi : i < row.length) : lnget (M.2 0) (lnget (M.2 7) (nI i)) = nI ((rmk mk row).getD i 0) ∧ (rmk mk row).getD i 0 < 100000 := by
  rw [h.at hi, rmk_d mk hi]
  exact h.2.2.2 _ (gdn_mem hi)
theorem RM.len (h : RM M mk row) : (M.2 7).length = row.length := by rw [h.1, ml_len]
theorem Rw_markAt_eq (h : RM M mk row) {i : Nat} (hi : i < row.length) : Rw_markAt M (nI i) = nI ((rmk mk row).getD i 0) := (h.mark hi).1
end RMs
def hal (rm : List Nat) (m : Nat) : Nat → Nat → Nat → Option Nat × List Nat
  | 0, _, _ => (none, [])
  | n + 1, lo, hi => if hi ≤ lo then (none, []) else
    if rm.getD ((lo + (hi - 1)) / 2) 0 = m then (some ((lo + (hi - 1)) / 2), [(lo + (hi - 1)) / 2])
    else if rm.getD ((lo + (hi - 1)) / 2) 0 ≤ m then ((hal rm m n ((lo + (hi - 1)) / 2 + 1) hi).1, (lo + (hi - 1)) / 2 :: (hal rm m n ((lo + (hi - 1)) / 2 + 1) hi).2)
    else ((hal rm m n lo ((lo + (hi - 1)) / 2)).1, (lo + (hi - 1)) / 2 :: (hal rm m n lo ((lo + (hi - 1)) / 2)).2)
def optI : Option Nat → Int32
  | none => -1
  | some i => nI i
def halv (rm : List Nat) (m : Nat) : Option Nat × List Nat := hal rm m 24 0 rm.length
theorem pr_lt {hi lo : Nat} (h1 : hi < 100000) (h2 : lo < 100000) : nI hi - 1 < nI lo ↔ hi ≤ lo := by
  cases hi with
  | zero => exact ⟨fun _ => Nat.zero_le _, fun _ => Int32.lt_of_lt_of_le (by decide : nI 0 - 1 < 0) (nI_pos' (by omega))⟩
  | succ k => rw [nI_pred, q_lt (by omega) h2]; omega
theorem pr_mid {lo hi : Nat} (h : lo < hi) (hh : hi ≤ 1000) : (nI lo + (nI hi - 1)) / 2 = nI ((lo + (hi - 1)) / 2) := by
  obtain ⟨k, rfl⟩ : ∃ k, hi = k + 1 := ⟨hi - 1, by omega⟩
  rw [nI_pred, nI_add, Nat.add_sub_cancel, show (2 : Int32) = nI 2 from rfl, pk_div (by omega) (by omega) (by omega)]
theorem w_hal {M : StM} {mk : Nat → Nat} {row : List Nat} (h : RM M mk row) {m : Nat} (hm : m < 100000) : ∀ (n fuel : Nat) (acc : List Nat) (lo hi : Nat), hi ≤ row.length → n ≤ 24 → acc.length + n ≤ 24 → n < fuel → lo ≤ 24 → Rw_halve_L22 fuel (setL M 8 (ml acc)) (nI m) (nI lo) (nI hi - 1) (nI (24 - n)) = some (optI (hal (rmk mk row) m n lo hi).1, setL M 8 (ml (acc ++ (hal (rmk mk row) m n lo hi).2))) := by
  intro n
  induction n with
  | zero =>
    intro fuel acc lo hi h1 h2 h3 h4 h5
    obtain ⟨fuel, rfl⟩ : ∃ k, fuel = k + 1 := ⟨fuel - 1, by omega⟩
    unfold Rw_halve_L22
    rw [if_pos (show (24 : Int32) ≤ nI 24 from Int32.le_refl _)]
    show _ = some (optI none, setL M 8 (ml (acc ++ [])))
    rw [List.append_nil]; rfl
  | succ n ih =>
    intro fuel acc lo hi h1 h2 h3 h4 h5
    have hl := h.2.1
    obtain ⟨fuel, rfl⟩ : ∃ k, fuel = k + 1 := ⟨fuel - 1, by omega⟩
    unfold Rw_halve_L22
    rw [if_neg (show ¬ (24 : Int32) ≤ nI (24 - (n + 1)) from nI_ge (b := 24) (by omega) (by omega))]
    by_cases hlo : hi ≤ lo
    · rw [if_pos ((pr_lt (by omega) (by omega)).mpr hlo)]
      unfold hal
      rw [if_pos hlo, List.append_nil]; rfl
    · rw [if_neg (fun q => hlo ((pr_lt (by omega) (by omega)).mp q))]
      have hmid : (lo + (hi - 1)) / 2 < hi ∧ lo ≤ (lo + (hi - 1)) / 2 := by omega
      unfold hal
      rw [if_neg hlo]
      simp only [lt']
      rw [pr_mid (by omega) (by omega)]
      generalize (lo + (hi - 1)) / 2 = mid at hmid
      have hmk := h.mark (i := mid) (by omega)
      have hmk' : lnget ((setL M 8 (ml acc)).2 0) (lnget ((setL M 8 (ml acc)).2 7) (nI mid)) = nI ((rmk mk row).getD mid 0) := hmk.1
      rw [hmk']
      have hadd : setL (setL M 8 (ml acc)) 8 (lnadd 24 ((setL M 8 (ml acc)).2 8) (nI mid)) = setL M 8 (ml (acc ++ [mid])) := by
        rw [setL_s]
        congr 1
        exact la_map (φ := nI) (l := acc) mid (by omega)
      rw [hadd]
      by_cases he : (rmk mk row).getD mid 0 = m
      · rw [if_pos (by rw [he]), if_pos he]; rfl
      · rw [if_neg (fun q => he ((q_eq hmk.2 hm).mp q)), if_neg he]
        by_cases hle : (rmk mk row).getD mid 0 ≤ m
        · rw [if_pos ((q_le hmk.2 hm).mpr hle), if_pos hle, nI_1]
          have hi2 := ih fuel (acc ++ [mid]) (mid + 1) hi h1 (by omega) (by rw [List.length_append]; show acc.length + 1 + n ≤ 24; omega) (by omega) (by omega)
          rw [show nI (24 - (n + 1)) + 1 = nI (24 - n) by rw [nI_1]; congr 1; omega, hi2, List.append_assoc]
          rfl
        · rw [if_neg (fun q => hle ((q_le hmk.2 hm).mp q)), if_neg hle]
          have hi2 := ih fuel (acc ++ [mid]) lo mid (by omega) (by omega) (by rw [List.length_append]; show acc.length + 1 + n ≤ 24; omega) (by omega) h5
          rw [show nI (24 - (n + 1)) + 1 = nI (24 - n) by rw [nI_1]; congr 1; omega, hi2, List.append_assoc]
          rfl
theorem Rw_halve_eq {M : StM} {mk : Nat → Nat} {row : List Nat} (h : RM M mk row) {m : Nat} (hm : m < 100000) : Rw_halve M (nI m) = some (optI (halv (rmk mk row) m).1, setL M 8 (ml (halv (rmk mk row) m).2)) := by
  unfold Rw_halve
  simp only [lt']
  rw [h.len]
  have h1 := w_hal h hm 24 FU [] 0 row.length (Nat.le_refl _) (Nat.le_refl _) (Nat.le_refl _) (by unfold FU; omega) (by omega)
  rw [List.nil_append] at h1
  unfold halv
  rw [show (rmk mk row).length = row.length from List.length_map _]
  exact h1
def mis (rm : List Nat) : Nat := sm rm.length (fun k => if (halv rm (rm.getD k 0)).1 = none then 1 else 0)
theorem hal_some (rm : List Nat) (m : Nat) : ∀ (n lo hi p : Nat), (hal rm m n lo hi).1 = some p → lo ≤ p ∧ p < hi ∧ rm.getD p 0 = m ∧ ∃ l, (hal rm m n lo hi).2 = l ++ [p] := by
  intro n
  induction n with
  | zero => intro lo hi p h; cases h
  | succ n ih =>
    intro lo hi p h
    unfold hal at h ⊢
    by_cases h1 : hi ≤ lo
    · rw [if_pos h1] at h; cases h
    · rw [if_neg h1] at h ⊢
      have hmid : (lo + (hi - 1)) / 2 < hi ∧ lo ≤ (lo + (hi - 1)) / 2 := by omega
      generalize (lo + (hi - 1)) / 2 = mid at hmid h ⊢
      by_cases h2 : rm.getD mid 0 = m
      · rw [if_pos h2] at h ⊢
        cases h
        exact ⟨hmid.2, hmid.1, h2, [], rfl⟩
      · rw [if_neg h2] at h ⊢
        by_cases h3 : rm.getD mid 0 ≤ m
        · rw [if_pos h3] at h ⊢
          obtain ⟨a, b, c, l, e⟩ := ih _ _ _ h
          exact ⟨by omega, b, c, mid :: l, by show mid :: _ = _; rw [e]; rfl⟩
        · rw [if_neg h3] at h ⊢
          obtain ⟨a, b, c, l, e⟩ := ih _ _ _ h
          exact ⟨a, by omega, c, mid :: l, by show mid :: _ = _; rw [e]; rfl⟩
theorem hal_none (rm : List Nat) (m : Nat) : ∀ (n lo hi : Nat), (hal rm m n lo hi).1 = none → ∀ x ∈ (hal rm m n lo hi).2, rm.getD x 0 ≠ m := by
  intro n
  induction n with
  | zero => intro lo hi _ x hx; cases hx
  | succ n ih =>
    intro lo hi h x hx
    unfold hal at h hx
    by_cases h1 : hi ≤ lo
    · rw [if_pos h1] at hx; cases hx
    · rw [if_neg h1] at h hx
      generalize (lo + (hi - 1)) / 2 = mid at h hx
      by_cases h2 : rm.getD mid 0 = m
      · rw [if_pos h2] at h; cases h
      · rw [if_neg h2] at h hx
        by_cases h3 : rm.getD mid 0 ≤ m
        · rw [if_pos h3] at h hx
          rcases List.mem_cons.mp hx with rfl | hx
          · exact h2
          · exact ih _ _ h x hx
        · rw [if_neg h3] at h hx
          rcases List.mem_cons.mp hx with rfl | hx
          · exact h2
          · exact ih _ _ h x hx
theorem hal_mem (rm : List Nat) (m : Nat) : ∀ (n lo hi : Nat), ∀ x ∈ (hal rm m n lo hi).2, lo ≤ x ∧ x < hi := by
  intro n
  induction n with
  | zero => intro lo hi x hx; cases hx
  | succ n ih =>
    intro lo hi x hx
    unfold hal at hx
    by_cases h1 : hi ≤ lo
    · rw [if_pos h1] at hx; cases hx
    · rw [if_neg h1] at hx
      have hmid : (lo + (hi - 1)) / 2 < hi ∧ lo ≤ (lo + (hi - 1)) / 2 := by omega
      generalize (lo + (hi - 1)) / 2 = mid at hmid hx
      by_cases h2 : rm.getD mid 0 = m
      · rw [if_pos h2] at hx
        obtain rfl := List.mem_singleton.mp hx
        exact ⟨hmid.2, hmid.1⟩
      · rw [if_neg h2] at hx
        by_cases h3 : rm.getD mid 0 ≤ m
        · rw [if_pos h3] at hx
          rcases List.mem_cons.mp hx with rfl | hx
          · exact ⟨hmid.2, hmid.1⟩
          · have := ih _ _ x hx; omega
        · rw [if_neg h3] at hx
          rcases List.mem_cons.mp hx with rfl | hx
          · exact ⟨hmid.2, hmid.1⟩
          · have := ih _ _ x hx; omega
theorem hal_len (rm : List Nat) (m : Nat) : ∀ (j n lo hi : Nat), hi - lo < 2 ^ j → (hal rm m n lo hi).2.length ≤ j := by
  intro j
  induction j with
  | zero =>
    intro n lo hi h
    cases n with
    | zero => exact Nat.le_refl _
    | succ n => unfold hal; rw [if_pos (by omega)]; exact Nat.le_refl _
  | succ j ih =>
    intro n lo hi h
    cases n with
    | zero => exact Nat.zero_le _
    | succ n =>
      unfold hal
      by_cases h1 : hi ≤ lo
      · rw [if_pos h1]; exact Nat.zero_le _
      · rw [if_neg h1]
        have h2 : 2 ^ (j + 1) = 2 * 2 ^ j := by rw [Nat.pow_succ, Nat.mul_comm]
        have hmid : hi - ((lo + (hi - 1)) / 2 + 1) < 2 ^ j ∧ (lo + (hi - 1)) / 2 - lo < 2 ^ j := by omega
        generalize (lo + (hi - 1)) / 2 = mid at hmid
        split
        · exact Nat.succ_le_succ (Nat.zero_le _)
        · split
          · exact Nat.succ_le_succ (ih n _ _ hmid.1)
          · exact Nat.succ_le_succ (ih n _ _ hmid.2)
theorem hal_pos (rm : List Nat) (m n : Nat) {lo hi : Nat} (h : lo < hi) : 0 < (hal rm m (n + 1) lo hi).2.length := by
  unfold hal
  rw [if_neg (by omega)]
  split
  · exact Nat.zero_lt_succ _
  · split <;> exact Nat.zero_lt_succ _
/-- in a row in order each mark is found -/
theorem hal_find (rm : List Nat) {j : Nat} (hs : ∀ a b, a < b → b < rm.length → rm.getD a 0 < rm.getD b 0) : ∀ (n lo hi : Nat), lo ≤ j → j < hi → hi ≤ rm.length → hi - lo ≤ n → (hal rm (rm.getD j 0) n lo hi).1 = some j := by
  intro n
  induction n with
  | zero => intro lo hi h1 h2 h3 h4; omega
  | succ n ih =>
    intro lo hi h1 h2 h3 h4
    unfold hal
    rw [if_neg (by omega)]
    have hmid : (lo + (hi - 1)) / 2 < hi ∧ lo ≤ (lo + (hi - 1)) / 2 := by omega
    generalize (lo + (hi - 1)) / 2 = mid at hmid
    by_cases hj : mid = j
    · subst hj; rw [if_pos rfl]
    · rcases Nat.lt_or_gt_of_ne hj with h5 | h5
      · have := hs mid j h5 (by omega)
        rw [if_neg (by omega), if_pos (by omega)]
        exact ih _ _ (by omega) h2 h3 (by omega)
      · have := hs j mid h5 (by omega)
        rw [if_neg (by omega), if_neg (by omega)]
        exact ih _ _ h1 (by omega) (by omega) (by omega)
theorem w_mis {M : StM} {mk : Nat → Nat} {row : List Nat} (h : RM M mk row) : ∀ (i fuel k : Nat) (L : List Int32), k + i = row.length → i < fuel → ∃ L', Rw_missedByHalving_L4 fuel (setL M 8 L) (nI (sm k (fun k => if (halv (rmk mk row) ((rmk mk row).getD k 0)).1 = none then 1 else 0))) (nI k) = some (nI (mis (rmk mk row)), setL M 8 L') := by
  intro i
  induction i with
  | zero =>
    intro fuel k L hk hf
    obtain ⟨fuel, rfl⟩ : ∃ k, fuel = k + 1 := ⟨fuel - 1, by omega⟩
    obtain rfl : k = row.length := by omega
    unfold Rw_missedByHalving_L4
    refine ⟨L, ?_⟩
    rw [if_pos (show nI ((setL M 8 L).2 7).length ≤ nI row.length by rw [show (setL M 8 L).2 7 = M.2 7 from rfl, h.len]; exact Int32.le_refl _)]
    unfold mis
    rw [show (rmk mk row).length = row.length from List.length_map _]
  | succ i ih =>
    intro fuel k L hk hf
    have hl := h.2.1
    obtain ⟨fuel, rfl⟩ : ∃ k, fuel = k + 1 := ⟨fuel - 1, by omega⟩
    unfold Rw_missedByHalving_L4
    rw [if_neg (show ¬ nI ((setL M 8 L).2 7).length ≤ nI k by rw [show (setL M 8 L).2 7 = M.2 7 from rfl, h.len]; exact nI_ge (by omega) (by omega))]
    have h8 := h.of8 8 (by omega) L
    rw [Rw_markAt_eq h8 (i := k) (by omega), Rw_halve_eq h8 (h8.mark (i := k) (by omega)).2]
    simp only [Option.bind_some]
    rw [setL_s]
    obtain ⟨L', hL⟩ := ih fuel (k + 1) (ml (halv (rmk mk row) ((rmk mk row).getD k 0)).2) (by omega) (by omega)
    refine ⟨L', ?_⟩
    rw [nI_1 k]
    by_cases hn : (halv (rmk mk row) ((rmk mk row).getD k 0)).1 = none
    · rw [if_pos (by rw [hn]; rfl), nI_1, ← hL]
      congr 2
      show _ = sm k _ + (if _ then 1 else 0)
      rw [if_pos hn]
    · rw [if_neg (by
        cases hq : (halv (rmk mk row) ((rmk mk row).getD k 0)).1 with
        | none => exact absurd hq hn
        | some p =>
          intro q
          have hp : nI p < 0 := by rw [show nI p = -1 from q]; decide
          have hpl := (hal_some _ _ _ _ _ _ hq).2.1
          have : (rmk mk row).length = row.length := List.length_map _
          exact nI_pos (by omega) hp), ← hL]
      congr 2
      show _ = sm k _ + (if _ then 1 else 0)
      rw [if_neg hn, Nat.add_zero]
theorem Rw_missed_eq {M : StM} {mk : Nat → Nat} {row : List Nat} (h : RM M mk row) : ∃ L, Rw_missedByHalving M = some (nI (mis (rmk mk row)), setL M 8 L) := by
  obtain ⟨L', hL⟩ := w_mis h row.length FU 0 (M.2 8) (Nat.zero_add _) (by have := h.2.1; unfold FU; omega)
  refine ⟨L', ?_⟩
  unfold Rw_missedByHalving
  rw [← hL]
  congr 1
  refine Prod.ext rfl (funext fun i => ?_)
  by_cases hi : i = 8
  · subst hi; rfl
  · exact (if_neg hi).symm
/-! wrong pairs, inversions, places in order -/
def wpk (rm : List Nat) (k : Nat) : Nat := if k = 0 then 0 else if rm.getD k 0 < rm.getD (k - 1) 0 then 1 else 0
def wps (rm : List Nat) : Nat := sm rm.length (wpk rm)
theorem Rw_isWrong_eq {M : StM} {mk : Nat → Nat} {row : List Nat} (h : RM M mk row) {k : Nat} (h0 : 0 < k) (hk : k < row.length) : Rw_isWrong M (nI k) = nI (wpk (rmk mk row) k) := by
  have hl := h.2.1
  unfold Rw_isWrong wpk
  obtain ⟨a, b⟩ := h.mark hk
  obtain ⟨c, d⟩ := h.mark (i := k - 1) (by omega)
  rw [if_neg (show ¬ nI k ≤ 0 from nI_nle h0 (by omega)), show nI k - 1 = nI (k - 1) from by rw [show (1 : Int32) = nI 1 from rfl, pk_sub h0], a, c, if_neg (show ¬ k = 0 by omega)]
  by_cases hw : (rmk mk row).getD k 0 < (rmk mk row).getD (k - 1) 0
  · rw [if_neg (fun q => by have := (q_le d b).mp q; omega), if_pos hw]; rfl
  · rw [if_pos ((q_le d b).mpr (by omega)), if_neg hw]; rfl
theorem w_wps {M : StM} {mk : Nat → Nat} {row : List Nat} (h : RM M mk row) : ∀ (i fuel k : Nat), k + i = row.length → 0 < k → i < fuel → Rw_wrongPairs_L4 M fuel (nI (sm k (wpk (rmk mk row)))) (nI k) = some (nI (wps (rmk mk row))) := by
  intro i
  induction i with
  | zero =>
    intro fuel k hk h0 hf
    obtain ⟨fuel, rfl⟩ : ∃ k, fuel = k + 1 := ⟨fuel - 1, by omega⟩
    obtain rfl : k = row.length := by omega
    unfold Rw_wrongPairs_L4
    rw [h.len, if_pos (Int32.le_refl _)]
    unfold wps
    rw [show (rmk mk row).length = row.length from List.length_map _]
  | succ i ih =>
    intro fuel k hk h0 hf
    have hl := h.2.1
    obtain ⟨fuel, rfl⟩ : ∃ k, fuel = k + 1 := ⟨fuel - 1, by omega⟩
    unfold Rw_wrongPairs_L4
    rw [h.len, if_neg (nI_ge (by omega) (by omega)), Rw_isWrong_eq h h0 (by omega), nI_1 k, ← ih fuel (k + 1) (by omega) (by omega) (by omega)]
    show _ = Rw_wrongPairs_L4 M fuel (nI (sm k (wpk (rmk mk row)) + wpk (rmk mk row) k)) (nI (k + 1))
    unfold wpk
    rw [if_neg (show ¬ k = 0 by omega)]
    split
    · rw [if_neg (by decide), nI_1]
    · rw [if_pos (show nI 0 = 0 from rfl)]; rfl
theorem Rw_wrongPairs_eq {M : StM} {mk : Nat → Nat} {row : List Nat} (h : RM M mk row) : Rw_wrongPairs M = some (nI (wps (rmk mk row))) := by
  have hl := h.2.1
  unfold Rw_wrongPairs
  by_cases h0 : row.length = 0
  · unfold FU Rw_wrongPairs_L4
    rw [h.len, h0, if_pos (by decide)]
    unfold wps
    rw [show (rmk mk row).length = row.length from List.length_map _, h0]; rfl
  · exact w_wps h (row.length - 1) FU 1 (by omega) (by omega) (by unfold FU; omega)
/-- pairs in wrong order behind which b stands -/
def ivb (rm : List Nat) (b : Nat) : Nat := sm b (fun a => if rm.getD b 0 < rm.getD a 0 then 1 else 0)
def ivs (rm : List Nat) : Nat := sm rm.length (ivb rm)
theorem w_ivb {M : StM} {mk : Nat → Nat} {row : List Nat} (h : RM M mk row) {b : Nat} (hb : b < row.length) (kk : Int32 → Int32 → Int32 → Int32 → Option Int32) (x : Nat) : ∀ (i fuel a : Nat), a + i = b → i < fuel → Rw_pairsInWrongOrder_L24 M kk fuel (nI (x + sm a (fun a => if (rmk mk row).getD b 0 < (rmk mk row).getD a 0 then 1 else 0))) (nI b) (nI ((rmk mk row).getD b 0)) (nI a) = kk (nI (x + ivb (rmk mk row) b)) (nI b) (nI ((rmk mk row).getD b 0)) (nI b) := by
  intro i
  induction i with
  | zero =>
    intro fuel a ha hf
    obtain ⟨fuel, rfl⟩ : ∃ k, fuel = k + 1 := ⟨fuel - 1, by omega⟩
    obtain rfl : a = b := by omega
    unfold Rw_pairsInWrongOrder_L24
    rw [if_pos (Int32.le_refl _)]; rfl
  | succ i ih =>
    intro fuel a ha hf
    have hl := h.2.1
    obtain ⟨fuel, rfl⟩ : ∃ k, fuel = k + 1 := ⟨fuel - 1, by omega⟩
    unfold Rw_pairsInWrongOrder_L24
    rw [if_neg (nI_ge (by omega) (by omega)), Rw_markAt_eq h (i := a) (by omega), nI_1 a, ← ih fuel (a + 1) (by omega) (by omega)]
    have h1 := (h.mark hb).2; have h2 := (h.mark (i := a) (by omega)).2
    show _ = Rw_pairsInWrongOrder_L24 M kk fuel (nI (x + (sm a _ + (if (rmk mk row).getD b 0 < (rmk mk row).getD a 0 then 1 else 0)))) _ _ _
    by_cases hw : (rmk mk row).getD b 0 < (rmk mk row).getD a 0
    · rw [if_neg (fun q => by have := (q_le h2 h1).mp q; omega), if_pos hw, nI_1]; rfl
    · rw [if_pos ((q_le h2 h1).mpr (by omega)), if_neg hw]; rfl
theorem w_ivs {M : StM} {mk : Nat → Nat} {row : List Nat} (h : RM M mk row) : ∀ (i fuel b : Nat), b + i = row.length → i < fuel → Rw_pairsInWrongOrder_L4 M fuel (nI (sm b (ivb (rmk mk row)))) (nI b) = some (nI (ivs (rmk mk row))) := by
  intro i
  induction i with
  | zero =>
    intro fuel b hb hf
    obtain ⟨fuel, rfl⟩ : ∃ k, fuel = k + 1 := ⟨fuel - 1, by omega⟩
    obtain rfl : b = row.length := by omega
    unfold Rw_pairsInWrongOrder_L4
    rw [h.len, if_pos (Int32.le_refl _)]
    unfold ivs
    rw [show (rmk mk row).length = row.length from List.length_map _]
  | succ i ih =>
    intro fuel b hb hf
    have hl := h.2.1
    obtain ⟨fuel, rfl⟩ : ∃ k, fuel = k + 1 := ⟨fuel - 1, by omega⟩
    unfold Rw_pairsInWrongOrder_L4
    rw [h.len, if_neg (nI_ge (by omega) (by omega))]
    simp only [lt']
    rw [Rw_markAt_eq h (i := b) (by omega)]
    have h1 := w_ivb h (b := b) (by omega) (fun v1 v2 v3 v4 => Rw_pairsInWrongOrder_L4 M fuel v1 (v2 + 1)) (sm b (ivb (rmk mk row))) b FU 0 (Nat.zero_add _) (by unfold FU; omega)
    rw [show (0 : Int32) = nI 0 from rfl]
    refine h1.trans ?_
    rw [nI_1 b, ← ih fuel (b + 1) (by omega) (by omega)]
    rfl
theorem Rw_inversions_eq {M : StM} {mk : Nat → Nat} {row : List Nat} (h : RM M mk row) : Rw_pairsInWrongOrder M = some (nI (ivs (rmk mk row))) := by
  have hl := h.2.1
  unfold Rw_pairsInWrongOrder
  by_cases h0 : row.length = 0
  · unfold FU Rw_pairsInWrongOrder_L4
    rw [h.len, h0, if_pos (by decide)]
    unfold ivs
    rw [show (rmk mk row).length = row.length from List.length_map _, h0]; rfl
  · exact w_ivs h (row.length - 1) FU 1 (by omega) (by unfold FU; omega)
/-- how many are smaller -/
def rnk (rm : List Nat) (m : Nat) : Nat := sm rm.length (fun k => if rm.getD k 0 < m then 1 else 0)
theorem w_rnk {M : StM} {mk : Nat → Nat} {row : List Nat} (h : RM M mk row) {m : Nat} (hm : m < 100000) : ∀ (i fuel k : Nat), k + i = row.length → i < fuel → Rw_placeInOrder_L4 M fuel (nI m) (nI (sm k (fun k => if (rmk mk row).getD k 0 < m then 1 else 0))) (nI k) = some (nI (rnk (rmk mk row) m)) := by
  intro i
  induction i with
  | zero =>
    intro fuel k hk hf
    obtain ⟨fuel, rfl⟩ : ∃ k, fuel = k + 1 := ⟨fuel - 1, by omega⟩
    obtain rfl : k = row.length := by omega
    unfold Rw_placeInOrder_L4
    rw [h.len, if_pos (Int32.le_refl _)]
    unfold rnk
    rw [show (rmk mk row).length = row.length from List.length_map _]
  | succ i ih =>
    intro fuel k hk hf
    have hl := h.2.1
    obtain ⟨fuel, rfl⟩ : ∃ k, fuel = k + 1 := ⟨fuel - 1, by omega⟩
    unfold Rw_placeInOrder_L4
    rw [h.len, if_neg (nI_ge (by omega) (by omega)), Rw_markAt_eq h (i := k) (by omega), nI_1 k, ← ih fuel (k + 1) (by omega) (by omega)]
    have h1 := (h.mark (i := k) (by omega)).2
    show _ = Rw_placeInOrder_L4 M fuel (nI m) (nI (sm k _ + (if (rmk mk row).getD k 0 < m then 1 else 0))) (nI (k + 1))
    by_cases hw : (rmk mk row).getD k 0 < m
    · rw [if_neg (fun q => by have := (q_le hm h1).mp q; omega), if_pos hw, nI_1]
    · rw [if_pos ((q_le hm h1).mpr (by omega)), if_neg hw]; rfl
theorem Rw_placeInOrder_eq {M : StM} {mk : Nat → Nat} {row : List Nat} (h : RM M mk row) {m : Nat} (hm : m < 100000) : Rw_placeInOrder M (nI m) = some (nI (rnk (rmk mk row) m)) :=
  w_rnk h hm row.length FU 0 (Nat.zero_add _) (by have := h.2.1; unfold FU; omega)
