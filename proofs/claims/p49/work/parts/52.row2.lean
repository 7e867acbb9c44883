/-! the row: swaps, the longest run, the farthest folder, moves -/
/-- the first place that stands wrong -/
def fw (rm : List Nat) : Nat → Nat → Option Nat
  | 0, _ => none
  | i + 1, k => if rm.getD k 0 < rm.getD (k - 1) 0 then some k else fw rm i (k + 1)
theorem w_fw {M : StM} {mk : Nat → Nat} {row : List Nat} (h : RM M mk row) : ∀ (i fuel k : Nat), k + i = row.length → 0 < k → i < fuel → Rw_firstWrong_L2 M fuel (nI k) = some (optI (fw (rmk mk row) i k)) := by
  intro i
  induction i with
  | zero =>
    intro fuel k hk h0 hf
    obtain ⟨fuel, rfl⟩ : ∃ k, fuel = k + 1 := ⟨fuel - 1, by omega⟩
    obtain rfl : k = row.length := by omega
    unfold Rw_firstWrong_L2
    rw [h.len, if_pos (Int32.le_refl _)]; rfl
  | succ i ih =>
    intro fuel k hk h0 hf
    have hl := h.2.1
    obtain ⟨fuel, rfl⟩ : ∃ k, fuel = k + 1 := ⟨fuel - 1, by omega⟩
    unfold Rw_firstWrong_L2 fw
    rw [h.len, if_neg (nI_ge (by omega) (by omega)), Rw_isWrong_eq h h0 (by omega), nI_1 k, ih fuel (k + 1) (by omega) (by omega) (by omega)]
    unfold wpk
    rw [if_neg (show ¬ k = 0 by omega)]
    split
    · rw [if_neg (by decide)]; rfl
    · rw [if_pos (show nI 0 = 0 from rfl)]
def fwr (rm : List Nat) : Option Nat := fw rm (rm.length - 1) 1
theorem Rw_firstWrong_eq {M : StM} {mk : Nat → Nat} {row : List Nat} (h : RM M mk row) : Rw_firstWrong M = some (optI (fwr (rmk mk row))) := by
  have hl := h.2.1
  have e : (rmk mk row).length = row.length := List.length_map _
  unfold Rw_firstWrong fwr
  by_cases h0 : row.length = 0
  · unfold FU Rw_firstWrong_L2
    rw [h.len, h0, if_pos (by decide), e, h0]; rfl
  · rw [e]
    exact w_fw h (row.length - 1) FU 1 (by omega) (by omega) (by unfold FU; omega)
theorem fw_some (rm : List Nat) : ∀ (i k p : Nat), fw rm i k = some p → k ≤ p ∧ p < k + i ∧ rm.getD p 0 < rm.getD (p - 1) 0 ∧ ∀ j, k ≤ j → j < p → ¬ rm.getD j 0 < rm.getD (j - 1) 0 := by
  intro i
  induction i with
  | zero => intro k p h; cases h
  | succ i ih =>
    intro k p h
    unfold fw at h
    by_cases h1 : rm.getD k 0 < rm.getD (k - 1) 0
    · rw [if_pos h1] at h
      cases h
      exact ⟨Nat.le_refl _, by omega, h1, fun j a b => by omega⟩
    · rw [if_neg h1] at h
      obtain ⟨a, b, c, d⟩ := ih _ _ h
      refine ⟨by omega, by omega, c, fun j e f => ?_⟩
      by_cases hj : j = k
      · subst hj; exact h1
      · exact d j (by omega) f
theorem fw_none (rm : List Nat) : ∀ (i k : Nat), fw rm i k = none → ∀ j, k ≤ j → j < k + i → ¬ rm.getD j 0 < rm.getD (j - 1) 0 := by
  intro i
  induction i with
  | zero => intro k _ j h1 h2; omega
  | succ i ih =>
    intro k h j h1 h2
    unfold fw at h
    by_cases h3 : rm.getD k 0 < rm.getD (k - 1) 0
    · rw [if_pos h3] at h; cases h
    · rw [if_neg h3] at h
      by_cases hj : j = k
      · subst hj; exact h3
      · exact ih _ h j (by omega) (by omega)
/-- two neighbours change places -/
def swp (l : List Nat) (p : Nat) : List Nat := (l.set p (l.getD (p - 1) 0)).set (p - 1) (l.getD p 0)
theorem swp_len (l : List Nat) (p : Nat) : (swp l p).length = l.length := by unfold swp; rw [List.length_set, List.length_set]
theorem gdn_set (l : List Nat) (j v i : Nat) (hj : j < l.length) : (l.set j v).getD i 0 = if i = j then v else l.getD i 0 := by
  rw [List.getD_eq_getElem?_getD, List.getElem?_set]
  by_cases h : j = i
  · subst h; rw [if_pos rfl, if_pos hj, if_pos rfl]; rfl
  · rw [if_neg h, if_neg (Ne.symm h), ← List.getD_eq_getElem?_getD]
theorem swp_d (l : List Nat) {p : Nat} (h0 : 0 < p) (hp : p < l.length) (i : Nat) : (swp l p).getD i 0 = if i = p - 1 then l.getD p 0 else if i = p then l.getD (p - 1) 0 else l.getD i 0 := by
  unfold swp
  rw [gdn_set _ _ _ _ (by rw [List.length_set]; omega), gdn_set _ _ _ _ hp]
/-- swaps of the first wrong pair, k of them at most: how many, and the row behind them -/
def sws (mk : Nat → Nat) : Nat → List Nat → Nat × List Nat
  | 0, row => (0, row)
  | k + 1, row => match fwr (rmk mk row) with
    | none => (0, row)
    | some p => ((sws mk k (swp row p)).1 + 1, (sws mk k (swp row p)).2)
theorem fwr_lt {mk : Nat → Nat} {row : List Nat} {p : Nat} (h : fwr (rmk mk row) = some p) : 0 < p ∧ p < row.length := by
  obtain ⟨a, b, -⟩ := fw_some _ _ _ _ h
  have e : (rmk mk row).length = row.length := List.length_map _
  rw [e] at b
  exact ⟨by omega, by omega⟩
theorem RM_swp {M : StM} {mk : Nat → Nat} {row : List Nat} (h : RM M mk row) {p : Nat} (h0 : 0 < p) (hp : p < row.length) : RM (setL M 7 (ml (swp row p))) mk (swp row p) := by
  have hm : ∀ f ∈ swp row p, f ∈ row := fun f hf => by
    unfold swp at hf
    rcases List.mem_or_eq_of_mem_set hf with hf | rfl
    · rcases List.mem_or_eq_of_mem_set hf with hf | rfl
      · exact hf
      · exact gdn_mem (by omega)
    · exact gdn_mem hp
  exact ⟨rfl, by rw [swp_len]; exact h.2.1, fun x hx => h.2.2.1 x (hm x hx), fun f hf => h.2.2.2 f (hm f hf)⟩
theorem w_sws {M0 : StM} {mk : Nat → Nat} {most : Nat} (hmost : most < 1000) : ∀ (i fuel s : Nat) (row : List Nat), RM (setL M0 7 (ml row)) mk row → s + i = most → i < fuel → Rw_swapWrongPairs_L2 fuel (setL M0 7 (ml row)) (nI most) (nI s) = some (nI (s + (sws mk i row).1), setL M0 7 (ml (sws mk i row).2)) := by
  intro i
  induction i with
  | zero =>
    intro fuel s row h hs hf
    obtain ⟨fuel, rfl⟩ : ∃ k, fuel = k + 1 := ⟨fuel - 1, by omega⟩
    obtain rfl : s = most := by omega
    unfold Rw_swapWrongPairs_L2
    rw [if_pos (Int32.le_refl _)]; rfl
  | succ i ih =>
    intro fuel s row h hs hf
    have hl := h.2.1
    obtain ⟨fuel, rfl⟩ : ∃ k, fuel = k + 1 := ⟨fuel - 1, by omega⟩
    unfold Rw_swapWrongPairs_L2 sws
    rw [if_neg (nI_ge (by omega) (by omega)), Rw_firstWrong_eq h]
    simp only [Option.bind_some]
    cases hp : fwr (rmk mk row) with
    | none => rw [if_pos (show optI none = -1 from rfl)]; rfl
    | some p =>
      obtain ⟨h0, hp1⟩ := fwr_lt hp
      rw [if_neg (show ¬ optI (some p) = -1 from fun q => nI_pos (n := p) (by omega) (by rw [show nI p = -1 from q]; decide))]
      simp only [lt']
      have e1 : (nI p : Int32) - 1 = nI (p - 1) := by rw [show (1 : Int32) = nI 1 from rfl, pk_sub h0]
      show Rw_swapWrongPairs_L2 fuel (setL (setL (setL M0 7 (ml row)) 7 (lnset (ml row) (nI p) (lnget (ml row) (nI p - 1)))) 7 (lnset (lnset (ml row) (nI p) (lnget (ml row) (nI p - 1))) (nI p - 1) (lnget (ml row) (nI p)))) (nI most) (nI s + 1) = _
      rw [e1, lg_ml (i := p - 1) (by omega) (by omega), lg_ml hp1 (by omega), ls_ml hp1 (by omega), ls_ml (by rw [List.length_set]; omega) (by rw [List.length_set]; omega), setL_s, setL_s, nI_1]
      have h2 := RM_swp h h0 hp1
      rw [setL_s] at h2
      have h3 := ih fuel (s + 1) (swp row p) h2 (by omega) (by omega)
      refine h3.trans ?_
      rw [show s + 1 + (sws mk i (swp row p)).1 = s + ((sws mk i (swp row p)).1 + 1) by omega]
theorem setL_id {M : StM} {j : Nat} {L : List Int32} (h : M.2 j = L) : setL M j L = M := by
  refine Prod.ext rfl (funext fun i => ?_)
  by_cases hi : i = j
  · subst hi; rw [← h]; exact if_pos rfl
  · exact if_neg hi
theorem Rw_swap_eq {M : StM} {mk : Nat → Nat} {row : List Nat} (h : RM M mk row) {most : Nat} (hm : most < 900) : Rw_swapWrongPairs M (nI most) = some (nI (sws mk most row).1, setL M 7 (ml (sws mk most row).2)) := by
  have h1 := w_sws (M0 := M) (mk := mk) (most := most) (by omega) most FU 0 row (by rw [setL_id h.1]; exact h) (Nat.zero_add _) (by unfold FU; omega)
  rw [setL_id h.1, Nat.zero_add] at h1
  exact h1
/-! the longest run -/
def bst (rm rs : List Nat) (k : Nat) : Nat → Nat
  | 0 => 0
  | j + 1 => if rm.getD j 0 < rm.getD k 0 then max (bst rm rs k j) (rs.getD j 0) else bst rm rs k j
def rns (rm : List Nat) : Nat → List Nat
  | 0 => []
  | k + 1 => rns rm k ++ [bst rm (rns rm k) k k + 1]
def lgs (rm : List Nat) : Nat → Nat
  | 0 => 0
  | k + 1 => max (lgs rm k) (bst rm (rns rm k) k k + 1)
theorem rns_len (rm : List Nat) (k : Nat) : (rns rm k).length = k := by
  induction k with
  | zero => rfl
  | succ k ih => show (rns rm k ++ [_]).length = _; rw [List.length_append, ih]; rfl
theorem bst_le (rm rs : List Nat) (k : Nat) {B : Nat} (hB : ∀ j, rs.getD j 0 ≤ B) (j : Nat) : bst rm rs k j ≤ B := by
  induction j with
  | zero => exact Nat.zero_le _
  | succ j ih =>
    unfold bst
    have := hB j
    split <;> omega
theorem gdn_app (xs ys : List Nat) (j : Nat) : (xs ++ ys).getD j 0 = if j < xs.length then xs.getD j 0 else ys.getD (j - xs.length) 0 := by
  by_cases h : j < xs.length
  · rw [if_pos h, List.getD_eq_getElem?_getD, List.getD_eq_getElem?_getD, List.getElem?_append_left h]
  · rw [if_neg h, List.getD_eq_getElem?_getD, List.getD_eq_getElem?_getD, List.getElem?_append_right (by omega)]
/-- a run is no longer than its place -/
theorem bst_pl (rm rs : List Nat) (k : Nat) (hrs : ∀ j, j < rs.length → rs.getD j 0 ≤ j + 1) : ∀ j, j ≤ rs.length → bst rm rs k j ≤ j := by
  intro j
  induction j with
  | zero => intro _; exact Nat.le_refl _
  | succ j ih =>
    intro hj
    have h1 := ih (by omega); have h2 := hrs j (by omega)
    unfold bst
    split <;> omega
theorem rns_le (rm : List Nat) (k : Nat) : ∀ j, j < k → (rns rm k).getD j 0 ≤ j + 1 := by
  induction k with
  | zero => intro j hj; omega
  | succ k ih =>
    intro j hj
    show (rns rm k ++ [bst rm (rns rm k) k k + 1]).getD j 0 ≤ j + 1
    rw [gdn_app, rns_len]
    by_cases h : j < k
    · rw [if_pos h]; exact ih j h
    · obtain rfl : j = k := by omega
      rw [if_neg h, Nat.sub_self]
      have := bst_pl rm (rns rm j) j (fun i hi => ih i (by rw [rns_len] at hi; exact hi)) j (by rw [rns_len]; exact Nat.le_refl _)
      show bst rm (rns rm j) j j + 1 ≤ j + 1
      omega
theorem lgs_le (rm : List Nat) (k : Nat) : lgs rm k ≤ k := by
  induction k with
  | zero => exact Nat.le_refl _
  | succ k ih =>
    have := bst_pl rm (rns rm k) k (fun i hi => rns_le rm k i (by rw [rns_len] at hi; exact hi)) k (by rw [rns_len]; exact Nat.le_refl _)
    show max (lgs rm k) (bst rm (rns rm k) k k + 1) ≤ k + 1
    omega
theorem w_bst {M : StM} {mk : Nat → Nat} {row : List Nat} (h : RM M mk row) {k : Nat} (hk : k < row.length) {rs : List Nat} (hr : M.2 9 = ml rs) (hrl : rs.length = k) (hrs : ∀ j, j < k → rs.getD j 0 ≤ j + 1) (kk : StM → Int32 → Int32 → Int32 → Int32 → Option (Int32 × StM)) (x : Int32) : ∀ (i fuel j : Nat), j + i = k → i < fuel → Rw_longestRun_L27 kk fuel M x (nI k) (nI (bst (rmk mk row) rs k j)) (nI j) = kk M x (nI k) (nI (bst (rmk mk row) rs k k)) (nI k) := by
  intro i
  induction i with
  | zero =>
    intro fuel j hj hf
    obtain ⟨fuel, rfl⟩ : ∃ k, fuel = k + 1 := ⟨fuel - 1, by omega⟩
    obtain rfl : j = k := by omega
    unfold Rw_longestRun_L27
    rw [if_pos (Int32.le_refl _)]
  | succ i ih =>
    intro fuel j hj hf
    have hl := h.2.1
    obtain ⟨fuel, rfl⟩ : ∃ k, fuel = k + 1 := ⟨fuel - 1, by omega⟩
    unfold Rw_longestRun_L27
    rw [if_neg (nI_ge (by omega) (by omega)), Rw_markAt_eq h hk, Rw_markAt_eq h (i := j) (by omega), nI_1 j, ← ih fuel (j + 1) (by omega) (by omega)]
    have h1 := (h.mark hk).2; have h2 := (h.mark (i := j) (by omega)).2
    have hb := bst_pl (rmk mk row) rs k (fun i hi => hrs i (by omega)) j (by omega)
    have hj2 := hrs j (by omega)
    by_cases hw : (rmk mk row).getD j 0 < (rmk mk row).getD k 0
    · rw [if_neg (fun q => by have := (q_le h1 h2).mp q; omega)]
      simp only [lt']
      have e : bst (rmk mk row) rs k (j + 1) = max (bst (rmk mk row) rs k j) (rs.getD j 0) := by
        show (if _ then _ else _) = _
        rw [if_pos hw]
      rw [e, hr, lg_ml (i := j) (by omega) (by omega), j_max (by omega) (by omega)]
    · rw [if_pos ((q_le h1 h2).mpr (by omega))]
      have e : bst (rmk mk row) rs k (j + 1) = bst (rmk mk row) rs k j := by
        show (if _ then _ else _) = _
        rw [if_neg hw]
      rw [e]
theorem w_lgs {M : StM} {mk : Nat → Nat} {row : List Nat} (h : RM M mk row) : ∀ (i fuel k : Nat), k + i = row.length → i < fuel → ∃ L, Rw_longestRun_L11 fuel (setL M 9 (ml (rns (rmk mk row) k))) (nI (lgs (rmk mk row) k)) (nI k) = some (nI (lgs (rmk mk row) row.length), setL M 9 L) := by
  intro i
  induction i with
  | zero =>
    intro fuel k hk hf
    obtain ⟨fuel, rfl⟩ : ∃ k, fuel = k + 1 := ⟨fuel - 1, by omega⟩
    obtain rfl : k = row.length := by omega
    unfold Rw_longestRun_L11
    refine ⟨ml (rns (rmk mk row) row.length), ?_⟩
    rw [if_pos (show nI ((setL M 9 (ml (rns (rmk mk row) row.length))).2 7).length ≤ nI row.length by rw [show (setL M 9 (ml (rns (rmk mk row) row.length))).2 7 = M.2 7 from rfl, h.len]; exact Int32.le_refl _)]
  | succ i ih =>
    intro fuel k hk hf
    have hl := h.2.1
    obtain ⟨fuel, rfl⟩ : ∃ k, fuel = k + 1 := ⟨fuel - 1, by omega⟩
    unfold Rw_longestRun_L11
    rw [if_neg (show ¬ nI ((setL M 9 (ml (rns (rmk mk row) k))).2 7).length ≤ nI k by rw [show (setL M 9 (ml (rns (rmk mk row) k))).2 7 = M.2 7 from rfl, h.len]; exact nI_ge (by omega) (by omega))]
    have h9 := h.of8 9 (by omega) (ml (rns (rmk mk row) k))
    have hb := bst_pl (rmk mk row) (rns (rmk mk row) k) k (fun i hi => rns_le _ k i (by rw [rns_len] at hi; exact hi)) k (by rw [rns_len]; exact Nat.le_refl _)
    have hg := lgs_le (rmk mk row) k
    obtain ⟨L, hL⟩ := ih fuel (k + 1) (by omega) (by omega)
    refine ⟨L, ?_⟩
    have h1 := w_bst h9 (k := k) (by omega) (rs := rns (rmk mk row) k) rfl (rns_len _ _) (fun j hj => rns_le _ k j hj) (fun M_115 v1_111 v2_112 v3_113 v4_114 => lt' (if v1_111 < v3_113 + 1 then v3_113 + 1 else v1_111) fun v1_116 => Rw_longestRun_L11 fuel (setL M_115 9 (lnadd 24 (M_115.2 9) (v3_113 + 1))) v1_116 (v2_112 + 1)) (nI (lgs (rmk mk row) k)) k FU 0 (Nat.zero_add _) (by unfold FU; omega)
    refine h1.trans ?_
    simp only [lt']
    rw [nI_1, nI_1 k, j_max (by omega) (by omega)]
    refine Eq.trans ?_ hL
    have e : setL (setL M 9 (ml (rns (rmk mk row) k))) 9 (lnadd 24 ((setL M 9 (ml (rns (rmk mk row) k))).2 9) (nI (bst (rmk mk row) (rns (rmk mk row) k) k k + 1))) = setL M 9 (ml (rns (rmk mk row) (k + 1))) := by
      rw [setL_s]
      congr 1
      exact la_map (φ := nI) (l := rns (rmk mk row) k) _ (by rw [rns_len]; omega)
    rw [e]; rfl
theorem Rw_longest_eq {M : StM} {mk : Nat → Nat} {row : List Nat} (h : RM M mk row) : ∃ L, Rw_longestRun M = some (nI (lgs (rmk mk row) row.length), setL M 9 L) :=
  w_lgs h row.length FU 0 (Nat.zero_add _) (by have := h.2.1; unfold FU; omega)
/-! the farthest from order -/
def dst (rm : List Nat) (k : Nat) : Nat := if rnk rm (rm.getD k 0) ≤ k then k - rnk rm (rm.getD k 0) else rnk rm (rm.getD k 0) - k
def frs (rm row : List Nat) : Nat → Nat × Option Nat
  | 0 => (0, none)
  | k + 1 => if (frs rm row k).1 < dst rm k then (dst rm k, some (row.getD k 0))
    else if dst rm k = 0 then frs rm row k
    else if dst rm k = (frs rm row k).1 then (if optI (frs rm row k).2 ≤ nI (row.getD k 0) then frs rm row k else (dst rm k, some (row.getD k 0)))
    else frs rm row k
theorem rnk_le (rm : List Nat) (m : Nat) : rnk rm m ≤ rm.length := by
  unfold rnk
  have h := sm_le (n := rm.length) (g := fun k => if rm.getD k 0 < m then 1 else 0) (g' := fun _ => 1) (fun i _ => by show (if _ then 1 else 0) ≤ 1; split <;> omega)
  have h1 : ∀ n, sm n (fun _ => 1) = n := fun n => by
    induction n with
    | zero => rfl
    | succ n ih => show sm n (fun _ => 1) + 1 = _; rw [ih]
  rw [h1] at h
  exact h
theorem dst_le {rm : List Nat} {k : Nat} (h : k < rm.length) : dst rm k ≤ rm.length := by
  have := rnk_le rm (rm.getD k 0)
  unfold dst
  split <;> omega
theorem frs_le {rm row : List Nat} {k : Nat} (h : k ≤ rm.length) : (frs rm row k).1 ≤ rm.length := by
  induction k with
  | zero => exact Nat.zero_le _
  | succ k ih =>
    have h1 := ih (by omega); have h2 := dst_le (rm := rm) (k := k) (by omega)
    unfold frs
    split
    · exact h2
    · split
      · exact h1
      · split
        · split
          · exact h1
          · exact h2
        · exact h1
theorem w_frs {M : StM} {mk : Nat → Nat} {row : List Nat} (h : RM M mk row) : ∀ (i fuel k : Nat), k + i = row.length → i < fuel → Rw_farthestFromOrder_L6 M fuel (nI (frs (rmk mk row) row k).1) (optI (frs (rmk mk row) row k).2) (nI k) = some (optI (frs (rmk mk row) row row.length).2) := by
  intro i
  have el : (rmk mk row).length = row.length := List.length_map _
  induction i with
  | zero =>
    intro fuel k hk hf
    obtain ⟨fuel, rfl⟩ : ∃ k, fuel = k + 1 := ⟨fuel - 1, by omega⟩
    obtain rfl : k = row.length := by omega
    unfold Rw_farthestFromOrder_L6
    rw [h.len, if_pos (Int32.le_refl _)]
  | succ i ih =>
    intro fuel k hk hf
    have hl := h.2.1
    obtain ⟨fuel, rfl⟩ : ∃ k, fuel = k + 1 := ⟨fuel - 1, by omega⟩
    unfold Rw_farthestFromOrder_L6
    rw [h.len, if_neg (nI_ge (by omega) (by omega))]
    simp only [lt']
    rw [Rw_markAt_eq h (i := k) (by omega), Rw_placeInOrder_eq h (h.mark (i := k) (by omega)).2, h.at (i := k) (by omega)]
    simp only [Option.bind_some]
    have hr := rnk_le (rmk mk row) ((rmk mk row).getD k 0)
    rw [el] at hr
    have hd : (if 0 ≤ nI k - nI (rnk (rmk mk row) ((rmk mk row).getD k 0)) then nI k - nI (rnk (rmk mk row) ((rmk mk row).getD k 0)) else 0 - (nI k - nI (rnk (rmk mk row) ((rmk mk row).getD k 0)))) = nI (dst (rmk mk row) k) := by
      unfold dst
      by_cases hq : rnk (rmk mk row) ((rmk mk row).getD k 0) ≤ k
      · rw [if_pos hq, pk_sub hq, if_pos (nI_pos' (by omega))]
      · rw [if_neg hq]
        have e : nI k - nI (rnk (rmk mk row) ((rmk mk row).getD k 0)) = - nI (rnk (rmk mk row) ((rmk mk row).getD k 0) - k) := by
          rw [← pk_sub (show k ≤ _ by omega), Int32.neg_sub]
        rw [e, if_neg, Int32.zero_sub, Int32.neg_neg]
        intro hz
        have h2 : (nI k - nI (rnk (rmk mk row) ((rmk mk row).getD k 0))).toInt = (k : Int) - rnk (rmk mk row) ((rmk mk row).getD k 0) := pk_sub_toInt (by omega) (by omega)
        rw [← e, Int32.le_iff_toInt_le, h2, Int32.toInt_zero] at hz
        omega
    rw [hd, nI_1 k, ← ih fuel (k + 1) (by omega) (by omega)]
    have h3 := frs_le (rm := rmk mk row) (row := row) (k := k) (by omega)
    have h4 := dst_le (rm := rmk mk row) (k := k) (by omega)
    rw [el] at h3 h4
    have e : frs (rmk mk row) row (k + 1) = if (frs (rmk mk row) row k).1 < dst (rmk mk row) k then (dst (rmk mk row) k, some (row.getD k 0)) else if dst (rmk mk row) k = 0 then frs (rmk mk row) row k else if dst (rmk mk row) k = (frs (rmk mk row) row k).1 then (if optI (frs (rmk mk row) row k).2 ≤ nI (row.getD k 0) then frs (rmk mk row) row k else (dst (rmk mk row) k, some (row.getD k 0))) else frs (rmk mk row) row k := rfl
    rw [e]
    by_cases c1 : (frs (rmk mk row) row k).1 < dst (rmk mk row) k
    · rw [if_pos ((q_lt (by omega) (by omega)).mpr c1), if_pos c1]; rfl
    · rw [if_neg (fun q => c1 ((q_lt (by omega) (by omega)).mp q)), if_neg c1]
      by_cases c2 : dst (rmk mk row) k = 0
      · rw [c2, if_pos (show nI 0 ≤ 0 from Int32.le_refl _), if_pos rfl]
      · rw [if_neg (nI_nle (by omega) (by omega)), if_neg c2]
        by_cases c3 : dst (rmk mk row) k = (frs (rmk mk row) row k).1
        · rw [if_pos (by rw [c3]), if_pos c3]
          by_cases c4 : optI (frs (rmk mk row) row k).2 ≤ nI (row.getD k 0)
          · rw [if_pos c4, if_pos c4]
          · rw [if_neg c4, if_neg c4]; rfl
        · rw [if_neg (fun q => c3 ((q_eq (by omega) (by omega)).mp q)), if_neg c3]
def far (rm row : List Nat) : Option Nat := (frs rm row row.length).2
theorem Rw_far_eq {M : StM} {mk : Nat → Nat} {row : List Nat} (h : RM M mk row) : Rw_farthestFromOrder M = some (optI (far (rmk mk row) row)) :=
  w_frs h row.length FU 0 (Nat.zero_add _) (by have := h.2.1; unfold FU; omega)
