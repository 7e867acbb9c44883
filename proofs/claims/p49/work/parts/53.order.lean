/-! order: what the row's counts say of it -/
def Srt (rm : List Nat) : Prop := ∀ a b, a < b → b < rm.length → rm.getD a 0 < rm.getD b 0
def Dst (rm : List Nat) : Prop := ∀ a b, a < b → b < rm.length → rm.getD a 0 ≠ rm.getD b 0
theorem srt_adj {rm : List Nat} (h : ∀ k, 0 < k → k < rm.length → rm.getD (k - 1) 0 < rm.getD k 0) : Srt rm := by
  intro a b
  induction b with
  | zero => intro h1; omega
  | succ b ih =>
    intro h1 h2
    have h3 := h (b + 1) (by omega) h2
    rw [Nat.add_sub_cancel] at h3
    by_cases h4 : a = b
    · subst h4; exact h3
    · have := ih (by omega) (by omega); omega
theorem sm_z {n : Nat} {g : Nat → Nat} (h : sm n g = 0) : ∀ i, i < n → g i = 0 := fun i hi => by
  have := sm_ge hi g; omega
theorem sm_z' {n : Nat} {g : Nat → Nat} (h : ∀ i, i < n → g i = 0) : sm n g = 0 := (sm_congr h).trans (sm_0 n)
theorem wps_srt {rm : List Nat} (hd : Dst rm) : wps rm = 0 ↔ Srt rm := by
  constructor
  · intro h
    refine srt_adj fun k h0 hk => ?_
    have h1 := sm_z h k hk
    unfold wpk at h1
    rw [if_neg (by omega)] at h1
    have h2 := hd (k - 1) k (by omega) hk
    by_cases h3 : rm.getD k 0 < rm.getD (k - 1) 0
    · rw [if_pos h3] at h1; omega
    · omega
  · intro h
    refine sm_z' fun k hk => ?_
    unfold wpk
    split
    · rfl
    · rw [if_neg]
      have := h (k - 1) k (by omega) hk
      omega
theorem ivs_srt {rm : List Nat} (hd : Dst rm) : ivs rm = 0 ↔ Srt rm := by
  constructor
  · intro h a b hab hb
    have h1 := sm_z (sm_z h b hb) a hab
    have h1 : (if rm.getD b 0 < rm.getD a 0 then 1 else 0) = 0 := h1
    have h2 := hd a b hab hb
    by_cases h3 : rm.getD b 0 < rm.getD a 0
    · rw [if_pos h3] at h1; omega
    · omega
  · intro h
    refine sm_z' fun b hb => sm_z' fun a ha => ?_
    show (if rm.getD b 0 < rm.getD a 0 then 1 else 0) = 0
    rw [if_neg]
    have := h a b ha hb
    omega
theorem fwr_srt {rm : List Nat} (hd : Dst rm) : fwr rm = none ↔ Srt rm := by
  constructor
  · intro h
    refine srt_adj fun k h0 hk => ?_
    have h1 := fw_none rm _ _ h k (by omega) (by omega)
    have h2 := hd (k - 1) k (by omega) hk
    omega
  · intro h
    cases hp : fwr rm with
    | none => rfl
    | some p =>
      obtain ⟨a, b, c, -⟩ := fw_some rm _ _ _ hp
      have := h (p - 1) p (by omega) (by omega)
      omega
theorem mis_srt {rm : List Nat} (hl : rm.length ≤ 24) (h : Srt rm) : mis rm = 0 := by
  refine sm_z' fun k hk => ?_
  show (if (halv rm (rm.getD k 0)).1 = none then 1 else 0) = 0
  unfold halv
  rw [hal_find rm (j := k) h 24 0 rm.length (Nat.zero_le _) hk (Nat.le_refl _) (by omega), if_neg (by simp)]
theorem sm_two {n q : Nat} {f f' : Nat → Nat} {c d : Nat} (hq : q + 1 < n) (he : ∀ j, j < n → j ≠ q → j ≠ q + 1 → f' j = f j) (h2 : f' q + f' (q + 1) + c = f q + f (q + 1) + d) : sm n f' + c = sm n f + d := by
  induction n with
  | zero => omega
  | succ n ih =>
    show sm n f' + f' n + c = sm n f + f n + d
    by_cases h1 : n = q + 1
    · subst h1
      show sm q f' + f' q + f' (q + 1) + c = sm q f + f q + f (q + 1) + d
      rw [sm_congr (g := f') (g' := f) (fun j hj => he j (by omega) (by omega) (by omega))]
      omega
    · have h3 := ih (by omega) (fun j hj => he j (by omega))
      have h4 := he n (by omega) (by omega) h1
      omega
/-- a wrong pair mended: one pair less in wrong order -/
theorem ivs_swp {rm : List Nat} {p : Nat} (h0 : 0 < p) (hp : p < rm.length) (hw : rm.getD p 0 < rm.getD (p - 1) 0) : ivs (swp rm p) + 1 = ivs rm := by
  obtain ⟨q, rfl⟩ : ∃ q, p = q + 1 := ⟨p - 1, by omega⟩
  rw [Nat.add_sub_cancel] at hw
  have hd := swp_d rm h0 hp
  rw [Nat.add_sub_cancel] at hd
  have dq : (swp rm (q + 1)).getD q 0 = rm.getD (q + 1) 0 := by rw [hd, if_pos rfl]
  have dp : (swp rm (q + 1)).getD (q + 1) 0 = rm.getD q 0 := by rw [hd, if_neg (by omega), if_pos rfl]
  have dn : ∀ i, i ≠ q → i ≠ q + 1 → (swp rm (q + 1)).getD i 0 = rm.getD i 0 := fun i h1 h2 => by rw [hd, if_neg h1, if_neg h2]
  unfold ivs
  rw [swp_len]
  refine sm_two (q := q) (c := 1) (d := 0) hp (fun b hb h1 h2 => ?_) ?_
  · unfold ivb
    rw [dn b h1 h2]
    by_cases h3 : b < q
    · exact sm_congr fun a ha => by rw [dn a (by omega) (by omega)]
    · refine sm_two (q := q) (c := 0) (d := 0) (by omega) (fun a ha h4 h5 => by rw [dn a h4 h5]) ?_
      rw [dq, dp]; omega
  · unfold ivb
    show sm q (fun a => if (swp rm (q + 1)).getD q 0 < (swp rm (q + 1)).getD a 0 then 1 else 0) + (sm q (fun a => if (swp rm (q + 1)).getD (q + 1) 0 < (swp rm (q + 1)).getD a 0 then 1 else 0) + (if (swp rm (q + 1)).getD (q + 1) 0 < (swp rm (q + 1)).getD q 0 then 1 else 0)) + 1 = sm q (fun a => if rm.getD q 0 < rm.getD a 0 then 1 else 0) + (sm q (fun a => if rm.getD (q + 1) 0 < rm.getD a 0 then 1 else 0) + (if rm.getD (q + 1) 0 < rm.getD q 0 then 1 else 0)) + 0
    rw [dq, dp, if_neg (by omega), if_pos hw]
    rw [sm_congr (n := q) (g := fun a => if rm.getD (q + 1) 0 < (swp rm (q + 1)).getD a 0 then 1 else 0) (g' := fun a => if rm.getD (q + 1) 0 < rm.getD a 0 then 1 else 0) (fun a ha => by rw [dn a (by omega) (by omega)])]
    rw [sm_congr (n := q) (g := fun a => if rm.getD q 0 < (swp rm (q + 1)).getD a 0 then 1 else 0) (g' := fun a => if rm.getD q 0 < rm.getD a 0 then 1 else 0) (fun a ha => by rw [dn a (by omega) (by omega)])]
    omega
theorem rmk_swp (mk : Nat → Nat) {row : List Nat} {p : Nat} (h0 : 0 < p) (hp : p < row.length) : rmk mk (swp row p) = swp (rmk mk row) p := by
  have e : (rmk mk row).length = row.length := List.length_map _
  unfold swp
  rw [rmk_d mk hp, rmk_d mk (show p - 1 < row.length by omega)]
  show ((row.set p (row.getD (p - 1) 0)).set (p - 1) (row.getD p 0)).map mk = _
  rw [List.map_set, List.map_set]
theorem dst_swp {rm : List Nat} (hd : Dst rm) {p : Nat} (h0 : 0 < p) (hp : p < rm.length) : Dst (swp rm p) := by
  intro a b hab hb
  rw [swp_len] at hb
  rw [swp_d rm h0 hp, swp_d rm h0 hp]
  have key : ∀ x y, x < rm.length → y < rm.length → x ≠ y → rm.getD x 0 ≠ rm.getD y 0 := fun x y hx hy hxy => by
    rcases Nat.lt_or_gt_of_ne hxy with h | h
    · exact hd x y h hy
    · exact (hd y x h hx).symm
  split
  · split
    · omega
    · split
      · exact key _ _ (by omega) (by omega) (by omega)
      · exact key _ _ (by omega) (by omega) (by omega)
  · split
    · split
      · exact key _ _ (by omega) (by omega) (by omega)
      · split
        · omega
        · exact key _ _ (by omega) (by omega) (by omega)
    · split
      · exact key _ _ (by omega) (by omega) (by omega)
      · split
        · exact key _ _ (by omega) (by omega) (by omega)
        · exact key _ _ (by omega) (by omega) (by omega)
theorem sws_spec (mk : Nat → Nat) : ∀ (k : Nat) (row : List Nat), Dst (rmk mk row) → (sws mk k row).1 = min k (ivs (rmk mk row)) ∧ ivs (rmk mk (sws mk k row).2) = ivs (rmk mk row) - k ∧ Dst (rmk mk (sws mk k row).2) := by
  intro k
  induction k with
  | zero => intro row hd; exact ⟨(Nat.zero_min _).symm, rfl, hd⟩
  | succ k ih =>
    intro row hd
    unfold sws
    cases hp : fwr (rmk mk row) with
    | none =>
      have h1 := (ivs_srt hd).mpr ((fwr_srt hd).mp hp)
      show 0 = min (k + 1) (ivs (rmk mk row)) ∧ ivs (rmk mk row) = ivs (rmk mk row) - (k + 1) ∧ Dst (rmk mk row)
      rw [h1]
      exact ⟨by simp, by omega, hd⟩
    | some p =>
      obtain ⟨h0, hp1⟩ := fwr_lt hp
      obtain ⟨-, -, hw, -⟩ := fw_some _ _ _ _ hp
      have e : (rmk mk row).length = row.length := List.length_map _
      have h1 := ivs_swp (rm := rmk mk row) h0 (by omega) hw
      have h2 := dst_swp hd h0 (by omega)
      rw [← rmk_swp mk h0 hp1] at h1 h2
      obtain ⟨a, b, c⟩ := ih (swp row p) h2
      refine ⟨?_, ?_, c⟩
      · show (sws mk k (swp row p)).1 + 1 = _
        rw [a]; omega
      · show ivs (rmk mk (sws mk k (swp row p)).2) = _
        rw [b]; omega
theorem sws_mem (mk : Nat → Nat) : ∀ (k : Nat) (row : List Nat), (sws mk k row).2.Perm row := by
  intro k
  induction k with
  | zero => intro row; exact List.Perm.refl _
  | succ k ih =>
    intro row
    unfold sws
    cases hp : fwr (rmk mk row) with
    | none => exact List.Perm.refl _
    | some p =>
      obtain ⟨h0, hp1⟩ := fwr_lt hp
      refine (ih (swp row p)).trans ?_
      rw [List.perm_iff_count]
      intro x
      unfold swp
      rw [List.count_set (by rw [List.length_set]; omega), List.count_set hp1]
      have e1 : (row.set p (row.getD (p - 1) 0))[p - 1]'(by rw [List.length_set]; omega) = row.getD (p - 1) 0 := by
        rw [List.getElem_set, if_neg (by omega), List.getD_eq_getElem?_getD, List.getElem?_eq_getElem (by omega)]; rfl
      have e2 : row[p] = row.getD p 0 := by rw [List.getD_eq_getElem?_getD, List.getElem?_eq_getElem hp1]; rfl
      rw [e1, e2]
      have g1 : (if row.getD p 0 == x then 1 else 0) ≤ row.count x := by
        split
        · rename_i hx
          rw [beq_iff_eq] at hx
          exact List.count_pos_iff.mpr (by rw [← hx]; exact gdn_mem hp1)
        · exact Nat.zero_le _
      by_cases c1 : (row.getD p 0 == x) = true
      · by_cases c2 : (row.getD (p - 1) 0 == x) = true
        · simp only [c1, c2, if_true] at g1 ⊢; omega
        · simp only [c1, c2, if_true, if_false, Bool.false_eq_true] at g1 ⊢; omega
      · by_cases c2 : (row.getD (p - 1) 0 == x) = true
        · simp only [c1, c2, if_true, if_false, Bool.false_eq_true] at g1 ⊢; omega
        · simp only [c1, c2, if_false, Bool.false_eq_true] at g1 ⊢; omega
theorem ivs_le {rm : List Nat} (h : rm.length ≤ 14) : ivs rm ≤ 91 := by
  have h1 : ∀ b, ivb rm b ≤ b := fun b => by
    unfold ivb
    have h2 := sm_le (n := b) (g := fun a => if rm.getD b 0 < rm.getD a 0 then 1 else 0) (g' := fun _ => 1) (fun i _ => by show (if _ then 1 else 0) ≤ 1; split <;> omega)
    have h3 : ∀ n, sm n (fun _ => 1) = n := fun n => by
      induction n with
      | zero => rfl
      | succ n ih => show sm n (fun _ => 1) + 1 = _; rw [ih]
    rw [h3] at h2
    exact h2
  have h2 : ivs rm ≤ sm rm.length (fun b => b) := sm_le fun b _ => h1 b
  exact Nat.le_trans h2 ((by decide : ∀ n, n < 15 → sm n (fun b => b) ≤ 91) _ (by omega))
/-! the longest run is the whole row where it stands in order -/
def vk (rm : List Nat) (k : Nat) : Nat := bst rm (rns rm k) k k + 1
theorem rns_d (rm : List Nat) : ∀ (n k : Nat), k < n → (rns rm n).getD k 0 = vk rm k := by
  intro n
  induction n with
  | zero => intro k hk; omega
  | succ n ih =>
    intro k hk
    show (rns rm n ++ [vk rm n]).getD k 0 = _
    rw [gdn_app, rns_len]
    by_cases h : k < n
    · rw [if_pos h]; exact ih k h
    · obtain rfl : k = n := by omega
      rw [if_neg h, Nat.sub_self]; rfl
theorem vk_le (rm : List Nat) (k : Nat) : vk rm k ≤ k + 1 := by
  have h := rns_le rm (k + 1) k (by omega)
  rwa [rns_d rm (k + 1) k (by omega)] at h
theorem vk_full (rm : List Nat) : ∀ k, vk rm k = k + 1 → ∀ i, i < k → rm.getD i 0 < rm.getD (i + 1) 0 := by
  intro k
  induction k with
  | zero => intro _ i hi; omega
  | succ k ih =>
    intro h i hi
    have h1 : bst rm (rns rm (k + 1)) (k + 1) (k + 1) = k + 1 := Nat.add_right_cancel (show vk rm (k + 1) = _ from h)
    have h2 : (if rm.getD k 0 < rm.getD (k + 1) 0 then max (bst rm (rns rm (k + 1)) (k + 1) k) ((rns rm (k + 1)).getD k 0) else bst rm (rns rm (k + 1)) (k + 1) k) = k + 1 := h1
    have h3 := bst_pl rm (rns rm (k + 1)) (k + 1) (fun j hj => rns_le rm (k + 1) j (by rw [rns_len] at hj; exact hj)) k (by rw [rns_len]; omega)
    rw [rns_d rm (k + 1) k (by omega)] at h2
    by_cases h4 : rm.getD k 0 < rm.getD (k + 1) 0
    · rw [if_pos h4] at h2
      have h5 := vk_le rm k
      by_cases hik : i = k
      · subst hik; exact h4
      · exact ih (by omega) i (by omega)
    · rw [if_neg h4] at h2; omega
theorem vk_srt {rm : List Nat} (h : Srt rm) : ∀ k, k < rm.length → vk rm k = k + 1 := by
  intro k
  induction k using Nat.strongRecOn with
  | _ k ih =>
    intro hk
    have h1 : ∀ j, j ≤ k → bst rm (rns rm k) k j = j := by
      intro j
      induction j with
      | zero => intro _; rfl
      | succ j ihj =>
        intro hj
        show (if rm.getD j 0 < rm.getD k 0 then max (bst rm (rns rm k) k j) ((rns rm k).getD j 0) else bst rm (rns rm k) k j) = j + 1
        rw [if_pos (h j k (by omega) hk), ihj (by omega), rns_d rm k j (by omega), ih j (by omega) (by omega)]
        omega
    show bst rm (rns rm k) k k + 1 = k + 1
    rw [h1 k (Nat.le_refl _)]
theorem lgs_srt {rm : List Nat} : lgs rm rm.length = rm.length ↔ Srt rm := by
  have e : ∀ k, lgs rm (k + 1) = max (lgs rm k) (vk rm k) := fun k => rfl
  constructor
  · intro h
    by_cases h0 : rm.length = 0
    · intro a b _ hb; omega
    · obtain ⟨n, hn⟩ : ∃ n, rm.length = n + 1 := ⟨rm.length - 1, by omega⟩
      rw [hn, e] at h
      have h1 := lgs_le rm n; have h2 := vk_le rm n
      refine srt_adj fun k hk0 hk => ?_
      have h3 := vk_full rm n (by omega) (k - 1) (by omega)
      rwa [show k - 1 + 1 = k by omega] at h3
  · intro h
    have h1 : ∀ k, k ≤ rm.length → lgs rm k = k := by
      intro k
      induction k with
      | zero => intro _; rfl
      | succ k ih =>
        intro hk
        rw [e, ih (by omega), vk_srt h k (by omega)]
        omega
    exact h1 _ (Nat.le_refl _)
/-! the farthest folder: none where the row stands in order -/
theorem frs_spec (rm row : List Nat) : ∀ k, ((∀ j, j < k → dst rm j = 0) ∧ frs rm row k = (0, none)) ∨ ((∃ j, j < k ∧ dst rm j ≠ 0) ∧ 0 < (frs rm row k).1 ∧ ∃ j, j < k ∧ (frs rm row k).2 = some (row.getD j 0)) := by
  intro k
  induction k with
  | zero => exact Or.inl ⟨fun j hj => by omega, rfl⟩
  | succ k ih =>
    have e : frs rm row (k + 1) = if (frs rm row k).1 < dst rm k then (dst rm k, some (row.getD k 0)) else if dst rm k = 0 then frs rm row k else if dst rm k = (frs rm row k).1 then (if optI (frs rm row k).2 ≤ nI (row.getD k 0) then frs rm row k else (dst rm k, some (row.getD k 0))) else frs rm row k := rfl
    rw [e]
    rcases ih with ⟨h1, h2⟩ | ⟨⟨j, hj, hj2⟩, h2, i, hi, hi2⟩
    · by_cases h3 : dst rm k = 0
      · refine Or.inl ⟨fun j hj => ?_, ?_⟩
        · by_cases hjk : j = k
          · subst hjk; exact h3
          · exact h1 j (by omega)
        · rw [h2, if_neg (by show ¬ 0 < dst rm k; omega), if_pos h3]
      · refine Or.inr ⟨⟨k, by omega, h3⟩, ?_⟩
        rw [h2, if_pos (by show 0 < dst rm k; omega)]
        exact ⟨by show 0 < dst rm k; omega, k, by omega, rfl⟩
    · refine Or.inr ⟨⟨j, by omega, hj2⟩, ?_⟩
      split
      · rename_i h4
        exact ⟨by show 0 < dst rm k; omega, k, by omega, rfl⟩
      · split
        · exact ⟨h2, i, by omega, hi2⟩
        · split
          · split
            · exact ⟨h2, i, by omega, hi2⟩
            · rename_i h5 h6 h7
              exact ⟨by show 0 < dst rm k; omega, k, by omega, rfl⟩
          · exact ⟨h2, i, by omega, hi2⟩
theorem sm_lt (n k : Nat) (h : k ≤ n) : sm n (fun i => if i < k then 1 else 0) = k := by
  induction n with
  | zero => show 0 = k; omega
  | succ n ih =>
    show sm n (fun i => if i < k then 1 else 0) + (if n < k then 1 else 0) = k
    by_cases h1 : n < k
    · obtain rfl : k = n + 1 := by omega
      rw [if_pos h1, sm_congr (g' := fun i => if i < n then 1 else 0) (fun i hi => by rw [if_pos (show i < n + 1 by omega), if_pos hi])]
      have h2 : ∀ m, m ≤ n → sm m (fun i => if i < n then 1 else 0) = m := by
        intro m
        induction m with
        | zero => intro _; rfl
        | succ m ihm =>
          intro hm
          show sm m (fun i => if i < n then 1 else 0) + (if m < n then 1 else 0) = _
          rw [ihm (by omega), if_pos (by omega)]
      rw [h2 n (Nat.le_refl _)]
    · rw [if_neg h1, ih (by omega)]; rfl
theorem rnk_srt {rm : List Nat} (h : Srt rm) {k : Nat} (hk : k < rm.length) : rnk rm (rm.getD k 0) = k := by
  unfold rnk
  rw [sm_congr (g' := fun i => if i < k then 1 else 0) (fun i hi => ?_), sm_lt _ _ (by omega)]
  by_cases h1 : i < k
  · rw [if_pos (h i k h1 hk), if_pos h1]
  · rw [if_neg h1, if_neg]
    by_cases h2 : i = k
    · subst h2; omega
    · have := h k i (by omega) hi; omega
theorem far_srt {rm row : List Nat} (hd : Dst rm) (hl : row.length = rm.length) : far rm row = none ↔ Srt rm := by
  have hz : (∀ j, j < rm.length → dst rm j = 0) ↔ Srt rm := by
    constructor
    · intro h a b hab hb
      have h1 := h a (by omega); have h2 := h b hb
      have e1 : rnk rm (rm.getD a 0) = a := by unfold dst at h1; split at h1 <;> omega
      have e2 : rnk rm (rm.getD b 0) = b := by unfold dst at h2; split at h2 <;> omega
      by_cases h3 : rm.getD b 0 ≤ rm.getD a 0
      · have h4 : rnk rm (rm.getD b 0) ≤ rnk rm (rm.getD a 0) := sm_le fun i _ => by
          show (if _ then 1 else 0) ≤ (if _ then 1 else 0)
          by_cases h5 : rm.getD i 0 < rm.getD b 0
          · rw [if_pos h5, if_pos (by omega)]; exact Nat.le_refl _
          · rw [if_neg h5]; exact Nat.zero_le _
        omega
      · omega
    · intro h j hj
      have := rnk_srt h hj
      unfold dst
      rw [if_pos (by omega)]; omega
  unfold far
  rw [hl]
  rcases frs_spec rm row rm.length with ⟨h1, h2⟩ | ⟨⟨j, hj, hj2⟩, h2, i, hi, hi2⟩
  · rw [h2]; exact ⟨fun _ => hz.mp h1, fun _ => rfl⟩
  · rw [hi2]
    exact ⟨fun h => absurd h (by simp), fun h => absurd (hz.mpr h j hj) hj2⟩
theorem far_mem {rm row : List Nat} {f : Nat} (h : far rm row = some f) : f ∈ row := by
  unfold far at h
  rcases frs_spec rm row row.length with ⟨h1, h2⟩ | ⟨-, -, i, hi, hi2⟩
  · rw [h2] at h; cases h
  · rw [hi2] at h
    cases h
    exact gdn_mem hi
