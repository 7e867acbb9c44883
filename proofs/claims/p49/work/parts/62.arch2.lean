/-! it is an archive: the row, the readers, the slips, the end -/
def wrv (P : Prop) [Decidable P] (B : Option Int32) (m : Int32) : Option Int32 := if P then some 0 else Option.bind B fun q => some (if q ≤ m then 0 else 1)
theorem lt_wr {α : Type} (X : Int32 → Option α) (P : Prop) [Decidable P] (B : Option Int32) (m : Int32) : (lt' X fun c => lt' (c 0) fun c0 => if P then c0 else Option.bind B fun q => if q ≤ m then c0 else c 1) = Option.bind (wrv P B m) X := by
  unfold lt' wrv
  by_cases hP : P
  · simp only [if_pos hP]; rfl
  · simp only [if_neg hP]
    cases B with
    | none => rfl
    | some q =>
      show (if q ≤ m then X 0 else X 1) = X (if q ≤ m then 0 else 1)
      split <;> rfl
section Arch2
variable {W : WM} {A : AS} {d p c : Nat}
theorem mk_row (hI : Inv A d) {i j : Nat} (hi : i < A.row.length) (hj : j < A.row.length) (e : A.mk (A.row.getD i 0) = A.mk (A.row.getD j 0)) : i = j := by
  have hd := d_row hI
  have hl : (rmk A.mk A.row).length = A.row.length := List.length_map _
  rcases Nat.lt_trichotomy i j with h | h | h
  · have := hd i j h (by omega)
    rw [rmk_d A.mk hi, rmk_d A.mk hj] at this
    exact absurd e this
  · exact h
  · have := hd j i h (by omega)
    rw [rmk_d A.mk hi, rmk_d A.mk hj] at this
    exact absurd e.symm this
/-- the last place that a search looked at, and behind it -/
theorem look_last (hI : Inv A d) {L l : List Nat} {x : Nat} (hL : L = l ++ [x]) (hx : x < A.row.length) (hl : L.length ≤ 5) : lnget (ml A.row) (lnget (ml L) (nI L.length - 1)) = nI (A.row.getD x 0) ∧ lnget (ml A.row) (lnget (ml L) (nI L.length)) = -1 := by
  have hr := hI.rl
  constructor
  · rw [hL, List.length_append, show nI (l.length + [x].length) - 1 = nI l.length from nI_pred _, lg_ml (by rw [List.length_append]; exact Nat.lt_succ_self _) (by rw [← hL]; omega), show (l ++ [x]).getD l.length 0 = x by simp, lg_ml hx (by omega)]
  · rw [lg_mlo (Nat.le_refl _) (by omega), lg_neg (by decide)]
theorem w_202s (hI : Inv A d) (hd : d ≤ 1000) {V : WM} (h : WR V A p c) {k : Nat} (hk : k < A.row.length) (fuel : Nat) (n v2 v3 v4 v5 : Int32) (x y : Nat) (hn : n = nI A.row.length) : ∃ V', WR V' A p c ∧ Qt V V' ∧ Lw_isArchive_L202 (fuel + 1) V n v2 v3 v4 v5 (nI x) (nI y) (nI k) = Lw_isArchive_L202 fuel V' n v2 v3 v4 v5 (nI (x + if (halv (rmk A.mk A.row) ((rmk A.mk A.row).getD k 0)).1 = none then 1 else 0)) (nI (y + wpk (rmk A.mk A.row) k)) (nI (k + 1)) := by
  have hr := hI.rl
  have hl : (rmk A.mk A.row).length = A.row.length := List.length_map _
  have hfm := (hI.rw _).mp (gdn_mem (l := A.row) (i := k) hk)
  have hmk := hI.mk _ hfm.1
  have hmm := rmk_d A.mk hk
  have e0 : SA_folder V (nI (A.row.getD k 0)) 0 = some (nI (A.mk (A.row.getD k 0))) := q_fol h.1 hI hd hfm.1 (k := 0) (by omega)
  obtain ⟨V1, e1, h1, g1⟩ := q_found h hI (m := A.mk (A.row.getD k 0)) (by omega)
  obtain ⟨V2, e2, h2, g2⟩ := q_looks h1 hI (m := A.mk (A.row.getD k 0)) (by omega)
  have hlen := halv_l24 (rmk A.mk A.row) (A.mk (A.row.getD k 0)) (by omega)
  have hpos : 0 < (halv (rmk A.mk A.row) (A.mk (A.row.getD k 0))).2.length := hal_pos _ _ 23 (by omega)
  have hmem : ∀ x ∈ (halv (rmk A.mk A.row) (A.mk (A.row.getD k 0))).2, x < A.row.length := fun x hx => by have := (hal_mem _ _ _ _ _ x hx).2; omega
  -- the pair with the one ahead
  have hwr : wrv (nI k ≤ 0) (SA_folder V2 (SA_at V2 (nI k - 1)) 0) (nI (A.mk (A.row.getD k 0))) = some (nI (wpk (rmk A.mk A.row) k)) := by
    unfold wrv
    unfold wpk
    by_cases hk0 : k = 0
    · rw [if_pos (show nI k ≤ 0 by rw [hk0]; exact Int32.le_refl _), if_pos hk0]; rfl
    · have hf1 := (hI.rw _).mp (gdn_mem (l := A.row) (i := k - 1) (by omega))
      have hmk1 := hI.mk _ hf1.1
      have ea : SA_at V2 (nI k - 1) = nI (A.row.getD (k - 1) 0) := by
        rw [show nI k - 1 = nI (k - 1) from by rw [show (1 : Int32) = nI 1 from rfl, pk_sub (by omega)]]
        exact q_at h2.1 hI (by omega)
      have ef : SA_folder V2 (nI (A.row.getD (k - 1) 0)) 0 = some (nI (A.mk (A.row.getD (k - 1) 0))) := q_fol h2.1 hI hd hf1.1 (k := 0) (by omega)
      rw [if_neg (show ¬ nI k ≤ 0 from nI_nle (by omega) (by omega)), ea, ef, if_neg hk0, hmm, rmk_d A.mk (by omega)]
      simp only [bs]
      by_cases hc : A.mk (A.row.getD k 0) < A.mk (A.row.getD (k - 1) 0)
      · rw [if_pos hc, if_neg (fun q => by have := (q_le (by omega) (by omega)).mp q; omega)]; rfl
      · rw [if_neg hc, if_pos ((q_le (by omega) (by omega)).mpr (by omega))]; rfl
  have hat : SA_at V (nI k) = nI (A.row.getD k 0) := q_at h.1 hI hk
  subst hn
  rw [hmm]
  rw [Lw_isArchive_L202]
  simp only [lt_01, lt_10, lt_wr]
  rw [if_neg (nI_ge hk (by omega))]
  simp only [ltb]
  rw [hat, e0]
  simp only [bs]
  rw [e1]
  simp only [bs]
  rw [e2]
  simp only [bs]
  have n1 : ¬ nI (halv (rmk A.mk A.row) (A.mk (A.row.getD k 0))).2.length < 1 := fun q => by have := (q_lt (b := 1) (by omega) (by omega)).mp q; omega
  have n5 : ¬ 5 < nI (halv (rmk A.mk A.row) (A.mk (A.row.getD k 0))).2.length := fun q => by have := (q_lt (a := 5) (by omega) (by omega)).mp q; omega
  cases hq : (halv (rmk A.mk A.row) (A.mk (A.row.getD k 0))).1 with
  | none =>
    obtain ⟨l, z, hL⟩ : ∃ l z, (halv (rmk A.mk A.row) (A.mk (A.row.getD k 0))).2 = l ++ [z] := by
      rcases List.eq_nil_or_concat (halv (rmk A.mk A.row) (A.mk (A.row.getD k 0))).2 with e | ⟨l, z, e⟩
      · rw [e] at hpos; exact absurd hpos (Nat.lt_irrefl _)
      · exact ⟨l, z, by rw [e, List.concat_eq_append]⟩
    have hz : z < A.row.length := hmem z (by rw [hL]; simp)
    have hzm := hal_none _ _ _ _ _ hq z (by rw [show (hal (rmk A.mk A.row) (A.mk (A.row.getD k 0)) 24 0 (rmk A.mk A.row).length).2 = l ++ [z] from hL]; simp)
    rw [rmk_d A.mk hz] at hzm
    obtain ⟨hk1, hk2⟩ := look_last hI hL hz hlen
    obtain ⟨V3, e3, h3, g3⟩ := q_lookedAt h2 hI (m := A.mk (A.row.getD k 0)) (by omega) (nI (halv (rmk A.mk A.row) (A.mk (A.row.getD k 0))).2.length - 1)
    obtain ⟨V4, e4, h4, g4⟩ := q_lookedAt h3 hI (m := A.mk (A.row.getD k 0)) (by omega) (nI (halv (rmk A.mk A.row) (A.mk (A.row.getD k 0))).2.length)
    rw [hk1] at e3
    rw [hk2] at e4
    have hne : ¬ nI (A.row.getD z 0) = nI (A.row.getD k 0) := fun q => hzm (congrArg A.mk ((q_eq (hI.rb _ (gdn_mem hz)) (hI.rb _ (gdn_mem hk))).mp q))
    refine ⟨V4, h4, ((g1.tr' g2).tr' g3).tr' g4, ?_⟩
    rw [show optI none = -1 from rfl]
    simp only [if_neg (show ¬ (0 : Int32) ≤ -1 by decide), if_pos (show (-1 : Int32) < 0 by decide)]
    rw [hwr]
    simp only [bs]
    rw [if_neg (show ¬ nI (halv (rmk A.mk A.row) (A.mk (A.row.getD k 0))).2.length ≤ 0 from nI_nle hpos (by omega)), e3]
    simp only [bs]
    rw [if_neg hne, if_neg n1, if_neg n5, e4]
    simp only [bs]
    rw [if_pos True.intro, nI_add, nI_1, nI_1, if_pos True.intro]
  | some q =>
    obtain ⟨-, hq1, hq2, l, hL⟩ := hal_some _ _ _ _ _ _ hq
    have hqk : q = k := by
      rw [rmk_d A.mk (by omega)] at hq2
      exact mk_row hI (by omega) hk hq2
    subst hqk
    have hL : (halv (rmk A.mk A.row) (A.mk (A.row.getD q 0))).2 = l ++ [q] := hL
    obtain ⟨hk1, hk2⟩ := look_last hI hL hk hlen
    obtain ⟨V3, e3, h3, g3⟩ := q_lookedAt h2 hI (m := A.mk (A.row.getD q 0)) (by omega) (nI (halv (rmk A.mk A.row) (A.mk (A.row.getD q 0))).2.length - 1)
    obtain ⟨V4, e4, h4, g4⟩ := q_refile h3 hI (m := A.mk (A.row.getD q 0)) (by omega) (q := q) (by omega) hq
    obtain ⟨V5, e5, h5, g5⟩ := q_lookedAt h4 hI (m := A.mk (A.row.getD q 0)) (by omega) (nI (halv (rmk A.mk A.row) (A.mk (A.row.getD q 0))).2.length)
    rw [hk1] at e3
    rw [hk2] at e5
    refine ⟨V5, h5, (((g1.tr' g2).tr' g3).tr' g4).tr' g5, ?_⟩
    rw [show optI (some q) = nI q from rfl]
    simp only [if_pos (show (0 : Int32) ≤ nI q from nI_pos' (by omega)), if_neg (q_neg (a := q) (by omega))]
    rw [hwr]
    simp only [bs]
    rw [if_pos True.intro, e3]
    simp only [bs]
    rw [if_pos True.intro, e4]
    simp only [bs]
    rw [if_pos True.intro, if_neg n1, if_neg n5, e5]
    simp only [bs]
    rw [if_pos True.intro, nI_add, nI_1, if_neg (show ¬ (some q = none) from fun z => by cases z)]
    rw [show nI x + 0 = nI (x + 0) from nI_add x 0]
end Arch2
