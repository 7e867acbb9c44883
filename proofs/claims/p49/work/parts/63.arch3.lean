section Arch3
variable {W : WM} {A : AS} {d p c : Nat}
theorem a_202 (hI : Inv A d) (hd : d ≤ 1000) (v2 v3 v4 v5 : Int32) : ∀ (i fuel k : Nat) (V : WM), k + i = A.row.length → i < fuel → WR V A p c → ∃ V', WR V' A p c ∧ Qt V V' ∧ Lw_isArchive_L202 fuel V (nI A.row.length) v2 v3 v4 v5 (nI (sm k (fun k => if (halv (rmk A.mk A.row) ((rmk A.mk A.row).getD k 0)).1 = none then 1 else 0))) (nI (sm k (wpk (rmk A.mk A.row)))) (nI k) = Lw_isArchive_L400 FU V' (nI A.row.length) v2 v3 v4 v5 (nI (mis (rmk A.mk A.row))) (nI (wps (rmk A.mk A.row))) 0 0 (nI A.lm) 0 := by
  have hl : (rmk A.mk A.row).length = A.row.length := List.length_map _
  intro i
  induction i with
  | zero =>
    intro fuel k V hk hf h
    obtain ⟨fuel, rfl⟩ : ∃ k, fuel = k + 1 := ⟨fuel - 1, by omega⟩
    have e4 : SA_size V 4 = some (nI A.lm) := q_size h.1 hI (by omega) (k := 4) (by omega)
    obtain rfl : k = A.row.length := by omega
    refine ⟨V, h, Qt.rfl' V, ?_⟩
    rw [Lw_isArchive_L202, if_pos (Int32.le_refl _), e4, bs]
    unfold mis wps
    rw [hl]
  | succ i ih =>
    intro fuel k V hk hf h
    obtain ⟨fuel, rfl⟩ : ∃ k, fuel = k + 1 := ⟨fuel - 1, by omega⟩
    obtain ⟨V1, h1, g1, e1⟩ := w_202s hI hd h (k := k) (by omega) fuel (nI A.row.length) v2 v3 v4 v5 (sm k (fun k => if (halv (rmk A.mk A.row) ((rmk A.mk A.row).getD k 0)).1 = none then 1 else 0)) (sm k (wpk (rmk A.mk A.row))) rfl
    obtain ⟨V2, h2, g2, e2⟩ := ih fuel (k + 1) V1 (by omega) (by omega) h1
    exact ⟨V2, h2, g1.tr' g2, e1.trans e2⟩
theorem a_400 {V : WM} (h : WR V A p c) (hI : Inv A d) (hd : d ≤ 1000) (n v2 v3 v4 v5 v6 v7 : Int32) : ∀ (i fuel r : Nat), r + i = A.R → i < fuel → Lw_isArchive_L400 fuel V n v2 v3 v4 v5 v6 v7 (nI (sm r A.hv)) (nI (sm r A.rc)) (nI A.lm) (nI r) = Lw_isArchive_L457 FU V n v2 v3 v4 v5 v6 v7 (nI (sm A.R A.hv)) (nI (sm A.R A.rc)) (nI A.lm) 0 := by
  have hR := hI.R1; have hm := hI.m1
  have e3 : SA_size V 3 = some (nI A.R) := q_size h.1 hI (by omega) (k := 3) (by omega)
  intro i
  induction i with
  | zero =>
    intro fuel r hr hf
    obtain ⟨fuel, rfl⟩ : ∃ k, fuel = k + 1 := ⟨fuel - 1, by omega⟩
    obtain rfl : r = A.R := by omega
    rw [Lw_isArchive_L400, e3, bs, if_pos (Int32.le_refl _)]
  | succ i ih =>
    intro fuel r hr hf
    obtain ⟨fuel, rfl⟩ : ∃ k, fuel = k + 1 := ⟨fuel - 1, by omega⟩
    have r0 : SA_reader V (nI r) 0 = some (nI (A.hv r)) := q_rea h.1 hI (r := r) (by omega) (k := 0) (by omega)
    have r2 : SA_reader V (nI r) 2 = some (nI (A.rc r)) := q_rea h.1 hI (r := r) (by omega) (k := 2) (by omega)
    have hl := hI.hl r (by omega)
    rw [Lw_isArchive_L400, e3, bs, if_neg (nI_ge (by omega) (by omega)), r2]
    simp only [bs, ltb]
    rw [r0]
    simp only [bs]
    rw [if_pos ((q_le (by omega) (by omega)).mpr hl), nI_add, nI_add, nI_1]
    exact ih fuel (r + 1) (by omega) (by omega)
theorem sm_cnt {n : Nat} : ∀ l : List Nat, (∀ x ∈ l, x < n) → sm n (fun f => l.count f) = l.length := by
  intro l
  induction l with
  | nil => exact fun _ => sm_z' fun f _ => rfl
  | cons x l ih =>
    intro h
    rw [List.length_cons, ← ih (fun y hy => h y (List.mem_cons_of_mem _ hy)), sm_congr (g' := fun f => l.count f + if f = x then 1 else 0) (fun f _ => by
      rw [List.count_cons]
      by_cases hf : x = f
      · rw [if_pos (beq_iff_eq.mpr hf), if_pos hf.symm]
      · rw [if_neg (fun q => hf (beq_iff_eq.mp q)), if_neg (fun q => hf q.symm)]), sm_add, sm_one (h x List.mem_cons_self)]
theorem cF_sum (hI : Inv A d) : sm A.F (cF A) = A.sl.length := by
  have h := sm_cnt (n := A.F) (A.sl.map (fun s => s.f)) (fun x hx => by
    obtain ⟨s, hs, rfl⟩ := List.mem_map.mp hx
    exact (hI.sl s hs).2.1)
  rw [List.length_map] at h
  exact h
theorem idl_is (hI : Inv A d) {q : Nat} {x : Sp} (hx : A.sl[q]? = some x) : (idlA A x = 1 ∧ A.st x.f = 1) ∨ (idlA A x = 2 ∧ A.st x.f = 2) ∨ (idlA A x = 3 ∧ A.st x.f = 0 ∧ A.dy < A.em x.f) ∨ (idlA A x = 0 ∧ A.st x.f = 0 ∧ ¬ A.dy < A.em x.f ∧ A.hv x.r < A.lm) ∨ (idlA A x = 4 ∧ A.st x.f = 0 ∧ ¬ A.hv x.r < A.lm) := by
  have h2 := hI.s2 x.f (sp_at hI hx).2.2.1
  unfold idlA
  by_cases h1 : A.st x.f = 1
  · rw [if_pos h1]; exact Or.inl ⟨rfl, h1⟩
  · rw [if_neg h1]
    by_cases h3 : A.st x.f = 2
    · rw [if_pos h3]; exact Or.inr (Or.inl ⟨rfl, h3⟩)
    · rw [if_neg h3]
      have h0 : A.st x.f = 0 := by omega
      by_cases h4 : A.dy < A.em x.f
      · rw [if_pos h4]; exact Or.inr (Or.inr (Or.inl ⟨rfl, h0, h4⟩))
      · rw [if_neg h4]
        by_cases h5 : A.hv x.r < A.lm
        · rw [if_pos h5]; exact Or.inr (Or.inr (Or.inr (Or.inl ⟨rfl, h0, h4, h5⟩)))
        · rw [if_neg h5]; exact Or.inr (Or.inr (Or.inr (Or.inr ⟨rfl, h0, h5⟩)))
theorem c01 : ¬ nI 0 = 1 := by decide
theorem c02 : ¬ nI 0 = 2 := by decide
theorem c03 : ¬ nI 0 = 3 := by decide
theorem c04 : ¬ nI 0 = 4 := by decide
theorem c00 : nI 0 = 0 := rfl
theorem c10 : ¬ nI 1 = 0 := by decide
theorem c11 : nI 1 = 1 := rfl
theorem c12 : ¬ nI 1 = 2 := by decide
theorem c13 : ¬ nI 1 = 3 := by decide
theorem c14 : ¬ nI 1 = 4 := by decide
theorem c20 : ¬ nI 2 = 0 := by decide
theorem c21 : ¬ nI 2 = 1 := by decide
theorem c22 : nI 2 = 2 := rfl
theorem c23 : ¬ nI 2 = 3 := by decide
theorem c24 : ¬ nI 2 = 4 := by decide
theorem c30 : ¬ nI 3 = 0 := by decide
theorem c31 : ¬ nI 3 = 1 := by decide
theorem c32 : ¬ nI 3 = 2 := by decide
theorem c33 : nI 3 = 3 := rfl
theorem c34 : ¬ nI 3 = 4 := by decide
theorem c40 : ¬ nI 4 = 0 := by decide
theorem c41 : ¬ nI 4 = 1 := by decide
theorem c42 : ¬ nI 4 = 2 := by decide
theorem c43 : ¬ nI 4 = 3 := by decide
theorem c44 : nI 4 = 4 := rfl
theorem a_slip {V : WM} (h : WR V A p c) (hI : Inv A d) (hd : d ≤ 1000) {q : Nat} (hq : q < A.sl.length) (fuel : Nat) (n v2 v3 v4 v5 v6 v7 v8 v9 : Int32) : Lw_isArchive_L457 (fuel + 1) V n v2 v3 v4 v5 v6 v7 v8 v9 (nI A.lm) (nI q) = Lw_isArchive_L457 fuel V n v2 v3 v4 v5 v6 v7 v8 v9 (nI A.lm) (nI (q + 1)) := by
  have hc := hI.sc; have hm := hI.m1; have hdy := hI.dy
  obtain ⟨x, hx⟩ := sp_ex hq
  obtain ⟨-, hr, hf, hxd, hxt, -⟩ := sp_at hI hx
  have hhl := hI.hl x.r hr
  have e9 : SA_size V 9 = some (nI A.sl.length) := q_size h.1 hI (by omega) (k := 9) (by omega)
  have e0 : SA_size V 0 = some (nI A.dy) := q_size h.1 hI (by omega) (k := 0) (by omega)
  have hwa : ∀ k, k < 5 → SA_waiting V (nI q) (nI k) = some (spA A x k) := fun k hk => by
    rw [q_wai h.1 hI hd (by omega) hk]; unfold waiA; rw [hx]
  have w0 : SA_waiting V (nI q) 0 = some (nI x.r) := hwa 0 (by omega)
  have w1 : SA_waiting V (nI q) 1 = some (nI x.f) := hwa 1 (by omega)
  have w2 : SA_waiting V (nI q) 2 = some (nI x.d) := hwa 2 (by omega)
  have w3 : SA_waiting V (nI q) 3 = some (nI x.t) := hwa 3 (by omega)
  have w4 : SA_waiting V (nI q) 4 = some (nI (idlA A x)) := hwa 4 (by omega)
  have f2 : SA_folder V (nI x.f) 2 = some (nI (A.st x.f)) := q_fol h.1 hI hd hf (k := 2) (by omega)
  have f6 : SA_folder V (nI x.f) 6 = some (if A.dy < A.em x.f then 1 else 0) := q_fol h.1 hI hd hf (k := 6) (by omega)
  have r0 : SA_reader V (nI x.r) 0 = some (nI (A.hv x.r)) := q_rea h.1 hI hr (k := 0) (by omega)
  obtain ⟨ey, ec⟩ := q_cause h.1 hI hx
  have ew := q_waitsFor h.1 hI hd hx
  rw [Lw_isArchive_L457, nI_1]
  generalize Lw_isArchive_L457 fuel V n v2 v3 v4 v5 v6 v7 v8 v9 (nI A.lm) (nI (q + 1)) = K at *
  simp only [lt_01, lt_10]
  rw [e9, bs, if_neg (nI_ge hq (by omega)), w4]
  simp only [bs]
  rw [w1]
  simp only [bs]
  rw [w0]
  simp only [bs]
  rw [f2]
  simp only [bs, ltb]
  rw [w3]
  simp only [bs]
  rw [if_neg (show ¬ 2 < nI x.t from fun z => by have := (q_lt (a := 2) (by omega) (by omega)).mp z; omega), w2]
  simp only [bs]
  rw [e0]
  simp only [bs]
  rw [if_neg (show ¬ nI A.dy < nI x.d from fun z => by have := (q_lt (by omega) (by omega)).mp z; omega), ey]
  simp only [bs]
  rw [if_pos True.intro, ec]
  simp only [bs]
  rw [if_pos True.intro, f6, r0]
  simp only [bs]
  rcases idl_is hI hx with ⟨e, e2⟩ | ⟨e, e2⟩ | ⟨e, e2, e3⟩ | ⟨e, e2, e3, e4⟩ | ⟨e, e2, e4⟩
  · rw [e] at ew
    rw [e, e2]
    simp only [if_pos c11, if_neg c10, if_neg c12, if_neg c13, if_neg c14, if_pos (ew.mpr (by omega)), if_true]
  · rw [e] at ew
    rw [e, e2]
    simp only [if_pos c22, if_neg c20, if_neg c21, if_neg c23, if_neg c24, if_pos (ew.mpr (by omega)), if_true]
  · rw [e] at ew
    rw [e, e2, if_pos e3]
    simp only [if_pos c33, if_neg c30, if_neg c31, if_neg c32, if_neg c34, if_neg c01, if_neg c02, if_pos (ew.mpr (by omega)), if_true, if_neg (show ¬ (1 : Int32) = 0 by decide)]
  · rw [e] at ew
    rw [e, e2, if_neg e3]
    simp only [if_pos c00, if_neg c01, if_neg c02, if_neg c03, if_neg c04, if_neg (fun z => ew.mp z rfl), if_true, if_neg (show ¬ (0 : Int32) = 1 by decide), if_neg (show ¬ nI A.lm ≤ nI (A.hv x.r) from fun z => by have := (q_le (by omega) (by omega)).mp z; omega)]
  · rw [e] at ew
    rw [e, e2]
    simp only [if_pos c44, if_neg c40, if_neg c41, if_neg c42, if_neg c43, if_neg c01, if_neg c02, if_pos (ew.mpr (by omega)), if_true, if_neg (show ¬ nI (A.hv x.r) < nI A.lm from fun z => by have := (q_lt (by omega) (by omega)).mp z; omega)]
end Arch3
