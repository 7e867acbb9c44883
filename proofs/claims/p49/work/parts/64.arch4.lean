section Arch4
variable {W : WM} {A : AS} {d p c : Nat}
theorem opt_pos {o : Option Nat} (h : ∀ x, o = some x → x < 100000) : 0 ≤ optI o ↔ ¬ o = none := by
  cases o with
  | none => exact ⟨fun z => absurd z (by decide), fun z => absurd rfl z⟩
  | some x => exact ⟨fun _ z => (by cases z), fun _ => nI_pos' (by have := h x rfl; omega)⟩
theorem a_end {V : WM} (h : WR V A p c) (hO : OKs A d) (hd : d ≤ 1000) (fuel : Nat) : ∃ V', WR V' A p c ∧ Qt V V' ∧ Lw_isArchive_L457 (fuel + 1) V (nI A.row.length) (nI (sm A.F (fun f => if A.st f = 1 then 1 else 0))) (nI (sm A.F (fun f => if A.st f = 2 then 1 else 0))) (nI (sm A.F A.le)) (nI (sm A.F (cF A))) (nI (mis (rmk A.mk A.row))) (nI (wps (rmk A.mk A.row))) (nI (sm A.R A.hv)) (nI (sm A.R A.rc)) (nI A.lm) (nI A.sl.length) = some (1, V') := by
  obtain ⟨hI, n, w, k, a1, a2, a3, a4, a5, a6, a7, a8⟩ := id hO
  have hl : (rmk A.mk A.row).length = A.row.length := List.length_map _
  have hr := hI.rl; have hc := hI.sc; have hF := hI.F1
  have hds := d_row hI
  have e9 : SA_size V 9 = some (nI A.sl.length) := q_size h.1 hI (by omega) (k := 9) (by omega)
  have e10 : SA_size V 10 = some (nI (wps (rmk A.mk A.row))) := q_size h.1 hI (by omega) (k := 10) (by omega)
  have ei := q_inv h.1 hI
  obtain ⟨V1, e1, h1, g1⟩ := q_longest h hI
  have ef := q_far h1.1 hI
  obtain ⟨V2, e2, h2, g2⟩ := q_missedAfter h1 hO (m := 99) (by omega)
  have es := q_swapsLeft h2.1 hI
  have z7 : SA_size V2 7 = some (nI (sm A.F (fun f => if A.st f = 1 then 1 else 0))) := q_size h2.1 hI (by omega) (k := 7) (by omega)
  have z8 : SA_size V2 8 = some (nI A.tr.length) := q_size h2.1 hI (by omega) (k := 8) (by omega)
  have z5 : SA_size V2 5 = some (nI A.F) := q_size h2.1 hI (by omega) (k := 5) (by omega)
  have z9 : SA_size V2 9 = some (nI A.sl.length) := q_size h2.1 hI (by omega) (k := 9) (by omega)
  have y4 : SA_account V2 4 = some (A.ac 4) := q_acc h2.1 (k := 4) (by omega) (by omega)
  obtain ⟨V3, e3, h3, g3⟩ := q_missed h2 hI
  have x3 : SA_account V3 3 = some (A.ac 3) := q_acc h3.1 (k := 3) (by omega) (by omega)
  have x4 : SA_account V3 4 = some (A.ac 4) := q_acc h3.1 (k := 4) (by omega) (by omega)
  have x6 : SA_account V3 6 = some (A.ac 6) := q_acc h3.1 (k := 6) (by omega) (by omega)
  have u9 : SA_size V3 9 = some (nI A.sl.length) := q_size h3.1 hI (by omega) (k := 9) (by omega)
  have eg := q_gap h3.1 hI
  -- turns
  have hiv : ivs (rmk A.mk A.row) ≤ 91 := ivs_le (by omega)
  have tz : nI (ivs (rmk A.mk A.row)) = 0 ↔ Srt (rmk A.mk A.row) := (z0 (by omega)).trans (ivs_srt hds)
  have hwle : wps (rmk A.mk A.row) ≤ 14 := by
    have h5 : wps (rmk A.mk A.row) ≤ sm (rmk A.mk A.row).length (fun _ => 1) := sm_le fun j _ => by
      unfold wpk
      split
      · exact Nat.zero_le _
      · split
        · exact Nat.le_refl _
        · exact Nat.zero_le _
    rw [sm_1] at h5
    omega
  have wz : nI (wps (rmk A.mk A.row)) = 0 ↔ Srt (rmk A.mk A.row) := (z0 (by omega)).trans (wps_srt hds)
  have hll := lgs_le (rmk A.mk A.row) A.row.length
  have lz : nI (lgs (rmk A.mk A.row) A.row.length) = nI A.row.length ↔ Srt (rmk A.mk A.row) := by
    rw [q_eq (by omega) (by omega)]
    have := lgs_srt (rm := rmk A.mk A.row)
    rw [hl] at this
    exact this
  have fz : 0 ≤ optI (far (rmk A.mk A.row) A.row) ↔ ¬ Srt (rmk A.mk A.row) := by
    rw [opt_pos (fun x hx => hI.rb x (far_mem hx)), far_srt hds hl.symm]
  have hsw : mis (rmk A.mk (sws A.mk 99 A.row).2) = 0 := by
    obtain ⟨s1, s2, s3⟩ := sws_spec A.mk 99 A.row hds
    have hp := (sws_mem A.mk 99 A.row).length_eq
    exact mis_srt (by rw [List.length_map, hp]; omega) ((ivs_srt s3).mp (by omega))
  have e2 : SA_missedAfter V1 99 = some (nI 0, V2) := by rw [← hsw]; exact e2
  have hal := hI.all
  have htl : sm A.F (fun f => if A.st f = 2 then 1 else 0) = A.tr.length := hI.tlen.symm
  have hk : k ≤ 1000 := Nat.le_trans a8 hd
  have m0 : Srt (rmk A.mk A.row) → ¬ 0 < nI (mis (rmk A.mk A.row)) := fun hs => by rw [mis_srt (by omega) hs]; decide
  refine ⟨V3, h3, (g1.tr' g2).tr' g3, ?_⟩
  rw [Lw_isArchive_L457, htl, hI.outs, cF_sum hI, a1, a2]
  simp only [lt_01, lt_10]
  rw [e9]
  simp only [bs]
  rw [if_pos (Int32.le_refl _), ei]
  simp only [bs]
  rw [e10]
  simp only [bs]
  rw [if_pos True.intro, e1]
  simp only [bs]
  rw [ef]
  simp only [bs]
  rw [e2]
  simp only [bs, ltb]
  rw [es]
  simp only [bs]
  rw [if_pos True.intro, z7]
  simp only [bs]
  rw [if_pos True.intro, if_pos True.intro, z8]
  simp only [bs]
  rw [if_pos True.intro, z5]
  simp only [bs]
  rw [nI_add, nI_add, if_pos (congrArg nI hal), y4]
  simp only [bs]
  rw [a3]
  simp only [eq_self, if_true]
  rw [z9]
  simp only [bs]
  rw [if_pos True.intro, e3]
  simp only [bs]
  rw [if_pos True.intro, x6]
  simp only [bs]
  rw [x4]
  simp only [bs]
  rw [a3, a4, if_neg (show ¬ nI n < nI w from fun z => by have := (q_lt (by omega) (by omega)).mp z; omega), u9]
  simp only [bs]
  rw [x3]
  simp only [bs]
  rw [a5, nI_add, if_neg (show ¬ nI k < nI (n + A.sl.length) from fun z => by have := (q_lt (by omega) (by omega)).mp z; omega), eg]
  simp only [bs]
  rw [if_pos True.intro, if_pos (show nI 0 ≤ 0 from Int32.le_refl _)]
  by_cases hs : Srt (rmk A.mk A.row)
  · simp only [if_pos (tz.mpr hs), if_pos (wz.mpr hs), if_pos (lz.mpr hs), if_neg (fun z => fz.mp z hs), if_neg (m0 hs), if_true]
  · simp only [if_neg (fun z => hs (tz.mp z)), if_neg (fun z => hs (wz.mp z)), if_neg (fun z => hs (lz.mp z)), if_pos (fz.mpr hs), if_true]
theorem a_457 {V : WM} (h : WR V A p c) (hO : OKs A d) (hd : d ≤ 1000) : ∀ (i fuel q : Nat), q + i = A.sl.length → i < fuel → ∃ V', WR V' A p c ∧ Qt V V' ∧ Lw_isArchive_L457 fuel V (nI A.row.length) (nI (sm A.F (fun f => if A.st f = 1 then 1 else 0))) (nI (sm A.F (fun f => if A.st f = 2 then 1 else 0))) (nI (sm A.F A.le)) (nI (sm A.F (cF A))) (nI (mis (rmk A.mk A.row))) (nI (wps (rmk A.mk A.row))) (nI (sm A.R A.hv)) (nI (sm A.R A.rc)) (nI A.lm) (nI q) = some (1, V') := by
  intro i
  induction i with
  | zero =>
    intro fuel q hq hf
    obtain ⟨fuel, rfl⟩ : ∃ k, fuel = k + 1 := ⟨fuel - 1, by omega⟩
    obtain rfl : q = A.sl.length := by omega
    exact a_end h hO hd fuel
  | succ i ih =>
    intro fuel q hq hf
    obtain ⟨fuel, rfl⟩ : ∃ k, fuel = k + 1 := ⟨fuel - 1, by omega⟩
    obtain ⟨V', h1, g1, e1⟩ := ih fuel (q + 1) (by omega) (by omega)
    exact ⟨V', h1, g1, (a_slip h hO.1 hd (by omega) fuel _ _ _ _ _ _ _ _ _).trans e1⟩
theorem arch_ok (h : WR W A p c) (hO : OKs A d) (hd : d ≤ 1000) : ∃ W', Lw_isArchive W = some (1, W') ∧ WR W' A p c ∧ Qt W W' := by
  have hI := hO.1
  have e6 : SA_size W 6 = some (nI A.row.length) := q_size h.1 hI (by omega) (k := 6) (by omega)
  have h20 := w_L20 h.1 hI hd (nI A.row.length) A.F FU 0 (Nat.zero_add _) (by have := hI.F1; unfold FU; omega)
  obtain ⟨V1, h1, g1, e1⟩ := a_202 hI hd (nI (sm A.F (fun f => if A.st f = 1 then 1 else 0))) (nI (sm A.F (fun f => if A.st f = 2 then 1 else 0))) (nI (sm A.F A.le)) (nI (sm A.F (cF A))) A.row.length FU 0 W (Nat.zero_add _) (by have := hI.rl; unfold FU; omega) h
  have h400 := a_400 h1 hI hd (nI A.row.length) (nI (sm A.F (fun f => if A.st f = 1 then 1 else 0))) (nI (sm A.F (fun f => if A.st f = 2 then 1 else 0))) (nI (sm A.F A.le)) (nI (sm A.F (cF A))) (nI (mis (rmk A.mk A.row))) (nI (wps (rmk A.mk A.row))) A.R FU 0 (Nat.zero_add _) (by have := hI.R1; unfold FU; omega)
  obtain ⟨V2, h2, g2, e2⟩ := a_457 h1 hO hd A.sl.length FU 0 (Nat.zero_add _) (by have := hI.sc; unfold FU; omega)
  refine ⟨V2, ?_, h2, g1.tr' g2⟩
  unfold Lw_isArchive
  rw [e6, bs]
  exact h20.trans (e1.trans (h400.trans e2))
end Arch4
