section Act3
variable {A : AS} {d : Nat}
theorem act_days (hO : OKs A d) (hd : d + 4 ≤ 900) (u : Int32) (hw : 11 ≤ mostN u 20 ∧ mostN u 20 < 15) : ActOK A d u := by
  obtain ⟨hI, hA⟩ := id hO
  have hF := hI.F1; have hR := hI.R1; have hc := hI.sc; have hr := hI.rl; have hdy := hI.dy
  have hw20 : mostN u 20 < 20 := most_lt u (by omega)
  have hfF := aF_lt hI u
  have e20 : Lw_most u 20 = some (nI (mostN u 20)) := most_eq u (m := 20) (by omega) (by omega)
  have mf : Lw_most ((u >>> (4 &&& 31)) >>> (2 &&& 31)) (nI A.F) = some (nI (aF A u)) := most_eq _ hF.1 (by omega)
  have hq : mostN (u >>> (4 &&& 31)) 4 < 4 := most_lt _ (by omega)
  have mq : Lw_most (u >>> (4 &&& 31)) 4 = some (nI (mostN (u >>> (4 &&& 31)) 4)) := most_eq _ (m := 4) (by omega) (by omega)
  generalize mostN (u >>> (4 &&& 31)) 4 = q at hq mq
  obtain ⟨i1, i2, i3, i4, i5⟩ := i_it (1 + q) A d hO
  refine ⟨(itA (1 + q) A).2, true, i1.wide (by omega), fun z => (by cases z), fun W p c h => ?_⟩
  obtain ⟨V1, e1, h1, g1⟩ := q_servedBy h hO (n := 1 + q) (by omega) (by omega)
  obtain ⟨V2, e2, h2, g2⟩ := q_waitingIn h1 hO (n := 1 + q) (by omega) (by omega)
  obtain ⟨W', eo, ho⟩ := o_days h2 hO (n := 1 + q) (by omega) (by omega) (by omega)
  have ho := (ho.qt (g1.tr' g2)).yes (q_neg (by omega))
  refine ⟨W', ?_, ho⟩
  have v0 : SA_size V2 0 = some (nI A.dy) := q_size h2.1 hI (by omega) (k := 0) (by omega)
  have t9 : SA_size W' 9 = some (nI (itA (1 + q) A).2.sl.length) := q_size ho.rel i1.1 (by omega) (k := 9) (by omega)
  have t0 : SA_size W' 0 = some (nI (A.dy + (1 + q))) := by
    have := q_size ho.rel i1.1 (by omega) (k := 0) (by omega)
    rw [show sizA (itA (1 + q) A).2 0 = nI (itA (1 + q) A).2.dy from rfl, i3] at this
    exact this
  have s5 : SA_size W 5 = some (nI A.F) := q_size h.1 hI (by omega) (k := 5) (by omega)
  have s6 : SA_size W 6 = some (nI A.row.length) := q_size h.1 hI (by omega) (k := 6) (by omega)
  have s9 : SA_size W 9 = some (nI A.sl.length) := q_size h.1 hI (by omega) (k := 9) (by omega)
  have f2 : SA_folder W (nI (aF A u)) 2 = some (nI (A.st (aF A u))) := q_fol h.1 hI (by omega) hfF (k := 2) (by omega)
  have ew : ∃ w, w = mostN u 20 := ⟨_, rfl⟩
  obtain ⟨w, ew⟩ := ew
  rw [← ew] at e20 hw hw20
  unfold Lw_act
  rw [e20]
  simp only [lt_01, lt_10]
  simp only [bs, ltb]
  rw [s5]
  simp only [bs]
  rw [mf]
  simp only [bs]
  rw [s6]
  simp only [bs]
  rw [s9]
  simp only [bs]
  rw [f2]
  simp only [bs]
  rw [if_pos (show 7 ≤ nI w from (q_le (a := 7) (by omega) (by omega)).mpr (by omega)), if_neg (show ¬ nI w = 7 from fun z => by have := (q_eq (b := 7) (by omega) (by omega)).mp z; omega), if_pos (show 11 ≤ nI w from (q_le (a := 11) (by omega) (by omega)).mpr (by omega)), if_neg (show ¬ 15 ≤ nI w from fun z => by have := (q_le (a := 15) (by omega) (by omega)).mp z; omega), mq]
  simp only [bs]
  rw [show (1 : Int32) + nI q = nI (1 + q) from nI_add 1 q, e1]
  simp only [bs]
  rw [e2]
  simp only [bs]
  rw [v0]
  simp only [bs]
  rw [eo]
  simp only [bs]
  rw [if_pos True.intro, t9]
  simp only [bs]
  rw [if_pos True.intro, t0]
  simp only [bs]
  rw [nI_add, if_pos rfl]
theorem act_misfile (hO : OKs A d) (hd : d + 4 ≤ 900) (u : Int32) (hw : 15 ≤ mostN u 20 ∧ mostN u 20 < 17) : ActOK A d u := by
  obtain ⟨hI, hA⟩ := id hO
  have hF := hI.F1; have hR := hI.R1; have hc := hI.sc; have hr := hI.rl; have hdy := hI.dy
  have hw20 : mostN u 20 < 20 := most_lt u (by omega)
  have hfF := aF_lt hI u
  have e20 : Lw_most u 20 = some (nI (mostN u 20)) := most_eq u (m := 20) (by omega) (by omega)
  have mf : Lw_most ((u >>> (4 &&& 31)) >>> (2 &&& 31)) (nI A.F) = some (nI (aF A u)) := most_eq _ hF.1 (by omega)
  have hq : mostN (u >>> (4 &&& 31)) (A.row.length + 1) < A.row.length + 1 := most_lt _ (by omega)
  have mq : Lw_most (u >>> (4 &&& 31)) (nI (A.row.length + 1)) = some (nI (mostN (u >>> (4 &&& 31)) (A.row.length + 1))) := most_eq _ (by omega) (by omega)
  generalize mostN (u >>> (4 &&& 31)) (A.row.length + 1) = q at hq mq
  have hs2 := hI.s2 _ hfF
  by_cases h0 : A.st (aF A u) = 0
  · have hmr := (hI.rw (aF A u)).mpr ⟨hfF, h0⟩
    have hix := idx_lt hI hfF h0
    by_cases h1 : q < A.row.length
    · have hO2 := i_ro hO (mv_perm (p := q) hmr) (ac := A.ac) rfl rfl rfl
      refine ⟨roA A (mvR A.row (aF A u) q) A.ac, true, hO2.wide (by omega), fun z => (by cases z), fun W p c h => ?_⟩
      obtain ⟨W', eo, ho⟩ := o_misfile h hI hfF (q := q) (by omega)
      rw [if_pos h0, if_pos h1] at eo ho
      rw [if_pos (show A.st (aF A u) = 0 ∧ q < A.row.length from ⟨h0, h1⟩)] at ho
      have ho := ho.yes (q_neg (by omega))
      refine ⟨W', ?_, ho⟩
      have f3 : SA_folder W (nI (aF A u)) 3 = some (nI (A.row.idxOf (aF A u))) := by
        have := q_fol h.1 hI (by omega) hfF (k := 3) (by omega)
        rw [show folA A (aF A u) 3 = whA A (aF A u) from rfl] at this
        unfold whA at this
        rw [if_pos h0] at this
        exact this
      have t3 : SA_folder W' (nI (aF A u)) 3 = some (nI q) := by
        have := q_fol ho.rel hO2.1 (by omega) hfF (k := 3) (by omega)
        rw [show folA (roA A (mvR A.row (aF A u) q) A.ac) (aF A u) 3 = whA (roA A (mvR A.row (aF A u) q) A.ac) (aF A u) from rfl] at this
        unfold whA at this
        rw [if_pos (show (roA A (mvR A.row (aF A u) q) A.ac).st (aF A u) = 0 from h0)] at this
        exact Eq.trans this (congrArg some (congrArg nI (mv_idx hI.rn hmr h1)))
      have s5 : SA_size W 5 = some (nI A.F) := q_size h.1 hI (by omega) (k := 5) (by omega)
      have s6 : SA_size W 6 = some (nI A.row.length) := q_size h.1 hI (by omega) (k := 6) (by omega)
      have s9 : SA_size W 9 = some (nI A.sl.length) := q_size h.1 hI (by omega) (k := 9) (by omega)
      have f2 : SA_folder W (nI (aF A u)) 2 = some (nI (A.st (aF A u))) := q_fol h.1 hI (by omega) hfF (k := 2) (by omega)
      have ew : ∃ w, w = mostN u 20 := ⟨_, rfl⟩
      obtain ⟨w, ew⟩ := ew
      rw [← ew] at e20 hw hw20
      unfold Lw_act
      rw [e20]
      simp only [lt_01, lt_10]
      simp only [bs, ltb]
      rw [s5]
      simp only [bs]
      rw [mf]
      simp only [bs]
      rw [s6]
      simp only [bs]
      rw [s9]
      simp only [bs]
      rw [f2]
      simp only [bs]
      rw [if_pos (show 7 ≤ nI w from (q_le (a := 7) (by omega) (by omega)).mpr (by omega)), if_neg (show ¬ nI w = 7 from fun z => by have := (q_eq (b := 7) (by omega) (by omega)).mp z; omega), if_pos (show 11 ≤ nI w from (q_le (a := 11) (by omega) (by omega)).mpr (by omega)), if_pos (show 15 ≤ nI w from (q_le (a := 15) (by omega) (by omega)).mpr (by omega)), if_neg (show ¬ 17 ≤ nI w from fun z => by have := (q_le (a := 17) (by omega) (by omega)).mp z; omega), nI_1, mq]
      simp only [bs]
      rw [h0, f3]
      simp only [bs, if_pos c00]
      rw [eo]
      simp only [bs]
      rw [if_neg (show ¬ (1 : Int32) = 0 by decide), if_neg (show ¬ (1 : Int32) = 0 by decide), if_pos ((q_lt (by omega) (by omega)).mpr h1), if_pos True.intro, t3]
      simp only [bs]
      rw [if_pos True.intro]
    · refine ⟨A, false, hO.wide (by omega), fun _ => rfl, fun W p c h => ?_⟩
      obtain ⟨W', eo, ho⟩ := o_misfile h hI hfF (q := q) (by omega)
      rw [if_pos h0, if_neg h1] at eo ho
      rw [if_neg (show ¬ (A.st (aF A u) = 0 ∧ q < A.row.length) from fun z => h1 z.2)] at ho
      refine ⟨W', ?_, ho.no (by decide)⟩
      have f3 : SA_folder W (nI (aF A u)) 3 = some (whA A (aF A u)) := q_fol h.1 hI (by omega) hfF (k := 3) (by omega)
      have s5 : SA_size W 5 = some (nI A.F) := q_size h.1 hI (by omega) (k := 5) (by omega)
      have s6 : SA_size W 6 = some (nI A.row.length) := q_size h.1 hI (by omega) (k := 6) (by omega)
      have s9 : SA_size W 9 = some (nI A.sl.length) := q_size h.1 hI (by omega) (k := 9) (by omega)
      have f2 : SA_folder W (nI (aF A u)) 2 = some (nI (A.st (aF A u))) := q_fol h.1 hI (by omega) hfF (k := 2) (by omega)
      have ew : ∃ w, w = mostN u 20 := ⟨_, rfl⟩
      obtain ⟨w, ew⟩ := ew
      rw [← ew] at e20 hw hw20
      unfold Lw_act
      rw [e20]
      simp only [lt_01, lt_10]
      simp only [bs, ltb]
      rw [s5]
      simp only [bs]
      rw [mf]
      simp only [bs]
      rw [s6]
      simp only [bs]
      rw [s9]
      simp only [bs]
      rw [f2]
      simp only [bs]
      rw [if_pos (show 7 ≤ nI w from (q_le (a := 7) (by omega) (by omega)).mpr (by omega)), if_neg (show ¬ nI w = 7 from fun z => by have := (q_eq (b := 7) (by omega) (by omega)).mp z; omega), if_pos (show 11 ≤ nI w from (q_le (a := 11) (by omega) (by omega)).mpr (by omega)), if_pos (show 15 ≤ nI w from (q_le (a := 15) (by omega) (by omega)).mpr (by omega)), if_neg (show ¬ 17 ≤ nI w from fun z => by have := (q_le (a := 17) (by omega) (by omega)).mp z; omega), nI_1, mq]
      simp only [bs]
      rw [h0, f3]
      simp only [bs, if_pos c00]
      rw [eo]
      simp only [bs]
      rw [if_neg (show ¬ (1 : Int32) = 0 by decide), if_neg (show ¬ (1 : Int32) = 0 by decide), if_neg (fun z => h1 ((q_lt (by omega) (by omega)).mp z)), if_pos True.intro]
  · refine ⟨A, false, hO.wide (by omega), fun _ => rfl, fun W p c h => ?_⟩
    obtain ⟨W', eo, ho⟩ := o_misfile h hI hfF (q := q) (by omega)
    rw [if_neg h0] at eo ho
    rw [if_neg (show ¬ (A.st (aF A u) = 0 ∧ q < A.row.length) from fun z => h0 z.1)] at ho
    refine ⟨W', ?_, ho.no (by decide)⟩
    have s5 : SA_size W 5 = some (nI A.F) := q_size h.1 hI (by omega) (k := 5) (by omega)
    have s6 : SA_size W 6 = some (nI A.row.length) := q_size h.1 hI (by omega) (k := 6) (by omega)
    have s9 : SA_size W 9 = some (nI A.sl.length) := q_size h.1 hI (by omega) (k := 9) (by omega)
    have f2 : SA_folder W (nI (aF A u)) 2 = some (nI (A.st (aF A u))) := q_fol h.1 hI (by omega) hfF (k := 2) (by omega)
    have ew : ∃ w, w = mostN u 20 := ⟨_, rfl⟩
    obtain ⟨w, ew⟩ := ew
    rw [← ew] at e20 hw hw20
    unfold Lw_act
    rw [e20]
    simp only [lt_01, lt_10]
    simp only [bs, ltb]
    rw [s5]
    simp only [bs]
    rw [mf]
    simp only [bs]
    rw [s6]
    simp only [bs]
    rw [s9]
    simp only [bs]
    rw [f2]
    simp only [bs]
    rw [if_pos (show 7 ≤ nI w from (q_le (a := 7) (by omega) (by omega)).mpr (by omega)), if_neg (show ¬ nI w = 7 from fun z => by have := (q_eq (b := 7) (by omega) (by omega)).mp z; omega), if_pos (show 11 ≤ nI w from (q_le (a := 11) (by omega) (by omega)).mpr (by omega)), if_pos (show 15 ≤ nI w from (q_le (a := 15) (by omega) (by omega)).mpr (by omega)), if_neg (show ¬ 17 ≤ nI w from fun z => by have := (q_le (a := 17) (by omega) (by omega)).mp z; omega), nI_1, mq]
    simp only [bs, if_neg (show ¬ nI (A.st (aF A u)) = 0 from fun z => h0 ((z0 (by omega)).mp z)), if_true]
    rw [eo]
    simp only [bs, if_true]
theorem ck_neg : ∀ s, s < 13 → ∀ t, t < s → ¬ 0 < nI t - nI s := by decide +kernel
theorem act_check (hO : OKs A d) (hd : d + 4 ≤ 900) (u : Int32) (hw : mostN u 20 = 17) : ActOK A d u := by
  obtain ⟨hI, hA⟩ := id hO
  have hF := hI.F1; have hR := hI.R1; have hc := hI.sc; have hr := hI.rl; have hdy := hI.dy
  have hw20 : mostN u 20 < 20 := most_lt u (by omega)
  have hfF := aF_lt hI u
  have e20 : Lw_most u 20 = some (nI (mostN u 20)) := most_eq u (m := 20) (by omega) (by omega)
  have mf : Lw_most ((u >>> (4 &&& 31)) >>> (2 &&& 31)) (nI A.F) = some (nI (aF A u)) := most_eq _ hF.1 (by omega)
  have hq : mostN (u >>> (4 &&& 31)) 12 < 12 := most_lt _ (by omega)
  have mq : Lw_most (u >>> (4 &&& 31)) 12 = some (nI (mostN (u >>> (4 &&& 31)) 12)) := most_eq _ (m := 12) (by omega) (by omega)
  generalize mostN (u >>> (4 &&& 31)) 12 = q at hq mq
  have hds := d_row hI
  obtain ⟨x1, x2, x3⟩ := sws_spec A.mk (1 + q) A.row hds
  have hiv : ivs (rmk A.mk A.row) ≤ 91 := ivs_le (by rw [List.length_map]; omega)
  have hO2 := i_ro hO (sws_mem A.mk (1 + q) A.row) (ac := upd A.ac 9 (A.ac 9 + nI (sws A.mk (1 + q) A.row).1)) (if_neg (by omega)) (if_neg (by omega)) (if_neg (by omega))
  refine ⟨_, true, hO2.wide (by omega), fun z => (by cases z), fun W p c h => ?_⟩
  have ei := q_inv h.1 hI
  obtain ⟨V1, e1, h1, g1⟩ := q_missedAfter h hO (m := 1 + q) (by omega)
  obtain ⟨W', eo, ho⟩ := o_check h1 hI (m := 1 + q) (by omega) (by omega)
  have ho := (ho.qt g1).yes (q_neg (by omega))
  have t1 := q_inv ho.rel hO2.1
  rw [show ivs (rmk (roA A (sws A.mk (1 + q) A.row).2 (upd A.ac 9 (A.ac 9 + nI (sws A.mk (1 + q) A.row).1))).mk (roA A (sws A.mk (1 + q) A.row).2 (upd A.ac 9 (A.ac 9 + nI (sws A.mk (1 + q) A.row).1))).row) = ivs (rmk A.mk (sws A.mk (1 + q) A.row).2) from rfl, x2] at t1
  obtain ⟨p', c', hwr⟩ := ho.wr
  obtain ⟨W2, t2, h2, g2⟩ := q_missed hwr hO2.1
  refine ⟨W2, ?_, ho.qt g2 h2.1⟩
  have t2 : SA_missed W' = some (nI (mis (rmk A.mk (sws A.mk (1 + q) A.row).2)), W2) := t2
  have s5 : SA_size W 5 = some (nI A.F) := q_size h.1 hI (by omega) (k := 5) (by omega)
  have s6 : SA_size W 6 = some (nI A.row.length) := q_size h.1 hI (by omega) (k := 6) (by omega)
  have s9 : SA_size W 9 = some (nI A.sl.length) := q_size h.1 hI (by omega) (k := 9) (by omega)
  have f2 : SA_folder W (nI (aF A u)) 2 = some (nI (A.st (aF A u))) := q_fol h.1 hI (by omega) hfF (k := 2) (by omega)
  have ew : ∃ w, w = mostN u 20 := ⟨_, rfl⟩
  obtain ⟨w, ew⟩ := ew
  rw [← ew] at e20 hw hw20
  unfold Lw_act
  rw [e20]
  simp only [lt_01, lt_10]
  simp only [bs, ltb]
  rw [s5]
  simp only [bs]
  rw [mf]
  simp only [bs]
  rw [s6]
  simp only [bs]
  rw [s9]
  simp only [bs]
  rw [f2]
  simp only [bs]
  rw [if_pos (show 7 ≤ nI w from (q_le (a := 7) (by omega) (by omega)).mpr (by omega)), if_neg (show ¬ nI w = 7 from fun z => by have := (q_eq (b := 7) (by omega) (by omega)).mp z; omega), if_pos (show 11 ≤ nI w from (q_le (a := 11) (by omega) (by omega)).mpr (by omega)), if_pos (show 15 ≤ nI w from (q_le (a := 15) (by omega) (by omega)).mpr (by omega)), if_pos (show 17 ≤ nI w from (q_le (a := 17) (by omega) (by omega)).mpr (by omega)), if_pos (show nI w = 17 from (q_eq (b := 17) (by omega) (by omega)).mpr (by omega)), mq]
  simp only [bs]
  rw [show (1 : Int32) + nI q = nI (1 + q) from nI_add 1 q, ei]
  simp only [bs]
  rw [e1]
  simp only [bs]
  rw [eo]
  simp only [bs]
  rw [x1]
  by_cases hc1 : ivs (rmk A.mk A.row) < 1 + q
  · rw [if_pos ((q_lt (by omega) (by omega)).mpr hc1), Nat.min_eq_right (by omega), if_pos rfl, t1]
    simp only [bs]
    rw [if_neg (ck_neg (1 + q) (by omega) _ hc1), show ivs (rmk A.mk A.row) - (1 + q) = 0 by omega, if_pos (show nI 0 = 0 from rfl), t2]
    simp only [bs]
    rw [if_pos True.intro]
  · rw [if_neg (fun z => hc1 ((q_lt (by omega) (by omega)).mp z)), Nat.min_eq_left (by omega), if_pos rfl, t1]
    simp only [bs]
    rw [pk_sub (show 1 + q ≤ ivs (rmk A.mk A.row) by omega)]
    have hz : (if 0 < nI (ivs (rmk A.mk A.row) - (1 + q)) then nI (ivs (rmk A.mk A.row) - (1 + q)) else 0) = nI (ivs (rmk A.mk A.row) - (1 + q)) := by
      by_cases hz : ivs (rmk A.mk A.row) - (1 + q) = 0
      · rw [hz]; rfl
      · exact if_pos ((q_lt (a := 0) (by omega) (by omega)).mpr (by omega))
    rw [hz, if_pos rfl, t2]
    simp only [bs]
    rw [if_pos True.intro]
theorem act_embargo (hO : OKs A d) (hd : d + 4 ≤ 900) (u : Int32) (hw : mostN u 20 = 18) : ActOK A d u := by
  obtain ⟨hI, hA⟩ := id hO
  have hF := hI.F1; have hR := hI.R1; have hc := hI.sc; have hr := hI.rl; have hdy := hI.dy
  have hw20 : mostN u 20 < 20 := most_lt u (by omega)
  have hfF := aF_lt hI u
  have e20 : Lw_most u 20 = some (nI (mostN u 20)) := most_eq u (m := 20) (by omega) (by omega)
  have mf : Lw_most ((u >>> (4 &&& 31)) >>> (2 &&& 31)) (nI A.F) = some (nI (aF A u)) := most_eq _ hF.1 (by omega)
  have mq : Lw_most (u >>> (4 &&& 31)) 2 = some (nI (mostN (u >>> (4 &&& 31)) 2)) := most_eq _ (m := 2) (by omega) (by omega)
  have hq : mostN (u >>> (4 &&& 31)) 2 < 2 := most_lt _ (by omega)
  have my : Lw_most ((u >>> (4 &&& 31)) >>> (1 &&& 31)) 6 = some (nI (mostN ((u >>> (4 &&& 31)) >>> (1 &&& 31)) 6)) := most_eq _ (m := 6) (by omega) (by omega)
  have hy : mostN ((u >>> (4 &&& 31)) >>> (1 &&& 31)) 6 < 6 := most_lt _ (by omega)
  generalize mostN (u >>> (4 &&& 31)) 2 = q at hq mq
  generalize mostN ((u >>> (4 &&& 31)) >>> (1 &&& 31)) 6 = y at hy my
  have key : ∀ v, v ≤ 999 → (∀ (W : WM) (K : Int32 → Option (Int32 × WM)), Rel (W.1 9) A → (if nI q = 0 then K 0 else Option.bind (SA_size W 0) fun q_579 => K (if q_579 + nI y < 999 then q_579 + nI y else 999)) = K (nI v)) → ActOK A d u := by
    intro v hv hK
    have hO2 := i_cu hO (f := aF A u) hv
    have hem := hI.em _ hfF
    refine ⟨cuA A (aF A u) v, true, hO2.wide (by omega), fun z => (by cases z), fun W p c h => ?_⟩
    obtain ⟨W', eo, ho⟩ := o_embargo h hI hfF hv
    have ho := ho.yes (q_neg (by omega))
    refine ⟨W', ?_, ho⟩
    have f1 : SA_folder W (nI (aF A u)) 1 = some (nI (A.em (aF A u))) := q_fol h.1 hI (by omega) hfF (k := 1) (by omega)
    have t1 : SA_folder W' (nI (aF A u)) 1 = some (nI v) := by
      have := q_fol ho.rel hO2.1 (by omega) hfF (k := 1) (by omega)
      rw [show folA (cuA A (aF A u) v) (aF A u) 1 = nI (uq A.em (aF A u) v (aF A u)) from rfl, uq_s] at this
      exact this
    have s5 : SA_size W 5 = some (nI A.F) := q_size h.1 hI (by omega) (k := 5) (by omega)
    have s6 : SA_size W 6 = some (nI A.row.length) := q_size h.1 hI (by omega) (k := 6) (by omega)
    have s9 : SA_size W 9 = some (nI A.sl.length) := q_size h.1 hI (by omega) (k := 9) (by omega)
    have f2 : SA_folder W (nI (aF A u)) 2 = some (nI (A.st (aF A u))) := q_fol h.1 hI (by omega) hfF (k := 2) (by omega)
    have ew : ∃ w, w = mostN u 20 := ⟨_, rfl⟩
    obtain ⟨w, ew⟩ := ew
    rw [← ew] at e20 hw hw20
    unfold Lw_act
    rw [e20]
    simp only [lt_01, lt_10]
    simp only [bs, ltb]
    rw [s5]
    simp only [bs]
    rw [mf]
    simp only [bs]
    rw [s6]
    simp only [bs]
    rw [s9]
    simp only [bs]
    rw [f2]
    simp only [bs]
    rw [if_pos (show 7 ≤ nI w from (q_le (a := 7) (by omega) (by omega)).mpr (by omega)), if_neg (show ¬ nI w = 7 from fun z => by have := (q_eq (b := 7) (by omega) (by omega)).mp z; omega), if_pos (show 11 ≤ nI w from (q_le (a := 11) (by omega) (by omega)).mpr (by omega)), if_pos (show 15 ≤ nI w from (q_le (a := 15) (by omega) (by omega)).mpr (by omega)), if_pos (show 17 ≤ nI w from (q_le (a := 17) (by omega) (by omega)).mpr (by omega)), if_neg (show ¬ nI w = 17 from fun z => by have := (q_eq (b := 17) (by omega) (by omega)).mp z; omega), if_pos (show nI w = 18 from (q_eq (b := 18) (by omega) (by omega)).mpr (by omega)), f1]
    simp only [bs]
    rw [mq]
    simp only [bs]
    rw [my]
    simp only [bs]
    refine (hK W (fun t_571 => Option.bind (SA_setEmbargo W (nI (aF A u)) t_571) fun q_574 => if q_574.1 = nI (A.em (aF A u)) then (Option.bind (SA_folder q_574.2 (nI (aF A u)) 1) fun q_576 => if q_576 = t_571 then (some ((1, q_574.2))) else (some ((0, q_574.2)))) else (some ((0, q_574.2)))) h.1).trans ?_
    rw [eo]
    simp only [bs]
    rw [if_pos True.intro, t1]
    simp only [bs]
    rw [if_pos True.intro]
  by_cases h0 : q = 0
  · exact key 0 (by omega) fun W K h => by rw [h0]; exact if_pos rfl
  · refine key (A.dy + y) (by omega) fun W K h => ?_
    have s0 : SA_size W 0 = some (nI A.dy) := q_size h hI (by omega) (k := 0) (by omega)
    rw [if_neg (fun z => h0 ((z0 (by omega)).mp z)), s0]
    simp only [bs]
    rw [nI_add, if_pos (show nI (A.dy + y) < 999 from (q_lt (b := 999) (by omega) (by omega)).mpr (by omega))]
theorem w_724 (hI : Inv A d) (hd : d ≤ 1000) (W : WM) (h : Rel (W.1 9) A) (k : WM → Int32 → Int32 → Int32 → Int32 → Option (Int32 × WM)) {g : Nat} (hg : g < A.F) : ∀ (i j fuel : Nat), j + i = A.row.length → i < fuel → Lw_act_L724 k fuel W (nI g) (nI A.row.length) (nI (sm j (fun z => if (rmk A.mk A.row).getD z 0 < A.mk g then 1 else 0))) (nI j) = k W (nI g) (nI A.row.length) (nI (rnk (rmk A.mk A.row) (A.mk g))) (nI A.row.length) := by
  have hr := hI.rl
  have hl : (rmk A.mk A.row).length = A.row.length := List.length_map _
  intro i
  induction i with
  | zero =>
    intro j fuel hj hf
    obtain ⟨fuel, rfl⟩ : ∃ k, fuel = k + 1 := ⟨fuel - 1, by omega⟩
    obtain rfl : j = A.row.length := by omega
    rw [Lw_act_L724, if_pos (Int32.le_refl _)]
    unfold rnk
    rw [hl]
  | succ i ih =>
    intro j fuel hj hf
    obtain ⟨fuel, rfl⟩ : ∃ k, fuel = k + 1 := ⟨fuel - 1, by omega⟩
    have ha : SA_at W (nI j) = nI (A.row.getD j 0) := q_at h hI (by omega)
    have hf1 := (hI.rw _).mp (gdn_mem (l := A.row) (i := j) (by omega))
    have f0 : SA_folder W (nI (A.row.getD j 0)) 0 = some (nI (A.mk (A.row.getD j 0))) := q_fol h hI hd hf1.1 (k := 0) (by omega)
    have g0 : SA_folder W (nI g) 0 = some (nI (A.mk g)) := q_fol h hI hd hg (k := 0) (by omega)
    have hm1 := hI.mk _ hf1.1; have hm2 := hI.mk _ hg
    rw [Lw_act_L724]
    simp only [lt_10]
    rw [if_neg (nI_ge (by omega) (by omega)), ha, f0]
    simp only [bs]
    rw [g0]
    simp only [bs, ltb]
    have he : (if nI (A.mk g) ≤ nI (A.mk (A.row.getD j 0)) then (0 : Int32) else 1) = nI (if (rmk A.mk A.row).getD j 0 < A.mk g then 1 else 0) := by
      rw [rmk_d A.mk (by omega)]
      exact b10 (by rw [q_le (by omega) (by omega)]; omega)
    rw [he, nI_add, nI_1 j]
    exact ih (j + 1) fuel (by omega) (by omega)
theorem act_straight (hO : OKs A d) (hd : d + 4 ≤ 900) (u : Int32) (hw : mostN u 20 = 19) : ActOK A d u := by
  obtain ⟨hI, hA⟩ := id hO
  have hF := hI.F1; have hR := hI.R1; have hc := hI.sc; have hr := hI.rl; have hdy := hI.dy
  have hw20 : mostN u 20 < 20 := most_lt u (by omega)
  have hfF := aF_lt hI u
  have e20 : Lw_most u 20 = some (nI (mostN u 20)) := most_eq u (m := 20) (by omega) (by omega)
  have mf : Lw_most ((u >>> (4 &&& 31)) >>> (2 &&& 31)) (nI A.F) = some (nI (aF A u)) := most_eq _ hF.1 (by omega)
  obtain ⟨g, hg, hsel⟩ : ∃ g, g < A.F ∧ ∀ (K : Int32 → Option (Int32 × WM)), (if optI (far (rmk A.mk A.row) A.row) < 0 then K (nI (aF A u)) else K (optI (far (rmk A.mk A.row) A.row))) = K (nI g) := by
    cases hfar : far (rmk A.mk A.row) A.row with
    | none => exact ⟨aF A u, hfF, fun K => if_pos (by decide)⟩
    | some x =>
      have hx := (hI.rw x).mp (far_mem hfar)
      exact ⟨x, hx.1, fun K => if_neg (q_neg (by omega))⟩
  have hs2 := hI.s2 g hg
  have hsum : ∀ (W : WM) (h : Rel (W.1 9) A) k, Lw_act_L724 k FU W (nI g) (nI A.row.length) 0 0 = k W (nI g) (nI A.row.length) (nI (rnk (rmk A.mk A.row) (A.mk g))) (nI A.row.length) := fun W h k => w_724 hI (by omega) W h k hg A.row.length 0 FU (Nat.zero_add _) (by unfold FU; omega)
  by_cases h0 : A.st g = 0
  · have hmr := (hI.rw g).mpr ⟨hg, h0⟩
    have hrk := rnk_lt A.mk hmr
    have hO2 := i_ro hO (mv_perm (p := rnk (rmk A.mk A.row) (A.mk g)) hmr) (ac := A.ac) rfl rfl rfl
    refine ⟨roA A (mvR A.row g (rnk (rmk A.mk A.row) (A.mk g))) A.ac, true, hO2.wide (by omega), fun z => (by cases z), fun W p c h => ?_⟩
    obtain ⟨W', eo, ho⟩ := o_straighten h hI hg
    rw [if_pos h0] at eo ho
    rw [if_pos h0] at ho
    have ho := ho.yes (q_neg (by omega))
    refine ⟨W', ?_, ho⟩
    have g2 : SA_folder W (nI g) 2 = some (nI (A.st g)) := q_fol h.1 hI (by omega) hg (k := 2) (by omega)
    have t3 : SA_folder W' (nI g) 3 = some (nI (rnk (rmk A.mk A.row) (A.mk g))) := by
      have := q_fol ho.rel hO2.1 (by omega) hg (k := 3) (by omega)
      rw [show folA (roA A (mvR A.row g (rnk (rmk A.mk A.row) (A.mk g))) A.ac) g 3 = whA (roA A (mvR A.row g (rnk (rmk A.mk A.row) (A.mk g))) A.ac) g from rfl] at this
      unfold whA at this
      rw [if_pos (show (roA A (mvR A.row g (rnk (rmk A.mk A.row) (A.mk g))) A.ac).st g = 0 from h0)] at this
      exact Eq.trans this (congrArg some (congrArg nI (mv_idx hI.rn hmr hrk)))
    have efar := q_far h.1 hI
    generalize rnk (rmk A.mk A.row) (A.mk g) = rk at *
    have s5 : SA_size W 5 = some (nI A.F) := q_size h.1 hI (by omega) (k := 5) (by omega)
    have s6 : SA_size W 6 = some (nI A.row.length) := q_size h.1 hI (by omega) (k := 6) (by omega)
    have s9 : SA_size W 9 = some (nI A.sl.length) := q_size h.1 hI (by omega) (k := 9) (by omega)
    have f2 : SA_folder W (nI (aF A u)) 2 = some (nI (A.st (aF A u))) := q_fol h.1 hI (by omega) hfF (k := 2) (by omega)
    have ew : ∃ w, w = mostN u 20 := ⟨_, rfl⟩
    obtain ⟨w, ew⟩ := ew
    rw [← ew] at e20 hw hw20
    unfold Lw_act
    rw [e20]
    simp only [lt_01, lt_10]
    simp only [bs, ltb]
    rw [s5]
    simp only [bs]
    rw [mf]
    simp only [bs]
    rw [s6]
    simp only [bs]
    rw [s9]
    simp only [bs]
    rw [f2]
    simp only [bs]
    rw [if_pos (show 7 ≤ nI w from (q_le (a := 7) (by omega) (by omega)).mpr (by omega)), if_neg (show ¬ nI w = 7 from fun z => by have := (q_eq (b := 7) (by omega) (by omega)).mp z; omega), if_pos (show 11 ≤ nI w from (q_le (a := 11) (by omega) (by omega)).mpr (by omega)), if_pos (show 15 ≤ nI w from (q_le (a := 15) (by omega) (by omega)).mpr (by omega)), if_pos (show 17 ≤ nI w from (q_le (a := 17) (by omega) (by omega)).mpr (by omega)), if_neg (show ¬ nI w = 17 from fun z => by have := (q_eq (b := 17) (by omega) (by omega)).mp z; omega), if_neg (show ¬ nI w = 18 from fun z => by have := (q_eq (b := 18) (by omega) (by omega)).mp z; omega), efar]
    simp only [bs]
    refine (hsel (fun j5 => Lw_act_L724 _ FU W j5 (nI A.row.length) 0 0)).trans ?_
    rw [hsum W h.1, g2]
    simp only [bs]
    rw [eo, h0]
    simp only [bs]
    rw [t3]
    simp only [bs, if_pos c00, if_neg (show ¬ (1 : Int32) = 0 by decide), if_true]
  · refine ⟨A, false, hO.wide (by omega), fun _ => rfl, fun W p c h => ?_⟩
    obtain ⟨W', eo, ho⟩ := o_straighten h hI hg
    rw [if_neg h0] at eo ho
    rw [if_neg h0] at ho
    refine ⟨W', ?_, ho.no (by decide)⟩
    have g2 : SA_folder W (nI g) 2 = some (nI (A.st g)) := q_fol h.1 hI (by omega) hg (k := 2) (by omega)
    have efar := q_far h.1 hI
    have s5 : SA_size W 5 = some (nI A.F) := q_size h.1 hI (by omega) (k := 5) (by omega)
    have s6 : SA_size W 6 = some (nI A.row.length) := q_size h.1 hI (by omega) (k := 6) (by omega)
    have s9 : SA_size W 9 = some (nI A.sl.length) := q_size h.1 hI (by omega) (k := 9) (by omega)
    have f2 : SA_folder W (nI (aF A u)) 2 = some (nI (A.st (aF A u))) := q_fol h.1 hI (by omega) hfF (k := 2) (by omega)
    have ew : ∃ w, w = mostN u 20 := ⟨_, rfl⟩
    obtain ⟨w, ew⟩ := ew
    rw [← ew] at e20 hw hw20
    unfold Lw_act
    rw [e20]
    simp only [lt_01, lt_10]
    simp only [bs, ltb]
    rw [s5]
    simp only [bs]
    rw [mf]
    simp only [bs]
    rw [s6]
    simp only [bs]
    rw [s9]
    simp only [bs]
    rw [f2]
    simp only [bs]
    rw [if_pos (show 7 ≤ nI w from (q_le (a := 7) (by omega) (by omega)).mpr (by omega)), if_neg (show ¬ nI w = 7 from fun z => by have := (q_eq (b := 7) (by omega) (by omega)).mp z; omega), if_pos (show 11 ≤ nI w from (q_le (a := 11) (by omega) (by omega)).mpr (by omega)), if_pos (show 15 ≤ nI w from (q_le (a := 15) (by omega) (by omega)).mpr (by omega)), if_pos (show 17 ≤ nI w from (q_le (a := 17) (by omega) (by omega)).mpr (by omega)), if_neg (show ¬ nI w = 17 from fun z => by have := (q_eq (b := 17) (by omega) (by omega)).mp z; omega), if_neg (show ¬ nI w = 18 from fun z => by have := (q_eq (b := 18) (by omega) (by omega)).mp z; omega), efar]
    simp only [bs]
    refine (hsel (fun j5 => Lw_act_L724 _ FU W j5 (nI A.row.length) 0 0)).trans ?_
    rw [hsum W h.1, g2]
    simp only [bs]
    rw [eo]
    simp only [bs, if_neg (show ¬ nI (A.st g) = 0 from fun z => h0 ((z0 (by omega)).mp z)), if_true]
theorem act_ok (hO : OKs A d) (hd : d + 4 ≤ 900) (u : Int32) : ActOK A d u := by
  have hw20 : mostN u 20 < 20 := most_lt u (by omega)
  by_cases h1 : mostN u 20 < 7
  · exact act_slip hO hd u h1
  by_cases h2 : mostN u 20 = 7
  · exact act_drop hO hd u h2
  by_cases h3 : mostN u 20 < 11
  · exact act_give hO hd u ⟨by omega, h3⟩
  by_cases h4 : mostN u 20 < 15
  · exact act_days hO hd u ⟨by omega, h4⟩
  by_cases h5 : mostN u 20 < 17
  · exact act_misfile hO hd u ⟨by omega, h5⟩
  by_cases h6 : mostN u 20 = 17
  · exact act_check hO hd u h6
  by_cases h7 : mostN u 20 = 18
  · exact act_embargo hO hd u h7
  · exact act_straight hO hd u (by omega)
end Act3
