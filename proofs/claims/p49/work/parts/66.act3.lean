section Act2
variable {A : AS} {d : Nat}
/-- the next folder that is out, if there is one -/
theorem w_224 (hI : Inv A d) (hd : d ≤ 1000) : ∀ (i j f : Nat), j + i = A.F → f < A.F → ∃ g, g < A.F ∧ ∀ (W : WM), Rel (W.1 9) A → ∀ k fuel v2 v3 v6 v7 v8 r, i < fuel → (∀ v9, k W v2 v3 (nI A.F) (nI g) v6 v7 v8 v9 = r) → Lw_act_L224 k fuel W v2 v3 (nI A.F) (nI f) v6 v7 v8 (nI j) = r := by
  have hF := hI.F1
  intro i
  induction i with
  | zero =>
    intro j f hj hf
    refine ⟨f, hf, fun W h k fuel v2 v3 v6 v7 v8 r hfu hk => ?_⟩
    obtain ⟨fuel, rfl⟩ : ∃ k, fuel = k + 1 := ⟨fuel - 1, by omega⟩
    rw [Lw_act_L224, if_pos (show nI A.F ≤ nI j by rw [show j = A.F by omega]; exact Int32.le_refl _)]
    exact hk _
  | succ i ih =>
    intro j f hj hf
    by_cases h1 : A.st f = 1
    · refine ⟨f, hf, fun W h k fuel v2 v3 v6 v7 v8 r hfu hk => ?_⟩
      obtain ⟨fuel, rfl⟩ : ∃ k, fuel = k + 1 := ⟨fuel - 1, by omega⟩
      have f2 : SA_folder W (nI f) 2 = some (nI (A.st f)) := q_fol h hI hd hf (k := 2) (by omega)
      rw [Lw_act_L224, if_neg (nI_ge (by omega) (by omega)), f2]
      simp only [bs]
      rw [if_pos ((z1 (by omega)).mpr h1)]
      exact hk _
    · obtain ⟨g, hg, he⟩ := ih (j + 1) ((f + 1) % A.F) (by omega) (Nat.mod_lt _ hF.1)
      refine ⟨g, hg, fun W h k fuel v2 v3 v6 v7 v8 r hfu hk => ?_⟩
      obtain ⟨fuel, rfl⟩ : ∃ k, fuel = k + 1 := ⟨fuel - 1, by omega⟩
      have f2 : SA_folder W (nI f) 2 = some (nI (A.st f)) := q_fol h hI hd hf (k := 2) (by omega)
      have h2 := hI.s2 f hf
      have em : nI f + 1 - (nI f + 1) / nI A.F * nI A.F = nI ((f + 1) % A.F) := by
        have hdm := Nat.div_add_mod (f + 1) A.F
        rw [Nat.mul_comm] at hdm
        rw [nI_1, pk_div (by omega) (by omega) (by omega), show nI ((f + 1) / A.F) * nI A.F = nI ((f + 1) / A.F * A.F) from (Int32.ofNat_mul _ _).symm, pk_sub (Nat.div_mul_le_self _ _)]
        congr 1
        omega
      rw [Lw_act_L224, if_neg (nI_ge (by omega) (by omega)), f2]
      simp only [bs]
      rw [if_neg (fun z => h1 ((z1 (by omega)).mp z)), if_pos (show ¬ nI A.F = 0 from nI_ne0 hF.1 (by omega))]
      simp only [ltb]
      rw [em, nI_1 j]
      exact he W h k fuel v2 v3 v6 v7 v8 r (by omega) hk
theorem act_give (hO : OKs A d) (hd : d + 4 ≤ 900) (u : Int32) (hw : 7 < mostN u 20 ∧ mostN u 20 < 11) : ActOK A d u := by
  obtain ⟨hI, hA⟩ := id hO
  have hF := hI.F1; have hR := hI.R1; have hc := hI.sc; have hr := hI.rl; have hdy := hI.dy
  have hw20 : mostN u 20 < 20 := most_lt u (by omega)
  have hfF := aF_lt hI u
  have e20 : Lw_most u 20 = some (nI (mostN u 20)) := most_eq u (m := 20) (by omega) (by omega)
  have mf : Lw_most ((u >>> (4 &&& 31)) >>> (2 &&& 31)) (nI A.F) = some (nI (aF A u)) := most_eq _ hF.1 (by omega)
  obtain ⟨g, hg, he⟩ := w_224 hI (by omega) A.F 0 (aF A u) (Nat.zero_add _) hfF
  have hs2 := hI.s2 g hg; have hout := hI.out g hg; have htl := hI.tl
  by_cases h0 : 0 < A.ho g
  · have hO2 := i_bb hO hg h0
    have hst := hout.mpr h0
    obtain ⟨r, hrr⟩ : ∃ r, A.ho g = r + 1 := ⟨A.ho g - 1, by omega⟩
    have hho := hI.hd g hg
    refine ⟨bbA A g, true, hO2.wide (by omega), fun z => (by cases z), fun W p c h => ?_⟩
    obtain ⟨W', eo, ho⟩ := o_give h hI hg
    rw [if_pos h0] at eo ho
    rw [if_pos h0] at ho
    have ho := ho.yes (by rw [hrr, hoI_s]; exact q_neg (by omega))
    refine ⟨W', ?_, ho⟩
    have f2' : SA_folder W (nI g) 2 = some (nI (A.st g)) := q_fol h.1 hI (by omega) hg (k := 2) (by omega)
    have f3' : SA_folder W (nI g) 3 = some (hoI (A.ho g)) := by
      have := q_fol h.1 hI (by omega) hg (k := 3) (by omega)
      rw [show folA A g 3 = whA A g from rfl] at this
      unfold whA at this
      rw [if_neg (by omega), if_neg (by omega)] at this
      exact this
    have s8 : SA_size W 8 = some (nI A.tr.length) := q_size h.1 hI (by omega) (k := 8) (by omega)
    have t2 : SA_folder W' (nI g) 2 = some (nI 2) := by
      have := q_fol ho.rel hO2.1 (by omega) hg (k := 2) (by omega)
      rw [show folA (bbA A g) g 2 = nI (uq A.st g 2 g) from rfl, uq_s] at this
      exact this
    have t3 : SA_folder W' (nI g) 3 = some (nI A.tr.length) := by
      have := q_fol ho.rel hO2.1 (by omega) hg (k := 3) (by omega)
      rw [show folA (bbA A g) g 3 = whA (bbA A g) g from rfl] at this
      unfold whA at this
      have e1 : (bbA A g).st g = 2 := uq_s _ _ _
      rw [if_neg (by omega), if_pos e1] at this
      refine Eq.trans this (congrArg some (congrArg nI ?_))
      show (A.tr ++ [g]).idxOf g = A.tr.length
      rw [List.idxOf_append, if_neg (fun z => by have := ((hI.tr g).mp z).2; omega), List.idxOf_cons_self, Nat.zero_add]
    have s5 : SA_size W 5 = some (nI A.F) := q_size h.1 hI (by omega) (k := 5) (by omega)
    have s6 : SA_size W 6 = some (nI A.row.length) := q_size h.1 hI (by omega) (k := 6) (by omega)
    have s9 : SA_size W 9 = some (nI A.sl.length) := q_size h.1 hI (by omega) (k := 9) (by omega)
    have f2 : SA_folder W (nI (aF A u)) 2 = some (nI (A.st (aF A u))) := q_fol h.1 hI (by omega) hfF (k := 2) (by omega)
    have ew : ∃ w, w = mostN u 20 := ⟨_, rfl⟩
    obtain ⟨w, ew⟩ := ew
    rw [← ew] at e20 hw hw20
    unfold Lw_act
    rw [e20]
    simp only [lt_01, lt_10]
    simp only [bs, ltb]
    rw [s5]
    simp only [bs]
    rw [mf]
    simp only [bs]
    rw [s6]
    simp only [bs]
    rw [s9]
    simp only [bs]
    rw [f2]
    simp only [bs]
    rw [if_pos (show 7 ≤ nI w from (q_le (a := 7) (by omega) (by omega)).mpr (by omega)), if_neg (show ¬ nI w = 7 from fun z => by have := (q_eq (b := 7) (by omega) (by omega)).mp z; omega), if_neg (show ¬ 11 ≤ nI w from fun z => by have := (q_le (a := 11) (by omega) (by omega)).mp z; omega)]
    refine he W h.1 _ FU _ _ _ _ _ _ (by unfold FU; omega) (fun v9 => ?_)
    rw [f2']
    simp only [bs]
    rw [f3']
    simp only [bs]
    rw [s8]
    simp only [bs]
    rw [eo]
    simp only [bs]
    rw [t2]
    simp only [bs]
    rw [t3]
    simp only [bs]
    rw [hst]
    simp only [if_pos c11, if_pos c22, if_neg (show ¬ (1 : Int32) = 0 by decide), if_true]
  · refine ⟨A, false, hO.wide (by omega), fun _ => rfl, fun W p c h => ?_⟩
    have hst : ¬ A.st g = 1 := fun z => h0 (hout.mp z)
    obtain ⟨W', eo, ho⟩ := o_give h hI hg
    rw [if_neg h0] at eo ho
    rw [if_neg h0] at ho
    refine ⟨W', ?_, ho.no (by decide)⟩
    have f2' : SA_folder W (nI g) 2 = some (nI (A.st g)) := q_fol h.1 hI (by omega) hg (k := 2) (by omega)
    have f3' : SA_folder W (nI g) 3 = some (whA A g) := q_fol h.1 hI (by omega) hg (k := 3) (by omega)
    have s8 : SA_size W 8 = some (nI A.tr.length) := q_size h.1 hI (by omega) (k := 8) (by omega)
    have s5 : SA_size W 5 = some (nI A.F) := q_size h.1 hI (by omega) (k := 5) (by omega)
    have s6 : SA_size W 6 = some (nI A.row.length) := q_size h.1 hI (by omega) (k := 6) (by omega)
    have s9 : SA_size W 9 = some (nI A.sl.length) := q_size h.1 hI (by omega) (k := 9) (by omega)
    have f2 : SA_folder W (nI (aF A u)) 2 = some (nI (A.st (aF A u))) := q_fol h.1 hI (by omega) hfF (k := 2) (by omega)
    have ew : ∃ w, w = mostN u 20 := ⟨_, rfl⟩
    obtain ⟨w, ew⟩ := ew
    rw [← ew] at e20 hw hw20
    unfold Lw_act
    rw [e20]
    simp only [lt_01, lt_10]
    simp only [bs, ltb]
    rw [s5]
    simp only [bs]
    rw [mf]
    simp only [bs]
    rw [s6]
    simp only [bs]
    rw [s9]
    simp only [bs]
    rw [f2]
    simp only [bs]
    rw [if_pos (show 7 ≤ nI w from (q_le (a := 7) (by omega) (by omega)).mpr (by omega)), if_neg (show ¬ nI w = 7 from fun z => by have := (q_eq (b := 7) (by omega) (by omega)).mp z; omega), if_neg (show ¬ 11 ≤ nI w from fun z => by have := (q_le (a := 11) (by omega) (by omega)).mp z; omega)]
    refine he W h.1 _ FU _ _ _ _ _ _ (by unfold FU; omega) (fun v9 => ?_)
    rw [f2']
    simp only [bs]
    rw [f3']
    simp only [bs]
    rw [s8]
    simp only [bs]
    rw [eo]
    simp only [bs]
    simp only [if_neg (show ¬ nI (A.st g) = 1 from fun z => hst ((z1 (by omega)).mp z)), if_true]
end Act2
