/-- what the history's end is: it hangs on the counters alone -/
theorem keep_eq {V : WM} {k : Nat} {w : Int32} (h : Hi_keep V = some (setWI V k w)) : ∀ V' : WM, V'.2.2.1 = V.2.2.1 → Hi_keep V' = some (setWI V' k w) := fun V' e => by
  unfold Hi_keep at h ⊢
  rw [e]
  by_cases c8 : 8 ≤ V.2.2.1 8
  · rw [if_pos c8] at h ⊢
    have g := congrArg (fun z : WM => z.2.2.1) (Option.some.inj h)
    refine congrArg some (Prod.ext rfl (Prod.ext rfl (Prod.ext ?_ rfl)))
    have g' : va_up V.2.2.1 7 ((V.2.2.1 7 + 1) - (V.2.2.1 7 + 1) / 9 * 9) = va_up V.2.2.1 k w := g
    show va_up V'.2.2.1 7 _ = va_up V'.2.2.1 k w
    rw [e]
    exact g'
  · rw [if_neg c8] at h ⊢
    have g := congrArg (fun z : WM => z.2.2.1) (Option.some.inj h)
    refine congrArg some (Prod.ext rfl (Prod.ext rfl (Prod.ext ?_ rfl)))
    have g' : va_up V.2.2.1 8 (V.2.2.1 8 + 1) = va_up V.2.2.1 k w := g
    show va_up V'.2.2.1 8 _ = va_up V'.2.2.1 k w
    rw [e]
    exact g'
theorem rec_keep {M M3 : MdM} {c : Nat} (hc : c ≤ 8) (h8 : M.1 8 = nI c) (h : Md_record 0 M = some M3) : (∀ j, j ≠ 8 → M3.1 j = M.1 j) ∧ ∀ j, j ≠ 5 → M3.2 j = M.2 j := by
  have hh : M.1 8 = nI 8 ∨ ∃ c, c < 8 ∧ M.1 8 = nI c := by
    by_cases q : c = 8
    · exact Or.inl (by rw [h8, q])
    · exact Or.inr ⟨c, by omega, h8⟩
  rcases m_record hh with ⟨-, M', e1, e2, e3, -⟩ | ⟨c', -, -, M', e1, e2, e3, -⟩
  · obtain rfl : M3 = M' := Option.some.inj (h.symm.trans e1)
    exact ⟨fun j hj => by rw [e2, setF_n _ _ hj, setF_n _ _ hj], e3⟩
  · obtain rfl : M3 = M' := Option.some.inj (h.symm.trans e1)
    exact ⟨fun j hj => by rw [e2, setF_n _ _ hj], e3⟩
/-- play -/
theorem f_play {W : WM} {M : MdM} (h : WRel W M) (q : Int32) : E3 W ci1 (SA_play W q) (Md_play M q) := by
  obtain ⟨l1, l2, l3⟩ := h.2.2.2.2.1
  unfold SA_play Md_play
  rw [l2]
  have thr : ∀ x : Option (Nat ⊕ (Int32 × WM)), x = some (.inl 0) → E3 W ci1 x (lt' (Md_raise 0 (setF M 9 0) 1) fun q_1192 => some ((q_1192.1, q_1192.2))) := fun x hx => by
    rw [hx, lu]
    exact Or.inl ⟨0, _, _, rfl, rfl, setF_s _ _ _, (h.thr 0).thr 1⟩
  by_cases h0 : q < 0
  · rw [if_pos h0, inr_lo h0, if_pos rfl]
    exact thr _ rfl
  · obtain ⟨n, hn, rfl⟩ := nI_of h0
    rw [if_neg h0]
    by_cases h1 : n ≤ (W.2.1 0).length
    · rw [if_pos (nI_le h1 (by omega)), inr_in h0 (nI_nlt h1 (by omega)), if_neg (show ¬ (1 : Int32) = 0 by decide)]
      unfold Md_startText Ps_readScript
      have hps : PS (W.2.1 0) n (Sc_clear (Ps_begin W (nI n))) (setF (setF (setF (setF (setF (setF M 9 0) 29 0) 19 (nI n)) 20 0) 23 0) 26 0) 0 := by
        refine ⟨(wL_n _ _ (by decide)).trans (wL_n _ _ (by decide)), l1, h1, ?_, ?_, Nat.zero_le _, ?_, ?_, ?_, l3⟩
        · exact (wi_n _ _ (by decide)).trans (wi_s _ _ _)
        · exact wi_s _ _ _
        · exact (setF_n _ _ (by decide)).trans ((setF_n _ _ (by decide)).trans ((setF_n _ _ (by decide)).trans (setF_s _ _ _)))
        · exact (setF_n _ _ (by decide)).trans ((setF_n _ _ (by decide)).trans (setF_s _ _ _))
        · exact (setF_n _ _ (by decide)).trans (setF_s _ _ _)
      have c29 : (setF (setF (setF (setF (setF (setF M 9 0) 29 0) 19 (nI n)) 20 0) 23 0) 26 0).1 29 = 0 := (setF_n _ _ (by decide)).trans ((setF_n _ _ (by decide)).trans ((setF_n _ _ (by decide)).trans ((setF_n _ _ (by decide)).trans (setF_s _ _ _))))
      obtain ⟨r, W2, M2, e1, e2, e3, e4, e5⟩ := t_script (nI n) (nI n) hps ((wL_n _ _ (by decide)).trans (wL_s _ _ _)) (wL_s _ _ _) c29
      have e2' : (Option.bind (Option.bind (Md_scan 0 (setF (setF (setF (setF (setF (setF M 9 0) 29 0) 19 (nI n)) 20 0) 23 0) 26 0)) fun M_1015 => some (M_1015)) fun M_1201 => Md_play_L33 FU M_1201 (nI n)) = PE (nI n) M2 := by
        rw [← e2]
        cases Md_scan 0 (setF (setF (setF (setF (setF (setF M 9 0) 29 0) 19 (nI n)) 20 0) 23 0) 26 0) <;> rfl
      rw [lu, lu, e1, bs, e2', lu]
      try dsimp only
      -- what is kept
      have wl : ∀ (U : WM) (j : Nat), j ≠ 0 → (setWL U 0 []).2.1 j = U.2.1 j := fun U j hj => if_neg hj
      have m2 : ∀ j, j ≠ 11 → M2.2 j = M.2 j := fun j hj => e5.1 j hj
      have m1 : ∀ k, (k < 20 ∨ 24 < k) → k ≠ 29 → k ≠ 19 → k ≠ 26 → k ≠ 9 → M2.1 k = M.1 k := fun k g1 g0 g2 g3 g4 => by
        rw [e5.2 k g1 g0, setF_n _ _ g3, setF_n _ _ (by omega), setF_n _ _ (by omega), setF_n _ _ g2, setF_n _ _ g0, setF_n _ _ g4]
      have s2 : W2.1 = W.1 := e4.1
      have i2 : ∀ k, 6 < k → W2.2.2.1 k = W.2.2.1 k := fun k hk => by
        rw [e4.2.2 k (Or.inr hk)]
        exact (wi_n _ _ (by omega)).trans ((wi_n _ _ (by omega)).trans ((wi_n _ _ (by omega)).trans (wi_n _ _ (by omega))))
      have ls2 : ∀ j, j ≠ 3 → j ≠ 4 → W2.2.1 j = W.2.1 j := fun j a b => (e4.2.1 j a b).trans ((wL_n _ _ b).trans (wL_n _ _ a))
      have m9 : M2.1 9 = 0 := by
        rw [e5.2 9 (by omega) (by decide), setF_n _ _ (by decide), setF_n _ _ (by decide), setF_n _ _ (by decide), setF_n _ _ (by decide), setF_n _ _ (by decide)]
        exact setF_s _ _ _
      -- the relation behind the reading, whatever the place of the error
      have rel : ∀ v : Int32, WRel (setWI (setWL W2 0 []) 10 v) (setF (setF M2 18 0) 25 v) := fun v => by
        obtain ⟨b1, b2, ⟨a, c, c1, c2, c3, c4, c5, c6⟩, b4, b5, b6, b7⟩ := h
        refine ⟨?_, ?_, ⟨a, c, c1, c2, ?_, ?_, ?_, fun k hk => ?_⟩, ?_, ?_, ?_, ?_⟩
        · show Top (W2.1 9) (M2.2 0)
          rw [s2, m2 0 (by decide)]; exact b1
        · show (W2.2.1 2).length = 3 ∧ ∀ k, k < 3 → M2.2 6 k = (W2.2.1 2).getD k 0
          rw [ls2 2 (by decide) (by decide), m2 6 (by decide)]
          exact b2
        · exact (i2 7 (by omega)).trans c3
        · exact (i2 8 (by omega)).trans c4
        · exact (setF_n _ _ (by decide)).trans ((setF_n _ _ (by decide)).trans ((m1 8 (by omega) (by decide) (by decide) (by decide) (by decide)).trans c5))
        · show Top (W2.1 ((a + k) % 9)) (fun j => M2.2 5 (257 * k + j))
          rw [s2, m2 5 (by decide)]
          exact c6 k hk
        · show W2.2.2.1 9 = (setF (setF M2 18 0) 25 v).1 10 ∧ ((setF (setF M2 18 0) 25 v).1 10 = 0 ∨ ((setF (setF M2 18 0) 25 v).1 10 = 1 ∧ Top (W2.1 11) (M2.2 4)))
          rw [setF_n _ _ (by decide), setF_n _ _ (by decide), m1 10 (by omega) (by decide) (by decide) (by decide) (by decide), i2 9 (by omega), s2, m2 4 (by decide)]
          exact b4
        · exact ⟨Nat.zero_le _, (setF_n _ _ (by decide)).trans (setF_s _ _ _), fun i hi => absurd hi (Nat.not_lt_zero i)⟩
        · show (W2.2.1 1).length ≤ 128 ∧ (setF (setF M2 18 0) 25 v).1 16 = nI (W2.2.1 1).length ∧ ∀ i, i < (W2.2.1 1).length → M2.2 9 i = (W2.2.1 1).getD i 0
          rw [ls2 1 (by decide) (by decide), m2 9 (by decide), setF_n _ _ (by decide), setF_n _ _ (by decide), m1 16 (by omega) (by decide) (by decide) (by decide) (by decide)]
          exact b6
        · exact (wi_s _ _ _).trans (setF_s _ _ _).symm
      have f9 : ∀ v : Int32, (setF (setF M2 18 0) 25 v).1 9 = 0 := fun v => by
        rw [setF_n _ _ (by decide), setF_n _ _ (by decide)]
        exact m9
      unfold PE Md_finish Ps_errorPlace
      rcases e3 with ⟨rfl, g1, g2, c, hc, g3, g4⟩ | ⟨g0, g1, g2⟩
      · have w6 : (setWL W2 0 []).2.2.1 6 = -1 := g2.trans ((wi_n _ _ (by decide)).trans ((wi_n _ _ (by decide)).trans (wi_s _ _ _)))
        rw [w6, if_pos g1, g1, lu]
        try dsimp only
        rw [if_pos rfl, if_pos rfl]
        have hr := rel (-1)
        have h9 := f9 (-1)
        have hS0 : SR (setWI (setWL W2 0 []) 10 (-1)) (setF (setF M2 18 0) 25 (-1)) c := g3.md (wl W2 3 (by decide)) (wl W2 4 (by decide)) rfl rfl
        have c290 : (setF (setF M2 18 0) 25 (-1)).1 29 = nI c := (setF_n _ _ (by decide)).trans ((setF_n _ _ (by decide)).trans g4)
        generalize setWI (setWL W2 0 []) 10 (-1) = V at hr hS0
        generalize setF (setF M2 18 0) 25 (-1) = N at hr h9 hS0 c290
        obtain ⟨a, cc, hH⟩ := hr.2.2.1
        have hH' : HisA V N a cc := hH
        have hm := Nat.mod_lt (a + cc) (show 9 > 0 by decide)
        rw [prep_n hH'.1 hH'.2.1 hH'.2.2.1 hH'.2.2.2.1, bs, m_keep, bs]
        obtain ⟨hW1, hH1⟩ := hr.slot hH' (St_copyFrom (V.1 9) (V.1 ((a + cc) % 9)))
        have hk : Top ((setS V ((a + cc) % 9) (St_copyFrom (V.1 9) (V.1 ((a + cc) % 9)))).1 ((a + cc) % 9)) ((setA N 3 (va_cpy (N.2 0) (N.2 3) (257 * 0) (257 * 0) 257)).2 3) := by
          rw [setS_s, setA_s]
          exact (hr.1.copy _).ext (fun j hj => cpy0 _ _ j hj)
        have hH2 : HisA (setS V ((a + cc) % 9) (St_copyFrom (V.1 9) (V.1 ((a + cc) % 9)))) (setA N 3 (va_cpy (N.2 0) (N.2 3) (257 * 0) (257 * 0) 257)) a cc := by
          obtain ⟨c1, c2, c3, c4, c5, c6⟩ := hH1
          exact ⟨c1, c2, c3, c4, c5, fun k hk => by rw [setA_n _ _ (by decide)]; exact c6 k hk⟩
        obtain ⟨k, v, M3, hk7, k1, k2, k3, k4⟩ := (hW1.keep (va_cpy (N.2 0) (N.2 3) (257 * 0) (257 * 0) 257)).rec hH2 hk
        rw [k2, bs]
        have sig := rec_keep hH2.2.1 hH2.2.2.2.2.1 k2
        obtain ⟨r, W', M', n1, n2, n3, n4⟩ := d_loop (p1 := nI n) (p2 := 0) (p3 := nI n) hc FU FU 0 (setS V ((a + cc) % 9) (St_copyFrom (V.1 9) (V.1 ((a + cc) % 9)))) M3 k3 (keep_eq k1) (hS0.md rfl rfl rfl (by rw [sig.2 11 (by decide), setA_n _ _ (by decide)])) ((sig.1 29 (by decide)).trans c290) (Nat.zero_le _) (FU_gt (by omega)) (FU_gt (by omega))
        exact Or.inr ⟨r, W', M', n1, n2, n3.trans (k4.trans h9), n4⟩
      · have hne : ¬ M2.1 23 = 0 := by rw [g1]; exact g0
        rw [if_neg hne, lu]
        try dsimp only
        rw [if_neg g0, if_neg hne]
        have hr := rel (M2.1 24)
        rw [show (setWL W2 0 []).2.2.1 6 = M2.1 24 from g2, show (setF (setF M2 18 0) 25 (M2.1 24)).1 23 = r by rw [setF_n _ _ (by decide), setF_n _ _ (by decide), g1]]
        exact Or.inr ⟨_, _, _, rfl, rfl, f9 _, hr⟩
    · rw [if_neg (nI_ge (by omega) hn), inr_hi (nI_lt (by omega) hn), if_pos rfl]
      exact thr _ rfl
