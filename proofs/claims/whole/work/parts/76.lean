/-! a script, played -/
section PL
variable {W : WM} {M : MdM}
theorem Top.op {A : StM} {x : Option (Int32 × StM)} {y : Option (Int32 × MdM)} (h : Top A (M.2 0)) (hop : OpR (A.1 2) 0 A M x y) : ∃ v A' M1, x = some (v, A') ∧ y = some (v, En M1 v) ∧ Sm 0 M M1 ∧ Top A' (M1.2 0) := by
  obtain ⟨v, A', M1, ex, ey, hs, hR, h2, hd⟩ := hop
  obtain ⟨d, hd1, hd2⟩ := h.2
  refine ⟨v, A', M1, ex, ey, hs, by rw [h2]; exact hR, ?_⟩
  rcases hd with hd | ⟨q, hq, hd, hle⟩
  · exact ⟨d, hd1, by rw [hd, hd2]⟩
  · rw [hd2, nI_add] at hd hle
    exact ⟨d + q, (q_le (b := 999) (by omega) (by omega)).mp hle, hd⟩
/-- what an order does, on both sides -/
def ansE (A : StM) (k : Nat) (u v : Int32) : Option (Int32 × StM) := if k = 0 then St_handIn A u (lnpl (A.2 0) v) else if k = 1 then some (St_takeAway A u) else if k = 2 then some (St_bringBack A (lnpl (A.2 0) u)) else if k = 3 then St_passDays A u 999 else if k = 4 then some (Rw_moveTo A (lnpl (A.2 0) u) v) else if k = 5 then St_swapNeighbours A u else some (St_closeUntil A (lnpl (A.2 0) u) v)
def doesE (M : MdM) (k : Nat) (u v : Int32) : Option (Int32 × MdM) := if k = 0 then (Option.bind (Md_folderMarked 0 M v) fun q => Md_doesSlip 0 M u q) else if k = 1 then Md_doDrop 0 M u else if k = 3 then Md_doDays 0 M u else if k = 5 then Md_doCheck 0 M u else Option.bind (Md_folderMarked 0 M u) fun q => Md_doesFolder 0 M (nI k) q v
theorem c_ans {i k : Nat} {u v : Int32} (hi : i < 20) (hk : k < 7) (h : W.2.2.2 i = some k) (h3 : lnget (W.2.1 3) (nI i) = u) (h4 : lnget (W.2.1 4) (nI i) = v) : SA_answerOf W (nI i) = Option.bind (ansE (W.1 9) k u v) fun q => some (q.1, setS W 9 q.2) := by
  unfold SA_answerOf Sc_order
  rw [if_neg (q_neg (by omega)), if_neg (show ¬ nI 20 ≤ nI i from nI_ge hi (by omega)), if_pos (q_in hi (by omega)), q_cl (by omega), h, bs, h3, h4]
  unfold oc
  dsimp only
  rw [if_pos hk]
  rcases k7 hk with rfl | rfl | rfl | rfl | rfl | rfl | rfl <;> rfl
theorem m_does {i k : Nat} {u v : Int32} (hi : i < 20) (hk : k < 7) (h : M.2 11 (3 * i) = nI k) (h3 : M.2 11 (3 * i + 1) = u) (h4 : M.2 11 (3 * i + 2) = v) : Md_does 0 M (nI (3 * i)) = doesE M k u v := by
  have e32 : nI (3 * i) + 2 = nI (3 * i + 2) := by rw [show (2 : Int32) = nI 2 from rfl, nI_add]
  unfold Md_does
  simp only [lu, nI_1, e32, if_pos (q_in (show 3 * i + 1 < 60 by omega) (by omega)), if_pos (q_in (show 3 * i + 2 < 60 by omega) (by omega)), if_pos (q_in (show 3 * i < 60 by omega) (by omega)), q_cl (show 3 * i < 100000 by omega), q_cl (show 3 * i + 1 < 100000 by omega), q_cl (show 3 * i + 2 < 100000 by omega), h, h3, h4, oeta]
  rcases k7 hk with rfl | rfl | rfl | rfl | rfl | rfl | rfl <;> rfl
theorem m1_row {A : StM} {f : Nat → Int32} {H : Int32} (h : RI H A f) : lnpl (A.2 7) (-1) = -1 := lp_not (fun q => by
  obtain ⟨k, hk, e, -⟩ := h.w.2.2 _ q
  have := h.sz.fo
  exact q_m1 (a := k) (by omega) e.symm)
/-- one order, done -/
theorem d_order (h : WRel W M) {i c : Nat} {V : WM} (hV9 : V.1 9 = W.1 9) (hS : SR V M c) (hi : i < c) (hc : c ≤ 20) : ∃ v A' M1, SA_answerOf V (nI i) = some (v, setS V 9 A') ∧ (∃ v', (v < 0 ↔ v' < 0) ∧ Md_does 0 M (nI (3 * i)) = some (v', En M1 v')) ∧ Sm 0 M M1 ∧ Top A' (M1.2 0) := by
  obtain ⟨k, x, y, hk, x1, x2, y2, o1, o2, o3, o4, o5⟩ := hS.2.2 i hi
  have l3 : lnget (V.2.1 3) (nI i) = nI x := by rw [lg_in (by rw [hS.1]; exact hi) (by rw [hS.1]; omega), o3]
  have hR := h.1.1
  have zf := hR.sz.fo
  have hfm : ∀ x, Md_folderMarked 0 M x = some (lnpl ((W.1 9).2 0) x) := fun x => m_folderMarked hR x
  have same : ∀ v : Int32, ∃ v' A' M1, some (v, W.1 9) = some (v', A') ∧ (some (v, En M v)) = some (v', En M1 v') ∧ Sm 0 M M1 ∧ Top A' (M1.2 0) := fun v => ⟨v, W.1 9, M, rfl, rfl, Sm.rf _ _, h.1⟩
  -- the two answers
  suffices go : ∃ v A' M1, ansE (W.1 9) k (nI x) (lnget (V.2.1 4) (nI i)) = some (v, A') ∧ (∃ v', (v < 0 ↔ v' < 0) ∧ doesE M k (nI x) (M.2 11 (3 * i + 2)) = some (v', En M1 v')) ∧ Sm 0 M M1 ∧ Top A' (M1.2 0) by
    obtain ⟨v, A', M1, g1, g2, g3, g4⟩ := go
    refine ⟨v, A', M1, ?_, ?_, g3, g4⟩
    · rw [c_ans (by omega) hk o1 l3 rfl, hV9, g1, bs]
    · rw [m_does (by omega) hk o2 o4 rfl]; exact g2
  have l4 : ¬ oS k = -1 → lnget (V.2.1 4) (nI i) = nI y ∧ M.2 11 (3 * i + 2) = nI y := fun q => ⟨by rw [lg_in (by rw [hS.2.1]; exact hi) (by rw [hS.2.1]; omega)]; exact (o5 q).1, (o5 q).2⟩
  have op : ∀ {x : Option (Int32 × StM)} {y : Option (Int32 × MdM)}, OpR ((W.1 9).1 2) 0 (W.1 9) M x y → ∃ v A' M1, x = some (v, A') ∧ (∃ v', (v < 0 ↔ v' < 0) ∧ y = some (v', En M1 v')) ∧ Sm 0 M M1 ∧ Top A' (M1.2 0) := fun hop => by
    obtain ⟨v, A', M1, g1, g2, g3, g4⟩ := h.1.op hop
    exact ⟨v, A', M1, g1, ⟨v, Iff.rfl, g2⟩, g3, g4⟩
  have bad : ∀ v : Int32, v < 0 → ∃ v2 A' M1, some (v, W.1 9) = some (v2, A') ∧ (∃ v', (v2 < 0 ↔ v' < 0) ∧ (some ((-1 : Int32), En M (-1))) = some (v', En M1 v')) ∧ Sm 0 M M1 ∧ Top A' (M1.2 0) := fun v hv => ⟨v, W.1 9, M, rfl, ⟨-1, ⟨fun _ => by decide, fun _ => hv⟩, rfl⟩, Sm.rf _ _, h.1⟩
  have mk : ∀ x : Int32, (lnpl ((W.1 9).2 0) x = -1) ∨ ∃ j, j < ((W.1 9).2 0).length ∧ lnpl ((W.1 9).2 0) x = nI j := fun x => by
    by_cases hx : x ∈ (W.1 9).2 0
    · obtain ⟨j, j1, -, -, j4⟩ := lp_mem hx
      exact Or.inr ⟨j, j1, j4⟩
    · exact Or.inl (lp_not hx)
  have fe : ∀ q, Md_ends 0 M q = some (q, En M q) := fun q => m_ends M q
  have hf1 : St_hasFolder (W.1 9) (-1) = 0 := if_pos (by decide)
  rcases k7 hk with rfl | rfl | rfl | rfl | rfl | rfl | rfl
  · obtain ⟨g1, g2⟩ := l4 (by decide)
    rw [g1, g2]
    show ∃ v A' M1, St_handIn (W.1 9) (nI x) (lnpl ((W.1 9).2 0) (nI y)) = some (v, A') ∧ (∃ v', (v < 0 ↔ v' < 0) ∧ (Option.bind (Md_folderMarked 0 M (nI y)) fun q => Md_doesSlip 0 M (nI x) q) = some (v', En M1 v')) ∧ Sm 0 M M1 ∧ Top A' (M1.2 0)
    rw [hfm, bs]
    unfold Md_doesSlip
    rcases areThere_cases h (nI x) (lnpl ((W.1 9).2 0) (nI y)) with ⟨g, e⟩ | ⟨r, j, hr, hj, e1, e2, e3, e4, e⟩
    · rw [e, bs, if_pos rfl, fe, bs]
      have hc : St_handIn (W.1 9) (nI x) (lnpl ((W.1 9).2 0) (nI y)) = some (-1, W.1 9) := by
        unfold St_handIn St_refusal
        rcases g with g | ⟨g3, g4⟩
        · rw [if_pos g, bs, if_neg (by decide)]
        · rw [if_neg (by rw [g3]; decide), if_pos g4, bs, if_neg (by decide)]
      rw [hc]
      exact bad (-1) (by decide)
    · rw [e, bs, if_neg (by decide), oeta, e1, e2]
      exact op (o_slip hR hr hj)
  · show ∃ v A' M1, some (St_takeAway (W.1 9) (nI x)) = some (v, A') ∧ (∃ v', (v < 0 ↔ v' < 0) ∧ Md_doDrop 0 M (nI x) = some (v', En M1 v')) ∧ Sm 0 M M1 ∧ Top A' (M1.2 0)
    exact op (o_drop hR (nI x))
  · show ∃ v A' M1, some (St_bringBack (W.1 9) (lnpl ((W.1 9).2 0) (nI x))) = some (v, A') ∧ (∃ v', (v < 0 ↔ v' < 0) ∧ (Option.bind (Md_folderMarked 0 M (nI x)) fun q => Md_doesFolder 0 M (nI 2) q (M.2 11 (3 * i + 2))) = some (v', En M1 v')) ∧ Sm 0 M M1 ∧ Top A' (M1.2 0)
    rw [hfm, bs]
    unfold Md_doesFolder
    rcases mk (nI x) with e | ⟨j, hj, e⟩
    · rw [e, if_pos rfl, fe, bs]
      unfold St_bringBack
      rw [if_pos hf1]
      exact bad (-1) (by decide)
    · rw [e, if_neg (q_m1 (by omega)), if_pos (show nI 2 = 2 from rfl), oeta]
      exact op (o_back hR hj)
  · show ∃ v A' M1, St_passDays (W.1 9) (nI x) 999 = some (v, A') ∧ (∃ v', (v < 0 ↔ v' < 0) ∧ Md_doDays 0 M (nI x) = some (v', En M1 v')) ∧ Sm 0 M M1 ∧ Top A' (M1.2 0)
    exact op (o_days hR (by decide) rfl x2)
  · obtain ⟨g1, g2⟩ := l4 (by decide)
    rw [g1, g2]
    show ∃ v A' M1, some (Rw_moveTo (W.1 9) (lnpl ((W.1 9).2 0) (nI x)) (nI y)) = some (v, A') ∧ (∃ v', (v < 0 ↔ v' < 0) ∧ (Option.bind (Md_folderMarked 0 M (nI x)) fun q => Md_doesFolder 0 M (nI 4) q (nI y)) = some (v', En M1 v')) ∧ Sm 0 M M1 ∧ Top A' (M1.2 0)
    rw [hfm, bs]
    unfold Md_doesFolder
    rcases mk (nI x) with e | ⟨j, hj, e⟩
    · rw [e, if_pos rfl, fe, bs]
      unfold Rw_moveTo
      rw [m1_row hR, lu, if_pos rfl]
      exact bad (-2) (by decide)
    · rw [e, if_neg (q_m1 (by omega)), if_neg (show ¬ nI 4 = 2 by decide), if_pos (show nI 4 = 4 from rfl), oeta]
      exact op (o_misfile hR hj (nI y))
  · show ∃ v A' M1, St_swapNeighbours (W.1 9) (nI x) = some (v, A') ∧ (∃ v', (v < 0 ↔ v' < 0) ∧ Md_doCheck 0 M (nI x) = some (v', En M1 v')) ∧ Sm 0 M M1 ∧ Top A' (M1.2 0)
    exact op (o_check hR (show x < 1000 from Nat.lt_of_le_of_lt x2 (by decide)))
  · obtain ⟨g1, g2⟩ := l4 (by decide)
    rw [g1, g2]
    show ∃ v A' M1, some (St_closeUntil (W.1 9) (lnpl ((W.1 9).2 0) (nI x)) (nI y)) = some (v, A') ∧ (∃ v', (v < 0 ↔ v' < 0) ∧ (Option.bind (Md_folderMarked 0 M (nI x)) fun q => Md_doesFolder 0 M (nI 6) q (nI y)) = some (v', En M1 v')) ∧ Sm 0 M M1 ∧ Top A' (M1.2 0)
    rw [hfm, bs]
    unfold Md_doesFolder
    rcases mk (nI x) with e | ⟨j, hj, e⟩
    · rw [e, if_pos rfl, fe, bs]
      unfold St_closeUntil
      rw [if_pos hf1]
      exact bad (-1) (by decide)
    · rw [e, if_neg (q_m1 (by omega)), if_neg (show ¬ nI 6 = 2 by decide), if_neg (show ¬ nI 6 = 4 by decide), oeta]
      exact op (o_embargo hR hj (nI y))
theorem En_sg {M : MdM} {v w : Int32} (h : v < 0 ↔ w < 0) : En M w = En M v := by
  unfold En
  by_cases q : v < 0
  · rw [if_pos q, if_pos (h.mp q)]
  · rw [if_neg q, if_neg (fun r => q (h.mpr r))]
theorem SR.md {V V' : WM} {M M' : MdM} {c : Nat} (h : SR V M c) (h3 : V'.2.1 3 = V.2.1 3) (h4 : V'.2.1 4 = V.2.1 4) (ho : V'.2.2.2 = V.2.2.2) (h11 : M'.2 11 = M.2 11) : SR V' M' c := by
  unfold SR SRw at h ⊢
  rw [h3, h4, ho, h11]
  exact h
/-- the orders, one after another; the history's end is kept behind them -/
theorem d_loop {k : Nat} {w p1 p2 p3 : Int32} {c : Nat} (hc : c ≤ 20) : ∀ (m m' i : Nat) (V : WM) (M : MdM), WRel (setWI V k w) M → (∀ V', V'.2.2.1 = V.2.2.1 → Hi_keep V' = some (setWI V' k w)) → SR V M c → M.1 29 = nI c → i ≤ c → c - i < m → c - i < m' → ∃ r W' M', SA_play_L81 m V p1 p2 (nI i) (nI i) = some (.inr (r, W')) ∧ Md_play_L79 m' M p3 (nI i) = some (r, M') ∧ M'.1 9 = M.1 9 ∧ WRel W' M' := by
  intro m
  induction m with
  | zero => intro m' i V M h hk hS h29 h1 h2; omega
  | succ m ih =>
    intro m' i V M h hk hS h29 h1 h2 h3
    cases m' with
    | zero => omega
    | succ m' =>
      unfold SA_play_L81 Md_play_L79 Sc_count
      rw [hS.1, h29]
      by_cases hi : i = c
      · subst hi
        rw [if_pos (nI_le (Nat.le_refl i) (by omega)), if_pos (nI_le (Nat.le_refl i) (by omega)), hk V rfl, bs]
        exact ⟨_, _, _, rfl, rfl, rfl, h⟩
      · have e3 : (3 : Int32) * nI i = nI (3 * i) := by rw [show (3 : Int32) = nI 3 from rfl, pk_mul]
        rw [if_neg (nI_ge (show i < c by omega) (by omega)), if_neg (nI_ge (show i < c by omega) (by omega)), e3]
        obtain ⟨v, A', M1, g1, ⟨v', g2, g3⟩, g4, g5⟩ := d_order h (V := V) (i := i) rfl hS (by omega) hc
        rw [g1, g3, bs, bs, lu]
        have e9 : (En M1 v').1 9 = M.1 9 := g4.1 9 (by decide) (by decide)
        have hW : WRel (setWI (SA_counted (setS V 9 A') v).2 k w) (En M1 v') := by
          rw [En_sg g2]
          exact (h.step g5 (fun k _ a b => g4.1 k a b) (fun j a _ _ d e => g4.2 j a d e)).cnt v
        have hk' : ∀ V', V'.2.2.1 = ((SA_counted (setS V 9 A') v).2).2.2.1 → Hi_keep V' = some (setWI V' k w) := fun V' e => hk V' e
        by_cases hv : v < 0
        · have hv' := g2.mp hv
          try dsimp only
          rw [if_neg (show ¬ 0 ≤ (SA_counted (setS V 9 A') v).1 from Int32.not_le.mpr hv), if_pos hv', hk' _ rfl, bs]
          exact ⟨_, _, _, rfl, rfl, e9, hW⟩
        · have hv' : ¬ v' < 0 := fun q => hv (g2.mpr q)
          try dsimp only
          rw [if_pos (show 0 ≤ (SA_counted (setS V 9 A') v).1 from Int32.not_lt.mp hv), if_neg hv', nI_1]
          have hS' : SR (SA_counted (setS V 9 A') v).2 (En M1 v') c := hS.md (wL_n _ _ (by decide)) (wL_n _ _ (by decide)) rfl (by
            show (setA M1 6 _).2 11 = _
            rw [setA_n _ _ (by decide), g4.2 11 (by decide) (by decide) (by decide)])
          obtain ⟨r, W', M', k1, k2, k3, k4⟩ := ih m' (i + 1) (SA_counted (setS V 9 A') v).2 (En M1 v') hW hk' hS' ((g4.1 29 (by decide) (by decide)).trans h29) (by omega) (by omega) (by omega)
          exact ⟨r, W', M', k1, k2, k3.trans e9, k4⟩
end PL
