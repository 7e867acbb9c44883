/-! a text: its folders -/
def DR (H : Int32) (D : StM) (f : Nat → Int32) (c : Nat) : Prop := RI H D f ∧ Zr f c ∧ (D.2 0).length = c ∧ D.1 0 = 0 ∧ D.1 2 = H
def FrW1 (W W' : WM) : Prop := (∀ j, j ≠ 10 → W'.1 j = W.1 j) ∧ W'.2.1 = W.2.1 ∧ W'.2.2.2 = W.2.2.2 ∧ ∀ k, (k = 0 ∨ 6 < k) → W'.2.2.1 k = W.2.2.1 k
def FrM1 (M M' : MdM) : Prop := (∀ j, j ≠ 1 → M'.2 j = M.2 j) ∧ ∀ k, (k < 20 ∨ 24 < k) → M'.1 k = M.1 k
def EA (W : WM) (M : MdM) : Prop := ¬ M.1 23 = 0 ∧ W.2.2.1 5 = M.1 23 ∧ W.2.2.1 6 = M.1 24
theorem FrW1.tr {W W' W'' : WM} (h : FrW1 W W') (h' : FrW1 W' W'') : FrW1 W W'' := ⟨fun j a => (h'.1 j a).trans (h.1 j a), h'.2.1.trans h.2.1, h'.2.2.1.trans h.2.2.1, fun k a => (h'.2.2.2 k a).trans (h.2.2.2 k a)⟩
theorem FrM1.tr {M M' M'' : MdM} (h : FrM1 M M') (h' : FrM1 M' M'') : FrM1 M M'' := ⟨fun j a => (h'.1 j a).trans (h.1 j a), fun k a => (h'.2 k a).trans (h.2 k a)⟩
theorem FrW.one {W W' : WM} (h : FrW W W') : FrW1 W W' := ⟨fun j _ => by rw [h.1], h.2.1, h.2.2.1, fun k a => h.2.2.2 k (by omega) (by omega) (by omega) (by omega)⟩
theorem FrM.one {M M' : MdM} (h : FrM M M') : FrM1 M M' := ⟨fun j _ => by rw [h.1], fun k a => h.2 k (by omega) (by omega) (by omega)⟩
theorem FrW1.rf (W : WM) : FrW1 W W := ⟨fun _ _ => rfl, rfl, rfl, fun _ _ => rfl⟩
theorem FrM1.rf (M : MdM) : FrM1 M M := ⟨fun _ _ => rfl, fun _ _ => rfl⟩
theorem FrW1.st (W : WM) (D : StM) : FrW1 W (setS W 10 D) := ⟨fun j a => setS_n _ _ a, rfl, rfl, fun _ _ => rfl⟩
theorem FrM1.ar (M : MdM) (f : Nat → Int32) : FrM1 M (setA M 1 f) := ⟨fun j a => setA_n _ _ a, fun _ _ => rfl⟩
theorem FrW1.wf (W : WM) (c : Int32) : FrW1 W (Wf W c) := ⟨fun _ _ => rfl, rfl, rfl, fun k a => (wi_n _ _ (by omega)).trans (wi_n _ _ (by omega))⟩
theorem FrM1.mf (M : MdM) (c : Int32) : FrM1 M (Mf M c) := ⟨fun _ _ => rfl, fun k a => (setF_n _ _ (by omega)).trans (setF_n _ _ (by omega))⟩
def FrWo (W W' : WM) : Prop := FrW1 W W' ∧ W'.2.2.1 6 = W.2.2.1 6
theorem FrW.oo {W W' : WM} (h : FrW W W') : FrWo W W' := ⟨h.one, h.2.2.2 6 (by decide) (by decide) (by decide) (by decide)⟩
theorem FrWo.tr {W W' W'' : WM} (h : FrWo W W') (h' : FrWo W' W'') : FrWo W W'' := ⟨h.1.tr h'.1, h'.2.trans h.2⟩
section TX
variable {b : List Int32} {n s p : Nat} {W : WM} {M : MdM}
theorem ea_of (h : TK b n W M s p) {c : Int32} (hc : ¬ c = 0) : EA (Wf W c) (Mf M c) := by
  have e : (Mf M c).1 23 = c := (setF_n _ _ (by decide)).trans (setF_s _ _ _)
  refine ⟨by rw [e]; exact hc, ?_, ?_⟩
  · rw [e]
    exact (wi_n _ _ (by decide)).trans (wi_s _ _ _)
  · exact (wi_s _ _ _).trans (h.2.2.1.trans (h.2.2.2.1.symm.trans (setF_s _ _ _).symm))
theorem val_arr {M M' : MdM} (h1 : M'.1 = M.1) (h2 : M'.2 10 = M.2 10) (ρ : Nat) : ∀ (m : Nat) (v k : Int32), Md_value_L7 ρ M' m v k = Md_value_L7 ρ M m v k := by
  intro m
  induction m with
  | zero => intro v k; rfl
  | succ m ih =>
    intro v k
    unfold Md_value_L7
    simp only [lu, h1, h2, ih]
theorem TK.arr (h : TK b n W M s p) {M' : MdM} (h1 : M'.1 = M.1) (h2 : M'.2 10 = M.2 10) : TK b n W M' s p := by
  have hv : ∀ ρ, Md_value ρ M' = Md_value ρ M := fun ρ => by
    unfold Md_value
    rw [h1, lu, lu, val_arr h1 h2]
  unfold TK PS
  rw [hv 0, hv 1, h1, h2]
  exact h
theorem s_err (h : TK b n W M s p) : M.1 23 = 0 := h.1.2.2.2.2.2.2.2.2.1
/-- the end of a folder's entry -/
theorem t_fin {H : Int32} {c x e : Nat} (h : TK b n W M s p) (hD : DR H (W.1 10) (M.2 1) c) (hc : c < 24) (hx : x ≤ 9999) (hn : nI x ∉ (W.1 10).2 0) : (∃ s' q W' M', Ps_isEnded (setS W 10 (St_addFolder (W.1 10) (nI x) (nI e))) = some (1, setS W 10 (St_addFolder (W.1 10) (nI x) (nI e))) ∧ Tk_next (setS W 10 (St_addFolder (W.1 10) (nI x) (nI e))) = some W' ∧
      (Option.bind (Md_expect 1 M 59) fun M1 => if M1.1 23 = 0 then (Option.bind (Md_addFolder 1 M1 (nI x) (nI e)) fun M2 => some (M2)) else (some (M1))) = some M' ∧ TK b n W' M' s' q ∧ DR H (W'.1 10) (M'.2 1) (c + 1) ∧ FrWo W W' ∧ FrM1 M M') ∨
    (Ps_isEnded (setS W 10 (St_addFolder (W.1 10) (nI x) (nI e))) = some (0, Wf (setS W 10 (St_addFolder (W.1 10) (nI x) (nI e))) 1) ∧ (Option.bind (Md_expect 1 M 59) fun M1 => if M1.1 23 = 0 then (Option.bind (Md_addFolder 1 M1 (nI x) (nI e)) fun M2 => some (M2)) else (some (M1))) = some (Mf M 1)) := by
  have h' : TK b n (setS W 10 (St_addFolder (W.1 10) (nI x) (nI e))) M s p := h
  obtain ⟨d1, d2, d3, d4, d5⟩ := hD
  rcases p_end (ρ := 1) h' with ⟨s', q, W', M1, e1, e2, e3, e4, e5, e6⟩ | ⟨e1, e2⟩
  · left
    have hR1 : RI H (W.1 10) (M1.2 1) := by rw [e6.1]; exact d1
    obtain ⟨M2, g1, g2, g3, g4, g5, g6, g7⟩ := s_addFolder hR1 (by rw [e6.1, d3]; exact d2) (by omega) (e := e) hx hn
    refine ⟨s', q, W', M2, e1, e2, ?_, e4.arr g2 (g3 10 (by decide)), ⟨?_, ?_, ?_, ?_, ?_⟩, ⟨(FrW1.st W _).tr e5.one, e5.2.2.2 6 (by decide) (by decide) (by decide) (by decide)⟩, e6.one.tr ⟨fun j a => g3 j a, fun k _ => by rw [g2]⟩⟩
    · rw [e3, bs, if_pos (s_err e4), g1, bs]
    · rw [e5.1, setS_s]; exact g4
    · rw [← d3]; exact g7
    · rw [e5.1, setS_s, g6, List.length_append, List.length_singleton, d3]
    · rw [e5.1, setS_s, g5, d4]
    · rw [e5.1, setS_s, g5, d5]
  · right
    refine ⟨e1, ?_⟩
    rw [e2, bs, if_neg (er_of h (by decide)).1]
/-- one folder's entry -/
theorem t_folder {H : Int32} {c : Nat} (h : TK b n W M s p) (hD : DR H (W.1 10) (M.2 1) c) (hc : c ≤ 24) :
    (Tk_isWord (sx 1) W = some 0 ∧ Md_readFolder 1 M = some (Mf M 1)) ∨
    (Tk_isWord (sx 1) W = some 1 ∧ c = 24 ∧ Md_readFolder 1 M = some (Mf M 4)) ∨
    (Tk_isWord (sx 1) W = some 1 ∧ c < 24 ∧ ∃ W' M', Ps_readFolder W = some (0, W') ∧ Md_readFolder 1 M = some M' ∧ EA W' M' ∧ ER M' ∧ FrW1 W W' ∧ FrM1 M M') ∨
    (Tk_isWord (sx 1) W = some 1 ∧ c < 24 ∧ ∃ s' q W1 W' M', Ps_readFolder W = some (1, W1) ∧ Tk_next W1 = some W' ∧ Md_readFolder 1 M = some M' ∧ TK b n W' M' s' q ∧ DR H (W'.1 10) (M'.2 1) (c + 1) ∧ FrWo W W' ∧ FrM1 M M') := by
  have a9 := s_err h
  obtain ⟨r, hr01, w1, w2⟩ := s_isWord (cs := sx 1) (by decide) h
  have hnf : (M.2 1) 5 = nI c := by rw [hD.1.rel.nf, hD.2.2.1]
  have E : ∀ {M : MdM}, ER M → ∀ x : Int32, (Option.bind (Md_expect 1 M 59) fun M1 => if M1.1 23 = 0 then (Option.bind (Md_addFolder 1 M1 x 0) fun M2 => some (M2)) else (some (M1))) = some M := fun hE x => by
    rw [e_exp 1 hE, bs, if_neg hE.1]
  rcases hr01 with rfl | rfl
  · left
    have hE := er_of h (c := 1) (by decide)
    refine ⟨w1, ?_⟩
    unfold Md_readFolder
    simp only [lu, if_pos a9, w2, bs, if_true, d_no 1 a9, if_neg hE.1, e_dem 1 hE, e_adv 1 hE, e_mark 1 hE, e_acc 1 hE, e_exp 1 hE]
  · right
    by_cases h24 : c = 24
    · left
      have hE := er_of h (c := 4) (by decide)
      refine ⟨w1, h24, ?_⟩
      have g24 : (24 : Int32) ≤ M.2 1 5 := by rw [hnf, h24]; decide
      unfold Md_readFolder
      simp only [lu, if_pos a9, w2, bs, if_neg (show ¬ (1 : Int32) = 0 by decide), d_ok, tn5, if_pos g24, d_no 1 a9, if_neg hE.1, e_dem 1 hE, e_adv 1 hE, e_mark 1 hE, e_acc 1 hE, e_exp 1 hE, if_true]
    · right
      have hlt : c < 24 := by omega
      have g24 : ¬ (24 : Int32) ≤ M.2 1 5 := by rw [hnf]; exact nI_ge (b := 24) hlt (by omega)
      obtain ⟨s1, q1, W1, M1, f1, f2, f3, f4, f5⟩ := p_num (ρ := 1) h.1 (lo := 0) (hi := 9999) (by omega) (by omega) (by omega)
      have adv : Md_advance 1 M = some M1 := by
        unfold Md_advance
        rw [if_pos a9, f1, bs]
      have head : Md_readFolder 1 M = Option.bind (Md_readNewMark 1 M1) fun q_1136 => Option.bind (Md_accept 1 (sx 2) q_1136.2) fun q_1138 => if q_1138.1 = 0 then (Option.bind (Md_expect 1 q_1138.2 59) fun M_1140 => if M_1140.1 23 = 0 then (Option.bind (Md_addFolder 1 M_1140 q_1136.1 0) fun M_1142 => some (M_1142)) else (some (M_1140))) else (Option.bind (Md_readNumber 1 q_1138.2 0 999) fun q_1143 => Option.bind (Md_expect 1 q_1143.2 59) fun M_1145 => if M_1145.1 23 = 0 then (Option.bind (Md_addFolder 1 M_1145 q_1136.1 q_1143.1) fun M_1147 => some (M_1147)) else (some (M_1145))) := by
        unfold Md_readFolder
        simp only [lu, if_pos a9, w2, bs, if_neg (show ¬ (1 : Int32) = 0 by decide), d_ok, tn5, if_neg g24, adv]
      rcases f5 with ⟨x, x1, x2, x3, x4, x5⟩ | ⟨c', x1, x2, x3⟩
      · have x3 : Ps_readNumber W 0 9999 = some (1, W1) := x3
        have x5 : Md_look 1 M1 0 9999 = some (nI x, M1) := x5
        have e1 : M1.1 23 = 0 := s_err f2
        have hR1 : RI H (W1.1 10) (M1.2 1) := by rw [f3.1, f4.1]; exact hD.1
        have hD1 : DR H (W1.1 10) (M1.2 1) c := by rw [f3.1, f4.1]; exact hD
        have hfm : Md_folderMarked 1 M1 (nI x) = some (lnpl ((W1.1 10).2 0) (nI x)) := m_folderMarked hR1 (nI x)
        have zf := hR1.sz.fo
        by_cases hdup : nI x ∈ (W1.1 10).2 0
        · obtain ⟨i, i1, -, -, i4⟩ := lp_mem hdup
          have hne : ¬ lnpl ((W1.1 10).2 0) (nI x) = -1 := by rw [i4]; exact q_m1 (by omega)
          have hE := er_of f2 (c := 3) (by decide)
          refine Or.inl ⟨w1, hlt, (Wf W1 3), (Mf M1 3), ?_, ?_, (ea_of f2 (by decide)), hE, (f3.one.tr (FrW1.wf W1 3)), (f4.one.tr (FrM1.mf M1 3))⟩
          · unfold Ps_readFolder Tk_value
            simp only [x3, bs, lu, x4, if_neg (show ¬ (1 : Int32) = 0 by decide), if_neg hne, p_fail]
            rw [if_pos (Or.inl trivial)]
          · rw [head]
            unfold Md_readNewMark
            simp only [lu, x5, bs, if_pos e1, hfm, if_neg hne, d_no 1 e1, e_adv 1 hE, e_acc 1 hE, e_exp 1 hE, if_true, if_neg hE.1]
        · have hpl : lnpl ((W1.1 10).2 0) (nI x) = -1 := lp_not hdup
          obtain ⟨s2, q2, W2, M2, g1, g2, g3, g4, g5⟩ := s_tok (ρ := 1) f2.1
          have adv1 : Md_advance 1 M1 = some M2 := by
            unfold Md_advance
            rw [if_pos e1, g2, bs]
          have hmark : Md_readNewMark 1 M1 = some (nI x, M2) := by
            unfold Md_readNewMark
            simp only [lu, x5, bs, if_pos e1, hfm, if_pos hpl, d_ok, adv1]
          have hD2 : DR H (W2.1 10) (M2.2 1) c := by rw [g4.1, g5.1]; exact hD1
          have hnew2 : nI x ∉ (W2.1 10).2 0 := by rw [g4.1]; exact hdup
          have e2 : M2.1 23 = 0 := s_err g3
          obtain ⟨r2, hr2, v1, v2⟩ := s_isWord (cs := sx 2) (by decide) g3
          have hcomp : Ps_readFolder W = Option.bind (Tk_isWord (sx 2) W2) fun q_1295 => if q_1295 = 0 then (Option.bind (Ps_isEnded (setS W2 10 (St_addFolder (W2.1 10) (nI x) 0))) fun q_1298 => if q_1298.1 = 0 ∨ q_1298.1 = 1 then (some ((q_1298.1, q_1298.2))) else none) else (Option.bind (Ps_readNumber W2 0 999) fun q_1300 => if q_1300.1 = 0 then (some ((0, q_1300.2))) else (Option.bind (Tk_next q_1300.2) fun M_1303 => Option.bind (Ps_isEnded (setS M_1303 10 (St_addFolder (M_1303.1 10) (nI x) (Tk_value q_1300.2)))) fun q_1305 => if q_1305.1 = 0 ∨ q_1305.1 = 1 then (some ((q_1305.1, q_1305.2))) else none)) := by
            unfold Ps_readFolder
            simp only [x3, bs, lu, show Tk_value W1 = nI x from x4, if_neg (show ¬ (1 : Int32) = 0 by decide), if_pos hpl, g1]
          rcases hr2 with rfl | rfl
          · have hacc : Md_accept 1 (sx 2) M2 = some (0, M2) := by
              unfold Md_accept
              rw [v2 1, bs, if_pos rfl, if_pos (Or.inl rfl)]
            rcases t_fin (e := 0) g3 hD2 hlt x2 hnew2 with ⟨s', q', W', M', k1, k2, k3, k4, k5, k6, k7⟩ | ⟨k1, k2⟩
            · right
              have k1 : Ps_isEnded (setS W2 10 (St_addFolder (W2.1 10) (nI x) 0)) = some (1, setS W2 10 (St_addFolder (W2.1 10) (nI x) 0)) := k1
              refine ⟨w1, hlt, s', q', _, W', M', ?_, k2, ?_, k4, k5, (f3.oo.tr g4.oo).tr k6, (f4.one.tr g5.one).tr k7⟩
              · rw [hcomp, v1, bs, if_pos rfl, k1, bs, if_pos (Or.inr rfl)]
                rfl
              · rw [head, hmark, bs]
                try dsimp only
                rw [hacc, bs, if_pos rfl]
                exact k3
            · have k1 : Ps_isEnded (setS W2 10 (St_addFolder (W2.1 10) (nI x) 0)) = some (0, Wf (setS W2 10 (St_addFolder (W2.1 10) (nI x) 0)) 1) := k1
              have g3' : TK b n (setS W2 10 (St_addFolder (W2.1 10) (nI x) 0)) M2 s2 q2 := g3
              refine Or.inl ⟨w1, hlt, _, (Mf M2 1), ?_, ?_, (ea_of g3' (by decide)), (er_of g3 (by decide)), (((f3.one.tr g4.one).tr (FrW1.st _ _)).tr (FrW1.wf _ 1)), ((f4.one.tr g5.one).tr (FrM1.mf M2 1))⟩
              · rw [hcomp, v1, bs, if_pos rfl, k1, bs, if_pos (Or.inl rfl)]
              · rw [head, hmark, bs]
                try dsimp only
                rw [hacc, bs, if_pos rfl]
                exact k2
          · obtain ⟨s3, q3, W3, M3, l1, l2, l3, l4, l5⟩ := p_num (ρ := 1) g3.1 (lo := 0) (hi := 999) (by omega) (by omega) (by omega)
            have hacc : Md_accept 1 (sx 2) M2 = some (1, M3) := by
              unfold Md_accept
              rw [v2 1, bs, if_neg (by decide), l1, bs, if_pos (Or.inr rfl)]
            rcases l5 with ⟨y, y1, y2, y3, y4, y5⟩ | ⟨c', y1, y2, y3⟩
            · have y3 : Ps_readNumber W2 0 999 = some (1, W3) := y3
              have y5 : Md_look 1 M3 0 999 = some (nI y, M3) := y5
              have e3 : M3.1 23 = 0 := s_err l2
              obtain ⟨s4, q4, W4, M4, m1, m2, m3, m4, m5⟩ := s_tok (ρ := 1) l2.1
              have hnum : Md_readNumber 1 M3 0 999 = some (nI y, M4) := by
                unfold Md_readNumber Md_advance
                simp only [lu, y5, bs, if_pos e3, m2]
              have hD4 : DR H (W4.1 10) (M4.2 1) c := by rw [m4.1, m5.1, l3.1, l4.1]; exact hD2
              have hnew4 : nI x ∉ (W4.1 10).2 0 := by rw [m4.1, l3.1]; exact hnew2
              rcases t_fin (e := y) m3 hD4 hlt x2 hnew4 with ⟨s', q', W', M', k1, k2, k3, k4, k5, k6, k7⟩ | ⟨k1, k2⟩
              · right
                refine ⟨w1, hlt, s', q', _, W', M', ?_, k2, ?_, k4, k5, (((f3.oo.tr g4.oo).tr l3.oo).tr m4.oo).tr k6, (((f4.one.tr g5.one).tr l4.one).tr m5.one).tr k7⟩
                · rw [hcomp, v1, bs, if_neg (by decide), y3, bs]
                  try dsimp only
                  rw [if_neg (by decide), m1, bs, show Tk_value W3 = nI y from y4, k1, bs, if_pos (Or.inr rfl)]
                · rw [head, hmark, bs]
                  try dsimp only
                  rw [hacc, bs]
                  try dsimp only
                  rw [if_neg (by decide), hnum, bs]
                  exact k3
              · have m3' : TK b n (setS W4 10 (St_addFolder (W4.1 10) (nI x) (nI y))) M4 s4 q4 := m3
                refine Or.inl ⟨w1, hlt, _, (Mf M4 1), ?_, ?_, (ea_of m3' (by decide)), (er_of m3 (by decide)), (((((f3.one.tr g4.one).tr l3.one).tr m4.one).tr (FrW1.st _ _)).tr (FrW1.wf _ 1)), ((((f4.one.tr g5.one).tr l4.one).tr m5.one).tr (FrM1.mf M4 1))⟩
                · rw [hcomp, v1, bs, if_neg (by decide), y3, bs]
                  try dsimp only
                  rw [if_neg (by decide), m1, bs, show Tk_value W3 = nI y from y4, k1, bs, if_pos (Or.inl rfl)]
                · rw [head, hmark, bs]
                  try dsimp only
                  rw [hacc, bs]
                  try dsimp only
                  rw [if_neg (by decide), hnum, bs]
                  exact k2
            · have y2 : Ps_readNumber W2 0 999 = some (0, Wf W3 c') := y2
              have y3 : Md_look 1 M3 0 999 = some (0, Mf M3 c') := y3
              have hE := er_of l2 y1
              refine Or.inl ⟨w1, hlt, (Wf W3 c'), (Mf M3 c'), ?_, ?_, (ea_of l2 y1), hE, (((f3.one.tr g4.one).tr l3.one).tr (FrW1.wf W3 c')), (((f4.one.tr g5.one).tr l4.one).tr (FrM1.mf M3 c'))⟩
              · rw [hcomp, v1, bs, if_neg (by decide), y2, bs]
                try dsimp only
                rw [if_pos rfl]
              · have hnum : Md_readNumber 1 M3 0 999 = some (0, Mf M3 c') := by
                  unfold Md_readNumber
                  simp only [lu, y3, bs, e_adv 1 hE]
                rw [head, hmark, bs]
                try dsimp only
                rw [hacc, bs]
                try dsimp only
                rw [if_neg (by decide), hnum, bs]
                try dsimp only
                rw [e_exp 1 hE, bs, if_neg hE.1]
      · have x2 : Ps_readNumber W 0 9999 = some (0, Wf W1 c') := x2
        have x3 : Md_look 1 M1 0 9999 = some (0, Mf M1 c') := x3
        have hE := er_of f2 x1
        refine Or.inl ⟨w1, hlt, (Wf W1 c'), (Mf M1 c'), ?_, ?_, (ea_of f2 x1), hE, (f3.one.tr (FrW1.wf W1 c')), (f4.one.tr (FrM1.mf M1 c'))⟩
        · unfold Ps_readFolder
          simp only [x2, bs, if_true]
        · rw [head]
          unfold Md_readNewMark
          simp only [lu, x3, bs, if_neg hE.1, e_dem 1 hE, e_adv 1 hE, e_acc 1 hE, if_true, e_exp 1 hE]
end TX
