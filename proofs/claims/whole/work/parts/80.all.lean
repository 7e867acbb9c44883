/-! one order read -/
section OR
variable {b : List Int32} {n s p : Nat} {W : WM} {M : MdM}
theorem o_fin {c k x y : Nat} {yv : Int32} {W1 : WM} {N1 M2 : MdM} (hp : PS b n W1 N1 p) (hsc : Md_scan 0 N1 = some M2) (hS : SR W1 M c) (h29 : N1.1 29 = nI c) (hc : c < 20) (hk : k < 7) (hx : fL k ≤ x) (hx' : x ≤ fM k) (hy : y ≤ fS k) (hyv : ¬ oS k = -1 → yv = nI y) (u : Nat → Int32) (hN : ∀ j, j < 3 * c → u j = M.2 11 j) (h0 : u (3 * c) = nI k) (h1 : u (3 * c + 1) = nI x) (h2 : ¬ oS k = -1 → u (3 * c + 2) = nI y) :
    (∃ V s' q W' V1 M', Sc_add k W1 (nI x) yv = some V ∧ Tk_next V = some V1 ∧ Ps_isEnded V1 = some (1, V1) ∧ Tk_next V1 = some W' ∧ (Option.bind (Md_expect 0 (setA M2 11 u) 59) fun M_1190 => some (setF M_1190 29 (M_1190.1 29 + 1))) = some M' ∧ TK b n W' M' s' q ∧ SR W' M' (c + 1) ∧ M'.1 29 = nI (c + 1) ∧ W'.2.2.1 6 = W1.2.2.1 6 ∧ FrW2 W1 W' ∧ FrM2 N1 M') ∨
    (∃ V V1 M', Sc_add k W1 (nI x) yv = some V ∧ Tk_next V = some V1 ∧ Ps_isEnded V1 = some (0, Wf V1 1) ∧ (Option.bind (Md_expect 0 (setA M2 11 u) 59) fun M_1190 => some (setF M_1190 29 (M_1190.1 29 + 1))) = some M' ∧ EA (Wf V1 1) M' ∧ FrW2 W1 (Wf V1 1) ∧ FrM2 N1 M') := by
  obtain ⟨V, v1, v2, v3, v4, v5⟩ := SR.add (N := setA M2 11 u) hS hc hk hx hx' hy hyv (fun j hj => by rw [setA_s]; exact hN j hj) (by rw [setA_s]; exact h0) (by rw [setA_s]; exact h1) (fun q => by rw [setA_s]; exact h2 q)
  obtain ⟨s1, q1, V1, M3, e1, e2, e3, e4, e5⟩ := s_tok (ρ := 0) (hp.ow (v4 0 (by decide) (by decide)) v5)
  have hM : M2 = M3 := Option.some.inj (hsc.symm.trans e2)
  subst hM
  have T : TK b n V1 (setA M2 11 u) s1 q1 := e3.arr rfl (setA_n _ _ (by decide))
  have hS1 : SR V1 (setA M2 11 u) (c + 1) := v2.fr e4.2.1 e4.2.2.1 (fun _ _ => rfl)
  have fw0 : FrW2 W1 V := ⟨v3, v4, fun k _ => by rw [v5]⟩
  have fw1 : FrW2 W1 V1 := fw0.tr e4.two
  have fm1 : FrM2 N1 (setA M2 11 u) := e5.two.tr (FrM2.ar _ _)
  have c29 : (setA M2 11 u).1 29 = nI c := (e5.2 29 (by decide) (by decide) (by decide)).trans h29
  rcases p_end (ρ := 0) T with ⟨s', q, W', M3, g1, g2, g3, g4, g5, g6⟩ | ⟨g1, g2⟩
  · left
    refine ⟨V, s', q, W', V1, setF M3 29 (M3.1 29 + 1), v1, e1, g1, g2, by rw [g3, bs], g4.c29 _, ?_, ?_, ?_, fw1.tr g5.two, (fm1.tr g6.two).tr (FrM2.cn _ _)⟩
    · refine hS1.fr g5.2.1 g5.2.2.1 (fun j _ => ?_)
      show M3.2 11 j = _
      rw [g6.1]
    · rw [setF_s, g6.2 29 (by decide) (by decide) (by decide), c29, nI_1]
    · exact (g5.2.2.2 6 (by decide) (by decide) (by decide) (by decide)).trans ((e4.2.2.2 6 (by decide) (by decide) (by decide) (by decide)).trans (by rw [v5]))
  · right
    have ea := ea_of T (c := 1) (by decide)
    refine ⟨V, V1, setF (Mf (setA M2 11 u) 1) 29 ((Mf (setA M2 11 u) 1).1 29 + 1), v1, e1, g1, by rw [g2, bs], ⟨?_, ?_, ?_⟩, fw1.tr (FrW2.wf V1 1), (fm1.tr (FrM2.mf _ 1)).tr (FrM2.cn _ _)⟩
    · rw [setF_n _ _ (by decide)]; exact ea.1
    · rw [setF_n _ _ (by decide)]; exact ea.2.1
    · rw [setF_n _ _ (by decide)]; exact ea.2.2
theorem t_order {c : Nat} (h : TK b n W M s p) (hS : SR W M c) (h29 : M.1 29 = nI c) (hc : c ≤ 20) :
    (Ps_readOrder W = some none ∧ Md_readOrder 0 M = some (Mf M 1)) ∨
    (∃ k, k < 7 ∧ Ps_readOrder W = some (some k) ∧ c = 20 ∧ Md_readOrder 0 M = some (Mf M 4)) ∨
    (∃ k W' M', k < 7 ∧ Ps_readOrder W = some (some k) ∧ c < 20 ∧ Ps_readNumbers k W = some (0, W') ∧ Md_readOrder 0 M = some M' ∧ EA W' M' ∧ FrW2 W W' ∧ FrM2 M M') ∨
    (∃ k s' q W1 W' M', k < 7 ∧ Ps_readOrder W = some (some k) ∧ c < 20 ∧ Ps_readNumbers k W = some (1, W1) ∧ Tk_next W1 = some W' ∧ Md_readOrder 0 M = some M' ∧ TK b n W' M' s' q ∧ SR W' M' (c + 1) ∧ M'.1 29 = nI (c + 1) ∧ W'.2.2.1 6 = W.2.2.1 6 ∧ FrW2 W W' ∧ FrM2 M M') := by
  have a9 := s_err h
  rcases s_order h with ⟨o1, o2⟩ | ⟨k, hk, o1, o2⟩
  · left
    have hE := er_of h (c := 1) (by decide)
    refine ⟨o1, ?_⟩
    unfold Md_readOrder
    rw [o2, bs, if_pos rfl, bs, lu, d_no 0 a9, if_neg hE.1, bs, lu, e_dem 0 hE, e_adv 0 hE, bs, if_neg hE.1]
  · right
    have hk1 : ¬ nI k = -1 := q_m1 (by omega)
    by_cases h20 : c = 20
    · left
      have hE := er_of h (c := 4) (by decide)
      refine ⟨k, hk, o1, h20, ?_⟩
      unfold Md_readOrder
      rw [o2, bs, if_neg hk1, bs, lu, d_ok, if_pos a9, h29, h20, if_pos (show (20 : Int32) ≤ nI 20 by decide), bs, lu, d_no 0 a9, e_adv 0 hE, bs, if_neg hE.1]
    · right
      have hlt : c < 20 := by omega
      have g20 : ¬ (20 : Int32) ≤ nI c := nI_ge (b := 20) hlt (by omega)
      obtain ⟨s1, q1, W1, M1, f1, f2, f3, f4, f5⟩ := s_tok (ρ := 0) h.1
      have a1 := s_err f3
      have adv : Md_advance 0 M = some M1 := by
        unfold Md_advance
        rw [if_pos a9, f2, bs]
      have c1 : M1.1 29 = nI c := (f5.2 29 (by decide) (by decide) (by decide)).trans h29
      have e3 : (3 : Int32) * nI c = nI (3 * c) := by rw [show (3 : Int32) = nI 3 from rfl, pk_mul]
      have e31 : nI (3 * c) + 1 = nI (3 * c + 1) := nI_1 _
      have e32 : nI (3 * c) + 2 = nI (3 * c + 2) := by rw [show (2 : Int32) = nI 2 from rfl, nI_add]
      have head : Md_readOrder 0 M = Option.bind (Md_readNumber 0 (setA M1 11 (upd (M1.2 11) (3 * c) (nI k))) (nI (fL k)) (nI (fM k))) fun q_1186 => Option.bind (Md_readSecond 0 (setA q_1186.2 11 (upd (q_1186.2.2 11) (3 * c + 1) q_1186.1)) (nI k)) fun q_1188 => Option.bind (Md_expect 0 (setA q_1188.2 11 (upd (q_1188.2.2 11) (3 * c + 2) q_1188.1)) 59) fun M_1190 => some (setF M_1190 29 ((M_1190.1 29) + 1)) := by
        unfold Md_readOrder
        simp only [o2, bs, if_neg hk1, lu, d_ok, if_pos a9, h29, if_neg g20, adv, if_pos a1, c1, e3, e31, e32, if_pos (q_in (show 3 * c < 60 by omega) (by omega)), if_pos (q_in (show 3 * c + 1 < 60 by omega) (by omega)), if_pos (q_in (show 3 * c + 2 < 60 by omega) (by omega)), q_cl (show 3 * c < 100000 by omega), q_cl (show 3 * c + 1 < 100000 by omega), q_cl (show 3 * c + 2 < 100000 by omega), r_first hk]
      obtain ⟨N1, hN1⟩ : ∃ N1, N1 = setA M1 11 (upd (M1.2 11) (3 * c) (nI k)) := ⟨_, rfl⟩
      rw [← hN1] at head
      have T1 : TK b n W1 N1 s1 q1 := by rw [hN1]; exact f3.arr rfl (setA_n _ _ (by decide))
      have fm1 : FrM2 M N1 := by rw [hN1]; exact f5.two.tr (FrM2.ar _ _)
      have n29 : N1.1 29 = nI c := by rw [hN1]; exact c1
      have n11 : N1.2 11 = upd (M.2 11) (3 * c) (nI k) := by rw [hN1, setA_s, f5.1]
      have hS1 : SR W1 M c := hS.fr f4.2.1 f4.2.2.1 (fun _ _ => rfl)
      have aN1 := s_err T1
      have sec : ∀ X, ER X → Md_readSecond 0 X (nI k) = some (0, X) := fun X hX => by
        rw [r_second hk]
        split
        · rfl
        · exact e_num 0 hX 0 _
      have ea2 : ∀ {V : WM} {X : MdM} (f g : Nat → Int32) (v : Int32), EA V X → EA V (setF (setA (setA X 11 f) 11 g) 29 v) := fun f g v hX => by
        refine ⟨?_, ?_, ?_⟩
        · rw [setF_n _ _ (by decide)]; exact hX.1
        · rw [setF_n _ _ (by decide)]; exact hX.2.1
        · rw [setF_n _ _ (by decide)]; exact hX.2.2
      rcases p_nx f1 T1 (fLM hk).1 (fLM hk).2.1 with ⟨x, x1, x2, x3, x4, x5⟩ | ⟨c', x1, x2, x3⟩
      · obtain ⟨s2, q2, W2, M2, m1, m2, m3, m4, m5⟩ := s_tok (ρ := 0) T1.1
        have aM2 := s_err m3
        have num1 : Md_readNumber 0 N1 (nI (fL k)) (nI (fM k)) = some (nI x, M2) := by
          unfold Md_readNumber Md_advance
          simp only [lu, x5, bs, if_pos aN1, m2]
        have r11 : M2.2 11 = upd (M.2 11) (3 * c) (nI k) := by rw [m5.1, n11]
        by_cases hS2 : oS k = -1
        · have href : Md_readOrder 0 M = Option.bind (Md_expect 0 (setA M2 11 (upd (upd (upd (M.2 11) (3 * c) (nI k)) (3 * c + 1) (nI x)) (3 * c + 2) 0)) 59) fun M_1190 => some (setF M_1190 29 ((M_1190.1 29) + 1)) := by
            rw [head, num1, bs]
            try dsimp only
            rw [r_second hk, if_pos hS2, bs]
            try dsimp only
            rw [setA_A, setA_s, r11]
          have hcomp : Ps_readNumbers k W = Option.bind (Sc_add k W1 (nI x) (-1)) fun M_1345 => Option.bind (Tk_next M_1345) fun M_1346 => Option.bind (Ps_isEnded M_1346) fun q_1347 => if q_1347.1 = 0 ∨ q_1347.1 = 1 then (some ((q_1347.1, q_1347.2))) else none := by
            unfold Ps_readNumbers
            simp only [fL_o hk, fM_o hk, x3, bs, lu, show Tk_value W1 = nI x from x4, if_neg (show ¬ (1 : Int32) = 0 by decide), if_pos hS2]
          rcases o_fin (y := 0) (yv := -1) T1.1 m2 hS1 n29 hlt hk x1 x2 (Nat.zero_le _) (fun q => absurd hS2 q) (upd (upd (upd (M.2 11) (3 * c) (nI k)) (3 * c + 1) (nI x)) (3 * c + 2) 0) (fun j hj => (if_neg (by omega)).trans ((if_neg (by omega)).trans (if_neg (by omega)))) ((if_neg (by omega)).trans ((if_neg (by omega)).trans (if_pos rfl))) ((if_neg (by omega)).trans (if_pos rfl)) (fun q => absurd hS2 q) with ⟨V, s', q, W', V1, M', g1, g2, g3, g4, g5, g6, g7, g8, g9, g10, g11⟩ | ⟨V, V1, M', g1, g2, g3, g4, g5, g6, g7⟩
          · right
            refine ⟨k, s', q, V1, W', M', hk, o1, hlt, ?_, g4, href.trans g5, g6, g7, g8, g9.trans (f4.2.2.2 6 (by decide) (by decide) (by decide) (by decide)), f4.two.tr g10, fm1.tr g11⟩
            rw [hcomp, g1, bs, g2, bs, g3, bs, if_pos (Or.inr rfl)]
          · left
            refine ⟨k, Wf V1 1, M', hk, o1, hlt, ?_, href.trans g4, g5, f4.two.tr g6, fm1.tr g7⟩
            rw [hcomp, g1, bs, g2, bs, g3, bs, if_pos (Or.inl rfl)]
        · obtain ⟨N2, hN2⟩ : ∃ N2, N2 = setA M2 11 (upd (M2.2 11) (3 * c + 1) (nI x)) := ⟨_, rfl⟩
          have T2 : TK b n W2 N2 s2 q2 := by rw [hN2]; exact m3.arr rfl (setA_n _ _ (by decide))
          have fm2 : FrM2 M N2 := by rw [hN2]; exact (fm1.tr m5.two).tr (FrM2.ar _ _)
          have n229 : N2.1 29 = nI c := by rw [hN2]; exact (m5.2 29 (by decide) (by decide) (by decide)).trans n29
          have n211 : N2.2 11 = upd (upd (M.2 11) (3 * c) (nI k)) (3 * c + 1) (nI x) := by rw [hN2, setA_s, r11]
          have hSW2 : SR W2 M c := hS1.fr m4.2.1 m4.2.2.1 (fun _ _ => rfl)
          have aN2 := s_err T2
          have head2 : Md_readOrder 0 M = Option.bind (Md_readNumber 0 N2 0 (nI (fS k))) fun q_1188 => Option.bind (Md_expect 0 (setA q_1188.2 11 (upd (q_1188.2.2 11) (3 * c + 2) q_1188.1)) 59) fun M_1190 => some (setF M_1190 29 ((M_1190.1 29) + 1)) := by
            rw [head, num1, bs]
            try dsimp only
            rw [← hN2, r_second hk, if_neg hS2]
          rcases p_nx m1 T2 (lo := 0) (Nat.zero_le (fS k)) (fLM hk).2.2 with ⟨y, y1, y2, y3, y4, y5⟩ | ⟨c', y1, y2, y3⟩
          · have y3 : Ps_readNumber W1 0 (nI (fS k)) = some (1, W2) := y3
            have y5 : Md_look 0 N2 0 (nI (fS k)) = some (nI y, N2) := y5
            obtain ⟨s3, q3, W3, M3, l1, l2, l3, l4, l5⟩ := s_tok (ρ := 0) T2.1
            have num2 : Md_readNumber 0 N2 0 (nI (fS k)) = some (nI y, M3) := by
              unfold Md_readNumber Md_advance
              simp only [lu, y5, bs, if_pos aN2, l2]
            have href : Md_readOrder 0 M = Option.bind (Md_expect 0 (setA M3 11 (upd (upd (upd (M.2 11) (3 * c) (nI k)) (3 * c + 1) (nI x)) (3 * c + 2) (nI y))) 59) fun M_1190 => some (setF M_1190 29 ((M_1190.1 29) + 1)) := by
              rw [head2, num2, bs]
              try dsimp only
              rw [l5.1, n211]
            have hcomp : Ps_readNumbers k W = Option.bind (Sc_add k W2 (nI x) (nI y)) fun M_1352 => Option.bind (Tk_next M_1352) fun M_1353 => Option.bind (Ps_isEnded M_1353) fun q_1354 => if q_1354.1 = 0 ∨ q_1354.1 = 1 then (some ((q_1354.1, q_1354.2))) else none := by
              unfold Ps_readNumbers
              simp only [fL_o hk, fM_o hk, x3, bs, lu, show Tk_value W1 = nI x from x4, if_neg (show ¬ (1 : Int32) = 0 by decide), if_neg hS2]
              simp only [fS_o hk hS2, y3, bs, show Tk_value W2 = nI y from y4, if_neg (show ¬ (1 : Int32) = 0 by decide)]
            have fw2 : FrW2 W W2 := f4.two.tr m4.two
            rcases o_fin (y := y) (yv := nI y) T2.1 l2 hSW2 n229 hlt hk x1 x2 y2 (fun _ => rfl) (upd (upd (upd (M.2 11) (3 * c) (nI k)) (3 * c + 1) (nI x)) (3 * c + 2) (nI y)) (fun j hj => (if_neg (by omega)).trans ((if_neg (by omega)).trans (if_neg (by omega)))) ((if_neg (by omega)).trans ((if_neg (by omega)).trans (if_pos rfl))) ((if_neg (by omega)).trans (if_pos rfl)) (fun _ => if_pos rfl) with ⟨V, s', q, W', V1, M', g1, g2, g3, g4, g5, g6, g7, g8, g9, g10, g11⟩ | ⟨V, V1, M', g1, g2, g3, g4, g5, g6, g7⟩
            · right
              refine ⟨k, s', q, V1, W', M', hk, o1, hlt, ?_, g4, href.trans g5, g6, g7, g8, (g9.trans (m4.2.2.2 6 (by decide) (by decide) (by decide) (by decide))).trans (f4.2.2.2 6 (by decide) (by decide) (by decide) (by decide)), fw2.tr g10, fm2.tr g11⟩
              rw [hcomp, g1, bs, g2, bs, g3, bs, if_pos (Or.inr rfl)]
            · left
              refine ⟨k, Wf V1 1, M', hk, o1, hlt, ?_, href.trans g4, g5, fw2.tr g6, fm2.tr g7⟩
              rw [hcomp, g1, bs, g2, bs, g3, bs, if_pos (Or.inl rfl)]
          · left
            have y2 : Ps_readNumber W1 0 (nI (fS k)) = some (0, Wf W2 c') := y2
            have y3 : Md_look 0 N2 0 (nI (fS k)) = some (0, Mf N2 c') := y3
            have hE := er_of T2 y1
            have num2 : Md_readNumber 0 N2 0 (nI (fS k)) = some (0, Mf N2 c') := by
              unfold Md_readNumber
              simp only [lu, y3, bs, e_adv 0 hE]
            refine ⟨k, Wf W2 c', setF (setA (Mf N2 c') 11 (upd ((Mf N2 c').2 11) (3 * c + 2) 0)) 29 ((setA (Mf N2 c') 11 (upd ((Mf N2 c').2 11) (3 * c + 2) 0)).1 29 + 1), hk, o1, hlt, ?_, ?_, ?_, (f4.two.tr m4.two).tr (FrW2.wf _ _), ((fm2.tr (FrM2.mf _ _)).tr (FrM2.ar _ _)).tr (FrM2.cn _ _)⟩
            · unfold Ps_readNumbers
              simp only [fL_o hk, fM_o hk, x3, bs, lu, show Tk_value W1 = nI x from x4, if_neg (show ¬ (1 : Int32) = 0 by decide), if_neg hS2]
              simp only [fS_o hk hS2, y2, bs, if_true]
            · rw [head2, num2, bs]
              try dsimp only
              rw [e_exp 0 (er_a hE 11 _), bs]
            · have := ea2 ((Mf N2 c').2 11) (upd ((Mf N2 c').2 11) (3 * c + 2) 0) ((setA (Mf N2 c') 11 (upd ((Mf N2 c').2 11) (3 * c + 2) 0)).1 29 + 1) (ea_of T2 y1)
              rw [setA_A] at this
              exact this
      · left
        have hE := er_of T1 x1
        have num1 : Md_readNumber 0 N1 (nI (fL k)) (nI (fM k)) = some (nI (fL k), Mf N1 c') := by
          unfold Md_readNumber
          simp only [lu, x3, bs, e_adv 0 hE]
        obtain ⟨X, hX⟩ : ∃ X, X = setA (Mf N1 c') 11 (upd ((Mf N1 c').2 11) (3 * c + 1) (nI (fL k))) := ⟨_, rfl⟩
        have hEX : ER X := by rw [hX]; exact er_a hE 11 _
        have ea := ea2 (upd ((Mf N1 c').2 11) (3 * c + 1) (nI (fL k))) (upd (X.2 11) (3 * c + 2) 0) ((setA X 11 (upd (X.2 11) (3 * c + 2) 0)).1 29 + 1) (ea_of T1 x1)
        rw [← hX] at ea
        refine ⟨k, Wf W1 c', setF (setA X 11 (upd (X.2 11) (3 * c + 2) 0)) 29 ((setA X 11 (upd (X.2 11) (3 * c + 2) 0)).1 29 + 1), hk, o1, hlt, ?_, ?_, ea, f4.two.tr (FrW2.wf _ _), ?_⟩
        · unfold Ps_readNumbers
          simp only [fL_o hk, fM_o hk, x2, bs, if_true]
        · rw [head, num1, bs]
          try dsimp only
          rw [← hX, sec X hEX, bs]
          try dsimp only
          rw [e_exp 0 (er_a hEX 11 _), bs]
        · rw [hX]
          exact (((fm1.tr (FrM2.mf _ _)).tr (FrM2.ar _ _)).tr (FrM2.ar _ _)).tr (FrM2.cn _ _)
end OR
