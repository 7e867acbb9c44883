/-! a text -/
section TX
variable {b : List Int32} {n s p : Nat} {W : WM} {M : MdM}
/-- how a reading ends -/
def TE (H : Int32) (W W' : WM) (M' : MdM) (r : Int32) : Prop := (r = 0 ∧ M'.1 23 = 0 ∧ W'.2.2.1 6 = W.2.2.1 6 ∧ ∃ c, c ≤ 24 ∧ DR H (W'.1 10) (M'.2 1) c) ∨ (¬ r = 0 ∧ M'.1 23 = r ∧ W'.2.2.1 6 = M'.1 24)
theorem t_body {H : Int32} {c : Nat} (L : Int32) (v1 v2 v3 v4 : Int32) (h : TK b n W M s p) (hD : DR H (W.1 10) (M.2 1) c) (hc : c ≤ 24) (m m' : Nat)
    (go : ∀ (s q : Nat) (W' : WM) (M' : MdM), TK b n W' M' s q → DR H (W'.1 10) (M'.2 1) (c + 1) → FrWo W W' → FrM1 M M' → c < 24 → ∃ r W2 M2, Ps_readArchive_L27 m W' L (nI (c + 1)) = some (r, W2) ∧ Md_readText_L67 1 m' M' v1 v2 v3 v4 = some M2 ∧ TE H W W2 M2 r ∧ FrW1 W W2 ∧ FrM1 M M2) (hm' : 0 < m') :
    ∃ r W2 M2, (Option.bind (Tk_isWord (sx 1) W) fun q_1317 => if q_1317 = 0 then (lt' (Ps_fail W 1) fun q_1319 => some ((q_1319.2.2.2.1 5, q_1319.2))) else (if nI c = 24 then (lt' (Ps_fail W 4) fun q_1321 => some ((q_1321.2.2.2.1 5, q_1321.2))) else (Option.bind (Ps_readFolder W) fun q_1322 => if q_1322.1 = 0 then (some ((q_1322.2.2.2.1 5, q_1322.2))) else (Option.bind (Tk_next q_1322.2) fun M_1324 => Ps_readArchive_L27 m M_1324 L (nI c + 1))))) = some (r, W2) ∧
      (Option.bind (Md_readFolder 1 M) fun M_1168 => Md_readText_L67 1 m' M_1168 v1 v2 v3 v4) = some M2 ∧ TE H W W2 M2 r ∧ FrW1 W W2 ∧ FrM1 M M2 := by
  have stop : ∀ M' : MdM, ¬ M'.1 23 = 0 → Md_readText_L67 1 m' M' v1 v2 v3 v4 = some M' := fun M' hM' => by
    cases m' with
    | zero => omega
    | succ m' =>
      unfold Md_readText_L67
      rw [if_neg hM']
  simp only [lu, p_fail, nI_1]
  have n24 : c < 24 → ¬ nI c = 24 := fun g q => by have := (q_eq (b := 24) (by omega) (by omega)).mp q; omega
  rcases t_folder h hD hc with ⟨e1, e2⟩ | ⟨e1, rfl, e2⟩ | ⟨e1, hlt, W', M', e2, e3, e4, e5, e6, e7⟩ | ⟨e1, hlt, s', q, W1, W', M', e2, e3, e4, e5, e6, e7, e8⟩
  · have ea := ea_of h (c := 1) (by decide)
    rw [e1, bs, if_pos rfl, e2, bs, stop _ ea.1]
    exact ⟨_, _, _, rfl, rfl, Or.inr ⟨by rw [ea.2.1]; exact ea.1, ea.2.1.symm, ea.2.2⟩, FrW1.wf W 1, FrM1.mf M 1⟩
  · have ea := ea_of h (c := 4) (by decide)
    rw [e1, bs, if_neg (by decide), if_pos (by decide), e2, bs, stop _ ea.1]
    exact ⟨_, _, _, rfl, rfl, Or.inr ⟨by rw [ea.2.1]; exact ea.1, ea.2.1.symm, ea.2.2⟩, FrW1.wf W 4, FrM1.mf M 4⟩
  · rw [e1, bs, if_neg (show ¬ (1 : Int32) = 0 by decide), if_neg (n24 hlt), e2, bs, e3, bs, stop _ e4.1]
    try dsimp only
    rw [if_pos rfl]
    exact ⟨_, _, _, rfl, rfl, Or.inr ⟨by rw [e4.2.1]; exact e4.1, e4.2.1.symm, e4.2.2⟩, e6, e7⟩
  · rw [e1, bs, if_neg (show ¬ (1 : Int32) = 0 by decide), if_neg (n24 hlt), e2, bs, e4, bs]
    try dsimp only
    rw [if_neg (show ¬ (1 : Int32) = 0 by decide), e3, bs]
    exact go s' q W' M' e5 e6 e7 e8 hlt
theorem TE.fr {H : Int32} {W W1 W' : WM} {M' : MdM} {r : Int32} (h : TE H W1 W' M' r) (h1 : W1.2.2.1 6 = W.2.2.1 6) : TE H W W' M' r := by
  rcases h with ⟨a, b, c, d⟩ | h
  · exact Or.inl ⟨a, b, c.trans h1, d⟩
  · exact Or.inr h
theorem t_loop {H : Int32} (L : Int32) (v1 v2 v3 v4 : Int32) : ∀ (m m' c s p : Nat) (W : WM) (M : MdM), TK b n W M s p → DR H (W.1 10) (M.2 1) c → 1 ≤ c → c ≤ 24 → 25 - c < m → 25 - c < m' → ∃ r W2 M2, Ps_readArchive_L27 m W L (nI c) = some (r, W2) ∧ Md_readText_L67 1 m' M v1 v2 v3 v4 = some M2 ∧ TE H W W2 M2 r ∧ FrW1 W W2 ∧ FrM1 M M2 := by
  intro m
  induction m with
  | zero => intro m' c s p W M h hD h1 h2 h3; omega
  | succ m ih =>
    intro m' c s p W M h hD h1 h2 h3 h4
    cases m' with
    | zero => omega
    | succ m' =>
      unfold Ps_readArchive_L27 Md_readText_L67
      rw [if_neg (show ¬ (24 : Int32) < nI c from nI_nlt (a := 24) h2 (by omega)), if_neg (nI_nle (by omega) (by omega)), if_pos (s_err h)]
      have body := t_body L v1 v2 v3 v4 h hD h2 m m' (fun s' q W' M' g1 g2 g3 g4 g5 => by
        obtain ⟨r, W2, M2, k1, k2, k3, k4, k5⟩ := ih m' (c + 1) s' q W' M' g1 g2 (by omega) (by omega) (by omega) (by omega)
        exact ⟨r, W2, M2, k1, k2, k3.fr g3.2, g3.1.tr k4, g4.tr k5⟩) (by omega)
      unfold Tk_kind
      rcases h.2.2.2.2 with ⟨k1, k2⟩ | ⟨-, k⟩
      · rw [if_pos k1, if_pos k2]
        exact ⟨0, W, M, rfl, rfl, Or.inl ⟨rfl, s_err h, rfl, c, h2, hD⟩, FrW1.rf W, FrM1.rf M⟩
      · have n1 : ¬ W.2.2.1 3 = 0 := by rcases k with ⟨k, -⟩ | ⟨k, -⟩ | ⟨k, -⟩ | ⟨k, -⟩ <;> rw [k] <;> decide
        have n2 : ¬ M.1 22 = 0 := by rcases k with ⟨-, k⟩ | ⟨-, k, -⟩ | ⟨-, k, -⟩ | ⟨-, k, -⟩ <;> rw [k] <;> decide
        rw [if_neg n1, if_neg n2]
        exact body
/-- a whole text, from where both begin -/
theorem t_text (L : Int32) (h : PS b n W M 0) : ∃ H r W2 M2, (Option.bind (Ps_readHead W) fun q_1310 => if q_1310.1 = 0 then (some ((q_1310.2.2.2.1 5, q_1310.2))) else (Option.bind (Tk_next q_1310.2) fun M_1312 => Ps_readArchive_L27 FU M_1312 L 0)) = some (r, W2) ∧
    (Option.bind (Md_scan 0 M) fun M1 => Md_readText 1 M1) = some M2 ∧ TE H W W2 M2 r ∧ FrW1 W W2 ∧ FrM1 M M2 := by
  obtain ⟨s1, q1, W1, M1, f1, f2, f3, f4, f5⟩ := s_tok (ρ := 0) h
  obtain ⟨r, hr, w1, w2⟩ := s_isWord (cs := sx 0) (by decide) f3
  have a1 := s_err f3
  -- how the reference ends behind an error
  have E0 : ∀ {M : MdM} (hE : ER M) (x1 x2 x3 x4 : Int32), (Option.bind (Md_begin 1 M x1 x2 x3 x4) fun M_1159 => Option.bind (Md_expect 1 M_1159 59) fun M_1160 => Option.bind (Md_readFolder 1 M_1160) fun M_1161 => Md_readText_L67 1 FU M_1161 x1 x2 x3 x4) = some (setA M 1 (gB (M.2 1) x1 x2 x3 x4)) := fun {M} hE x1 x2 x3 x4 => by
    have hE' : ER (setA M 1 (gB (M.2 1) x1 x2 x3 x4)) := er_a hE 1 _
    rw [m_begin, bs, e_exp 1 hE', bs, e_fold 1 hE', bs, e_L67 1 hE']
  have fin : ∀ {W0 W' : WM} {M0 M' : MdM} {s q : Nat} {c : Int32} (hT : TK b n W0 M0 s q) (hc : ¬ c = 0) (f : Nat → Int32) (fw : FrW1 W W0) (fm : FrM1 M M0), M' = setA (Mf M0 c) 1 f → W' = Wf W0 c → TE 0 W W' M' (W'.2.2.1 5) ∧ FrW1 W W' ∧ FrM1 M M' := fun {W0 W' M0 M' s q c} hT hc f fw fm e1 e2 => by
    have ea := ea_of hT hc
    rw [e1, e2]
    exact ⟨Or.inr ⟨by rw [ea.2.1]; exact ea.1, ea.2.1.symm, ea.2.2⟩, fw.tr (FrW1.wf W0 c), (fm.tr (FrM1.mf M0 c)).tr (FrM1.ar _ f)⟩
  unfold Ps_readHead Md_readText
  simp only [f1, f2, w1, w2, bs, lu, p_fail]
  rcases hr with rfl | rfl
  · have hE := er_of f3 (c := 1) (by decide)
    simp only [if_true, d_no 1 a1, e_adv 1 hE, e_num 1 hE, bs, E0 hE]
    rw [if_pos (Or.inl trivial), bs]
    try dsimp only
    rw [if_pos rfl]
    obtain ⟨g1, g2, g3⟩ := fin f3 (c := 1) (by decide) _ f4.one f5.one rfl rfl
    exact ⟨0, _, _, _, rfl, rfl, g1, g2, g3⟩
  · obtain ⟨s2, q2, W2, M2, e1, e2, e3, e4, e5⟩ := p_num (ρ := 1) f3.1 (lo := 1) (hi := 14) (by omega) (by omega) (by omega)
    have adv1 : Md_advance 1 M1 = some M2 := by
      unfold Md_advance
      rw [if_pos a1, e1, bs]
    have a2 := s_err e2
    simp only [if_neg (show ¬ (1 : Int32) = 0 by decide), d_ok, adv1, bs]
    rcases e5 with ⟨x, x1, x2, x3, x4, x5⟩ | ⟨c, x1, x2, x3⟩
    · have x3 : Ps_readNumber W1 1 14 = some (1, W2) := x3
      have x5 : Md_look 1 M2 1 14 = some (nI x, M2) := x5
      obtain ⟨s3, q3, W3, M3, g1, g2, g3, g4, g5⟩ := p_num (ρ := 1) e2.1 (lo := 1) (hi := 6) (by omega) (by omega) (by omega)
      have a3 := s_err g2
      have num1 : Md_readNumber 1 M2 1 14 = some (nI x, M3) := by
        unfold Md_readNumber Md_advance
        simp only [lu, x5, bs, if_pos a2, g1]
      simp only [x3, num1, bs, if_neg (show ¬ (1 : Int32) = 0 by decide)]
      rcases g5 with ⟨y, y1, y2, y3, y4, y5⟩ | ⟨c, y1, y2, y3⟩
      · have y3 : Ps_readNumber W2 1 6 = some (1, W3) := y3
        have y5 : Md_look 1 M3 1 6 = some (nI y, M3) := y5
        obtain ⟨s4, q4, W4, M4, k1, k2, k3, k4, k5⟩ := p_num (ρ := 1) g2.1 (lo := 1) (hi := 8) (by omega) (by omega) (by omega)
        have a4 := s_err k2
        have num2 : Md_readNumber 1 M3 1 6 = some (nI y, M4) := by
          unfold Md_readNumber Md_advance
          simp only [lu, y5, bs, if_pos a3, k1]
        simp only [y3, num2, bs, if_neg (show ¬ (1 : Int32) = 0 by decide)]
        rcases k5 with ⟨z, z1, z2, z3, z4, z5⟩ | ⟨c, z1, z2, z3⟩
        · have z3 : Ps_readNumber W3 1 8 = some (1, W4) := z3
          have z5 : Md_look 1 M4 1 8 = some (nI z, M4) := z5
          obtain ⟨s5, q5, W5, M5, l1, l2, l3, l4, l5⟩ := p_num (ρ := 1) k2.1 (lo := 1) (hi := 5) (by omega) (by omega) (by omega)
          have a5 := s_err l2
          have num3 : Md_readNumber 1 M4 1 8 = some (nI z, M5) := by
            unfold Md_readNumber Md_advance
            simp only [lu, z5, bs, if_pos a4, l1]
          simp only [z3, num3, bs, if_neg (show ¬ (1 : Int32) = 0 by decide)]
          have fw5 : FrWo W W5 := (((f4.oo.tr e3.oo).tr g3.oo).tr k3.oo).tr l3.oo
          have fm5 : FrM1 M M5 := (((f5.one.tr e4.one).tr g4.one).tr k4.one).tr l4.one
          rcases l5 with ⟨t, t1, t2, t3, t4, t5⟩ | ⟨c, t1, t2, t3⟩
          · have t3 : Ps_readNumber W4 1 5 = some (1, W5) := t3
            have t5 : Md_look 1 M5 1 5 = some (nI t, M5) := t5
            obtain ⟨D, b1, b2, b3, b4, b5, b6⟩ := s_begin (W5.1 10) (M5.2 1) (p := x) (h := y) (r := z) (l := t) (by omega) (by omega)
            obtain ⟨s6, q6, W6, M6, m1, m2, m3, m4, m5⟩ := s_tok (ρ := 1) l2.1
            have num4 : Md_readNumber 1 M5 1 5 = some (nI t, M6) := by
              unfold Md_readNumber Md_advance
              simp only [lu, t5, bs, if_pos a5, m2]
            -- the component's next behind begin
            have hps5 : PS b n (setS W5 10 D) M5 q5 := l2.1
            obtain ⟨s7, q7, W7, M7, n1, n2, n3, n4, n5⟩ := s_tok (ρ := 1) hps5
            have hM67 : M6 = M7 := Option.some.inj (m2.symm.trans n2)
            subst hM67
            have hval : Tk_value W2 = nI x ∧ Tk_value W3 = nI y ∧ Tk_value W4 = nI z ∧ Tk_value W5 = nI t := ⟨x4, y4, z4, t4⟩
            simp only [t3, num4, bs, if_neg (show ¬ (1 : Int32) = 0 by decide), hval.1, hval.2.1, hval.2.2.1, hval.2.2.2, b1, n1, m_begin]
            have hDR : DR (nI y) (W7.1 10) (gB (M6.2 1) (nI x) (nI y) (nI z) (nI t)) 0 := by
              rw [n4.1, setS_s, n5.1]
              exact ⟨b2, b6, by rw [b5]; rfl, b3, b4⟩
            have hT : TK b n W7 (setA M6 1 (gB (M6.2 1) (nI x) (nI y) (nI z) (nI t))) s7 q7 := n3.arr rfl rfl
            have fw7 : FrWo W W7 := ⟨(fw5.1.tr (FrW1.st W5 D)).tr n4.one, (n4.2.2.2 6 (by decide) (by decide) (by decide) (by decide)).trans fw5.2⟩
            have fm7 : FrM1 M (setA M6 1 (gB (M6.2 1) (nI x) (nI y) (nI z) (nI t))) := (fm5.tr n5.one).tr (FrM1.ar _ _)
            rcases p_end (ρ := 1) hT with ⟨s8, q8, W8, M8, o1, o2, o3, o4, o5, o6⟩ | ⟨o1, o2⟩
            · have hD8 : DR (nI y) (W8.1 10) (M8.2 1) 0 := by rw [o5.1, o6.1, setA_s]; exact hDR
              have fw8 : FrWo W W8 := fw7.tr o5.oo
              have fm8 : FrM1 M M8 := fm7.tr o6.one
              obtain ⟨r, V, N, u1, u2, u3, u4, u5⟩ := t_body L (nI x) (nI y) (nI z) (nI t) o4 hD8 (by omega) 999 FU (fun s' q W' M' g1 g2 g3 g4 g5 => by
                obtain ⟨r, W2, M2, k1, k2, k3, k4, k5⟩ := t_loop L (nI x) (nI y) (nI z) (nI t) 999 FU 1 s' q W' M' g1 g2 (by omega) (by omega) (by omega) (FU_gt (by omega))
                exact ⟨r, W2, M2, k1, k2, k3.fr g3.2, g3.1.tr k4, g4.tr k5⟩) (FU_gt (by omega))
              rw [o1, bs, o3, bs]
              try dsimp only
              rw [if_pos (Or.inr rfl), bs]
              try dsimp only
              rw [if_neg (show ¬ (1 : Int32) = 0 by decide), o2, bs]
              refine ⟨nI y, r, V, N, ?_, u2, u3.fr fw8.2, fw8.1.tr u4, fm8.tr u5⟩
              show Ps_readArchive_L27 (999 + 1) W8 L (nI 0) = _
              unfold Ps_readArchive_L27
              rw [if_neg (by decide), if_pos (by decide)]
              exact u1
            · rw [o1, bs, o2, bs]
              try dsimp only
              rw [if_pos (Or.inl rfl), bs]
              try dsimp only
              have hE := er_of hT (c := 1) (by decide)
              rw [if_pos rfl, e_fold 1 hE, bs, e_L67 1 hE]
              have ea := ea_of hT (c := 1) (by decide)
              exact ⟨0, _, _, _, rfl, rfl, Or.inr ⟨by rw [ea.2.1]; exact ea.1, ea.2.1.symm, ea.2.2⟩, fw7.1.tr (FrW1.wf _ 1), fm7.tr (FrM1.mf _ 1)⟩
          · have t2 : Ps_readNumber W4 1 5 = some (0, Wf W5 c) := t2
            have t3 : Md_look 1 M5 1 5 = some (1, Mf M5 c) := t3
            have hE := er_of l2 t1
            have num4 : Md_readNumber 1 M5 1 5 = some (1, Mf M5 c) := by
              unfold Md_readNumber
              simp only [lu, t3, bs, e_adv 1 hE]
            simp only [t2, num4, bs, if_true, E0 hE]
            obtain ⟨g1, g2, g3⟩ := fin l2 t1 _ fw5.1 fm5 rfl rfl
            exact ⟨0, _, _, _, rfl, rfl, g1, g2, g3⟩
        · have z2 : Ps_readNumber W3 1 8 = some (0, Wf W4 c) := z2
          have z3 : Md_look 1 M4 1 8 = some (1, Mf M4 c) := z3
          have hE := er_of k2 z1
          have num3 : Md_readNumber 1 M4 1 8 = some (1, Mf M4 c) := by
            unfold Md_readNumber
            simp only [lu, z3, bs, e_adv 1 hE]
          simp only [z2, num3, bs, if_true, e_num 1 hE, E0 hE]
          obtain ⟨g1, g2, g3⟩ := fin k2 z1 _ (((f4.one.tr e3.one).tr g3.one).tr k3.one) (((f5.one.tr e4.one).tr g4.one).tr k4.one) rfl rfl
          exact ⟨0, _, _, _, rfl, rfl, g1, g2, g3⟩
      · have y2 : Ps_readNumber W2 1 6 = some (0, Wf W3 c) := y2
        have y3 : Md_look 1 M3 1 6 = some (1, Mf M3 c) := y3
        have hE := er_of g2 y1
        have num2 : Md_readNumber 1 M3 1 6 = some (1, Mf M3 c) := by
          unfold Md_readNumber
          simp only [lu, y3, bs, e_adv 1 hE]
        simp only [y2, num2, bs, if_true, e_num 1 hE, E0 hE]
        obtain ⟨g1, g2, g3⟩ := fin g2 y1 _ ((f4.one.tr e3.one).tr g3.one) ((f5.one.tr e4.one).tr g4.one) rfl rfl
        exact ⟨0, _, _, _, rfl, rfl, g1, g2, g3⟩
    · have x2 : Ps_readNumber W1 1 14 = some (0, Wf W2 c) := x2
      have x3 : Md_look 1 M2 1 14 = some (1, Mf M2 c) := x3
      have hE := er_of e2 x1
      have num1 : Md_readNumber 1 M2 1 14 = some (1, Mf M2 c) := by
        unfold Md_readNumber
        simp only [lu, x3, bs, e_adv 1 hE]
      simp only [x2, num1, bs, if_true, e_num 1 hE, E0 hE]
      obtain ⟨g1, g2, g3⟩ := fin e2 x1 _ (f4.one.tr e3.one) (f5.one.tr e4.one) rfl rfl
      exact ⟨0, _, _, _, rfl, rfl, g1, g2, g3⟩
end TX
/-- load -/
theorem f_load {W : WM} {M : MdM} (h : WRel W M) (q : Int32) : E3 W ci1 (SA_load W q) (Md_load M q) := by
  obtain ⟨l1, l2, l3⟩ := h.2.2.2.2.1
  unfold SA_load Md_load
  rw [l2]
  have thr : ∀ x : Option (Nat ⊕ (Int32 × WM)), x = some (.inl 0) → E3 W ci1 x (lt' (Md_raise 0 (setF M 9 0) 1) fun q_1192 => some ((q_1192.1, q_1192.2))) := fun x hx => by
    rw [hx, lu]
    exact Or.inl ⟨0, _, _, rfl, rfl, setF_s _ _ _, (h.thr 0).thr 1⟩
  by_cases h0 : q < 0
  · rw [if_pos h0, inr_lo h0, if_pos rfl]
    exact thr _ rfl
  · obtain ⟨n, hn, rfl⟩ := nI_of h0
    rw [if_neg h0]
    by_cases h1 : n ≤ (W.2.1 0).length
    · rw [if_pos (nI_le h1 (by omega)), inr_in h0 (nI_nlt h1 (by omega)), if_neg (show ¬ (1 : Int32) = 0 by decide)]
      -- both begin
      unfold Md_startText Ps_readArchive
      have hps : PS (W.2.1 0) n (Ps_begin W (nI n)) (setF (setF (setF (setF (setF M 9 0) 19 (nI n)) 20 0) 23 0) 26 0) 0 := by
        refine ⟨rfl, l1, h1, ?_, ?_, Nat.zero_le _, ?_, ?_, ?_, l3⟩
        · exact (wi_n _ _ (by decide)).trans (wi_s _ _ _)
        · exact wi_s _ _ _
        · exact (setF_n _ _ (by decide)).trans ((setF_n _ _ (by decide)).trans ((setF_n _ _ (by decide)).trans (setF_s _ _ _)))
        · exact (setF_n _ _ (by decide)).trans ((setF_n _ _ (by decide)).trans (setF_s _ _ _))
        · exact (setF_n _ _ (by decide)).trans (setF_s _ _ _)
      obtain ⟨H, r, W2, M2, e1, e2, e3, e4, e5⟩ := t_text (nI n) hps
      have e2' : (Option.bind (Option.bind (Md_scan 0 (setF (setF (setF (setF (setF M 9 0) 19 (nI n)) 20 0) 23 0) 26 0)) fun M_1015 => some (M_1015)) fun M_1193 => Option.bind (Md_readText 1 M_1193) fun M_1194 => lt' (Md_finish 0 M_1194) fun q_1195 => if q_1195.1 = 0 then (Option.bind (Md_copy q_1195.2 1 0 0 0) fun M_1197 => some (((M_1197.2 0) (5 : Int32).toNatClampNeg, setF (setF M_1197 8 0) 10 0))) else (some (((-10) - (q_1195.2.1 23), q_1195.2)))) = (lt' (Md_finish 0 M2) fun q_1195 => if q_1195.1 = 0 then (Option.bind (Md_copy q_1195.2 1 0 0 0) fun M_1197 => some (((M_1197.2 0) (5 : Int32).toNatClampNeg, setF (setF M_1197 8 0) 10 0))) else (some (((-10) - (q_1195.2.1 23), q_1195.2)))) := by
        cases hsc : Md_scan 0 (setF (setF (setF (setF (setF M 9 0) 19 (nI n)) 20 0) 23 0) 26 0) with
        | none => rw [hsc] at e2; exact absurd e2 (by intro q; cases q)
        | some M1 =>
          rw [hsc, bs] at e2
          rw [bs, bs, e2, bs]
      rw [lu, e1, bs, e2', lu, lu]
      -- what is kept
      obtain ⟨b1, b2, ⟨a, c, c1, c2, c3, c4, c5, c6⟩, b4, b5, b6, b7⟩ := h
      have wl : ∀ (U : WM) (j : Nat), j ≠ 0 → (setWL U 0 []).2.1 j = U.2.1 j := fun U j hj => if_neg hj
      have m2 : ∀ j, j ≠ 1 → M2.2 j = M.2 j := fun j hj => e5.1 j hj
      have m1 : ∀ k, (k < 20 ∨ 24 < k) → k ≠ 19 → k ≠ 26 → k ≠ 9 → M2.1 k = M.1 k := fun k g1 g2 g3 g4 => by
        rw [e5.2 k g1, setF_n _ _ g3, setF_n _ _ (by omega), setF_n _ _ (by omega), setF_n _ _ g2, setF_n _ _ g4]
      have s2 : ∀ j, j ≠ 10 → W2.1 j = W.1 j := fun j hj => e4.1 j hj
      have i2 : ∀ k, 6 < k → W2.2.2.1 k = W.2.2.1 k := fun k hk => by
        rw [e4.2.2.2 k (Or.inr hk)]
        exact (wi_n _ _ (by omega)).trans ((wi_n _ _ (by omega)).trans ((wi_n _ _ (by omega)).trans (wi_n _ _ (by omega))))
      have ls2 : W2.2.1 = W.2.1 := e4.2.1
      have m9 : M2.1 9 = 0 := by
        rw [e5.2 9 (by omega), setF_n _ _ (by decide), setF_n _ _ (by decide), setF_n _ _ (by decide), setF_n _ _ (by decide)]
        exact setF_s _ _ _
      rcases e3 with ⟨rfl, g1, g2, cc, g3, g4, g5, g6, g7, g8⟩ | ⟨g0, g1, g2⟩
      · -- the text is read
        have w6 : W2.2.2.1 6 = -1 := g2.trans ((wi_n _ _ (by decide)).trans ((wi_n _ _ (by decide)).trans (wi_s _ _ _)))
        unfold Md_finish
        rw [if_pos g1]
        simp only [if_pos g1, if_true, lu]
        rw [show Md_copy (setF (setF M2 18 0) 25 (-1)) 1 0 0 0 = _ from m_copy (M := setF (setF M2 18 0) 25 (-1)) (a := 0) (b := 0) (i := 1) (j := 0) (by decide) (by decide) (by decide) (by decide), bs, tn5]
        have hf0 : (setA (setF (setF M2 18 0) 25 (-1)) 0 (va_cpy ((setF (setF M2 18 0) 25 (-1)).2 1) ((setF (setF M2 18 0) 25 (-1)).2 0) (257 * 0) (257 * 0) 257)).2 0 5 = nI (((St_copyFrom (W2.1 10) (W2.1 9)).2 0).length) := by
          rw [setA_s, cpy0 _ _ _ (by decide), cp_l g4.sz _ 0 (by decide) (by decide) (by decide)]
          exact g4.rel.nf
        rw [hf0]
        refine Or.inr ⟨_, _, setF (setF (setA (setF (setF M2 18 0) 25 (-1)) 0 (va_cpy ((setF (setF M2 18 0) 25 (-1)).2 1) ((setF (setF M2 18 0) 25 (-1)).2 0) (257 * 0) (257 * 0) 257)) 8 0) 10 0, rfl, ?_, ?_, ?_⟩
        · rfl
        · show (setF (setF (setF (setF M2 18 0) 25 (-1)) 8 0) 10 0).1 9 = 0
          rw [setF_n _ _ (by decide), setF_n _ _ (by decide), setF_n _ _ (by decide), setF_n _ _ (by decide)]
          exact m9
        · refine ⟨?_, ?_, ⟨a, 0, c1, by omega, ?_, rfl, ?_, fun k hk => absurd hk (Nat.not_lt_zero k)⟩, ?_, ?_, ?_, ?_⟩
          · refine Top.ext (f := M2.2 1) (Top.copy (A2 := W2.1 10) ⟨?_, 0, by omega, g7⟩ (W2.1 9)) (fun j hj => ?_)
            · rw [g8]; exact g4
            · show va_cpy ((setF (setF M2 18 0) 25 (-1)).2 1) ((setF (setF M2 18 0) 25 (-1)).2 0) (257 * 0) (257 * 0) 257 j = _
              rw [cpy0 _ _ _ hj]; rfl
          · show (W2.2.1 2).length = 3 ∧ ∀ k, k < 3 → M2.2 6 k = (W2.2.1 2).getD k 0
            rw [ls2, m2 6 (by decide)]
            exact b2
          · exact (i2 7 (by omega)).trans c3
          · exact (setF_n _ _ (by decide)).trans (setF_s _ _ _)
          · exact ⟨(setF_s _ _ _).symm, Or.inl (setF_s _ _ _)⟩
          · exact ⟨Nat.zero_le _, show (setF (setF (setF (setF M2 18 0) 25 (-1)) 8 0) 10 0).1 18 = 0 from by rw [setF_n _ _ (by decide), setF_n _ _ (by decide), setF_n _ _ (by decide), setF_s], fun i hi => absurd hi (Nat.not_lt_zero i)⟩
          · show (W2.2.1 1).length ≤ 128 ∧ (setF (setF (setF (setF M2 18 0) 25 (-1)) 8 0) 10 0).1 16 = nI (W2.2.1 1).length ∧ ∀ i, i < (W2.2.1 1).length → M2.2 9 i = (W2.2.1 1).getD i 0
            rw [ls2, m2 9 (by decide), setF_n _ _ (by decide), setF_n _ _ (by decide), setF_n _ _ (by decide), setF_n _ _ (by decide), m1 16 (by omega) (by decide) (by decide) (by decide)]
            exact b6
          · show W2.2.2.1 6 = (setF (setF (setF (setF M2 18 0) 25 (-1)) 8 0) 10 0).1 25
            rw [w6, setF_n _ _ (by decide), setF_n _ _ (by decide), setF_s]
      · -- an error
        have hne : ¬ M2.1 23 = 0 := by rw [g1]; exact g0
        unfold Md_finish
        rw [if_neg hne]
        simp only [lu, if_neg g0, if_neg hne]
        refine Or.inr ⟨_, _, setF (setF M2 18 0) 25 (M2.1 24), rfl, ?_, ?_, ?_⟩
        · show some ((-10) - (setF (setF M2 18 0) 25 (M2.1 24)).1 23, _) = some ((-10) - r, _)
          rw [setF_n _ _ (by decide), setF_n _ _ (by decide), g1]
        · show (setF (setF M2 18 0) 25 (M2.1 24)).1 9 = 0
          rw [setF_n _ _ (by decide), setF_n _ _ (by decide)]
          exact m9
        · refine ⟨?_, ?_, ⟨a, c, c1, c2, ?_, ?_, ?_, fun k hk => ?_⟩, ?_, ?_, ?_, ?_⟩
          · show Top (W2.1 9) (M2.2 0)
            rw [s2 9 (by decide), m2 0 (by decide)]; exact b1
          · show (W2.2.1 2).length = 3 ∧ ∀ k, k < 3 → M2.2 6 k = (W2.2.1 2).getD k 0
            rw [ls2, m2 6 (by decide)]
            exact b2
          · exact (i2 7 (by omega)).trans c3
          · exact (i2 8 (by omega)).trans c4
          · exact (setF_n _ _ (by decide)).trans ((setF_n _ _ (by decide)).trans ((m1 8 (by omega) (by decide) (by decide) (by decide)).trans c5))
          · show Top (W2.1 ((a + k) % 9)) (fun j => M2.2 5 (257 * k + j))
            rw [s2 _ (by have := Nat.mod_lt (a + k) (show 9 > 0 by decide); omega), m2 5 (by decide)]
            exact c6 k hk
          · show W2.2.2.1 9 = (setF (setF M2 18 0) 25 (M2.1 24)).1 10 ∧ ((setF (setF M2 18 0) 25 (M2.1 24)).1 10 = 0 ∨ ((setF (setF M2 18 0) 25 (M2.1 24)).1 10 = 1 ∧ Top (W2.1 11) (M2.2 4)))
            rw [setF_n _ _ (by decide), setF_n _ _ (by decide), m1 10 (by omega) (by decide) (by decide) (by decide), i2 9 (by omega), s2 11 (by decide), m2 4 (by decide)]
            exact b4
          · exact ⟨Nat.zero_le _, (setF_n _ _ (by decide)).trans (setF_s _ _ _), fun i hi => absurd hi (Nat.not_lt_zero i)⟩
          · show (W2.2.1 1).length ≤ 128 ∧ (setF (setF M2 18 0) 25 (M2.1 24)).1 16 = nI (W2.2.1 1).length ∧ ∀ i, i < (W2.2.1 1).length → M2.2 9 i = (W2.2.1 1).getD i 0
            rw [ls2, m2 9 (by decide), setF_n _ _ (by decide), setF_n _ _ (by decide), m1 16 (by omega) (by decide) (by decide) (by decide)]
            exact b6
          · show W2.2.2.1 6 = (setF (setF M2 18 0) 25 (M2.1 24)).1 25
            rw [g2, setF_s]
    · rw [if_neg (nI_ge (by omega) hn), inr_hi (nI_lt (by omega) hn), if_pos rfl]
      exact thr _ rfl
