/-! the text read whole -/
section Read
variable {T B : List Int32}
/-- a folder of the text -/
def flT (m : Nat) (e : Bool) : List Int32 := dg m ++ (if e then sx 5 else sx 6)
theorem ps_folder {M : WM} {pos m : Nat} {e : Bool} {R : List Int32} {A : AS} (h : TX T B M pos (32 :: (flT m e ++ R))) (hm : m < 1000) (hA : Rel (M.1 10) A) (hF : A.F < 24) (hr : A.row.length < 24) (hnew : ∀ i, i < A.F → A.mk i < 1000 ∧ A.mk i ≠ m) : ∃ M' pos', Ps_readFolder M = some (1, M') ∧ TX T B M' pos' R ∧ Rel (M'.1 10) (adA A m (if e then 3 else 0)) ∧ (∀ k, 5 ≤ k → M'.2.2.1 k = M.2.2.1 k) := by
  have hpl : ∀ N : StM, Rel N A → lnpl (N.2 0) (nI m) = -1 := by
    intro N hN
    rw [hN.l0]
    rcases lp_cases (rg A.F (fun i => nI (A.mk i))) (nI m) with ⟨i, h1, h2, -, -⟩ | ⟨-, h1⟩
    · rw [rg_len] at h1
      rw [rg_d _ h1] at h2
      have := hnew i h1
      exact absurd ((q_eq (by omega) (by omega)).mp h2) this.2
    · exact h1
  cases e with
  | false =>
    have hT : flT m false ++ R = dg m ++ (59 :: R) := by
      show (dg m ++ [59]) ++ R = _
      rw [List.append_assoc]; rfl
    rw [hT] at h
    obtain ⟨M1, p1, e1, h1, s1, v1⟩ := ps_num (lo := 0) (hi := 9999) h (noD_59 R) hm (by omega) (by omega) (by omega)
    obtain ⟨M2, e2, h2, s2, k2⟩ := ps_semi h1
    have hA1 : Rel (M1.1 10) A := by rw [s1.1]; exact hA
    have hA2 : Rel (M2.1 10) A := by rw [s2.1]; exact hA1
    have hn := e_addF hA2 m 0 hF hr
    have e1 : Ps_readNumber M 0 9999 = some (1, M1) := e1
    refine ⟨setS M2 10 (St_addFolder (M2.1 10) (nI m) 0), p1 + 1, ?_, h2, hn, fun k hk => (s2.2 k hk).trans (s1.2 k hk)⟩
    unfold Ps_readFolder
    rw [e1]
    simp only [bs, ltb]
    rw [if_neg (show ¬ (1 : Int32) = 0 by decide), v1, if_pos (hpl _ hA1), e2]
    simp only [bs]
    rw [no_word (sx 2) k2 (by omega) (by omega)]
    simp only [bs]
    rw [if_pos True.intro, ps_ended (M := setS M2 10 (St_addFolder (M2.1 10) (nI m) 0)) k2]
    simp only [bs]
    rw [if_pos (Or.inr True.intro)]
  | true =>
    have hT : flT m true ++ R = dg m ++ (32 :: (sx 2 ++ (32 :: (dg 3 ++ (59 :: R))))) := by
      show (dg m ++ ([32] ++ sx 2 ++ [32] ++ dg 3 ++ [59])) ++ R = _
      simp only [List.append_assoc]; rfl
    rw [hT] at h
    obtain ⟨l1, l2, l3⟩ := sx_let 2 (by omega)
    obtain ⟨M1, p1, e1, h1, s1, v1⟩ := ps_num (lo := 0) (hi := 9999) h (noD_32 _) hm (by omega) (by omega) (by omega)
    obtain ⟨M2, e2, h2, s2, k2, w2⟩ := tk_word_b (noW_32 _) h1 l1 l2 l3
    obtain ⟨M3, p3, e3, h3, s3, v3⟩ := ps_num (lo := 0) (hi := 999) h2 (noD_59 R) (by omega) (by omega) (by omega) (by omega)
    obtain ⟨M4, e4, h4, s4, k4⟩ := ps_semi h3
    have hA1 : Rel (M1.1 10) A := by rw [s1.1]; exact hA
    have hA4 : Rel (M4.1 10) A := by rw [s4.1, s3.1, s2.1]; exact hA1
    have hn := e_addF hA4 m 3 hF hr
    have e1 : Ps_readNumber M 0 9999 = some (1, M1) := e1
    have e3 : Ps_readNumber M2 0 999 = some (1, M3) := e3
    refine ⟨setS M4 10 (St_addFolder (M4.1 10) (nI m) (nI 3)), p3 + 1, ?_, h4, hn, fun k hk => (s4.2 k hk).trans ((s3.2 k hk).trans ((s2.2 k hk).trans (s1.2 k hk)))⟩
    unfold Ps_readFolder
    rw [e1]
    simp only [bs, ltb]
    rw [if_neg (show ¬ (1 : Int32) = 0 by decide), v1, if_pos (hpl _ hA1), e2]
    simp only [bs]
    rw [w2]
    simp only [bs]
    rw [if_neg (show ¬ (1 : Int32) = 0 by decide), e3]
    simp only [bs]
    rw [if_neg (show ¬ (1 : Int32) = 0 by decide), e4]
    simp only [bs]
    rw [v3, ps_ended (M := setS M4 10 (St_addFolder (M4.1 10) (nI m) (nI 3))) k4]
    simp only [bs]
    rw [if_pos (Or.inr True.intro)]
theorem ps_head {M : WM} {t1 t2 t3 t4 : Nat} {R : List Int32} (h : TX T B M 0 (sx 0 ++ (32 :: (dg t1 ++ (32 :: (dg t2 ++ (32 :: (dg t3 ++ (32 :: (dg t4 ++ (59 :: R)))))))))) ) (h1 : 1 ≤ t1 ∧ t1 ≤ 14) (h2 : 1 ≤ t2 ∧ t2 ≤ 6) (h3 : 1 ≤ t3 ∧ t3 ≤ 8) (h4 : 1 ≤ t4 ∧ t4 ≤ 5) : ∃ M' pos', Ps_readHead M = some (1, M') ∧ TX T B M' pos' R ∧ Rel (M'.1 10) (bgA t1 t2 t3 t4) ∧ (∀ k, 5 ≤ k → M'.2.2.1 k = M.2.2.1 k) := by
  obtain ⟨l1, l2, l3⟩ := sx_let 0 (by omega)
  obtain ⟨M0, e0, g0, s0, -, w0⟩ := tk_word (noW_32 _) h l1 l2 l3
  obtain ⟨M1, p1, e1, g1, s1, v1⟩ := ps_num (lo := 1) (hi := 14) g0 (noD_32 _) (by omega) h1.1 h1.2 (by omega)
  obtain ⟨M2, p2, e2, g2, s2, v2⟩ := ps_num (lo := 1) (hi := 6) g1 (noD_32 _) (by omega) h2.1 h2.2 (by omega)
  obtain ⟨M3, p3, e3, g3, s3, v3⟩ := ps_num (lo := 1) (hi := 8) g2 (noD_32 _) (by omega) h3.1 h3.2 (by omega)
  obtain ⟨M4, p4, e4, g4, s4, v4⟩ := ps_num (lo := 1) (hi := 5) g3 (noD_59 _) (by omega) h4.1 h4.2 (by omega)
  obtain ⟨S, eS, hS⟩ := e_begin (M4.1 10) (t1 := t1) (t2 := t2) (t3 := t3) (t4 := t4) h3.2
  obtain ⟨M5, e5, g5, s5, k5⟩ := ps_semi (M := setS M4 10 S) g4
  have e1 : Ps_readNumber M0 1 14 = some (1, M1) := e1
  have e2 : Ps_readNumber M1 1 6 = some (1, M2) := e2
  have e3 : Ps_readNumber M2 1 8 = some (1, M3) := e3
  have e4 : Ps_readNumber M3 1 5 = some (1, M4) := e4
  refine ⟨M5, p4 + 1, ?_, g5, ?_, fun k hk => (s5.2 k hk).trans ((s4.2 k hk).trans ((s3.2 k hk).trans ((s2.2 k hk).trans ((s1.2 k hk).trans (s0.2 k hk)))))⟩
  · unfold Ps_readHead
    rw [e0]
    simp only [bs, ltb]
    rw [w0]
    simp only [bs]
    rw [if_neg (show ¬ (1 : Int32) = 0 by decide), e1]
    simp only [bs]
    rw [if_neg (show ¬ (1 : Int32) = 0 by decide), e2]
    simp only [bs]
    rw [if_neg (show ¬ (1 : Int32) = 0 by decide), e3]
    simp only [bs]
    rw [if_neg (show ¬ (1 : Int32) = 0 by decide), e4]
    simp only [bs]
    rw [if_neg (show ¬ (1 : Int32) = 0 by decide), v1, v2, v3, v4, eS]
    simp only [bs]
    rw [e5]
    simp only [bs]
    rw [ps_ended k5]
    simp only [bs]
    rw [if_pos (Or.inr True.intro)]
  · rw [s5.1]; exact hS
end Read
