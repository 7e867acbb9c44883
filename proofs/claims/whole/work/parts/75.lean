/-! a script, whole -/
section SC
variable {b : List Int32} {n s p : Nat} {W : WM} {M : MdM}
def PE (v : Int32) (M : MdM) : Option (Int32 × MdM) := lt' (Md_finish 0 M) fun q_1205 => if q_1205.1 = 0 then (Option.bind (Md_keep 0 q_1205.2) fun M_1207 => Option.bind (Md_record 0 M_1207) fun M_1208 => Md_play_L79 FU M_1208 v 0) else (some (((-10) - (q_1205.2.1 23), q_1205.2)))
def SE (W W' : WM) (M' : MdM) (r : Int32) : Prop := (r = 0 ∧ M'.1 23 = 0 ∧ W'.2.2.1 6 = W.2.2.1 6 ∧ ∃ c, c ≤ 20 ∧ SR W' M' c ∧ M'.1 29 = nI c) ∨ (¬ r = 0 ∧ M'.1 23 = r ∧ W'.2.2.1 6 = M'.1 24)
theorem SE.fr {W W1 W' : WM} {M' : MdM} {r : Int32} (h : SE W1 W' M' r) (h1 : W1.2.2.1 6 = W.2.2.1 6) : SE W W' M' r := by
  rcases h with ⟨a, b, c, d⟩ | h
  · exact Or.inl ⟨a, b, c.trans h1, d⟩
  · exact Or.inr h
theorem SE.ea {W W' : WM} {M' : MdM} (h : EA W' M') : SE W W' M' (W'.2.2.1 5) := Or.inr ⟨by rw [h.2.1]; exact h.1, h.2.1.symm, h.2.2⟩
theorem t_scriptL (L L' : Int32) : ∀ (m m' c s p : Nat) (W : WM) (M : MdM), TK b n W M s p → SR W M c → M.1 29 = nI c → c ≤ 20 → 21 - c < m → 21 - c < m' → ∃ r W2 M2, Ps_readScript_L18 m W L (nI c) = some (r, W2) ∧ Md_play_L33 m' M L' = PE L' M2 ∧ SE W W2 M2 r ∧ FrW2 W W2 ∧ FrM2 M M2 := by
  intro m
  induction m with
  | zero => intro m' c s p W M h hS h29 h1 h2; omega
  | succ m ih =>
    intro m' c s p W M h hS h29 h1 h2 h3
    cases m' with
    | zero => omega
    | succ m' =>
      have stop : ∀ M' : MdM, ¬ M'.1 23 = 0 → Md_play_L33 m' M' L' = PE L' M' := fun M' hM' => by
        cases m' with
        | zero => omega
        | succ m' =>
          unfold Md_play_L33 PE
          rw [if_neg hM']
      unfold Ps_readScript_L18 Md_play_L33
      rw [if_neg (show ¬ (20 : Int32) < nI c from nI_nlt (a := 20) h1 (by omega)), if_pos (s_err h)]
      unfold Tk_kind
      rcases h.2.2.2.2 with ⟨k1, k2⟩ | ⟨-, k⟩
      · rw [if_pos k1, if_pos k2]
        exact ⟨0, W, M, rfl, rfl, Or.inl ⟨rfl, s_err h, rfl, c, h1, hS, h29⟩, FrW2.rf W, FrM2.rf M⟩
      · have n1 : ¬ W.2.2.1 3 = 0 := by rcases k with ⟨k, -⟩ | ⟨k, -⟩ | ⟨k, -⟩ | ⟨k, -⟩ <;> rw [k] <;> decide
        have n2 : ¬ M.1 22 = 0 := by rcases k with ⟨-, k⟩ | ⟨-, k, -⟩ | ⟨-, k, -⟩ | ⟨-, k, -⟩ <;> rw [k] <;> decide
        rw [if_neg n1, if_neg n2]
        have n20 : c < 20 → ¬ nI c = 20 := fun g q => by have := (q_eq (b := 20) (by omega) (by omega)).mp q; omega
        rcases t_order h hS h29 h1 with ⟨e1, e2⟩ | ⟨k, hk, e1, rfl, e2⟩ | ⟨k, W', M', hk, e1, hlt, e2, e3, e4, e5, e6⟩ | ⟨k, s', q, W1, W', M', hk, e1, hlt, e2, e3, e4, e5, e6, e7, e8, e9, e10⟩
        · have ea := ea_of h (c := 1) (by decide)
          rw [e1, bs, e2, bs, stop _ ea.1]
          exact ⟨_, _, _, rfl, rfl, SE.ea ea, FrW2.wf W 1, FrM2.mf M 1⟩
        · have ea := ea_of h (c := 4) (by decide)
          rw [e1, bs, e2, bs, stop _ ea.1]
          simp only [oc, p_fail, lu, if_pos hk]
          rw [if_pos (show nI 20 = 20 from rfl)]
          exact ⟨_, _, _, rfl, rfl, SE.ea ea, FrW2.wf W 4, FrM2.mf M 4⟩
        · rw [e1, bs, e3, bs, stop _ e4.1]
          simp only [oc, if_pos hk, if_neg (n20 hlt), e2, bs]
          rw [if_pos trivial]
          exact ⟨_, _, _, rfl, rfl, SE.ea e4, e5, e6⟩
        · rw [e1, bs, e4, bs]
          simp only [oc, if_pos hk, if_neg (n20 hlt), e2, bs, if_neg (show ¬ (1 : Int32) = 0 by decide), e3, nI_1]
          obtain ⟨r, W2, M2, g1, g2, g3, g4, g5⟩ := ih m' (c + 1) s' q W' M' e5 e6 e7 (by omega) (by omega) (by omega)
          exact ⟨r, W2, M2, g1, g2, g3.fr e8, e9.tr g4, e10.tr g5⟩
/-- from where both begin -/
theorem t_script (L L' : Int32) (h : PS b n W M 0) (h3 : W.2.1 3 = []) (h4 : W.2.1 4 = []) (h29 : M.1 29 = 0) : ∃ r W2 M2, (Option.bind (Tk_next W) fun M_1358 => Ps_readScript_L18 FU M_1358 L 0) = some (r, W2) ∧ (Option.bind (Md_scan 0 M) fun M1 => Md_play_L33 FU M1 L') = PE L' M2 ∧ SE W W2 M2 r ∧ FrW2 W W2 ∧ FrM2 M M2 := by
  obtain ⟨s1, q1, W1, M1, f1, f2, f3, f4, f5⟩ := s_tok (ρ := 0) h
  rw [f1, f2, bs, bs]
  obtain ⟨r, W2, M2, g1, g2, g3, g4, g5⟩ := t_scriptL (b := b) (n := n) L L' FU FU 0 s1 q1 W1 M1 f3 ⟨by rw [f4.2.1, h3]; rfl, by rw [f4.2.1, h4]; rfl, fun i hi => absurd hi (Nat.not_lt_zero i)⟩ ((f5.2 29 (by decide) (by decide) (by decide)).trans h29) (by omega) (FU_gt (by omega)) (FU_gt (by omega))
  exact ⟨r, W2, M2, g1, g2, g3.fr (f4.2.2.2 6 (by decide) (by decide) (by decide) (by decide)), f4.two.tr g4, f5.two.tr g5⟩
end SC
