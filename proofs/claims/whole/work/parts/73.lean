/-! a script -/
def fL (k : Nat) : Nat := if k = 3 ∨ k = 5 then 1 else 0
def fM (k : Nat) : Nat := if k = 0 then 7 else if k = 1 then 15 else if k = 3 then 60 else if k = 5 then 99 else 9999
def fS (k : Nat) : Nat := if k = 0 then 9999 else if k = 4 then 23 else if k = 6 then 999 else 0
theorem k7 {k : Nat} (h : k < 7) : k = 0 ∨ k = 1 ∨ k = 2 ∨ k = 3 ∨ k = 4 ∨ k = 5 ∨ k = 6 := by omega
theorem fL_o {k : Nat} (h : k < 7) : oL k = nI (fL k) := by
  rcases k7 h with rfl | rfl | rfl | rfl | rfl | rfl | rfl <;> rfl
theorem fM_o {k : Nat} (h : k < 7) : oM k = nI (fM k) := by
  rcases k7 h with rfl | rfl | rfl | rfl | rfl | rfl | rfl <;> rfl
theorem fS_o {k : Nat} (h : k < 7) (h' : ¬ oS k = -1) : oS k = nI (fS k) := by
  rcases k7 h with rfl | rfl | rfl | rfl | rfl | rfl | rfl <;> first | rfl | exact absurd rfl h'
theorem fLM {k : Nat} (h : k < 7) : fL k ≤ fM k ∧ fM k ≤ 9999 ∧ fS k ≤ 9999 := by
  rcases k7 h with rfl | rfl | rfl | rfl | rfl | rfl | rfl <;> decide
theorem oeta (x : Option (Int32 × MdM)) : (Option.bind x fun q => some (q.1, q.2)) = x := by
  cases x <;> rfl
theorem r_first {k : Nat} (h : k < 7) (ρ : Nat) (M : MdM) : Md_readFirst ρ M (nI k) = Md_readNumber ρ M (nI (fL k)) (nI (fM k)) := by
  unfold Md_readFirst
  simp only [oeta]
  rcases k7 h with rfl | rfl | rfl | rfl | rfl | rfl | rfl <;> rfl
theorem r_second {k : Nat} (h : k < 7) (ρ : Nat) (M : MdM) : Md_readSecond ρ M (nI k) = if oS k = -1 then some (0, M) else Md_readNumber ρ M 0 (nI (fS k)) := by
  unfold Md_readSecond
  simp only [oeta]
  rcases k7 h with rfl | rfl | rfl | rfl | rfl | rfl | rfl <;> rfl
/-- one order's row -/
def SRw (W : WM) (M : MdM) (i : Nat) : Prop := ∃ k x y, k < 7 ∧ fL k ≤ x ∧ x ≤ fM k ∧ y ≤ fS k ∧ W.2.2.2 i = some k ∧ M.2 11 (3 * i) = nI k ∧ (W.2.1 3).getD i 0 = nI x ∧ M.2 11 (3 * i + 1) = nI x ∧ (¬ oS k = -1 → (W.2.1 4).getD i 0 = nI y ∧ M.2 11 (3 * i + 2) = nI y)
def SR (W : WM) (M : MdM) (c : Nat) : Prop := (W.2.1 3).length = c ∧ (W.2.1 4).length = c ∧ ∀ i, i < c → SRw W M i
def FrW2 (W W' : WM) : Prop := W'.1 = W.1 ∧ (∀ j, j ≠ 3 → j ≠ 4 → W'.2.1 j = W.2.1 j) ∧ ∀ k, (k = 0 ∨ 6 < k) → W'.2.2.1 k = W.2.2.1 k
def FrM2 (M M' : MdM) : Prop := (∀ j, j ≠ 11 → M'.2 j = M.2 j) ∧ ∀ k, (k < 20 ∨ 24 < k) → k ≠ 29 → M'.1 k = M.1 k
theorem FrW2.tr {W W' W'' : WM} (h : FrW2 W W') (h' : FrW2 W' W'') : FrW2 W W'' := ⟨h'.1.trans h.1, fun j a c => (h'.2.1 j a c).trans (h.2.1 j a c), fun k a => (h'.2.2 k a).trans (h.2.2 k a)⟩
theorem FrM2.tr {M M' M'' : MdM} (h : FrM2 M M') (h' : FrM2 M' M'') : FrM2 M M'' := ⟨fun j a => (h'.1 j a).trans (h.1 j a), fun k a c => (h'.2 k a c).trans (h.2 k a c)⟩
theorem FrW2.rf (W : WM) : FrW2 W W := ⟨rfl, fun _ _ _ => rfl, fun _ _ => rfl⟩
theorem FrM2.rf (M : MdM) : FrM2 M M := ⟨fun _ _ => rfl, fun _ _ _ => rfl⟩
theorem FrW.two {W W' : WM} (h : FrW W W') : FrW2 W W' := ⟨h.1, fun j _ _ => by rw [h.2.1], fun k a => h.2.2.2 k (by omega) (by omega) (by omega) (by omega)⟩
theorem FrM.two {M M' : MdM} (h : FrM M M') : FrM2 M M' := ⟨fun j _ => by rw [h.1], fun k a _ => h.2 k (by omega) (by omega) (by omega)⟩
theorem FrW2.wf (W : WM) (c : Int32) : FrW2 W (Wf W c) := ⟨rfl, fun _ _ _ => rfl, fun k a => (wi_n _ _ (by omega)).trans (wi_n _ _ (by omega))⟩
theorem FrM2.mf (M : MdM) (c : Int32) : FrM2 M (Mf M c) := ⟨fun _ _ => rfl, fun k a _ => (setF_n _ _ (by omega)).trans (setF_n _ _ (by omega))⟩
theorem FrM2.ar (M : MdM) (f : Nat → Int32) : FrM2 M (setA M 11 f) := ⟨fun j a => setA_n _ _ a, fun _ _ _ => rfl⟩
theorem FrM2.cn (M : MdM) (v : Int32) : FrM2 M (setF M 29 v) := ⟨fun _ _ => rfl, fun k _ c => setF_n _ _ c⟩
theorem SR.fr {W W' : WM} {M M' : MdM} {c : Nat} (h : SR W M c) (h1 : W'.2.1 = W.2.1) (h2 : W'.2.2.2 = W.2.2.2) (h3 : ∀ j, j < 3 * c → M'.2 11 j = M.2 11 j) : SR W' M' c := by
  refine ⟨by rw [h1]; exact h.1, by rw [h1]; exact h.2.1, fun i hi => ?_⟩
  obtain ⟨k, x, y, a1, a2, a3, a4, a5, a6, a7, a8, a9⟩ := h.2.2 i hi
  refine ⟨k, x, y, a1, a2, a3, a4, by rw [h2]; exact a5, by rw [h3 _ (by omega)]; exact a6, by rw [h1]; exact a7, by rw [h3 _ (by omega)]; exact a8, fun q => ?_⟩
  rw [h1, h3 _ (by omega)]
  exact a9 q
theorem wL_s (W : WM) (j : Nat) (xs : List Int32) : (setWL W j xs).2.1 j = xs := if_pos rfl
theorem wL_n (W : WM) {j i : Nat} (xs : List Int32) (h : i ≠ j) : (setWL W j xs).2.1 i = W.2.1 i := if_neg h
theorem SR.add {W : WM} {M N : MdM} {c k x y : Nat} {yv : Int32} (h : SR W M c) (hc : c < 20) (hk : k < 7) (hx : fL k ≤ x) (hx' : x ≤ fM k) (hy : y ≤ fS k) (hyv : ¬ oS k = -1 → yv = nI y) (hN : ∀ j, j < 3 * c → N.2 11 j = M.2 11 j) (h0 : N.2 11 (3 * c) = nI k) (h1 : N.2 11 (3 * c + 1) = nI x) (h2 : ¬ oS k = -1 → N.2 11 (3 * c + 2) = nI y) :
    ∃ V, Sc_add k W (nI x) yv = some V ∧ SR V N (c + 1) ∧ V.1 = W.1 ∧ (∀ j, j ≠ 3 → j ≠ 4 → V.2.1 j = W.2.1 j) ∧ V.2.2.1 = W.2.2.1 := by
  obtain ⟨g1, g2, g3⟩ := h
  refine ⟨setWL (setWL (setWO W (va_up W.2.2.2 c (some k))) 3 (W.2.1 3 ++ [nI x])) 4 (W.2.1 4 ++ [yv]), ?_, ⟨?_, ?_, fun i hi => ?_⟩, rfl, fun j a b => (wL_n _ _ b).trans (wL_n _ _ a), rfl⟩
  · unfold Sc_add
    rw [lu, g1, if_neg (q_neg (by omega)), if_pos (show nI c < nI 20 from nI_lt hc (by omega)), if_pos (q_in hc (by omega)), q_cl (by omega), la_in _ (by rw [g1]; exact hc), la_in _ (by rw [g2]; exact hc)]
  · rw [wL_n _ _ (by decide), wL_s, List.length_append, List.length_singleton, g1]
  · rw [wL_s, List.length_append, List.length_singleton, g2]
  · have e3 : (setWL (setWL (setWO W (va_up W.2.2.2 c (some k))) 3 (W.2.1 3 ++ [nI x])) 4 (W.2.1 4 ++ [yv])).2.1 3 = W.2.1 3 ++ [nI x] := by rw [wL_n _ _ (by decide), wL_s]
    have e4 : (setWL (setWL (setWO W (va_up W.2.2.2 c (some k))) 3 (W.2.1 3 ++ [nI x])) 4 (W.2.1 4 ++ [yv])).2.1 4 = W.2.1 4 ++ [yv] := wL_s _ _ _
    unfold SRw
    rw [e3, e4, gd_app1 i (by omega), gd_app1 i (by omega), g1, g2]
    by_cases hi' : i = c
    · subst hi'
      rw [if_pos rfl, if_pos rfl]
      exact ⟨k, x, y, hk, hx, hx', hy, if_pos rfl, h0, rfl, h1, fun q => ⟨hyv q, h2 q⟩⟩
    · rw [if_neg hi', if_neg hi']
      obtain ⟨k', x', y', a1, a2, a3, a4, a5, a6, a7, a8, a9⟩ := g3 i (by omega)
      refine ⟨k', x', y', a1, a2, a3, a4, (if_neg hi').trans a5, by rw [hN _ (by omega)]; exact a6, a7, by rw [hN _ (by omega)]; exact a8, fun q => ?_⟩
      rw [hN _ (by omega)]
      exact a9 q
section OR
variable {b : List Int32} {n s p : Nat} {W : WM} {M : MdM}
theorem PS.ow {W' : WM} (h : PS b n W M p) (h1 : W'.2.1 0 = W.2.1 0) (h2 : W'.2.2.1 = W.2.2.1) : PS b n W' M p := by
  unfold PS at h ⊢
  rw [h1, h2]
  exact h
theorem val_29 (v29 : Int32) (ρ : Nat) : ∀ (m : Nat) (v k : Int32), Md_value_L7 ρ (setF M 29 v29) m v k = Md_value_L7 ρ M m v k := by
  intro m
  induction m with
  | zero => intro v k; rfl
  | succ m ih =>
    intro v k
    unfold Md_value_L7
    simp only [lu, ih, setF_n M (j := 29) (i := 20) v29 (by decide), setF_n M (j := 29) (i := 22) v29 (by decide), show (setF M 29 v29).2 = M.2 from rfl]
theorem TK.c29 (h : TK b n W M s p) (v : Int32) : TK b n W (setF M 29 v) s p := by
  have hv : ∀ ρ, Md_value ρ (setF M 29 v) = Md_value ρ M := fun ρ => by
    unfold Md_value
    rw [lu, lu, setF_n M (j := 29) (i := 21) v (by decide), val_29]
  unfold TK PS
  rw [hv 0, hv 1, setF_n M (j := 29) (i := 19) v (by decide), setF_n M (j := 29) (i := 20) v (by decide), setF_n M (j := 29) (i := 21) v (by decide), setF_n M (j := 29) (i := 22) v (by decide), setF_n M (j := 29) (i := 23) v (by decide)]
  exact h
/-- a number: the component's next already known -/
theorem p_nx {W1 : WM} {N : MdM} (hn : Tk_next W = some W1) (h : TK b n W1 N s p) {lo hi : Nat} (h1 : lo ≤ hi) (h2 : hi ≤ 9999) :
    (∃ x, lo ≤ x ∧ x ≤ hi ∧ Ps_readNumber W (nI lo) (nI hi) = some (1, W1) ∧ W1.2.2.1 4 = nI x ∧ Md_look 0 N (nI lo) (nI hi) = some (nI x, N)) ∨
     ∃ c, ¬ c = 0 ∧ Ps_readNumber W (nI lo) (nI hi) = some (0, Wf W1 c) ∧ Md_look 0 N (nI lo) (nI hi) = some (nI lo, Mf N c) := by
  unfold Ps_readNumber Tk_kind Tk_value
  simp only [hn, bs, lu, p_fail]
  rcases s_look h h1 h2 with ⟨x, x1, x2, x3, x4, x5⟩ | ⟨x1, x2⟩ | ⟨x1, x2, x3⟩
  · refine Or.inl ⟨x, x1, x2, ?_, x4, x5 0 (by omega)⟩
    rw [if_pos x3, x4, if_neg (nI_nlt x1 (by omega)), if_pos (nI_le x2 (by omega))]
  · refine Or.inr ⟨1, by decide, ?_, x2 0 (by omega)⟩
    rw [if_neg x1, if_pos (Or.inl trivial)]
  · refine Or.inr ⟨2, by decide, ?_, x3 0 (by omega)⟩
    rw [if_pos x1]
    rcases x2 with x2 | ⟨x2, x4⟩
    · rw [if_pos x2, if_pos (Or.inl trivial)]
    · rw [if_neg x2, if_neg x4, if_pos (Or.inl trivial)]
theorem sx7 {k : Nat} : (sx (wi k)).length ≤ 7 := by
  unfold wi
  split <;> decide
theorem s_orderL (h : TK b n W M s p) : ∀ (m m' k : Nat), k ≤ 7 → 7 - k < m → 7 - k < m' → (Ps_readOrder_L9 W m (nI 7) (nI k) = some none ∧ Md_orderHere_L2 0 M m' (nI k) = some (-1)) ∨ ∃ j, j < 7 ∧ Ps_readOrder_L9 W m (nI 7) (nI k) = some (some j) ∧ Md_orderHere_L2 0 M m' (nI k) = some (nI j) := by
  intro m
  induction m with
  | zero => intro m' k h1 h2; omega
  | succ m ih =>
    intro m' k h1 h2 h3
    cases m' with
    | zero => omega
    | succ m' =>
      unfold Ps_readOrder_L9 Md_orderHere_L2
      by_cases hk : k = 7
      · subst hk
        rw [if_pos (nI_le (Nat.le_refl 7) (by omega)), if_pos (nI_le (Nat.le_refl 7) (by omega))]
        exact Or.inl ⟨rfl, rfl⟩
      · rw [if_neg (nI_ge (show k < 7 by omega) (by omega)), if_neg (nI_ge (show k < 7 by omega) (by omega)), if_pos (q_in (show k < 7 by omega) (by omega)), if_pos (q_in (show k < 7 by omega) (by omega)), q_cl (by omega), nI_1]
        obtain ⟨r, hr, w1, w2⟩ := s_isWord (cs := sx (wi k)) sx7 h
        rw [w1, w2 0, bs, bs]
        rcases hr with rfl | rfl
        · rw [if_pos rfl, if_pos rfl]
          exact ih m' (k + 1) (by omega) (by omega) (by omega)
        · rw [if_neg (show ¬ (1 : Int32) = 0 by decide), if_neg (show ¬ (1 : Int32) = 0 by decide)]
          exact Or.inr ⟨k, by omega, rfl, rfl⟩
theorem s_order (h : TK b n W M s p) : (Ps_readOrder W = some none ∧ Md_orderHere 0 M = some (-1)) ∨ ∃ j, j < 7 ∧ Ps_readOrder W = some (some j) ∧ Md_orderHere 0 M = some (nI j) :=
  s_orderL h FU FU 0 (by omega) (FU_gt (by omega)) (FU_gt (by omega))
end OR
