/-! the law's steps and its end -/
theorem chain {α : Type} (S : Nat → α → α → Prop) (I : Nat → α → Prop) (a0 : α) (h0 : I 0 a0) : ∀ n : Nat, (∀ j a, j < n → I j a → ∃ a', S j a a' ∧ I (j + 1) a') → ∃ f : Nat → α, f 0 = a0 ∧ (∀ j, j < n → S j (f j) (f (j + 1))) ∧ ∀ j, j ≤ n → I j (f j) := by
  intro n
  induction n with
  | zero => exact fun _ => ⟨fun _ => a0, rfl, fun j hj => absurd hj (Nat.not_lt_zero _), fun j hj => by rw [show j = 0 by omega]; exact h0⟩
  | succ n ih =>
    intro hs
    obtain ⟨f, h1, h2, h3⟩ := ih (fun j a hj => hs j a (by omega))
    obtain ⟨a', h4, h5⟩ := hs n (f n) (Nat.lt_succ_self _) (h3 n (Nat.le_refl _))
    refine ⟨fun j => if j ≤ n then f j else a', ?_, fun j hj => ?_, fun j hj => ?_⟩
    · exact (if_pos (Nat.zero_le _)).trans h1
    · dsimp only
      by_cases hjn : j = n
      · subst hjn
        rw [if_pos (Nat.le_refl _), if_neg (by omega)]; exact h4
      · rw [if_pos (by omega), if_pos (by omega)]; exact h2 j (by omega)
    · dsimp only
      by_cases hjn : j ≤ n
      · rw [if_pos hjn]; exact h3 j hjn
      · rw [if_neg hjn, show j = n + 1 by omega]; exact h5
section Steps
variable {W : WM} {A : AS} {d p c : Nat}
theorem step_ok (j : Nat) (u : Int32) (hO : OKs A d) (hd : d + 104 ≤ 900) (h : WR W A p c) : ∃ W' A' p' c', L_step j u W W' ∧ WR W' A' p' c' ∧ OKs A' (d + 4) := by
  obtain ⟨W1, e1, h1, -⟩ := arch_ok h hO (by omega)
  obtain ⟨x, hxx, hx⟩ := all_ok hO.1 (by omega)
  obtain ⟨A', b, hO', hb, hact⟩ := act_ok hO (by omega) u
  obtain ⟨W2, e2, r2⟩ := hact W1 p c h1
  obtain ⟨y, hyy, hy⟩ := all_ok hO'.1 (by omega)
  have c1 := q_count h1
  have hc8 := h.2.2.1
  obtain ⟨p2, c2, h2⟩ := r2.wr
  have hcnt : SA_undoCount W2 = nI (if b = true then kc c else c) := by
    have hr := r2.1
    by_cases hbt : b = true
    · rw [if_pos hbt] at hr ⊢; exact q_count hr
    · rw [if_neg hbt] at hr ⊢; exact q_count hr
  have hkc : kc c ≤ 8 := by unfold kc; split <;> omega
  -- the served part
  have srv : ∀ V p' c', WR V A' p' c' → ∃ W' p'' c'', L_srv j u y V W' ∧ WR W' A' p'' c'' := by
    intro V p' c' hV
    by_cases h9 : j % 9 = 8
    · obtain ⟨W', pp, e, hW⟩ := served_ok u hO' (by omega) hV
      exact ⟨W', pp, 0, Or.inl ⟨h9, (1, W'), e, rfl, y, hy W' hW.1, hyy, rfl⟩, hW⟩
    · exact ⟨V, p', c', Or.inr ⟨h9, rfl⟩, hV⟩
  by_cases hu : SA_undoCount W2 = SA_undoCount W1 + 1 ∧ j % 3 = 0
  · have hbc : b = true ∧ c < 8 := by
      have h3 := hu.1
      rw [hcnt, c1, nI_1] at h3
      by_cases hbt : b = true
      · refine ⟨hbt, ?_⟩
        rw [if_pos hbt] at h3
        have := (q_eq (by omega) (by omega)).mp h3
        omega
      · rw [if_neg hbt] at h3
        have := (q_eq (by omega) (by omega)).mp h3
        omega
    obtain ⟨hbt, hc⟩ := hbc
    have hr := r2.1
    rw [if_pos hbt] at hr
    unfold kp kc at hr
    rw [if_pos hc, if_pos hc] at hr
    obtain ⟨W3, e3, h3, -⟩ := o_undo hr r2.2.1 hO.1
    obtain ⟨W4, e4, r4⟩ := hact W3 p c h3
    obtain ⟨p4, c4, h4⟩ := r4.wr
    obtain ⟨W', p'', c'', hs, hW⟩ := srv W4 p4 c4 h4
    refine ⟨W', A', p'', c'', ⟨(1, W1), e1, rfl, x, hx W1 h1.1, (1, W2), e2, rfl, y, hy W2 h2.1, W4, ?_, ?_, hs⟩, hW, hO'⟩
    · refine Or.inl ⟨hu.1, hu.2, (nI c, W3), e3, c1.symm, x, hx W3 h3.1, hxx, (1, W4), e4, rfl, y, hy W4 h4.1, hyy, rfl⟩
    · intro z
      exfalso
      have hr4 := r4.1
      rw [if_pos hbt] at hr4
      have z : SA_undoCount W4 = SA_undoCount W1 := z
      rw [q_count hr4, c1] at z
      have := (q_eq (by omega) (by omega)).mp z
      unfold kc at this
      rw [if_pos hc] at this
      omega
  · obtain ⟨W', p'', c'', hs, hW⟩ := srv W2 p2 c2 h2
    refine ⟨W', A', p'', c'', ⟨(1, W1), e1, rfl, x, hx W1 h1.1, (1, W2), e2, rfl, y, hy W2 h2.1, W2, Or.inr ⟨hu, rfl⟩, ?_, hs⟩, hW, hO'⟩
    intro z1 z2
    have z1 : SA_undoCount W2 = SA_undoCount W1 := z1
    have z2 : SA_undoCount W1 < 8 := z2
    rw [c1] at z1 z2
    have hc : c < 8 := (q_lt (b := 8) (by omega) (by omega)).mp z2
    have hbf : b = false := by
      cases hb' : b with
      | false => rfl
      | true =>
        rw [hcnt, if_pos hb'] at z1
        have := (q_eq (by omega) (by omega)).mp z1
        unfold kc at this
        rw [if_pos hc] at this
        omega
    have hAA := hb hbf
    have e := hy W2 h2.1
    rw [hx W2 (by rw [← hAA]; exact h2.1)] at e
    rw [← Option.some.inj e]
    exact hxx
theorem fin_ok (L : Nat) (xs : Nat → Int32) (hO : OKs A d) (hd : d + 30 ≤ 900) (h : WR W A p c) : L_fin L xs W := by
  obtain ⟨x, hxx, hx⟩ := all_ok hO.1 (by omega)
  obtain ⟨h0, hs0, -⟩ := o_save h hO.1
  obtain ⟨Ws, f0, f1, f2⟩ := chain (fun j V V' => ∃ q : Int32 × WM, Lw_act V (Lw_cell L xs (36 + j)) = some q ∧ q.1 = 1 ∧ q.2 = V') (fun j V => ∃ B p' c', WR V B p' c' ∧ SN V A ∧ OKs B (d + 4 * j)) (SA_saveSnapshot W) ⟨A, p, c, h0, hs0, hO⟩ 5 (fun j V hj hV => by
    obtain ⟨B, p', c', h1, h2, h3⟩ := hV
    obtain ⟨B', b, hO', -, hact⟩ := act_ok h3 (by omega) (Lw_cell L xs (36 + j))
    obtain ⟨V', e, r⟩ := hact V p' c' h1
    obtain ⟨p2, c2, hw⟩ := r.wr
    exact ⟨V', ⟨(1, V'), e, rfl, rfl⟩, B', p2, c2, hw, h2.kp r.2.2, by rw [show d + 4 * (j + 1) = d + 4 * j + 4 by omega]; exact hO'⟩)
  obtain ⟨B, p', c', h1, h2, h3⟩ := f2 5 (Nat.le_refl _)
  obtain ⟨W', e, hr, -⟩ := o_restore h1 h2 hO.1
  obtain ⟨W6, e6⟩ := o_undo0 hr
  refine ⟨x, hx _ h0.1, Ws, f0, f1, by rw [e], x, ?_, hxx, ?_, (-1, W6), ?_, rfl⟩
  · rw [e]; exact hx W' hr.1
  · rw [e]; exact q_count hr
  · rw [e]; exact e6
/-- from the archive as it is read, all the law's steps go well -/
theorem run_ok (L : Nat) (xs : Nat → Int32) (hO : OKs A 0) (h : WR W A p c) : ∃ Ws : Nat → WM, Ws 0 = W ∧ (∀ j, j < 36 → L_step j (Lw_u L xs j) (Ws j) (Ws (j + 1))) ∧ L_fin L xs (Ws 36) := by
  obtain ⟨Ws, f0, f1, f2⟩ := chain (fun j V V' => L_step j (Lw_u L xs j) V V') (fun j V => ∃ B p' c', WR V B p' c' ∧ OKs B (4 * j)) W ⟨A, p, c, h, hO⟩ 36 (fun j V hj hV => by
    obtain ⟨B, p', c', h1, h3⟩ := hV
    obtain ⟨V', B', p2, c2, hs, hw, hO'⟩ := step_ok j (Lw_u L xs j) h3 (by omega) h1
    exact ⟨V', hs, B', p2, c2, hw, by rw [show 4 * (j + 1) = 4 * j + 4 by omega]; exact hO'⟩)
  obtain ⟨B, p', c', h1, h3⟩ := f2 36 (Nat.le_refl _)
  exact ⟨Ws, f0, f1, fin_ok L xs h3 (by omega) h1⟩
end Steps
