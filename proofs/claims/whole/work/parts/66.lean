/-! feed -/
theorem shr_byte (x : Int32) (c : Nat) (hc : c = 0 ∨ c = 8 ∨ c = 16 ∨ c = 24) : ((x.toUInt32 >>> ((nI c).toUInt32 &&& Int32.toUInt32 31)).toInt32) &&& 255 = (x >>> (nI c &&& 31)) &&& 255 := by
  have key : ∀ y z : Int32, (∀ i, i < 8 → y.toBitVec.getLsbD i = z.toBitVec.getLsbD i) → y &&& 255 = z &&& 255 := by
    intro y z h
    apply Int32.toBitVec_inj.mp
    rw [Int32.toBitVec_and, Int32.toBitVec_and]
    apply BitVec.eq_of_getLsbD_eq
    intro i hi
    rw [BitVec.getLsbD_and, BitVec.getLsbD_and]
    by_cases h8 : i < 8
    · rw [h i h8]
    · have : (255 : Int32).toBitVec.getLsbD i = false := by
        have : ∀ i, i < 32 → ¬ i < 8 → (255 : Int32).toBitVec.getLsbD i = false := by decide
        exact this i hi h8
      rw [this, Bool.and_false, Bool.and_false]
  apply key
  intro i hi
  have e1 : ((x.toUInt32 >>> ((nI c).toUInt32 &&& Int32.toUInt32 31)).toInt32).toBitVec = x.toBitVec >>> c := by
    rcases hc with rfl | rfl | rfl | rfl <;> rfl
  have e2 : (x >>> (nI c &&& 31)).toBitVec = x.toBitVec.sshiftRight c := by
    rcases hc with rfl | rfl | rfl | rfl <;> rfl
  rw [e1, e2, BitVec.getLsbD_ushiftRight, BitVec.getLsbD_sshiftRight]
  have : c + i < 32 := by omega
  simp [show ¬ 32 ≤ i by omega, this]
/-- a byte of a number of the feed -/
def fb (x : Int32) (c : Nat) : Int32 := (x >>> (nI c &&& 31)) &&& 255
section FD
variable {W : WM} {M : MdM}
theorem s_append (x : Int32) (xs : List Int32) (hl : xs.length + 4 ≤ 700) (hx : W.2.1 0 = xs) : SA_appendBytes W x = some (setWL W 0 (xs ++ [fb x 24, fb x 16, fb x 8, fb x 0])) := by
  have wl : ∀ (W : WM) (a b : List Int32), setWL (setWL W 0 a) 0 b = setWL W 0 b := fun W a b => Prod.ext rfl (Prod.ext (funext fun j => by
    show (if j = 0 then b else if j = 0 then a else _) = (if j = 0 then b else _)
    by_cases c : j = 0
    · rw [if_pos c, if_pos c]
    · rw [if_neg c, if_neg c, if_neg c]) rfl)
  have ws : ∀ (W : WM) (a : List Int32), (setWL W 0 a).2.1 0 = a := fun W a => rfl
  have st : ∀ (n c : Nat) (W : WM) (ys : List Int32), W.2.1 0 = ys → ys.length < 700 → (c = 0 ∨ c = 8 ∨ c = 16 ∨ c = 24) → SA_appendBytes_L3 (n + 1) W x (nI c) = SA_appendBytes_L3 n (setWL W 0 (ys ++ [fb x c])) x (nI c + -8) := by
    intro n c W ys h1 h2 h3
    show (if nI c < 0 then _ else _) = _
    rw [if_neg (nI_pos (by omega)), h1, shr_byte x c h3, la_in _ h2]
    rfl
  show SA_appendBytes_L3 (995 + 1 + 1 + 1 + 1 + 1) W x (nI 24) = _
  rw [st _ 24 W xs hx (by omega) (by omega), show nI 24 + -8 = nI 16 by decide, st _ 16 _ _ (ws _ _) (by simp; omega) (by omega), wl, show nI 16 + -8 = nI 8 by decide, st _ 8 _ _ (ws _ _) (by simp; omega) (by omega), wl, show nI 8 + -8 = nI 0 by decide, st _ 0 _ _ (ws _ _) (by simp; omega) (by omega), wl]
  show (if nI 0 + -8 < 0 then _ else _) = _
  rw [if_pos (by decide)]
  congr 2
  simp
/-- the word of a byte -/
def fw (a b c d e : Int32) (k : Nat) : Int32 := if k < 4 then a else if k < 8 then b else if k < 12 then c else if k < 16 then d else e
theorem s_feedL (a b c d e : Int32) (xs : List Int32) (hl : xs.length + 20 ≤ 700) : ∀ (n k : Nat) (M : MdM), k ≤ 20 → 20 - k < n → M.1 18 = nI (xs.length + k) → ∃ M', Md_feed_L23 0 n M a b c d e (nI k) = some (nI (xs.length + 20), M') ∧ (∀ i, i ≠ 18 → M'.1 i = M.1 i) ∧ M'.1 18 = nI (xs.length + 20) ∧ (∀ j, j ≠ 10 → M'.2 j = M.2 j) ∧ ∀ i, M'.2 10 i = if xs.length + k ≤ i ∧ i < xs.length + 20 then fb (fw a b c d e (i - xs.length)) (24 - 8 * ((i - xs.length) % 4)) else M.2 10 i := by
  intro n
  induction n with
  | zero => intro k M h1 h2; omega
  | succ n ih =>
    intro k M h1 h2 h3
    unfold Md_feed_L23
    by_cases hk : 20 ≤ k
    · obtain rfl : k = 20 := by omega
      rw [if_pos (by decide), h3]
      exact ⟨M, rfl, fun _ _ => rfl, h3, fun _ _ => rfl, fun i => by rw [if_neg (by omega)]⟩
    · have hlt : k < 20 := by omega
      have eb : (24 - (8 * (nI k - nI k / 4 * 4))) = nI (24 - 8 * (k % 4)) := by
        rw [show (4 : Int32) = nI 4 from rfl, pk_rem (by omega) (by omega) (by omega), show (8 : Int32) = nI 8 from rfl, pk_mul, show (24 : Int32) = nI 24 from rfl, pk_sub (by omega)]
      obtain ⟨M', g1, g2, g3, g4, g5⟩ := ih (k + 1) (setF (setA M 10 (upd (M.2 10) (xs.length + k) (fb (fw a b c d e k) (24 - 8 * (k % 4))))) 18 (nI (xs.length + k + 1))) (by omega) (by omega) (by rw [setF_s]; rfl)
      refine ⟨M', ?_, fun i hi => (g2 i hi).trans (setF_n _ _ hi), g3, fun j hj => (g4 j hj).trans (setA_n _ _ hj), fun i => ?_⟩
      · rw [if_neg (show ¬ (20 : Int32) ≤ nI k from nI_ge (b := 20) (by omega) (by omega)), eb, h3, if_pos (q_in (by omega) (by omega)), if_pos (q_in (by omega) (by omega)), if_pos (q_in (by omega) (by omega)), if_pos (q_in (by omega) (by omega)), if_pos (q_in (by omega) (by omega)), q_cl (by omega), nI_1, nI_1, ← g1]
        unfold fw fb
        by_cases c4 : k < 4
        · rw [if_neg (show ¬ (4 : Int32) ≤ nI k from nI_ge (b := 4) (by omega) (by omega)), if_pos c4]
        · rw [if_pos (show (4 : Int32) ≤ nI k from nI_le (a := 4) (by omega) (by omega)), if_neg c4]
          by_cases c8 : k < 8
          · rw [if_neg (show ¬ (8 : Int32) ≤ nI k from nI_ge (b := 8) (by omega) (by omega)), if_pos c8]
          · rw [if_pos (show (8 : Int32) ≤ nI k from nI_le (a := 8) (by omega) (by omega)), if_neg c8]
            by_cases c12 : k < 12
            · rw [if_neg (show ¬ (12 : Int32) ≤ nI k from nI_ge (b := 12) (by omega) (by omega)), if_pos c12]
            · rw [if_pos (show (12 : Int32) ≤ nI k from nI_le (a := 12) (by omega) (by omega)), if_neg c12]
              by_cases c16 : k < 16
              · rw [if_neg (show ¬ (16 : Int32) ≤ nI k from nI_ge (b := 16) (by omega) (by omega)), if_pos c16]
              · rw [if_pos (show (16 : Int32) ≤ nI k from nI_le (a := 16) (by omega) (by omega)), if_neg c16]
      · rw [g5 i]
        show (if _ then _ else (setA M 10 _).2 10 i) = _
        rw [setA_s]
        by_cases c1 : xs.length + (k + 1) ≤ i ∧ i < xs.length + 20
        · rw [if_pos c1, if_pos (by omega)]
        · rw [if_neg c1]
          by_cases c2 : i = xs.length + k
          · subst c2
            rw [if_pos (by omega), Nat.add_sub_cancel_left]
            exact if_pos rfl
          · rw [if_neg (by omega)]
            exact if_neg c2
theorem f_feed (h : WRel W M) (a b c d e : Int32) : P3 (SA_feed W a b c d e) (Md_feed 0 M a b c d e) := by
  have hw := h
  obtain ⟨b1, b2, b3, b4, ⟨l1, l2, l3⟩, b6, b7⟩ := h
  unfold SA_feed Md_feed
  rw [l2, show (20 : Int32) = nI 20 from rfl, nI_add]
  by_cases hl : (W.2.1 0).length + 20 ≤ 700
  · rw [if_pos (show nI ((W.2.1 0).length + 20) ≤ (700 : Int32) from nI_le (b := 700) hl (by omega)), if_pos (show nI ((W.2.1 0).length + 20) ≤ (700 : Int32) from nI_le (b := 700) hl (by omega))]
    generalize hxs : W.2.1 0 = xs at l1 l2 l3 hl
    have ws : ∀ (W : WM) (a : List Int32), (setWL W 0 a).2.1 0 = a := fun W a => rfl
    have wl : ∀ (W : WM) (a b : List Int32), setWL (setWL W 0 a) 0 b = setWL W 0 b := fun W a b => Prod.ext rfl (Prod.ext (funext fun j => by
      show (if j = 0 then b else if j = 0 then a else _) = (if j = 0 then b else _)
      by_cases c : j = 0
      · rw [if_pos c, if_pos c]
      · rw [if_neg c, if_neg c, if_neg c]) rfl)
    rw [s_append a xs (by omega) hxs, bs, s_append b _ (by simp; omega) (ws _ _), bs, wl, s_append c _ (by simp; omega) (ws _ _), bs, wl, s_append d _ (by simp; omega) (ws _ _), bs, wl, s_append e _ (by simp; omega) (ws _ _), bs, wl, ws]
    obtain ⟨M', g1, g2, g3, g4, g5⟩ := s_feedL a b c d e xs hl FU 0 (setF M 9 0) (by omega) (FU_gt (by omega)) l2
    generalize hys : xs ++ [fb a 24, fb a 16, fb a 8, fb a 0] ++ [fb b 24, fb b 16, fb b 8, fb b 0] ++ [fb c 24, fb c 16, fb c 8, fb c 0] ++ [fb d 24, fb d 16, fb d 8, fb d 0] ++ [fb e 24, fb e 16, fb e 8, fb e 0] = ys
    have hyl : ys.length = xs.length + 20 := by rw [← hys]; simp
    have hi1 : ∀ i, i ≠ 18 → i ≠ 9 → M'.1 i = M.1 i := fun i p q => (g2 i p).trans (setF_n _ _ q)
    have ha1 : ∀ j, j ≠ 10 → M'.2 j = M.2 j := fun j p => g4 j p
    refine ⟨nI ys.length, _, M', rfl, by rw [hyl]; exact g1, ?_⟩
    obtain ⟨a', c', c1, c2, c3, c4, c5, c6⟩ := b3
    refine ⟨by rw [ha1 0 (by decide)]; exact b1, by unfold LasR; rw [ha1 6 (by decide)]; exact b2, ⟨a', c', c1, c2, c3, c4, (hi1 8 (by decide) (by decide)).trans c5, fun k hk => by rw [ha1 5 (by decide)]; exact c6 k hk⟩, by unfold SnaR; rw [hi1 10 (by decide) (by decide), ha1 4 (by decide)]; exact b4, ?_, by unfold FmtR; rw [hi1 16 (by decide) (by decide), ha1 9 (by decide)]; exact b6, by rw [hi1 25 (by decide) (by decide)]; exact b7⟩
    unfold BufR
    rw [ws]
    refine ⟨by omega, by rw [g3, hyl], fun i hi => ?_⟩
    rw [g5 i]
    by_cases ci : i < xs.length
    · rw [if_neg (by omega), show (setF M 9 0).2 10 i = _ from l3 i ci, ← hys]
      rw [getD_app, if_pos (by simp; omega), getD_app, if_pos (by simp; omega), getD_app, if_pos (by simp; omega), getD_app, if_pos (by simp; omega), getD_app, if_pos ci]
    · rw [if_pos (by omega)]
      obtain ⟨j, hj, rfl⟩ : ∃ j, j < 20 ∧ i = xs.length + j := ⟨i - xs.length, by omega, by omega⟩
      rw [Nat.add_sub_cancel_left, ← hys, List.append_assoc, List.append_assoc, List.append_assoc, List.append_assoc, getD_app, if_neg (by omega), Nat.add_sub_cancel_left]
      match j, hj with
      | 0, _ => rfl
      | 1, _ => rfl
      | 2, _ => rfl
      | 3, _ => rfl
      | 4, _ => rfl
      | 5, _ => rfl
      | 6, _ => rfl
      | 7, _ => rfl
      | 8, _ => rfl
      | 9, _ => rfl
      | 10, _ => rfl
      | 11, _ => rfl
      | 12, _ => rfl
      | 13, _ => rfl
      | 14, _ => rfl
      | 15, _ => rfl
      | 16, _ => rfl
      | 17, _ => rfl
      | 18, _ => rfl
      | 19, _ => rfl
      | j + 20, h => exact absurd h (by omega)
  · rw [if_neg (show ¬ nI ((W.2.1 0).length + 20) ≤ (700 : Int32) from nI_ge (a := 700) (by omega) (by omega)), if_neg (show ¬ nI ((W.2.1 0).length + 20) ≤ (700 : Int32) from nI_ge (a := 700) (by omega) (by omega))]
    exact ⟨_, _, _, rfl, rfl, hw.thr 0⟩
end FD
