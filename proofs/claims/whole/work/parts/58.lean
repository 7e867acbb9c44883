/-! a day: all searches, days -/
section DY
variable {H : Int32} {A : StM} {ρ : Nat} {M : MdM} {f : Nat → Int32}
theorem RI.w8 (h : RI H A f) (L : List Int32) : RI H (setL A 8 L) f := h
/-- tries of a slip -/
theorem RI.try3 (h : RI H A f) {s : Nat} (hs : s < (A.2 11).length) (v : Int32) : RI H (setL A 14 ((A.2 14).set s v)) (upd f (196 + 4 * s) v) := by
  have z := h.sz
  have zs := z.s
  have z12 := z.e12
  have z13 := z.e13
  have z14 := z.e14
  refine ⟨h.rel.onslips z rfl (fun j a b c d => setL_n _ _ d) (fun j a b => if_neg (by omega)) ((if_neg (by omega)).trans h.rel.ns) ?_ ?_ ?_ ?_, z.len (setL_len (by rw [List.length_set])), h.fd, h.mk, h.sp, h.per⟩
  · exact Arr.ne (xs := A.2 11) h.rel.s0 (fun i hi => by omega)
  · exact Arr.ne (xs := A.2 12) h.rel.s1 (fun i hi => by omega)
  · exact Arr.ne (xs := A.2 13) h.rel.s2 (fun i hi => by omega)
  · exact Arr.set (xs := A.2 14) h.rel.s3 (by omega) (by omega)
theorem s_search (h : RI H A (M.2 ρ)) (hρ : ρ ≠ 7) {s k : Nat} (hs : s < (A.2 11).length) (hk : k < (A.2 0).length) (ek : (A.2 12).getD s 0 = nI k) (sk : (A.2 2).getD k 0 = 0) :
    (∃ L xs M', St_isFoundFor A (nI s) = some (1, setL (setL A 8 L) 15 xs) ∧ Md_search ρ M (nI s) = some (1, M') ∧ Sm ρ M M' ∧ RI H (setL (setL A 8 L) 15 xs) (M'.2 ρ) ∧ xs.getD 4 0 = (A.2 15).getD 4 0) ∨
    (∃ L xs ts M1 M2, St_isFoundFor A (nI s) = some (0, setL (setL (setL A 8 L) 14 ts) 15 xs) ∧ Md_search ρ M (nI s) = some (0, M1) ∧ Md_tally ρ M1 5 1 = some M2 ∧ Sm ρ M M2 ∧ RI H (setL (setL (setL A 8 L) 14 ts) 15 xs) (upd (M2.2 ρ) (196 + 4 * s) (M2.2 ρ (196 + 4 * s) + 1)) ∧ xs.getD 4 0 = (A.2 15).getD 4 0) := by
  have z := h.sz
  have zl := z.l
  have zf := z.fo
  have zs := z.s
  have z12 := z.e12
  have z14 := z.e14
  have z15 := z.e15
  have et : lnget (A.2 14) (nI s) = (A.2 14).getD s 0 := lg_in (by omega) (by omega)
  have em : M.2 ρ (196 + 4 * s) = (A.2 14).getD s 0 := h.rel.s3 s (by omega)
  unfold St_isFoundFor Md_search
  rw [lg_in (xs := A.2 12) (by omega) (by omega), ek, lu, et, os3 (by omega), bs, em]
  by_cases ht : (A.2 14).getD s 0 < 2
  · rw [if_pos ht, if_pos ht, os1 (by omega), bs, h.rel.s1 s (by omega), ek, of0 (by omega), bs, h.rel.mk k hk, lg_in (xs := A.2 0) hk (by omega)]
    obtain ⟨r, L, M1, e1, e2, x1, x2, x3, x4, x5, x6, x7, -⟩ := s_halve h.w hρ ((A.2 0).getD k 0)
    rw [e1, e2, bs, bs]
    have hM1 : RI H (setL A 8 L) (M1.2 ρ) := by rw [x2 ρ hρ]; exact h
    have sm1 : Sm ρ M M1 := ⟨fun k b c => x1 k b c, fun j _ b _ => x2 j b⟩
    have t7 : Md_tally ρ M1 7 (M1.1 11) = some (setA M1 ρ (upd (M1.2 ρ) (6 + 7) (M1.2 ρ (6 + 7) + M1.1 11))) := e_tally (a := 7) (by omega) (by omega)
    have R7 := hM1.tally (a := 7) (by omega) (by omega) (nI L.length)
    have l7 : (lnraise (A.2 15) (nI 7) (nI L.length)).getD 4 0 = (A.2 15).getD 4 0 := by
      rw [lr_in (i := 7) _ (by omega) (by omega), getD_set _ _ _ _ (by omega), if_neg (by omega)]
    have len7 : (lnraise (A.2 15) (nI 7) (nI L.length)).length = 11 := by
      rw [lr_in (i := 7) _ (by omega) (by omega), List.length_set, z15]
    have sm2 : Sm ρ M (setA M1 ρ (upd (M1.2 ρ) (6 + 7) (M1.2 ρ (6 + 7) + M1.1 11))) := sm1.tr (Sm.setA _ _ _)
    rcases x7 with ⟨rfl, -⟩ | ⟨p, hp, rfl, -, -⟩
    · right
      rw [if_pos rfl, if_pos rfl, t7, bs]
      refine ⟨L, lnraise (lnraise (A.2 15) (nI 7) (nI L.length)) (nI 5) 1, (A.2 14).set s ((A.2 14).getD s 0 + 1), _, _, ?_, rfl, e_tally (a := 5) (by omega) (by omega), sm2.tr (Sm.setA _ _ _), ?_, ?_⟩
      · rw [show lnraise ((setL A 8 L).2 14) (nI s) 1 = (A.2 14).set s ((A.2 14).getD s 0 + 1) from lr_in (xs := A.2 14) _ (by omega) (by omega)]
        congr 2
        refine Prod.ext rfl (funext fun j => ?_)
        show (if j = 15 then lnraise (lnraise (A.2 15) 7 (nI L.length)) 5 1 else if j = 14 then _ else if j = 15 then _ else if j = 8 then L else A.2 j) = (if j = 15 then lnraise (lnraise (A.2 15) 7 (nI L.length)) 5 1 else if j = 14 then _ else if j = 8 then L else A.2 j)
        by_cases c : j = 15
        · rw [if_pos c, if_pos c]
        · rw [if_neg c, if_neg c, if_neg c]
      · simp only [setA_A, setA_s]
        have R5 := R7.tally (a := 5) (by omega) (by omega) 1
        rw [x3]
        have R3 := R5.try3 (s := s) hs ((A.2 14).getD s 0 + 1)
        have ev : upd (upd (M1.2 ρ) (6 + 7) (M1.2 ρ (6 + 7) + nI L.length)) (6 + 5) (upd (M1.2 ρ) (6 + 7) (M1.2 ρ (6 + 7) + nI L.length) (6 + 5) + 1) (196 + 4 * s) = (A.2 14).getD s 0 := by
          refine (if_neg (by omega)).trans ((if_neg (by omega)).trans ?_)
          rw [x2 ρ hρ]; exact em
        rw [ev]
        have eA : setL (setL (setL A 8 L) 14 ((A.2 14).set s ((A.2 14).getD s 0 + 1))) 15 (lnraise (lnraise (A.2 15) (nI 7) (nI L.length)) (nI 5) 1) = setL (setL (setL (setL A 8 L) 15 (lnraise ((setL A 8 L).2 15) (nI 7) (nI L.length))) 15 (lnraise ((setL (setL A 8 L) 15 (lnraise ((setL A 8 L).2 15) (nI 7) (nI L.length))).2 15) (nI 5) 1)) 14 ((A.2 14).set s ((A.2 14).getD s 0 + 1)) := by
          refine Prod.ext rfl (funext fun j => ?_)
          show (if j = 15 then lnraise (lnraise (A.2 15) (nI 7) (nI L.length)) (nI 5) 1 else if j = 14 then _ else if j = 8 then L else A.2 j) = (if j = 14 then _ else if j = 15 then lnraise (lnraise (A.2 15) (nI 7) (nI L.length)) (nI 5) 1 else if j = 15 then _ else if j = 8 then L else A.2 j)
          by_cases c : j = 15
          · rw [if_pos c, if_neg (by omega), if_pos c]
          · rw [if_neg c, if_neg c, if_neg c]
        rw [eA]
        exact R3
      · rw [lr_in (i := 5) _ (by omega) (by omega), getD_set _ _ _ _ (by omega), if_neg (by omega), l7]
    · left
      rw [if_neg (q_m1 (by omega)), if_neg (q_m1 (by omega)), t7, bs]
      refine ⟨L, lnraise (A.2 15) (nI 7) (nI L.length), _, rfl, rfl, sm2, ?_, l7⟩
      rw [setA_s, x3]
      exact R7
  · left
    rw [if_neg ht, if_neg ht]
    have t6 : Md_tally ρ M 6 1 = some (setA M ρ (upd (M.2 ρ) (6 + 6) (M.2 ρ (6 + 6) + 1))) := e_tally (a := 6) (by omega) (by omega)
    obtain ⟨i, hi, -, -, e⟩ := lp_mem (h.fd.2.2.2.2.1 k hk sk)
    rw [t6, bs, e, if_neg (q_m1 (by omega))]
    have h8 : setL A 8 (A.2 8) = A := Prod.ext rfl (funext fun j => by by_cases q : j = 8 <;> simp [setL, va_up, q])
    refine ⟨A.2 8, lnraise (A.2 15) (nI 6) 1, _, by rw [h8]; rfl, rfl, Sm.setA _ _ _, ?_, ?_⟩
    · rw [h8, setA_s]
      exact h.tally (a := 6) (by omega) (by omega) 1
    · rw [lr_in (i := 6) _ (by omega) (by omega), getD_set _ _ _ _ (by omega), if_neg (by omega)]
theorem idle0 (h : RI H A f) {s : Nat} (hs : s < (A.2 11).length) (hi : St_idleness A (nI s) = 0) : ∃ k, k < (A.2 0).length ∧ (A.2 12).getD s 0 = nI k ∧ (A.2 2).getD k 0 = 0 := by
  have z := h.sz
  have zf := z.fo
  have zs := z.s
  have z2 := z.e2
  have z12 := z.e12
  obtain ⟨-, k, hk, ek⟩ := h.sp s hs
  refine ⟨k, hk, ek, ?_⟩
  unfold St_idleness at hi
  rw [lg_in (xs := A.2 12) (by omega) (by omega), ek, lu, lg_in (xs := A.2 2) (by omega) (by omega), lu] at hi
  rcases h.fd.2.2.2.2.2.2.1 k hk with ⟨g | g, -⟩ | ⟨g, -⟩
  · exact g
  · rw [g, if_neg (by decide), if_pos rfl] at hi
    exact absurd hi (by decide)
  · rw [g, if_pos rfl] at hi
    exact absurd hi (by decide)
theorem s_searchL (hρ : ρ ≠ 7) (hd : Int32) : ∀ (n m s c : Nat) (v : Int32) (A : StM) (M : MdM), RI H A (M.2 ρ) → A.1 2 = hd → s ≤ (A.2 11).length → (A.2 11).length - s < n → (A.2 11).length - s < m → c ≤ s + 16 - (A.2 11).length →
    ∃ w A' M', St_nextDay_L36 n A v (nI c) (nI s) (nI ((A.2 11).length - s)) = some (v + w, A') ∧ Md_searchAll_L4 ρ m M hd (nI c) (nI s) = some M' ∧ Sm ρ M M' ∧ RI H A' (M'.2 ρ) ∧ A'.1 = A.1 ∧ (A'.2 15).getD 4 0 = (A.2 15).getD 4 0 + w := by
  intro n
  induction n with
  | zero => intro m s c v A M h h0 h1 h2; omega
  | succ n ih =>
    intro m s c v A M h h0 h1 h2 h3 h4
    cases m with
    | zero => omega
    | succ m =>
      have z := h.sz
      have zs := z.s
      have z12 := z.e12
      unfold St_nextDay_L36 Md_searchAll_L4
      rw [tn8, h.rel.ns, h0]
      by_cases he : s = (A.2 11).length
      · rw [he, Nat.sub_self, if_pos (by decide), if_pos (Int32.le_refl _)]
        exact ⟨0, A, M, by rw [Int32.add_zero], rfl, Sm.rf _ _, h, rfl, by rw [Int32.add_zero]⟩
      · have hs : s < (A.2 11).length := by omega
        rw [if_neg (nI_nle (by omega) (by omega)), if_neg (nI_ge hs (by omega))]
        by_cases hh : hd ≤ nI c
        · rw [if_pos hh, if_pos hh]
          exact ⟨0, A, M, by rw [Int32.add_zero], rfl, Sm.rf _ _, h, rfl, by rw [Int32.add_zero]⟩
        · rw [if_neg hh, if_neg hh, m_idleness h hs, bs]
          obtain ⟨d, hd'⟩ : ∃ d, (A.2 11).length - s = d + 1 := ⟨(A.2 11).length - s - 1, by omega⟩
          rw [hd', pk_m1, nI_1, nI_1]
          by_cases hi : St_idleness A (nI s) = 0
          · rw [if_pos hi, if_pos hi]
            obtain ⟨k, hk, ek, sk⟩ := idle0 h hs hi
            rcases s_search h hρ hs hk ek sk with ⟨L, xs, M1, e1, e2, e3, e4, e5⟩ | ⟨L, xs, ts, M1, M2, e1, e2, e3, e4, e5, e6⟩
            · rw [e1, e2, bs, bs]
              try dsimp only
              rw [if_neg (show ¬ (1 : Int32) = 0 by decide), if_neg (show ¬ (1 : Int32) = 0 by decide)]
              obtain ⟨M3, g1, g2, g3, g4, g5, g6⟩ := s_serve (A := setL (setL A 8 L) 15 xs) e4 (s := s) hs hk ek sk
              have g6 : ((St_serve (setL (setL A 8 L) 15 xs) (nI s)).2 11).length = (A.2 11).length - 1 := g6
              rw [g1, bs, lu]
              try dsimp only
              obtain ⟨w, A', M', k1, k2, k3, k4, k5, k6⟩ := ih m s (c + 1) (v + 1) _ M3 g3 (by rw [g4]; exact h0) (by omega) (by omega) (by omega) (by omega)
              rw [g6, show (A.2 11).length - 1 - s = d by omega] at k1
              refine ⟨1 + w, A', M', by rw [k1, Int32.add_assoc], k2, (e3.tr g2).tr k3, k4, k5.trans g4, ?_⟩
              rw [k6, g5, ← Int32.add_assoc]
              show xs.getD 4 0 + 1 + w = _
              rw [e5]
            · rw [e1, e2, bs, bs]
              try dsimp only
              rw [if_pos rfl, if_pos rfl, e3, bs]
              have e196 : (193 + (4 * nI s)) + 3 = nI (196 + 4 * s) := (e_ix4 s 3).trans (by congr 1; omega)
              rw [e196, if_pos (q_in (by omega) (by omega)), if_pos (q_in (by omega) (by omega)), q_cl (by omega)]
              obtain ⟨w, A', M', k1, k2, k3, k4, k5, k6⟩ := ih m (s + 1) (c + 1) v (setL (setL (setL A 8 L) 14 ts) 15 xs) (setA M2 ρ (upd (M2.2 ρ) (196 + 4 * s) (M2.2 ρ (196 + 4 * s) + 1))) (by rw [setA_s]; exact e5) h0 (by show s + 1 ≤ (A.2 11).length; omega) (by show (A.2 11).length - (s + 1) < n; omega) (by show (A.2 11).length - (s + 1) < m; omega) (by show c + 1 ≤ s + 1 + 16 - (A.2 11).length; omega)
              have k1 : St_nextDay_L36 n (setL (setL (setL A 8 L) 14 ts) 15 xs) v (nI (c + 1)) (nI (s + 1)) (nI ((A.2 11).length - (s + 1))) = _ := k1
              rw [show (A.2 11).length - (s + 1) = d by omega] at k1
              refine ⟨w, A', M', k1, k2, (e4.tr (Sm.setA _ _ _)).tr k3, k4, k5, ?_⟩
              rw [k6]
              show xs.getD 4 0 + w = _
              rw [e6]
          · rw [if_neg hi, if_neg hi]
            obtain ⟨w, A', M', k1, k2, k3, k4, k5, k6⟩ := ih m (s + 1) c v A M h h0 (by omega) (by omega) (by omega) (by omega)
            rw [show (A.2 11).length - (s + 1) = d by omega] at k1
            exact ⟨w, A', M', k1, k2, k3, k4, k5, k6⟩
theorem RI.day1 (h : RI H A f) (v : Int32) : RI H (setI A 0 v) (upd f 0 v) :=
  ⟨h.rel.onday h.sz v, h.sz, h.fd, h.mk, h.sp, h.per⟩
theorem s_nextDay (h : RI H A (M.2 ρ)) (hρ : ρ ≠ 7) : ∃ w A' M', St_nextDay A = some (w, A') ∧ Md_pass ρ M (A.1 2) = some M' ∧ Sm ρ M M' ∧ RI H A' (M'.2 ρ) ∧ A'.1 0 = A.1 0 + 1 ∧ A'.1 1 = A.1 1 ∧ A'.1 2 = A.1 2 ∧ A'.1 3 = A.1 3 ∧ (A'.2 15).getD 4 0 = (A.2 15).getD 4 0 + w := by
  have h1 := h.day1 (A.1 0 + 1)
  have hs := h.sz.s
  have e0 : upd (M.2 ρ) 0 (M.2 ρ 0 + 1) = upd (M.2 ρ) 0 (A.1 0 + 1) := by rw [h.rel.day]
  have ep : upd (M.2 ρ) 0 (A.1 0 + 1) 1 = A.1 1 := (if_neg (by omega)).trans h.rel.per
  have ed : upd (M.2 ρ) 0 (A.1 0 + 1) 0 = A.1 0 + 1 := if_pos rfl
  unfold St_nextDay Md_pass St_isRefilingDay Sl_count
  rw [tn0, tn1, e0, ep, ed, if_pos (show ¬ A.1 1 = 0 from fun q => h.per (by rw [q]; decide))]
  rw [show (setI A 0 (A.1 0 + 1)).1 1 = A.1 1 from rfl, show (setI A 0 (A.1 0 + 1)).1 0 = A.1 0 + 1 from rfl, if_neg h.per]
  have hM1 : RI H (setI A 0 (A.1 0 + 1)) ((setA M ρ (upd (M.2 ρ) 0 (A.1 0 + 1))).2 ρ) := by rw [setA_s]; exact h1
  by_cases hq : A.1 0 + 1 - (A.1 0 + 1) / A.1 1 * A.1 1 = 0
  · rw [if_pos hq, if_pos hq, if_neg (show ¬ (1 : Int32) = 0 by decide)]
    obtain ⟨A2, M2, e1, e2, e3, e4, e5, e6, e7⟩ := s_refile hM1 hρ
    have zs := e4.sz.s
    rw [e1, e2, bs, bs, lu]
    obtain ⟨w, A', M', k1, k2, k3, k4, k5, k6⟩ := s_searchL hρ (A.1 2) FU FU 0 0 0 A2 M2 e4 (by rw [e5]; rfl) (Nat.zero_le _) (FU_gt (by omega)) (FU_gt (by omega)) (Nat.zero_le _)
    rw [Nat.sub_zero, Int32.zero_add] at k1
    refine ⟨w, A', M', k1, by rw [show Md_searchAll ρ M2 (A.1 2) = some M' from k2]; rfl, ((Sm.setA _ _ _).tr e3).tr k3, k4, ?_, ?_, ?_, ?_, ?_⟩
    · rw [k5, e5]; rfl
    · rw [k5, e5]; rfl
    · rw [k5, e5]; rfl
    · rw [k5, e5]; rfl
    · rw [k6, e7]; rfl
  · rw [if_neg hq, if_neg hq, if_pos rfl, lu]
    obtain ⟨w, A', M', k1, k2, k3, k4, k5, k6⟩ := s_searchL hρ (A.1 2) FU FU 0 0 0 _ _ hM1 rfl (Nat.zero_le _) (FU_gt (by show (A.2 11).length - 0 < 1000; omega)) (FU_gt (by show (A.2 11).length - 0 < 1000; omega)) (Nat.zero_le _)
    rw [Nat.sub_zero, Int32.zero_add] at k1
    refine ⟨w, A', M', k1, by rw [show Md_searchAll ρ (setA M ρ (upd (M.2 ρ) 0 (A.1 0 + 1))) (A.1 2) = some M' from k2]; rfl, (Sm.setA _ _ _).tr k3, k4, ?_, ?_, ?_, ?_, k6⟩
    · rw [k5]; rfl
    · rw [k5]; rfl
    · rw [k5]; rfl
    · rw [k5]; rfl
theorem s_passL (hρ : ρ ≠ 7) (a2 p2 v0 : Int32) (q : Nat) (hq : q < 1000) : ∀ (n i : Nat) (v : Int32) (A : StM) (M : MdM), RI H A (M.2 ρ) → A.1 2 = a2 → i ≤ q → q - i < n → (A.2 15).getD 4 0 = v0 + v →
    ∃ w A' M', St_passDays_L18 n A (nI q) p2 v (nI i) = some (w, A') ∧ Md_passOn_L9 ρ n M (nI q) a2 v0 (nI i) = some (w, M') ∧ Sm ρ M M' ∧ RI H A' (M'.2 ρ) ∧ A'.1 0 = A.1 0 + nI (q - i) ∧ A'.1 2 = A.1 2 := by
  intro n
  induction n with
  | zero => intro i v A M h h0 h1 h2; omega
  | succ n ih =>
    intro i v A M h h0 h1 h2 h3
    unfold St_passDays_L18 Md_passOn_L9
    by_cases hi : q ≤ i
    · obtain rfl : i = q := by omega
      rw [if_pos (Int32.le_refl _), if_pos (Int32.le_refl _), show Md_tallied ρ M 4 = _ from e_tallied (a := 4) (by omega) (by omega), bs, h.rel.ac 4 (by omega) (by omega), h3]
      refine ⟨v, A, M, rfl, ?_, Sm.rf _ _, h, ?_, rfl⟩
      · rw [show v0 + v - v0 = v by grind]
      · rw [Nat.sub_self]; exact (Int32.add_zero _).symm
    · have hn : ¬ nI q ≤ nI i := fun x => hi ((q_le (by omega) (by omega)).mp x)
      obtain ⟨w1, A1, M1, e1, e2, e3, e4, e5, e6, e7, e8, e9⟩ := s_nextDay h hρ
      rw [h0] at e2
      rw [if_neg hn, if_neg hn, e1, e2, bs, bs, lu, nI_1]
      obtain ⟨w, A', M', k1, k2, k3, k4, k5, k6⟩ := ih (i + 1) (v + w1) A1 M1 e4 (by rw [e7, h0]) (by omega) (by omega) (by rw [e9, h3, Int32.add_assoc])
      refine ⟨w, A', M', k1, k2, e3.tr k3, k4, ?_, k6.trans e7⟩
      rw [k5, e5, show q - i = (q - (i + 1)) + 1 by omega, Int32.add_assoc, Int32.add_comm 1, nI_1]
/-- some days on both sides -/
theorem s_passDays (h : RI H A (M.2 ρ)) (hρ : ρ ≠ 7) {q : Nat} (hq : q < 1000) {p2 : Int32} (hp : A.1 0 + nI q ≤ p2) : ∃ w A' M', St_passDays A (nI q) p2 = some (w, A') ∧ Md_passOn ρ M (nI q) (A.1 2) = some (w, M') ∧ Sm ρ M M' ∧ RI H A' (M'.2 ρ) ∧ A'.1 0 = A.1 0 + nI q ∧ A'.1 2 = A.1 2 := by
  unfold St_passDays Md_passOn
  rw [if_pos hp, show Md_tallied ρ M 4 = _ from e_tallied (a := 4) (by omega) (by omega), bs, h.rel.ac 4 (by omega) (by omega)]
  exact s_passL hρ (A.1 2) p2 _ q hq FU 0 0 A M h rfl (Nat.zero_le _) (FU_gt (by omega)) (Int32.add_zero _).symm
end DY
