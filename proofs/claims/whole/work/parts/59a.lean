/-! the operations, as they are done on what undoing restores -/
theorem setL_1 (M : StM) (j : Nat) (xs : List Int32) : (setL M j xs).1 = M.1 := rfl
def En (M : MdM) (v : Int32) : MdM := setA M 6 (upd (M.2 6) (if v < 0 then 1 else 0) (M.2 6 (if v < 0 then 1 else 0) + 1))
theorem m_ends {ρ : Nat} (M : MdM) (v : Int32) : Md_ends ρ M v = some (v, En M v) := by
  unfold Md_ends En
  rw [tn0, tn1]
  by_cases h : v < 0
  · rw [if_neg (Int32.not_le.mpr h), if_pos h]
  · rw [if_pos (Int32.not_lt.mp h), if_neg h]
/-- an operation on both sides -/
def OpR (H : Int32) (ρ : Nat) (A : StM) (M : MdM) (x : Option (Int32 × StM)) (y : Option (Int32 × MdM)) : Prop :=
  ∃ v A' M1, x = some (v, A') ∧ y = some (v, En M1 v) ∧ Sm ρ M M1 ∧ RI H A' (M1.2 ρ) ∧ A'.1 2 = A.1 2 ∧ (A'.1 0 = A.1 0 ∨ ∃ q : Nat, q ≤ 60 ∧ A'.1 0 = A.1 0 + nI q ∧ A.1 0 + nI q ≤ 999)
section OP
variable {H : Int32} {A : StM} {ρ : Nat} {M : MdM} {f : Nat → Int32}
theorem OpR.same (h : RI H A (M.2 ρ)) (v : Int32) : OpR H ρ A M (some (v, A)) (Option.bind (Md_ends ρ M v) fun q => some (q.1, q.2)) :=
  ⟨v, A, M, rfl, by rw [m_ends]; rfl, Sm.rf _ _, h, rfl, Or.inl rfl⟩
theorem o_slip (h : RI H A (M.2 ρ)) {r k : Nat} (hr : r < (A.2 5).length) (hk : k < (A.2 0).length) : OpR H ρ A M (St_handIn A (nI r) (nI k)) (Md_doSlip ρ M (nI r) (nI k)) := by
  have z := h.sz
  have zs := z.s
  have z12 := z.e12
  have z13 := z.e13
  have z14 := z.e14
  have z15 := z.e15
  obtain ⟨v, e1, e2⟩ := s_refusal h hr hk
  unfold St_handIn Md_doSlip
  rw [e1, e2, bs, bs]
  by_cases hv : v = 0
  · subst hv
    rw [if_pos rfl, if_pos rfl]
    have hlt : (A.2 11).length < 16 := by
      unfold St_refusal St_hasReader St_hasFolder Sl_count at e1
      have zr := z.r
      have zf := z.fo
      rw [if_neg (q_neg (by omega)), if_neg (nI_ge hr (by omega)), if_neg (by decide), if_neg (q_neg (by omega)), if_neg (nI_ge hk (by omega)), if_neg (by decide)] at e1
      by_cases g : lnget (A.2 3) (nI k) = nI r
      · rw [if_pos g] at e1; exact absurd (Option.some.inj e1) (by decide)
      · rw [if_neg g] at e1
        rcases s_slipOf h (nI r) (nI k) with ⟨e3, -⟩ | ⟨s, hs1, e3, -⟩
        · rw [e3, bs, if_pos rfl] at e1
          by_cases g2 : nI (A.2 11).length < 16
          · exact (q_lt (b := 16) (by omega) (by omega)).mp g2
          · rw [if_neg g2] at e1; exact absurd (Option.some.inj e1) (by decide)
        · rw [e3, bs, if_neg (q_m1 (by omega))] at e1; exact absurd (Option.some.inj e1) (by decide)
    generalize hn : (A.2 11).length = n at hlt
    have eadd : Md_addSlip ρ M (nI r) (nI k) = some (setA M ρ (upd (upd (upd (upd (upd (M.2 ρ) (193 + 4 * n) (nI r)) (194 + 4 * n) (nI k)) (195 + 4 * n) (A.1 0)) (196 + 4 * n) 0) 8 (nI (n + 1)))) := by
      unfold Md_addSlip
      rw [tn8, tn0, h.rel.ns, hn, show (193 : Int32) = nI 193 from rfl, show (4 : Int32) = nI 4 from rfl, pk_mul, nI_add, lu, show nI (193 + 4 * n) + (0 : Int32) = nI (193 + 4 * n + 0) from nI_add _ 0, show nI (193 + 4 * n) + (1 : Int32) = nI (193 + 4 * n + 1) from nI_add _ 1, show nI (193 + 4 * n) + (2 : Int32) = nI (193 + 4 * n + 2) from nI_add _ 2, show nI (193 + 4 * n) + (3 : Int32) = nI (193 + 4 * n + 3) from nI_add _ 3, if_pos (q_in (by omega) (by omega)), if_pos (q_in (by omega) (by omega)), if_pos (q_in (by omega) (by omega)), if_pos (q_in (by omega) (by omega)), q_cl (by omega), q_cl (by omega), q_cl (by omega), q_cl (by omega)]
      have a0 : upd (upd (M.2 ρ) (193 + 4 * n + 0) (nI r)) (193 + 4 * n + 1) (nI k) 0 = A.1 0 := (if_neg (by omega)).trans ((if_neg (by omega)).trans h.rel.day)
      rw [a0]
      have a8 : upd (upd (upd (upd (M.2 ρ) (193 + 4 * n + 0) (nI r)) (193 + 4 * n + 1) (nI k)) (193 + 4 * n + 2) (A.1 0)) (193 + 4 * n + 3) 0 8 = nI n := (if_neg (by omega)).trans ((if_neg (by omega)).trans ((if_neg (by omega)).trans ((if_neg (by omega)).trans (h.rel.ns.trans (by rw [hn])))))
      rw [a8, nI_1, show 193 + 4 * n + 0 = 193 + 4 * n by omega, show 193 + 4 * n + 1 = 194 + 4 * n by omega, show 193 + 4 * n + 2 = 195 + 4 * n by omega, show 193 + 4 * n + 3 = 196 + 4 * n by omega]
    generalize hg : upd (upd (upd (upd (upd (M.2 ρ) (193 + 4 * n) (nI r)) (194 + 4 * n) (nI k)) (195 + 4 * n) (A.1 0)) (196 + 4 * n) 0) 8 (nI (n + 1)) = g at eadd
    rw [eadd, bs, lu, show Md_tally ρ (setA M ρ g) 3 1 = _ from e_tally (a := 3) (by omega) (by omega), bs, m_ends, bs]
    have eA : Sl_add A (nI r) (nI k) (A.1 0) = setL (setL (setL (setL A 11 (A.2 11 ++ [nI r])) 12 (A.2 12 ++ [nI k])) 13 (A.2 13 ++ [A.1 0])) 14 (A.2 14 ++ [0]) := by
      unfold Sl_add
      rw [la_in (xs := A.2 11) _ (by omega), la_in (xs := A.2 12) _ (by omega), la_in (xs := A.2 13) _ (by omega), la_in (xs := A.2 14) _ (by omega)]
    rw [eA]
    generalize hA' : setL (setL (setL (setL A 11 (A.2 11 ++ [nI r])) 12 (A.2 12 ++ [nI k])) 13 (A.2 13 ++ [A.1 0])) 14 (A.2 14 ++ [0]) = A'
    have e11 : A'.2 11 = A.2 11 ++ [nI r] := by rw [← hA']; rfl
    have e12 : A'.2 12 = A.2 12 ++ [nI k] := by rw [← hA']; rfl
    have e13 : A'.2 13 = A.2 13 ++ [A.1 0] := by rw [← hA']; rfl
    have e14 : A'.2 14 = A.2 14 ++ [0] := by rw [← hA']; rfl
    have eo : ∀ j, j ≠ 11 → j ≠ 12 → j ≠ 13 → j ≠ 14 → A'.2 j = A.2 j := fun j a b c d => by rw [← hA', setL_n _ _ d, setL_n _ _ c, setL_n _ _ b, setL_n _ _ a]
    have ei : A'.1 = A.1 := by rw [← hA']; rfl
    have hrel : Rel H A' g := by
      refine h.rel.onslips z ei eo (fun j a b => ?_) ?_ ?_ ?_ ?_ ?_
      · rw [← hg]
        exact (if_neg (by omega)).trans ((if_neg (by omega)).trans ((if_neg (by omega)).trans ((if_neg (by omega)).trans (if_neg (by omega)))))
      · rw [← hg, e11, List.length_append, List.length_singleton, hn]; exact if_pos rfl
      · rw [← hg, e11]
        have := Arr.push (xs := A.2 11) h.rel.s0 (v := nI r) (by omega)
        rw [hn] at this
        have hl : (A.2 11 ++ [nI r]).length = n + 1 := by rw [List.length_append, List.length_singleton, hn]
        exact (((this.ne (fun i hi => by omega)).ne (fun i hi => by omega)).ne (fun i hi => by omega)).ne (fun i hi => by omega)
      · rw [← hg, e12]
        have := Arr.push (xs := A.2 12) (h.rel.s1.ne (k := 193 + 4 * n) (v := nI r) (fun i hi => by omega)) (v := nI k) (by omega)
        rw [z12, hn] at this
        have hl : (A.2 12 ++ [nI k]).length = n + 1 := by rw [List.length_append, List.length_singleton, z12, hn]
        exact ((this.ne (fun i hi => by omega)).ne (fun i hi => by omega)).ne (fun i hi => by omega)
      · rw [← hg, e13]
        have := Arr.push (xs := A.2 13) ((h.rel.s2.ne (k := 193 + 4 * n) (v := nI r) (fun i hi => by omega)).ne (k := 194 + 4 * n) (v := nI k) (fun i hi => by omega)) (v := A.1 0) (by omega)
        rw [z13, hn] at this
        have hl : (A.2 13 ++ [A.1 0]).length = n + 1 := by rw [List.length_append, List.length_singleton, z13, hn]
        exact (this.ne (fun i hi => by omega)).ne (fun i hi => by omega)
      · rw [← hg, e14]
        have := Arr.push (xs := A.2 14) (((h.rel.s3.ne (k := 193 + 4 * n) (v := nI r) (fun i hi => by omega)).ne (k := 194 + 4 * n) (v := nI k) (fun i hi => by omega)).ne (k := 195 + 4 * n) (v := A.1 0) (fun i hi => by omega)) (v := 0) (by omega)
        rw [z14, hn] at this
        have hl : (A.2 14 ++ [(0 : Int32)]).length = n + 1 := by rw [List.length_append, List.length_singleton, z14, hn]
        exact this.ne (fun i hi => by omega)
    have hR : RI H A' g := by
      refine ⟨hrel, ?_, ?_, ?_, ?_, ?_⟩
      · unfold Sz
        rw [eo 0 (by decide) (by decide) (by decide) (by decide), eo 1 (by decide) (by decide) (by decide) (by decide), eo 2 (by decide) (by decide) (by decide) (by decide), eo 3 (by decide) (by decide) (by decide) (by decide), eo 4 (by decide) (by decide) (by decide) (by decide), eo 5 (by decide) (by decide) (by decide) (by decide), eo 6 (by decide) (by decide) (by decide) (by decide), eo 7 (by decide) (by decide) (by decide) (by decide), eo 10 (by decide) (by decide) (by decide) (by decide), eo 15 (by decide) (by decide) (by decide) (by decide), e11, e12, e13, e14]
        simp only [List.length_append, List.length_singleton]
        exact ⟨z.1, z.e1, z.e2, z.e3, z.e4, z.r, z.e6, z.l, z.t, by omega, by omega, by omega, by omega, z15⟩
      · rw [← hA']; exact h.fd
      · rw [← hA']; exact h.mk
      · intro i hi
        rw [e11, List.length_append, List.length_singleton] at hi
        rw [e11, e12, eo 5 (by decide) (by decide) (by decide) (by decide), eo 0 (by decide) (by decide) (by decide) (by decide), gd_app1 i (by omega), gd_app1 i (by omega)]
        by_cases c : i = (A.2 11).length
        · rw [if_pos c, if_pos (by omega)]
          exact ⟨⟨r, hr, rfl⟩, k, hk, rfl⟩
        · rw [if_neg c, if_neg (by omega)]
          exact h.sp i (by omega)
      · rw [ei]; exact h.per
    have hv8 : (setA (setA M ρ g) ρ (upd ((setA M ρ g).2 ρ) (6 + 3) ((setA M ρ g).2 ρ (6 + 3) + 1))).2 ρ 8 - 1 = Sl_count (setL A' 15 (lnraise (A'.2 15) 3 1)) - 1 := by
      rw [setA_s, setA_s]
      refine congrArg (fun q => q - 1) ((if_neg (by omega)).trans ?_)
      exact hrel.ns
    try dsimp only
    rw [tn8, hv8]
    refine ⟨_, _, _, rfl, rfl, ?_, ?_, by show A'.1 2 = _; rw [ei], Or.inl (by show A'.1 0 = _; rw [ei])⟩
    · rw [setA_A]; exact Sm.setA _ _ _
    · rw [setA_s, setA_s]
      exact hR.tally (a := 3) (by omega) (by omega) 1
  · rw [if_neg hv, if_neg hv]
    exact OpR.same h v
theorem o_drop (h : RI H A (M.2 ρ)) (x : Int32) : OpR H ρ A M (some (St_takeAway A x)) (Md_doDrop ρ M x) := by
  have zs := h.sz.s
  unfold St_takeAway Md_doDrop Md_isSlip Sl_has
  rw [bs, tn8, h.rel.ns, inr_0 (by omega)]
  by_cases hc : (if x < 0 then (0 : Int32) else if nI (A.2 11).length ≤ x then 0 else 1) = 0
  · rw [if_pos hc, if_pos hc]
    exact OpR.same h (-2)
  · rw [if_neg hc, if_neg hc]
    have hx : ∃ s, s < (A.2 11).length ∧ x = nI s := by
      by_cases h0 : x < 0
      · rw [if_pos h0] at hc; exact absurd rfl hc
      · rw [if_neg h0] at hc
        obtain ⟨j, hj, rfl⟩ := nI_of h0
        by_cases h1 : nI (A.2 11).length ≤ nI j
        · rw [if_pos h1] at hc; exact absurd rfl hc
        · exact ⟨j, Nat.lt_of_not_le (fun q => h1 (nI_le q hj)), rfl⟩
    obtain ⟨s, hs, rfl⟩ := hx
    obtain ⟨c, hcl⟩ : ∃ c, (A.2 11).length = c + 1 := ⟨(A.2 11).length - 1, by omega⟩
    rw [m_removeSlip (c := c) (s := s) (by rw [h.rel.ns, hcl]) (by omega) (by omega), bs, lu]
    have hR := h.rmslip hs
    rw [hcl, Nat.add_sub_cancel] at hR
    rw [setA_s, show gSl (upd (M.2 ρ) 8 (nI c)) c s 8 = Sl_count (Sl_removeAt A (nI s)) from hR.rel.ns, m_ends, bs]
    exact ⟨_, _, _, rfl, rfl, Sm.setA _ _ _, by rw [setA_s]; exact hR, rfl, Or.inl rfl⟩
end OP
