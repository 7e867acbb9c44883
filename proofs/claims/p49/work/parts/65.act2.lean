/-! an act of the law -/
def ActR (W : WM) (A : AS) (p c : Nat) (b : Bool) (A' : AS) (W' : WM) : Prop := (if b = true then WR W' A' (kp p c) (kc c) else WR W' A' p c) ∧ Rel (W'.1 ((p + c) % 9)) A ∧ Kp W W'
def ActOK (A : AS) (d : Nat) (u : Int32) : Prop := ∃ A' b, OKs A' (d + 4) ∧ (b = false → A' = A) ∧ ∀ (W : WM) (p c : Nat), WR W A p c → ∃ W', Lw_act W u = some (1, W') ∧ ActR W A p c b A' W'
def aF (A : AS) (u : Int32) : Nat := mostN ((u >>> (4 &&& 31)) >>> (2 &&& 31)) A.F
theorem aF_lt {A : AS} {d : Nat} (hI : Inv A d) (u : Int32) : aF A u < A.F := most_lt _ hI.F1.1
theorem OpR.yes {W : WM} {A : AS} {p c : Nat} {code : Int32} {A' : AS} {W' : WM} (h : OpR W A p c code A' W') (hc : ¬ code < 0) : ActR W A p c true A' W' := by
  obtain ⟨h1, h2, h3⟩ := h
  rw [if_neg hc] at h1
  exact ⟨by rw [if_pos rfl]; exact h1, h2, h3⟩
theorem OpR.no {W : WM} {A : AS} {p c : Nat} {code : Int32} {A' : AS} {W' : WM} (h : OpR W A p c code A' W') (hc : code < 0) : ActR W A p c false A' W' := by
  obtain ⟨h1, h2, h3⟩ := h
  rw [if_pos hc] at h1
  exact ⟨by rw [if_neg (by decide)]; exact h1, h2, h3⟩
theorem ActR.qt {W : WM} {A : AS} {p c : Nat} {b : Bool} {A' : AS} {W' V : WM} (h : ActR W A p c b A' W') (g : Qt W' V) (hr : Rel (V.1 9) A') : ActR W A p c b A' V := by
  obtain ⟨h1, h2, h3⟩ := h
  have hm : (p + c) % 9 < 9 := Nat.mod_lt _ (by omega)
  refine ⟨?_, by rw [g.1 _ (by omega) (by omega)]; exact h2, h3.tr' g.kp⟩
  by_cases hb : b = true
  · rw [if_pos hb] at h1 ⊢; exact h1.qt g hr
  · rw [if_neg hb] at h1 ⊢; exact h1.qt g hr
theorem ActR.rel {W : WM} {A : AS} {p c : Nat} {b : Bool} {A' : AS} {W' : WM} (h : ActR W A p c b A' W') : Rel (W'.1 9) A' := by
  have h1 := h.1
  by_cases hb : b = true
  · rw [if_pos hb] at h1; exact h1.1
  · rw [if_neg hb] at h1; exact h1.1
theorem ActR.wr {W : WM} {A : AS} {p c : Nat} {b : Bool} {A' : AS} {W' : WM} (h : ActR W A p c b A' W') : ∃ p' c', WR W' A' p' c' := by
  have h1 := h.1
  by_cases hb : b = true
  · rw [if_pos hb] at h1; exact ⟨_, _, h1⟩
  · rw [if_neg hb] at h1; exact ⟨_, _, h1⟩
theorem OpR.qt {W V : WM} {A : AS} {p c : Nat} {code : Int32} {A' : AS} {W' : WM} (h : OpR V A p c code A' W') (g : Qt W V) : OpR W A p c code A' W' := ⟨h.1, h.2.1, g.kp.tr' h.2.2⟩
theorem ref_neg {A : AS} {r f : Nat} (h : ¬ refA A r f = 0) : refA A r f < 0 := by
  unfold refA at h ⊢
  split
  · decide
  · rename_i h1
    rw [if_neg h1] at h
    split
    · decide
    · rename_i h2
      rw [if_neg h2] at h
      split
      · rename_i h3
        rw [if_pos h3] at h
        exact absurd rfl h
      · decide
section Act
variable {A : AS} {d : Nat}
theorem act_slip (hO : OKs A d) (hd : d + 4 ≤ 900) (u : Int32) (hw : mostN u 20 < 7) : ActOK A d u := by
  obtain ⟨hI, hA⟩ := id hO
  have hF := hI.F1; have hR := hI.R1; have hc := hI.sc; have hr := hI.rl; have hdy := hI.dy
  have hw20 : mostN u 20 < 20 := most_lt u (by omega)
  have hfF := aF_lt hI u
  have e20 : Lw_most u 20 = some (nI (mostN u 20)) := most_eq u (m := 20) (by omega) (by omega)
  have mf : Lw_most ((u >>> (4 &&& 31)) >>> (2 &&& 31)) (nI A.F) = some (nI (aF A u)) := most_eq _ hF.1 (by omega)
  have hrR : mostN (u >>> (4 &&& 31)) A.R < A.R := most_lt _ hR.1
  have mr : Lw_most (u >>> (4 &&& 31)) (nI A.R) = some (nI (mostN (u >>> (4 &&& 31)) A.R)) := most_eq _ hR.1 (by omega)
  generalize mostN (u >>> (4 &&& 31)) A.R = r at hrR mr
  by_cases h0 : refA A r (aF A u) = 0
  · have hO2 := i_sl hO hrR hfF h0
    refine ⟨slA A r (aF A u), true, hO2.wide (by omega), fun z => (by cases z), fun W p c h => ?_⟩
    obtain ⟨W', eo, ho⟩ := o_slip h hI hrR hfF
    rw [if_pos h0] at eo ho
    rw [if_pos h0] at ho
    have ho := ho.yes (q_neg (by omega))
    refine ⟨W', ?_, ho⟩
    have t9 : SA_size W' 9 = some (nI (A.sl.length + 1)) := by
      have := q_size ho.rel hO2.1 (by omega) (k := 9) (by omega)
      rw [show sizA (slA A r (aF A u)) 9 = nI (A.sl ++ [mkSp r (aF A u) A.dy 0]).length from rfl, List.length_append] at this
      exact this
    have hx : (slA A r (aF A u)).sl[A.sl.length]? = some (mkSp r (aF A u) A.dy 0) := by
      show (A.sl ++ [mkSp r (aF A u) A.dy 0])[A.sl.length]? = _
      rw [List.getElem?_append_right (Nat.le_refl _), Nat.sub_self]; rfl
    have t1 : SA_waiting W' (nI A.sl.length) 1 = some (nI (aF A u)) := by
      have := q_wai ho.rel hO2.1 (by omega) (q := A.sl.length) (by omega) (k := 1) (by omega)
      unfold waiA at this
      rw [hx] at this
      exact this
    have t0 : SA_waiting W' (nI A.sl.length) 0 = some (nI r) := by
      have := q_wai ho.rel hO2.1 (by omega) (q := A.sl.length) (by omega) (k := 0) (by omega)
      unfold waiA at this
      rw [hx] at this
      exact this
    have s3 : SA_size W 3 = some (nI A.R) := q_size h.1 hI (by omega) (k := 3) (by omega)
    have ey := q_why h.1 hI hrR hfF
    have s5 : SA_size W 5 = some (nI A.F) := q_size h.1 hI (by omega) (k := 5) (by omega)
    have s6 : SA_size W 6 = some (nI A.row.length) := q_size h.1 hI (by omega) (k := 6) (by omega)
    have s9 : SA_size W 9 = some (nI A.sl.length) := q_size h.1 hI (by omega) (k := 9) (by omega)
    have f2 : SA_folder W (nI (aF A u)) 2 = some (nI (A.st (aF A u))) := q_fol h.1 hI (by omega) hfF (k := 2) (by omega)
    have ew : ∃ w, w = mostN u 20 := ⟨_, rfl⟩
    obtain ⟨w, ew⟩ := ew
    rw [← ew] at e20 hw hw20
    unfold Lw_act
    rw [e20]
    simp only [lt_01, lt_10]
    simp only [bs, ltb]
    rw [s5]
    simp only [bs]
    rw [mf]
    simp only [bs]
    rw [s6]
    simp only [bs]
    rw [s9]
    simp only [bs]
    rw [f2]
    simp only [bs]
    rw [if_neg (show ¬ 7 ≤ nI w from fun z => by have := (q_le (a := 7) (by omega) (by omega)).mp z; omega), s3]
    simp only [bs]
    rw [mr]
    simp only [bs]
    rw [ey]
    simp only [bs]
    rw [eo, h0]
    simp only [bs]
    rw [if_pos (show (0 : Int32) ≤ 0 by decide), if_pos True.intro, t9]
    simp only [bs]
    rw [nI_1, if_pos rfl, t1]
    simp only [bs]
    rw [if_pos True.intro, t0]
    simp only [bs]
    rw [if_pos True.intro]
  · have hneg := ref_neg h0
    refine ⟨A, false, hO.wide (by omega), fun _ => rfl, fun W p c h => ?_⟩
    obtain ⟨W', eo, ho⟩ := o_slip h hI hrR hfF
    rw [if_neg h0] at eo ho
    rw [if_neg h0] at ho
    refine ⟨W', ?_, ho.no hneg⟩
    have s3 : SA_size W 3 = some (nI A.R) := q_size h.1 hI (by omega) (k := 3) (by omega)
    have ey := q_why h.1 hI hrR hfF
    have s5 : SA_size W 5 = some (nI A.F) := q_size h.1 hI (by omega) (k := 5) (by omega)
    have s6 : SA_size W 6 = some (nI A.row.length) := q_size h.1 hI (by omega) (k := 6) (by omega)
    have s9 : SA_size W 9 = some (nI A.sl.length) := q_size h.1 hI (by omega) (k := 9) (by omega)
    have f2 : SA_folder W (nI (aF A u)) 2 = some (nI (A.st (aF A u))) := q_fol h.1 hI (by omega) hfF (k := 2) (by omega)
    have ew : ∃ w, w = mostN u 20 := ⟨_, rfl⟩
    obtain ⟨w, ew⟩ := ew
    rw [← ew] at e20 hw hw20
    unfold Lw_act
    rw [e20]
    simp only [lt_01, lt_10]
    simp only [bs, ltb]
    rw [s5]
    simp only [bs]
    rw [mf]
    simp only [bs]
    rw [s6]
    simp only [bs]
    rw [s9]
    simp only [bs]
    rw [f2]
    simp only [bs]
    rw [if_neg (show ¬ 7 ≤ nI w from fun z => by have := (q_le (a := 7) (by omega) (by omega)).mp z; omega), s3]
    simp only [bs]
    rw [mr]
    simp only [bs]
    rw [ey]
    simp only [bs]
    rw [eo]
    simp only [bs]
    rw [if_neg (Int32.not_le.mpr hneg), if_pos True.intro]
theorem act_drop (hO : OKs A d) (hd : d + 4 ≤ 900) (u : Int32) (hw : mostN u 20 = 7) : ActOK A d u := by
  obtain ⟨hI, hA⟩ := id hO
  have hF := hI.F1; have hR := hI.R1; have hc := hI.sc; have hr := hI.rl; have hdy := hI.dy
  have hw20 : mostN u 20 < 20 := most_lt u (by omega)
  have hfF := aF_lt hI u
  have e20 : Lw_most u 20 = some (nI (mostN u 20)) := most_eq u (m := 20) (by omega) (by omega)
  have mf : Lw_most ((u >>> (4 &&& 31)) >>> (2 &&& 31)) (nI A.F) = some (nI (aF A u)) := most_eq _ hF.1 (by omega)
  have hq : mostN (u >>> (4 &&& 31)) (A.sl.length + 1) < A.sl.length + 1 := most_lt _ (by omega)
  have mq : Lw_most (u >>> (4 &&& 31)) (nI (A.sl.length + 1)) = some (nI (mostN (u >>> (4 &&& 31)) (A.sl.length + 1))) := most_eq _ (by omega) (by omega)
  generalize mostN (u >>> (4 &&& 31)) (A.sl.length + 1) = q at hq mq
  refine ⟨if q < A.sl.length then drA A q else A, decide (q < A.sl.length), ?_, ?_, fun W p c h => ?_⟩
  · split
    · exact (i_dr hO q).wide (by omega)
    · exact hO.wide (by omega)
  · intro z
    rw [if_neg (of_decide_eq_false z)]
  obtain ⟨W', eo, ho⟩ := o_drop h hI (q := q) (by omega)
  have key : (if q < A.sl.length then nI (A.sl.length - 1) else -2) = (if nI A.sl.length ≤ nI q then -2 else nI A.sl.length - 1) := by
    by_cases h1 : q < A.sl.length
    · rw [if_pos h1, if_neg (nI_ge h1 (by omega)), show (1 : Int32) = nI 1 from rfl, pk_sub (by omega)]
    · rw [if_neg h1, if_pos ((q_le (by omega) (by omega)).mpr (by omega))]
  refine ⟨W', ?_, ?_⟩
  · rw [key] at eo
    have s5 : SA_size W 5 = some (nI A.F) := q_size h.1 hI (by omega) (k := 5) (by omega)
    have s6 : SA_size W 6 = some (nI A.row.length) := q_size h.1 hI (by omega) (k := 6) (by omega)
    have s9 : SA_size W 9 = some (nI A.sl.length) := q_size h.1 hI (by omega) (k := 9) (by omega)
    have f2 : SA_folder W (nI (aF A u)) 2 = some (nI (A.st (aF A u))) := q_fol h.1 hI (by omega) hfF (k := 2) (by omega)
    have ew : ∃ w, w = mostN u 20 := ⟨_, rfl⟩
    obtain ⟨w, ew⟩ := ew
    rw [← ew] at e20 hw hw20
    unfold Lw_act
    rw [e20]
    simp only [lt_01, lt_10]
    simp only [bs, ltb]
    rw [s5]
    simp only [bs]
    rw [mf]
    simp only [bs]
    rw [s6]
    simp only [bs]
    rw [s9]
    simp only [bs]
    rw [f2]
    simp only [bs]
    rw [if_pos (show 7 ≤ nI w from (q_le (a := 7) (by omega) (by omega)).mpr (by omega)), if_pos (show nI w = 7 from (q_eq (b := 7) (by omega) (by omega)).mpr (by omega)), nI_1, mq]
    simp only [bs]
    rw [eo]
    simp only [bs]
    by_cases h1 : nI A.sl.length ≤ nI q
    · simp only [if_pos h1, eq_self, if_true]
    · simp only [if_neg h1, eq_self, if_true]
  · by_cases h1 : q < A.sl.length
    · rw [decide_eq_true h1]
      rw [if_pos h1, if_pos h1] at ho
      rw [if_pos h1]
      exact ho.yes (q_neg (by omega))
    · rw [decide_eq_false h1]
      rw [if_neg h1, if_neg h1] at ho
      rw [if_neg h1]
      exact ho.no (by decide)
end Act
