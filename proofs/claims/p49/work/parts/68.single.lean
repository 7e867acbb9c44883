/-! one slip alone, found by its third search -/
def Q1 (r f d0 t : Nat) (ρ : List Nat) (μ : Nat → Nat) (E : AS) : Prop := (E.sl = [mkSp r f d0 t]) ∧ (E.st f = 0) ∧ (E.em f = 0) ∧ (E.hv r < E.lm) ∧ (E.tr = []) ∧ (E.row = ρ) ∧ (E.mk = μ) ∧ (0 < E.hn)
theorem Q1.sl {r f d0 t : Nat} {ρ : List Nat} {μ : Nat → Nat} {E : AS} (h : Q1 r f d0 t ρ μ E) : E.sl = [mkSp r f d0 t] := h.1
theorem Q1.st {r f d0 t : Nat} {ρ : List Nat} {μ : Nat → Nat} {E : AS} (h : Q1 r f d0 t ρ μ E) : E.st f = 0 := h.2.1
theorem Q1.em {r f d0 t : Nat} {ρ : List Nat} {μ : Nat → Nat} {E : AS} (h : Q1 r f d0 t ρ μ E) : E.em f = 0 := h.2.2.1
theorem Q1.hv {r f d0 t : Nat} {ρ : List Nat} {μ : Nat → Nat} {E : AS} (h : Q1 r f d0 t ρ μ E) : E.hv r < E.lm := h.2.2.2.1
theorem Q1.tr {r f d0 t : Nat} {ρ : List Nat} {μ : Nat → Nat} {E : AS} (h : Q1 r f d0 t ρ μ E) : E.tr = [] := h.2.2.2.2.1
theorem Q1.row {r f d0 t : Nat} {ρ : List Nat} {μ : Nat → Nat} {E : AS} (h : Q1 r f d0 t ρ μ E) : E.row = ρ := h.2.2.2.2.2.1
theorem Q1.mk {r f d0 t : Nat} {ρ : List Nat} {μ : Nat → Nat} {E : AS} (h : Q1 r f d0 t ρ μ E) : E.mk = μ := h.2.2.2.2.2.2.1
theorem Q1.hn {r f d0 t : Nat} {ρ : List Nat} {μ : Nat → Nat} {E : AS} (h : Q1 r f d0 t ρ μ E) : 0 < E.hn := h.2.2.2.2.2.2.2
def Q0 (r f : Nat) (E : AS) : Prop := (E.sl = []) ∧ (E.tr = []) ∧ (E.st f = 1) ∧ (E.ho f = r + 1)
theorem Q0.sl {r f : Nat} {E : AS} (h : Q0 r f E) : E.sl = [] := h.1
theorem Q0.tr {r f : Nat} {E : AS} (h : Q0 r f E) : E.tr = [] := h.2.1
theorem Q0.st {r f : Nat} {E : AS} (h : Q0 r f E) : E.st f = 1 := h.2.2.1
theorem Q0.ho {r f : Nat} {E : AS} (h : Q0 r f E) : E.ho f = r + 1 := h.2.2.2
theorem rf_nil {A : AS} (h : A.tr = []) : rfA A = rfE A 0 := by
  unfold rfA
  rw [h]; rfl
theorem mn_1 {r f d0 t : Nat} {ρ : List Nat} {μ : Nat → Nat} {E : AS} (h : Q1 r f d0 t ρ μ E) : Q1 r f d0 t ρ μ (mnA (dyA E)) := by
  unfold mnA
  split
  · rw [rf_nil (A := dyA E) h.tr]
    exact ⟨h.sl, h.st, h.em, h.hv, rfl, h.row, h.mk, h.hn⟩
  · exact ⟨h.sl, h.st, h.em, h.hv, h.tr, h.row, h.mk, h.hn⟩
theorem mn_0 {r f : Nat} {E : AS} (h : Q0 r f E) : Q0 r f (mnA (dyA E)) := by
  unfold mnA
  split
  · rw [rf_nil (A := dyA E) h.tr]
    exact ⟨h.sl, rfl, h.st, h.ho⟩
  · exact ⟨h.sl, h.tr, h.st, h.ho⟩
theorem nx_0 {r f : Nat} {E : AS} (h : Q0 r f E) : (nxA E).1 = 0 ∧ Q0 r f (nxA E).2 := by
  have hm := mn_0 h
  unfold nxA
  rw [hm.sl]
  exact ⟨rfl, hm⟩
theorem nx_1 {r f d0 t : Nat} {ρ : List Nat} {μ : Nat → Nat} {E : AS} (h : Q1 r f d0 t ρ μ E) : ((t < 2 ∧ (halv (rmk μ ρ) (μ f)).1 = none) → (nxA E).1 = 0 ∧ Q1 r f d0 (t + 1) ρ μ (nxA E).2) ∧ (¬ (t < 2 ∧ (halv (rmk μ ρ) (μ f)).1 = none) → (nxA E).1 = 1 ∧ Q0 r f (nxA E).2) := by
  have hm := mn_1 h
  unfold nxA
  generalize mnA (dyA E) = G at hm
  have hid : idlA G (mkSp r f d0 t) = 0 := by
    unfold idlA
    rw [if_neg (show ¬ G.st f = 1 by rw [hm.st]; omega), if_neg (show ¬ G.st f = 2 by rw [hm.st]; omega), if_neg (show ¬ G.dy < G.em f by rw [hm.em]; omega), if_pos hm.hv]
  have hn : ¬ G.hn ≤ 0 := by have := hm.hn; omega
  have hx : G.sl[0]? = some (mkSp r f d0 t) := by rw [hm.sl]; rfl
  have hstep : ∀ b, fnA G (mkSp r f d0 t) = b → srch G.sl.length G 0 0 0 = if b = true then (1, svA (fnS G 0 (mkSp r f d0 t)) 0 (mkSp r f d0 t)) else (0, fnS G 0 (mkSp r f d0 t)) := by
    intro b hb
    rw [show G.sl.length = 0 + 1 by rw [hm.sl]; rfl, srch, if_neg hn, hx]
    dsimp only
    rw [if_pos hid, hb]
    rfl
  constructor
  · rintro ⟨h1, h2⟩
    have hfn : fnA G (mkSp r f d0 t) = false := by
      unfold fnA
      rw [if_pos h1, hm.row, hm.mk, show (mkSp r f d0 t).f = f from rfl, h2]; rfl
    rw [hstep false hfn, if_neg (by decide)]
    obtain ⟨-, ac, e, -⟩ := fn_f (A := G) 0 hfn
    rw [e]
    refine ⟨rfl, ?_, hm.st, hm.em, hm.hv, hm.tr, hm.row, hm.mk, hm.hn⟩
    show G.sl.set 0 (mkSp r f d0 (t + 1)) = _
    rw [hm.sl]; rfl
  · intro h1
    have hfn : fnA G (mkSp r f d0 t) = true := by
      unfold fnA
      by_cases ht : t < 2
      · rw [if_pos ht, hm.row, hm.mk, show (mkSp r f d0 t).f = f from rfl]
        cases hh : (halv (rmk μ ρ) (μ f)).1 with
        | none => exact absurd ⟨ht, hh⟩ h1
        | some x => rfl
      · rw [if_neg ht]
    rw [hstep true hfn, if_pos rfl]
    obtain ⟨ac, e, -⟩ := fn_t (A := G) 0 hfn
    rw [e]
    refine ⟨rfl, ?_, hm.tr, uq_s _ _ _, uq_s _ _ _⟩
    show G.sl.eraseIdx 0 = []
    rw [hm.sl]; rfl
theorem hs_1 {r f d0 t : Nat} {ρ : List Nat} {μ : Nat → Nat} {E : AS} (h : Q1 r f d0 t ρ μ E) : ¬ hasS E r f = false := by
  intro z
  rw [hasS_iff.mpr ⟨mkSp r f d0 t, by rw [h.sl]; exact List.mem_singleton.mpr rfl, rfl, rfl⟩] at z
  cases z
theorem hs_0 {r f : Nat} {E : AS} (h : Q0 r f E) : hasS E r f = false := by
  unfold hasS
  rw [h.sl]; rfl
theorem it_3 (E : AS) : itA 3 E = ((nxA E).1 + ((nxA (nxA E).2).1 + ((nxA (nxA (nxA E).2).2).1 + 0)), (nxA (nxA (nxA E).2).2).2) := by
  rw [itA, itA, itA, itA]
theorem single {r f d0 : Nat} {ρ : List Nat} {μ : Nat → Nat} {E : AS} (h : Q1 r f d0 0 ρ μ E) : svI r f 60 1 E = some (if (halv (rmk μ ρ) (μ f)).1 = none then 3 else 1) ∧ (itA 3 E).1 = 1 ∧ Q0 r f (itA 3 E).2 := by
  rw [it_3]
  dsimp only
  by_cases hn : (halv (rmk μ ρ) (μ f)).1 = none
  · obtain ⟨a1, b1⟩ := (nx_1 h).1 ⟨by omega, hn⟩
    obtain ⟨a2, b2⟩ := (nx_1 b1).1 ⟨by omega, hn⟩
    obtain ⟨a3, b3⟩ := (nx_1 b2).2 (fun z => by have := z.1; omega)
    rw [if_pos hn]
    refine ⟨?_, ?_, b3⟩
    · rw [svI, if_neg (hs_1 b1), svI, if_neg (hs_1 b2), svI, if_pos (hs_0 b3)]
    · rw [a1, a2, a3]
  · obtain ⟨a1, b1⟩ := (nx_1 h).2 (fun z => hn z.2)
    obtain ⟨a2, b2⟩ := nx_0 b1
    obtain ⟨a3, b3⟩ := nx_0 b2
    rw [if_neg hn]
    refine ⟨?_, ?_, b3⟩
    · rw [svI, if_pos (hs_0 b1)]
    · rw [a1, a2, a3]
theorem ref_3 {A : AS} {d : Nat} (hI : Inv A d) {r f : Nat} : refA A r f = -3 ↔ hasS A r f = true := by
  unfold refA
  cases hs : hasS A r f with
  | true =>
    obtain ⟨s, h1, h2, h3⟩ := hasS_iff.mp hs
    have h5 := (hI.sl s h1).2.2.2.2
    rw [h2, h3] at h5
    rw [if_neg h5, if_pos rfl]
    exact ⟨fun _ => rfl, fun _ => rfl⟩
  | false =>
    refine ⟨fun z => ?_, fun z => by cases z⟩
    split at z
    · exact absurd z (by decide)
    · rw [if_neg (by decide)] at z
      split at z <;> exact absurd z (by decide)
theorem hs_mono {r f : Nat} {A : AS} {d : Nat} (hO : OKs A d) (m n : Nat) (h : hasS (itA m A).2 r f = false) : hasS (itA (m + n) A).2 r f = false := by
  rw [it_add]
  have hO2 := (i_it m A d hO).1
  have hF := (i_it n (itA m A).2 (d + m) hO2).2.1
  cases hb : hasS (itA n (itA m A).2).2 r f with
  | false => rfl
  | true => rw [hF.hs r f hb] at h; cases h
/-- when the first slip is served is told ahead -/
theorem sv_ok {r f : Nat} {A : AS} {d : Nat} (hO : OKs A d) {j : Nat} (h1 : 1 ≤ j) (h2 : j ≤ 60) : (if optI (svI r f 60 1 A) < 0 then (0 : Int32) else if nI j < optI (svI r f 60 1 A) then 0 else 1) = if hasS (itA j A).2 r f = true then 0 else 1 := by
  cases hv : svI r f 60 1 A with
  | none =>
    rw [if_pos (show optI none < 0 by decide)]
    have := svI_none 60 1 A hv (j - 1) (by omega)
    rw [show j - 1 + 1 = j by omega] at this
    rw [if_pos this]
  | some q =>
    obtain ⟨a, b, e, g⟩ := svI_some 60 1 A q hv
    rw [show optI (some q) = nI q from rfl, if_neg (q_neg (by omega))]
    by_cases hj : j < q
    · rw [if_pos ((q_lt (by omega) (by omega)).mpr hj)]
      have := g (j - 1) (by omega)
      rw [show j - 1 + 1 = j by omega] at this
      rw [if_pos this]
    · rw [if_neg (fun z => hj ((q_lt (by omega) (by omega)).mp z))]
      have := hs_mono hO (q - 1 + 1) (j - q) e
      rw [show q - 1 + 1 + (j - q) = j by omega] at this
      rw [if_neg (by rw [this]; decide)]
