/-! a slip is served -/
section Served
variable {A : AS} {d : Nat}
theorem it_1 (B : AS) : itA 1 B = ((nxA B).1 + 0, (nxA B).2) := by rw [itA, itA]
theorem OpR.wr {W : WM} {A : AS} {p c : Nat} {code : Int32} {A' : AS} {W' : WM} (h : OpR W A p c code A' W') : ∃ p' c', WR W' A' p' c' := by
  have h1 := h.1
  by_cases hc : code < 0
  · rw [if_pos hc] at h1; exact ⟨_, _, h1⟩
  · rw [if_neg hc] at h1; exact ⟨_, _, h1⟩
theorem w_72 (hO : OKs A d) (hd : d + 20 ≤ 900) {n : Nat} (hn : n ≤ 8) {v6 v7 v8 : Int32} (hv : v7 < 0 ∨ ∃ r f, v7 = nI r ∧ v8 = nI f ∧ r < A.R ∧ f < A.F ∧ ∀ j, 1 ≤ j → j ≤ 60 → (if v6 < 0 then (0 : Int32) else if nI j < v6 then 0 else 1) = if hasS (itA j A).2 r f = true then 0 else 1) : ∀ (i fuel j p c : Nat) (M : WM), j + i = n → i < fuel → WR M (itA j A).2 p c → SN M A → ∃ M' p' c' v9, WR M' (itA n A).2 p' c' ∧ SN M' A ∧ ∀ k v1 v3 v4 v5, Lw_isServed_L72 k fuel M v1 (nI n) v3 v4 v5 v6 v7 v8 (nI (j + 1)) = k M' v1 (nI n) v3 v4 v5 v6 v7 v8 v9 := by
  intro i
  induction i with
  | zero =>
    intro fuel j p c M hj hf h hs
    obtain ⟨fuel, rfl⟩ : ∃ k, fuel = k + 1 := ⟨fuel - 1, by omega⟩
    obtain rfl : j = n := by omega
    refine ⟨M, p, c, nI (j + 1), h, hs, fun k v1 v3 v4 v5 => ?_⟩
    rw [Lw_isServed_L72, if_pos ((q_lt (by omega) (by omega)).mpr (by omega))]
  | succ i ih =>
    intro fuel j p c M hj hf h hs
    obtain ⟨fuel, rfl⟩ : ∃ k, fuel = k + 1 := ⟨fuel - 1, by omega⟩
    have hO2 := (i_it j A d hO).1
    obtain ⟨M1, e1, ho⟩ := o_days h hO2 (n := 1) (by omega) (by omega) (by omega)
    have hst : (itA 1 (itA j A).2).2 = (itA (j + 1) A).2 := (it_add j 1 A).symm
    rw [hst] at ho
    obtain ⟨p1, c1, h1⟩ := ho.wr
    have hs1 := hs.kp ho.2.2
    have hO3 := (i_it (j + 1) A d hO).1
    have hF3 := (i_it (j + 1) A d hO).2.1
    have hb := (i_it 1 (itA j A).2 (d + j) hO2).2.2.2.1
    obtain ⟨M', p', c', v9, h2, hs2, he⟩ := ih fuel (j + 1) p1 c1 M1 (by omega) (by omega) h1 hs1
    refine ⟨M', p', c', v9, h2, hs2, fun k v1 v3 v4 v5 => ?_⟩
    have e1 : SA_days M 1 = some (nI (itA 1 (itA j A).2).1, M1) := e1
    have he' := he k v1 v3 v4 v5
    rw [Lw_isServed_L72, nI_1 (j + 1), if_neg (fun z => by have := (q_lt (by omega) (by omega)).mp z; omega), e1]
    simp only [bs]
    rw [if_pos (show 0 ≤ nI (itA 1 (itA j A).2).1 from nI_pos' (by omega))]
    simp only [ltb]
    rw [he']
    rcases hv with hv | ⟨r, f, e7, e8, hr, hf', hv⟩
    · rw [if_pos hv]
    · have ey := q_why h1.1 hO3.1 (r := r) (f := f) (by rw [hF3.R]; exact hr) (by rw [hF3.F]; exact hf')
      have hR := hO.1.R1
      have hvj := hv (j + 1) (by omega) (by omega)
      have hvn : ¬ v7 < 0 := by rw [e7]; exact q_neg (by omega)
      rw [if_neg hvn, e7, e8, ey]
      simp only [bs]
      have h3 := ref_3 hO3.1 (r := r) (f := f)
      generalize k M' v1 (nI n) v3 v4 v5 v6 (nI r) (nI f) v9 = K
      by_cases hh : hasS (itA (j + 1) A).2 r f = true
      · rw [if_pos hh] at hvj
        simp only [if_pos (h3.mpr hh), if_true, if_neg (show ¬ (1 : Int32) = 0 by decide)]
        by_cases a1 : v6 < 0
        · simp only [if_pos a1]
        · rw [if_neg a1] at hvj ⊢
          by_cases a2 : nI (j + 1) < v6
          · simp only [if_pos a2]
          · rw [if_neg a2] at hvj; exact absurd hvj (by decide)
      · rw [if_neg hh] at hvj
        by_cases a1 : v6 < 0
        · rw [if_pos a1] at hvj; exact absurd hvj (by decide)
        · rw [if_neg a1] at hvj ⊢
          by_cases a2 : nI (j + 1) < v6
          · rw [if_pos a2] at hvj; exact absurd hvj (by decide)
          · simp only [if_neg a2, if_neg (fun z => hh (h3.mp z)), if_true]
def noS (B : AS) : AS := (mkAS B.dy B.pe B.hn B.lm B.F B.R B.mk B.em B.st B.ho B.le B.hv B.rc B.row B.tr ([]) B.ac)
theorem noS_self {B : AS} (h : B.sl = []) : noS B = B := by
  obtain ⟨b1, b2, b3, b4, b5, b6, b7, b8, b9, b10, b11, b12, b13, b14, b15, b16, b17⟩ := B
  have h : b16 = [] := h
  subst h
  rfl
theorem w_171 (hd : d ≤ 900) {S : AS} : ∀ (i fuel p c : Nat) (B : AS) (M : WM), B.sl.length = i → i < fuel → OKs B d → WR M B p c → SN M S → ∃ M' p' c', WR M' (noS B) p' c' ∧ SN M' S ∧ OKs (noS B) d ∧ ∀ k v1 v2 v3 v4 v5 v6 v7 v8 v9, Lw_isServed_L171 k fuel M v1 v2 v3 v4 v5 v6 v7 v8 v9 = k M' v1 v2 v3 v4 v5 v6 v7 v8 v9 := by
  intro i
  induction i with
  | zero =>
    intro fuel p c B M hi hf hO h hs
    obtain ⟨fuel, rfl⟩ : ∃ k, fuel = k + 1 := ⟨fuel - 1, by omega⟩
    have e9 : SA_size M 9 = some (nI B.sl.length) := q_size h.1 hO.1 (by omega) (k := 9) (by omega)
    rw [noS_self (List.length_eq_zero_iff.mp hi)]
    refine ⟨M, p, c, h, hs, hO, fun k v1 v2 v3 v4 v5 v6 v7 v8 v9 => ?_⟩
    rw [Lw_isServed_L171, e9, hi]
    simp only [bs]
    rw [if_pos (show nI 0 ≤ 0 from Int32.le_refl _)]
  | succ i ih =>
    intro fuel p c B M hi hf hO h hs
    obtain ⟨fuel, rfl⟩ : ∃ k, fuel = k + 1 := ⟨fuel - 1, by omega⟩
    have hc := hO.1.sc
    have e9 : SA_size M 9 = some (nI B.sl.length) := q_size h.1 hO.1 (by omega) (k := 9) (by omega)
    obtain ⟨M1, e1, ho⟩ := o_drop h hO.1 (q := 0) (by omega)
    rw [if_pos (show 0 < B.sl.length by omega)] at e1 ho
    rw [if_pos (show 0 < B.sl.length by omega)] at ho
    obtain ⟨p1, c1, h1⟩ := ho.wr
    obtain ⟨M', p', c', h2, hs2, hO2, he⟩ := ih fuel p1 c1 (drA B 0) M1 (by
      show (B.sl.eraseIdx 0).length = i
      rw [List.length_eraseIdx, if_pos (by omega)]; omega) (by omega) (i_dr hO 0) h1 (hs.kp ho.2.2)
    refine ⟨M', p', c', h2, hs2, hO2, fun k v1 v2 v3 v4 v5 v6 v7 v8 v9 => ?_⟩
    have e1 : SA_dropSlip M 0 = some (nI (B.sl.length - 1), M1) := e1
    rw [Lw_isServed_L171, e9]
    simp only [bs]
    rw [if_neg (show ¬ nI B.sl.length ≤ 0 from nI_nle (by omega) (by omega)), e1]
    simp only [bs]
    rw [if_pos (nI_pos' (by omega))]
    exact he k v1 v2 v3 v4 v5 v6 v7 v8 v9
end Served
