/-! it is an archive -/
theorem bs {α β : Type} (x : α) (f : α → Option β) : Option.bind (some x) f = f x := of_eq_true (eq_self _)
theorem ltb {α β : Type} (x : α) (f : α → β) : lt' x f = f x := of_eq_true (eq_self _)
theorem lt_01 {α : Type} (X : Int32 → α) (P : Prop) [Decidable P] : (lt' X fun c => if P then c 1 else c 0) = X (if P then 1 else 0) := by
  unfold lt'
  split <;> rfl
theorem lt_10 {α : Type} (X : Int32 → α) (P : Prop) [Decidable P] : (lt' X fun c => if P then c 0 else c 1) = X (if P then 0 else 1) := by
  unfold lt'
  split <;> rfl
theorem b01 {P Q : Prop} [Decidable P] [Decidable Q] (h : P ↔ Q) : (if P then (1 : Int32) else 0) = nI (if Q then 1 else 0) := by
  by_cases hq : Q
  · rw [if_pos hq, if_pos (h.mpr hq)]; rfl
  · rw [if_neg hq, if_neg (fun z => hq (h.mp z))]; rfl
theorem b10 {P Q : Prop} [Decidable P] [Decidable Q] (h : P ↔ ¬ Q) : (if P then (0 : Int32) else 1) = nI (if Q then 1 else 0) := by
  by_cases hq : Q
  · rw [if_pos hq, if_neg (fun z => h.mp z hq)]; rfl
  · rw [if_neg hq, if_pos (h.mpr hq)]; rfl
section Arch
variable {W : WM} {A : AS} {d p c : Nat}
theorem w_L20 (h : Rel (W.1 9) A) (hI : Inv A d) (hd : d ≤ 1000) (v1 : Int32) : ∀ (i fuel k : Nat), k + i = A.F → i < fuel → Lw_isArchive_L20 fuel W v1 (nI (sm k (fun f => if A.st f = 1 then 1 else 0))) (nI (sm k (fun f => if A.st f = 2 then 1 else 0))) (nI (sm k A.le)) (nI (sm k (cF A))) (nI k) = Lw_isArchive_L202 FU W v1 (nI (sm A.F (fun f => if A.st f = 1 then 1 else 0))) (nI (sm A.F (fun f => if A.st f = 2 then 1 else 0))) (nI (sm A.F A.le)) (nI (sm A.F (cF A))) 0 0 0 := by
  have hF := hI.F1
  have e5 : SA_size W 5 = some (nI A.F) := q_size h hI (by omega) (k := 5) (by omega)
  have e0 : SA_size W 0 = some (nI A.dy) := q_size h hI (by omega) (k := 0) (by omega)
  intro i
  induction i with
  | zero =>
    intro fuel k hk hf
    obtain ⟨fuel, rfl⟩ : ∃ k, fuel = k + 1 := ⟨fuel - 1, by omega⟩
    obtain rfl : k = A.F := by omega
    unfold Lw_isArchive_L20
    rw [e5]
    simp only [bs]
    rw [if_pos (Int32.le_refl _)]
  | succ i ih =>
    intro fuel k hk hf
    obtain ⟨fuel, rfl⟩ : ∃ k, fuel = k + 1 := ⟨fuel - 1, by omega⟩
    have hk' : k < A.F := by omega
    have hs2 := hI.s2 k hk'; have hem := hI.em k hk'; have hdy := hI.dy; have hc := hI.sc
    have f0 : SA_folder W (nI k) 0 = some (nI (A.mk k)) := q_fol h hI hd hk' (k := 0) (by omega)
    have f1 : SA_folder W (nI k) 1 = some (nI (A.em k)) := q_fol h hI hd hk' (k := 1) (by omega)
    have f2 : SA_folder W (nI k) 2 = some (nI (A.st k)) := q_fol h hI hd hk' (k := 2) (by omega)
    have f3 : SA_folder W (nI k) 3 = some (whA A k) := q_fol h hI hd hk' (k := 3) (by omega)
    have f4 : SA_folder W (nI k) 4 = some (nI (cF A k)) := q_fol h hI hd hk' (k := 4) (by omega)
    have f5 : SA_folder W (nI k) 5 = some (nI (A.le k)) := q_fol h hI hd hk' (k := 5) (by omega)
    have f6 : SA_folder W (nI k) 6 = some (if A.dy < A.em k then 1 else 0) := q_fol h hI hd hk' (k := 6) (by omega)
    have hm := q_marked h hI hk'
    obtain ⟨res, ea, ha⟩ := q_asked h hI
    have hn := ih fuel (k + 1) (by omega) (by omega)
    unfold Lw_isArchive_L20
    simp only [lt_01, lt_10]
    rw [e5]
    simp only [bs]
    rw [if_neg (nI_ge hk' (by omega)), f2]
    simp only [bs, ltb]
    rw [f5]
    simp only [bs]
    rw [f4]
    simp only [bs]
    rw [f0]
    simp only [bs]
    rw [if_pos hm]
    have hT2 : (if (if A.dy < A.em k then (1 : Int32) else 0) = 1 then (1 : Int32) else 0) = (if nI (A.em k) ≤ nI A.dy then (0 : Int32) else 1) := by
      by_cases h1 : A.dy < A.em k
      · rw [if_pos h1, if_neg (show ¬ nI (A.em k) ≤ nI A.dy from fun q => by have := (q_le (by omega) (by omega)).mp q; omega)]
        exact if_pos rfl
      · rw [if_neg h1, if_pos (show nI (A.em k) ≤ nI A.dy from (q_le (by omega) (by omega)).mpr (by omega))]
        exact if_neg (by decide)
    have hcf : cF A k < 100000 := by
      have : cF A k ≤ (A.sl.map (fun s => s.f)).length := List.count_le_length
      rw [List.length_map] at this
      omega
    have hsum : Lw_isArchive_L20 fuel W v1 (nI (sm k fun f => if A.st f = 1 then 1 else 0) + (if nI (A.st k) = 1 then 1 else 0)) (nI (sm k fun f => if A.st f = 2 then 1 else 0) + (if nI (A.st k) = 2 then 1 else 0)) (nI (sm k A.le) + nI (A.le k)) (nI (sm k (cF A)) + nI (cF A k)) (nI k + 1) = Lw_isArchive_L202 FU W v1 (nI (sm A.F (fun f => if A.st f = 1 then 1 else 0))) (nI (sm A.F (fun f => if A.st f = 2 then 1 else 0))) (nI (sm A.F A.le)) (nI (sm A.F (cF A))) 0 0 0 := by
      rw [b01 (z1 (a := A.st k) (by omega)), b01 (z2 (a := A.st k) (by omega)), nI_add, nI_add, nI_add, nI_add, nI_1]
      exact hn
    rw [hsum, f6]
    simp only [bs]
    rw [e0]
    simp only [bs]
    rw [f1]
    simp only [bs]
    rw [if_pos hT2]
    have hE : (if nI (cF A k) ≤ 0 then Lw_isArchive_L202 FU W v1 (nI (sm A.F (fun f => if A.st f = 1 then 1 else 0))) (nI (sm A.F (fun f => if A.st f = 2 then 1 else 0))) (nI (sm A.F A.le)) (nI (sm A.F (cF A))) 0 0 0 else Option.bind (SA_mostAsked W) fun q => if 0 ≤ q then Lw_isArchive_L202 FU W v1 (nI (sm A.F (fun f => if A.st f = 1 then 1 else 0))) (nI (sm A.F (fun f => if A.st f = 2 then 1 else 0))) (nI (sm A.F A.le)) (nI (sm A.F (cF A))) 0 0 0 else some (0, W)) = Lw_isArchive_L202 FU W v1 (nI (sm A.F (fun f => if A.st f = 1 then 1 else 0))) (nI (sm A.F (fun f => if A.st f = 2 then 1 else 0))) (nI (sm A.F A.le)) (nI (sm A.F (cF A))) 0 0 0 := by
      by_cases h1 : 0 < cF A k
      · rw [if_neg (show ¬ nI (cF A k) ≤ 0 from nI_nle h1 (by omega)), ea]
        simp only [bs]
        rw [if_pos (ha ⟨k, hk', h1⟩)]
      · rw [if_pos (show nI (cF A k) ≤ 0 from (q_le (b := 0) hcf (by omega)).mpr (by omega))]
    rw [hE]
    by_cases h0 : A.st k = 0
    · have hx := idx_lt hI hk' h0
      have hat : SA_at W (whA A k) = nI k := by
        unfold whA
        rw [if_pos h0, q_at h hI hx, List.getD_eq_getElem?_getD, List.getElem?_eq_getElem hx]
        exact congrArg nI (List.getElem_idxOf hx)
      rw [if_pos ((z0 (by omega)).mpr h0), f3]
      simp only [bs]
      rw [if_pos hat]
    · rw [if_neg (fun q => h0 ((z0 (by omega)).mp q))]
end Arch
