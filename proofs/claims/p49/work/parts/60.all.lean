/-! all that is told, the same of the same numbers -/
theorem alk_self {x : AR} (h : x.1 ≤ 300) : alk x x := by
  obtain ⟨N, f⟩ := x
  have h : N ≤ 300 := h
  have key : ∀ i fuel k, k + i = N → i < fuel → Lw_alike_L11 N N f f fuel (nI k) = some 1 := by
    intro i
    induction i with
    | zero =>
      intro fuel k hk hf
      obtain ⟨fuel, rfl⟩ : ∃ k, fuel = k + 1 := ⟨fuel - 1, by omega⟩
      unfold Lw_alike_L11
      rw [if_pos (show nI N ≤ nI k by rw [show k = N by omega]; exact Int32.le_refl _)]
    | succ i ih =>
      intro fuel k hk hf
      obtain ⟨fuel, rfl⟩ : ∃ k, fuel = k + 1 := ⟨fuel - 1, by omega⟩
      unfold Lw_alike_L11
      have hin : inB (nI k) N := q_in (by omega) (by omega)
      rw [if_neg (nI_ge (by omega) (by omega)), if_pos hin, if_pos hin, if_pos rfl, nI_1]
      exact ih fuel (k + 1) (by omega) (by omega)
  show (if nI N = nI N then Lw_alike_L11 N N f f FU 0 else some 0) = some 1
  rw [if_pos rfl]
  exact key N FU 0 (Nat.zero_add _) (by unfold FU; omega)
section All
variable {A : AS} {d N : Nat}
theorem w_206 (hI : Inv A d) {r : Nat} (hr : r < A.R) : ∀ (n i at' : Nat) (M : Nat → Int32), i + n = 3 → at' + n ≤ N → N ≤ 300 → ∃ f' : Nat → Int32, ∀ V : WM, Rel (V.1 9) A → ∀ k fuel v1 v2 v3, n < fuel → Lw_all_L206 V N k fuel M v1 v2 v3 (nI at') (nI r) (nI i) = k f' v1 v2 v3 (nI (at' + n)) (nI r) (nI 3) := by
  intro n
  induction n with
  | zero =>
    intro i at' M hi ha hN
    refine ⟨M, fun V h k fuel v1 v2 v3 hf => ?_⟩
    obtain ⟨fuel, rfl⟩ : ∃ k, fuel = k + 1 := ⟨fuel - 1, by omega⟩
    obtain rfl : i = 3 := by omega
    unfold Lw_all_L206
    rw [if_pos (show 3 ≤ nI 3 from Int32.le_refl _)]; rfl
  | succ n ih =>
    intro i at' M hi ha hN
    obtain ⟨f', hf'⟩ := ih (i + 1) (at' + 1) (upd M at' (reaA A r i)) (by omega) (by omega) hN
    refine ⟨f', fun V h k fuel v1 v2 v3 hf => ?_⟩
    obtain ⟨fuel, rfl⟩ : ∃ k, fuel = k + 1 := ⟨fuel - 1, by omega⟩
    unfold Lw_all_L206
    rw [if_neg (show ¬ 3 ≤ nI i from fun q => by have := (q_le (a := 3) (by omega) (by omega)).mp q; omega), q_rea h hI hr (by omega)]
    simp only [Option.bind_some]
    rw [if_pos (q_in (by omega) (by omega)), q_cl (by omega), nI_1, nI_1, hf' V h k fuel v1 v2 v3 (by omega), show at' + 1 + n = at' + (n + 1) by omega]
theorem w_197 (hI : Inv A d) : ∀ (n r at' : Nat) (M : Nat → Int32), r + n = A.R → at' + 3 * n ≤ N → N ≤ 300 → ∃ f' : Nat → Int32, ∀ V : WM, Rel (V.1 9) A → ∀ fuel v1 v2, n < fuel → Lw_all_L197 V N fuel M v1 v2 (nI A.R) (nI at') (nI r) = some (N, f') := by
  have hR := hI.R1
  intro n
  induction n with
  | zero =>
    intro r at' M hi ha hN
    refine ⟨M, fun V h fuel v1 v2 hf => ?_⟩
    obtain ⟨fuel, rfl⟩ : ∃ k, fuel = k + 1 := ⟨fuel - 1, by omega⟩
    unfold Lw_all_L197
    rw [if_pos (show nI A.R ≤ nI r by rw [show r = A.R by omega]; exact Int32.le_refl _)]
  | succ n ih =>
    intro r at' M hi ha hN
    obtain ⟨f1, hf1⟩ := w_206 (N := N) hI (r := r) (by omega) 3 0 at' M rfl (by omega) hN
    obtain ⟨f', hf'⟩ := ih (r + 1) (at' + 3) f1 (by omega) (by omega) hN
    refine ⟨f', fun V h fuel v1 v2 hf => ?_⟩
    obtain ⟨fuel, rfl⟩ : ∃ k, fuel = k + 1 := ⟨fuel - 1, by omega⟩
    unfold Lw_all_L197
    rw [if_neg (nI_ge (by omega) (by omega)), show (0 : Int32) = nI 0 from rfl, hf1 V h _ FU _ _ _ (by unfold FU; omega), nI_1]
    exact hf' V h fuel v1 v2 (by omega)
theorem w_160 (hI : Inv A d) (hd : d ≤ 1000) {p : Nat} (hp : p < A.sl.length) : ∀ (n i at' : Nat) (M : Nat → Int32), i + n = 5 → at' + n ≤ N → N ≤ 300 → ∃ f' : Nat → Int32, ∀ V : WM, Rel (V.1 9) A → ∀ k fuel v1 v2 v3, n < fuel → Lw_all_L160 V N k fuel M v1 v2 v3 (nI at') (nI p) (nI i) = k f' v1 v2 v3 (nI (at' + n)) (nI p) (nI 5) := by
  have hc := hI.sc
  intro n
  induction n with
  | zero =>
    intro i at' M hi ha hN
    refine ⟨M, fun V h k fuel v1 v2 v3 hf => ?_⟩
    obtain ⟨fuel, rfl⟩ : ∃ k, fuel = k + 1 := ⟨fuel - 1, by omega⟩
    obtain rfl : i = 5 := by omega
    unfold Lw_all_L160
    rw [if_pos (show 5 ≤ nI 5 from Int32.le_refl _)]; rfl
  | succ n ih =>
    intro i at' M hi ha hN
    obtain ⟨f', hf'⟩ := ih (i + 1) (at' + 1) (upd M at' (waiA A p i)) (by omega) (by omega) hN
    refine ⟨f', fun V h k fuel v1 v2 v3 hf => ?_⟩
    obtain ⟨fuel, rfl⟩ : ∃ k, fuel = k + 1 := ⟨fuel - 1, by omega⟩
    unfold Lw_all_L160
    rw [if_neg (show ¬ 5 ≤ nI i from fun q => by have := (q_le (a := 5) (by omega) (by omega)).mp q; omega), q_wai h hI hd (by omega) (by omega)]
    simp only [Option.bind_some]
    rw [if_pos (q_in (by omega) (by omega)), q_cl (by omega), nI_1, nI_1, hf' V h k fuel v1 v2 v3 (by omega), show at' + 1 + n = at' + (n + 1) by omega]
theorem w_151 (hI : Inv A d) (hd : d ≤ 1000) : ∀ (n p at' : Nat) (M : Nat → Int32), p + n = A.sl.length → at' + 5 * n + 3 * A.R ≤ N → N ≤ 300 → ∃ f' : Nat → Int32, ∀ V : WM, Rel (V.1 9) A → ∀ fuel v1, n < fuel → Lw_all_L151 V N fuel M v1 (nI A.sl.length) (nI A.R) (nI at') (nI p) = some (N, f') := by
  have hc := hI.sc; have hR := hI.R1
  intro n
  induction n with
  | zero =>
    intro p at' M hi ha hN
    obtain ⟨f', hf'⟩ := w_197 (N := N) hI A.R 0 at' M (Nat.zero_add _) (by omega) hN
    refine ⟨f', fun V h fuel v1 hf => ?_⟩
    obtain ⟨fuel, rfl⟩ : ∃ k, fuel = k + 1 := ⟨fuel - 1, by omega⟩
    unfold Lw_all_L151
    rw [if_pos (show nI A.sl.length ≤ nI p by rw [show p = A.sl.length by omega]; exact Int32.le_refl _)]
    exact hf' V h FU _ _ (by unfold FU; omega)
  | succ n ih =>
    intro p at' M hi ha hN
    obtain ⟨f1, hf1⟩ := w_160 (N := N) hI hd (p := p) (by omega) 5 0 at' M rfl (by omega) hN
    obtain ⟨f', hf'⟩ := ih (p + 1) (at' + 5) f1 (by omega) (by omega) hN
    refine ⟨f', fun V h fuel v1 hf => ?_⟩
    obtain ⟨fuel, rfl⟩ : ∃ k, fuel = k + 1 := ⟨fuel - 1, by omega⟩
    unfold Lw_all_L151
    rw [if_neg (nI_ge (by omega) (by omega)), show (0 : Int32) = nI 0 from rfl, hf1 V h _ FU _ _ _ (by unfold FU; omega), nI_1]
    exact hf' V h fuel v1 (by omega)
theorem w_113 (hI : Inv A d) (hd : d ≤ 1000) {f : Nat} (hf0 : f < A.F) : ∀ (n i at' : Nat) (M : Nat → Int32), i + n = 7 → at' + n ≤ N → N ≤ 300 → ∃ f' : Nat → Int32, ∀ V : WM, Rel (V.1 9) A → ∀ k fuel v1 v2 v3, n < fuel → Lw_all_L113 V N k fuel M v1 v2 v3 (nI at') (nI f) (nI i) = k f' v1 v2 v3 (nI (at' + n)) (nI f) (nI 7) := by
  intro n
  induction n with
  | zero =>
    intro i at' M hi ha hN
    refine ⟨M, fun V h k fuel v1 v2 v3 hf => ?_⟩
    obtain ⟨fuel, rfl⟩ : ∃ k, fuel = k + 1 := ⟨fuel - 1, by omega⟩
    obtain rfl : i = 7 := by omega
    unfold Lw_all_L113
    rw [if_pos (show 7 ≤ nI 7 from Int32.le_refl _)]; rfl
  | succ n ih =>
    intro i at' M hi ha hN
    obtain ⟨f', hf'⟩ := ih (i + 1) (at' + 1) (upd M at' (folA A f i)) (by omega) (by omega) hN
    refine ⟨f', fun V h k fuel v1 v2 v3 hf => ?_⟩
    obtain ⟨fuel, rfl⟩ : ∃ k, fuel = k + 1 := ⟨fuel - 1, by omega⟩
    unfold Lw_all_L113
    rw [if_neg (show ¬ 7 ≤ nI i from fun q => by have := (q_le (a := 7) (by omega) (by omega)).mp q; omega), q_fol h hI hd hf0 (by omega)]
    simp only [Option.bind_some]
    rw [if_pos (q_in (by omega) (by omega)), q_cl (by omega), nI_1, nI_1, hf' V h k fuel v1 v2 v3 (by omega), show at' + 1 + n = at' + (n + 1) by omega]
theorem w_104 (hI : Inv A d) (hd : d ≤ 1000) : ∀ (n f at' : Nat) (M : Nat → Int32), f + n = A.F → at' + 7 * n + 5 * A.sl.length + 3 * A.R ≤ N → N ≤ 300 → ∃ f' : Nat → Int32, ∀ V : WM, Rel (V.1 9) A → ∀ fuel, n < fuel → Lw_all_L104 V N fuel M (nI A.F) (nI A.sl.length) (nI A.R) (nI at') (nI f) = some (N, f') := by
  have hc := hI.sc; have hR := hI.R1; have hF := hI.F1
  intro n
  induction n with
  | zero =>
    intro f at' M hi ha hN
    obtain ⟨f', hf'⟩ := w_151 (N := N) hI hd A.sl.length 0 at' M (Nat.zero_add _) (by omega) hN
    refine ⟨f', fun V h fuel hf => ?_⟩
    obtain ⟨fuel, rfl⟩ : ∃ k, fuel = k + 1 := ⟨fuel - 1, by omega⟩
    unfold Lw_all_L104
    rw [if_pos (show nI A.F ≤ nI f by rw [show f = A.F by omega]; exact Int32.le_refl _)]
    exact hf' V h FU _ (by unfold FU; omega)
  | succ n ih =>
    intro f at' M hi ha hN
    obtain ⟨f1, hf1⟩ := w_113 (N := N) hI hd (f := f) (by omega) 7 0 at' M rfl (by omega) hN
    obtain ⟨f', hf'⟩ := ih (f + 1) (at' + 7) f1 (by omega) (by omega) hN
    refine ⟨f', fun V h fuel hf => ?_⟩
    obtain ⟨fuel, rfl⟩ : ∃ k, fuel = k + 1 := ⟨fuel - 1, by omega⟩
    unfold Lw_all_L104
    rw [if_neg (nI_ge (by omega) (by omega)), show (0 : Int32) = nI 0 from rfl, hf1 V h _ FU _ _ _ (by unfold FU; omega), nI_1]
    exact hf' V h fuel (by omega)
theorem w_74 (hI : Inv A d) (hd : d ≤ 1000) : ∀ (n i at' : Nat) (M : Nat → Int32), i + n = 11 → 3 ≤ i → at' + n + 7 * A.F + 5 * A.sl.length + 3 * A.R ≤ N → N ≤ 300 → ∃ f' : Nat → Int32, ∀ V : WM, Rel (V.1 9) A → ∀ fuel, n < fuel → Lw_all_L74 V N fuel M (nI A.F) (nI A.sl.length) (nI A.R) (nI at') (nI i) = some (N, f') := by
  have hc := hI.sc; have hR := hI.R1; have hF := hI.F1
  intro n
  induction n with
  | zero =>
    intro i at' M hi h3 ha hN
    obtain ⟨f', hf'⟩ := w_104 (N := N) hI hd A.F 0 at' M (Nat.zero_add _) (by omega) hN
    refine ⟨f', fun V h fuel hf => ?_⟩
    obtain ⟨fuel, rfl⟩ : ∃ k, fuel = k + 1 := ⟨fuel - 1, by omega⟩
    obtain rfl : i = 11 := by omega
    unfold Lw_all_L74
    rw [if_pos (show 11 ≤ nI 11 from Int32.le_refl _)]
    exact hf' V h FU (by unfold FU; omega)
  | succ n ih =>
    intro i at' M hi h3 ha hN
    obtain ⟨f', hf'⟩ := ih (i + 1) (at' + 1) (upd M at' (A.ac i)) (by omega) (by omega) (by omega) hN
    refine ⟨f', fun V h fuel hf => ?_⟩
    obtain ⟨fuel, rfl⟩ : ∃ k, fuel = k + 1 := ⟨fuel - 1, by omega⟩
    unfold Lw_all_L74
    rw [if_neg (show ¬ 11 ≤ nI i from fun q => by have := (q_le (a := 11) (by omega) (by omega)).mp q; omega), q_acc h (by omega) h3]
    simp only [Option.bind_some]
    rw [if_pos (q_in (by omega) (by omega)), q_cl (by omega), nI_1, nI_1]
    exact hf' V h fuel (by omega)
theorem w_44 (hI : Inv A d) (hd : d ≤ 1000) : ∀ (n i at' : Nat) (M : Nat → Int32), i + n = 12 → at' + n + 8 + 7 * A.F + 5 * A.sl.length + 3 * A.R ≤ N → N ≤ 300 → ∃ f' : Nat → Int32, ∀ V : WM, Rel (V.1 9) A → ∀ fuel, n < fuel → Lw_all_L44 V N fuel M (nI A.F) (nI A.sl.length) (nI A.R) (nI at') (nI i) = some (N, f') := by
  have hc := hI.sc; have hR := hI.R1; have hF := hI.F1
  intro n
  induction n with
  | zero =>
    intro i at' M hi ha hN
    obtain ⟨f', hf'⟩ := w_74 (N := N) hI hd 8 3 at' M rfl (by omega) (by omega) hN
    refine ⟨f', fun V h fuel hf => ?_⟩
    obtain ⟨fuel, rfl⟩ : ∃ k, fuel = k + 1 := ⟨fuel - 1, by omega⟩
    obtain rfl : i = 12 := by omega
    unfold Lw_all_L44
    rw [if_pos (show 12 ≤ nI 12 from Int32.le_refl _)]
    exact hf' V h FU (by unfold FU; omega)
  | succ n ih =>
    intro i at' M hi ha hN
    obtain ⟨f', hf'⟩ := ih (i + 1) (at' + 1) (upd M at' (sizA A i)) (by omega) (by omega) hN
    refine ⟨f', fun V h fuel hf => ?_⟩
    obtain ⟨fuel, rfl⟩ : ∃ k, fuel = k + 1 := ⟨fuel - 1, by omega⟩
    unfold Lw_all_L44
    rw [if_neg (show ¬ 12 ≤ nI i from fun q => by have := (q_le (a := 12) (by omega) (by omega)).mp q; omega), q_size h hI (by omega) (by omega)]
    simp only [Option.bind_some]
    rw [if_pos (q_in (by omega) (by omega)), q_cl (by omega), nI_1, nI_1]
    exact hf' V h fuel (by omega)
/-- all that is told is a function of the numbers -/
theorem all_ok (hI : Inv A d) (hd : d ≤ 1000) : ∃ x : AR, alk x x ∧ ∀ V : WM, Rel (V.1 9) A → Lw_all V = some x := by
  have hc := hI.sc; have hR := hI.R1; have hF := hI.F1
  obtain ⟨f', hf'⟩ := w_44 (N := 20 + 7 * A.F + 5 * A.sl.length + 3 * A.R) hI hd 12 0 0 (fun _ => 0) rfl (by omega) (by omega)
  refine ⟨(20 + 7 * A.F + 5 * A.sl.length + 3 * A.R, f'), alk_self (by show 20 + 7 * A.F + 5 * A.sl.length + 3 * A.R ≤ 300; omega), fun V h => ?_⟩
  have e5 : SA_size V 5 = some (nI A.F) := q_size h hI (by omega) (k := 5) (by omega)
  have e9 : SA_size V 9 = some (nI A.sl.length) := q_size h hI (by omega) (k := 9) (by omega)
  have e3 : SA_size V 3 = some (nI A.R) := q_size h hI (by omega) (k := 3) (by omega)
  unfold Lw_all
  rw [e5, e9, e3]
  simp only [Option.bind_some]
  have eN : (20 : Int32) + 7 * nI A.F + 5 * nI A.sl.length + 3 * nI A.R = nI (20 + 7 * A.F + 5 * A.sl.length + 3 * A.R) := by
    rw [show (7 : Int32) * nI A.F = nI (7 * A.F) from (Int32.ofNat_mul 7 _).symm, show (5 : Int32) * nI A.sl.length = nI (5 * A.sl.length) from (Int32.ofNat_mul 5 _).symm, show (3 : Int32) * nI A.R = nI (3 * A.R) from (Int32.ofNat_mul 3 _).symm, show (20 : Int32) = nI 20 from rfl, nI_add, nI_add, nI_add]
  rw [eN, q_cl (by omega), if_pos ⟨q_neg (by omega), by omega⟩]
  exact hf' V h FU (by unfold FU; omega)
end All
