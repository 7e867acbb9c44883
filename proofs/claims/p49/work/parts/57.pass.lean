/-! a day and days, in numbers -/
section Pass
variable {M : StM} {A : AS} {d : Nat}
theorem fn_t {x : Sp} (p : Nat) (h : fnA A x = true) : ∃ ac, fnS A p x = (mkAS A.dy A.pe A.hn A.lm A.F A.R A.mk A.em A.st A.ho A.le A.hv A.rc A.row A.tr A.sl (ac)) ∧ (∀ k, k ≠ 6 → k ≠ 7 → ac k = A.ac k) ∧ (ac 6 = A.ac 6 ∨ ac 6 = A.ac 6 + 1) := by
  unfold fnA at h
  unfold fnS
  by_cases h2 : x.t < 2
  · rw [if_pos h2] at h ⊢
    rw [if_pos h]
    exact ⟨_, rfl, fun k _ h7 => if_neg h7, Or.inl (if_neg (by omega))⟩
  · rw [if_neg h2]
    exact ⟨_, rfl, fun k h6 _ => if_neg h6, Or.inr (if_pos rfl)⟩
theorem fn_f {x : Sp} (p : Nat) (h : fnA A x = false) : x.t < 2 ∧ ∃ ac, fnS A p x = (mkAS A.dy A.pe A.hn A.lm A.F A.R A.mk A.em A.st A.ho A.le A.hv A.rc A.row A.tr (A.sl.set p (mkSp x.r x.f x.d (x.t + 1))) (ac)) ∧ (∀ k, k ≠ 5 → k ≠ 7 → ac k = A.ac k) := by
  unfold fnA at h
  unfold fnS
  by_cases h2 : x.t < 2
  · rw [if_pos h2] at h ⊢
    rw [if_neg (by rw [h]; decide)]
    exact ⟨h2, _, rfl, fun k h5 h7 => (if_neg h5).trans (if_neg h7)⟩
  · rw [if_neg h2] at h; cases h
theorem er_mem {row : List Nat} (hn : row.Nodup) {f : Nat} (hf : f ∈ row) {g : Nat} : g ∈ row.eraseIdx (row.idxOf f) ↔ g ∈ row ∧ g ≠ f := by
  have h1 := er_perm hf
  have h2 := List.nodup_cons.mp (h1.nodup_iff.mpr hn)
  rw [← h1.mem_iff, List.mem_cons]
  constructor
  · intro h; exact ⟨Or.inr h, fun q => h2.1 ((congrArg (fun z => z ∈ row.eraseIdx (row.idxOf f)) q).mp h)⟩
  · rintro ⟨h | h, h3⟩
    · exact absurd h h3
    · exact h
theorem Fr.rfl' (A : AS) : Fr A A := ⟨rfl, rfl, rfl, rfl, rfl, rfl, rfl, fun _ _ q => q⟩
theorem Fr.tr' {A B C : AS} (h : Fr A B) (g : Fr B C) : Fr A C := ⟨g.pe.trans h.pe, g.hn.trans h.hn, g.lm.trans h.lm, g.F.trans h.F, g.R.trans h.R, g.mk.trans h.mk, g.em.trans h.em, fun r f q => h.hs r f (g.hs r f q)⟩
theorem hasS_sub {A B : AS} (h : ∀ s ∈ B.sl, ∃ t ∈ A.sl, t.r = s.r ∧ t.f = s.f) (r f : Nat) (hb : hasS B r f = true) : hasS A r f = true := by
  obtain ⟨s, hs, h1, h2⟩ := hasS_iff.mp hb
  obtain ⟨t, ht, h3, h4⟩ := h s hs
  exact hasS_iff.mpr ⟨t, ht, h3.trans h1, h4.trans h2⟩
theorem i_miss (hO : OKs A d) {p : Nat} {x : Sp} (hp : A.sl[p]? = some x) (h : fnA A x = false) : OKs (fnS A p x) d ∧ Fr A (fnS A p x) ∧ (fnS A p x).dy = A.dy ∧ (fnS A p x).ac 4 = A.ac 4 ∧ (fnS A p x).sl.length = A.sl.length := by
  obtain ⟨hI, n, w, k, a1, a2, a3, a4, a5, a6, a7, a8⟩ := hO
  obtain ⟨ht, ac, e, hac⟩ := fn_f p h
  obtain ⟨hpl, hr, hf, hd, -, hho⟩ := sp_at hI hp
  have hm : ∀ s ∈ A.sl.set p (mkSp x.r x.f x.d (x.t + 1)), s = mkSp x.r x.f x.d (x.t + 1) ∨ s ∈ A.sl := fun s hs => (List.mem_or_eq_of_mem_set hs).symm
  have hmp : (A.sl.set p (mkSp x.r x.f x.d (x.t + 1))).map (fun s : Sp => (s.r, s.f)) = A.sl.map (fun s : Sp => (s.r, s.f)) := by
    apply List.ext_getElem?
    intro i
    rw [List.getElem?_map, List.getElem?_map, List.getElem?_set]
    by_cases hi : p = i
    · subst hi; rw [if_pos rfl, if_pos hpl, hp]; rfl
    · rw [if_neg hi]
  rw [e]
  refine ⟨⟨⟨hI.F1, hI.R1, hI.p1, hI.h1, hI.m1, hI.dy, hI.mk, hI.mi, hI.em, hI.ho, hI.rw, hI.tr, hI.out, hI.s2, hI.rn, hI.tn, hI.hv, hI.hl, (?_), (?_), (?_)⟩, n, w, k, a1, a2, (hac 4 (by omega) (by omega)).trans a3, (hac 6 (by omega) (by omega)).trans a4, (hac 3 (by omega) (by omega)).trans a5, a6, ?_, a8⟩, ⟨rfl, rfl, rfl, rfl, rfl, rfl, rfl, ?_⟩, rfl, hac 4 (by omega) (by omega), List.length_set⟩
  · intro s hs
    rcases hm s hs with rfl | hs
    · exact ⟨hr, hf, hd, ht, hho⟩
    · exact hI.sl s hs
  · exact hmp ▸ hI.sn
  · show (A.sl.set p _).length ≤ 16
    rw [List.length_set]; exact hI.sc
  · show n + (A.sl.set p _).length ≤ k
    rw [List.length_set]; exact a7
  · refine hasS_sub fun s hs => ?_
    rcases hm s hs with rfl | hs
    · exact ⟨x, List.mem_of_getElem? hp, rfl, rfl⟩
    · exact ⟨s, hs, rfl, rfl⟩
theorem i_sv (hO : OKs A d) {p : Nat} {x : Sp} (hp : A.sl[p]? = some x) (h0 : A.st x.f = 0) (hl : A.hv x.r < A.lm) {ac : Nat → Int32} (hac : ∀ k, k ≠ 6 → k ≠ 7 → ac k = A.ac k) (h6 : ac 6 = A.ac 6 ∨ ac 6 = A.ac 6 + 1) : OKs (svA (mkAS A.dy A.pe A.hn A.lm A.F A.R A.mk A.em A.st A.ho A.le A.hv A.rc A.row A.tr A.sl (ac)) p x) d := by
  obtain ⟨hI, n, w, k, a1, a2, a3, a4, a5, a6, a7, a8⟩ := hO
  obtain ⟨hpl, hr, hf, hd, ht, hho⟩ := sp_at hI hp
  have hmr := (hI.rw x.f).mpr ⟨hf, h0⟩
  have hno : A.ho x.f = 0 := by have := hI.out x.f hf; omega
  have hlen : (A.sl.eraseIdx p).length = A.sl.length - 1 := by rw [List.length_eraseIdx, if_pos hpl]
  have hv : ∀ r, r < A.R → uq A.hv x.r (A.hv x.r + 1) r = sm A.F (fun g => if uq A.ho x.f (x.r + 1) g = r + 1 then 1 else 0) ∧ uq A.hv x.r (A.hv x.r + 1) r ≤ A.lm := by
    intro r hr'
    have h3 := hI.hv r hr'; have h4 := hI.hl r hr'
    have h5 := sm_upd hf (g := fun g => if A.ho g = r + 1 then 1 else 0) (g' := fun g => if uq A.ho x.f (x.r + 1) g = r + 1 then 1 else 0) (fun j _ hj => by rw [uq_o _ hj])
    rw [uq_s, hno, if_neg (show ¬ 0 = r + 1 by omega)] at h5
    by_cases h7 : r = x.r
    · rw [if_pos (show x.r + 1 = r + 1 by omega)] at h5
      subst h7
      rw [uq_s]
      omega
    · rw [if_neg (show ¬ x.r + 1 = r + 1 by omega)] at h5
      rw [uq_o _ h7]
      omega
  have hw : ∃ w', (ac 6 = nI w' ∧ w' ≤ n + 1) := by
    rcases h6 with e | e
    · exact ⟨w, e.trans a4, by omega⟩
    · exact ⟨w + 1, by rw [e, a4, nI_1], by omega⟩
  obtain ⟨w', hw1, hw2⟩ := hw
  refine ⟨⟨hI.F1, hI.R1, hI.p1, hI.h1, hI.m1, hI.dy, hI.mk, hI.mi, hI.em, (?_), (?_), (?_), (?_), (?_), (?_), hI.tn, (fun r hr => (hv r hr).1), (fun r hr => (hv r hr).2), (?_), (hI.sn.sublist ((List.eraseIdx_sublist _ _).map _)), (?_)⟩, n + 1, w', k, ?_, ?_, ?_, hw1, ?_, hw2, ?_, a8⟩
  · intro i hi
    show uq A.ho x.f (x.r + 1) i ≤ A.R
    rw [uq_c]
    split
    · exact hr
    · exact hI.ho i hi
  · intro g
    show g ∈ A.row.eraseIdx (A.row.idxOf x.f) ↔ g < A.F ∧ uq A.st x.f 1 g = 0
    rw [er_mem hI.rn hmr, hI.rw g, uq_c]
    by_cases hg : g = x.f
    · rw [if_pos hg]; simp [hg]
    · rw [if_neg hg]; simp [hg]
  · intro g
    refine (hI.tr g).trans ?_
    show g < A.F ∧ A.st g = 2 ↔ g < A.F ∧ uq A.st x.f 1 g = 2
    rw [uq_c]
    by_cases hg : g = x.f
    · rw [if_pos hg, hg, h0]; simp
    · rw [if_neg hg]
  · intro g hg
    show uq A.st x.f 1 g = 1 ↔ 0 < uq A.ho x.f (x.r + 1) g
    rw [uq_c, uq_c]
    have := hI.out g hg
    split
    · omega
    · exact this
  · intro g hg
    show uq A.st x.f 1 g ≤ 2
    rw [uq_c]
    split
    · omega
    · exact hI.s2 g hg
  · exact hI.rn.eraseIdx _
  · intro s hs
    obtain ⟨q1, q2, q3, q4, q5⟩ := hI.sl s (List.mem_of_mem_eraseIdx hs)
    refine ⟨q1, q2, q3, q4, ?_⟩
    show uq A.ho x.f (x.r + 1) s.f ≠ s.r + 1
    rw [uq_c]
    split
    · rename_i hsf
      intro hsr
      obtain ⟨i, hi, e⟩ := List.mem_eraseIdx_iff_getElem?.mp hs
      exact hi (sl_inj hI e hp (by omega) hsf)
    · exact q5
  · show (A.sl.eraseIdx p).length ≤ 16
    have := hI.sc; omega
  · show sm A.F (uq A.le x.f (A.le x.f + 1)) = n + 1
    have h5 := sm_upd hf (g := A.le) (g' := uq A.le x.f (A.le x.f + 1)) (fun j _ hj => uq_o _ hj)
    rw [uq_s] at h5
    omega
  · show sm A.R (uq A.rc x.r (A.rc x.r + 1)) = n + 1
    have h5 := sm_upd hr (g := A.rc) (g' := uq A.rc x.r (A.rc x.r + 1)) (fun j _ hj => uq_o _ hj)
    rw [uq_s] at h5
    omega
  · show ac 4 + 1 = nI (n + 1)
    rw [hac 4 (by omega) (by omega), a3, nI_1]
  · exact (hac 3 (by omega) (by omega)).trans a5
  · show n + 1 + (A.sl.eraseIdx p).length ≤ k
    omega
def srch : Nat → AS → Nat → Nat → Nat → Nat × AS
  | 0, A, v, _, _ => (v, A)
  | k + 1, A, v, s, p => if A.hn ≤ s then (v, A) else match A.sl[p]? with
    | none => (v, A)
    | some x => if idlA A x = 0 then (if fnA A x = true then srch k (svA (fnS A p x) p x) (v + 1) (s + 1) p else srch k (fnS A p x) v (s + 1) (p + 1)) else srch k A v s (p + 1)
theorem idl_0 (hI : Inv A d) {p : Nat} {x : Sp} (hp : A.sl[p]? = some x) (h : idlA A x = 0) : A.st x.f = 0 ∧ ¬ A.dy < A.em x.f ∧ A.hv x.r < A.lm := by
  have h2 := hI.s2 x.f (sp_at hI hp).2.2.1
  unfold idlA at h
  split at h
  · omega
  · split at h
    · omega
    · split at h
      · omega
      · split at h
        · exact ⟨by omega, by assumption, by assumption⟩
        · omega
theorem idl_le (x : Sp) : idlA A x ≤ 4 := by
  unfold idlA
  split
  · omega
  · split
    · omega
    · split
      · omega
      · split <;> omega
theorem fn_inv (hI : Inv A d) {p : Nat} {x : Sp} (hp : A.sl[p]? = some x) (h : fnA A x = true) : Inv (fnS A p x) d ∧ (fnS A p x).sl[p]? = some x ∧ (fnS A p x).st = A.st := by
  obtain ⟨ac, e, -⟩ := fn_t (A := A) p h
  rw [e]
  exact ⟨⟨hI.F1, hI.R1, hI.p1, hI.h1, hI.m1, (hI.dy), hI.mk, hI.mi, hI.em, hI.ho, hI.rw, hI.tr, hI.out, hI.s2, hI.rn, hI.tn, hI.hv, hI.hl, hI.sl, hI.sn, hI.sc⟩, hp, rfl⟩
theorem w_srch (hd : d ≤ 1000) : ∀ (k fuel : Nat) (M : StM) (A : AS) (v s p : Nat), Rel M A → OKs A d → p + k = A.sl.length → s + k ≤ 100 → k < fuel → ∃ M', St_nextDay_L36 fuel M (nI v) (nI s) (nI p) (nI k) = some (nI (srch k A v s p).1, M') ∧ Rel M' (srch k A v s p).2 := by
  intro k
  induction k with
  | zero =>
    intro fuel M A v s p h hO hp hs hf
    obtain ⟨fuel, rfl⟩ : ∃ k, fuel = k + 1 := ⟨fuel - 1, by omega⟩
    unfold St_nextDay_L36 srch
    rw [if_pos (show nI 0 ≤ 0 from Int32.le_refl _)]
    exact ⟨M, rfl, h⟩
  | succ k ih =>
    intro fuel M A v s p h hO hp hs hf
    obtain ⟨fuel, rfl⟩ : ∃ k, fuel = k + 1 := ⟨fuel - 1, by omega⟩
    have hI := hO.1
    have hh := hI.h1
    have hc := hI.sc
    unfold St_nextDay_L36 srch
    rw [if_neg (show ¬ nI (k + 1) ≤ 0 from nI_nle (by omega) (by omega)), h.i2]
    by_cases h1 : A.hn ≤ s
    · rw [if_pos ((q_le (by omega) (by omega)).mpr h1), if_pos h1]
      exact ⟨M, rfl, h⟩
    · rw [if_neg (fun q => h1 ((q_le (by omega) (by omega)).mp q)), if_neg h1]
      obtain ⟨x, hx⟩ := sp_ex (A := A) (p := p) (by omega)
      rw [hx, e_idle h hI hd hx, nI_m1]
      have hle := idl_le (A := A) x
      simp only [nI_1]
      by_cases h2 : idlA A x = 0
      · rw [if_pos ((z0 (by omega)).mpr h2), if_pos h2]
        obtain ⟨h3, h4, h5⟩ := idl_0 hI hx h2
        obtain ⟨M1, e1, hR1⟩ := e_fn h hI hx h3
        rw [e1]
        simp only [Option.bind_some]
        cases hfn : fnA A x with
        | true =>
          rw [if_pos rfl, if_neg (by decide), if_pos rfl]
          simp only [lt']
          obtain ⟨i1, i2, i3⟩ := fn_inv hI hx hfn
          have hR2 := e_sv hR1 i1 i2 (by rw [i3]; exact h3)
          obtain ⟨ac, e, g1, g2⟩ := fn_t (A := A) p hfn
          have hO2 : OKs (svA (fnS A p x) p x) d := by rw [e]; exact i_sv hO hx h3 h5 g1 g2
          refine ih fuel _ _ (v + 1) (s + 1) p hR2 hO2 ?_ (by omega) (by omega)
          have hll : (svA (fnS A p x) p x).sl = A.sl.eraseIdx p := by rw [e]; rfl
          rw [hll, List.length_eraseIdx, if_pos (by omega)]
          omega
        | false =>
          rw [show (if false = true then (1 : Int32) else 0) = 0 from rfl, if_pos rfl, if_neg (show ¬ false = true by decide)]
          obtain ⟨j1, j2, j3, j4, j5⟩ := i_miss hO hx hfn
          exact ih fuel _ _ v (s + 1) (p + 1) hR1 j1 (by rw [j5]; omega) (by omega) (by omega)
      · rw [if_neg (fun q => h2 ((z0 (by omega)).mp q)), if_neg h2]
        exact ih fuel M A v s (p + 1) h hO (by omega) (by omega) (by omega)
theorem i_srch : ∀ (k : Nat) (A : AS) (v s p : Nat), OKs A d → p + k = A.sl.length → OKs (srch k A v s p).2 d ∧ Fr A (srch k A v s p).2 ∧ (srch k A v s p).2.dy = A.dy ∧ ∃ n, (srch k A v s p).1 = v + n ∧ n ≤ k ∧ (srch k A v s p).2.ac 4 = A.ac 4 + nI n := by
  intro k
  induction k with
  | zero => exact fun A v s p hO _ => ⟨hO, Fr.rfl' A, rfl, 0, rfl, Nat.le_refl _, (Int32.add_zero _).symm⟩
  | succ k ih =>
    intro A v s p hO hp
    have hI := hO.1
    unfold srch
    by_cases h1 : A.hn ≤ s
    · rw [if_pos h1]
      exact ⟨hO, Fr.rfl' A, rfl, 0, rfl, Nat.zero_le _, (Int32.add_zero _).symm⟩
    · rw [if_neg h1]
      obtain ⟨x, hx⟩ := sp_ex (A := A) (p := p) (by omega)
      rw [hx]
      dsimp only
      by_cases h2 : idlA A x = 0
      · rw [if_pos h2]
        obtain ⟨h3, h4, h5⟩ := idl_0 hI hx h2
        cases hfn : fnA A x with
        | true =>
          rw [if_pos rfl]
          obtain ⟨ac, e, g1, g2⟩ := fn_t (A := A) p hfn
          have hO2 : OKs (svA (fnS A p x) p x) d := by rw [e]; exact i_sv hO hx h3 h5 g1 g2
          have hll : (svA (fnS A p x) p x).sl = A.sl.eraseIdx p := by rw [e]; rfl
          have hF2 : Fr A (svA (fnS A p x) p x) := by
            rw [e]
            exact ⟨rfl, rfl, rfl, rfl, rfl, rfl, rfl, hasS_sub fun s hs => ⟨s, List.mem_of_mem_eraseIdx hs, rfl, rfl⟩⟩
          have hdy : (svA (fnS A p x) p x).dy = A.dy := by rw [e]; rfl
          have hac : (svA (fnS A p x) p x).ac 4 = A.ac 4 + 1 := by
            rw [e]
            show ac 4 + 1 = _
            rw [g1 4 (by omega) (by omega)]
          obtain ⟨k1, k2, k3, n, k4, k5, k6⟩ := ih (svA (fnS A p x) p x) (v + 1) (s + 1) p hO2 (by rw [hll, List.length_eraseIdx, if_pos (by omega)]; omega)
          refine ⟨k1, hF2.tr' k2, k3.trans hdy, n + 1, by omega, by omega, ?_⟩
          rw [k6, hac, Int32.add_assoc, show (1 : Int32) + nI n = nI (n + 1) by rw [Int32.add_comm, nI_1]]
        | false =>
          rw [if_neg (by decide)]
          obtain ⟨j1, j2, j3, j4, j5⟩ := i_miss hO hx hfn
          obtain ⟨k1, k2, k3, n, k4, k5, k6⟩ := ih (fnS A p x) v (s + 1) (p + 1) j1 (by rw [j5]; omega)
          exact ⟨k1, j2.tr' k2, k3.trans j3, n, k4, by omega, by rw [k6, j4]⟩
      · rw [if_neg h2]
        obtain ⟨k1, k2, k3, n, k4, k5, k6⟩ := ih A v s (p + 1) hO (by omega)
        exact ⟨k1, k2, k3, n, k4, by omega, k6⟩
def dyA (A : AS) : AS := (mkAS (A.dy + 1) A.pe A.hn A.lm A.F A.R A.mk A.em A.st A.ho A.le A.hv A.rc A.row A.tr A.sl A.ac)
def mnA (A : AS) : AS := if A.dy % A.pe = 0 then rfA A else A
def nxA (A : AS) : Nat × AS := srch (mnA (dyA A)).sl.length (mnA (dyA A)) 0 0 0
theorem i_dy (hO : OKs A d) : OKs (dyA A) (d + 1) := by
  obtain ⟨hI, hA⟩ := hO
  refine ⟨⟨hI.F1, hI.R1, hI.p1, hI.h1, hI.m1, (Nat.succ_le_succ hI.dy), hI.mk, hI.mi, hI.em, hI.ho, hI.rw, hI.tr, hI.out, hI.s2, hI.rn, hI.tn, hI.hv, hI.hl, (fun s hs => ?_), hI.sn, hI.sc⟩, hA.wide (Nat.le_succ _)⟩
  obtain ⟨q1, q2, q3, q4, q5⟩ := hI.sl s hs
  exact ⟨q1, q2, Nat.le_succ_of_le q3, q4, q5⟩
theorem e_dy (h : Rel M A) : Rel (setI M 0 ((M.1 0) + 1)) (dyA A) := by
  have e0 : M.1 0 + 1 = nI (A.dy + 1) := by rw [h.i0, nI_1]
  exact ⟨(e0), h.i1, h.i2, h.i3, h.l0, h.l1, h.l2, h.l3, h.l4, h.l5, h.l6, h.l7, h.la, h.lb, h.lc, h.ld, h.lx, h.lf⟩
theorem i_mn (hO : OKs A d) : OKs (mnA A) d ∧ Fr A (mnA A) ∧ (mnA A).dy = A.dy ∧ (mnA A).sl = A.sl ∧ (mnA A).ac 4 = A.ac 4 := by
  unfold mnA
  split
  · exact i_rf hO
  · exact ⟨hO, Fr.rfl' A, rfl, rfl, rfl⟩
theorem e_nx (h : Rel M A) (hO : OKs A d) (hd : d + 1 ≤ 1000) : ∃ M', St_nextDay M = some (nI (nxA A).1, M') ∧ Rel M' (nxA A).2 := by
  have h1 := e_dy h
  have hO1 := i_dy hO
  unfold St_nextDay nxA mnA
  rw [e_refDay h1 hO1.1 (by omega)]
  by_cases h0 : (dyA A).dy % (dyA A).pe = 0
  · rw [if_pos h0, if_neg (by decide), if_pos h0]
    obtain ⟨M1, e1, h2⟩ := e_rf h1 hO1.1
    have hO2 := (i_rf hO1).1
    rw [e1]
    simp only [Option.bind_some, lt']
    rw [e_cnt_sl h2]
    exact w_srch hd _ FU M1 (rfA (dyA A)) 0 0 0 h2 hO2 (Nat.zero_add _) (by have := hO2.1.sc; omega) (by have := hO2.1.sc; unfold FU; omega)
  · rw [if_neg h0, if_pos rfl, if_neg h0]
    simp only [lt']
    rw [e_cnt_sl h1]
    exact w_srch hd _ FU _ (dyA A) 0 0 0 h1 hO1 (Nat.zero_add _) (by have := hO1.1.sc; omega) (by have := hO1.1.sc; unfold FU; omega)
theorem i_nx (hO : OKs A d) : OKs (nxA A).2 (d + 1) ∧ Fr A (nxA A).2 ∧ (nxA A).2.dy = A.dy + 1 ∧ (nxA A).1 ≤ 16 ∧ (nxA A).2.ac 4 = A.ac 4 + nI (nxA A).1 := by
  obtain ⟨a1, a2, a3, a4, a5⟩ := i_mn (i_dy hO)
  obtain ⟨b1, b2, b3, n, b4, b5, b6⟩ := i_srch (mnA (dyA A)).sl.length (mnA (dyA A)) 0 0 0 a1 (Nat.zero_add _)
  have hc := a1.1.sc
  unfold nxA
  refine ⟨b1, Fr.tr' (Fr.tr' ?_ a2) b2, b3.trans a3, by omega, ?_⟩
  · exact ⟨rfl, rfl, rfl, rfl, rfl, rfl, rfl, fun _ _ q => q⟩
  · rw [b6, a5, b4, Nat.zero_add]; rfl
def itA : Nat → AS → Nat × AS
  | 0, A => (0, A)
  | n + 1, A => ((nxA A).1 + (itA n (nxA A).2).1, (itA n (nxA A).2).2)
theorem i_it : ∀ (n : Nat) (A : AS) (d : Nat), OKs A d → OKs (itA n A).2 (d + n) ∧ Fr A (itA n A).2 ∧ (itA n A).2.dy = A.dy + n ∧ (itA n A).1 ≤ 16 * n ∧ (itA n A).2.ac 4 = A.ac 4 + nI (itA n A).1 := by
  intro n
  induction n with
  | zero => exact fun A d hO => ⟨hO, Fr.rfl' A, rfl, Nat.le_refl _, (Int32.add_zero _).symm⟩
  | succ n ih =>
    intro A d hO
    obtain ⟨a1, a2, a3, a4, a5⟩ := i_nx hO
    obtain ⟨b1, b2, b3, b4, b5⟩ := ih (nxA A).2 (d + 1) a1
    unfold itA
    refine ⟨by rw [show d + (n + 1) = d + 1 + n by omega]; exact b1, a2.tr' b2, by rw [b3, a3]; omega, by dsimp only; omega, ?_⟩
    dsimp only
    rw [b5, a5, Int32.add_assoc, nI_add]
theorem it_r : ∀ (n : Nat) (A : AS), itA (n + 1) A = ((itA n A).1 + (nxA (itA n A).2).1, (nxA (itA n A).2).2) := by
  intro n
  induction n with
  | zero => intro A; unfold itA itA; rw [Nat.zero_add, Nat.add_zero]
  | succ n ih =>
    intro A
    show ((nxA A).1 + (itA (n + 1) (nxA A).2).1, (itA (n + 1) (nxA A).2).2) = _
    rw [ih]
    show _ = ((nxA A).1 + (itA n (nxA A).2).1 + _, _)
    rw [Nat.add_assoc]; rfl
theorem w_pass {n : Nat} (hn : n ≤ 60) {L : Int32} : ∀ (i fuel k v : Nat) (M : StM) (A : AS) (d : Nat), k + i = n → i < fuel → Rel M A → OKs A d → d + i ≤ 1000 → ∃ M', St_passDays_L18 fuel M (nI n) L (nI v) (nI k) = some (nI (v + (itA i A).1), M') ∧ Rel M' (itA i A).2 := by
  intro i
  induction i with
  | zero =>
    intro fuel k v M A d hk hf h hO hd
    obtain ⟨fuel, rfl⟩ : ∃ k, fuel = k + 1 := ⟨fuel - 1, by omega⟩
    unfold St_passDays_L18
    rw [if_pos (show nI n ≤ nI k by rw [show k = n by omega]; exact Int32.le_refl _)]
    exact ⟨M, rfl, h⟩
  | succ i ih =>
    intro fuel k v M A d hk hf h hO hd
    obtain ⟨fuel, rfl⟩ : ∃ k, fuel = k + 1 := ⟨fuel - 1, by omega⟩
    unfold St_passDays_L18
    rw [if_neg (nI_ge (by omega) (by omega))]
    obtain ⟨M1, e1, h1⟩ := e_nx h hO (by omega)
    rw [e1]
    simp only [Option.bind_some, lt']
    rw [nI_add, nI_1]
    obtain ⟨M2, e2, h2⟩ := ih fuel (k + 1) (v + (nxA A).1) M1 (nxA A).2 (d + 1) (by omega) (by omega) h1 (i_nx hO).1 (by omega)
    refine ⟨M2, ?_, h2⟩
    rw [e2, Nat.add_assoc]; rfl
theorem e_pass (h : Rel M A) (hO : OKs A d) {n L : Nat} (hn : n ≤ 60) (hd : d + n ≤ 1000) (hL : L < 10000) (hl : A.dy + n ≤ L) : ∃ M', St_passDays M (nI n) (nI L) = some (nI (itA n A).1, M') ∧ Rel M' (itA n A).2 := by
  have hdy := hO.1.dy
  unfold St_passDays
  rw [h.i0, nI_add, if_pos ((q_le (by omega) (by omega)).mpr hl)]
  obtain ⟨M', e, h'⟩ := w_pass hn (L := nI L) n FU 0 0 M A d (Nat.zero_add _) (by unfold FU; omega) h hO hd
  rw [Nat.zero_add] at e
  exact ⟨M', e, h'⟩
end Pass
