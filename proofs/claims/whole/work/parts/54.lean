/-! the relation where one region of the numbers changes -/
theorem Rel.onrow {H : Int32} {A A' : StM} {f g : Nat → Int32} (h : Rel H A f) (hz : Sz A) (hi : A'.1 = A.1) (hl : ∀ j, j ≠ 7 → j ≠ 8 → j ≠ 9 → A'.2 j = A.2 j) (hg : ∀ j, j ≠ 6 → ¬ (145 ≤ j ∧ j < 169) → g j = f j) (h6 : g 6 = nI (A'.2 7).length) (hr : ∀ i, i < (A'.2 7).length → g (145 + i) = (A'.2 7).getD i 0) : Rel H A' g := by
  have zfo := hz.fo
  have ze1 := hz.e1
  have ze2 := hz.e2
  have ze3 := hz.e3
  have ze4 := hz.e4
  have zr := hz.r
  have ze6 := hz.e6
  have zl := hz.l
  have zt := hz.t
  have zs := hz.s
  have ze12 := hz.e12
  have ze13 := hz.e13
  have ze14 := hz.e14
  have ze15 := hz.e15
  refine ⟨?_, ?_, ?_, ?_, ?_, ?_, ?_, ?_, ?_, ?_, ?_, ?_, ?_, ?_, ?_, ?_, ?_, ?_, ?_, ?_, ?_, ?_⟩
  · rw [hi]; exact (hg 0 (by omega) (by omega)).trans h.day
  · rw [hi]; exact (hg 1 (by omega) (by omega)).trans h.per
  · rw [hi]; exact (hg 4 (by omega) (by omega)).trans h.lim
  · exact (hg 2 (by omega) (by omega)).trans h.hd
  · rw [(hl 5 (by decide) (by decide) (by decide))]; exact (hg 3 (by omega) (by omega)).trans h.nr
  · rw [(hl 0 (by decide) (by decide) (by decide))]; exact (hg 5 (by omega) (by omega)).trans h.nf
  · exact h6
  · rw [(hl 10 (by decide) (by decide) (by decide))]; exact (hg 7 (by omega) (by omega)).trans h.nt
  · rw [(hl 11 (by decide) (by decide) (by decide))]; exact (hg 8 (by omega) (by omega)).trans h.ns
  · rw [(hl 0 (by decide) (by decide) (by decide))]; exact fun i hi => (hg _ (by omega) (by omega)).trans (h.mk i hi)
  · rw [(hl 1 (by decide) (by decide) (by decide))]; exact fun i hi => (hg _ (by omega) (by omega)).trans (h.em i hi)
  · rw [(hl 2 (by decide) (by decide) (by decide))]; exact fun i hi => (hg _ (by omega) (by omega)).trans (h.st i hi)
  · rw [(hl 3 (by decide) (by decide) (by decide)), (hl 2 (by decide) (by decide) (by decide))]; exact fun i hi e => (hg _ (by omega) (by omega)).trans (h.wi i hi e)
  · rw [(hl 4 (by decide) (by decide) (by decide))]; exact fun i hi => (hg _ (by omega) (by omega)).trans (h.tm i hi)
  · rw [(hl 6 (by decide) (by decide) (by decide))]; exact fun i hi => (hg _ (by omega) (by omega)).trans (h.sv i hi)
  · exact fun i hi => by rw [Nat.one_mul]; exact hr i hi
  · rw [(hl 10 (by decide) (by decide) (by decide))]; exact fun i hi => (hg _ (by omega) (by omega)).trans (h.tr i hi)
  · rw [(hl 11 (by decide) (by decide) (by decide))]; exact fun i hi => (hg _ (by omega) (by omega)).trans (h.s0 i hi)
  · rw [(hl 12 (by decide) (by decide) (by decide))]; exact fun i hi => (hg _ (by omega) (by omega)).trans (h.s1 i hi)
  · rw [(hl 13 (by decide) (by decide) (by decide))]; exact fun i hi => (hg _ (by omega) (by omega)).trans (h.s2 i hi)
  · rw [(hl 14 (by decide) (by decide) (by decide))]; exact fun i hi => (hg _ (by omega) (by omega)).trans (h.s3 i hi)
  · rw [(hl 15 (by decide) (by decide) (by decide))]; exact fun k k1 k2 => (hg _ (by omega) (by omega)).trans (h.ac k k1 k2)
theorem Rel.ontrol {H : Int32} {A A' : StM} {f g : Nat → Int32} (h : Rel H A f) (hz : Sz A) (hi : A'.1 = A.1) (hl : ∀ j, j ≠ 10 → A'.2 j = A.2 j) (hg : ∀ j, j ≠ 7 → ¬ (169 ≤ j ∧ j < 193) → g j = f j) (h7 : g 7 = nI (A'.2 10).length) (hr : ∀ i, i < (A'.2 10).length → g (169 + i) = (A'.2 10).getD i 0) : Rel H A' g := by
  have zfo := hz.fo
  have ze1 := hz.e1
  have ze2 := hz.e2
  have ze3 := hz.e3
  have ze4 := hz.e4
  have zr := hz.r
  have ze6 := hz.e6
  have zl := hz.l
  have zt := hz.t
  have zs := hz.s
  have ze12 := hz.e12
  have ze13 := hz.e13
  have ze14 := hz.e14
  have ze15 := hz.e15
  refine ⟨?_, ?_, ?_, ?_, ?_, ?_, ?_, ?_, ?_, ?_, ?_, ?_, ?_, ?_, ?_, ?_, ?_, ?_, ?_, ?_, ?_, ?_⟩
  · rw [hi]; exact (hg 0 (by omega) (by omega)).trans h.day
  · rw [hi]; exact (hg 1 (by omega) (by omega)).trans h.per
  · rw [hi]; exact (hg 4 (by omega) (by omega)).trans h.lim
  · exact (hg 2 (by omega) (by omega)).trans h.hd
  · rw [(hl 5 (by decide))]; exact (hg 3 (by omega) (by omega)).trans h.nr
  · rw [(hl 0 (by decide))]; exact (hg 5 (by omega) (by omega)).trans h.nf
  · rw [(hl 7 (by decide))]; exact (hg 6 (by omega) (by omega)).trans h.nl
  · exact h7
  · rw [(hl 11 (by decide))]; exact (hg 8 (by omega) (by omega)).trans h.ns
  · rw [(hl 0 (by decide))]; exact fun i hi => (hg _ (by omega) (by omega)).trans (h.mk i hi)
  · rw [(hl 1 (by decide))]; exact fun i hi => (hg _ (by omega) (by omega)).trans (h.em i hi)
  · rw [(hl 2 (by decide))]; exact fun i hi => (hg _ (by omega) (by omega)).trans (h.st i hi)
  · rw [(hl 3 (by decide)), (hl 2 (by decide))]; exact fun i hi e => (hg _ (by omega) (by omega)).trans (h.wi i hi e)
  · rw [(hl 4 (by decide))]; exact fun i hi => (hg _ (by omega) (by omega)).trans (h.tm i hi)
  · rw [(hl 6 (by decide))]; exact fun i hi => (hg _ (by omega) (by omega)).trans (h.sv i hi)
  · rw [(hl 7 (by decide))]; exact fun i hi => (hg _ (by omega) (by omega)).trans (h.rw i hi)
  · exact fun i hi => by rw [Nat.one_mul]; exact hr i hi
  · rw [(hl 11 (by decide))]; exact fun i hi => (hg _ (by omega) (by omega)).trans (h.s0 i hi)
  · rw [(hl 12 (by decide))]; exact fun i hi => (hg _ (by omega) (by omega)).trans (h.s1 i hi)
  · rw [(hl 13 (by decide))]; exact fun i hi => (hg _ (by omega) (by omega)).trans (h.s2 i hi)
  · rw [(hl 14 (by decide))]; exact fun i hi => (hg _ (by omega) (by omega)).trans (h.s3 i hi)
  · rw [(hl 15 (by decide))]; exact fun k k1 k2 => (hg _ (by omega) (by omega)).trans (h.ac k k1 k2)
theorem Rel.onslips {H : Int32} {A A' : StM} {f g : Nat → Int32} (h : Rel H A f) (hz : Sz A) (hi : A'.1 = A.1) (hl : ∀ j, j ≠ 11 → j ≠ 12 → j ≠ 13 → j ≠ 14 → A'.2 j = A.2 j) (hg : ∀ j, j ≠ 8 → ¬ (193 ≤ j ∧ j < 257) → g j = f j) (h8 : g 8 = nI (A'.2 11).length) (a0 : Arr g 193 4 (A'.2 11)) (a1 : Arr g 194 4 (A'.2 12)) (a2 : Arr g 195 4 (A'.2 13)) (a3 : Arr g 196 4 (A'.2 14)) : Rel H A' g := by
  have zfo := hz.fo
  have ze1 := hz.e1
  have ze2 := hz.e2
  have ze3 := hz.e3
  have ze4 := hz.e4
  have zr := hz.r
  have ze6 := hz.e6
  have zl := hz.l
  have zt := hz.t
  have zs := hz.s
  have ze12 := hz.e12
  have ze13 := hz.e13
  have ze14 := hz.e14
  have ze15 := hz.e15
  refine ⟨?_, ?_, ?_, ?_, ?_, ?_, ?_, ?_, ?_, ?_, ?_, ?_, ?_, ?_, ?_, ?_, ?_, ?_, ?_, ?_, ?_, ?_⟩
  · rw [hi]; exact (hg 0 (by omega) (by omega)).trans h.day
  · rw [hi]; exact (hg 1 (by omega) (by omega)).trans h.per
  · rw [hi]; exact (hg 4 (by omega) (by omega)).trans h.lim
  · exact (hg 2 (by omega) (by omega)).trans h.hd
  · rw [(hl 5 (by decide) (by decide) (by decide) (by decide))]; exact (hg 3 (by omega) (by omega)).trans h.nr
  · rw [(hl 0 (by decide) (by decide) (by decide) (by decide))]; exact (hg 5 (by omega) (by omega)).trans h.nf
  · rw [(hl 7 (by decide) (by decide) (by decide) (by decide))]; exact (hg 6 (by omega) (by omega)).trans h.nl
  · rw [(hl 10 (by decide) (by decide) (by decide) (by decide))]; exact (hg 7 (by omega) (by omega)).trans h.nt
  · exact h8
  · rw [(hl 0 (by decide) (by decide) (by decide) (by decide))]; exact fun i hi => (hg _ (by omega) (by omega)).trans (h.mk i hi)
  · rw [(hl 1 (by decide) (by decide) (by decide) (by decide))]; exact fun i hi => (hg _ (by omega) (by omega)).trans (h.em i hi)
  · rw [(hl 2 (by decide) (by decide) (by decide) (by decide))]; exact fun i hi => (hg _ (by omega) (by omega)).trans (h.st i hi)
  · rw [(hl 3 (by decide) (by decide) (by decide) (by decide)), (hl 2 (by decide) (by decide) (by decide) (by decide))]; exact fun i hi e => (hg _ (by omega) (by omega)).trans (h.wi i hi e)
  · rw [(hl 4 (by decide) (by decide) (by decide) (by decide))]; exact fun i hi => (hg _ (by omega) (by omega)).trans (h.tm i hi)
  · rw [(hl 6 (by decide) (by decide) (by decide) (by decide))]; exact fun i hi => (hg _ (by omega) (by omega)).trans (h.sv i hi)
  · rw [(hl 7 (by decide) (by decide) (by decide) (by decide))]; exact fun i hi => (hg _ (by omega) (by omega)).trans (h.rw i hi)
  · rw [(hl 10 (by decide) (by decide) (by decide) (by decide))]; exact fun i hi => (hg _ (by omega) (by omega)).trans (h.tr i hi)
  · exact a0
  · exact a1
  · exact a2
  · exact a3
  · rw [(hl 15 (by decide) (by decide) (by decide) (by decide))]; exact fun k k1 k2 => (hg _ (by omega) (by omega)).trans (h.ac k k1 k2)
theorem Rel.onacc {H : Int32} {A A' : StM} {f g : Nat → Int32} (h : Rel H A f) (hz : Sz A) (hi : A'.1 = A.1) (hl : ∀ j, j ≠ 15 → A'.2 j = A.2 j) (hg : ∀ j, ¬ (9 ≤ j ∧ j < 17) → g j = f j) (ha : ∀ k, 3 ≤ k → k < 11 → g (6 + k) = (A'.2 15).getD k 0) : Rel H A' g := by
  have zfo := hz.fo
  have ze1 := hz.e1
  have ze2 := hz.e2
  have ze3 := hz.e3
  have ze4 := hz.e4
  have zr := hz.r
  have ze6 := hz.e6
  have zl := hz.l
  have zt := hz.t
  have zs := hz.s
  have ze12 := hz.e12
  have ze13 := hz.e13
  have ze14 := hz.e14
  have ze15 := hz.e15
  refine ⟨?_, ?_, ?_, ?_, ?_, ?_, ?_, ?_, ?_, ?_, ?_, ?_, ?_, ?_, ?_, ?_, ?_, ?_, ?_, ?_, ?_, ?_⟩
  · rw [hi]; exact (hg 0 (by omega)).trans h.day
  · rw [hi]; exact (hg 1 (by omega)).trans h.per
  · rw [hi]; exact (hg 4 (by omega)).trans h.lim
  · exact (hg 2 (by omega)).trans h.hd
  · rw [(hl 5 (by decide))]; exact (hg 3 (by omega)).trans h.nr
  · rw [(hl 0 (by decide))]; exact (hg 5 (by omega)).trans h.nf
  · rw [(hl 7 (by decide))]; exact (hg 6 (by omega)).trans h.nl
  · rw [(hl 10 (by decide))]; exact (hg 7 (by omega)).trans h.nt
  · rw [(hl 11 (by decide))]; exact (hg 8 (by omega)).trans h.ns
  · rw [(hl 0 (by decide))]; exact fun i hi => (hg _ (by omega)).trans (h.mk i hi)
  · rw [(hl 1 (by decide))]; exact fun i hi => (hg _ (by omega)).trans (h.em i hi)
  · rw [(hl 2 (by decide))]; exact fun i hi => (hg _ (by omega)).trans (h.st i hi)
  · rw [(hl 3 (by decide)), (hl 2 (by decide))]; exact fun i hi e => (hg _ (by omega)).trans (h.wi i hi e)
  · rw [(hl 4 (by decide))]; exact fun i hi => (hg _ (by omega)).trans (h.tm i hi)
  · rw [(hl 6 (by decide))]; exact fun i hi => (hg _ (by omega)).trans (h.sv i hi)
  · rw [(hl 7 (by decide))]; exact fun i hi => (hg _ (by omega)).trans (h.rw i hi)
  · rw [(hl 10 (by decide))]; exact fun i hi => (hg _ (by omega)).trans (h.tr i hi)
  · rw [(hl 11 (by decide))]; exact fun i hi => (hg _ (by omega)).trans (h.s0 i hi)
  · rw [(hl 12 (by decide))]; exact fun i hi => (hg _ (by omega)).trans (h.s1 i hi)
  · rw [(hl 13 (by decide))]; exact fun i hi => (hg _ (by omega)).trans (h.s2 i hi)
  · rw [(hl 14 (by decide))]; exact fun i hi => (hg _ (by omega)).trans (h.s3 i hi)
  · exact ha
theorem Rel.onserv {H : Int32} {A A' : StM} {f g : Nat → Int32} (h : Rel H A f) (hz : Sz A) (hi : A'.1 = A.1) (hl : ∀ j, j ≠ 6 → A'.2 j = A.2 j) (hg : ∀ j, ¬ (17 ≤ j ∧ j < 25) → g j = f j) (hs : Arr g 17 1 (A'.2 6)) : Rel H A' g := by
  have zfo := hz.fo
  have ze1 := hz.e1
  have ze2 := hz.e2
  have ze3 := hz.e3
  have ze4 := hz.e4
  have zr := hz.r
  have ze6 := hz.e6
  have zl := hz.l
  have zt := hz.t
  have zs := hz.s
  have ze12 := hz.e12
  have ze13 := hz.e13
  have ze14 := hz.e14
  have ze15 := hz.e15
  refine ⟨?_, ?_, ?_, ?_, ?_, ?_, ?_, ?_, ?_, ?_, ?_, ?_, ?_, ?_, ?_, ?_, ?_, ?_, ?_, ?_, ?_, ?_⟩
  · rw [hi]; exact (hg 0 (by omega)).trans h.day
  · rw [hi]; exact (hg 1 (by omega)).trans h.per
  · rw [hi]; exact (hg 4 (by omega)).trans h.lim
  · exact (hg 2 (by omega)).trans h.hd
  · rw [(hl 5 (by decide))]; exact (hg 3 (by omega)).trans h.nr
  · rw [(hl 0 (by decide))]; exact (hg 5 (by omega)).trans h.nf
  · rw [(hl 7 (by decide))]; exact (hg 6 (by omega)).trans h.nl
  · rw [(hl 10 (by decide))]; exact (hg 7 (by omega)).trans h.nt
  · rw [(hl 11 (by decide))]; exact (hg 8 (by omega)).trans h.ns
  · rw [(hl 0 (by decide))]; exact fun i hi => (hg _ (by omega)).trans (h.mk i hi)
  · rw [(hl 1 (by decide))]; exact fun i hi => (hg _ (by omega)).trans (h.em i hi)
  · rw [(hl 2 (by decide))]; exact fun i hi => (hg _ (by omega)).trans (h.st i hi)
  · rw [(hl 3 (by decide)), (hl 2 (by decide))]; exact fun i hi e => (hg _ (by omega)).trans (h.wi i hi e)
  · rw [(hl 4 (by decide))]; exact fun i hi => (hg _ (by omega)).trans (h.tm i hi)
  · exact hs
  · rw [(hl 7 (by decide))]; exact fun i hi => (hg _ (by omega)).trans (h.rw i hi)
  · rw [(hl 10 (by decide))]; exact fun i hi => (hg _ (by omega)).trans (h.tr i hi)
  · rw [(hl 11 (by decide))]; exact fun i hi => (hg _ (by omega)).trans (h.s0 i hi)
  · rw [(hl 12 (by decide))]; exact fun i hi => (hg _ (by omega)).trans (h.s1 i hi)
  · rw [(hl 13 (by decide))]; exact fun i hi => (hg _ (by omega)).trans (h.s2 i hi)
  · rw [(hl 14 (by decide))]; exact fun i hi => (hg _ (by omega)).trans (h.s3 i hi)
  · rw [(hl 15 (by decide))]; exact fun k k1 k2 => (hg _ (by omega)).trans (h.ac k k1 k2)
theorem Rel.onfold {H : Int32} {A A' : StM} {f g : Nat → Int32} (h : Rel H A f) (hz : Sz A) (hi : A'.1 = A.1) (hl : ∀ j, j ≠ 1 → j ≠ 2 → j ≠ 3 → j ≠ 4 → A'.2 j = A.2 j) (hg : ∀ j, ¬ (25 ≤ j ∧ j < 145 ∧ j % 5 ≠ 0) → g j = f j) (a1 : Arr g 26 5 (A'.2 1)) (a2 : Arr g 27 5 (A'.2 2)) (a3 : ∀ i, i < (A'.2 3).length → (A'.2 2).getD i 0 = 1 → g (28 + 5 * i) = (A'.2 3).getD i 0) (a4 : Arr g 29 5 (A'.2 4)) : Rel H A' g := by
  have zfo := hz.fo
  have ze1 := hz.e1
  have ze2 := hz.e2
  have ze3 := hz.e3
  have ze4 := hz.e4
  have zr := hz.r
  have ze6 := hz.e6
  have zl := hz.l
  have zt := hz.t
  have zs := hz.s
  have ze12 := hz.e12
  have ze13 := hz.e13
  have ze14 := hz.e14
  have ze15 := hz.e15
  refine ⟨?_, ?_, ?_, ?_, ?_, ?_, ?_, ?_, ?_, ?_, ?_, ?_, ?_, ?_, ?_, ?_, ?_, ?_, ?_, ?_, ?_, ?_⟩
  · rw [hi]; exact (hg 0 (by omega)).trans h.day
  · rw [hi]; exact (hg 1 (by omega)).trans h.per
  · rw [hi]; exact (hg 4 (by omega)).trans h.lim
  · exact (hg 2 (by omega)).trans h.hd
  · rw [(hl 5 (by decide) (by decide) (by decide) (by decide))]; exact (hg 3 (by omega)).trans h.nr
  · rw [(hl 0 (by decide) (by decide) (by decide) (by decide))]; exact (hg 5 (by omega)).trans h.nf
  · rw [(hl 7 (by decide) (by decide) (by decide) (by decide))]; exact (hg 6 (by omega)).trans h.nl
  · rw [(hl 10 (by decide) (by decide) (by decide) (by decide))]; exact (hg 7 (by omega)).trans h.nt
  · rw [(hl 11 (by decide) (by decide) (by decide) (by decide))]; exact (hg 8 (by omega)).trans h.ns
  · rw [(hl 0 (by decide) (by decide) (by decide) (by decide))]; exact fun i hi => (hg _ (by omega)).trans (h.mk i hi)
  · exact a1
  · exact a2
  · exact a3
  · exact a4
  · rw [(hl 6 (by decide) (by decide) (by decide) (by decide))]; exact fun i hi => (hg _ (by omega)).trans (h.sv i hi)
  · rw [(hl 7 (by decide) (by decide) (by decide) (by decide))]; exact fun i hi => (hg _ (by omega)).trans (h.rw i hi)
  · rw [(hl 10 (by decide) (by decide) (by decide) (by decide))]; exact fun i hi => (hg _ (by omega)).trans (h.tr i hi)
  · rw [(hl 11 (by decide) (by decide) (by decide) (by decide))]; exact fun i hi => (hg _ (by omega)).trans (h.s0 i hi)
  · rw [(hl 12 (by decide) (by decide) (by decide) (by decide))]; exact fun i hi => (hg _ (by omega)).trans (h.s1 i hi)
  · rw [(hl 13 (by decide) (by decide) (by decide) (by decide))]; exact fun i hi => (hg _ (by omega)).trans (h.s2 i hi)
  · rw [(hl 14 (by decide) (by decide) (by decide) (by decide))]; exact fun i hi => (hg _ (by omega)).trans (h.s3 i hi)
  · rw [(hl 15 (by decide) (by decide) (by decide) (by decide))]; exact fun k k1 k2 => (hg _ (by omega)).trans (h.ac k k1 k2)
theorem Rel.onhave {H : Int32} {A A' : StM} {f g : Nat → Int32} (h : Rel H A f) (hz : Sz A) (hi : A'.1 = A.1) (hl : ∀ j, j ≠ 5 → A'.2 j = A.2 j) (hg : ∀ j, g j = f j) (h3 : g 3 = nI (A'.2 5).length) : Rel H A' g := by
  have zfo := hz.fo
  have ze1 := hz.e1
  have ze2 := hz.e2
  have ze3 := hz.e3
  have ze4 := hz.e4
  have zr := hz.r
  have ze6 := hz.e6
  have zl := hz.l
  have zt := hz.t
  have zs := hz.s
  have ze12 := hz.e12
  have ze13 := hz.e13
  have ze14 := hz.e14
  have ze15 := hz.e15
  refine ⟨?_, ?_, ?_, ?_, ?_, ?_, ?_, ?_, ?_, ?_, ?_, ?_, ?_, ?_, ?_, ?_, ?_, ?_, ?_, ?_, ?_, ?_⟩
  · rw [hi]; exact (hg 0 ).trans h.day
  · rw [hi]; exact (hg 1 ).trans h.per
  · rw [hi]; exact (hg 4 ).trans h.lim
  · exact (hg 2 ).trans h.hd
  · exact h3
  · rw [(hl 0 (by decide))]; exact (hg 5 ).trans h.nf
  · rw [(hl 7 (by decide))]; exact (hg 6 ).trans h.nl
  · rw [(hl 10 (by decide))]; exact (hg 7 ).trans h.nt
  · rw [(hl 11 (by decide))]; exact (hg 8 ).trans h.ns
  · rw [(hl 0 (by decide))]; exact fun i hi => (hg _ ).trans (h.mk i hi)
  · rw [(hl 1 (by decide))]; exact fun i hi => (hg _ ).trans (h.em i hi)
  · rw [(hl 2 (by decide))]; exact fun i hi => (hg _ ).trans (h.st i hi)
  · rw [(hl 3 (by decide)), (hl 2 (by decide))]; exact fun i hi e => (hg _ ).trans (h.wi i hi e)
  · rw [(hl 4 (by decide))]; exact fun i hi => (hg _ ).trans (h.tm i hi)
  · rw [(hl 6 (by decide))]; exact fun i hi => (hg _ ).trans (h.sv i hi)
  · rw [(hl 7 (by decide))]; exact fun i hi => (hg _ ).trans (h.rw i hi)
  · rw [(hl 10 (by decide))]; exact fun i hi => (hg _ ).trans (h.tr i hi)
  · rw [(hl 11 (by decide))]; exact fun i hi => (hg _ ).trans (h.s0 i hi)
  · rw [(hl 12 (by decide))]; exact fun i hi => (hg _ ).trans (h.s1 i hi)
  · rw [(hl 13 (by decide))]; exact fun i hi => (hg _ ).trans (h.s2 i hi)
  · rw [(hl 14 (by decide))]; exact fun i hi => (hg _ ).trans (h.s3 i hi)
  · rw [(hl 15 (by decide))]; exact fun k k1 k2 => (hg _ ).trans (h.ac k k1 k2)
theorem Rel.onday {H : Int32} {A : StM} {f : Nat → Int32} (h : Rel H A f) (hz : Sz A) (v : Int32) : Rel H (setI A 0 v) (upd f 0 v) := by
  have zfo := hz.fo
  have ze1 := hz.e1
  have ze2 := hz.e2
  have ze3 := hz.e3
  have ze4 := hz.e4
  have zr := hz.r
  have ze6 := hz.e6
  have zl := hz.l
  have zt := hz.t
  have zs := hz.s
  have ze12 := hz.e12
  have ze13 := hz.e13
  have ze14 := hz.e14
  have ze15 := hz.e15
  exact ⟨rfl, h.per, h.lim, h.hd, h.nr, h.nf, h.nl, h.nt, h.ns, show Arr (upd f 0 v) 25 5 (A.2 0) from h.mk.ne (fun i hi => by omega), show Arr (upd f 0 v) 26 5 (A.2 1) from h.em.ne (fun i hi => by omega), show Arr (upd f 0 v) 27 5 (A.2 2) from h.st.ne (fun i hi => by omega), fun i hi e => (if_neg (by omega)).trans (h.wi i hi e), show Arr (upd f 0 v) 29 5 (A.2 4) from h.tm.ne (fun i hi => by omega), show Arr (upd f 0 v) 17 1 (A.2 6) from h.sv.ne (fun i hi => by omega), show Arr (upd f 0 v) 145 1 (A.2 7) from h.rw.ne (fun i hi => by omega), show Arr (upd f 0 v) 169 1 (A.2 10) from h.tr.ne (fun i hi => by omega), show Arr (upd f 0 v) 193 4 (A.2 11) from h.s0.ne (fun i hi => by omega), show Arr (upd f 0 v) 194 4 (A.2 12) from h.s1.ne (fun i hi => by omega), show Arr (upd f 0 v) 195 4 (A.2 13) from h.s2.ne (fun i hi => by omega), show Arr (upd f 0 v) 196 4 (A.2 14) from h.s3.ne (fun i hi => by omega), fun k k1 k2 => (if_neg (by omega)).trans (h.ac k k1 k2)⟩
