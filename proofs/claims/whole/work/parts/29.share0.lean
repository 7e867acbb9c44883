/-! floats and doubles: the share and the mean -/
section GF
variable {X : Cx} {l : Launch} {g : Gl} {own : String} {cc : ByteArray} {nL : Nat} {R : Room} {σ : Hp} {k n : Nat} {ls : List (Nat × Value)} {st : List Value}
theorem g_i2f (hx : Ok X l g own cc nL R) (pc : Nat) {x : Int32} (hd : decode cc pc = .ok (.i2f, 1)) (h : G X σ k n (pc + 1) ls (.float (FP.i2f x) :: st)) : G X σ k n pc ls (.int x :: st) := by
  obtain ⟨p, l', e, R', s, m, args, below, meth, c, Q, g'⟩ := X
  obtain ⟨h1, h2, h3, h4, h5, h6, h7, h8, rfl, rfl, rfl⟩ := hx
  intro H locs la hP hS hL
  exact lv_i2f h1 h2 hd (h H locs la hP hS hL)
theorem g_i2d (hx : Ok X l g own cc nL R) (pc : Nat) {x : Int32} (hd : decode cc pc = .ok (.i2d, 1)) (h : G X σ k n (pc + 1) ls (.double (FP.i2d x) :: st)) : G X σ k n pc ls (.int x :: st) := by
  obtain ⟨p, l', e, R', s, m, args, below, meth, c, Q, g'⟩ := X
  obtain ⟨h1, h2, h3, h4, h5, h6, h7, h8, rfl, rfl, rfl⟩ := hx
  intro H locs la hP hS hL
  exact lv_i2d h1 h2 hd (h H locs la hP hS hL)
theorem g_fconst0 (hx : Ok X l g own cc nL R) (pc : Nat) (hd : decode cc pc = .ok (.fconst 0, 1)) (h : G X σ k n (pc + 1) ls (.float FP.fconst0 :: st)) : G X σ k n pc ls (st) := by
  obtain ⟨p, l', e, R', s, m, args, below, meth, c, Q, g'⟩ := X
  obtain ⟨h1, h2, h3, h4, h5, h6, h7, h8, rfl, rfl, rfl⟩ := hx
  intro H locs la hP hS hL
  exact lv_fconst0 h1 h2 hd (h H locs la hP hS hL)
theorem g_dconst0 (hx : Ok X l g own cc nL R) (pc : Nat) (hd : decode cc pc = .ok (.dconst 0, 1)) (h : G X σ k n (pc + 1) ls (.double FP.dconst0 :: st)) : G X σ k n pc ls (st) := by
  obtain ⟨p, l', e, R', s, m, args, below, meth, c, Q, g'⟩ := X
  obtain ⟨h1, h2, h3, h4, h5, h6, h7, h8, rfl, rfl, rfl⟩ := hx
  intro H locs la hP hS hL
  exact lv_dconst0 h1 h2 hd (h H locs la hP hS hL)
theorem g_fdiv (hx : Ok X l g own cc nL R) (pc : Nat) {x y : UInt32} (hn : isNaN32 (FP.fdiv x y) = false) (hd : decode cc pc = .ok (.fdiv, 1)) (h : G X σ k n (pc + 1) ls (.float (FP.fdiv x y) :: st)) : G X σ k n pc ls (.float y :: .float x :: st) := by
  obtain ⟨p, l', e, R', s, m, args, below, meth, c, Q, g'⟩ := X
  obtain ⟨h1, h2, h3, h4, h5, h6, h7, h8, rfl, rfl, rfl⟩ := hx
  intro H locs la hP hS hL
  exact lv_fdiv h1 h2 hd (by unfold vf_n32; unfold isNaN32 at hn; exact UInt32.not_lt.mp (of_decide_eq_false hn)) (h H locs la hP hS hL)
theorem g_ddiv (hx : Ok X l g own cc nL R) (pc : Nat) {x y : UInt64} (hn : isNaN64 (FP.ddiv x y) = false) (hd : decode cc pc = .ok (.ddiv, 1)) (h : G X σ k n (pc + 1) ls (.double (FP.ddiv x y) :: st)) : G X σ k n pc ls (.double y :: .double x :: st) := by
  obtain ⟨p, l', e, R', s, m, args, below, meth, c, Q, g'⟩ := X
  obtain ⟨h1, h2, h3, h4, h5, h6, h7, h8, rfl, rfl, rfl⟩ := hx
  intro H locs la hP hS hL
  exact lv_ddiv h1 h2 hd (by unfold vf_n64; unfold isNaN64 at hn; exact UInt64.not_lt.mp (of_decide_eq_false hn)) (h H locs la hP hS hL)
theorem g_fret {Post : Option Value → Hp → Prop} (hx : Ok X l g own cc nL R) (hr : Ret X Post k n (some .float)) (pc : Nat) {v : UInt32} (hd : decode cc pc = .ok (.freturn, 1)) (hp : Post (some (.float v)) σ) : G X σ k n pc ls [.float v] := by
  obtain ⟨p, l', e, R', s, m, args, below, meth, c, Q, g'⟩ := X
  obtain ⟨h1, h2, h3, h4, h5, h6, h7, h8, rfl, rfl, rfl⟩ := hx
  intro H locs la hP hS hL
  obtain ⟨rfl, r2, r3⟩ := hr
  exact W.fret h1 h2 r2 (fun t ht hW => ⟨_, σ, rfl, hp, by rw [ht]; exact hP, by rw [ht]; exact hS.1, fun q q1 q2 => by rw [ht]; exact hS.2.1 q q1 q2⟩) hS.2.2 hd r3
theorem g_dret {Post : Option Value → Hp → Prop} (hx : Ok X l g own cc nL R) (hr : Ret X Post k n (some .double)) (pc : Nat) {v : UInt64} (hd : decode cc pc = .ok (.dreturn, 1)) (hp : Post (some (.double v)) σ) : G X σ k n pc ls [.double v] := by
  obtain ⟨p, l', e, R', s, m, args, below, meth, c, Q, g'⟩ := X
  obtain ⟨h1, h2, h3, h4, h5, h6, h7, h8, rfl, rfl, rfl⟩ := hx
  intro H locs la hP hS hL
  obtain ⟨rfl, r2, r3⟩ := hr
  exact W.dret h1 h2 r2 (fun t ht hW => ⟨_, σ, rfl, hp, by rw [ht]; exact hP, by rw [ht]; exact hS.1, fun q q1 q2 => by rw [ht]; exact hS.2.1 q q1 q2⟩) hS.2.2 hd r3
end GF
theorem fz_en (s : Bool) (c : Nat) (q : Int) (h1 : c < 2 ^ 53) (h2 : q ≤ FP.Core.b64.qmax) (h3 : FP.Core.b64.qmin ≤ q) : ∃ e t, FP.Core.encode FP.Core.b64 (.fin s c q) = (s.toNat * 2048 + e) * 2 ^ 52 + t ∧ e < 2047 ∧ t < 2 ^ 52 ∧ (e = 0 → t = c) := by
  have e1 : FP.Core.b64.qmax = 971 := by decide
  have e2 : FP.Core.b64.qmin = -1074 := by decide
  have e3 : FP.Core.b64.tails = 4503599627370496 := by decide
  have e4 : FP.Core.b64.exps = 2048 := by decide
  unfold FP.Core.encode FP.Core.assemble
  rw [e1] at h2; rw [e2] at h3
  simp only [e2, e3, e4]
  split
  · exact ⟨0, c, rfl, by omega, by omega, fun _ => rfl⟩
  · refine ⟨(q - -1074).toNat + 1, c - 4503599627370496, rfl, by omega, by omega, fun h => by omega⟩
theorem fz_de (s : Bool) {n e t : Nat} (h : n = (s.toNat * 2048 + e) * 2 ^ 52 + t) (he : e < 2047) (ht : t < 2 ^ 52) : ∃ c q, FP.Core.decode FP.Core.b64 n = .fin s c q ∧ (e = 0 → c = t) ∧ (e ≠ 0 → c = 2 ^ 52 + t) := by
  have e2 : FP.Core.b64.qmin = -1074 := by decide
  have e3 : FP.Core.b64.tails = 4503599627370496 := by decide
  have e4 : FP.Core.b64.exps = 2048 := by decide
  have hs : s.toNat < 2 := by cases s <;> decide
  have hE : FP.Core.fieldE FP.Core.b64 n = e := by unfold FP.Core.fieldE; rw [e3, e4]; omega
  have hT : FP.Core.fieldT FP.Core.b64 n = t := by unfold FP.Core.fieldT; rw [e3]; omega
  have hS : FP.Core.fieldS FP.Core.b64 n = s := by
    unfold FP.Core.fieldS; rw [e3, e4]
    have : n / 4503599627370496 / 2048 % 2 = s.toNat := by omega
    rw [this]; cases s <;> rfl
  unfold FP.Core.decode
  rw [hE, hT, hS, e4, e3]
  rw [if_neg (by omega)]
  split
  · exact ⟨t, _, rfl, fun _ => rfl, fun h => absurd ‹e = 0› h⟩
  · exact ⟨_, _, rfl, fun h => absurd h ‹¬ e = 0›, fun _ => rfl⟩
theorem fz_lz {n e t : Nat} {s : Bool} (h : n = (s.toNat * 2048 + e) * 2 ^ 52 + t) (he : e ≤ 2047) (ht : t < 2 ^ 52) : n < 2 ^ 64 := by
  have hs : s.toNat < 2 := by cases s <;> decide
  omega
theorem fz_settle (s : Bool) (c : Nat) (q : Int) (h : FP.Core.b64.qmin ≤ q) : (FP.Core.settle FP.Core.b64 s c q = .inf s) ∨ ∃ c' q', FP.Core.settle FP.Core.b64 s c q = .fin s c' q' ∧ c' < 2 ^ 53 ∧ FP.Core.b64.qmin ≤ q' ∧ q' ≤ FP.Core.b64.qmax ∧ (c ≠ 0 → c' ≠ 0) := by
  unfold FP.Core.settle FP.Core.bound
  have e3 : FP.Core.b64.tails = 4503599627370496 := by decide
  have e5 : FP.Core.b64.p = 53 := rfl
  rw [e3, e5]
  split <;> split
  · exact Or.inr ⟨_, _, rfl, by omega, h, by omega, id⟩
  · exact Or.inl rfl
  · exact Or.inr ⟨_, _, rfl, by omega, by omega, by omega, fun _ => by omega⟩
  · exact Or.inl rfl
/-- what an int is as a double: a number, not zero where the int isn't -/
theorem fz_i2d (a : Int32) : ∃ s c q, FP.Core.decode FP.Core.b64 (FP.i2d a).toNat = .fin s c q ∧ (a ≠ 0 → c ≠ 0) := by
  have e2 : FP.Core.b64.qmin = -1074 := by decide
  have hb : a.toInt.natAbs ≤ 2 ^ 31 := by have := a.toInt_lt; have := a.le_toInt; omega
  have key : ∃ s e t, FP.Core.fromInt FP.Core.b64 a.toInt = (Bool.toNat s * 2048 + e) * 2 ^ 52 + t ∧ e < 2047 ∧ t < 2 ^ 52 ∧ (a ≠ 0 → e ≠ 0) := by
    unfold FP.Core.fromInt FP.Core.ofInt FP.Core.round FP.Core.roundRatio
    simp only []
    split
    · refine ⟨false, 0, 0, ?_, by omega, by omega, fun h => absurd (Int32.toInt_inj.mp ?_) h⟩
      · have : decide (a.toInt < 0) = false := by simp; omega
        rw [this]; decide +kernel
      · show a.toInt = (0 : Int32).toInt
        have : (0 : Int32).toInt = 0 := by decide
        omega
    · rename_i hn
      generalize hm : a.toInt.natAbs = n at *
      have hl1 : 2 ^ n.log2 ≤ n := Nat.log2_self_le hn
      have hl2 : n < 2 ^ (n.log2 + 1) := Nat.lt_log2_self
      have hl3 : n.log2 ≤ 31 := by
        rw [← Nat.not_lt]; intro h
        have := Nat.pow_le_pow_right (n := 2) (by omega) h
        omega
      have hlead : FP.Core.leading n 1 = n.log2 := by
        unfold FP.Core.leading
        have h1 : Nat.log2 1 = 0 := by decide
        rw [h1]
        simp only [Int.sub_zero]
        rw [if_pos]
        · rfl
        · simp; omega
      have hq : FP.Core.quantum FP.Core.b64 n 1 0 = (n.log2 : Int) - 52 := by
        unfold FP.Core.quantum; rw [hlead, e2]
        have e5 : FP.Core.b64.p = 53 := rfl
        rw [e5]; omega
      unfold FP.Core.roundAt
      rw [hq]
      have hu : FP.Core.unitsNum n 0 (n.log2 - 52) = n * 2 ^ (52 - n.log2) := by
        unfold FP.Core.unitsNum
        congr 2
        omega
      have hd : FP.Core.unitsDen 1 0 (n.log2 - 52) = 1 := by
        unfold FP.Core.unitsDen
        rw [show (((n.log2 : Int) - 52) - 0).toNat = 0 by omega]

      rw [hu, hd]
      have hne : FP.Core.nearest (n * 2 ^ (52 - n.log2)) 1 = n * 2 ^ (52 - n.log2) := by
        unfold FP.Core.nearest; simp [Nat.mod_one]
      rw [hne]
      have hp : 2 ^ n.log2 * 2 ^ (52 - n.log2) = 2 ^ 52 := by rw [← Nat.pow_add]; congr 1; omega
      have hp2 : 2 ^ (n.log2 + 1) * 2 ^ (52 - n.log2) = 2 ^ 53 := by rw [← Nat.pow_add]; congr 1; omega
      have hlo : 2 ^ 52 ≤ n * 2 ^ (52 - n.log2) := by rw [← hp]; exact Nat.mul_le_mul_right _ hl1
      have hhi : n * 2 ^ (52 - n.log2) < 2 ^ 53 := by rw [← hp2]; exact Nat.mul_lt_mul_of_pos_right hl2 (Nat.pow_pos (by omega))
      generalize n * 2 ^ (52 - n.log2) = x at *
      unfold FP.Core.settle FP.Core.bound
      have e5 : FP.Core.b64.p = 53 := rfl
      have e1 : FP.Core.b64.qmax = 971 := by decide
      rw [e5, if_pos hhi, e1, if_pos (by omega)]
      unfold FP.Core.encode FP.Core.assemble
      have e3 : FP.Core.b64.tails = 4503599627370496 := by decide
      have e4 : FP.Core.b64.exps = 2048 := by decide
      simp only [e2, e3, e4]
      rw [if_neg (by omega)]
      exact ⟨_, _, _, rfl, by omega, by omega, fun _ => by omega⟩
  obtain ⟨s, e, t, h, he, ht, hz⟩ := key
  have hlt := fz_lz h (by omega) ht
  have hn : (FP.i2d a).toNat = FP.Core.fromInt FP.Core.b64 a.toInt := by
    show (UInt64.ofNat _).toNat = _
    rw [UInt64.toNat_ofNat']; exact Nat.mod_eq_of_lt hlt
  rw [hn]
  obtain ⟨c, q, h1, h2, h3⟩ := fz_de s h he ht
  exact ⟨s, c, q, h1, fun ha => by have := h3 (hz ha); omega⟩
theorem fz_nn {n : Nat} {s : Bool} {e t : Nat} (h : n = (s.toNat * 2048 + e) * 2 ^ 52 + t) (he : e < 2047 ∨ (e = 2047 ∧ t = 0)) (ht : t < 2 ^ 52) : isNaN64 (UInt64.ofNat n) = false := by
  have hlt := fz_lz h (by omega) ht
  unfold isNaN64
  rw [decide_eq_false_iff_not]
  have hs : s.toNat < 2 := by cases s <;> decide
  show ¬ (0x7ff0000000000000 : UInt64) < _
  rw [UInt64.lt_iff_toNat_lt, UInt64.toNat_and, UInt64.toNat_ofNat', Nat.mod_eq_of_lt hlt]
  rw [show (0x7fffffffffffffff : UInt64).toNat = 2 ^ 63 - 1 by decide, Nat.and_two_pow_sub_one_eq_mod]
  show ¬ 9218868437227405312 < _
  omega
theorem fz_ddiv (a b : Int32) (hb : b ≠ 0) : isNaN64 (FP.ddiv (FP.i2d a) (FP.i2d b)) = false := by
  obtain ⟨s, c, q, h1, -⟩ := fz_i2d a
  obtain ⟨t, d, r, h2, h3⟩ := fz_i2d b
  show isNaN64 (UInt64.ofNat (FP.Core.div FP.Core.b64 (FP.i2d a).toNat (FP.i2d b).toNat)) = false
  unfold FP.Core.div
  rw [h1, h2]
  unfold FP.Core.quotient
  simp only []
  rw [if_neg (h3 hb)]
  have hq : FP.Core.b64.qmin ≤ FP.Core.b64.qmin := Int.le_refl _
  have key : ∀ D, ((∃ s', D = .inf s') ∨ ∃ s' c' q', D = .fin s' c' q' ∧ c' < 2 ^ 53 ∧ FP.Core.b64.qmin ≤ q' ∧ q' ≤ FP.Core.b64.qmax) → isNaN64 (UInt64.ofNat (FP.Core.encode FP.Core.b64 D)) = false := by
    intro D hD
    rcases hD with ⟨s', rfl⟩ | ⟨s', c', q', rfl, k1, k2, k3⟩
    · exact fz_nn (s := s') (e := 2047) (t := 0) rfl (Or.inr ⟨rfl, rfl⟩) (by omega)
    · obtain ⟨e, t, k4, k5, k6, -⟩ := fz_en s' c' q' k1 k3 k2
      exact fz_nn k4 (Or.inl k5) k6
  apply key
  unfold FP.Core.roundRatio
  split
  · exact Or.inr ⟨_, 0, _, rfl, by omega, Int.le_refl _, by decide⟩
  · unfold FP.Core.roundAt
    rcases fz_settle (s != t) (FP.Core.nearest (FP.Core.unitsNum c (q - r) (FP.Core.quantum FP.Core.b64 c d (q - r))) (FP.Core.unitsDen d (q - r) (FP.Core.quantum FP.Core.b64 c d (q - r)))) _ (show FP.Core.b64.qmin ≤ FP.Core.quantum FP.Core.b64 c d (q - r) by unfold FP.Core.quantum; omega) with h | ⟨c', q', h, k1, k2, k3, -⟩
    · exact Or.inl ⟨_, h⟩
    · exact Or.inr ⟨_, _, _, h, k1, k2, k3⟩
theorem fz_fdiv : ∀ a < 25, ∀ b < 25, b ≠ 0 → isNaN32 (FP.fdiv (FP.i2f (Int32.ofNat a)) (FP.i2f (Int32.ofNat b))) = false ∧ isNaN64 (FP.f2d (FP.fdiv (FP.i2f (Int32.ofNat a)) (FP.i2f (Int32.ofNat b)))) = false := by decide +kernel
