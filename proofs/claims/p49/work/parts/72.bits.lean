/-! four bytes in a word and out again -/
theorem bv_255 {x : BitVec 32} (h : x &&& 255#32 = x) : ∀ j, 8 ≤ j → x.getLsbD j = false := by
  intro j hj
  have h2 : (x &&& 255#32).getLsbD j = x.getLsbD j := congrArg (fun y : BitVec 32 => y.getLsbD j) h
  have h3 : (255#32).getLsbD j = false := by
    rw [BitVec.getLsbD_ofNat, Nat.testBit_lt_two_pow (Nat.lt_of_lt_of_le (show 255 < 2 ^ 8 by omega) (Nat.pow_le_pow_right (by omega) hj)), Bool.and_false]
  rw [BitVec.getLsbD_and, h3, Bool.and_false] at h2
  exact h2.symm
theorem bv_255t : ∀ j, j < 8 → (255#32).getLsbD j = true := by decide
theorem bv_255f : ∀ j, 8 ≤ j → (255#32).getLsbD j = false := fun j hj => by
  rw [BitVec.getLsbD_ofNat, Nat.testBit_lt_two_pow (Nat.lt_of_lt_of_le (show 255 < 2 ^ 8 by omega) (Nat.pow_le_pow_right (by omega) hj)), Bool.and_false]
theorem bv_dec {a b c e : BitVec 32} (ha : a &&& 255#32 = a) (hb : b &&& 255#32 = b) (hc : c &&& 255#32 = c) (he : e &&& 255#32 = e) :
    ((((a <<< 24) ||| (b <<< 16)) ||| (c <<< 8)) ||| e) >>> 24 &&& 255#32 = a ∧ ((((a <<< 24) ||| (b <<< 16)) ||| (c <<< 8)) ||| e) >>> 16 &&& 255#32 = b ∧ ((((a <<< 24) ||| (b <<< 16)) ||| (c <<< 8)) ||| e) >>> 8 &&& 255#32 = c ∧ ((((a <<< 24) ||| (b <<< 16)) ||| (c <<< 8)) ||| e) >>> 0 &&& 255#32 = e := by
  have a8 := bv_255 ha; have b8 := bv_255 hb; have c8 := bv_255 hc; have e8 := bv_255 he
  refine ⟨?_, ?_, ?_, ?_⟩
  all_goals
    refine BitVec.eq_of_getLsbD_eq fun i hi => ?_
    simp only [BitVec.getLsbD_and, BitVec.getLsbD_ushiftRight, BitVec.getLsbD_or, BitVec.getLsbD_shiftLeft]
    by_cases h8 : i < 8
    · rw [bv_255t i h8, Bool.and_true]
      first
        | rw [b8 (24 + i - 16) (by omega), c8 (24 + i - 8) (by omega), e8 (24 + i) (by omega), show 24 + i - 24 = i by omega]; simp [show 24 + i < 32 by omega]
        | rw [c8 (16 + i - 8) (by omega), e8 (16 + i) (by omega), show 16 + i - 16 = i by omega]; simp [show 16 + i < 32 by omega, show 16 + i < 24 by omega]
        | rw [e8 (8 + i) (by omega), show 8 + i - 8 = i by omega]; simp [show 8 + i < 32 by omega, show 8 + i < 24 by omega, show 8 + i < 16 by omega]
        | simp [show i < 32 by omega, show i < 24 by omega, show i < 16 by omega, h8]
    · rw [bv_255f i (by omega), Bool.and_false]
      first
        | rw [a8 i (by omega)]
        | rw [b8 i (by omega)]
        | rw [c8 i (by omega)]
        | rw [e8 i (by omega)]
def sb (q : Nat) (c : Int32) : Int32 := c <<< nI (24 - 8 * q)
theorem sb_eq : ∀ q, q < 4 → ((24 : Int32) - 8 * nI q) &&& 31 = nI (24 - 8 * q) := by decide
theorem sb_0 (q : Nat) : sb q 0 = 0 := Int32.zero_shiftLeft
def wd (l : List Int32) (i : Nat) : Int32 := ((sb 0 (l.getD (4 * i) 0) ||| sb 1 (l.getD (4 * i + 1) 0)) ||| sb 2 (l.getD (4 * i + 2) 0)) ||| sb 3 (l.getD (4 * i + 3) 0)
theorem wd_nil (i : Nat) : wd [] i = 0 := by
  unfold wd
  rw [show ([] : List Int32).getD (4 * i) 0 = 0 from rfl, show ([] : List Int32).getD (4 * i + 1) 0 = 0 from rfl, show ([] : List Int32).getD (4 * i + 2) 0 = 0 from rfl, show ([] : List Int32).getD (4 * i + 3) 0 = 0 from rfl, sb_0, sb_0, sb_0, sb_0]
  rfl
theorem gd_out {l : List Int32} {j : Nat} (h : l.length ≤ j) : l.getD j 0 = 0 := by
  rw [List.getD_eq_getElem?_getD, List.getElem?_eq_none h]; rfl
theorem gd_a1 (l : List Int32) (c : Int32) (j : Nat) : (l ++ [c]).getD j 0 = if j = l.length then c else l.getD j 0 := by
  by_cases h : j ≤ l.length
  · exact gd_app1 j h
  · rw [if_neg (by omega), gd_out (by rw [List.length_append]; show l.length + 1 ≤ j; omega), gd_out (by omega)]
theorem wd_app (l : List Int32) (c : Int32) (i : Nat) : wd (l ++ [c]) i = if i = l.length / 4 then wd l i ||| sb (l.length % 4) c else wd l i := by
  unfold wd
  rw [gd_a1, gd_a1, gd_a1, gd_a1]
  by_cases h : i = l.length / 4
  · rw [if_pos h]
    rcases (show l.length % 4 = 0 ∨ l.length % 4 = 1 ∨ l.length % 4 = 2 ∨ l.length % 4 = 3 by omega) with e | e | e | e
    · rw [e, if_pos (by omega), if_neg (by omega), if_neg (by omega), if_neg (by omega), gd_out (l := l) (j := 4 * i) (by omega), gd_out (l := l) (j := 4 * i + 1) (by omega), gd_out (l := l) (j := 4 * i + 2) (by omega), gd_out (l := l) (j := 4 * i + 3) (by omega)]
      simp only [sb_0, Int32.or_zero, Int32.zero_or]
    · rw [e, if_neg (by omega), if_pos (by omega), if_neg (by omega), if_neg (by omega), gd_out (l := l) (j := 4 * i + 1) (by omega), gd_out (l := l) (j := 4 * i + 2) (by omega), gd_out (l := l) (j := 4 * i + 3) (by omega)]
      simp only [sb_0, Int32.or_zero, Int32.zero_or]
    · rw [e, if_neg (by omega), if_neg (by omega), if_pos (by omega), if_neg (by omega), gd_out (l := l) (j := 4 * i + 2) (by omega), gd_out (l := l) (j := 4 * i + 3) (by omega)]
      simp only [sb_0, Int32.or_zero, Int32.zero_or]
    · rw [e, if_neg (by omega), if_neg (by omega), if_neg (by omega), if_pos (by omega), gd_out (l := l) (j := 4 * i + 3) (by omega)]
      simp only [sb_0, Int32.or_zero, Int32.zero_or]
  · rw [if_neg h, if_neg (by omega), if_neg (by omega), if_neg (by omega), if_neg (by omega)]
def dec8 (w : Int32) (s : Int32) : Int32 := ((w.toUInt32 >>> (s.toUInt32 &&& Int32.toUInt32 31)).toInt32) &&& 255
theorem dec_ok {a b c e : Int32} (ha : a &&& 255 = a) (hb : b &&& 255 = b) (hc : c &&& 255 = c) (he : e &&& 255 = e) : dec8 (((sb 0 a ||| sb 1 b) ||| sb 2 c) ||| sb 3 e) 24 = a ∧ dec8 (((sb 0 a ||| sb 1 b) ||| sb 2 c) ||| sb 3 e) 16 = b ∧ dec8 (((sb 0 a ||| sb 1 b) ||| sb 2 c) ||| sb 3 e) 8 = c ∧ dec8 (((sb 0 a ||| sb 1 b) ||| sb 2 c) ||| sb 3 e) 0 = e := by
  have tb : ∀ x : Int32, x &&& 255 = x → x.toBitVec &&& 255#32 = x.toBitVec := fun x hx => by
    have := congrArg Int32.toBitVec hx
    rwa [Int32.toBitVec_and] at this
  obtain ⟨h1, h2, h3, h4⟩ := bv_dec (tb a ha) (tb b hb) (tb c hc) (tb e he)
  have e0 : (sb 0 a).toBitVec = a.toBitVec <<< 24 := by
    unfold sb
    rw [Int32.toBitVec_shiftLeft, show (nI (24 - 8 * 0)).toBitVec.smod 32 = 24#32 by decide]; rfl
  have e1 : (sb 1 b).toBitVec = b.toBitVec <<< 16 := by
    unfold sb
    rw [Int32.toBitVec_shiftLeft, show (nI (24 - 8 * 1)).toBitVec.smod 32 = 16#32 by decide]; rfl
  have e2 : (sb 2 c).toBitVec = c.toBitVec <<< 8 := by
    unfold sb
    rw [Int32.toBitVec_shiftLeft, show (nI (24 - 8 * 2)).toBitVec.smod 32 = 8#32 by decide]; rfl
  have e3 : (sb 3 e).toBitVec = e.toBitVec := by
    unfold sb
    rw [Int32.toBitVec_shiftLeft, show (nI (24 - 8 * 3)).toBitVec.smod 32 = 0#32 by decide]
    show e.toBitVec <<< (0#32).toNat = _
    exact BitVec.shiftLeft_zero _
  have ew : (((sb 0 a ||| sb 1 b) ||| sb 2 c) ||| sb 3 e).toBitVec = (((a.toBitVec <<< 24) ||| (b.toBitVec <<< 16)) ||| (c.toBitVec <<< 8)) ||| e.toBitVec := by
    rw [Int32.toBitVec_or, Int32.toBitVec_or, Int32.toBitVec_or, e0, e1, e2, e3]
  refine ⟨?_, ?_, ?_, ?_⟩
  · apply Int32.toBitVec_inj.mp
    rw [← h1, ← ew]; rfl
  · apply Int32.toBitVec_inj.mp
    rw [← h2, ← ew]; rfl
  · apply Int32.toBitVec_inj.mp
    rw [← h3, ← ew]; rfl
  · apply Int32.toBitVec_inj.mp
    rw [← h4, ← ew]; rfl
