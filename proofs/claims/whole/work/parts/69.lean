/-! tokens -/
/-- where both readers stand in the text: position p, the token's start s -/
def PS (b : List Int32) (n : Nat) (W : WM) (M : MdM) (p : Nat) : Prop := W.2.1 0 = b ∧ b.length ≤ 700 ∧ n ≤ b.length ∧ W.2.2.1 0 = nI n ∧ W.2.2.1 1 = nI p ∧ p ≤ n ∧ M.1 19 = nI n ∧ M.1 20 = nI p ∧ M.1 23 = 0 ∧ ∀ i, i < b.length → M.2 10 i = b.getD i 0
/-- the value that both see in a number: the same below a million, or both at least that -/
def VR (c r : Int32) : Prop := ∃ x, x < 100000000 ∧ r = nI x ∧ (x < 1000000 → c = nI x) ∧ (1000000 ≤ x → c = 1000000)
/-- the token that has been read -/
def TK (b : List Int32) (n : Nat) (W : WM) (M : MdM) (s p : Nat) : Prop := PS b n W M p ∧ s ≤ p ∧ W.2.2.1 2 = nI s ∧ M.1 21 = nI s ∧
  ((W.2.2.1 3 = 0 ∧ M.1 22 = 0) ∨ (s < n ∧ ((W.2.2.1 3 = 1 ∧ M.1 22 = 1) ∨ (W.2.2.1 3 = 2 ∧ M.1 22 = 2 ∧ ∃ r, Md_value 0 M = some r ∧ Md_value 1 M = some r ∧ VR (W.2.2.1 4) r) ∨ (W.2.2.1 3 = 3 ∧ M.1 22 = 3 ∧ b.getD s 0 = 59) ∨ (W.2.2.1 3 = 4 ∧ M.1 22 = 3 ∧ b.getD s 0 ≠ 59))))
def FrW (W W' : WM) : Prop := W'.1 = W.1 ∧ W'.2.1 = W.2.1 ∧ W'.2.2.2 = W.2.2.2 ∧ ∀ k, k ≠ 1 → k ≠ 2 → k ≠ 3 → k ≠ 4 → W'.2.2.1 k = W.2.2.1 k
def FrM (M M' : MdM) : Prop := M'.2 = M.2 ∧ ∀ k, k ≠ 20 → k ≠ 21 → k ≠ 22 → M'.1 k = M.1 k
theorem FrW.rf (W : WM) : FrW W W := ⟨rfl, rfl, rfl, fun _ _ _ _ _ => rfl⟩
theorem FrM.rf (M : MdM) : FrM M M := ⟨rfl, fun _ _ _ _ => rfl⟩
theorem FrW.tr {W W' W'' : WM} (h : FrW W W') (h' : FrW W' W'') : FrW W W'' := ⟨h'.1.trans h.1, h'.2.1.trans h.2.1, h'.2.2.1.trans h.2.2.1, fun k a b c d => (h'.2.2.2 k a b c d).trans (h.2.2.2 k a b c d)⟩
theorem FrM.tr {M M' M'' : MdM} (h : FrM M M') (h' : FrM M' M'') : FrM M M'' := ⟨h'.1.trans h.1, fun k a b c => (h'.2 k a b c).trans (h.2 k a b c)⟩
theorem FrW.wi (W : WM) {k : Nat} (v : Int32) (h : k = 1 ∨ k = 2 ∨ k = 3 ∨ k = 4) : FrW W (setWI W k v) := ⟨rfl, rfl, rfl, fun j a b c d => wi_n _ _ (by omega)⟩
theorem FrM.f (M : MdM) {k : Nat} (v : Int32) (h : k = 20 ∨ k = 21 ∨ k = 22) : FrM M (setF M k v) := ⟨rfl, fun j a b c => setF_n _ _ (by omega)⟩
theorem PS.fr {b : List Int32} {n : Nat} {W W' : WM} {M M' : MdM} {p q : Nat} (h : PS b n W M p) (hW : FrW W W') (hM : FrM M M') (h1 : W'.2.2.1 1 = nI q) (h2 : M'.1 20 = nI q) (hq : q ≤ n) : PS b n W' M' q := by
  obtain ⟨a1, a2, a3, a4, a5, a6, a7, a8, a9, a10⟩ := h
  refine ⟨by rw [hW.2.1]; exact a1, a2, a3, by rw [hW.2.2.2 0 (by decide) (by decide) (by decide) (by decide)]; exact a4, h1, hq, by rw [hM.2 19 (by decide) (by decide) (by decide)]; exact a7, h2, by rw [hM.2 23 (by decide) (by decide) (by decide)]; exact a9, fun i hi => by rw [hM.1]; exact a10 i hi⟩
section TKS
variable {b : List Int32} {n : Nat} {W : WM} {M : MdM} {ρ : Nat}
theorem m_byteAt (h : M.1 19 = nI n) (hn : n ≤ b.length) (hl : b.length ≤ 700) (hb : ∀ i, i < b.length → M.2 10 i = b.getD i 0) {q : Nat} (hq : q ≤ n) : Md_byteAt ρ M (nI q) = some (if q < n then b.getD q 0 else -1) := by
  unfold Md_byteAt
  rw [h]
  by_cases c : q < n
  · rw [if_neg (nI_ge c (by omega)), if_pos (q_in (by omega) (by omega)), q_cl (by omega), if_pos c, hb q (by omega)]
  · rw [if_pos (nI_le (by omega) (by omega)), if_neg c]
theorem m_isLetter (h : M.1 19 = nI n) (hn : n ≤ b.length) (hl : b.length ≤ 700) (hb : ∀ i, i < b.length → M.2 10 i = b.getD i 0) {q : Nat} (hq : q ≤ n) : Md_isLetter ρ M (nI q) = some (if q < n then Tk_isLetter (b.getD q 0) else 0) := by
  unfold Md_isLetter Tk_isLetter
  rw [m_byteAt h hn hl hb hq, bs, bs]
  by_cases c : q < n
  · rw [if_pos c, if_pos c]
    by_cases c1 : b.getD q 0 < 97
    · rw [if_pos c1, if_pos c1]
    · rw [if_neg c1, if_neg c1]
      by_cases c2 : 122 < b.getD q 0
      · rw [if_pos c2, if_pos c2]
      · rw [if_neg c2, if_neg c2]
  · rw [if_neg c, if_neg c, if_pos (by decide)]
theorem m_isDigit (h : M.1 19 = nI n) (hn : n ≤ b.length) (hl : b.length ≤ 700) (hb : ∀ i, i < b.length → M.2 10 i = b.getD i 0) {q : Nat} (hq : q ≤ n) : Md_isDigit ρ M (nI q) = some (if q < n then Tk_isDigit (b.getD q 0) else 0) := by
  unfold Md_isDigit Tk_isDigit
  rw [m_byteAt h hn hl hb hq, bs, bs]
  by_cases c : q < n
  · rw [if_pos c, if_pos c]
    by_cases c1 : b.getD q 0 < 48
    · rw [if_pos c1, if_pos c1]
    · rw [if_neg c1, if_neg c1]
      by_cases c2 : 57 < b.getD q 0
      · rw [if_pos c2, if_pos c2]
      · rw [if_neg c2, if_neg c2]
  · rw [if_neg c, if_neg c, if_pos (by decide)]
/-- a word to its end -/
theorem s_word : ∀ (m m' p : Nat) (W : WM) (M : MdM), PS b n W M p → n - p < m → n - p < m' → ∃ q W' M', p ≤ q ∧ Tk_readWord_L5 m W = some W' ∧ Md_scan_L77 ρ m' M = some (setF M' 22 1) ∧ PS b n W' M' q ∧ FrW W W' ∧ FrM M M' ∧ W'.2.2.1 2 = W.2.2.1 2 ∧ W'.2.2.1 3 = W.2.2.1 3 ∧ M'.1 21 = M.1 21 := by
  intro m
  induction m with
  | zero => intro m' p W M h h1; omega
  | succ m ih =>
    intro m' p W M h h1 h2
    cases m' with
    | zero => omega
    | succ m' =>
      have h0 := h
      obtain ⟨a1, a2, a3, a4, a5, a6, a7, a8, a9, a10⟩ := h
      unfold Tk_readWord_L5 Md_scan_L77
      rw [a4, a5, a8, m_isLetter a7 a3 a2 a10 a6, bs, a1]
      by_cases hp : p < n
      · rw [if_neg (nI_ge hp (by omega)), if_pos hp, lg_in (by omega) (by omega)]
        by_cases hc : Tk_isLetter (b.getD p 0) = 0
        · rw [if_pos hc, if_pos hc]
          exact ⟨p, W, M, Nat.le_refl _, rfl, rfl, h0, FrW.rf W, FrM.rf M, rfl, rfl, rfl⟩
        · rw [if_neg hc, if_neg hc, nI_1]
          obtain ⟨q, W', M', g1, g2, g3, g4, g5, g6, g7, g8, g9⟩ := ih m' (p + 1) (setWI W 1 (nI (p + 1))) (setF M 20 (nI (p + 1))) (h0.fr (FrW.wi W _ (by omega)) (FrM.f M _ (by omega)) (wi_s _ _ _) (setF_s _ _ _) (by omega)) (by omega) (by omega)
          exact ⟨q, W', M', by omega, g2, g3, g4, (FrW.wi W _ (by omega)).tr g5, (FrM.f M _ (by omega)).tr g6, g7.trans (wi_n _ _ (by decide)), g8.trans (wi_n _ _ (by decide)), g9.trans (setF_n _ _ (by decide))⟩
      · rw [if_pos (nI_le (by omega) (by omega)), if_neg hp, if_pos rfl]
        exact ⟨p, W, M, Nat.le_refl _, rfl, rfl, h0, FrW.rf W, FrM.rf M, rfl, rfl, rfl⟩
/-- what the reference's value is, digit by digit -/
def vfold (b : List Int32) : Nat → Nat → Int32 → Int32
  | 0, _, v => v
  | m + 1, k, v => vfold b m (k + 1) (if v ≤ 9999999 then ((10 * v) + b.getD k 0) - 48 else v)
theorem m_valueL {s p : Nat} (hb : ∀ i, i < b.length → M.2 10 i = b.getD i 0) (hp : p ≤ b.length) (hl : b.length ≤ 700) (h20 : M.1 20 = nI p) (h22 : M.1 22 = 2) : ∀ (m k : Nat) (v : Int32), k ≤ p → p - k < m → Md_value_L7 ρ M m v (nI k) = some (vfold b (p - k) k v) := by
  intro m
  induction m with
  | zero => intro k v h1 h2; omega
  | succ m ih =>
    intro k v h1 h2
    unfold Md_value_L7
    rw [h20]
    by_cases hk : p ≤ k
    · rw [if_pos (nI_le hk (by omega)), show p - k = 0 by omega]
      rfl
    · obtain ⟨d, hd⟩ : ∃ d, p - k = d + 1 := ⟨p - k - 1, by omega⟩
      have hd' : p - (k + 1) = d := by omega
      rw [if_neg (nI_ge (by omega) (by omega)), if_pos h22, if_pos (q_in (by omega) (by omega)), q_cl (by omega), hb k (by omega), lu, nI_1, hd]
      unfold vfold
      by_cases hv : v ≤ 9999999
      · rw [if_pos hv, if_pos hv, ih (k + 1) _ (by omega) (by omega), hd']
      · rw [if_neg hv, if_neg hv, ih (k + 1) _ (by omega) (by omega), hd']
/-- one digit more on both sides -/
theorem VR.step {c r d : Int32} (h : VR c r) (hd : Tk_isDigit d ≠ 0) : VR (if ((c * 10) + d) - 48 < 1000000 then ((c * 10) + d) - 48 else 1000000) (if r ≤ 9999999 then ((10 * r) + d) - 48 else r) := by
  obtain ⟨x, hx, rfl, h1, h2⟩ := h
  have hdd : ∃ j, j ≤ 9 ∧ d = nI (48 + j) := by
    unfold Tk_isDigit at hd
    by_cases c1 : d < 48
    · rw [if_pos c1] at hd; exact absurd rfl hd
    · rw [if_neg c1] at hd
      by_cases c2 : 57 < d
      · rw [if_pos c2] at hd; exact absurd rfl hd
      · obtain ⟨j, hj, rfl⟩ := nI_of (x := d) (fun q => c1 (Int32.lt_trans q (by decide)))
        have g1 : ¬ nI j < nI 48 := c1
        have g2 : ¬ nI 57 < nI j := c2
        rw [nI_ltI (by omega) (by omega)] at g1 g2
        exact ⟨j - 48, by omega, by congr 1; omega⟩
  obtain ⟨j, hj, rfl⟩ := hdd
  have ev : ∀ y : Nat, y < 10000000 → ((10 : Int32) * nI y + nI (48 + j)) - 48 = nI (10 * y + j) := fun y hy => by
    rw [show (10 : Int32) = nI 10 from rfl, show (48 : Int32) = nI 48 from rfl, pk_mul, nI_add, pk_sub (by omega)]
    congr 1
    omega
  have ev' : ∀ y : Nat, y < 10000000 → (nI y * (10 : Int32) + nI (48 + j)) - 48 = nI (10 * y + j) := fun y hy => by
    rw [Int32.mul_comm, ev y hy]
  by_cases hb : x < 1000000
  · rw [h1 hb, ev' x (by omega), if_pos (show nI x ≤ (9999999 : Int32) from nI_le (b := 9999999) (by omega) (by omega)), ev x (by omega)]
    refine ⟨10 * x + j, by omega, rfl, fun g => ?_, fun g => ?_⟩
    · rw [if_pos (show nI (10 * x + j) < (1000000 : Int32) from nI_lt (b := 1000000) g (by omega))]
    · rw [if_neg (show ¬ nI (10 * x + j) < (1000000 : Int32) from nI_nlt (b := 1000000) g (by omega))]
  · rw [h2 (by omega), show (1000000 : Int32) = nI 1000000 from rfl, ev' 1000000 (by omega), if_neg (show ¬ nI (10 * 1000000 + j) < nI 1000000 from nI_nlt (by omega) (by omega))]
    by_cases hr : x ≤ 9999999
    · rw [if_pos (show nI x ≤ (9999999 : Int32) from nI_le (b := 9999999) hr (by omega)), ev x (by omega)]
      exact ⟨10 * x + j, by omega, rfl, fun g => absurd g (by omega), fun _ => rfl⟩
    · rw [if_neg (show ¬ nI x ≤ (9999999 : Int32) from nI_ge (a := 9999999) (by omega) (by omega))]
      exact ⟨x, hx, rfl, fun g => absurd g (by omega), fun _ => rfl⟩
theorem vfold_end (b : List Int32) : ∀ (m k : Nat) (v : Int32), vfold b (m + 1) k v = if vfold b m k v ≤ 9999999 then ((10 * vfold b m k v) + b.getD (k + m) 0) - 48 else vfold b m k v := by
  intro m
  induction m with
  | zero => intro k v; rfl
  | succ m ih =>
    intro k v
    show vfold b (m + 1) (k + 1) _ = _
    rw [ih, show k + 1 + m = k + (m + 1) by omega]
    rfl
/-- a number to its end -/
theorem s_digits {s : Nat} : ∀ (m m' p : Nat) (W : WM) (M : MdM), PS b n W M p → s ≤ p → n - p < m → n - p < m' → VR (W.2.2.1 4) (vfold b (p - s) s 0) → ∃ q W' M', p ≤ q ∧ Tk_readNumber_L10 m W = some W' ∧ Md_scan_L120 ρ m' M = some (setF M' 22 2) ∧ PS b n W' M' q ∧ FrW W W' ∧ FrM M M' ∧ W'.2.2.1 2 = W.2.2.1 2 ∧ W'.2.2.1 3 = W.2.2.1 3 ∧ M'.1 21 = M.1 21 ∧ VR (W'.2.2.1 4) (vfold b (q - s) s 0) := by
  intro m
  induction m with
  | zero => intro m' p W M h hs h1; omega
  | succ m ih =>
    intro m' p W M h hs h1 h2 hv
    cases m' with
    | zero => omega
    | succ m' =>
      have h0 := h
      obtain ⟨a1, a2, a3, a4, a5, a6, a7, a8, a9, a10⟩ := h
      unfold Tk_readNumber_L10 Md_scan_L120
      rw [a4, a5, a8, m_isDigit a7 a3 a2 a10 a6, bs, a1]
      by_cases hp : p < n
      · rw [if_neg (nI_ge hp (by omega)), if_pos hp, lg_in (by omega) (by omega)]
        by_cases hc : Tk_isDigit (b.getD p 0) = 0
        · rw [if_pos hc, if_pos hc]
          exact ⟨p, W, M, Nat.le_refl _, rfl, rfl, h0, FrW.rf W, FrM.rf M, rfl, rfl, rfl, hv⟩
        · rw [if_neg hc, if_neg hc, nI_1]
          have hv' := hv.step hc
          rw [show b.getD p 0 = b.getD (s + (p - s)) 0 by congr 1; omega, ← vfold_end, show p - s + 1 = p + 1 - s by omega] at hv'
          generalize hcv : (if ((W.2.2.1 4 * 10) + b.getD (s + (p - s)) 0) - 48 < 1000000 then ((W.2.2.1 4 * 10) + b.getD (s + (p - s)) 0) - 48 else 1000000) = cv at hv'
          rw [show b.getD p 0 = b.getD (s + (p - s)) 0 by congr 1; omega, hcv]
          have fw : FrW W (setWI (setWI W 4 cv) 1 (nI (p + 1))) := (FrW.wi W _ (by omega)).tr (FrW.wi _ _ (by omega))
          obtain ⟨q, W', M', g1, g2, g3, g4, g5, g6, g7, g8, g9, g10⟩ := ih m' (p + 1) (setWI (setWI W 4 cv) 1 (nI (p + 1))) (setF M 20 (nI (p + 1))) (h0.fr fw (FrM.f M _ (by omega)) (wi_s _ _ _) (setF_s _ _ _) (by omega)) (by omega) (by omega) (by omega) (by rw [wi_n _ _ (by decide), wi_s]; exact hv')
          exact ⟨q, W', M', by omega, g2, g3, g4, fw.tr g5, (FrM.f M _ (by omega)).tr g6, g7.trans ((wi_n _ _ (by decide)).trans (wi_n _ _ (by decide))), g8.trans ((wi_n _ _ (by decide)).trans (wi_n _ _ (by decide))), g9.trans (setF_n _ _ (by decide)), g10⟩
      · rw [if_pos (nI_le (by omega) (by omega)), if_neg hp, if_pos rfl]
        exact ⟨p, W, M, Nat.le_refl _, rfl, rfl, h0, FrW.rf W, FrM.rf M, rfl, rfl, rfl, hv⟩
/-- the next token -/
theorem s_next : ∀ (m m' p : Nat) (W : WM) (M : MdM), PS b n W M p → n - p < m → n - p < m' → ∃ s q W' M', Tk_next_L0 m W = some W' ∧ Md_scan_L0 ρ m' M = some M' ∧ TK b n W' M' s q ∧ FrW W W' ∧ FrM M M' := by
  intro m
  induction m with
  | zero => intro m' p W M h h1; omega
  | succ m ih =>
    intro m' p W M h h1 h2
    cases m' with
    | zero => omega
    | succ m' =>
      have h0 := h
      obtain ⟨a1, a2, a3, a4, a5, a6, a7, a8, a9, a10⟩ := h
      unfold Tk_next_L0 Md_scan_L0
      rw [a4, a5, a8, a7, m_byteAt a7 a3 a2 a10 a6, bs, bs, a1]
      have hM21 : FrM M (setF M 21 (nI p)) := FrM.f M _ (by omega)
      have h19 : (setF M 21 (nI p)).1 19 = nI n := (setF_n _ _ (by decide)).trans a7
      rw [m_isLetter (M := setF M 21 (nI p)) h19 a3 a2 a10 a6, bs, m_isDigit (M := setF M 21 (nI p)) h19 a3 a2 a10 a6, bs]
      by_cases hp : p < n
      · rw [if_neg (nI_ge hp (by omega)), if_pos hp, if_pos hp, if_pos hp, if_pos (nI_lt hp (by omega)), if_pos (nI_lt hp (by omega)), lg_in (by omega) (by omega), lu, nI_1]
        -- a blank, or a token
        have tok : ∃ s q W' M', (if Tk_isLetter (b.getD p 0) = 0 then (if Tk_isDigit (b.getD p 0) = 0 then (Option.bind (if b.getD p 0 = 59 then (some (3 : Int32)) else (some 4)) fun b_1246 => some (setWI (setWI (setWI W 2 (nI p)) 3 b_1246) 1 (nI (p + 1)))) else (Option.bind (Tk_readNumber (setWI W 2 (nI p))) fun M_1247 => some (M_1247))) else (Option.bind (Tk_readWord (setWI W 2 (nI p))) fun M_1248 => some (M_1248))) = some W' ∧
            (if Tk_isLetter (b.getD p 0) = 0 then (if Tk_isDigit (b.getD p 0) = 0 then (some (setF (setF (setF M 21 (nI p)) 20 (nI (p + 1))) 22 3)) else (Md_scan_L120 ρ FU (setF M 21 (nI p)))) else (Md_scan_L77 ρ FU (setF M 21 (nI p)))) = some M' ∧ TK b n W' M' s q ∧ FrW W W' ∧ FrM M M' := by
          by_cases hl : Tk_isLetter (b.getD p 0) = 0
          · rw [if_pos hl, if_pos hl]
            by_cases hd : Tk_isDigit (b.getD p 0) = 0
            · rw [if_pos hd, if_pos hd]
              have mk : ∀ kd : Int32, ∃ W', W' = setWI (setWI (setWI W 2 (nI p)) 3 kd) 1 (nI (p + 1)) ∧ FrW W W' ∧ W'.2.2.1 2 = nI p ∧ W'.2.2.1 3 = kd ∧ W'.2.2.1 1 = nI (p + 1) := fun kd => ⟨_, rfl, ((FrW.wi W _ (by omega)).tr (FrW.wi _ _ (by omega))).tr (FrW.wi _ _ (by omega)), (wi_n _ _ (by decide)).trans ((wi_n _ _ (by decide)).trans (wi_s _ _ _)), (wi_n _ _ (by decide)).trans (wi_s _ _ _), wi_s _ _ _⟩
              have fm : FrM M (setF (setF (setF M 21 (nI p)) 20 (nI (p + 1))) 22 3) := (hM21.tr (FrM.f _ _ (by omega))).tr (FrM.f _ _ (by omega))
              have m20 : (setF (setF (setF M 21 (nI p)) 20 (nI (p + 1))) 22 3).1 20 = nI (p + 1) := (setF_n _ _ (by decide)).trans (setF_s _ _ _)
              have m21 : (setF (setF (setF M 21 (nI p)) 20 (nI (p + 1))) 22 3).1 21 = nI p := (setF_n _ _ (by decide)).trans ((setF_n _ _ (by decide)).trans (setF_s _ _ _))
              by_cases h59 : b.getD p 0 = 59
              · obtain ⟨W', e, f1, f2, f3, f4⟩ := mk 3
                rw [if_pos h59, bs, ← e]
                exact ⟨p, p + 1, W', _, rfl, rfl, ⟨h0.fr f1 fm f4 m20 (by omega), by omega, f2, m21, Or.inr ⟨hp, Or.inr (Or.inr (Or.inl ⟨f3, setF_s _ _ _, h59⟩))⟩⟩, f1, fm⟩
              · obtain ⟨W', e, f1, f2, f3, f4⟩ := mk 4
                rw [if_neg h59, bs, ← e]
                exact ⟨p, p + 1, W', _, rfl, rfl, ⟨h0.fr f1 fm f4 m20 (by omega), by omega, f2, m21, Or.inr ⟨hp, Or.inr (Or.inr (Or.inr ⟨f3, setF_s _ _ _, h59⟩))⟩⟩, f1, fm⟩
            · rw [if_neg hd, if_neg hd]
              have f0 : FrW W (setWI (setWI (setWI W 2 (nI p)) 3 2) 4 0) := ((FrW.wi W _ (by omega)).tr (FrW.wi _ _ (by omega))).tr (FrW.wi _ _ (by omega))
              obtain ⟨q, W', M', g1, g2, g3, g4, g5, g6, g7, g8, g9, g10⟩ := s_digits (ρ := ρ) (s := p) FU FU p (setWI (setWI (setWI W 2 (nI p)) 3 2) 4 0) (setF M 21 (nI p)) (h0.fr f0 hM21 ((wi_n _ _ (by decide)).trans ((wi_n _ _ (by decide)).trans ((wi_n _ _ (by decide)).trans a5))) ((setF_n _ _ (by decide)).trans a8) a6) (Nat.le_refl _) (FU_gt (by omega)) (FU_gt (by omega)) (by rw [wi_s, Nat.sub_self]; exact ⟨0, by omega, rfl, fun _ => rfl, fun g => absurd g (by omega)⟩)
              have e1 : Tk_readNumber (setWI W 2 (nI p)) = some W' := g2
              rw [e1, bs]
              have fm : FrM M (setF M' 22 2) := (hM21.tr g6).tr (FrM.f _ _ (by omega))
              have m20 : (setF M' 22 2).1 20 = nI q := (setF_n _ _ (by decide)).trans g4.2.2.2.2.2.2.2.1
              have m21 : (setF M' 22 2).1 21 = nI p := (setF_n _ _ (by decide)).trans (g9.trans (setF_s _ _ _))
              have hps : PS b n W' (setF M' 22 2) q := h0.fr (f0.tr g5) fm g4.2.2.2.2.1 m20 g4.2.2.2.2.2.1
              have val : ∀ ρ, Md_value ρ (setF M' 22 2) = some (vfold b (q - p) p 0) := fun ρ => by
                unfold Md_value
                rw [m21, lu]
                exact m_valueL (s := p) hps.2.2.2.2.2.2.2.2.2 (by have := hps.2.2.2.2.2.1; omega) a2 m20 (setF_s _ _ _) FU p 0 g1 (FU_gt (by have := hps.2.2.2.2.2.1; omega))
              refine ⟨p, q, W', _, rfl, g3, ⟨hps, g1, ?_, m21, Or.inr ⟨hp, Or.inr (Or.inl ⟨?_, setF_s _ _ _, _, val 0, val 1, g10⟩)⟩⟩, f0.tr g5, fm⟩
              · exact g7.trans ((wi_n _ _ (by decide)).trans ((wi_n _ _ (by decide)).trans (wi_s _ _ _)))
              · exact g8.trans ((wi_n _ _ (by decide)).trans (wi_s _ _ _))
          · rw [if_neg hl, if_neg hl]
            have f0 : FrW W (setWI (setWI W 2 (nI p)) 3 1) := (FrW.wi W _ (by omega)).tr (FrW.wi _ _ (by omega))
            obtain ⟨q, W', M', g1, g2, g3, g4, g5, g6, g7, g8, g9⟩ := s_word (ρ := ρ) FU FU p (setWI (setWI W 2 (nI p)) 3 1) (setF M 21 (nI p)) (h0.fr f0 hM21 ((wi_n _ _ (by decide)).trans ((wi_n _ _ (by decide)).trans a5)) ((setF_n _ _ (by decide)).trans a8) a6) (FU_gt (by omega)) (FU_gt (by omega))
            have e1 : Tk_readWord (setWI W 2 (nI p)) = some W' := g2
            rw [e1, bs]
            have fm : FrM M (setF M' 22 1) := (hM21.tr g6).tr (FrM.f _ _ (by omega))
            refine ⟨p, q, W', _, rfl, g3, ⟨h0.fr (f0.tr g5) fm g4.2.2.2.2.1 ((setF_n _ _ (by decide)).trans g4.2.2.2.2.2.2.2.1) g4.2.2.2.2.2.1, g1, ?_, ?_, Or.inr ⟨hp, Or.inl ⟨?_, setF_s _ _ _⟩⟩⟩, f0.tr g5, fm⟩
            · exact g7.trans ((wi_n _ _ (by decide)).trans (wi_s _ _ _))
            · exact (setF_n _ _ (by decide)).trans (g9.trans (setF_s _ _ _))
            · exact g8.trans (wi_s _ _ _)
        have blank : ∃ s q W' M', Tk_next_L0 m (setWI W 1 (nI (p + 1))) = some W' ∧ Md_scan_L0 ρ m' (setF M 20 (nI (p + 1))) = some M' ∧ TK b n W' M' s q ∧ FrW W W' ∧ FrM M M' := by
          obtain ⟨s, q, W', M', g1, g2, g3, g4, g5⟩ := ih m' (p + 1) _ _ (h0.fr (FrW.wi W (k := 1) (nI (p + 1)) (by omega)) (FrM.f M (k := 20) (nI (p + 1)) (by omega)) (wi_s _ _ _) (setF_s _ _ _) (by omega)) (by omega) (by omega)
          exact ⟨s, q, W', M', g1, g2, g3, (FrW.wi W _ (by omega)).tr g4, (FrM.f M _ (by omega)).tr g5⟩
        unfold Tk_isBlank
        by_cases h32 : b.getD p 0 = 32
        · rw [if_pos h32, if_neg (by decide), if_pos h32]
          exact blank
        · rw [if_neg h32, if_neg h32]
          by_cases h10 : b.getD p 0 = 10
          · rw [if_pos h10, if_neg (by decide), if_pos h10]
            exact blank
          · rw [if_neg h10, if_pos rfl, if_neg h10]
            exact tok
      · obtain rfl : p = n := by omega
        rw [if_pos (Int32.le_refl _), if_neg (show ¬ nI p < nI p from Int32.lt_irrefl), if_neg hp, if_neg (by decide), if_neg (by decide), if_neg (show ¬ nI p < nI p from Int32.lt_irrefl)]
        have f0 : FrW W (setWI (setWI W 2 (nI p)) 3 0) := (FrW.wi W _ (by omega)).tr (FrW.wi _ _ (by omega))
        have fm : FrM M (setF (setF M 21 (nI p)) 22 0) := hM21.tr (FrM.f _ _ (by omega))
        exact ⟨p, p, _, _, rfl, rfl, ⟨h0.fr f0 fm ((wi_n _ _ (by decide)).trans ((wi_n _ _ (by decide)).trans a5)) ((setF_n _ _ (by decide)).trans ((setF_n _ _ (by decide)).trans a8)) a6, Nat.le_refl _, (wi_n _ _ (by decide)).trans (wi_s _ _ _), (setF_n _ _ (by decide)).trans (setF_s _ _ _), Or.inl ⟨wi_s _ _ _, setF_s _ _ _⟩⟩, f0, fm⟩
theorem s_tok {p : Nat} (h : PS b n W M p) : ∃ s q W' M', Tk_next W = some W' ∧ Md_scan ρ M = some M' ∧ TK b n W' M' s q ∧ FrW W W' ∧ FrM M M' :=
  s_next FU FU p W M h (FU_gt (by have := h.2.1; have := h.2.2.1; omega)) (FU_gt (by have := h.2.1; have := h.2.2.1; omega))
end TKS
