/-! the component: stacks 0 .. 8 the history's slots, 9 now, 10 draft, 11 snapshot; lines 0 buffer, 1 formatted, 2 lasting, 3 firsts, 4 seconds; ints 0 .. 4 the tokens' length, position, start, kind, value, 5 6 the parser's error, errorAt, 7 8 the history's first, count, 9 hasSnapshot, 10 errorAt; the script's orders by their ordinals -/
abbrev WM : Type := (Nat → StM) × (Nat → List Int32) × (Nat → Int32) × (Nat → Option Nat)
def setS (w : WM) (i : Nat) (M : StM) : WM := (va_up w.1 i M, w.2)
def setWL (w : WM) (j : Nat) (xs : List Int32) : WM := (w.1, va_up w.2.1 j xs, w.2.2)
def setWI (w : WM) (k : Nat) (v : Int32) : WM := (w.1, w.2.1, va_up w.2.2.1 k v, w.2.2.2)
def setWO (w : WM) (f : Nat → Option Nat) : WM := (w.1, w.2.1, w.2.2.1, f)
def wE (B : Nat) (ae : Nat → Nat) (w : WM) (k : Nat) : Ent := match k with
  | 0 => eO 8 [.ref (B + 1), .ref (B + 3), .ref (B + 5), .ref (B + 7), .ref (B + 9), .ref (B + 15), .ref (B + 332), .ref (B + 367), .ref (B + 402), .int (w.2.2.1 9), .int (w.2.2.1 10)]
  | 1 => eO 1 [.ref (B + 2), .int (nI (w.2.1 0).length)]
  | 2 => eL 700 (w.2.1 0)
  | 3 => eO 1 [.ref (B + 4), .int (nI (w.2.1 1).length)]
  | 4 => eL 128 (w.2.1 1)
  | 5 => eO 1 [.ref (B + 6), .int (nI (w.2.1 2).length)]
  | 6 => eL 3 (w.2.1 2)
  | 7 => eO 2 [.ref (B + 8), .int (w.2.2.1 5), .int (w.2.2.1 6)]
  | 8 => eO 7 [.ref (B + 1), .int (w.2.2.1 0), .int (w.2.2.1 1), .int (w.2.2.1 2), .int (w.2.2.1 3), .int (w.2.2.1 4)]
  | 9 => eO 4 [.ref (B + 10), .ref (B + 11), .ref (B + 13)]
  | 10 => eR 2 20 (fun i => (w.2.2.2 i).map ae)
  | 11 => eO 1 [.ref (B + 12), .int (nI (w.2.1 3).length)]
  | 12 => eL 20 (w.2.1 3)
  | 13 => eO 1 [.ref (B + 14), .int (nI (w.2.1 4).length)]
  | 14 => eL 20 (w.2.1 4)
  | 15 => eO 0 [.ref (B + 16), .int (w.2.2.1 7), .int (w.2.2.1 8)]
  | _ => eR 1 9 (fun i => some (B + 17 + 35 * i))
def putW (σ : Hp) (B : Nat) (ae : Nat → Nat) (w : WM) : Hp := (σ.1, fun a => if B ≤ a ∧ a < B + 437 then some (if a - B < 17 then wE B ae w (a - B) else stE (B + 17 + 35 * ((a - B - 17) / 35)) (w.1 ((a - B - 17) / 35)) ((a - B - 17) % 35)) else σ.2 a)
theorem pW (σ : Hp) (B : Nat) (ae : Nat → Nat) (w : WM) (k : Nat) (hk : k < 17) : (putW σ B ae w).2 (B + k) = some (wE B ae w k) := by
  show (if B ≤ B + k ∧ B + k < B + 437 then some (if B + k - B < 17 then wE B ae w (B + k - B) else _) else σ.2 (B + k)) = _
  rw [if_pos ⟨by omega, by omega⟩, Nat.add_sub_cancel_left, if_pos hk]
theorem pW_n (σ : Hp) (B : Nat) (ae : Nat → Nat) (w : WM) {a : Nat} (h : ¬ (B ≤ a ∧ a < B + 437)) : (putW σ B ae w).2 a = σ.2 a := if_neg h
theorem pW_st (σ : Hp) (B : Nat) (ae : Nat → Nat) (w : WM) (i : Nat) (hi : i < 12) : isSt (putW σ B ae w) (B + 17 + 35 * i) (w.1 i) := by
  intro k hk
  show (if B ≤ B + 17 + 35 * i + k ∧ B + 17 + 35 * i + k < B + 437 then some (if B + 17 + 35 * i + k - B < 17 then wE B ae w (B + 17 + 35 * i + k - B) else stE (B + 17 + 35 * ((B + 17 + 35 * i + k - B - 17) / 35)) (w.1 ((B + 17 + 35 * i + k - B - 17) / 35)) ((B + 17 + 35 * i + k - B - 17) % 35)) else σ.2 (B + 17 + 35 * i + k)) = _
  have e1 : (B + 17 + 35 * i + k - B - 17) / 35 = i := by omega
  have e2 : (B + 17 + 35 * i + k - B - 17) % 35 = k := by omega
  rw [if_pos ⟨by omega, by omega⟩, if_neg (by omega), e1, e2]
theorem pW_put (σ : Hp) (B : Nat) (ae : Nat → Nat) (w : WM) (i : Nat) (hi : i < 12) (M : StM) : putSt (putW σ B ae w) (B + 17 + 35 * i) M = putW σ B ae (setS w i M) := by
  refine Prod.ext rfl (funext fun a => ?_)
  show (if B + 17 + 35 * i ≤ a ∧ a < B + 17 + 35 * i + 35 then some (stE (B + 17 + 35 * i) M (a - (B + 17 + 35 * i))) else if B ≤ a ∧ a < B + 437 then some (if a - B < 17 then wE B ae w (a - B) else stE (B + 17 + 35 * ((a - B - 17) / 35)) (w.1 ((a - B - 17) / 35)) ((a - B - 17) % 35)) else σ.2 a) = (if B ≤ a ∧ a < B + 437 then some (if a - B < 17 then wE B ae (setS w i M) (a - B) else stE (B + 17 + 35 * ((a - B - 17) / 35)) ((setS w i M).1 ((a - B - 17) / 35)) ((a - B - 17) % 35)) else σ.2 a)
  by_cases h1 : B + 17 + 35 * i ≤ a ∧ a < B + 17 + 35 * i + 35
  · have e1 : (a - B - 17) / 35 = i := by omega
    have e2 : (a - B - 17) % 35 = a - (B + 17 + 35 * i) := by omega
    rw [if_pos h1, if_pos ⟨by omega, by omega⟩, if_neg (by omega), e1, e2]
    simp [setS, va_up]
  · rw [if_neg h1]
    by_cases h2 : B ≤ a ∧ a < B + 437
    · rw [if_pos h2, if_pos h2]
      by_cases h3 : a - B < 17
      · rw [if_pos h3, if_pos h3]; rfl
      · rw [if_neg h3, if_neg h3]
        have : (setS w i M).1 ((a - B - 17) / 35) = w.1 ((a - B - 17) / 35) := if_neg (by omega)
        rw [this]
    · rw [if_neg h2, if_neg h2]
theorem hset_W {σ : Hp} {B : Nat} {ae : Nat → Nat} {w w' : WM} (k : Nat) (hk : k < 17) (hs : w'.1 = w.1) (h : ∀ d, d < 17 → d ≠ k → wE B ae w d = wE B ae w' d) : hset (putW σ B ae w) (B + k) (wE B ae w' k) = putW σ B ae w' := by
  refine Prod.ext rfl (funext fun a => ?_)
  show (if a = B + k then some (wE B ae w' k) else if B ≤ a ∧ a < B + 437 then some (if a - B < 17 then wE B ae w (a - B) else stE (B + 17 + 35 * ((a - B - 17) / 35)) (w.1 ((a - B - 17) / 35)) ((a - B - 17) % 35)) else σ.2 a) = (if B ≤ a ∧ a < B + 437 then some (if a - B < 17 then wE B ae w' (a - B) else stE (B + 17 + 35 * ((a - B - 17) / 35)) (w'.1 ((a - B - 17) / 35)) ((a - B - 17) % 35)) else σ.2 a)
  by_cases h1 : a = B + k
  · subst h1
    rw [if_pos rfl, if_pos ⟨by omega, by omega⟩, Nat.add_sub_cancel_left, if_pos hk]
  · rw [if_neg h1, hs]
    by_cases h2 : B ≤ a ∧ a < B + 437
    · rw [if_pos h2, if_pos h2]
      by_cases h3 : a - B < 17
      · rw [if_pos h3, if_pos h3, h _ h3 (by omega)]
      · rw [if_neg h3, if_neg h3]
    · rw [if_neg h2, if_neg h2]
theorem hset2_W {σ : Hp} {B : Nat} {ae : Nat → Nat} {w w' : WM} (k : Nat) (hk : k + 1 < 17) (hs : w'.1 = w.1) (h : ∀ d, d < 17 → d ≠ k → d ≠ k + 1 → wE B ae w d = wE B ae w' d) : hset (hset (putW σ B ae w) (B + k) (wE B ae w' k)) (B + k + 1) (wE B ae w' (k + 1)) = putW σ B ae w' := by
  refine Prod.ext rfl (funext fun a => ?_)
  show (if a = B + k + 1 then some (wE B ae w' (k + 1)) else if a = B + k then some (wE B ae w' k) else if B ≤ a ∧ a < B + 437 then some (if a - B < 17 then wE B ae w (a - B) else stE (B + 17 + 35 * ((a - B - 17) / 35)) (w.1 ((a - B - 17) / 35)) ((a - B - 17) % 35)) else σ.2 a) = (if B ≤ a ∧ a < B + 437 then some (if a - B < 17 then wE B ae w' (a - B) else stE (B + 17 + 35 * ((a - B - 17) / 35)) (w'.1 ((a - B - 17) / 35)) ((a - B - 17) % 35)) else σ.2 a)
  by_cases h0 : a = B + k + 1
  · subst h0
    rw [if_pos rfl, if_pos ⟨by omega, by omega⟩, Nat.add_assoc, Nat.add_sub_cancel_left, if_pos hk]
  · rw [if_neg h0]
    by_cases h1 : a = B + k
    · subst h1
      rw [if_pos rfl, if_pos ⟨by omega, by omega⟩, Nat.add_sub_cancel_left, if_pos (by omega)]
    · rw [if_neg h1, hs]
      by_cases h2 : B ≤ a ∧ a < B + 437
      · rw [if_pos h2, if_pos h2]
        by_cases h3 : a - B < 17
        · rw [if_pos h3, if_pos h3, h _ h3 (by omega) (by omega)]
        · rw [if_neg h3, if_neg h3]
      · rw [if_neg h2, if_neg h2]
theorem pW_l0 (σ : Hp) (B : Nat) (ae : Nat → Nat) (w : WM) : isLn (putW σ B ae w) (B + 1) 700 (w.2.1 0) := ⟨pW σ B ae w 1 (by omega), pW σ B ae w 2 (by omega)⟩
theorem pW_e0 (B : Nat) (ae : Nat → Nat) (w : WM) (xs : List Int32) (d : Nat) (h : d < 17) (h1 : d ≠ 1) (h2 : d ≠ 1+1) : wE B ae w d = wE B ae (setWL w 0 xs) d := match d, h, h1, h2 with
  | 0, _, _, _ => rfl
  | 1, _, h, _ => absurd rfl h
  | 2, _, _, h => absurd rfl h
  | 3, _, _, _ => rfl
  | 4, _, _, _ => rfl
  | 5, _, _, _ => rfl
  | 6, _, _, _ => rfl
  | 7, _, _, _ => rfl
  | 8, _, _, _ => rfl
  | 9, _, _, _ => rfl
  | 10, _, _, _ => rfl
  | 11, _, _, _ => rfl
  | 12, _, _, _ => rfl
  | 13, _, _, _ => rfl
  | 14, _, _, _ => rfl
  | 15, _, _, _ => rfl
  | 16, _, _, _ => rfl
  | n + 17, h, _, _ => absurd h (by omega)
theorem pW_p0 (σ : Hp) (B : Nat) (ae : Nat → Nat) (w : WM) (xs : List Int32) : putLn (putW σ B ae w) (B + 1) 700 xs = putW σ B ae (setWL w 0 xs) := hset2_W (w' := setWL w 0 xs) 1 (by omega) rfl (pW_e0 B ae w xs)
theorem pW_l1 (σ : Hp) (B : Nat) (ae : Nat → Nat) (w : WM) : isLn (putW σ B ae w) (B + 3) 128 (w.2.1 1) := ⟨pW σ B ae w 3 (by omega), pW σ B ae w 4 (by omega)⟩
theorem pW_e1 (B : Nat) (ae : Nat → Nat) (w : WM) (xs : List Int32) (d : Nat) (h : d < 17) (h1 : d ≠ 3) (h2 : d ≠ 3+1) : wE B ae w d = wE B ae (setWL w 1 xs) d := match d, h, h1, h2 with
  | 0, _, _, _ => rfl
  | 1, _, _, _ => rfl
  | 2, _, _, _ => rfl
  | 3, _, h, _ => absurd rfl h
  | 4, _, _, h => absurd rfl h
  | 5, _, _, _ => rfl
  | 6, _, _, _ => rfl
  | 7, _, _, _ => rfl
  | 8, _, _, _ => rfl
  | 9, _, _, _ => rfl
  | 10, _, _, _ => rfl
  | 11, _, _, _ => rfl
  | 12, _, _, _ => rfl
  | 13, _, _, _ => rfl
  | 14, _, _, _ => rfl
  | 15, _, _, _ => rfl
  | 16, _, _, _ => rfl
  | n + 17, h, _, _ => absurd h (by omega)
theorem pW_p1 (σ : Hp) (B : Nat) (ae : Nat → Nat) (w : WM) (xs : List Int32) : putLn (putW σ B ae w) (B + 3) 128 xs = putW σ B ae (setWL w 1 xs) := hset2_W (w' := setWL w 1 xs) 3 (by omega) rfl (pW_e1 B ae w xs)
theorem pW_l2 (σ : Hp) (B : Nat) (ae : Nat → Nat) (w : WM) : isLn (putW σ B ae w) (B + 5) 3 (w.2.1 2) := ⟨pW σ B ae w 5 (by omega), pW σ B ae w 6 (by omega)⟩
theorem pW_e2 (B : Nat) (ae : Nat → Nat) (w : WM) (xs : List Int32) (d : Nat) (h : d < 17) (h1 : d ≠ 5) (h2 : d ≠ 5+1) : wE B ae w d = wE B ae (setWL w 2 xs) d := match d, h, h1, h2 with
  | 0, _, _, _ => rfl
  | 1, _, _, _ => rfl
  | 2, _, _, _ => rfl
  | 3, _, _, _ => rfl
  | 4, _, _, _ => rfl
  | 5, _, h, _ => absurd rfl h
  | 6, _, _, h => absurd rfl h
  | 7, _, _, _ => rfl
  | 8, _, _, _ => rfl
  | 9, _, _, _ => rfl
  | 10, _, _, _ => rfl
  | 11, _, _, _ => rfl
  | 12, _, _, _ => rfl
  | 13, _, _, _ => rfl
  | 14, _, _, _ => rfl
  | 15, _, _, _ => rfl
  | 16, _, _, _ => rfl
  | n + 17, h, _, _ => absurd h (by omega)
theorem pW_p2 (σ : Hp) (B : Nat) (ae : Nat → Nat) (w : WM) (xs : List Int32) : putLn (putW σ B ae w) (B + 5) 3 xs = putW σ B ae (setWL w 2 xs) := hset2_W (w' := setWL w 2 xs) 5 (by omega) rfl (pW_e2 B ae w xs)
theorem pW_l3 (σ : Hp) (B : Nat) (ae : Nat → Nat) (w : WM) : isLn (putW σ B ae w) (B + 11) 20 (w.2.1 3) := ⟨pW σ B ae w 11 (by omega), pW σ B ae w 12 (by omega)⟩
theorem pW_e3 (B : Nat) (ae : Nat → Nat) (w : WM) (xs : List Int32) (d : Nat) (h : d < 17) (h1 : d ≠ 11) (h2 : d ≠ 11+1) : wE B ae w d = wE B ae (setWL w 3 xs) d := match d, h, h1, h2 with
  | 0, _, _, _ => rfl
  | 1, _, _, _ => rfl
  | 2, _, _, _ => rfl
  | 3, _, _, _ => rfl
  | 4, _, _, _ => rfl
  | 5, _, _, _ => rfl
  | 6, _, _, _ => rfl
  | 7, _, _, _ => rfl
  | 8, _, _, _ => rfl
  | 9, _, _, _ => rfl
  | 10, _, _, _ => rfl
  | 11, _, h, _ => absurd rfl h
  | 12, _, _, h => absurd rfl h
  | 13, _, _, _ => rfl
  | 14, _, _, _ => rfl
  | 15, _, _, _ => rfl
  | 16, _, _, _ => rfl
  | n + 17, h, _, _ => absurd h (by omega)
theorem pW_p3 (σ : Hp) (B : Nat) (ae : Nat → Nat) (w : WM) (xs : List Int32) : putLn (putW σ B ae w) (B + 11) 20 xs = putW σ B ae (setWL w 3 xs) := hset2_W (w' := setWL w 3 xs) 11 (by omega) rfl (pW_e3 B ae w xs)
theorem pW_l4 (σ : Hp) (B : Nat) (ae : Nat → Nat) (w : WM) : isLn (putW σ B ae w) (B + 13) 20 (w.2.1 4) := ⟨pW σ B ae w 13 (by omega), pW σ B ae w 14 (by omega)⟩
theorem pW_e4 (B : Nat) (ae : Nat → Nat) (w : WM) (xs : List Int32) (d : Nat) (h : d < 17) (h1 : d ≠ 13) (h2 : d ≠ 13+1) : wE B ae w d = wE B ae (setWL w 4 xs) d := match d, h, h1, h2 with
  | 0, _, _, _ => rfl
  | 1, _, _, _ => rfl
  | 2, _, _, _ => rfl
  | 3, _, _, _ => rfl
  | 4, _, _, _ => rfl
  | 5, _, _, _ => rfl
  | 6, _, _, _ => rfl
  | 7, _, _, _ => rfl
  | 8, _, _, _ => rfl
  | 9, _, _, _ => rfl
  | 10, _, _, _ => rfl
  | 11, _, _, _ => rfl
  | 12, _, _, _ => rfl
  | 13, _, h, _ => absurd rfl h
  | 14, _, _, h => absurd rfl h
  | 15, _, _, _ => rfl
  | 16, _, _, _ => rfl
  | n + 17, h, _, _ => absurd h (by omega)
theorem pW_p4 (σ : Hp) (B : Nat) (ae : Nat → Nat) (w : WM) (xs : List Int32) : putLn (putW σ B ae w) (B + 13) 20 xs = putW σ B ae (setWL w 4 xs) := hset2_W (w' := setWL w 4 xs) 13 (by omega) rfl (pW_e4 B ae w xs)
theorem pW_g0 (B : Nat) (ae : Nat → Nat) (w : WM) (v : Int32) (d : Nat) (h : d < 17) (h1 : d ≠ 8) : wE B ae w d = wE B ae (setWI w 0 v) d := match d, h, h1 with
  | 0, _, _ => rfl
  | 1, _, _ => rfl
  | 2, _, _ => rfl
  | 3, _, _ => rfl
  | 4, _, _ => rfl
  | 5, _, _ => rfl
  | 6, _, _ => rfl
  | 7, _, _ => rfl
  | 8, _, h => absurd rfl h
  | 9, _, _ => rfl
  | 10, _, _ => rfl
  | 11, _, _ => rfl
  | 12, _, _ => rfl
  | 13, _, _ => rfl
  | 14, _, _ => rfl
  | 15, _, _ => rfl
  | 16, _, _ => rfl
  | n + 17, h, _ => absurd h (by omega)
theorem pW_i0 (σ : Hp) (B : Nat) (ae : Nat → Nat) (w : WM) (v : Int32) : hset (putW σ B ae w) (B + 8) (wE B ae (setWI w 0 v) 8) = putW σ B ae (setWI w 0 v) := hset_W (w' := setWI w 0 v) 8 (by omega) rfl (pW_g0 B ae w v)
theorem pW_g1 (B : Nat) (ae : Nat → Nat) (w : WM) (v : Int32) (d : Nat) (h : d < 17) (h1 : d ≠ 8) : wE B ae w d = wE B ae (setWI w 1 v) d := match d, h, h1 with
  | 0, _, _ => rfl
  | 1, _, _ => rfl
  | 2, _, _ => rfl
  | 3, _, _ => rfl
  | 4, _, _ => rfl
  | 5, _, _ => rfl
  | 6, _, _ => rfl
  | 7, _, _ => rfl
  | 8, _, h => absurd rfl h
  | 9, _, _ => rfl
  | 10, _, _ => rfl
  | 11, _, _ => rfl
  | 12, _, _ => rfl
  | 13, _, _ => rfl
  | 14, _, _ => rfl
  | 15, _, _ => rfl
  | 16, _, _ => rfl
  | n + 17, h, _ => absurd h (by omega)
theorem pW_i1 (σ : Hp) (B : Nat) (ae : Nat → Nat) (w : WM) (v : Int32) : hset (putW σ B ae w) (B + 8) (wE B ae (setWI w 1 v) 8) = putW σ B ae (setWI w 1 v) := hset_W (w' := setWI w 1 v) 8 (by omega) rfl (pW_g1 B ae w v)
theorem pW_g2 (B : Nat) (ae : Nat → Nat) (w : WM) (v : Int32) (d : Nat) (h : d < 17) (h1 : d ≠ 8) : wE B ae w d = wE B ae (setWI w 2 v) d := match d, h, h1 with
  | 0, _, _ => rfl
  | 1, _, _ => rfl
  | 2, _, _ => rfl
  | 3, _, _ => rfl
  | 4, _, _ => rfl
  | 5, _, _ => rfl
  | 6, _, _ => rfl
  | 7, _, _ => rfl
  | 8, _, h => absurd rfl h
  | 9, _, _ => rfl
  | 10, _, _ => rfl
  | 11, _, _ => rfl
  | 12, _, _ => rfl
  | 13, _, _ => rfl
  | 14, _, _ => rfl
  | 15, _, _ => rfl
  | 16, _, _ => rfl
  | n + 17, h, _ => absurd h (by omega)
theorem pW_i2 (σ : Hp) (B : Nat) (ae : Nat → Nat) (w : WM) (v : Int32) : hset (putW σ B ae w) (B + 8) (wE B ae (setWI w 2 v) 8) = putW σ B ae (setWI w 2 v) := hset_W (w' := setWI w 2 v) 8 (by omega) rfl (pW_g2 B ae w v)
theorem pW_g3 (B : Nat) (ae : Nat → Nat) (w : WM) (v : Int32) (d : Nat) (h : d < 17) (h1 : d ≠ 8) : wE B ae w d = wE B ae (setWI w 3 v) d := match d, h, h1 with
  | 0, _, _ => rfl
  | 1, _, _ => rfl
  | 2, _, _ => rfl
  | 3, _, _ => rfl
  | 4, _, _ => rfl
  | 5, _, _ => rfl
  | 6, _, _ => rfl
  | 7, _, _ => rfl
  | 8, _, h => absurd rfl h
  | 9, _, _ => rfl
  | 10, _, _ => rfl
  | 11, _, _ => rfl
  | 12, _, _ => rfl
  | 13, _, _ => rfl
  | 14, _, _ => rfl
  | 15, _, _ => rfl
  | 16, _, _ => rfl
  | n + 17, h, _ => absurd h (by omega)
theorem pW_i3 (σ : Hp) (B : Nat) (ae : Nat → Nat) (w : WM) (v : Int32) : hset (putW σ B ae w) (B + 8) (wE B ae (setWI w 3 v) 8) = putW σ B ae (setWI w 3 v) := hset_W (w' := setWI w 3 v) 8 (by omega) rfl (pW_g3 B ae w v)
theorem pW_g4 (B : Nat) (ae : Nat → Nat) (w : WM) (v : Int32) (d : Nat) (h : d < 17) (h1 : d ≠ 8) : wE B ae w d = wE B ae (setWI w 4 v) d := match d, h, h1 with
  | 0, _, _ => rfl
  | 1, _, _ => rfl
  | 2, _, _ => rfl
  | 3, _, _ => rfl
  | 4, _, _ => rfl
  | 5, _, _ => rfl
  | 6, _, _ => rfl
  | 7, _, _ => rfl
  | 8, _, h => absurd rfl h
  | 9, _, _ => rfl
  | 10, _, _ => rfl
  | 11, _, _ => rfl
  | 12, _, _ => rfl
  | 13, _, _ => rfl
  | 14, _, _ => rfl
  | 15, _, _ => rfl
  | 16, _, _ => rfl
  | n + 17, h, _ => absurd h (by omega)
theorem pW_i4 (σ : Hp) (B : Nat) (ae : Nat → Nat) (w : WM) (v : Int32) : hset (putW σ B ae w) (B + 8) (wE B ae (setWI w 4 v) 8) = putW σ B ae (setWI w 4 v) := hset_W (w' := setWI w 4 v) 8 (by omega) rfl (pW_g4 B ae w v)
theorem pW_g5 (B : Nat) (ae : Nat → Nat) (w : WM) (v : Int32) (d : Nat) (h : d < 17) (h1 : d ≠ 7) : wE B ae w d = wE B ae (setWI w 5 v) d := match d, h, h1 with
  | 0, _, _ => rfl
  | 1, _, _ => rfl
  | 2, _, _ => rfl
  | 3, _, _ => rfl
  | 4, _, _ => rfl
  | 5, _, _ => rfl
  | 6, _, _ => rfl
  | 7, _, h => absurd rfl h
  | 8, _, _ => rfl
  | 9, _, _ => rfl
  | 10, _, _ => rfl
  | 11, _, _ => rfl
  | 12, _, _ => rfl
  | 13, _, _ => rfl
  | 14, _, _ => rfl
  | 15, _, _ => rfl
  | 16, _, _ => rfl
  | n + 17, h, _ => absurd h (by omega)
theorem pW_i5 (σ : Hp) (B : Nat) (ae : Nat → Nat) (w : WM) (v : Int32) : hset (putW σ B ae w) (B + 7) (wE B ae (setWI w 5 v) 7) = putW σ B ae (setWI w 5 v) := hset_W (w' := setWI w 5 v) 7 (by omega) rfl (pW_g5 B ae w v)
theorem pW_g6 (B : Nat) (ae : Nat → Nat) (w : WM) (v : Int32) (d : Nat) (h : d < 17) (h1 : d ≠ 7) : wE B ae w d = wE B ae (setWI w 6 v) d := match d, h, h1 with
  | 0, _, _ => rfl
  | 1, _, _ => rfl
  | 2, _, _ => rfl
  | 3, _, _ => rfl
  | 4, _, _ => rfl
  | 5, _, _ => rfl
  | 6, _, _ => rfl
  | 7, _, h => absurd rfl h
  | 8, _, _ => rfl
  | 9, _, _ => rfl
  | 10, _, _ => rfl
  | 11, _, _ => rfl
  | 12, _, _ => rfl
  | 13, _, _ => rfl
  | 14, _, _ => rfl
  | 15, _, _ => rfl
  | 16, _, _ => rfl
  | n + 17, h, _ => absurd h (by omega)
theorem pW_i6 (σ : Hp) (B : Nat) (ae : Nat → Nat) (w : WM) (v : Int32) : hset (putW σ B ae w) (B + 7) (wE B ae (setWI w 6 v) 7) = putW σ B ae (setWI w 6 v) := hset_W (w' := setWI w 6 v) 7 (by omega) rfl (pW_g6 B ae w v)
theorem pW_g7 (B : Nat) (ae : Nat → Nat) (w : WM) (v : Int32) (d : Nat) (h : d < 17) (h1 : d ≠ 15) : wE B ae w d = wE B ae (setWI w 7 v) d := match d, h, h1 with
  | 0, _, _ => rfl
  | 1, _, _ => rfl
  | 2, _, _ => rfl
  | 3, _, _ => rfl
  | 4, _, _ => rfl
  | 5, _, _ => rfl
  | 6, _, _ => rfl
  | 7, _, _ => rfl
  | 8, _, _ => rfl
  | 9, _, _ => rfl
  | 10, _, _ => rfl
  | 11, _, _ => rfl
  | 12, _, _ => rfl
  | 13, _, _ => rfl
  | 14, _, _ => rfl
  | 15, _, h => absurd rfl h
  | 16, _, _ => rfl
  | n + 17, h, _ => absurd h (by omega)
theorem pW_i7 (σ : Hp) (B : Nat) (ae : Nat → Nat) (w : WM) (v : Int32) : hset (putW σ B ae w) (B + 15) (wE B ae (setWI w 7 v) 15) = putW σ B ae (setWI w 7 v) := hset_W (w' := setWI w 7 v) 15 (by omega) rfl (pW_g7 B ae w v)
theorem pW_g8 (B : Nat) (ae : Nat → Nat) (w : WM) (v : Int32) (d : Nat) (h : d < 17) (h1 : d ≠ 15) : wE B ae w d = wE B ae (setWI w 8 v) d := match d, h, h1 with
  | 0, _, _ => rfl
  | 1, _, _ => rfl
  | 2, _, _ => rfl
  | 3, _, _ => rfl
  | 4, _, _ => rfl
  | 5, _, _ => rfl
  | 6, _, _ => rfl
  | 7, _, _ => rfl
  | 8, _, _ => rfl
  | 9, _, _ => rfl
  | 10, _, _ => rfl
  | 11, _, _ => rfl
  | 12, _, _ => rfl
  | 13, _, _ => rfl
  | 14, _, _ => rfl
  | 15, _, h => absurd rfl h
  | 16, _, _ => rfl
  | n + 17, h, _ => absurd h (by omega)
theorem pW_i8 (σ : Hp) (B : Nat) (ae : Nat → Nat) (w : WM) (v : Int32) : hset (putW σ B ae w) (B + 15) (wE B ae (setWI w 8 v) 15) = putW σ B ae (setWI w 8 v) := hset_W (w' := setWI w 8 v) 15 (by omega) rfl (pW_g8 B ae w v)
theorem pW_g9 (B : Nat) (ae : Nat → Nat) (w : WM) (v : Int32) (d : Nat) (h : d < 17) (h1 : d ≠ 0) : wE B ae w d = wE B ae (setWI w 9 v) d := match d, h, h1 with
  | 0, _, h => absurd rfl h
  | 1, _, _ => rfl
  | 2, _, _ => rfl
  | 3, _, _ => rfl
  | 4, _, _ => rfl
  | 5, _, _ => rfl
  | 6, _, _ => rfl
  | 7, _, _ => rfl
  | 8, _, _ => rfl
  | 9, _, _ => rfl
  | 10, _, _ => rfl
  | 11, _, _ => rfl
  | 12, _, _ => rfl
  | 13, _, _ => rfl
  | 14, _, _ => rfl
  | 15, _, _ => rfl
  | 16, _, _ => rfl
  | n + 17, h, _ => absurd h (by omega)
theorem pW_i9 (σ : Hp) (B : Nat) (ae : Nat → Nat) (w : WM) (v : Int32) : hset (putW σ B ae w) (B + 0) (wE B ae (setWI w 9 v) 0) = putW σ B ae (setWI w 9 v) := hset_W (w' := setWI w 9 v) 0 (by omega) rfl (pW_g9 B ae w v)
theorem pW_g10 (B : Nat) (ae : Nat → Nat) (w : WM) (v : Int32) (d : Nat) (h : d < 17) (h1 : d ≠ 0) : wE B ae w d = wE B ae (setWI w 10 v) d := match d, h, h1 with
  | 0, _, h => absurd rfl h
  | 1, _, _ => rfl
  | 2, _, _ => rfl
  | 3, _, _ => rfl
  | 4, _, _ => rfl
  | 5, _, _ => rfl
  | 6, _, _ => rfl
  | 7, _, _ => rfl
  | 8, _, _ => rfl
  | 9, _, _ => rfl
  | 10, _, _ => rfl
  | 11, _, _ => rfl
  | 12, _, _ => rfl
  | 13, _, _ => rfl
  | 14, _, _ => rfl
  | 15, _, _ => rfl
  | 16, _, _ => rfl
  | n + 17, h, _ => absurd h (by omega)
theorem pW_i10 (σ : Hp) (B : Nat) (ae : Nat → Nat) (w : WM) (v : Int32) : hset (putW σ B ae w) (B + 0) (wE B ae (setWI w 10 v) 0) = putW σ B ae (setWI w 10 v) := hset_W (w' := setWI w 10 v) 0 (by omega) rfl (pW_g10 B ae w v)
theorem pW_og (B : Nat) (ae : Nat → Nat) (w : WM) (f : Nat → Option Nat) (d : Nat) (h : d < 17) (h1 : d ≠ 10) : wE B ae w d = wE B ae (setWO w f) d := match d, h, h1 with
  | 0, _, _ => rfl
  | 1, _, _ => rfl
  | 2, _, _ => rfl
  | 3, _, _ => rfl
  | 4, _, _ => rfl
  | 5, _, _ => rfl
  | 6, _, _ => rfl
  | 7, _, _ => rfl
  | 8, _, _ => rfl
  | 9, _, _ => rfl
  | 10, _, h => absurd rfl h
  | 11, _, _ => rfl
  | 12, _, _ => rfl
  | 13, _, _ => rfl
  | 14, _, _ => rfl
  | 15, _, _ => rfl
  | 16, _, _ => rfl
  | n + 17, h, _ => absurd h (by omega)
theorem pW_o (σ : Hp) (B : Nat) (ae : Nat → Nat) (w : WM) (f : Nat → Option Nat) : hset (putW σ B ae w) (B + 10) (eR 2 20 (fun i => (f i).map ae)) = putW σ B ae (setWO w f) := hset_W (w' := setWO w f) 10 (by omega) rfl (pW_og B ae w f)
theorem pW_st9 (σ : Hp) (B : Nat) (ae : Nat → Nat) (w : WM) : isSt (putW σ B ae w) (B + 332) (w.1 9) := pW_st σ B ae w 9 (by decide)
theorem pW_put9 (σ : Hp) (B : Nat) (ae : Nat → Nat) (w : WM) (M : StM) : putSt (putW σ B ae w) (B + 332) M = putW σ B ae (setS w 9 M) := pW_put σ B ae w 9 (by decide) M
theorem MG.at9 {l : Launch} {g : Gl} {md : Md} {av : List Value} {σ : Hp} {B : Nat} {ae : Nat → Nat} {w : WM} {v : Option Value} {M' : StM} (h : MG l g md av (putSt (putW σ B ae w) (B + 332) (w.1 9)) (rs v (putSt (putW σ B ae w) (B + 332) M'))) : MG l g md av (putW σ B ae w) (rs v (putW σ B ae (setS w 9 M'))) := by
  rw [putSt_id (pW_st9 σ B ae w), pW_put9] at h
  exact h
theorem MG.ar9 {l : Launch} {g : Gl} {md : Md} {av : List Value} {σ : Hp} {B : Nat} {ae : Nat → Nat} {w : WM} {v : Option Value} (h : MG l g md av (putSt (putW σ B ae w) (B + 332) (w.1 9)) (rs v (putSt (putW σ B ae w) (B + 332) (w.1 9)))) : MG l g md av (putW σ B ae w) (rs v (putW σ B ae w)) := by
  rw [putSt_id (pW_st9 σ B ae w)] at h
  exact h
theorem pW_st10 (σ : Hp) (B : Nat) (ae : Nat → Nat) (w : WM) : isSt (putW σ B ae w) (B + 367) (w.1 10) := pW_st σ B ae w 10 (by decide)
theorem pW_put10 (σ : Hp) (B : Nat) (ae : Nat → Nat) (w : WM) (M : StM) : putSt (putW σ B ae w) (B + 367) M = putW σ B ae (setS w 10 M) := pW_put σ B ae w 10 (by decide) M
theorem MG.at10 {l : Launch} {g : Gl} {md : Md} {av : List Value} {σ : Hp} {B : Nat} {ae : Nat → Nat} {w : WM} {v : Option Value} {M' : StM} (h : MG l g md av (putSt (putW σ B ae w) (B + 367) (w.1 10)) (rs v (putSt (putW σ B ae w) (B + 367) M'))) : MG l g md av (putW σ B ae w) (rs v (putW σ B ae (setS w 10 M'))) := by
  rw [putSt_id (pW_st10 σ B ae w), pW_put10] at h
  exact h
theorem MG.ar10 {l : Launch} {g : Gl} {md : Md} {av : List Value} {σ : Hp} {B : Nat} {ae : Nat → Nat} {w : WM} {v : Option Value} (h : MG l g md av (putSt (putW σ B ae w) (B + 367) (w.1 10)) (rs v (putSt (putW σ B ae w) (B + 367) (w.1 10)))) : MG l g md av (putW σ B ae w) (rs v (putW σ B ae w)) := by
  rw [putSt_id (pW_st10 σ B ae w)] at h
  exact h
theorem pW_st11 (σ : Hp) (B : Nat) (ae : Nat → Nat) (w : WM) : isSt (putW σ B ae w) (B + 402) (w.1 11) := pW_st σ B ae w 11 (by decide)
theorem pW_put11 (σ : Hp) (B : Nat) (ae : Nat → Nat) (w : WM) (M : StM) : putSt (putW σ B ae w) (B + 402) M = putW σ B ae (setS w 11 M) := pW_put σ B ae w 11 (by decide) M
theorem MG.at11 {l : Launch} {g : Gl} {md : Md} {av : List Value} {σ : Hp} {B : Nat} {ae : Nat → Nat} {w : WM} {v : Option Value} {M' : StM} (h : MG l g md av (putSt (putW σ B ae w) (B + 402) (w.1 11)) (rs v (putSt (putW σ B ae w) (B + 402) M'))) : MG l g md av (putW σ B ae w) (rs v (putW σ B ae (setS w 11 M'))) := by
  rw [putSt_id (pW_st11 σ B ae w), pW_put11] at h
  exact h
theorem MG.ar11 {l : Launch} {g : Gl} {md : Md} {av : List Value} {σ : Hp} {B : Nat} {ae : Nat → Nat} {w : WM} {v : Option Value} (h : MG l g md av (putSt (putW σ B ae w) (B + 402) (w.1 11)) (rs v (putSt (putW σ B ae w) (B + 402) (w.1 11)))) : MG l g md av (putW σ B ae w) (rs v (putW σ B ae w)) := by
  rw [putSt_id (pW_st11 σ B ae w)] at h
  exact h
theorem st_l0 {σ : Hp} {S : Nat} {M : StM} (h : isSt σ S M) : isLn σ (S + 1) 24 (M.2 0) := ⟨h 1 (by omega), h 2 (by omega)⟩
theorem st_l1 {σ : Hp} {S : Nat} {M : StM} (h : isSt σ S M) : isLn σ (S + 3) 24 (M.2 1) := ⟨h 3 (by omega), h 4 (by omega)⟩
theorem st_l2 {σ : Hp} {S : Nat} {M : StM} (h : isSt σ S M) : isLn σ (S + 5) 24 (M.2 2) := ⟨h 5 (by omega), h 6 (by omega)⟩
theorem st_l3 {σ : Hp} {S : Nat} {M : StM} (h : isSt σ S M) : isLn σ (S + 7) 24 (M.2 3) := ⟨h 7 (by omega), h 8 (by omega)⟩
theorem st_l4 {σ : Hp} {S : Nat} {M : StM} (h : isSt σ S M) : isLn σ (S + 9) 24 (M.2 4) := ⟨h 9 (by omega), h 10 (by omega)⟩
theorem st_l5 {σ : Hp} {S : Nat} {M : StM} (h : isSt σ S M) : isLn σ (S + 11) 8 (M.2 5) := ⟨h 11 (by omega), h 12 (by omega)⟩
theorem st_l6 {σ : Hp} {S : Nat} {M : StM} (h : isSt σ S M) : isLn σ (S + 13) 8 (M.2 6) := ⟨h 13 (by omega), h 14 (by omega)⟩
theorem st_l7 {σ : Hp} {S : Nat} {M : StM} (h : isSt σ S M) : isLn σ (S + 16) 24 (M.2 7) := ⟨h 16 (by omega), h 17 (by omega)⟩
theorem st_l8 {σ : Hp} {S : Nat} {M : StM} (h : isSt σ S M) : isLn σ (S + 18) 24 (M.2 8) := ⟨h 18 (by omega), h 19 (by omega)⟩
theorem st_l9 {σ : Hp} {S : Nat} {M : StM} (h : isSt σ S M) : isLn σ (S + 20) 24 (M.2 9) := ⟨h 20 (by omega), h 21 (by omega)⟩
theorem st_l10 {σ : Hp} {S : Nat} {M : StM} (h : isSt σ S M) : isLn σ (S + 22) 24 (M.2 10) := ⟨h 22 (by omega), h 23 (by omega)⟩
theorem st_l11 {σ : Hp} {S : Nat} {M : StM} (h : isSt σ S M) : isLn σ (S + 25) 16 (M.2 11) := ⟨h 25 (by omega), h 26 (by omega)⟩
theorem st_l12 {σ : Hp} {S : Nat} {M : StM} (h : isSt σ S M) : isLn σ (S + 27) 16 (M.2 12) := ⟨h 27 (by omega), h 28 (by omega)⟩
theorem st_l13 {σ : Hp} {S : Nat} {M : StM} (h : isSt σ S M) : isLn σ (S + 29) 16 (M.2 13) := ⟨h 29 (by omega), h 30 (by omega)⟩
theorem st_l14 {σ : Hp} {S : Nat} {M : StM} (h : isSt σ S M) : isLn σ (S + 31) 16 (M.2 14) := ⟨h 31 (by omega), h 32 (by omega)⟩
theorem st_l15 {σ : Hp} {S : Nat} {M : StM} (h : isSt σ S M) : isLn σ (S + 33) 11 (M.2 15) := ⟨h 33 (by omega), h 34 (by omega)⟩
theorem pS_fx (S : Nat) (M : StM) (f : Nat) (v : Int32) (d : Nat) (h : d < 35) (h1 : d ≠ 0) : stE S M d = stE S (setI M f v) d := match d, h, h1 with
  | 0, _, h => absurd rfl h
  | 1, _, _ => rfl
  | 2, _, _ => rfl
  | 3, _, _ => rfl
  | 4, _, _ => rfl
  | 5, _, _ => rfl
  | 6, _, _ => rfl
  | 7, _, _ => rfl
  | 8, _, _ => rfl
  | 9, _, _ => rfl
  | 10, _, _ => rfl
  | 11, _, _ => rfl
  | 12, _, _ => rfl
  | 13, _, _ => rfl
  | 14, _, _ => rfl
  | 15, _, _ => rfl
  | 16, _, _ => rfl
  | 17, _, _ => rfl
  | 18, _, _ => rfl
  | 19, _, _ => rfl
  | 20, _, _ => rfl
  | 21, _, _ => rfl
  | 22, _, _ => rfl
  | 23, _, _ => rfl
  | 24, _, _ => rfl
  | 25, _, _ => rfl
  | 26, _, _ => rfl
  | 27, _, _ => rfl
  | 28, _, _ => rfl
  | 29, _, _ => rfl
  | 30, _, _ => rfl
  | 31, _, _ => rfl
  | 32, _, _ => rfl
  | 33, _, _ => rfl
  | 34, _, _ => rfl
  | n + 35, h, _ => absurd h (by omega)
theorem pW_sti10 (σ : Hp) (B : Nat) (ae : Nat → Nat) (w : WM) (f : Nat) (v : Int32) : hset (putW σ B ae w) (B + 367) (stE (B + 367) (setI (w.1 10) f v) 0) = putW σ B ae (setS w 10 (setI (w.1 10) f v)) := by
  have h := hset_St (σ := putW σ B ae w) (S := B + 367) (M := w.1 10) (M' := setI (w.1 10) f v) 0 (by omega) (pS_fx (B + 367) (w.1 10) f v)
  rw [putSt_id (pW_st10 σ B ae w), pW_put10] at h
  exact h
