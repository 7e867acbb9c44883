theorem stL_get (S : Nat) (M : StM) (r : Nat) (h : r < 35) : (stL S M)[r]? = some (stE S M r) := match r, h with
  | 0, _ => rfl
  | 1, _ => rfl
  | 2, _ => rfl
  | 3, _ => rfl
  | 4, _ => rfl
  | 5, _ => rfl
  | 6, _ => rfl
  | 7, _ => rfl
  | 8, _ => rfl
  | 9, _ => rfl
  | 10, _ => rfl
  | 11, _ => rfl
  | 12, _ => rfl
  | 13, _ => rfl
  | 14, _ => rfl
  | 15, _ => rfl
  | 16, _ => rfl
  | 17, _ => rfl
  | 18, _ => rfl
  | 19, _ => rfl
  | 20, _ => rfl
  | 21, _ => rfl
  | 22, _ => rfl
  | 23, _ => rfl
  | 24, _ => rfl
  | 25, _ => rfl
  | 26, _ => rfl
  | 27, _ => rfl
  | 28, _ => rfl
  | 29, _ => rfl
  | 30, _ => rfl
  | 31, _ => rfl
  | 32, _ => rfl
  | 33, _ => rfl
  | 34, _ => rfl
  | r + 35, h => absurd h (by omega)
theorem stks_get (A n i : Nat) (h : i < 35 * n) : (stks A n)[i]? = some (stE (A + 35 * (i / 35)) E0 (i % 35)) := by
  induction n with
  | zero => exact absurd h (Nat.not_lt_zero i)
  | succ n ih =>
    show (stks A n ++ stL (A + 35 * n) E0)[i]? = _
    by_cases h1 : i < 35 * n
    · rw [List.getElem?_append_left (by rw [stks_len]; exact h1), ih h1]
    · rw [List.getElem?_append_right (by rw [stks_len]; omega), stks_len, stL_get _ _ _ (by omega)]
      rw [show i / 35 = n by omega, show i % 35 = i - 35 * n by omega]
def W00 : WM := (fun _ => E0, fun _ => [], fun k => if k = 6 ∨ k = 10 then -1 else 0, fun _ => none)
def slF (B : Nat) : Nat → Option Nat := fun i => some (B + 17 + 35 * i)
theorem saE_get (τ : Hp) (ae : Nat → Nat) (i : Nat) (h : i < 17) (h16 : i ≠ 16) : (saE τ)[i]? = some (wE τ.1 ae W00 i) := match i, h, h16 with
  | 0, _, _ => rfl
  | 1, _, _ => rfl
  | 2, _, _ => rfl
  | 3, _, _ => rfl
  | 4, _, _ => rfl
  | 5, _, _ => rfl
  | 6, _, _ => rfl
  | 7, _, _ => rfl
  | 8, _, _ => rfl
  | 9, _, _ => rfl
  | 10, _, _ => rfl
  | 11, _, _ => rfl
  | 12, _, _ => rfl
  | 13, _, _ => rfl
  | 14, _, _ => rfl
  | 15, _, _ => rfl
  | 16, _, h => absurd rfl h
  | i + 17, h, _ => absurd h (by omega)
theorem saE_tail (τ : Hp) : ∃ cs : List Ent, cs.length = 17 ∧ saE τ = cs ++ stks (τ.1 + 17) 12 := ⟨(saE τ).take 17, rfl, rfl⟩
theorem saE_W (τ : Hp) (ae : Nat → Nat) : hset (hadl τ (saE τ)) (τ.1 + 16) (eR 1 9 (slF τ.1)) = putW (τ.1 + 437, τ.2) τ.1 ae W00 := by
  obtain ⟨cs, h1, h2⟩ := saE_tail τ
  have hlen : (saE τ).length = 437 := by rw [h2, List.length_append, h1, stks_len]
  refine Prod.ext (by show τ.1 + (saE τ).length = _; rw [hlen]; rfl) (funext fun q => ?_)
  show (if q = τ.1 + 16 then some (eR 1 9 (slF τ.1)) else if τ.1 ≤ q ∧ q < τ.1 + (saE τ).length then (saE τ)[q - τ.1]? else τ.2 q) = (if τ.1 ≤ q ∧ q < τ.1 + 437 then some (if q - τ.1 < 17 then wE τ.1 ae W00 (q - τ.1) else stE (τ.1 + 17 + 35 * ((q - τ.1 - 17) / 35)) (W00.1 ((q - τ.1 - 17) / 35)) ((q - τ.1 - 17) % 35)) else τ.2 q)
  rw [hlen]
  by_cases hq : q = τ.1 + 16
  · subst hq
    rw [if_pos rfl, if_pos ⟨by omega, by omega⟩, Nat.add_sub_cancel_left, if_pos (by omega)]
    rfl
  · rw [if_neg hq]
    by_cases h3 : τ.1 ≤ q ∧ q < τ.1 + 437
    · rw [if_pos h3, if_pos h3]
      by_cases h4 : q - τ.1 < 17
      · rw [if_pos h4, saE_get τ ae _ h4 (by omega)]
      · rw [if_neg h4, h2, List.getElem?_append_right (by omega), h1, stks_get _ _ _ (by omega)]
        rfl
    · rw [if_neg h3, if_neg h3]
