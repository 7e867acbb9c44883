/-! the archive of the law's text -/
def fm (L : Nat) (xs : Nat → Int32) (v : Int32) (k : Nat) : Nat := txm (txo v) (txu L xs k) k
def fe (L : Nat) (xs : Nat → Int32) (k : Nat) : Nat := if txe (txu L xs k) then 3 else 0
def stA (L : Nat) (xs : Nat → Int32) (v : Int32) : Nat → AS
  | 0 => bgA (tx1 v) (tx2 v) (tx3 v) (tx4 v)
  | k + 1 => adA (stA L xs v k) (fm L xs v k) (fe L xs k)
def SP (L : Nat) (xs : Nat → Int32) (v : Int32) (k : Nat) (A : AS) : Prop := (A.dy = 0) ∧ (A.pe = tx1 v) ∧ (A.hn = tx2 v) ∧ (A.lm = tx4 v) ∧ (A.F = k) ∧ (A.R = tx3 v) ∧ (∀ i, i < k → A.mk i = fm L xs v i) ∧ (∀ i, i < k → A.em i ≤ 3) ∧ (∀ i, i < k → A.st i = 0) ∧ (∀ i, i < k → A.ho i = 0) ∧ (∀ i, i < k → A.le i = 0) ∧ (∀ i, A.hv i = 0) ∧ (∀ i, A.rc i = 0) ∧ (A.row = List.range k) ∧ (A.tr = []) ∧ (A.sl = []) ∧ (∀ i, A.ac i = 0)
theorem SP.dy {L : Nat} {xs : Nat → Int32} {v : Int32} {k : Nat} {A : AS} (h : SP L xs v k A) : A.dy = 0 := h.1
theorem SP.pe {L : Nat} {xs : Nat → Int32} {v : Int32} {k : Nat} {A : AS} (h : SP L xs v k A) : A.pe = tx1 v := h.2.1
theorem SP.hn {L : Nat} {xs : Nat → Int32} {v : Int32} {k : Nat} {A : AS} (h : SP L xs v k A) : A.hn = tx2 v := h.2.2.1
theorem SP.lm {L : Nat} {xs : Nat → Int32} {v : Int32} {k : Nat} {A : AS} (h : SP L xs v k A) : A.lm = tx4 v := h.2.2.2.1
theorem SP.F {L : Nat} {xs : Nat → Int32} {v : Int32} {k : Nat} {A : AS} (h : SP L xs v k A) : A.F = k := h.2.2.2.2.1
theorem SP.R {L : Nat} {xs : Nat → Int32} {v : Int32} {k : Nat} {A : AS} (h : SP L xs v k A) : A.R = tx3 v := h.2.2.2.2.2.1
theorem SP.mk {L : Nat} {xs : Nat → Int32} {v : Int32} {k : Nat} {A : AS} (h : SP L xs v k A) : ∀ i, i < k → A.mk i = fm L xs v i := h.2.2.2.2.2.2.1
theorem SP.em {L : Nat} {xs : Nat → Int32} {v : Int32} {k : Nat} {A : AS} (h : SP L xs v k A) : ∀ i, i < k → A.em i ≤ 3 := h.2.2.2.2.2.2.2.1
theorem SP.st {L : Nat} {xs : Nat → Int32} {v : Int32} {k : Nat} {A : AS} (h : SP L xs v k A) : ∀ i, i < k → A.st i = 0 := h.2.2.2.2.2.2.2.2.1
theorem SP.ho {L : Nat} {xs : Nat → Int32} {v : Int32} {k : Nat} {A : AS} (h : SP L xs v k A) : ∀ i, i < k → A.ho i = 0 := h.2.2.2.2.2.2.2.2.2.1
theorem SP.le {L : Nat} {xs : Nat → Int32} {v : Int32} {k : Nat} {A : AS} (h : SP L xs v k A) : ∀ i, i < k → A.le i = 0 := h.2.2.2.2.2.2.2.2.2.2.1
theorem SP.hv {L : Nat} {xs : Nat → Int32} {v : Int32} {k : Nat} {A : AS} (h : SP L xs v k A) : ∀ i, A.hv i = 0 := h.2.2.2.2.2.2.2.2.2.2.2.1
theorem SP.rc {L : Nat} {xs : Nat → Int32} {v : Int32} {k : Nat} {A : AS} (h : SP L xs v k A) : ∀ i, A.rc i = 0 := h.2.2.2.2.2.2.2.2.2.2.2.2.1
theorem SP.row {L : Nat} {xs : Nat → Int32} {v : Int32} {k : Nat} {A : AS} (h : SP L xs v k A) : A.row = List.range k := h.2.2.2.2.2.2.2.2.2.2.2.2.2.1
theorem SP.tr {L : Nat} {xs : Nat → Int32} {v : Int32} {k : Nat} {A : AS} (h : SP L xs v k A) : A.tr = [] := h.2.2.2.2.2.2.2.2.2.2.2.2.2.2.1
theorem SP.sl {L : Nat} {xs : Nat → Int32} {v : Int32} {k : Nat} {A : AS} (h : SP L xs v k A) : A.sl = [] := h.2.2.2.2.2.2.2.2.2.2.2.2.2.2.2.1
theorem SP.ac {L : Nat} {xs : Nat → Int32} {v : Int32} {k : Nat} {A : AS} (h : SP L xs v k A) : ∀ i, A.ac i = 0 := h.2.2.2.2.2.2.2.2.2.2.2.2.2.2.2.2
theorem uq_lt {g : Nat → Nat} {k v i : Nat} {P : Nat → Prop} (h1 : i < k → P (g i)) (h2 : P v) (hi : i < k + 1) : P (uq g k v i) := by
  rw [uq_c]
  split
  · exact h2
  · exact h1 (by omega)
theorem sp_ok (L : Nat) (xs : Nat → Int32) (v : Int32) : ∀ k, SP L xs v k (stA L xs v k) := by
  intro k
  induction k with
  | zero => exact ⟨rfl, rfl, rfl, rfl, rfl, rfl, fun i hi => absurd hi (Nat.not_lt_zero _), fun i hi => absurd hi (Nat.not_lt_zero _), fun i hi => absurd hi (Nat.not_lt_zero _), fun i hi => absurd hi (Nat.not_lt_zero _), fun i hi => absurd hi (Nat.not_lt_zero _), fun _ => rfl, fun _ => rfl, rfl, rfl, rfl, fun _ => rfl⟩
  | succ k ih =>
    have hF := ih.F
    refine ⟨ih.dy, ih.pe, ih.hn, ih.lm, congrArg (· + 1) hF, ih.R, fun i hi => ?_, fun i hi => ?_, fun i hi => ?_, fun i hi => ?_, fun i hi => ?_, ih.hv, ih.rc, ?_, ih.tr, ih.sl, ih.ac⟩
    · show uq (stA L xs v k).mk (stA L xs v k).F (fm L xs v k) i = _
      rw [hF, uq_c]
      by_cases h : i = k
      · rw [if_pos h, h]
      · rw [if_neg h]; exact ih.mk i (by omega)
    · show uq (stA L xs v k).em (stA L xs v k).F (fe L xs k) i ≤ 3
      rw [hF]
      exact uq_lt (P := fun z => z ≤ 3) (ih.em i) (by unfold fe; split <;> omega) hi
    · show uq (stA L xs v k).st (stA L xs v k).F 0 i = 0
      rw [hF]
      exact uq_lt (P := fun z => z = 0) (ih.st i) rfl hi
    · show uq (stA L xs v k).ho (stA L xs v k).F 0 i = 0
      rw [hF]
      exact uq_lt (P := fun z => z = 0) (ih.ho i) rfl hi
    · show uq (stA L xs v k).le (stA L xs v k).F 0 i = 0
      rw [hF]
      exact uq_lt (P := fun z => z = 0) (ih.le i) rfl hi
    · show (stA L xs v k).row ++ [(stA L xs v k).F] = _
      rw [ih.row, hF, List.range_succ]
theorem x17 : ∀ i, i < 14 → ∀ j, j < 14 → i * 5 % 17 = j * 5 % 17 → i = j := by decide
theorem fm_inj (L : Nat) (xs : Nat → Int32) (v : Int32) {i j : Nat} (hi : i < 14) (hj : j < 14) (h : fm L xs v i = fm L xs v j) : i = j := by
  have h1 := most_lt (txu L xs i) (show 0 < 50 by omega)
  have h2 := most_lt (txu L xs j) (show 0 < 50 by omega)
  unfold fm txm at h
  by_cases ho : txo v = 0
  · rw [if_pos ho, if_pos ho] at h
    exact x17 i hi j hj (by omega)
  · rw [if_neg ho, if_neg ho] at h
    omega
theorem t_bd (v : Int32) : (1 ≤ tx1 v ∧ tx1 v ≤ 5) ∧ (1 ≤ tx2 v ∧ tx2 v ≤ 3) ∧ (1 ≤ tx3 v ∧ tx3 v ≤ 4) ∧ (1 ≤ tx4 v ∧ tx4 v ≤ 3) ∧ (1 ≤ txn v ∧ txn v ≤ 14) := by
  have e1 := most_lt v (show 0 < 5 by omega); have e2 := most_lt (v >>> (1 &&& 31)) (show 0 < 3 by omega); have e3 := most_lt (v >>> (2 &&& 31)) (show 0 < 4 by omega); have e4 := most_lt (v >>> (3 &&& 31)) (show 0 < 3 by omega); have e5 := most_lt (v >>> (4 &&& 31)) (show 0 < 14 by omega)
  unfold tx1 tx2 tx3 tx4 txn
  omega
theorem st_ok (L : Nat) (xs : Nat → Int32) (v : Int32) {n : Nat} (hn : 1 ≤ n ∧ n ≤ 14) : OKs (stA L xs v n) 0 := by
  have h := sp_ok L xs v n
  generalize stA L xs v n = A at h
  obtain ⟨b1, b2, b3, b4, -⟩ := t_bd v
  have hF := h.F; have hR := h.R; have hpe := h.pe; have hhn := h.hn; have hlm := h.lm; have hdy := h.dy
  refine ⟨⟨by omega, by omega, by omega, by omega, by omega, by omega, ?_, ?_, ?_, ?_, ?_, ?_, ?_, ?_, ?_, ?_, ?_, ?_, ?_, ?_, ?_⟩, 0, 0, 0, ?_, ?_, h.ac 4, h.ac 6, h.ac 3, Nat.le_refl _, ?_, Nat.le_refl _⟩
  · intro i hi
    rw [h.mk i (by omega)]
    exact txm_lt (by omega)
  · intro i j hi hj e
    rw [h.mk i (by omega), h.mk j (by omega)] at e
    exact fm_inj L xs v (by omega) (by omega) e
  · intro i hi
    have := h.em i (by omega); omega
  · intro i hi
    rw [h.ho i (by omega)]; exact Nat.zero_le _
  · intro f
    rw [h.row, List.mem_range]
    constructor
    · intro hf; exact ⟨by omega, h.st f hf⟩
    · intro hf; omega
  · intro f
    rw [h.tr]
    constructor
    · intro hf; exact absurd hf List.not_mem_nil
    · rintro ⟨h1, h2⟩; rw [h.st f (by omega)] at h2; omega
  · intro f hf
    rw [h.st f (by omega), h.ho f (by omega)]; omega
  · intro f hf
    rw [h.st f (by omega)]; exact Nat.zero_le _
  · rw [h.row]; exact List.nodup_range
  · rw [h.tr]; exact List.nodup_nil
  · intro r hr
    rw [h.hv r]
    exact (sm_z' fun f hf => by rw [h.ho f (by omega)]; exact if_neg (by omega)).symm
  · intro r hr
    rw [h.hv r]; exact Nat.zero_le _
  · intro s hs
    rw [h.sl] at hs; exact absurd hs List.not_mem_nil
  · rw [h.sl]; exact List.nodup_nil
  · rw [h.sl]; exact Nat.zero_le _
  · exact sm_z' fun f hf => h.le f (by omega)
  · exact sm_z' fun f hf => h.rc f
  · rw [h.sl]; exact Nat.le_refl _
/-! what is left of the text behind a folder -/
theorem tx_split (L : Nat) (xs : Nat → Int32) (v : Int32) (n : Nat) : ∀ i k, k + i = n → ∃ X, txT L xs v n = txT L xs v k ++ X := by
  intro i
  induction i with
  | zero => intro k hk; exact ⟨[], by rw [show k = n by omega, List.append_nil]⟩
  | succ i ih =>
    intro k hk
    obtain ⟨X, e⟩ := ih (k + 1) (by omega)
    refine ⟨sx 4 ++ dg (txm (txo v) (txu L xs k) k) ++ (if txe (txu L xs k) then sx 5 else sx 6) ++ X, ?_⟩
    rw [e]
    show txT L xs v k ++ sx 4 ++ dg (txm (txo v) (txu L xs k) k) ++ (if txe (txu L xs k) then sx 5 else sx 6) ++ X = _
    simp only [List.append_assoc]
def rest (L : Nat) (xs : Nat → Int32) (v : Int32) (n k : Nat) : List Int32 := (txT L xs v n).drop (txT L xs v k).length
theorem rest_s (L : Nat) (xs : Nat → Int32) (v : Int32) {n k : Nat} (hk : k < n) : rest L xs v n k = sx 1 ++ (32 :: (flT (fm L xs v k) (txe (txu L xs k)) ++ rest L xs v n (k + 1))) := by
  obtain ⟨X, e⟩ := tx_split L xs v n (n - (k + 1)) (k + 1) (by omega)
  unfold rest
  rw [e, List.drop_left]
  show (txT L xs v k ++ sx 4 ++ dg (txm (txo v) (txu L xs k) k) ++ (if txe (txu L xs k) then sx 5 else sx 6) ++ X).drop _ = _
  rw [List.append_assoc, List.append_assoc, List.append_assoc, List.drop_left]
  show (sx 1 ++ [32]) ++ _ = sx 1 ++ (32 :: ((dg (txm (txo v) (txu L xs k) k) ++ _) ++ X))
  simp only [List.append_assoc]
  rfl
theorem rest_n (L : Nat) (xs : Nat → Int32) (v : Int32) (n : Nat) : rest L xs v n n = [] := List.drop_length
theorem rest_0 (L : Nat) (xs : Nat → Int32) (v : Int32) (n : Nat) : txT L xs v n = sx 0 ++ (32 :: (dg (tx1 v) ++ (32 :: (dg (tx2 v) ++ (32 :: (dg (tx3 v) ++ (32 :: (dg (tx4 v) ++ (59 :: rest L xs v n 0))))))))) := by
  obtain ⟨X, e⟩ := tx_split L xs v n n 0 (Nat.zero_add _)
  unfold rest
  rw [e, List.drop_left]
  show txH v ++ X = _
  unfold txH
  rw [show sx 3 = sx 0 ++ [32] from rfl]
  simp only [List.append_assoc]
  rfl
