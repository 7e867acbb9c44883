/-! a Line raw: its array's content and its count; a Line by its list -/
abbrev LnR : Type := (Nat → Int32) × Int32
def rawLn (σ : Hp) (k N : Nat) (s : LnR) : Hp := hset (hset σ k (eO 1 [.ref (k + 1), .int s.2])) (k + 1) (eI N s.1)
theorem rL_a (σ : Hp) (k N : Nat) (s : LnR) : (rawLn σ k N s).2 (k + 1) = some (eI N s.1) := hset_self _ _ _
theorem rL_o (σ : Hp) (k N : Nat) (s : LnR) : (rawLn σ k N s).2 k = some (eO 1 [.ref (k + 1), .int s.2]) := (hset_ne _ _ (by omega)).trans (hset_self _ _ _)
theorem rL_n (σ : Hp) (k N : Nat) (s : LnR) {j : Nat} (h1 : j ≠ k) (h2 : j ≠ k + 1) : (rawLn σ k N s).2 j = σ.2 j := (hset_ne _ _ h2).trans (hset_ne _ _ h1)
theorem rL_f (σ : Hp) (k N : Nat) (s : LnR) (f : Nat → Int32) : hset (rawLn σ k N s) (k + 1) (eI N f) = rawLn σ k N (f, s.2) := hset_hset _ _ _ _
theorem rL_c (σ : Hp) (k N : Nat) (s : LnR) (c : Int32) : hset (rawLn σ k N s) k (eO 1 [.ref (k + 1), .int c]) = rawLn σ k N (s.1, c) := by
  unfold rawLn
  rw [hset_comm _ _ _ (by omega), hset_hset]
def isLn (σ : Hp) (k N : Nat) (xs : List Int32) : Prop := σ.2 k = some (eO 1 [.ref (k + 1), .int (nI xs.length)]) ∧ σ.2 (k + 1) = some (eL N xs)
def putLn (σ : Hp) (k N : Nat) (xs : List Int32) : Hp := hset (hset σ k (eO 1 [.ref (k + 1), .int (nI xs.length)])) (k + 1) (eL N xs)
theorem putLn_id {σ : Hp} {k N : Nat} {xs : List Int32} (h : isLn σ k N xs) : putLn σ k N xs = σ := by
  unfold putLn
  rw [hset_id h.1, hset_id h.2]
theorem putLn_is (σ : Hp) (k N : Nat) (xs : List Int32) : isLn (putLn σ k N xs) k N xs := ⟨(hset_ne _ _ (by omega)).trans (hset_self _ _ _), hset_self _ _ _⟩
theorem rawLn_of {σ : Hp} {k N : Nat} {xs : List Int32} (h : isLn σ k N xs) (f : Nat → Int32) : hset σ (k + 1) (eI N f) = rawLn σ k N (f, nI xs.length) := by
  unfold rawLn
  rw [hset_id h.1]
theorem putLn_of (σ : Hp) (k N : Nat) (f : Nat → Int32) (xs : List Int32) : hset (rawLn σ k N (f, nI xs.length)) (k + 1) (eL N xs) = putLn σ k N xs := hset_hset _ _ _ _
/-- a line's contract by lists, out of the raw one -/
theorem MG.ln {l : Launch} {g : Gl} {M : Md} {av : List Value} {σ : Hp} {k N : Nat} {xs xs' : List Int32} {v : Option Value} (h : isLn σ k N xs)
    (hM : ∀ f, pre_ok f N xs → ∃ f', pre_ok f' N xs' ∧ MG l g M av (rawLn σ k N (f, nI xs.length)) (rs v (rawLn σ k N (f', nI xs'.length)))) : MG l g M av σ (rs v (putLn σ k N xs')) := by
  intro p e ha hc hk s m args below hf happ hP hK
  obtain ⟨a1, a2, a3⟩ := hP
  obtain ⟨f, hf1, hP1⟩ := a2.opened h.2
  obtain ⟨f', hf2, hM1⟩ := hM f hf1
  obtain ⟨n, o, h1, h2, h3, ⟨v', σ', e1, ⟨rfl, rfl⟩, e3, e4⟩, h5⟩ := hM1 p e ha hc hk s m args below hf happ ⟨a1, by rw [← rawLn_of h f]; exact hP1, a3⟩ hK
  refine ⟨n, o, h1, h2, h3, ⟨_, putLn σ k N xs', e1, ⟨rfl, rfl⟩, ?_, e4⟩, h5⟩
  rw [← putLn_of σ k N f' xs']
  exact e3.closed (rL_a _ _ _ _) hf2
/-- .. and where nothing is written -/
theorem MG.lnr {l : Launch} {g : Gl} {M : Md} {av : List Value} {σ : Hp} {k N : Nat} {xs : List Int32} {v : Option Value} (h : isLn σ k N xs)
    (hM : ∀ f, pre_ok f N xs → MG l g M av (rawLn σ k N (f, nI xs.length)) (rs v (rawLn σ k N (f, nI xs.length)))) : MG l g M av σ (rs v σ) := by
  have h1 := MG.ln (l := l) (g := g) (M := M) (av := av) (v := v) (xs' := xs) h (fun f hf => ⟨f, hf, hM f hf⟩)
  rw [putLn_id h] at h1
  exact h1
/-- a cell of a prefix read as an array while the walk goes on -/
theorem MG.opn {l : Launch} {g : Gl} {M : Md} {av : List Value} {σ : Hp} {a N : Nat} {xs : List Int32} {Post : Option Value → Hp → Prop} (h : σ.2 a = some (eL N xs))
    (hM : ∀ f, pre_ok f N xs → MG l g M av (hset σ a (eI N f)) Post) : MG l g M av σ Post := by
  intro p e ha hc hk s m args below hf happ hP hK
  obtain ⟨a1, a2, a3⟩ := hP
  obtain ⟨f, hf1, hP1⟩ := a2.opened h
  exact hM f hf1 p e ha hc hk s m args below hf happ ⟨a1, hP1, a3⟩ hK
theorem MG.cls {l : Launch} {g : Gl} {M : Md} {av : List Value} {σ σ' : Hp} {a N : Nat} {f : Nat → Int32} {xs : List Int32} {v : Option Value} (h : σ'.2 a = some (eI N f)) (hp : pre_ok f N xs)
    (hM : MG l g M av σ (rs v σ')) : MG l g M av σ (rs v (hset σ' a (eL N xs))) := by
  intro p e ha hc hk s m args below hf happ hP hK
  obtain ⟨n, o, h1, h2, h3, ⟨v', σ'', e1, ⟨rfl, rfl⟩, e3, e4⟩, h5⟩ := hM p e ha hc hk s m args below hf happ hP hK
  exact ⟨n, o, h1, h2, h3, ⟨_, _, e1, ⟨rfl, rfl⟩, e3.closed h hp, e4⟩, h5⟩
/-! a Stacks: day, period, hands, limit; its lines: 0 marks, 1 embargoes, 2 states, 3 holders, 4 lent, 5 having, 6 received, 7 the row's folders, 8 looked, 9 runs, 10 trolley, 11 the slips' readers, 12 folders, 13 dates, 14 tries, 15 accounts -/
abbrev StM : Type := (Nat → Int32) × (Nat → List Int32)
def setL (M : StM) (j : Nat) (xs : List Int32) : StM := (M.1, va_up M.2 j xs)
def setI (M : StM) (j : Nat) (v : Int32) : StM := (va_up M.1 j v, M.2)
def stE (S : Nat) (M : StM) (k : Nat) : Ent := match k with
  | 0 => eO 6 [.int (M.1 0), .int (M.1 1), .int (M.1 2), .int (M.1 3), .ref (S + 1), .ref (S + 3), .ref (S + 5), .ref (S + 7), .ref (S + 9), .ref (S + 11), .ref (S + 13), .ref (S + 15), .ref (S + 22), .ref (S + 24), .ref (S + 33)]
  | 1 => eO 1 [.ref (S + 2), .int (nI (M.2 0).length)]
  | 2 => eL 24 (M.2 0)
  | 3 => eO 1 [.ref (S + 4), .int (nI (M.2 1).length)]
  | 4 => eL 24 (M.2 1)
  | 5 => eO 1 [.ref (S + 6), .int (nI (M.2 2).length)]
  | 6 => eL 24 (M.2 2)
  | 7 => eO 1 [.ref (S + 8), .int (nI (M.2 3).length)]
  | 8 => eL 24 (M.2 3)
  | 9 => eO 1 [.ref (S + 10), .int (nI (M.2 4).length)]
  | 10 => eL 24 (M.2 4)
  | 11 => eO 1 [.ref (S + 12), .int (nI (M.2 5).length)]
  | 12 => eL 8 (M.2 5)
  | 13 => eO 1 [.ref (S + 14), .int (nI (M.2 6).length)]
  | 14 => eL 8 (M.2 6)
  | 15 => eO 3 [.ref (S + 16), .ref (S + 18), .ref (S + 20), .ref (S + 1)]
  | 16 => eO 1 [.ref (S + 17), .int (nI (M.2 7).length)]
  | 17 => eL 24 (M.2 7)
  | 18 => eO 1 [.ref (S + 19), .int (nI (M.2 8).length)]
  | 19 => eL 24 (M.2 8)
  | 20 => eO 1 [.ref (S + 21), .int (nI (M.2 9).length)]
  | 21 => eL 24 (M.2 9)
  | 22 => eO 1 [.ref (S + 23), .int (nI (M.2 10).length)]
  | 23 => eL 24 (M.2 10)
  | 24 => eO 5 [.ref (S + 25), .ref (S + 27), .ref (S + 29), .ref (S + 31)]
  | 25 => eO 1 [.ref (S + 26), .int (nI (M.2 11).length)]
  | 26 => eL 16 (M.2 11)
  | 27 => eO 1 [.ref (S + 28), .int (nI (M.2 12).length)]
  | 28 => eL 16 (M.2 12)
  | 29 => eO 1 [.ref (S + 30), .int (nI (M.2 13).length)]
  | 30 => eL 16 (M.2 13)
  | 31 => eO 1 [.ref (S + 32), .int (nI (M.2 14).length)]
  | 32 => eL 16 (M.2 14)
  | 33 => eO 1 [.ref (S + 34), .int (nI (M.2 15).length)]
  | _ => eL 11 (M.2 15)
def putSt (σ : Hp) (S : Nat) (M : StM) : Hp := (σ.1, fun a => if S ≤ a ∧ a < S + 35 then some (stE S M (a - S)) else σ.2 a)
theorem pS (σ : Hp) (S : Nat) (M : StM) (k : Nat) (hk : k < 35) : (putSt σ S M).2 (S + k) = some (stE S M k) := by
  show (if S ≤ S + k ∧ S + k < S + 35 then some (stE S M (S + k - S)) else σ.2 (S + k)) = _
  rw [if_pos ⟨by omega, by omega⟩, Nat.add_sub_cancel_left]
theorem pS_o (σ : Hp) (S : Nat) (M : StM) : (putSt σ S M).2 S = some (stE S M 0) := pS σ S M 0 (by omega)
theorem pS_n (σ : Hp) (S : Nat) (M : StM) {a : Nat} (h : ¬ (S ≤ a ∧ a < S + 35)) : (putSt σ S M).2 a = σ.2 a := if_neg h
theorem hset_St {σ : Hp} {S : Nat} {M M' : StM} (k : Nat) (hk : k < 35) (h : ∀ d, d < 35 → d ≠ k → stE S M d = stE S M' d) : hset (putSt σ S M) (S + k) (stE S M' k) = putSt σ S M' := by
  refine Prod.ext rfl (funext fun a => ?_)
  show (if a = S + k then some (stE S M' k) else if S ≤ a ∧ a < S + 35 then some (stE S M (a - S)) else σ.2 a) = (if S ≤ a ∧ a < S + 35 then some (stE S M' (a - S)) else σ.2 a)
  by_cases h1 : a = S + k
  · subst h1
    rw [if_pos rfl, if_pos ⟨by omega, by omega⟩, Nat.add_sub_cancel_left]
  · rw [if_neg h1]
    by_cases h2 : S ≤ a ∧ a < S + 35
    · rw [if_pos h2, if_pos h2, h (a - S) (by omega) (by omega)]
    · rw [if_neg h2, if_neg h2]
theorem hset2_St {σ : Hp} {S : Nat} {M M' : StM} (k : Nat) (hk : k + 1 < 35) (h : ∀ d, d < 35 → d ≠ k → d ≠ k + 1 → stE S M d = stE S M' d) : hset (hset (putSt σ S M) (S + k) (stE S M' k)) (S + k + 1) (stE S M' (k + 1)) = putSt σ S M' := by
  refine Prod.ext rfl (funext fun a => ?_)
  show (if a = S + k + 1 then some (stE S M' (k + 1)) else if a = S + k then some (stE S M' k) else if S ≤ a ∧ a < S + 35 then some (stE S M (a - S)) else σ.2 a) = (if S ≤ a ∧ a < S + 35 then some (stE S M' (a - S)) else σ.2 a)
  by_cases h0 : a = S + k + 1
  · subst h0
    rw [if_pos rfl, if_pos ⟨by omega, by omega⟩, Nat.add_assoc, Nat.add_sub_cancel_left]
  · rw [if_neg h0]
    by_cases h1 : a = S + k
    · subst h1
      rw [if_pos rfl, if_pos ⟨by omega, by omega⟩, Nat.add_sub_cancel_left]
    · rw [if_neg h1]
      by_cases h2 : S ≤ a ∧ a < S + 35
      · rw [if_pos h2, if_pos h2, h (a - S) (by omega) (by omega) (by omega)]
      · rw [if_neg h2, if_neg h2]
theorem pS_l0 (σ : Hp) (S : Nat) (M : StM) : isLn (putSt σ S M) (S + 1) 24 (M.2 0) := ⟨pS σ S M 1 (by omega), pS σ S M 2 (by omega)⟩
theorem pS_l1 (σ : Hp) (S : Nat) (M : StM) : isLn (putSt σ S M) (S + 3) 24 (M.2 1) := ⟨pS σ S M 3 (by omega), pS σ S M 4 (by omega)⟩
theorem pS_l2 (σ : Hp) (S : Nat) (M : StM) : isLn (putSt σ S M) (S + 5) 24 (M.2 2) := ⟨pS σ S M 5 (by omega), pS σ S M 6 (by omega)⟩
theorem pS_l3 (σ : Hp) (S : Nat) (M : StM) : isLn (putSt σ S M) (S + 7) 24 (M.2 3) := ⟨pS σ S M 7 (by omega), pS σ S M 8 (by omega)⟩
theorem pS_l4 (σ : Hp) (S : Nat) (M : StM) : isLn (putSt σ S M) (S + 9) 24 (M.2 4) := ⟨pS σ S M 9 (by omega), pS σ S M 10 (by omega)⟩
theorem pS_l5 (σ : Hp) (S : Nat) (M : StM) : isLn (putSt σ S M) (S + 11) 8 (M.2 5) := ⟨pS σ S M 11 (by omega), pS σ S M 12 (by omega)⟩
theorem pS_l6 (σ : Hp) (S : Nat) (M : StM) : isLn (putSt σ S M) (S + 13) 8 (M.2 6) := ⟨pS σ S M 13 (by omega), pS σ S M 14 (by omega)⟩
theorem pS_l7 (σ : Hp) (S : Nat) (M : StM) : isLn (putSt σ S M) (S + 16) 24 (M.2 7) := ⟨pS σ S M 16 (by omega), pS σ S M 17 (by omega)⟩
theorem pS_l8 (σ : Hp) (S : Nat) (M : StM) : isLn (putSt σ S M) (S + 18) 24 (M.2 8) := ⟨pS σ S M 18 (by omega), pS σ S M 19 (by omega)⟩
theorem pS_l9 (σ : Hp) (S : Nat) (M : StM) : isLn (putSt σ S M) (S + 20) 24 (M.2 9) := ⟨pS σ S M 20 (by omega), pS σ S M 21 (by omega)⟩
theorem pS_l10 (σ : Hp) (S : Nat) (M : StM) : isLn (putSt σ S M) (S + 22) 24 (M.2 10) := ⟨pS σ S M 22 (by omega), pS σ S M 23 (by omega)⟩
theorem pS_l11 (σ : Hp) (S : Nat) (M : StM) : isLn (putSt σ S M) (S + 25) 16 (M.2 11) := ⟨pS σ S M 25 (by omega), pS σ S M 26 (by omega)⟩
theorem pS_l12 (σ : Hp) (S : Nat) (M : StM) : isLn (putSt σ S M) (S + 27) 16 (M.2 12) := ⟨pS σ S M 27 (by omega), pS σ S M 28 (by omega)⟩
theorem pS_l13 (σ : Hp) (S : Nat) (M : StM) : isLn (putSt σ S M) (S + 29) 16 (M.2 13) := ⟨pS σ S M 29 (by omega), pS σ S M 30 (by omega)⟩
theorem pS_l14 (σ : Hp) (S : Nat) (M : StM) : isLn (putSt σ S M) (S + 31) 16 (M.2 14) := ⟨pS σ S M 31 (by omega), pS σ S M 32 (by omega)⟩
theorem pS_l15 (σ : Hp) (S : Nat) (M : StM) : isLn (putSt σ S M) (S + 33) 11 (M.2 15) := ⟨pS σ S M 33 (by omega), pS σ S M 34 (by omega)⟩
theorem pS_e0 (S : Nat) (M : StM) (xs : List Int32) (d : Nat) (h : d < 35) (h1 : d ≠ 1) (h2 : d ≠ 1+1) : stE S M d = stE S (setL M 0 xs) d := match d, h, h1, h2 with
  | 0, _, _, _ => rfl
  | 1, _, h, _ => absurd rfl h
  | 2, _, _, h => absurd rfl h
  | 3, _, _, _ => rfl
  | 4, _, _, _ => rfl
  | 5, _, _, _ => rfl
  | 6, _, _, _ => rfl
  | 7, _, _, _ => rfl
  | 8, _, _, _ => rfl
  | 9, _, _, _ => rfl
  | 10, _, _, _ => rfl
  | 11, _, _, _ => rfl
  | 12, _, _, _ => rfl
  | 13, _, _, _ => rfl
  | 14, _, _, _ => rfl
  | 15, _, _, _ => rfl
  | 16, _, _, _ => rfl
  | 17, _, _, _ => rfl
  | 18, _, _, _ => rfl
  | 19, _, _, _ => rfl
  | 20, _, _, _ => rfl
  | 21, _, _, _ => rfl
  | 22, _, _, _ => rfl
  | 23, _, _, _ => rfl
  | 24, _, _, _ => rfl
  | 25, _, _, _ => rfl
  | 26, _, _, _ => rfl
  | 27, _, _, _ => rfl
  | 28, _, _, _ => rfl
  | 29, _, _, _ => rfl
  | 30, _, _, _ => rfl
  | 31, _, _, _ => rfl
  | 32, _, _, _ => rfl
  | 33, _, _, _ => rfl
  | 34, _, _, _ => rfl
  | n + 35, h, _, _ => absurd h (by omega)
theorem pS_p0 (σ : Hp) (S : Nat) (M : StM) (xs : List Int32) : putLn (putSt σ S M) (S + 1) 24 xs = putSt σ S (setL M 0 xs) := hset2_St (M' := setL M 0 xs) 1 (by omega) (pS_e0 S M xs)
theorem pS_e1 (S : Nat) (M : StM) (xs : List Int32) (d : Nat) (h : d < 35) (h1 : d ≠ 3) (h2 : d ≠ 3+1) : stE S M d = stE S (setL M 1 xs) d := match d, h, h1, h2 with
  | 0, _, _, _ => rfl
  | 1, _, _, _ => rfl
  | 2, _, _, _ => rfl
  | 3, _, h, _ => absurd rfl h
  | 4, _, _, h => absurd rfl h
  | 5, _, _, _ => rfl
  | 6, _, _, _ => rfl
  | 7, _, _, _ => rfl
  | 8, _, _, _ => rfl
  | 9, _, _, _ => rfl
  | 10, _, _, _ => rfl
  | 11, _, _, _ => rfl
  | 12, _, _, _ => rfl
  | 13, _, _, _ => rfl
  | 14, _, _, _ => rfl
  | 15, _, _, _ => rfl
  | 16, _, _, _ => rfl
  | 17, _, _, _ => rfl
  | 18, _, _, _ => rfl
  | 19, _, _, _ => rfl
  | 20, _, _, _ => rfl
  | 21, _, _, _ => rfl
  | 22, _, _, _ => rfl
  | 23, _, _, _ => rfl
  | 24, _, _, _ => rfl
  | 25, _, _, _ => rfl
  | 26, _, _, _ => rfl
  | 27, _, _, _ => rfl
  | 28, _, _, _ => rfl
  | 29, _, _, _ => rfl
  | 30, _, _, _ => rfl
  | 31, _, _, _ => rfl
  | 32, _, _, _ => rfl
  | 33, _, _, _ => rfl
  | 34, _, _, _ => rfl
  | n + 35, h, _, _ => absurd h (by omega)
theorem pS_p1 (σ : Hp) (S : Nat) (M : StM) (xs : List Int32) : putLn (putSt σ S M) (S + 3) 24 xs = putSt σ S (setL M 1 xs) := hset2_St (M' := setL M 1 xs) 3 (by omega) (pS_e1 S M xs)
theorem pS_e2 (S : Nat) (M : StM) (xs : List Int32) (d : Nat) (h : d < 35) (h1 : d ≠ 5) (h2 : d ≠ 5+1) : stE S M d = stE S (setL M 2 xs) d := match d, h, h1, h2 with
  | 0, _, _, _ => rfl
  | 1, _, _, _ => rfl
  | 2, _, _, _ => rfl
  | 3, _, _, _ => rfl
  | 4, _, _, _ => rfl
  | 5, _, h, _ => absurd rfl h
  | 6, _, _, h => absurd rfl h
  | 7, _, _, _ => rfl
  | 8, _, _, _ => rfl
  | 9, _, _, _ => rfl
  | 10, _, _, _ => rfl
  | 11, _, _, _ => rfl
  | 12, _, _, _ => rfl
  | 13, _, _, _ => rfl
  | 14, _, _, _ => rfl
  | 15, _, _, _ => rfl
  | 16, _, _, _ => rfl
  | 17, _, _, _ => rfl
  | 18, _, _, _ => rfl
  | 19, _, _, _ => rfl
  | 20, _, _, _ => rfl
  | 21, _, _, _ => rfl
  | 22, _, _, _ => rfl
  | 23, _, _, _ => rfl
  | 24, _, _, _ => rfl
  | 25, _, _, _ => rfl
  | 26, _, _, _ => rfl
  | 27, _, _, _ => rfl
  | 28, _, _, _ => rfl
  | 29, _, _, _ => rfl
  | 30, _, _, _ => rfl
  | 31, _, _, _ => rfl
  | 32, _, _, _ => rfl
  | 33, _, _, _ => rfl
  | 34, _, _, _ => rfl
  | n + 35, h, _, _ => absurd h (by omega)
theorem pS_p2 (σ : Hp) (S : Nat) (M : StM) (xs : List Int32) : putLn (putSt σ S M) (S + 5) 24 xs = putSt σ S (setL M 2 xs) := hset2_St (M' := setL M 2 xs) 5 (by omega) (pS_e2 S M xs)
theorem pS_e3 (S : Nat) (M : StM) (xs : List Int32) (d : Nat) (h : d < 35) (h1 : d ≠ 7) (h2 : d ≠ 7+1) : stE S M d = stE S (setL M 3 xs) d := match d, h, h1, h2 with
  | 0, _, _, _ => rfl
  | 1, _, _, _ => rfl
  | 2, _, _, _ => rfl
  | 3, _, _, _ => rfl
  | 4, _, _, _ => rfl
  | 5, _, _, _ => rfl
  | 6, _, _, _ => rfl
  | 7, _, h, _ => absurd rfl h
  | 8, _, _, h => absurd rfl h
  | 9, _, _, _ => rfl
  | 10, _, _, _ => rfl
  | 11, _, _, _ => rfl
  | 12, _, _, _ => rfl
  | 13, _, _, _ => rfl
  | 14, _, _, _ => rfl
  | 15, _, _, _ => rfl
  | 16, _, _, _ => rfl
  | 17, _, _, _ => rfl
  | 18, _, _, _ => rfl
  | 19, _, _, _ => rfl
  | 20, _, _, _ => rfl
  | 21, _, _, _ => rfl
  | 22, _, _, _ => rfl
  | 23, _, _, _ => rfl
  | 24, _, _, _ => rfl
  | 25, _, _, _ => rfl
  | 26, _, _, _ => rfl
  | 27, _, _, _ => rfl
  | 28, _, _, _ => rfl
  | 29, _, _, _ => rfl
  | 30, _, _, _ => rfl
  | 31, _, _, _ => rfl
  | 32, _, _, _ => rfl
  | 33, _, _, _ => rfl
  | 34, _, _, _ => rfl
  | n + 35, h, _, _ => absurd h (by omega)
theorem pS_p3 (σ : Hp) (S : Nat) (M : StM) (xs : List Int32) : putLn (putSt σ S M) (S + 7) 24 xs = putSt σ S (setL M 3 xs) := hset2_St (M' := setL M 3 xs) 7 (by omega) (pS_e3 S M xs)
theorem pS_e4 (S : Nat) (M : StM) (xs : List Int32) (d : Nat) (h : d < 35) (h1 : d ≠ 9) (h2 : d ≠ 9+1) : stE S M d = stE S (setL M 4 xs) d := match d, h, h1, h2 with
  | 0, _, _, _ => rfl
  | 1, _, _, _ => rfl
  | 2, _, _, _ => rfl
  | 3, _, _, _ => rfl
  | 4, _, _, _ => rfl
  | 5, _, _, _ => rfl
  | 6, _, _, _ => rfl
  | 7, _, _, _ => rfl
  | 8, _, _, _ => rfl
  | 9, _, h, _ => absurd rfl h
  | 10, _, _, h => absurd rfl h
  | 11, _, _, _ => rfl
  | 12, _, _, _ => rfl
  | 13, _, _, _ => rfl
  | 14, _, _, _ => rfl
  | 15, _, _, _ => rfl
  | 16, _, _, _ => rfl
  | 17, _, _, _ => rfl
  | 18, _, _, _ => rfl
  | 19, _, _, _ => rfl
  | 20, _, _, _ => rfl
  | 21, _, _, _ => rfl
  | 22, _, _, _ => rfl
  | 23, _, _, _ => rfl
  | 24, _, _, _ => rfl
  | 25, _, _, _ => rfl
  | 26, _, _, _ => rfl
  | 27, _, _, _ => rfl
  | 28, _, _, _ => rfl
  | 29, _, _, _ => rfl
  | 30, _, _, _ => rfl
  | 31, _, _, _ => rfl
  | 32, _, _, _ => rfl
  | 33, _, _, _ => rfl
  | 34, _, _, _ => rfl
  | n + 35, h, _, _ => absurd h (by omega)
theorem pS_p4 (σ : Hp) (S : Nat) (M : StM) (xs : List Int32) : putLn (putSt σ S M) (S + 9) 24 xs = putSt σ S (setL M 4 xs) := hset2_St (M' := setL M 4 xs) 9 (by omega) (pS_e4 S M xs)
theorem pS_e5 (S : Nat) (M : StM) (xs : List Int32) (d : Nat) (h : d < 35) (h1 : d ≠ 11) (h2 : d ≠ 11+1) : stE S M d = stE S (setL M 5 xs) d := match d, h, h1, h2 with
  | 0, _, _, _ => rfl
  | 1, _, _, _ => rfl
  | 2, _, _, _ => rfl
  | 3, _, _, _ => rfl
  | 4, _, _, _ => rfl
  | 5, _, _, _ => rfl
  | 6, _, _, _ => rfl
  | 7, _, _, _ => rfl
  | 8, _, _, _ => rfl
  | 9, _, _, _ => rfl
  | 10, _, _, _ => rfl
  | 11, _, h, _ => absurd rfl h
  | 12, _, _, h => absurd rfl h
  | 13, _, _, _ => rfl
  | 14, _, _, _ => rfl
  | 15, _, _, _ => rfl
  | 16, _, _, _ => rfl
  | 17, _, _, _ => rfl
  | 18, _, _, _ => rfl
  | 19, _, _, _ => rfl
  | 20, _, _, _ => rfl
  | 21, _, _, _ => rfl
  | 22, _, _, _ => rfl
  | 23, _, _, _ => rfl
  | 24, _, _, _ => rfl
  | 25, _, _, _ => rfl
  | 26, _, _, _ => rfl
  | 27, _, _, _ => rfl
  | 28, _, _, _ => rfl
  | 29, _, _, _ => rfl
  | 30, _, _, _ => rfl
  | 31, _, _, _ => rfl
  | 32, _, _, _ => rfl
  | 33, _, _, _ => rfl
  | 34, _, _, _ => rfl
  | n + 35, h, _, _ => absurd h (by omega)
theorem pS_p5 (σ : Hp) (S : Nat) (M : StM) (xs : List Int32) : putLn (putSt σ S M) (S + 11) 8 xs = putSt σ S (setL M 5 xs) := hset2_St (M' := setL M 5 xs) 11 (by omega) (pS_e5 S M xs)
theorem pS_e6 (S : Nat) (M : StM) (xs : List Int32) (d : Nat) (h : d < 35) (h1 : d ≠ 13) (h2 : d ≠ 13+1) : stE S M d = stE S (setL M 6 xs) d := match d, h, h1, h2 with
  | 0, _, _, _ => rfl
  | 1, _, _, _ => rfl
  | 2, _, _, _ => rfl
  | 3, _, _, _ => rfl
  | 4, _, _, _ => rfl
  | 5, _, _, _ => rfl
  | 6, _, _, _ => rfl
  | 7, _, _, _ => rfl
  | 8, _, _, _ => rfl
  | 9, _, _, _ => rfl
  | 10, _, _, _ => rfl
  | 11, _, _, _ => rfl
  | 12, _, _, _ => rfl
  | 13, _, h, _ => absurd rfl h
  | 14, _, _, h => absurd rfl h
  | 15, _, _, _ => rfl
  | 16, _, _, _ => rfl
  | 17, _, _, _ => rfl
  | 18, _, _, _ => rfl
  | 19, _, _, _ => rfl
  | 20, _, _, _ => rfl
  | 21, _, _, _ => rfl
  | 22, _, _, _ => rfl
  | 23, _, _, _ => rfl
  | 24, _, _, _ => rfl
  | 25, _, _, _ => rfl
  | 26, _, _, _ => rfl
  | 27, _, _, _ => rfl
  | 28, _, _, _ => rfl
  | 29, _, _, _ => rfl
  | 30, _, _, _ => rfl
  | 31, _, _, _ => rfl
  | 32, _, _, _ => rfl
  | 33, _, _, _ => rfl
  | 34, _, _, _ => rfl
  | n + 35, h, _, _ => absurd h (by omega)
theorem pS_p6 (σ : Hp) (S : Nat) (M : StM) (xs : List Int32) : putLn (putSt σ S M) (S + 13) 8 xs = putSt σ S (setL M 6 xs) := hset2_St (M' := setL M 6 xs) 13 (by omega) (pS_e6 S M xs)
theorem pS_e7 (S : Nat) (M : StM) (xs : List Int32) (d : Nat) (h : d < 35) (h1 : d ≠ 16) (h2 : d ≠ 16+1) : stE S M d = stE S (setL M 7 xs) d := match d, h, h1, h2 with
  | 0, _, _, _ => rfl
  | 1, _, _, _ => rfl
  | 2, _, _, _ => rfl
  | 3, _, _, _ => rfl
  | 4, _, _, _ => rfl
  | 5, _, _, _ => rfl
  | 6, _, _, _ => rfl
  | 7, _, _, _ => rfl
  | 8, _, _, _ => rfl
  | 9, _, _, _ => rfl
  | 10, _, _, _ => rfl
  | 11, _, _, _ => rfl
  | 12, _, _, _ => rfl
  | 13, _, _, _ => rfl
  | 14, _, _, _ => rfl
  | 15, _, _, _ => rfl
  | 16, _, h, _ => absurd rfl h
  | 17, _, _, h => absurd rfl h
  | 18, _, _, _ => rfl
  | 19, _, _, _ => rfl
  | 20, _, _, _ => rfl
  | 21, _, _, _ => rfl
  | 22, _, _, _ => rfl
  | 23, _, _, _ => rfl
  | 24, _, _, _ => rfl
  | 25, _, _, _ => rfl
  | 26, _, _, _ => rfl
  | 27, _, _, _ => rfl
  | 28, _, _, _ => rfl
  | 29, _, _, _ => rfl
  | 30, _, _, _ => rfl
  | 31, _, _, _ => rfl
  | 32, _, _, _ => rfl
  | 33, _, _, _ => rfl
  | 34, _, _, _ => rfl
  | n + 35, h, _, _ => absurd h (by omega)
theorem pS_p7 (σ : Hp) (S : Nat) (M : StM) (xs : List Int32) : putLn (putSt σ S M) (S + 16) 24 xs = putSt σ S (setL M 7 xs) := hset2_St (M' := setL M 7 xs) 16 (by omega) (pS_e7 S M xs)
theorem pS_e8 (S : Nat) (M : StM) (xs : List Int32) (d : Nat) (h : d < 35) (h1 : d ≠ 18) (h2 : d ≠ 18+1) : stE S M d = stE S (setL M 8 xs) d := match d, h, h1, h2 with
  | 0, _, _, _ => rfl
  | 1, _, _, _ => rfl
  | 2, _, _, _ => rfl
  | 3, _, _, _ => rfl
  | 4, _, _, _ => rfl
  | 5, _, _, _ => rfl
  | 6, _, _, _ => rfl
  | 7, _, _, _ => rfl
  | 8, _, _, _ => rfl
  | 9, _, _, _ => rfl
  | 10, _, _, _ => rfl
  | 11, _, _, _ => rfl
  | 12, _, _, _ => rfl
  | 13, _, _, _ => rfl
  | 14, _, _, _ => rfl
  | 15, _, _, _ => rfl
  | 16, _, _, _ => rfl
  | 17, _, _, _ => rfl
  | 18, _, h, _ => absurd rfl h
  | 19, _, _, h => absurd rfl h
  | 20, _, _, _ => rfl
  | 21, _, _, _ => rfl
  | 22, _, _, _ => rfl
  | 23, _, _, _ => rfl
  | 24, _, _, _ => rfl
  | 25, _, _, _ => rfl
  | 26, _, _, _ => rfl
  | 27, _, _, _ => rfl
  | 28, _, _, _ => rfl
  | 29, _, _, _ => rfl
  | 30, _, _, _ => rfl
  | 31, _, _, _ => rfl
  | 32, _, _, _ => rfl
  | 33, _, _, _ => rfl
  | 34, _, _, _ => rfl
  | n + 35, h, _, _ => absurd h (by omega)
theorem pS_p8 (σ : Hp) (S : Nat) (M : StM) (xs : List Int32) : putLn (putSt σ S M) (S + 18) 24 xs = putSt σ S (setL M 8 xs) := hset2_St (M' := setL M 8 xs) 18 (by omega) (pS_e8 S M xs)
theorem pS_e9 (S : Nat) (M : StM) (xs : List Int32) (d : Nat) (h : d < 35) (h1 : d ≠ 20) (h2 : d ≠ 20+1) : stE S M d = stE S (setL M 9 xs) d := match d, h, h1, h2 with
  | 0, _, _, _ => rfl
  | 1, _, _, _ => rfl
  | 2, _, _, _ => rfl
  | 3, _, _, _ => rfl
  | 4, _, _, _ => rfl
  | 5, _, _, _ => rfl
  | 6, _, _, _ => rfl
  | 7, _, _, _ => rfl
  | 8, _, _, _ => rfl
  | 9, _, _, _ => rfl
  | 10, _, _, _ => rfl
  | 11, _, _, _ => rfl
  | 12, _, _, _ => rfl
  | 13, _, _, _ => rfl
  | 14, _, _, _ => rfl
  | 15, _, _, _ => rfl
  | 16, _, _, _ => rfl
  | 17, _, _, _ => rfl
  | 18, _, _, _ => rfl
  | 19, _, _, _ => rfl
  | 20, _, h, _ => absurd rfl h
  | 21, _, _, h => absurd rfl h
  | 22, _, _, _ => rfl
  | 23, _, _, _ => rfl
  | 24, _, _, _ => rfl
  | 25, _, _, _ => rfl
  | 26, _, _, _ => rfl
  | 27, _, _, _ => rfl
  | 28, _, _, _ => rfl
  | 29, _, _, _ => rfl
  | 30, _, _, _ => rfl
  | 31, _, _, _ => rfl
  | 32, _, _, _ => rfl
  | 33, _, _, _ => rfl
  | 34, _, _, _ => rfl
  | n + 35, h, _, _ => absurd h (by omega)
theorem pS_p9 (σ : Hp) (S : Nat) (M : StM) (xs : List Int32) : putLn (putSt σ S M) (S + 20) 24 xs = putSt σ S (setL M 9 xs) := hset2_St (M' := setL M 9 xs) 20 (by omega) (pS_e9 S M xs)
theorem pS_e10 (S : Nat) (M : StM) (xs : List Int32) (d : Nat) (h : d < 35) (h1 : d ≠ 22) (h2 : d ≠ 22+1) : stE S M d = stE S (setL M 10 xs) d := match d, h, h1, h2 with
  | 0, _, _, _ => rfl
  | 1, _, _, _ => rfl
  | 2, _, _, _ => rfl
  | 3, _, _, _ => rfl
  | 4, _, _, _ => rfl
  | 5, _, _, _ => rfl
  | 6, _, _, _ => rfl
  | 7, _, _, _ => rfl
  | 8, _, _, _ => rfl
  | 9, _, _, _ => rfl
  | 10, _, _, _ => rfl
  | 11, _, _, _ => rfl
  | 12, _, _, _ => rfl
  | 13, _, _, _ => rfl
  | 14, _, _, _ => rfl
  | 15, _, _, _ => rfl
  | 16, _, _, _ => rfl
  | 17, _, _, _ => rfl
  | 18, _, _, _ => rfl
  | 19, _, _, _ => rfl
  | 20, _, _, _ => rfl
  | 21, _, _, _ => rfl
  | 22, _, h, _ => absurd rfl h
  | 23, _, _, h => absurd rfl h
  | 24, _, _, _ => rfl
  | 25, _, _, _ => rfl
  | 26, _, _, _ => rfl
  | 27, _, _, _ => rfl
  | 28, _, _, _ => rfl
  | 29, _, _, _ => rfl
  | 30, _, _, _ => rfl
  | 31, _, _, _ => rfl
  | 32, _, _, _ => rfl
  | 33, _, _, _ => rfl
  | 34, _, _, _ => rfl
  | n + 35, h, _, _ => absurd h (by omega)
theorem pS_p10 (σ : Hp) (S : Nat) (M : StM) (xs : List Int32) : putLn (putSt σ S M) (S + 22) 24 xs = putSt σ S (setL M 10 xs) := hset2_St (M' := setL M 10 xs) 22 (by omega) (pS_e10 S M xs)
theorem pS_e11 (S : Nat) (M : StM) (xs : List Int32) (d : Nat) (h : d < 35) (h1 : d ≠ 25) (h2 : d ≠ 25+1) : stE S M d = stE S (setL M 11 xs) d := match d, h, h1, h2 with
  | 0, _, _, _ => rfl
  | 1, _, _, _ => rfl
  | 2, _, _, _ => rfl
  | 3, _, _, _ => rfl
  | 4, _, _, _ => rfl
  | 5, _, _, _ => rfl
  | 6, _, _, _ => rfl
  | 7, _, _, _ => rfl
  | 8, _, _, _ => rfl
  | 9, _, _, _ => rfl
  | 10, _, _, _ => rfl
  | 11, _, _, _ => rfl
  | 12, _, _, _ => rfl
  | 13, _, _, _ => rfl
  | 14, _, _, _ => rfl
  | 15, _, _, _ => rfl
  | 16, _, _, _ => rfl
  | 17, _, _, _ => rfl
  | 18, _, _, _ => rfl
  | 19, _, _, _ => rfl
  | 20, _, _, _ => rfl
  | 21, _, _, _ => rfl
  | 22, _, _, _ => rfl
  | 23, _, _, _ => rfl
  | 24, _, _, _ => rfl
  | 25, _, h, _ => absurd rfl h
  | 26, _, _, h => absurd rfl h
  | 27, _, _, _ => rfl
  | 28, _, _, _ => rfl
  | 29, _, _, _ => rfl
  | 30, _, _, _ => rfl
  | 31, _, _, _ => rfl
  | 32, _, _, _ => rfl
  | 33, _, _, _ => rfl
  | 34, _, _, _ => rfl
  | n + 35, h, _, _ => absurd h (by omega)
theorem pS_p11 (σ : Hp) (S : Nat) (M : StM) (xs : List Int32) : putLn (putSt σ S M) (S + 25) 16 xs = putSt σ S (setL M 11 xs) := hset2_St (M' := setL M 11 xs) 25 (by omega) (pS_e11 S M xs)
theorem pS_e12 (S : Nat) (M : StM) (xs : List Int32) (d : Nat) (h : d < 35) (h1 : d ≠ 27) (h2 : d ≠ 27+1) : stE S M d = stE S (setL M 12 xs) d := match d, h, h1, h2 with
  | 0, _, _, _ => rfl
  | 1, _, _, _ => rfl
  | 2, _, _, _ => rfl
  | 3, _, _, _ => rfl
  | 4, _, _, _ => rfl
  | 5, _, _, _ => rfl
  | 6, _, _, _ => rfl
  | 7, _, _, _ => rfl
  | 8, _, _, _ => rfl
  | 9, _, _, _ => rfl
  | 10, _, _, _ => rfl
  | 11, _, _, _ => rfl
  | 12, _, _, _ => rfl
  | 13, _, _, _ => rfl
  | 14, _, _, _ => rfl
  | 15, _, _, _ => rfl
  | 16, _, _, _ => rfl
  | 17, _, _, _ => rfl
  | 18, _, _, _ => rfl
  | 19, _, _, _ => rfl
  | 20, _, _, _ => rfl
  | 21, _, _, _ => rfl
  | 22, _, _, _ => rfl
  | 23, _, _, _ => rfl
  | 24, _, _, _ => rfl
  | 25, _, _, _ => rfl
  | 26, _, _, _ => rfl
  | 27, _, h, _ => absurd rfl h
  | 28, _, _, h => absurd rfl h
  | 29, _, _, _ => rfl
  | 30, _, _, _ => rfl
  | 31, _, _, _ => rfl
  | 32, _, _, _ => rfl
  | 33, _, _, _ => rfl
  | 34, _, _, _ => rfl
  | n + 35, h, _, _ => absurd h (by omega)
theorem pS_p12 (σ : Hp) (S : Nat) (M : StM) (xs : List Int32) : putLn (putSt σ S M) (S + 27) 16 xs = putSt σ S (setL M 12 xs) := hset2_St (M' := setL M 12 xs) 27 (by omega) (pS_e12 S M xs)
theorem pS_e13 (S : Nat) (M : StM) (xs : List Int32) (d : Nat) (h : d < 35) (h1 : d ≠ 29) (h2 : d ≠ 29+1) : stE S M d = stE S (setL M 13 xs) d := match d, h, h1, h2 with
  | 0, _, _, _ => rfl
  | 1, _, _, _ => rfl
  | 2, _, _, _ => rfl
  | 3, _, _, _ => rfl
  | 4, _, _, _ => rfl
  | 5, _, _, _ => rfl
  | 6, _, _, _ => rfl
  | 7, _, _, _ => rfl
  | 8, _, _, _ => rfl
  | 9, _, _, _ => rfl
  | 10, _, _, _ => rfl
  | 11, _, _, _ => rfl
  | 12, _, _, _ => rfl
  | 13, _, _, _ => rfl
  | 14, _, _, _ => rfl
  | 15, _, _, _ => rfl
  | 16, _, _, _ => rfl
  | 17, _, _, _ => rfl
  | 18, _, _, _ => rfl
  | 19, _, _, _ => rfl
  | 20, _, _, _ => rfl
  | 21, _, _, _ => rfl
  | 22, _, _, _ => rfl
  | 23, _, _, _ => rfl
  | 24, _, _, _ => rfl
  | 25, _, _, _ => rfl
  | 26, _, _, _ => rfl
  | 27, _, _, _ => rfl
  | 28, _, _, _ => rfl
  | 29, _, h, _ => absurd rfl h
  | 30, _, _, h => absurd rfl h
  | 31, _, _, _ => rfl
  | 32, _, _, _ => rfl
  | 33, _, _, _ => rfl
  | 34, _, _, _ => rfl
  | n + 35, h, _, _ => absurd h (by omega)
theorem pS_p13 (σ : Hp) (S : Nat) (M : StM) (xs : List Int32) : putLn (putSt σ S M) (S + 29) 16 xs = putSt σ S (setL M 13 xs) := hset2_St (M' := setL M 13 xs) 29 (by omega) (pS_e13 S M xs)
theorem pS_e14 (S : Nat) (M : StM) (xs : List Int32) (d : Nat) (h : d < 35) (h1 : d ≠ 31) (h2 : d ≠ 31+1) : stE S M d = stE S (setL M 14 xs) d := match d, h, h1, h2 with
  | 0, _, _, _ => rfl
  | 1, _, _, _ => rfl
  | 2, _, _, _ => rfl
  | 3, _, _, _ => rfl
  | 4, _, _, _ => rfl
  | 5, _, _, _ => rfl
  | 6, _, _, _ => rfl
  | 7, _, _, _ => rfl
  | 8, _, _, _ => rfl
  | 9, _, _, _ => rfl
  | 10, _, _, _ => rfl
  | 11, _, _, _ => rfl
  | 12, _, _, _ => rfl
  | 13, _, _, _ => rfl
  | 14, _, _, _ => rfl
  | 15, _, _, _ => rfl
  | 16, _, _, _ => rfl
  | 17, _, _, _ => rfl
  | 18, _, _, _ => rfl
  | 19, _, _, _ => rfl
  | 20, _, _, _ => rfl
  | 21, _, _, _ => rfl
  | 22, _, _, _ => rfl
  | 23, _, _, _ => rfl
  | 24, _, _, _ => rfl
  | 25, _, _, _ => rfl
  | 26, _, _, _ => rfl
  | 27, _, _, _ => rfl
  | 28, _, _, _ => rfl
  | 29, _, _, _ => rfl
  | 30, _, _, _ => rfl
  | 31, _, h, _ => absurd rfl h
  | 32, _, _, h => absurd rfl h
  | 33, _, _, _ => rfl
  | 34, _, _, _ => rfl
  | n + 35, h, _, _ => absurd h (by omega)
theorem pS_p14 (σ : Hp) (S : Nat) (M : StM) (xs : List Int32) : putLn (putSt σ S M) (S + 31) 16 xs = putSt σ S (setL M 14 xs) := hset2_St (M' := setL M 14 xs) 31 (by omega) (pS_e14 S M xs)
theorem pS_e15 (S : Nat) (M : StM) (xs : List Int32) (d : Nat) (h : d < 35) (h1 : d ≠ 33) (h2 : d ≠ 33+1) : stE S M d = stE S (setL M 15 xs) d := match d, h, h1, h2 with
  | 0, _, _, _ => rfl
  | 1, _, _, _ => rfl
  | 2, _, _, _ => rfl
  | 3, _, _, _ => rfl
  | 4, _, _, _ => rfl
  | 5, _, _, _ => rfl
  | 6, _, _, _ => rfl
  | 7, _, _, _ => rfl
  | 8, _, _, _ => rfl
  | 9, _, _, _ => rfl
  | 10, _, _, _ => rfl
  | 11, _, _, _ => rfl
  | 12, _, _, _ => rfl
  | 13, _, _, _ => rfl
  | 14, _, _, _ => rfl
  | 15, _, _, _ => rfl
  | 16, _, _, _ => rfl
  | 17, _, _, _ => rfl
  | 18, _, _, _ => rfl
  | 19, _, _, _ => rfl
  | 20, _, _, _ => rfl
  | 21, _, _, _ => rfl
  | 22, _, _, _ => rfl
  | 23, _, _, _ => rfl
  | 24, _, _, _ => rfl
  | 25, _, _, _ => rfl
  | 26, _, _, _ => rfl
  | 27, _, _, _ => rfl
  | 28, _, _, _ => rfl
  | 29, _, _, _ => rfl
  | 30, _, _, _ => rfl
  | 31, _, _, _ => rfl
  | 32, _, _, _ => rfl
  | 33, _, h, _ => absurd rfl h
  | 34, _, _, h => absurd rfl h
  | n + 35, h, _, _ => absurd h (by omega)
theorem pS_p15 (σ : Hp) (S : Nat) (M : StM) (xs : List Int32) : putLn (putSt σ S M) (S + 33) 11 xs = putSt σ S (setL M 15 xs) := hset2_St (M' := setL M 15 xs) 33 (by omega) (pS_e15 S M xs)
theorem pS_f0 (S : Nat) (M : StM) (v : Int32) (d : Nat) (h : d < 35) (h1 : d ≠ 0) : stE S M d = stE S (setI M 0 v) d := match d, h, h1 with
  | 0, _, h => absurd rfl h
  | 1, _, _ => rfl
  | 2, _, _ => rfl
  | 3, _, _ => rfl
  | 4, _, _ => rfl
  | 5, _, _ => rfl
  | 6, _, _ => rfl
  | 7, _, _ => rfl
  | 8, _, _ => rfl
  | 9, _, _ => rfl
  | 10, _, _ => rfl
  | 11, _, _ => rfl
  | 12, _, _ => rfl
  | 13, _, _ => rfl
  | 14, _, _ => rfl
  | 15, _, _ => rfl
  | 16, _, _ => rfl
  | 17, _, _ => rfl
  | 18, _, _ => rfl
  | 19, _, _ => rfl
  | 20, _, _ => rfl
  | 21, _, _ => rfl
  | 22, _, _ => rfl
  | 23, _, _ => rfl
  | 24, _, _ => rfl
  | 25, _, _ => rfl
  | 26, _, _ => rfl
  | 27, _, _ => rfl
  | 28, _, _ => rfl
  | 29, _, _ => rfl
  | 30, _, _ => rfl
  | 31, _, _ => rfl
  | 32, _, _ => rfl
  | 33, _, _ => rfl
  | 34, _, _ => rfl
  | n + 35, h, _ => absurd h (by omega)
theorem pS_i0 (σ : Hp) (S : Nat) (M : StM) (v : Int32) : hset (putSt σ S M) S (stE S (setI M 0 v) 0) = putSt σ S (setI M 0 v) := hset_St (M' := setI M 0 v) 0 (by omega) (pS_f0 S M v)
theorem pS_f1 (S : Nat) (M : StM) (v : Int32) (d : Nat) (h : d < 35) (h1 : d ≠ 0) : stE S M d = stE S (setI M 1 v) d := match d, h, h1 with
  | 0, _, h => absurd rfl h
  | 1, _, _ => rfl
  | 2, _, _ => rfl
  | 3, _, _ => rfl
  | 4, _, _ => rfl
  | 5, _, _ => rfl
  | 6, _, _ => rfl
  | 7, _, _ => rfl
  | 8, _, _ => rfl
  | 9, _, _ => rfl
  | 10, _, _ => rfl
  | 11, _, _ => rfl
  | 12, _, _ => rfl
  | 13, _, _ => rfl
  | 14, _, _ => rfl
  | 15, _, _ => rfl
  | 16, _, _ => rfl
  | 17, _, _ => rfl
  | 18, _, _ => rfl
  | 19, _, _ => rfl
  | 20, _, _ => rfl
  | 21, _, _ => rfl
  | 22, _, _ => rfl
  | 23, _, _ => rfl
  | 24, _, _ => rfl
  | 25, _, _ => rfl
  | 26, _, _ => rfl
  | 27, _, _ => rfl
  | 28, _, _ => rfl
  | 29, _, _ => rfl
  | 30, _, _ => rfl
  | 31, _, _ => rfl
  | 32, _, _ => rfl
  | 33, _, _ => rfl
  | 34, _, _ => rfl
  | n + 35, h, _ => absurd h (by omega)
theorem pS_i1 (σ : Hp) (S : Nat) (M : StM) (v : Int32) : hset (putSt σ S M) S (stE S (setI M 1 v) 0) = putSt σ S (setI M 1 v) := hset_St (M' := setI M 1 v) 0 (by omega) (pS_f1 S M v)
theorem pS_f2 (S : Nat) (M : StM) (v : Int32) (d : Nat) (h : d < 35) (h1 : d ≠ 0) : stE S M d = stE S (setI M 2 v) d := match d, h, h1 with
  | 0, _, h => absurd rfl h
  | 1, _, _ => rfl
  | 2, _, _ => rfl
  | 3, _, _ => rfl
  | 4, _, _ => rfl
  | 5, _, _ => rfl
  | 6, _, _ => rfl
  | 7, _, _ => rfl
  | 8, _, _ => rfl
  | 9, _, _ => rfl
  | 10, _, _ => rfl
  | 11, _, _ => rfl
  | 12, _, _ => rfl
  | 13, _, _ => rfl
  | 14, _, _ => rfl
  | 15, _, _ => rfl
  | 16, _, _ => rfl
  | 17, _, _ => rfl
  | 18, _, _ => rfl
  | 19, _, _ => rfl
  | 20, _, _ => rfl
  | 21, _, _ => rfl
  | 22, _, _ => rfl
  | 23, _, _ => rfl
  | 24, _, _ => rfl
  | 25, _, _ => rfl
  | 26, _, _ => rfl
  | 27, _, _ => rfl
  | 28, _, _ => rfl
  | 29, _, _ => rfl
  | 30, _, _ => rfl
  | 31, _, _ => rfl
  | 32, _, _ => rfl
  | 33, _, _ => rfl
  | 34, _, _ => rfl
  | n + 35, h, _ => absurd h (by omega)
theorem pS_i2 (σ : Hp) (S : Nat) (M : StM) (v : Int32) : hset (putSt σ S M) S (stE S (setI M 2 v) 0) = putSt σ S (setI M 2 v) := hset_St (M' := setI M 2 v) 0 (by omega) (pS_f2 S M v)
theorem pS_f3 (S : Nat) (M : StM) (v : Int32) (d : Nat) (h : d < 35) (h1 : d ≠ 0) : stE S M d = stE S (setI M 3 v) d := match d, h, h1 with
  | 0, _, h => absurd rfl h
  | 1, _, _ => rfl
  | 2, _, _ => rfl
  | 3, _, _ => rfl
  | 4, _, _ => rfl
  | 5, _, _ => rfl
  | 6, _, _ => rfl
  | 7, _, _ => rfl
  | 8, _, _ => rfl
  | 9, _, _ => rfl
  | 10, _, _ => rfl
  | 11, _, _ => rfl
  | 12, _, _ => rfl
  | 13, _, _ => rfl
  | 14, _, _ => rfl
  | 15, _, _ => rfl
  | 16, _, _ => rfl
  | 17, _, _ => rfl
  | 18, _, _ => rfl
  | 19, _, _ => rfl
  | 20, _, _ => rfl
  | 21, _, _ => rfl
  | 22, _, _ => rfl
  | 23, _, _ => rfl
  | 24, _, _ => rfl
  | 25, _, _ => rfl
  | 26, _, _ => rfl
  | 27, _, _ => rfl
  | 28, _, _ => rfl
  | 29, _, _ => rfl
  | 30, _, _ => rfl
  | 31, _, _ => rfl
  | 32, _, _ => rfl
  | 33, _, _ => rfl
  | 34, _, _ => rfl
  | n + 35, h, _ => absurd h (by omega)
theorem pS_i3 (σ : Hp) (S : Nat) (M : StM) (v : Int32) : hset (putSt σ S M) S (stE S (setI M 3 v) 0) = putSt σ S (setI M 3 v) := hset_St (M' := setI M 3 v) 0 (by omega) (pS_f3 S M v)
def isSt (σ : Hp) (S : Nat) (M : StM) : Prop := ∀ k, k < 35 → σ.2 (S + k) = some (stE S M k)
theorem putSt_is (σ : Hp) (S : Nat) (M : StM) : isSt (putSt σ S M) S M := fun k hk => pS σ S M k hk
theorem pO {σ : Hp} {S S2 : Nat} {M M2 : StM} (h : isSt σ S2 M2) (hd : S2 + 35 ≤ S ∨ S + 35 ≤ S2) (k : Nat) (hk : k < 35) : (putSt σ S M).2 (S2 + k) = some (stE S2 M2 k) := (pS_n _ _ _ (by omega)).trans (h k hk)
theorem putSt_id {σ : Hp} {S : Nat} {M : StM} (h : isSt σ S M) : putSt σ S M = σ := by
  refine Prod.ext rfl (funext fun a => ?_)
  show (if S ≤ a ∧ a < S + 35 then some (stE S M (a - S)) else σ.2 a) = _
  by_cases h2 : S ≤ a ∧ a < S + 35
  · rw [if_pos h2, ← h (a - S) (by omega), show S + (a - S) = a by omega]
  · rw [if_neg h2]
theorem pO_l0 {σ : Hp} {S S2 : Nat} {M M2 : StM} (h : isSt σ S2 M2) (hd : S2 + 35 ≤ S ∨ S + 35 ≤ S2) : isLn (putSt σ S M) (S2 + 1) 24 (M2.2 0) := ⟨pO h hd 1 (by omega), pO h hd 2 (by omega)⟩
theorem pO_l1 {σ : Hp} {S S2 : Nat} {M M2 : StM} (h : isSt σ S2 M2) (hd : S2 + 35 ≤ S ∨ S + 35 ≤ S2) : isLn (putSt σ S M) (S2 + 3) 24 (M2.2 1) := ⟨pO h hd 3 (by omega), pO h hd 4 (by omega)⟩
theorem pO_l2 {σ : Hp} {S S2 : Nat} {M M2 : StM} (h : isSt σ S2 M2) (hd : S2 + 35 ≤ S ∨ S + 35 ≤ S2) : isLn (putSt σ S M) (S2 + 5) 24 (M2.2 2) := ⟨pO h hd 5 (by omega), pO h hd 6 (by omega)⟩
theorem pO_l3 {σ : Hp} {S S2 : Nat} {M M2 : StM} (h : isSt σ S2 M2) (hd : S2 + 35 ≤ S ∨ S + 35 ≤ S2) : isLn (putSt σ S M) (S2 + 7) 24 (M2.2 3) := ⟨pO h hd 7 (by omega), pO h hd 8 (by omega)⟩
theorem pO_l4 {σ : Hp} {S S2 : Nat} {M M2 : StM} (h : isSt σ S2 M2) (hd : S2 + 35 ≤ S ∨ S + 35 ≤ S2) : isLn (putSt σ S M) (S2 + 9) 24 (M2.2 4) := ⟨pO h hd 9 (by omega), pO h hd 10 (by omega)⟩
theorem pO_l5 {σ : Hp} {S S2 : Nat} {M M2 : StM} (h : isSt σ S2 M2) (hd : S2 + 35 ≤ S ∨ S + 35 ≤ S2) : isLn (putSt σ S M) (S2 + 11) 8 (M2.2 5) := ⟨pO h hd 11 (by omega), pO h hd 12 (by omega)⟩
theorem pO_l6 {σ : Hp} {S S2 : Nat} {M M2 : StM} (h : isSt σ S2 M2) (hd : S2 + 35 ≤ S ∨ S + 35 ≤ S2) : isLn (putSt σ S M) (S2 + 13) 8 (M2.2 6) := ⟨pO h hd 13 (by omega), pO h hd 14 (by omega)⟩
theorem pO_l7 {σ : Hp} {S S2 : Nat} {M M2 : StM} (h : isSt σ S2 M2) (hd : S2 + 35 ≤ S ∨ S + 35 ≤ S2) : isLn (putSt σ S M) (S2 + 16) 24 (M2.2 7) := ⟨pO h hd 16 (by omega), pO h hd 17 (by omega)⟩
theorem pO_l8 {σ : Hp} {S S2 : Nat} {M M2 : StM} (h : isSt σ S2 M2) (hd : S2 + 35 ≤ S ∨ S + 35 ≤ S2) : isLn (putSt σ S M) (S2 + 18) 24 (M2.2 8) := ⟨pO h hd 18 (by omega), pO h hd 19 (by omega)⟩
theorem pO_l9 {σ : Hp} {S S2 : Nat} {M M2 : StM} (h : isSt σ S2 M2) (hd : S2 + 35 ≤ S ∨ S + 35 ≤ S2) : isLn (putSt σ S M) (S2 + 20) 24 (M2.2 9) := ⟨pO h hd 20 (by omega), pO h hd 21 (by omega)⟩
theorem pO_l10 {σ : Hp} {S S2 : Nat} {M M2 : StM} (h : isSt σ S2 M2) (hd : S2 + 35 ≤ S ∨ S + 35 ≤ S2) : isLn (putSt σ S M) (S2 + 22) 24 (M2.2 10) := ⟨pO h hd 22 (by omega), pO h hd 23 (by omega)⟩
theorem pO_l11 {σ : Hp} {S S2 : Nat} {M M2 : StM} (h : isSt σ S2 M2) (hd : S2 + 35 ≤ S ∨ S + 35 ≤ S2) : isLn (putSt σ S M) (S2 + 25) 16 (M2.2 11) := ⟨pO h hd 25 (by omega), pO h hd 26 (by omega)⟩
theorem pO_l12 {σ : Hp} {S S2 : Nat} {M M2 : StM} (h : isSt σ S2 M2) (hd : S2 + 35 ≤ S ∨ S + 35 ≤ S2) : isLn (putSt σ S M) (S2 + 27) 16 (M2.2 12) := ⟨pO h hd 27 (by omega), pO h hd 28 (by omega)⟩
theorem pO_l13 {σ : Hp} {S S2 : Nat} {M M2 : StM} (h : isSt σ S2 M2) (hd : S2 + 35 ≤ S ∨ S + 35 ≤ S2) : isLn (putSt σ S M) (S2 + 29) 16 (M2.2 13) := ⟨pO h hd 29 (by omega), pO h hd 30 (by omega)⟩
theorem pO_l14 {σ : Hp} {S S2 : Nat} {M M2 : StM} (h : isSt σ S2 M2) (hd : S2 + 35 ≤ S ∨ S + 35 ≤ S2) : isLn (putSt σ S M) (S2 + 31) 16 (M2.2 14) := ⟨pO h hd 31 (by omega), pO h hd 32 (by omega)⟩
theorem pO_l15 {σ : Hp} {S S2 : Nat} {M M2 : StM} (h : isSt σ S2 M2) (hd : S2 + 35 ≤ S ∨ S + 35 ≤ S2) : isLn (putSt σ S M) (S2 + 33) 11 (M2.2 15) := ⟨pO h hd 33 (by omega), pO h hd 34 (by omega)⟩
