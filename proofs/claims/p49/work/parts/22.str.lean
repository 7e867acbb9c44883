/-! the String constants that are read: words and where each is named -/
def sx (i : Nat) : List Int32 := match i with
  | 0 => [97, 114, 99, 104, 105, 118, 101]
  | 1 => [102, 111, 108, 100, 101, 114]
  | 2 => [117, 110, 116, 105, 108]
  | 3 => [97, 114, 99, 104, 105, 118, 101, 32]
  | 4 => [102, 111, 108, 100, 101, 114, 32]
  | 5 => [32, 117, 110, 116, 105, 108, 32, 51, 59]
  | 6 => [59]
  | _ => []
def ldcl : List (String × Nat × String × Nat) := [(RL, 156, "archive ", 3), (RL, 168, "folder ", 4), (RL, 173, " until 3;", 5), (RL, 175, ";", 6), (RX4, 42, "folder", 1), (RX4, 69, "archive", 0), (RX4, 97, "until", 2)]
def StrOK (g : Gl) (a : Nat) (cs : List Int32) : Prop := KJ g ∧ StrAt g a cs ∧ (∀ c ∈ cs, c &&& 255 = c) ∧ cs.length < 1000
def KS (g : Gl) (ad : Nat → Nat) : Prop := KJ g ∧ (∀ i, i < 7 → StrAt g (ad i) (sx i)) ∧ ∀ q ∈ ldcl, ∀ U, g.2.2.2 U → vk_R q.1 q.2.1 q.2.2.1 (ad q.2.2.2) U
theorem sx_ok (i : Nat) (hi : i < 7) : (∀ c ∈ sx i, c &&& 255 = c) ∧ (sx i).length < 1000 := by
  rcases (show i = 0 ∨ i = 1 ∨ i = 2 ∨ i = 3 ∨ i = 4 ∨ i = 5 ∨ i = 6 by omega) with rfl | rfl | rfl | rfl | rfl | rfl | rfl <;> exact ⟨by decide, by decide⟩
theorem KS.ok {g : Gl} {ad : Nat → Nat} (h : KS g ad) (i : Nat) (hi : i < 7) : StrOK g (ad i) (sx i) := ⟨h.1, h.2.1 i hi, (sx_ok i hi).1, (sx_ok i hi).2⟩
theorem c_strlen (l : Launch) (g : Gl) (σ : Hp) {a : Nat} {cs : List Int32} (h : StrOK g a cs) : MG l g md_J0_length [.ref a] σ (rs (some (.int (nI cs.length))) σ) := c_J0_length l g h.1 σ h.2.1 h.2.2.2
theorem c_strat (l : Launch) (g : Gl) (σ : Hp) {a : Nat} {cs : List Int32} (h : StrOK g a cs) (i : Int32) (hi : inB i cs.length) : MG l g md_J0_charAt [.ref a, .int i] σ (rs (some (.int (cs.getD i.toNatClampNeg 0))) σ) := by
  obtain ⟨j, hj, rfl⟩ := vp_in_of hi (by have := h.2.2.2; omega)
  have hl := h.2.2.2
  rw [nI_clamp (by omega)]
  exact c_J0_charAt l g h.1 σ h.2.1 h.2.2.1 h.2.2.2 j hj
theorem StrOK.obj {g : Gl} {a : Nat} {cs : List Int32} (h : StrOK g a cs) : ∀ U, g.2.2.2 U → va_O "java/lang/String" a (A0 g) U g.1 := fun U hU => (h.2.1.choose_spec U hU).1
section GQ
variable {X : Cx} {l : Launch} {g : Gl} {own : String} {cc : ByteArray} {nL : Nat} {R : Room} {σ : Hp} {k n : Nat} {ls : List (Nat × Value)} {st : List Value}
theorem g_aldq (hx : Ok X l g own cc nL R) (pc : Nat) {b N : Nat} {f : Nat → Option Nat} {i : Int32} (t : Nat) {C : String} {cA : ClassId} (hk : σ.2 b = some (eR t N f)) (ht : (tysG g)[t]? = some (cA, .object C)) (hcA : cA = g.2.2.1 t) (hin : vp_in i N) (hd : decode cc pc = .ok (.aaload, 1)) (h : G X σ k n (pc + 1) ls (va_rf (f i.toNatClampNeg) :: st)) : G X σ k n pc ls (.int i :: .ref b :: st) := by
  obtain ⟨p, l', e, R', s, m, args, below, meth, c, Q, g'⟩ := X
  obtain ⟨h1, h2, h3, h4, h5, h6, h7, h8, rfl, rfl, rfl⟩ := hx
  intro H locs la hP hS hL
  subst hcA
  exact va_aldq h1 h2 h6 (hP.one hk) 0 t rfl ht hin hd (h H locs la hP hS hL)
theorem g_alenq (hx : Ok X l g own cc nL R) (pc : Nat) {b N : Nat} {f : Nat → Option Nat} (t : Nat) {ty : FieldType} {cA : ClassId} (hk : σ.2 b = some (eR t N f)) (ht : (tysG g)[t]? = some (cA, ty)) (hcA : cA = g.2.2.1 t) (hd : decode cc pc = .ok (.arraylength, 1)) (h : G X σ k n (pc + 1) ls (.int (nI N) :: st)) : G X σ k n pc ls (.ref b :: st) := by
  obtain ⟨p, l', e, R', s, m, args, below, meth, c, Q, g'⟩ := X
  obtain ⟨h1, h2, h3, h4, h5, h6, h7, h8, rfl, rfl, rfl⟩ := hx
  intro H locs la hP hS hL
  subst hcA
  exact va_alen h1 h2 h6 (hP.one hk) 0 t rfl ht rfl hd (h H locs la hP hS hL)
theorem g_ldcwS (hx : Ok X l g own cc nL R) (pc : Nat) {tx : String} {idx q : Nat} (hZ : ∀ U, g.2.2.2 U → vk_R own idx tx q U) (hd : decode cc pc = .ok (.ldc_w idx, 3)) (h : G X σ k n (pc + 3) ls (.ref q :: st)) : G X σ k n pc ls st := by
  obtain ⟨p, l', e, R', s, m, args, below, meth, c, Q, g'⟩ := X
  obtain ⟨h1, h2, h3, h4, h5, h6, h7, h8, rfl, rfl, rfl⟩ := hx
  intro H locs la hP hS hL
  intro T hT Y
  obtain ⟨t, a1, b1⟩ := h H locs la hP hS hL T hT Y
  have hz := hZ s h8.1
  exact ⟨t, Y.ldcStringW h1 h4 (text := tx) (a := q) hz.1 hz.2 (g := F0 m pc la st) rfl (by rw [h2]; exact hd) t a1, b1⟩
end GQ
theorem lt'_e' {α β : Type} {a : α} {f : α → β} {r : β} (h : lt' a f = r) : ∃ x, a = x ∧ f x = r := ⟨a, rfl, h⟩
section GLW
variable {X : Cx} {l : Launch} {g : Gl} {own : String} {cc : ByteArray} {nL : Nat} {R : Room} {σ : Hp} {k n : Nat} {ls : List (Nat × Value)} {st : List Value}
theorem g_ldcw (hx : Ok X l g own cc nL R) (pc : Nat) {i : Nat} {v : Int32} (hc : (Cond.constant own i v) ∈ aw) (hd : decode cc pc = .ok (.ldc_w i, 3)) (h : G X σ k n (pc + 3) ls (.int v :: st)) : G X σ k n pc ls st := by
  obtain ⟨p, l', e, R', s, m, args, below, meth, c, Q, g'⟩ := X
  obtain ⟨h1, h2, h3, h4, h5, h6, h7, h8, rfl, rfl, rfl⟩ := hx
  intro H locs la hP hS hL
  exact lv_ldcw h1 h2 h4 (h5 _ hc) hd (h H locs la hP hS hL)
end GLW
