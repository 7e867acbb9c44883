/-! the law's loop: what its cases need -/
section GD
variable {X : Cx} {l : Launch} {g : Gl} {own : String} {cc : ByteArray} {nL : Nat} {R : Room} {σ : Hp} {k n : Nat} {ls : List (Nat × Value)} {st : List Value}
theorem g_widen {pc k' n' : Nat} (h1 : k ≤ k') (h2 : n ≤ n') (h : G X σ k' n' pc ls st) : G X σ k n pc ls st := by
  obtain ⟨p, l', e, R', s, m, args, below, meth, c, Q, g'⟩ := X
  intro H locs la hP hS hL
  exact W.widen h1 h2 (h H locs la hP hS hL)
theorem g_f2d (hx : Ok X l g own cc nL R) (pc : Nat) {x : UInt32} (hn : isNaN64 (FP.f2d x) = false) (hd : decode cc pc = .ok (.f2d, 1)) (h : G X σ k n (pc + 1) ls (.double (FP.f2d x) :: st)) : G X σ k n pc ls (.float x :: st) := by
  obtain ⟨p, l', e, R', s, m, args, below, meth, c, Q, g'⟩ := X
  obtain ⟨h1, h2, h3, h4, h5, h6, h7, h8, rfl, rfl, rfl⟩ := hx
  intro H locs la hP hS hL
  exact lv_f2d h1 h2 hd (by unfold vf_n64; unfold isNaN64 at hn; exact UInt64.not_lt.mp (of_decide_eq_false hn)) (h H locs la hP hS hL)
theorem g_dload (hx : Ok X l g own cc nL R) (pc : Nat) {i : Nat} {v : UInt64} (j : Nat) (hd : decode cc pc = .ok (.dload i, 2)) (hl : ls[j]? = some (i, .double v)) (h : G X σ k n (pc + 2) ls (.double v :: st)) : G X σ k n pc ls (st) := by
  obtain ⟨p, l', e, R', s, m, args, below, meth, c, Q, g'⟩ := X
  obtain ⟨h1, h2, h3, h4, h5, h6, h7, h8, rfl, rfl, rfl⟩ := hx
  intro H locs la hP hS hL
  exact lv_dload h1 h2 hd (lv_at hL j hl) (h H locs la hP hS hL)
theorem g_dstore (hx : Ok X l g own cc nL R) (pc : Nat) {i : Nat} {v : UInt64} (ls' : List (Nat × Value)) (hd : decode cc pc = .ok (.dstore i, 2)) (hn : i + 1 < nL) (hl : (i, Value.double v) :: ls.filter (fun q => !(q.1 == i) && (!(q.1 == i + 1) && !(q.1 + 1 == i && q.2.category == 2))) = ls') (h : G X σ k n (pc + 2) ls' st) : G X σ k n pc ls (Value.double v :: st) := by
  obtain ⟨p, l', e, R', s, m, args, below, meth, c, Q, g'⟩ := X
  obtain ⟨h1, h2, h3, h4, h5, h6, h7, h8, rfl, rfl, rfl⟩ := hx
  intro H locs la hP hS hL
  exact lv_dstore h1 h2 hd hL (by rw [h3]; exact hn) hl (fun la1 hL1 => h H locs la1 hP hS hL1)
end GD
/-- the law's heap -/
def LW (σ : Hp) (B T : Nat) (ad ae : Nat → Nat) (W : WM) (M : MdM) : Hp := putW (putMd σ T (owF ad) 0 M) B ae W
def Lay (B T o : Nat) : Prop := (o < B ∨ B + 437 ≤ o) ∧ (o < T ∨ T + 14 ≤ o) ∧ (T + 14 ≤ B ∨ B + 437 ≤ T)
theorem LW.md {σ : Hp} {B T o : Nat} {ad ae : Nat → Nat} {W : WM} {M : MdM} (h : Lay B T o) : LW σ B T ad ae W M = putMd (putW σ B ae W) T (owF ad) 0 M := by
  refine Prod.ext rfl (funext fun a => ?_)
  show (if B ≤ a ∧ a < B + 437 then _ else (if T ≤ a ∧ a < T + 14 then _ else σ.2 a)) = (if T ≤ a ∧ a < T + 14 then _ else (if B ≤ a ∧ a < B + 437 then _ else σ.2 a))
  have := h.2.2
  by_cases h1 : B ≤ a ∧ a < B + 437
  · rw [if_pos h1, if_neg (show ¬ (T ≤ a ∧ a < T + 14) by omega), if_pos h1]
  · rw [if_neg h1, if_neg h1]
theorem LW.out {σ : Hp} {B T o : Nat} {ow : Nat → Option Nat} {M : MdM} (h : Lay B T o) {e : Ent} (ho : σ.2 o = some e) : (putMd σ T ow 0 M).2 o = some e := (if_neg (by have := h.2.1; omega)).trans ho
/-- the row written, below both blocks -/
theorem LW.set {σ : Hp} {B T o : Nat} {ad ae : Nat → Nat} {W : WM} {M : MdM} (h : Lay B T o) (e : Ent) : hset (putW (putMd σ T (owF ad) 0 M) B ae W) o e = LW (hset σ o e) B T ad ae W M := by
  refine Prod.ext rfl (funext fun a => ?_)
  show (if a = o then some e else (if B ≤ a ∧ a < B + 437 then _ else (if T ≤ a ∧ a < T + 14 then _ else σ.2 a))) = (if B ≤ a ∧ a < B + 437 then _ else (if T ≤ a ∧ a < T + 14 then _ else (if a = o then some e else σ.2 a)))
  obtain ⟨g1, g2, -⟩ := h
  by_cases h0 : a = o
  · rw [if_pos h0, if_neg (by omega), if_neg (by omega), if_pos h0]
  · rw [if_neg h0, if_neg h0]
/-- what goes on behind a case -/
def LN (X : Cx) (B T o : Nat) (ad ae : Nat → Nat) (k n : Nat) (ls : List (Nat × Value)) : Prop := ∀ (σ : Hp) (W : WM) (M : MdM) (f : Nat → Int64), WRel W M → σ.2 o = some (eJ 1 f) → G X (LW σ B T ad ae W M) (k + 1) (n + 6) 2042 ls []
/-- which exception a method throws -/
def Kin {α : Type} (k0 : Nat → Prop) (x : Option (Nat ⊕ α)) : Prop := ∀ k, x = some (.inl k) → k0 k
theorem Kin.l {α : Type} {k0 : Nat → Prop} {k : Nat} (h : k0 k) : Kin k0 (some (.inl k : Nat ⊕ α)) := fun q e => by cases e; exact h
theorem Kin.r {α : Type} {k0 : Nat → Prop} (u : α) : Kin k0 (some (.inr u)) := fun q e => by cases e
theorem Kin.n {α : Type} {k0 : Nat → Prop} : Kin k0 (none : Option (Nat ⊕ α)) := fun q e => by cases e
theorem Kin.ite {α : Type} {k0 : Nat → Prop} {c : Prop} [Decidable c] {a b : Option (Nat ⊕ α)} (ha : Kin k0 a) (hb : Kin k0 b) : Kin k0 (if c then a else b) := by
  by_cases h : c
  · rw [if_pos h]; exact ha
  · rw [if_neg h]; exact hb
theorem Kin.bind {α β : Type} {k0 : Nat → Prop} {x : Option β} {f : β → Option (Nat ⊕ α)} (h : ∀ b, Kin k0 (f b)) : Kin k0 (Option.bind x f) := by
  cases x with
  | none => exact Kin.n
  | some b => exact h b
theorem Kin.lt {α β : Type} {k0 : Nat → Prop} {x : β} {f : β → Option (Nat ⊕ α)} (h : ∀ b, Kin k0 (f b)) : Kin k0 (lt' x f) := h x
theorem vpi {i j L : Nat} (hi : i + 6 ≤ L) (hL : L ≤ 3072) (hj : j < 6) (v : Int32) (hv : v = nI i + nI j) : vp_in v L := by
  rw [hv, nI_add]
  exact q_in (by omega) (by omega)
theorem cmp_ll (x : Int64) : lg_cmp x x = 0 := by
  unfold lg_cmp
  simp
theorem ci_n (k : Nat) : ¬ ci1 k = 0 := by
  show ¬ (1 : Int32) = 0
  decide
theorem ci_n2 (k : Nat) : ¬ ci2 k = 0 := by
  unfold ci2
  split <;> decide
