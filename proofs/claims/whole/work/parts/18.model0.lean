/-! the reference: its ints by their fields' numbers; its arrays: 0 now, 1 draft, 2 aside, 3 kept, 4 snapshot, 5 history, 6 accounts, 7 lookedPlaces, 8 ordered, 9 formatted, 10 buffer, 11 orders; ρ: the array that row is -/
abbrev MdM : Type := (Nat → Int32) × (Nat → Nat → Int32)
def setA (M : MdM) (j : Nat) (f : Nat → Int32) : MdM := (M.1, va_up M.2 j f)
def setF (M : MdM) (j : Nat) (v : Int32) : MdM := (va_up M.1 j v, M.2)
theorem setA_A (M : MdM) (j : Nat) (f f' : Nat → Int32) : setA (setA M j f) j f' = setA M j f' := by
  refine Prod.ext rfl (funext fun i => ?_)
  by_cases h : i = j <;> simp [setA, va_up, h]
theorem setF_F (M : MdM) (j : Nat) (v v' : Int32) : setF (setF M j v) j v' = setF M j v' := by
  refine Prod.ext (funext fun i => ?_) rfl
  by_cases h : i = j <;> simp [setF, va_up, h]
def mz (k : Nat) : Nat := match k with
  | 0 => 257
  | 1 => 257
  | 2 => 257
  | 3 => 257
  | 4 => 257
  | 5 => 2056
  | 6 => 3
  | 7 => 24
  | 8 => 24
  | 9 => 200
  | 10 => 700
  | _ => 60
def mdE (T : Nat) (ow : Nat → Option Nat) (ρ : Nat) (M : MdM) (k : Nat) : Ent := if k = 0 then eO 9 [.ref (T + 1), .ref (T + 2), .ref (T + 3), .ref (T + 4), .ref (T + 5), .ref (T + 6), .ref (T + 7), .ref (T + 1 + ρ), .int (M.1 8), .int (M.1 9), .int (M.1 10), .int (M.1 11), .int (M.1 12), .ref (T + 8), .ref (T + 9), .ref (T + 10), .int (M.1 16), .ref (T + 11), .int (M.1 18), .int (M.1 19), .int (M.1 20), .int (M.1 21), .int (M.1 22), .int (M.1 23), .int (M.1 24), .int (M.1 25), .int (M.1 26), .ref (T + 12), .ref (T + 13), .int (M.1 29)] else if k = 13 then eR 4 7 ow else eI (mz (k - 1)) (M.2 (k - 1))
def putMd (σ : Hp) (T : Nat) (ow : Nat → Option Nat) (ρ : Nat) (M : MdM) : Hp := (σ.1, fun a => if T ≤ a ∧ a < T + 14 then some (mdE T ow ρ M (a - T)) else σ.2 a)
theorem pM (σ : Hp) (T : Nat) (ow : Nat → Option Nat) (ρ : Nat) (M : MdM) (k : Nat) (hk : k < 14) : (putMd σ T ow ρ M).2 (T + k) = some (mdE T ow ρ M k) := by
  show (if T ≤ T + k ∧ T + k < T + 14 then some (mdE T ow ρ M (T + k - T)) else σ.2 (T + k)) = _
  rw [if_pos ⟨by omega, by omega⟩, Nat.add_sub_cancel_left]
theorem pM_o (σ : Hp) (T : Nat) (ow : Nat → Option Nat) (ρ : Nat) (M : MdM) : (putMd σ T ow ρ M).2 T = some (mdE T ow ρ M 0) := pM σ T ow ρ M 0 (by omega)
theorem mdE_a {T : Nat} {ow : Nat → Option Nat} {ρ : Nat} {M : MdM} (i : Nat) (hi : i < 12) : mdE T ow ρ M (i + 1) = eI (mz i) (M.2 i) := by
  unfold mdE
  rw [if_neg (by omega), if_neg (by omega), Nat.add_sub_cancel]
theorem pM_a (σ : Hp) (T : Nat) (ow : Nat → Option Nat) (ρ : Nat) (M : MdM) (i : Nat) (hi : i < 12) : (putMd σ T ow ρ M).2 (T + 1 + i) = some (eI (mz i) (M.2 i)) := by
  have h := pM σ T ow ρ M (i + 1) (by omega)
  rw [mdE_a i hi] at h
  rw [show T + 1 + i = T + (i + 1) by omega]
  exact h
theorem mz_2 {ρ : Nat} (h : ρ < 2) : mz ρ = 257 := by
  rcases (show ρ = 0 ∨ ρ = 1 by omega) with rfl | rfl <;> rfl
theorem pM_row {ρ : Nat} (hρ : ρ < 2) (σ : Hp) (T : Nat) (ow : Nat → Option Nat) (M : MdM) : (putMd σ T ow ρ M).2 (T + 1 + ρ) = some (eI 257 (M.2 ρ)) := by
  rw [pM_a σ T ow ρ M ρ (by omega), mz_2 hρ]
theorem pM_s (σ : Hp) (T : Nat) (ow : Nat → Option Nat) (ρ : Nat) (M : MdM) (i : Nat) (hi : i < 12) (f : Nat → Int32) : hset (putMd σ T ow ρ M) (T + 1 + i) (eI (mz i) f) = putMd σ T ow ρ (setA M i f) := by
  refine Prod.ext rfl (funext fun a => ?_)
  show (if a = T + 1 + i then some (eI (mz i) f) else if T ≤ a ∧ a < T + 14 then some (mdE T ow ρ M (a - T)) else σ.2 a) = (if T ≤ a ∧ a < T + 14 then some (mdE T ow ρ (setA M i f) (a - T)) else σ.2 a)
  by_cases h1 : a = T + 1 + i
  · subst h1
    rw [if_pos rfl, if_pos ⟨by omega, by omega⟩, show T + 1 + i - T = i + 1 by omega, mdE_a i hi]
    simp [setA, va_up]
  · rw [if_neg h1]
    by_cases h2 : T ≤ a ∧ a < T + 14
    · rw [if_pos h2, if_pos h2]
      generalize hd : a - T = d
      unfold mdE
      by_cases h3 : d = 0
      · rw [if_pos h3, if_pos h3]; rfl
      · rw [if_neg h3, if_neg h3]
        by_cases h4 : d = 13
        · rw [if_pos h4, if_pos h4]
        · rw [if_neg h4, if_neg h4]
          have : (setA M i f).2 (d - 1) = M.2 (d - 1) := if_neg (by omega)
          rw [this]
    · rw [if_neg h2, if_neg h2]
theorem pM_row' {ρ : Nat} (hρ : ρ < 2) (σ : Hp) (T : Nat) (ow : Nat → Option Nat) (M : MdM) (f : Nat → Int32) (h : M.2 ρ = f) : (putMd σ T ow ρ M).2 (T + 1 + ρ) = some (eI 257 f) := h ▸ pM_row hρ σ T ow M
theorem setA_s (M : MdM) (j : Nat) (f : Nat → Int32) : (setA M j f).2 j = f := if_pos rfl
theorem pM_rs {ρ : Nat} (hρ : ρ < 2) (σ : Hp) (T : Nat) (ow : Nat → Option Nat) (M : MdM) (f : Nat → Int32) : hset (putMd σ T ow ρ M) (T + 1 + ρ) (eI 257 f) = putMd σ T ow ρ (setA M ρ f) := by
  have h := pM_s σ T ow ρ M ρ (by omega) f
  rw [mz_2 hρ] at h
  exact h
theorem pM_obj (σ : Hp) (T : Nat) (ow : Nat → Option Nat) (ρ ρ' : Nat) (M M' : MdM) (h : M'.2 = M.2) : hset (putMd σ T ow ρ M) T (mdE T ow ρ' M' 0) = putMd σ T ow ρ' M' := by
  refine Prod.ext rfl (funext fun a => ?_)
  show (if a = T then some (mdE T ow ρ' M' 0) else if T ≤ a ∧ a < T + 14 then some (mdE T ow ρ M (a - T)) else σ.2 a) = (if T ≤ a ∧ a < T + 14 then some (mdE T ow ρ' M' (a - T)) else σ.2 a)
  by_cases h1 : a = T
  · subst h1
    rw [if_pos rfl, if_pos ⟨by omega, by omega⟩, Nat.sub_self]
  · rw [if_neg h1]
    by_cases h2 : T ≤ a ∧ a < T + 14
    · rw [if_pos h2, if_pos h2]
      have hd : ¬ a - T = 0 := by omega
      unfold mdE
      rw [if_neg hd, if_neg hd, h]
    · rw [if_neg h2, if_neg h2]
theorem pM_f (σ : Hp) (T : Nat) (ow : Nat → Option Nat) (ρ : Nat) (M : MdM) (i : Nat) (v : Int32) : hset (putMd σ T ow ρ M) T (mdE T ow ρ (setF M i v) 0) = putMd σ T ow ρ (setF M i v) := pM_obj σ T ow ρ ρ M (setF M i v) rfl
theorem pM_n (σ : Hp) (T : Nat) (ow : Nat → Option Nat) (ρ : Nat) (M : MdM) {a : Nat} (h : ¬ (T ≤ a ∧ a < T + 14)) : (putMd σ T ow ρ M).2 a = σ.2 a := if_neg h
section GCP
variable {X : Cx} {l : Launch} {g : Gl} {own : String} {cc : ByteArray} {nL : Nat} {R : Room} {σ : Hp} {k n : Nat} {ls : List (Nat × Value)} {st : List Value}
/-- System.arraycopy of ints -/
theorem g_copy (hx : Ok X l g own cc nL R) (pc : Nat) {a0 a n0 n1 idx : Nat} {f h : Nat → Int32} {sp dp z : Int32} (hc0 : σ.2 a0 = some (eI n0 f)) (hc1 : σ.2 a = some (eI n1 h)) (hw : ∀ w ∈ [Cond.methodLink own idx arraycopyName, Cond.native arraycopyName, Cond.static arraycopyName, Cond.initialized "java/lang/System"], w ∈ aw)
    (h1' : ¬ sp < 0) (h2' : ¬ dp < 0) (h3' : ¬ z < 0) (h4' : sp.toNatClampNeg + z.toNatClampNeg ≤ n0) (h5' : dp.toNatClampNeg + z.toNatClampNeg ≤ n1) (hcat : (st.map fun v => v.category).sum ≤ 8) (hroom : 1 ≤ R.frames ∧ 8 + (nativeFrameWords "java/lang/System" "arraycopy" 5 + 11) ≤ R.locals) (hd : decode cc pc = .ok (.invokestatic idx, 3))
    (hh : G X (hset σ a (eI n1 (va_cpy f h sp.toNatClampNeg dp.toNatClampNeg z.toNatClampNeg))) k n (pc + 3) ls st) : G X σ k n pc ls (.int z :: .int dp :: .ref a :: .int sp :: .ref a0 :: st) := by
  obtain ⟨p, l', e, R', s, m, args, below, meth, c, Q, g'⟩ := X
  obtain ⟨h1, h2, h3, h4, h5, h6, h7, h8, rfl, rfl, rfl⟩ := hx
  intro H locs la hP hS hL
  have nn : ∀ z : Int32, ¬ z < 0 → z.toInt = (z.toNatClampNeg : Int) := by
    intro z hz
    have hz0 : (0 : Int) ≤ z.toInt := by
      have := Int32.not_lt.mp hz
      simpa using Int32.le_iff_toInt_le.mp this
    show z.toInt = ((z.toInt.toNat : Nat) : Int)
    omega
  intro T hT X
  have hcc0 : H[a0]? = some (vp_cell (g'.2.2.1 0) (n0, .inl f)) := (hP.2 a0 _ hc0).2
  have hcc1 : H[a]? = some (vp_cell (g'.2.2.1 0) (n1, .inl h)) := (hP.2 a _ hc1).2
  obtain ⟨-, k0, hk0, cm0, hkk0⟩ := (h6.2 0 _ rfl).1 n0 (fun j => .int (f j))
  obtain ⟨vm', X', step⟩ := X.arraycopy h1 h4 (h5 _ (hw (Cond.methodLink own idx arraycopyName) (by simp))) (h5 _ (hw (Cond.native arraycopyName) (by simp))) (h5 _ (hw (Cond.static arraycopyName) (by simp))) (h5 _ (hw (Cond.initialized "java/lang/System") (by simp))) (src := a0) (dst := a) (cs := vp_cell (g'.2.2.1 0) (n0, .inl f)) (cd := vp_cell (g'.2.2.1 0) (n1, .inl h)) (srcPos := sp) (destPos := dp) (n := z) (by rw [hT]; exact hcc0) (by rw [hT]; exact hcc1)
    (fun _ h => by cases h) (fun _ h => by cases h) (fun h => by cases h) (fun h => by cases h) hk0 hk0 hkk0 hkk0 (by simp [refKind]) h1' h2' h3'
    (by rw [nn sp h1', nn z h3']; show ¬ _ > ((arrV _ n0 (fun j => .int (f j))).slots.size : Int); rw [arrV_size]; omega)
    (by rw [nn dp h2', nn z h3']; show ¬ _ > ((arrV _ n1 (fun j => .int (h j))).slots.size : Int); rw [arrV_size]; omega)
    (fun vm₁ _ i hi => by
      have e : (vp_cell (g'.2.2.1 0) (n0, .inl f)).slots.getD (sp.toNatClampNeg + i) .null = .int (f (sp.toNatClampNeg + i)) := by
        show (arrV _ n0 (fun j => .int (f j))).slots.getD _ _ = _
        rw [Array.getD_eq_getD_getElem?, arrV_read _ _ (by omega)]
        rfl
      refine ⟨?_, ?_⟩
      · rw [e]; rfl
      · rw [e]
        exact trivial)
    (g := F0 m pc la (.int z :: .int dp :: .ref a :: .int sp :: .ref a0 :: st)) rfl hL.1 (rest := st) rfl (by rw [h2]; exact hd) hroom.1 (by have := hroom.2; show 2 * 0 + _ + _ ≤ _; omega)
  have e1 : copied (vp_cell (g'.2.2.1 0) (n0, .inl f)) (vp_cell (g'.2.2.1 0) (n1, .inl h)) sp dp z = vp_cell (g'.2.2.1 0) (n1, .inl (va_cpy f h sp.toNatClampNeg dp.toNatClampNeg z.toNatClampNeg)) := va_copied (fun z => .int z) _ _ f h h4'
  rw [e1] at X' step
  have hl : a < H.size := (Array.getElem?_eq_some_iff.mp hcc1).1
  have hheap : ((T.setVm vm').setCell a (vp_cell (g'.2.2.1 0) (n1, .inl (va_cpy f h sp.toNatClampNeg dp.toNatClampNeg z.toNatClampNeg)))).heap = H.setIfInBounds a (vp_cell (g'.2.2.1 0) (n1, .inl (va_cpy f h sp.toNatClampNeg dp.toNatClampNeg z.toNatClampNeg))) := by rw [← hT]; rfl
  have oq : ∀ q : Nat, q ≠ a → (H.setIfInBounds a (vp_cell (g'.2.2.1 0) (n1, .inl (va_cpy f h sp.toNatClampNeg dp.toNatClampNeg z.toNatClampNeg))))[q]? = H[q]? := fun q hq => by simp [Array.getElem?_setIfInBounds, Ne.symm hq]
  have ha := (hP.2 a _ hc1).1
  obtain ⟨t, a1, b1⟩ := hh _ _ la (hP.set hc1 (show entAt g' a (eI n1 _) _ from (show (H.setIfInBounds a _)[a]? = some _ by simp [Array.getElem?_setIfInBounds, hl])) (by simp) oq) ⟨by simp; exact hS.1, fun q g1 g2 => by
      rw [oq q (fun e => g2 (by rw [e]; exact ha))]
      exact hS.2.1 q g1 g2, fun q hq => by
      rcases List.mem_append.mp hq with h | h
      · exact hS.2.2 q h
      · obtain ⟨z, -, hz⟩ := List.mem_map.mp h
        rw [← hz]
        exact ha⟩ hL _ hheap X'
  exact ⟨t, step t a1, b1⟩
theorem g_ldcw (hx : Ok X l g own cc nL R) (pc : Nat) {i : Nat} {v : Int32} (hc : (Cond.constant own i v) ∈ aw) (hd : decode cc pc = .ok (.ldc_w i, 3)) (h : G X σ k n (pc + 3) ls (.int v :: st)) : G X σ k n pc ls st := by
  obtain ⟨p, l', e, R', s, m, args, below, meth, c, Q, g'⟩ := X
  obtain ⟨h1, h2, h3, h4, h5, h6, h7, h8, rfl, rfl, rfl⟩ := hx
  intro H locs la hP hS hL
  exact lv_ldcw h1 h2 h4 (h5 _ hc) hd (h H locs la hP hS hL)
end GCP
