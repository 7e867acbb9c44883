/-! blocks of new cells; rows of the constructors -/
def hadl (σ : Hp) (es : List Ent) : Hp := (σ.1 + es.length, fun q => if σ.1 ≤ q ∧ q < σ.1 + es.length then es[q - σ.1]? else σ.2 q)
theorem hadl_nil (σ : Hp) : hadl σ [] = σ := by
  refine Prod.ext rfl (funext fun q => ?_)
  show (if σ.1 ≤ q ∧ q < σ.1 + 0 then _ else σ.2 q) = σ.2 q
  rw [if_neg (by omega)]
theorem hadl_hadl (σ : Hp) (es fs : List Ent) : hadl (hadl σ es) fs = hadl σ (es ++ fs) := by
  refine Prod.ext (by show σ.1 + es.length + fs.length = σ.1 + (es ++ fs).length; rw [List.length_append]; omega) (funext fun q => ?_)
  show (if σ.1 + es.length ≤ q ∧ q < σ.1 + es.length + fs.length then fs[q - (σ.1 + es.length)]? else if σ.1 ≤ q ∧ q < σ.1 + es.length then es[q - σ.1]? else σ.2 q) = (if σ.1 ≤ q ∧ q < σ.1 + (es ++ fs).length then (es ++ fs)[q - σ.1]? else σ.2 q)
  rw [List.length_append]
  by_cases h1 : σ.1 + es.length ≤ q ∧ q < σ.1 + es.length + fs.length
  · rw [if_pos h1, if_pos ⟨by omega, by omega⟩, List.getElem?_append_right (by omega)]
    congr 1
    omega
  · rw [if_neg h1]
    by_cases h2 : σ.1 ≤ q ∧ q < σ.1 + es.length
    · rw [if_pos h2, if_pos ⟨by omega, by omega⟩, List.getElem?_append_left (by omega)]
    · rw [if_neg h2, if_neg (by omega)]
theorem hadl_push (σ : Hp) (e : Ent) : hpush σ e = hadl σ [e] := by
  refine Prod.ext rfl (funext fun q => ?_)
  show (if q = σ.1 then some e else σ.2 q) = (if σ.1 ≤ q ∧ q < σ.1 + 1 then [e][q - σ.1]? else σ.2 q)
  by_cases h : q = σ.1
  · subst h
    rw [if_pos rfl, if_pos ⟨by omega, by omega⟩, Nat.sub_self]
    rfl
  · rw [if_neg h, if_neg (by omega)]
theorem hadl_set (σ : Hp) (es : List Ent) (j : Nat) (e : Ent) (hj : j < es.length) : hset (hadl σ es) (σ.1 + j) e = hadl σ (es.set j e) := by
  refine Prod.ext (by show σ.1 + es.length = σ.1 + (es.set j e).length; rw [List.length_set]) (funext fun q => ?_)
  show (if q = σ.1 + j then some e else if σ.1 ≤ q ∧ q < σ.1 + es.length then es[q - σ.1]? else σ.2 q) = (if σ.1 ≤ q ∧ q < σ.1 + (es.set j e).length then (es.set j e)[q - σ.1]? else σ.2 q)
  rw [List.length_set]
  by_cases h : q = σ.1 + j
  · subst h
    rw [if_pos rfl, if_pos ⟨by omega, by omega⟩, Nat.add_sub_cancel_left, List.getElem?_set_self hj]
  · rw [if_neg h]
    by_cases h2 : σ.1 ≤ q ∧ q < σ.1 + es.length
    · rw [if_pos h2, if_pos h2, List.getElem?_set_ne (by omega)]
    · rw [if_neg h2, if_neg h2]
theorem hadl_get (σ : Hp) (es : List Ent) (j : Nat) (hj : j < es.length) : (hadl σ es).2 (σ.1 + j) = es[j]? := by
  show (if σ.1 ≤ σ.1 + j ∧ σ.1 + j < σ.1 + es.length then es[σ.1 + j - σ.1]? else σ.2 (σ.1 + j)) = _
  rw [if_pos ⟨by omega, by omega⟩, Nat.add_sub_cancel_left]
theorem hadl_0 (σ : Hp) (e : Ent) (es : List Ent) : (hadl σ (e :: es)).2 σ.1 = some e := hadl_get σ (e :: es) 0 (Nat.zero_lt_succ _)
theorem hadl_set0 (σ : Hp) (e e' : Ent) (es : List Ent) : hset (hadl σ (e :: es)) σ.1 e' = hadl σ (e' :: es) := hadl_set σ (e :: es) 0 e' (Nat.zero_lt_succ _)
theorem hadl_o (σ : Hp) (es : List Ent) {q : Nat} (h : q < σ.1) : (hadl σ es).2 q = σ.2 q := if_neg (by omega)
section GB
variable {X : Cx} {l : Launch} {g : Gl} {own : String} {cc : ByteArray} {nL : Nat} {R : Room} {σ : Hp} {k n : Nat} {ls : List (Nat × Value)} {st : List Value}
theorem g_obj (hx : Ok X l g own cc nL R) (pc : Nat) {a idx : Nat} (hlk : ∀ w ∈ [Cond.methodLink own idx Lib.objectInit, Cond.instanceMethod Lib.objectInit, Cond.code Lib.objectInit { data := #[177] } 1 none], w ∈ aw) (hcat : (st.map fun v => v.category).sum ≤ 8) (hroom : 1 ≤ R.frames ∧ 20 ≤ R.locals) (hd : decode cc pc = .ok (.invokespecial idx, 3)) (h : G X σ k n (pc + 3) ls st) : G X σ k n pc ls (.ref a :: st) := by
  obtain ⟨p, l', e, R', s, m, args, below, meth, c, Q, g'⟩ := X
  obtain ⟨h1, h2, h3, h4, h5, h6, h7, h8, rfl, rfl, rfl⟩ := hx
  intro H locs la hP hS hL
  refine W.objInit h1 h2 h4 (h5 _ (hlk _ List.mem_cons_self)) (h5 _ (hlk _ (List.mem_cons_of_mem _ List.mem_cons_self))) (h5 _ (hlk _ (List.mem_cons_of_mem _ (List.mem_cons_of_mem _ List.mem_cons_self)))) rfl hL.1 rfl hd hroom.1 ?_ ?_
  · have h20 := hroom.2
    show 2 * 0 + (st.map fun v => v.category).sum + 12 ≤ R'.locals
    omega
  · exact h H locs la hP hS hL
theorem g_newR (hx : Ok X l g own cc nL R) (pc : Nat) {x : Int32} {C : String} {idx : Nat} (N t : Nat) (hlk : Cond.classLink own idx C ∈ aw) (hover : ∀ U, g.2.2.2 U → va_AO C U) (ht : (tysG g)[t]? = some (g.2.2.1 t, .object C)) (h0 : ¬ x < 0) (hN : x.toNatClampNeg = N) (hb : N * 4 ≤ 536870912) (hroom : k + 1 ≤ R.cells ∧ n + N ≤ R.slots) (hd : decode cc pc = .ok (.anewarray idx, 3)) (h : G X (hpush σ (eR t N (fun _ => none))) (k + 1) (n + N) (pc + 3) ls (.ref σ.1 :: st)) : G X σ k n pc ls (.int x :: st) := by
  obtain ⟨p, l', e, R', s, m, args, below, meth, c, Q, g'⟩ := X
  obtain ⟨h1, h2, h3, h4, h5, h6, h7, h8, rfl, rfl, rfl⟩ := hx
  intro H locs la hP hS hL
  subst hN
  refine W.anew h1 h2 h4 (h5 _ hlk) (va_AO.use (hover _ h8.1)) rfl hd rfl h0 hb hroom.1 hroom.2 fun cA kA comp f1 f2 f3 f4 => ?_
  obtain ⟨kA', comp', k1, k2, k3, k4⟩ := (h6.2 t _ ht).2
  have hcA : cA = g'.2.2.1 t := Option.some.inj (f1.symm.trans k4)
  subst hcA
  generalize hH1 : H.push ({ cls := g'.2.2.1 t, slots := Array.replicate x.toNatClampNeg .null, vm := .none } : Cell) = H1
  have z1 : H1.size = H.size + 1 := by rw [← hH1, Array.size_push]
  have e1 : H1[H.size]? = some (arrV (g'.2.2.1 t) x.toNatClampNeg (fun _ => .null)) := by rw [← hH1, Array.getElem?_push_size, ← arrV_new]
  have o1 : ∀ q : Nat, q < H.size → H1[q]? = H[q]? := fun q hq => by rw [← hH1, Array.getElem?_push, if_neg (Nat.ne_of_lt hq)]
  rw [hP.1.1] at e1
  have hG := h H1 locs la (hP.push (Nat.le_trans h7 hS.1) (show H1[σ.1]? = some (vp_cell _ _) by rw [e1]; rfl) z1 o1) ⟨Nat.le_trans hS.1 (by omega), fun x g1 g2 => (o1 x (Nat.lt_of_lt_of_le g1 hS.1)).trans (hS.2.1 x g1 g2), hS.2.2⟩ hL
  rw [← hP.1.1] at hG
  exact hG
end GB
