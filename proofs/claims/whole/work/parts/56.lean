/-! a day: refiling -/
theorem Sz.len {A A' : StM} (h : Sz A) (hl : ∀ j, (A'.2 j).length = (A.2 j).length) : Sz A' := by
  unfold Sz
  simp only [hl]
  exact h
theorem setL_len {A : StM} {k : Nat} {ys : List Int32} (hy : ys.length = (A.2 k).length) (j : Nat) : ((setL A k ys).2 j).length = (A.2 j).length := by
  by_cases h : j = k
  · subst h; rw [setL_s, hy]
  · rw [setL_n _ _ h]
theorem ac_up {f : Nat → Int32} {xs : List Int32} (h : ∀ k, 3 ≤ k → k < 11 → f (6 + k) = xs.getD k 0) (hl : xs.length = 11) {a : Nat} (ha : a < 11) (v : Int32) : ∀ k, 3 ≤ k → k < 11 → upd f (6 + a) v (6 + k) = (xs.set a v).getD k 0 := fun k k1 k2 => by
  rw [getD_set xs a v k (by omega)]
  by_cases e : k = a
  · rw [if_pos e, e]; exact if_pos rfl
  · rw [if_neg e, ← h k k1 k2]; exact if_neg (by omega)
theorem Rel.tally {H : Int32} {A : StM} {f : Nat → Int32} (h : Rel H A f) (hz : Sz A) {a : Nat} (h3 : 3 ≤ a) (ha : a < 11) (v : Int32) : Rel H (setL A 15 ((A.2 15).set a v)) (upd f (6 + a) v) :=
  h.onacc hz rfl (fun j q => setL_n _ _ q) (fun j q => if_neg (by omega)) (by rw [setL_s]; exact ac_up h.ac hz.e15 ha v)
theorem RI.acc {H : Int32} {A : StM} {f g : Nat → Int32} {xs : List Int32} (h : RI H A f) (hx : xs.length = 11) (hr : Rel H (setL A 15 xs) g) : RI H (setL A 15 xs) g :=
  ⟨hr, h.sz.len (setL_len (by rw [hx, h.sz.e15])), h.fd, h.mk, h.sp, h.per⟩
theorem lr_ac {H : Int32} {A : StM} {f : Nat → Int32} (h : Rel H A f) (hz : Sz A) {a : Nat} (h3 : 3 ≤ a) (ha : a < 11) (v : Int32) : lnraise (A.2 15) (nI a) v = (A.2 15).set a (f (6 + a) + v) := by
  have := hz.e15
  rw [lr_in v (by omega) (by omega), h.ac a h3 ha]
theorem RI.tally {H : Int32} {A : StM} {f : Nat → Int32} (h : RI H A f) {a : Nat} (h3 : 3 ≤ a) (ha : a < 11) (v : Int32) : RI H (setL A 15 (lnraise (A.2 15) (nI a) v)) (upd f (6 + a) (f (6 + a) + v)) := by
  rw [lr_ac h.rel h.sz h3 ha v]
  exact h.acc (by rw [List.length_set]; exact h.sz.e15) (h.rel.tally h.sz h3 ha _)
/-- between two folders of a trolley that is refiled -/
def RF (H : Int32) (A : StM) (f : Nat → Int32) (i : Nat) : Prop := Rel H A f ∧ Sz A ∧ FdR (setL A 10 ((A.2 10).drop i)) ∧ Mk A ∧ Sp A ∧ ¬ A.1 1 ≤ 0
theorem RF.w {H : Int32} {A : StM} {f : Nat → Int32} {i : Nat} (h : RF H A f i) : RW H A f := ⟨h.1, h.2.1, h.2.2.1.2.2.1⟩
theorem RI.rf {H : Int32} {A : StM} {f : Nat → Int32} (h : RI H A f) : RF H A f 0 := by
  refine ⟨h.rel, h.sz, ?_, h.mk, h.sp, h.per⟩
  rw [List.drop_zero]
  exact ⟨h.fd.1, h.fd.2.1, h.fd.2.2.1, h.fd.2.2.2.1, h.fd.2.2.2.2.1, h.fd.2.2.2.2.2.1, h.fd.2.2.2.2.2.2.1, h.fd.2.2.2.2.2.2.2⟩
theorem gIns_row {f : Nat → Int32} {xs : List Int32} {n p : Nat} {x : Int32} (hn : n = xs.length) (hf : ∀ i, i < xs.length → f (145 + i) = xs.getD i 0) (hp : p ≤ xs.length) : ∀ i, i < (xs.take p ++ x :: xs.drop p).length → gIns f n p x (145 + i) = (xs.take p ++ x :: xs.drop p).getD i 0 := by
  intro i hi
  rw [ln_ins hp] at hi
  rw [gd_ins hp]
  unfold gIns
  rw [if_neg (by omega)]
  by_cases c1 : i = p
  · rw [if_pos (by omega), if_neg (by omega), if_pos c1]
  · rw [if_neg (by omega), if_neg c1]
    by_cases c2 : i < p
    · rw [if_neg (by omega), if_pos c2, hf i (by omega)]
    · rw [if_pos (by omega), if_neg c2, show 145 + i - 1 = 145 + (i - 1) by omega, hf _ (by omega)]
section DY
variable {H : Int32} {A : StM} {ρ : Nat} {M : MdM} {f : Nat → Int32}
theorem s_refileL : ∀ (n i : Nat) (A : StM) (M : MdM), RF H A (M.2 ρ) i → ρ ≠ 7 → i ≤ (A.2 10).length → (A.2 10).length - i < n → ∃ A' M', St_refileTrolley_L2 n A (nI i) = some A' ∧ Md_refile_L2 ρ n M (nI i) = some M' ∧ Sm ρ M M' ∧ RI H A' (M'.2 ρ) ∧ A'.1 = A.1 ∧ A'.2 11 = A.2 11 ∧ (A'.2 15).getD 4 0 = (A.2 15).getD 4 0 := by
  intro n
  induction n with
  | zero => intro i A M h hρ h1 h2; omega
  | succ n ih =>
    intro i A M h hρ h1 h2
    obtain ⟨hr, hz, hF, hm, hs, hp⟩ := h
    have hw : RW H A (M.2 ρ) := ⟨hr, hz, hF.2.2.1⟩
    have zl := hz.l
    have zt := hz.t
    have zf := hz.fo
    have ze2 := hz.e2
    have ze15 := hz.e15
    unfold St_refileTrolley_L2 Md_refile_L2
    simp only [lu]
    rw [tn7, hr.nt]
    by_cases hi : (A.2 10).length ≤ i
    · rw [if_pos ((q_le (by omega) (by omega)).mpr hi), if_pos ((q_le (by omega) (by omega)).mpr hi)]
      rw [show Md_tally ρ M 8 (nI (A.2 10).length) = _ from e_tally (a := 8) (by omega) (by omega), bs]
      refine ⟨_, _, rfl, rfl, ?_, ?_, rfl, rfl, ?_⟩
      · rw [setA_A]; exact Sm.setA _ _ _
      · rw [setA_s, setA_s]
        have e0 : (A.2 10).drop i = [] := List.drop_eq_nil_of_le hi
        rw [e0] at hF
        have r1 := hr.tally hz (a := 8) (by omega) (by omega) (M.2 ρ (6 + 8) + nI (A.2 10).length)
        have z1 : Sz (setL A 15 ((A.2 15).set 8 (M.2 ρ (6 + 8) + nI (A.2 10).length))) := hz.len (setL_len (by rw [List.length_set]))
        have z2 : Sz (setL (setL A 15 (lnraise (A.2 15) 8 (nI (A.2 10).length))) 10 []) := by
          rw [show lnraise (A.2 15) 8 (nI (A.2 10).length) = _ from lr_ac hr hz (a := 8) (by omega) (by omega) _]
          exact ⟨z1.1, z1.2.1, z1.2.2.1, z1.2.2.2.1, z1.2.2.2.2.1, z1.2.2.2.2.2.1, z1.2.2.2.2.2.2.1, z1.2.2.2.2.2.2.2.1, Nat.zero_le _, z1.2.2.2.2.2.2.2.2.2⟩
        refine ⟨?_, z2, ?_, hm, hs, hp⟩
        · rw [show lnraise (A.2 15) 8 (nI (A.2 10).length) = _ from lr_ac hr hz (a := 8) (by omega) (by omega) _]
          refine r1.ontrol z1 rfl (fun j q => setL_n _ _ q) (fun j q _ => if_neg q) (if_pos rfl) (fun j hj => ?_)
          rw [setL_s] at hj
          exact absurd hj (Nat.not_lt_zero j)
        · exact ⟨hF.1, hF.2.1, hF.2.2.1, hF.2.2.2.1, hF.2.2.2.2.1, hF.2.2.2.2.2.1, hF.2.2.2.2.2.2.1, hF.2.2.2.2.2.2.2⟩
      · show (lnraise (A.2 15) 8 (nI (A.2 10).length)).getD 4 0 = _
        rw [show lnraise (A.2 15) 8 (nI (A.2 10).length) = _ from lr_ac hr hz (a := 8) (by omega) (by omega) _, getD_set _ _ _ _ (by omega), if_neg (by omega)]
    · have hn : ¬ nI (A.2 10).length ≤ nI i := fun q => hi ((q_le (by omega) (by omega)).mp q)
      have hi' : i < (A.2 10).length := by omega
      have hd := drop_getD (A.2 10) i hi'
      obtain ⟨k, hk, ek, sk⟩ := hF.2.2.2.1 ((A.2 10).getD i 0) (by rw [setL_s, hd]; exact List.mem_cons_self)
      have hk : k < (A.2 0).length := hk
      have sk : (A.2 2).getD k 0 = 2 := sk
      have htr : M.2 ρ (169 + i) = nI k := by
        have := hr.tr i hi'
        rw [Nat.one_mul] at this
        rw [this, ek]
      rw [if_neg hn, if_neg hn, show (169 : Int32) = nI 169 from rfl, nI_add, if_pos (q_in (by omega) (by omega)), q_cl (by omega), htr, of0 (by omega), bs, hr.mk k hk, lg_in hi' (by omega), ek, lg_in hk (by omega)]
      obtain ⟨r, L, M1, e1, e2, e3⟩ := s_halve hw hρ ((A.2 0).getD k 0)
      have nrow : nI k ∉ A.2 7 := fun hx => by
        obtain ⟨k', hk', ek', sk'⟩ := hF.2.2.1 _ hx
        have hk' : k' < (A.2 0).length := hk'
        have : k = k' := (q_eq (by omega) (by omega)).mp ek'
        subst this
        have sk' : (A.2 2).getD k 0 = 0 := sk'
        rw [sk] at sk'
        exact absurd sk' (by decide)
      obtain ⟨x1, x2, x3, x4, x5, x6, x7, q, hq, x8⟩ := e3
      have hr1 : r = -1 ∧ M1.1 12 = Rw_placeBehindMiss (setL A 8 L) ((A.2 0).getD k 0) := by
        rcases x7 with x7 | ⟨p, hp1, hp2, hp3, hp4⟩
        · exact x7
        · obtain ⟨k', hk', ek', em'⟩ := markAt_k hw hp1
          have hkk : k' = k := nd_inj hm.1 hk' hk (by rw [← em', hp3])
          exact absurd (by rw [← hkk, ← ek']; exact gd_mem hp1) nrow
      obtain ⟨rfl, hpb⟩ := hr1
      have hlen : (A.2 7).length < 24 := by
        have g1 : (nI k :: A.2 7).Nodup := List.nodup_cons.mpr ⟨nrow, hF.1⟩
        have := nd_len (A.2 0).length g1 (fun x hx => by
          rcases List.mem_cons.mp hx with rfl | hx
          · exact ⟨k, hk, rfl⟩
          · obtain ⟨k', hk', ek', -⟩ := hF.2.2.1 x hx
            exact ⟨k', hk', ek'⟩)
        rw [List.length_cons] at this
        omega
      rw [e1, e2, bs, bs]
      try dsimp only
      rw [show Md_tally ρ M1 7 (M1.1 11) = _ from e_tally (a := 7) (by omega) (by omega), bs, lay2 (by omega), bs]
      rw [show (setA (setA M1 ρ (upd (M1.2 ρ) (6 + 7) (M1.2 ρ (6 + 7) + M1.1 11))) ρ (upd ((setA M1 ρ (upd (M1.2 ρ) (6 + 7) (M1.2 ρ (6 + 7) + M1.1 11))).2 ρ) (27 + 5 * k) 0)).1 12 = nI q from x8]
      rw [setA_A, setA_s, x2 ρ hρ, x3]
      rw [m_insert (M := setA M1 ρ (upd (upd (M.2 ρ) (6 + 7) (M.2 ρ (6 + 7) + nI L.length)) (27 + 5 * k) 0)) (n := (A.2 7).length) (by rw [setA_s]; exact (if_neg (by omega)).trans ((if_neg (by omega)).trans hr.nl)) hq (by omega), bs, setA_A, setA_s, nI_1]
      have hA1 : Rw_placeBehindMiss (setL (setL A 8 L) 15 (lnraise ((setL A 8 L).2 15) 7 (nI ((setL A 8 L).2 8).length))) ((A.2 0).getD k 0) = nI q := hpb.symm.trans x8
      try dsimp only
      rw [hA1]
      have elr : lnraise ((setL A 8 L).2 15) 7 (nI ((setL A 8 L).2 8).length) = (A.2 15).set 7 (M.2 ρ (6 + 7) + nI L.length) := lr_ac hr hz (a := 7) (by omega) (by omega) _
      have eli : lnins 24 ((setL A 8 L).2 7) (nI q) (nI k) = (A.2 7).take q ++ nI k :: (A.2 7).drop q := li_in _ hq hlen (by omega)
      have els : lnset ((setL A 8 L).2 2) (nI k) 0 = (A.2 2).set k 0 := ls_in (xs := A.2 2) 0 (by omega) (by omega)
      rw [elr, eli, els]
      have r1 := hr.tally hz (a := 7) (by omega) (by omega) (M.2 ρ (6 + 7) + nI L.length)
      have z1 : Sz (setL A 15 ((A.2 15).set 7 (M.2 ρ (6 + 7) + nI L.length))) := hz.len (setL_len (by rw [List.length_set]))
      have r2 : Rel H (setL (setL A 15 ((A.2 15).set 7 (M.2 ρ (6 + 7) + nI L.length))) 2 ((A.2 2).set k 0)) (upd (upd (M.2 ρ) (6 + 7) (M.2 ρ (6 + 7) + nI L.length)) (27 + 5 * k) 0) := by
        refine r1.onfold z1 rfl (fun j _ b _ _ => setL_n _ _ b) (fun j hj => if_neg (by omega)) ?_ ?_ ?_ ?_
        · exact Arr.ne (xs := A.2 1) r1.em (fun i hi => by have := hz.e1; omega)
        · exact Arr.set (xs := A.2 2) r1.st (by omega) (by omega)
        · intro i hi e
          have e : ((A.2 2).set k 0).getD i 0 = 1 := e
          rw [getD_set _ _ _ _ (by omega)] at e
          by_cases c : i = k
          · rw [if_pos c] at e; exact absurd e (by decide)
          · rw [if_neg c] at e
            exact (if_neg (by omega)).trans (r1.wi i hi e)
        · exact Arr.ne (xs := A.2 4) r1.tm (fun i hi => by have := hz.e4; omega)
      have z2 : Sz (setL (setL A 15 ((A.2 15).set 7 (M.2 ρ (6 + 7) + nI L.length))) 2 ((A.2 2).set k 0)) := z1.len (setL_len (by rw [List.length_set]; rfl))
      have hli := ln_ins (v := nI k) hq
      have r3 : Rel H (setL (setL (setL A 15 ((A.2 15).set 7 (M.2 ρ (6 + 7) + nI L.length))) 2 ((A.2 2).set k 0)) 7 ((A.2 7).take q ++ nI k :: (A.2 7).drop q)) (gIns (upd (upd (M.2 ρ) (6 + 7) (M.2 ρ (6 + 7) + nI L.length)) (27 + 5 * k) 0) (A.2 7).length q (nI k)) := by
        refine r2.onrow z2 rfl (fun j a _ _ => setL_n _ _ a) (fun j a b => ?_) ?_ ?_
        · unfold gIns
          rw [if_neg a, if_neg (by omega), if_neg (by omega)]
        · rw [setL_s, hli]
          refine (if_pos rfl).trans ?_
          rw [r2.nl, nI_1]; rfl
        · rw [setL_s]
          exact gIns_row rfl (fun i hi => r2.rw i hi |> fun e => by rw [Nat.one_mul] at e; exact e) hq
      have hgo := ih (i + 1) (setL (setL (setL (setL A 8 L) 15 ((A.2 15).set 7 (M.2 ρ (6 + 7) + nI L.length))) 7 ((A.2 7).take q ++ nI k :: (A.2 7).drop q)) 2 ((A.2 2).set k 0)) (setA M1 ρ (gIns (upd (upd (M.2 ρ) (6 + 7) (M.2 ρ (6 + 7) + nI L.length)) (27 + 5 * k) 0) (A.2 7).length q (nI k)))
      have hsw : ∀ j : Nat, (setL (setL (setL (setL A 8 L) 15 ((A.2 15).set 7 (M.2 ρ (6 + 7) + nI L.length))) 7 ((A.2 7).take q ++ nI k :: (A.2 7).drop q)) 2 ((A.2 2).set k 0)) = (setL (setL (setL (setL A 15 ((A.2 15).set 7 (M.2 ρ (6 + 7) + nI L.length))) 2 ((A.2 2).set k 0)) 7 ((A.2 7).take q ++ nI k :: (A.2 7).drop q)) 8 L) := fun _ => Prod.ext rfl (funext fun j => by
        show (if j = 2 then _ else if j = 7 then _ else if j = 15 then _ else if j = 8 then _ else _) = (if j = 8 then _ else if j = 7 then _ else if j = 2 then _ else if j = 15 then _ else _)
        by_cases c1 : j = 2
        · subst c1; rfl
        · by_cases c2 : j = 7
          · subst c2; rfl
          · by_cases c3 : j = 15
            · subst c3; rfl
            · rw [if_neg c1, if_neg c2, if_neg c3, if_neg c2, if_neg c1, if_neg c3])
      obtain ⟨A', M', g1, g2, g3, g4, g5, g6, g7⟩ := hgo (by
        refine ⟨?_, ?_, ?_, hm, hs, hp⟩
        · rw [setA_s, hsw 0]; exact r3
        · rw [hsw 0]
          have := z2.set7 (ys := (A.2 7).take q ++ nI k :: (A.2 7).drop q) (by omega)
          exact this
        · have hst : ∀ j, j < (A.2 0).length → ((A.2 2).set k 0).getD j 0 = if j = k then 0 else (A.2 2).getD j 0 := fun j hj => getD_set _ _ _ _ (by omega)
          obtain ⟨b1, b2, b3, b4, b5, b6, b7, b8⟩ := hF
          have b2 : ((A.2 10).drop i).Nodup := b2
          rw [hd, ek] at b2
          have b2' := List.nodup_cons.mp b2
          refine ⟨nd_ins b1 nrow, b2'.2, fun x hx => ?_, fun x hx => ?_, fun j hj e => ?_, fun j hj e => ?_, fun j hj => ?_, b8⟩
          · rcases mem_ins.mp hx with rfl | hx
            · exact ⟨k, hk, rfl, (hst k hk).trans (if_pos rfl)⟩
            · obtain ⟨k', c1, c2, c3⟩ := b3 x hx
              refine ⟨k', c1, c2, (hst k' c1).trans ?_⟩
              by_cases c : k' = k
              · rw [if_pos c]
              · rw [if_neg c]; exact c3
          · obtain ⟨k', c1, c2, c3⟩ := b4 x (by rw [setL_s, hd]; exact List.mem_cons_of_mem _ hx)
            refine ⟨k', c1, c2, (hst k' c1).trans ?_⟩
            rw [if_neg (fun c => b2'.1 (by rw [← c, ← c2]; exact hx))]
            exact c3
          · have e := (hst j hj).symm.trans e
            by_cases c : j = k
            · rw [c]; exact mem_ins.mpr (Or.inl rfl)
            · rw [if_neg c] at e
              exact mem_ins.mpr (Or.inr (b5 j hj e))
          · have e := (hst j hj).symm.trans e
            by_cases c : j = k
            · rw [if_pos c] at e; exact absurd e (by decide)
            · rw [if_neg c] at e
              have := b6 j hj e
              have this : nI j ∈ (A.2 10).drop i := this
              rw [hd, ek] at this
              rcases List.mem_cons.mp this with c' | c'
              · exact absurd ((q_eq (by have : j < (A.2 0).length := hj; omega) (by omega)).mp c') c
              · exact c'
          · have := b7 j hj
            show ((((A.2 2).set k 0).getD j 0 = 0 ∨ ((A.2 2).set k 0).getD j 0 = 2) ∧ _) ∨ (((A.2 2).set k 0).getD j 0 = 1 ∧ _)
            rw [hst j hj]
            by_cases c : j = k
            · rw [if_pos c]
              rcases this with ⟨-, t2⟩ | ⟨t1, -⟩
              · exact Or.inl ⟨Or.inl rfl, t2⟩
              · rw [c] at t1
                have t1 : (A.2 2).getD k 0 = 1 := t1
                rw [sk] at t1
                exact absurd t1 (by decide)
            · rw [if_neg c]; exact this) hρ (by show i + 1 ≤ (A.2 10).length; omega) (by show (A.2 10).length - (i + 1) < n; omega)
      refine ⟨A', M', g1, g2, ?_, g4, g5, g6, g7.trans ?_⟩
      · have s1 : Sm ρ M M1 := ⟨fun k b c => x1 k b c, fun j _ b _ => x2 j b⟩
        exact (s1.tr (Sm.setA _ _ _)).tr g3
      · show ((A.2 15).set 7 _).getD 4 0 = _
        rw [getD_set _ _ _ _ (by omega), if_neg (by omega)]
theorem s_refile (h : RI H A (M.2 ρ)) (hρ : ρ ≠ 7) : ∃ A' M', St_refileTrolley A = some A' ∧ Md_refile ρ M = some M' ∧ Sm ρ M M' ∧ RI H A' (M'.2 ρ) ∧ A'.1 = A.1 ∧ A'.2 11 = A.2 11 ∧ (A'.2 15).getD 4 0 = (A.2 15).getD 4 0 := by
  have := h.sz.t
  exact s_refileL FU 0 A M h.rf hρ (Nat.zero_le _) (FU_gt (by omega))
end DY
