/-! StringBuilder.append -/
section GXK
variable {X : Cx} {l : Launch} {g : Gl} {own : String} {cc : ByteArray} {nL : Nat} {R : Room} {σ : Hp} {k n : Nat} {ls : List (Nat × Value)} {st : List Value}
theorem g_callXk {pc idx b : Nat} {M : Md} {As rest : List Value} {Post : Option Value → Hp → Prop} (hx : Ok X l g own cc nL R) (hM : MG l g M (.ref b :: As) σ Post) (hlk : LkV own idx M) (har : Arity M As.length) (hO : ∀ U, g.2.2.2 U → va_O M.y.cls b (A0 g) U g.1) (hst : st = As.reverse ++ .ref b :: rest) (hcat : (rest.map fun v => v.category).sum ≤ 8) (hroom : M.rm.frames + 1 ≤ R.frames ∧ 8 + (M.nL + 11) + M.rm.locals ≤ R.locals) (hcs : k + M.rm.cells ≤ R.cells ∧ n + M.rm.slots ≤ R.slots) (hd : decode cc pc = .ok (.invokevirtual idx, 3)) (kk : ∀ v σ', Post v σ' → G X σ' (k + M.rm.cells) (n + M.rm.slots) (pc + 3) ls (v.toList ++ rest)) : G X σ k n pc ls st := by
  obtain ⟨p, l', e, R', s, m, args, below, meth, c, Q, g'⟩ := X
  obtain ⟨h1, h2, h3, h4, h5, h6, h7, h8, rfl, rfl, rfl⟩ := hx
  intro H locs la hP hS hL
  subst hst
  have cw : CallW R' s args own M.y.cls idx M.y M.b M.nL M.rt (.code M.y M.b M.nL M.rt :: aw) M.rm M.rm.cells M.rm.slots As.length :=
    ⟨callB_of As.length h5 (good_ws hlk) rfl rfl rfl (h5 _ hlk.2.2) (h5 _ (hlk.1 _ (by simp))) har hroom, h5 _ (hlk.1 _ (by simp)), h5 _ (hlk.1 _ (by simp))⟩
  refine g_run (va_runV (nL := nL) (As := As) (rest := rest) ⟨h1, h2, h3, h4, h5⟩ hM cw ⟨MGp.blind, ?_, fun U hU hW => ⟨rfl, by rw [hU]; exact hP, by rw [hU]; exact Nat.le_trans h7 hS.1, va_K.moved hW.alike h6, h8.2 _ U hW h8.1, h8.2⟩⟩ rfl rfl (by rw [← h3]; exact hL.1) rfl (lv_room hcat) hd hcs) hS hL kk
  obtain ⟨cell, g1, g2, g3, -⟩ := ((hO s h8.1).kept (base_kept hS h7 hP.1.2)).kept (fun a _ h2 => by
    by_cases ha : a < s.heap.size
    · exact hS.2.1 a ha h2
    · exact absurd (Nat.le_trans h7 (Nat.not_lt.mp ha)) h2)
  exact ⟨cell, g1, g2, g3⟩
end GXK
def SB (σ : Hp) (b : Nat) (t : List Int32) : Prop := ∃ v cap f, isB σ b v cap f t.length ∧ fitB f ∧ ∀ j, j < t.length → f j = t.getD j 0
theorem j_gd {xs ys : List Int32} {j : Nat} : (xs ++ ys).getD j 0 = if j < xs.length then xs.getD j 0 else ys.getD (j - xs.length) 0 := by
  by_cases h : j < xs.length
  · rw [if_pos h, List.getD_eq_getElem?_getD, List.getD_eq_getElem?_getD, List.getElem?_append_left h]
  · rw [if_neg h, List.getD_eq_getElem?_getD, List.getD_eq_getElem?_getD, List.getElem?_append_right (by omega)]
theorem lk_J5_40 : LkV RJ5 40 md_J0_coder := lk_of (by decide +kernel)
theorem ac_J0_212 : ∀ w ∈ [Cond.methodLink RJ0 212 arraycopyName, Cond.native arraycopyName, Cond.static arraycopyName, Cond.initialized "java/lang/System"], w ∈ aw := aw_of (by decide +kernel)
theorem lp_J5_397 : LkP RJ5 397 md_J5_inflateIfNeededFor_a7421 := aw_of (by decide +kernel)
theorem lk_J5_399 : LkV RJ5 399 md_J0_getBytes_840e7 := lk_of (by decide +kernel)
theorem ar_J0_getBytes : Arity md_J0_getBytes_840e7 3 := ⟨by decide +kernel, by decide +kernel, by decide +kernel⟩
theorem lk_J5_32 : LkV RJ5 32 md_J0_length := lk_of (by decide +kernel)
theorem fl_J5_79 : Cond.fieldLink RJ5 79 (TJ4 3).1 (TJ4 3).2.1 (TJ4 3).2.2.1 ∈ aw := aw1 (by decide +kernel)
theorem lp_J5_100 : LkP RJ5 100 md_J5_ensureCapacityInternal_d00df := aw_of (by decide +kernel)
theorem lp_J5_208 : LkP RJ5 208 md_J5_putStringAt_47b60 := aw_of (by decide +kernel)
theorem ls_J4_append_15ec4 : LkSU RJ4 29 md_J5_append_cf1ce := aw_of (by decide +kernel)
theorem lk_J4_23 : LkV RJ4 23 md_J4_append_15ec4 := lk_of (by decide +kernel)
theorem ar_J4_append : Arity md_J4_append_15ec4 1 := ⟨by decide +kernel, by decide +kernel, by decide +kernel⟩
set_option maxRecDepth 100000 in
set_option maxHeartbeats 4000000 in
theorem c_inflateIf (l : Launch) (g : Gl) (hK : KB g) {σ : Hp} {b v cap n : Nat} {f : Nat → Int32} (hB : isB σ b v cap f n) {a : Nat} {cs : List Int32} (hs : StrAt g a cs) : MG l g md_J5_inflateIfNeededFor_a7421 [.ref b, .ref a] σ (rs none σ) := by
  refine MG.intro (by decide +kernel) (Nat.le_of_ble_eq_true rfl) (fun X hx hR _ => ?_)
  refine g_ls [0, 1] [(0, .ref b), (1, .ref a)] rfl ?_
  refine g_gets hx 0 (.int 1) hK.1.1 fl_J5_18 dJ5_inflateIfNeededFor_a7421_0 ?_
  refine g_if_eq hx 3 21 dJ5_inflateIfNeededFor_a7421_3 (by decide) (fun hc => absurd hc (by decide)) (fun _ => ?_)
  refine g_aload_n hx 6 (i := 0) 0 dJ5_inflateIfNeededFor_a7421_6 rfl rfl ?_
  refine g_get hx 7 (C := RJ4) (T := TJ4) (N := 4) 1 (.int 0) hB.1 rfl (by decide) rfl fl_J5_22 dJ5_inflateIfNeededFor_a7421_7 ?_
  refine g_aload_n hx 10 (i := 1) 1 dJ5_inflateIfNeededFor_a7421_10 rfl rfl ?_
  refine g_callX hx (c_J0_coder l g hK.1 σ hs) lk_J5_40 ar_J0_coder (fun U hU => (hs.choose_spec U hU).1) (As := []) (rest := [.int 0]) rfl (Nat.le_of_ble_eq_true rfl) ⟨Nat.le_of_ble_eq_true rfl, Nat.le_of_ble_eq_true rfl⟩ ⟨rfl, rfl⟩ ⟨Nat.zero_le _, Nat.zero_le _⟩ dJ5_inflateIfNeededFor_a7421_11 ?_
  refine g_icmp_eq hx 14 21 dJ5_inflateIfNeededFor_a7421_14 (by decide) (fun _ => ?_) (fun hc => absurd rfl hc)
  exact g_vret hx hR 21 dJ5_inflateIfNeededFor_a7421_21 ⟨rfl, rfl⟩
set_option maxRecDepth 100000 in
set_option maxHeartbeats 4000000 in
theorem c_getBytes (l : Launch) (g : Gl) (hK : KB g) {σ : Hp} {v cap n a : Nat} {f : Nat → Int32} {cs : List Int32} (hv : σ.2 v = some (eB cap f)) (hn : n + cs.length ≤ cap) (hc : cap ≤ 902) (hf : fitB (fun j => cs.getD j 0)) (hs : StrAt g a cs) : MG l g md_J0_getBytes_840e7 [.ref a, .ref v, .int (nI n), .int 0] σ (rs none (hset σ v (eB cap (va_cpy (fun j => cs.getD j 0) f 0 n cs.length)))) := by
  obtain ⟨w, hw⟩ := id hs
  refine MG.intro (by decide +kernel) (Nat.le_of_ble_eq_true rfl) (fun X hx hR _ => ?_)
  refine g_ls [0, 1, 2, 3] [(0, .ref a), (1, .ref v), (2, .int (nI n)), (3, .int 0)] rfl ?_
  refine g_aload_n hx 0 (i := 0) 0 dJ0_getBytes_840e7_0 rfl rfl ?_
  refine g_callX hx (c_J0_coder l g hK.1 σ hs) lk_J0_335 ar_J0_coder (fun U hU => (hs.choose_spec U hU).1) (As := []) (rest := []) rfl (Nat.le_of_ble_eq_true rfl) ⟨Nat.le_of_ble_eq_true rfl, Nat.le_of_ble_eq_true rfl⟩ ⟨rfl, rfl⟩ ⟨Nat.zero_le _, Nat.zero_le _⟩ dJ0_getBytes_840e7_1 ?_
  refine g_iload_n hx 4 (i := 3) 3 dJ0_getBytes_840e7_4 rfl rfl ?_
  refine g_icmp_ne hx 5 28 dJ0_getBytes_840e7_5 (by decide) (fun hc => absurd rfl hc) (fun _ => ?_)
  refine g_aload_n hx 8 (i := 0) 0 dJ0_getBytes_840e7_8 rfl rfl ?_
  refine g_getX hx 9 (ref := "java/lang/String") (.ref w) (fun U hU => (hw U hU).2.2.1) fl_J0_9 dJ0_getBytes_840e7_9 ?_
  refine g_iconst hx 12 (0) dJ0_getBytes_840e7_12 rfl ?_
  refine g_aload_n hx 13 (i := 1) 1 dJ0_getBytes_840e7_13 rfl rfl ?_
  refine g_iload_n hx 14 (i := 2) 2 dJ0_getBytes_840e7_14 rfl rfl ?_
  refine g_iload_n hx 15 (i := 3) 3 dJ0_getBytes_840e7_15 rfl rfl ?_
  refine g_ishl hx 16 dJ0_getBytes_840e7_16 ?_
  refine g_nmi (x := nI n) (sb_shl0 _).symm ?_
  refine g_aload_n hx 17 (i := 0) 0 dJ0_getBytes_840e7_17 rfl rfl ?_
  refine g_getX hx 18 (ref := "java/lang/String") (.ref w) (fun U hU => (hw U hU).2.2.1) fl_J0_9 dJ0_getBytes_840e7_18 ?_
  refine g_tlen hx 21 (fun U hU => (hw U hU).2.2.2) dJ0_getBytes_840e7_21 ?_
  refine g_copyT hx 22 (n0 := cs.length) (f := fun j => cs.getD j 0) (fun U hU => (hw U hU).2.2.2) hv ac_J0_212 (by decide) (nI_pos (by omega)) (nI_pos (by omega)) (by rw [tn0, nI_clamp (by omega)]; omega) (by rw [nI_clamp (by omega), nI_clamp (by omega)]; omega) hf (Nat.le_of_ble_eq_true rfl) ⟨Nat.le_of_ble_eq_true rfl, Nat.le_of_ble_eq_true rfl⟩ dJ0_getBytes_840e7_22 ?_
  rw [tn0, nI_clamp (show cs.length < 2 ^ 31 by omega), nI_clamp (show n < 2 ^ 31 by omega)]
  refine g_goto hx 25 43 dJ0_getBytes_840e7_25 (by decide) ?_
  exact g_vret hx hR 43 dJ0_getBytes_840e7_43 ⟨rfl, rfl⟩
set_option maxRecDepth 100000 in
set_option maxHeartbeats 4000000 in
theorem c_putStringAt (l : Launch) (g : Gl) (hK : KB g) {σ : Hp} {b v cap n : Nat} {f : Nat → Int32} (hB : isB σ b v cap f n) {a : Nat} {cs : List Int32} (hs : StrAt g a cs) (hn : n + cs.length ≤ cap) (hf : fitB (fun j => cs.getD j 0)) : MG l g md_J5_putStringAt_47b60 [.ref b, .int (nI n), .ref a] σ (rs none (hset σ v (eB cap (va_cpy (fun j => cs.getD j 0) f 0 n cs.length)))) := by
  refine MG.intro (by decide +kernel) (Nat.le_of_ble_eq_true rfl) (fun X hx hR _ => ?_)
  refine g_ls [0, 1, 2] [(0, .ref b), (1, .int (nI n)), (2, .ref a)] rfl ?_
  refine g_aload_n hx 0 (i := 0) 0 dJ5_putStringAt_47b60_0 rfl rfl ?_
  refine g_aload_n hx 1 (i := 2) 2 dJ5_putStringAt_47b60_1 rfl rfl ?_
  refine g_callP hx (c_inflateIf l g hK hB hs) lp_J5_397 hK (List.mem_of_getElem? (i := 3) rfl) rfl (show (parseMethodDescriptor yJ5_inflateIfNeededFor_a7421.desc).map (fun d => d.parameters.length) = some 1 by decide +kernel) hB.1 (As := [.ref a]) (rest := []) rfl (Nat.le_of_ble_eq_true rfl) ⟨Nat.le_of_ble_eq_true rfl, Nat.le_of_ble_eq_true rfl⟩ ⟨Nat.le_of_ble_eq_true rfl, Nat.le_of_ble_eq_true rfl⟩ dJ5_putStringAt_47b60_2 (fun r σ1 hp => ?_)
  obtain ⟨rfl, rfl⟩ := hp
  show G X σ1 0 0 5 [(0, .ref b), (1, .int (nI n)), (2, .ref a)] []
  refine g_aload_n hx 5 (i := 2) 2 dJ5_putStringAt_47b60_5 rfl rfl ?_
  refine g_aload_n hx 6 (i := 0) 0 dJ5_putStringAt_47b60_6 rfl rfl ?_
  refine g_get hx 7 (C := RJ4) (T := TJ4) (N := 4) 0 (.ref v) hB.1 rfl (by decide) rfl fl_J5_15 dJ5_putStringAt_47b60_7 ?_
  refine g_iload_n hx 10 (i := 1) 1 dJ5_putStringAt_47b60_10 rfl rfl ?_
  refine g_aload_n hx 11 (i := 0) 0 dJ5_putStringAt_47b60_11 rfl rfl ?_
  refine g_get hx 12 (C := RJ4) (T := TJ4) (N := 4) 1 (.int 0) hB.1 rfl (by decide) rfl fl_J5_22 dJ5_putStringAt_47b60_12 ?_
  refine g_callXk hx (c_getBytes l g hK hB.2.1 hn hB.2.2.2.2.2 hf hs) lk_J5_399 ar_J0_getBytes (fun U hU => (hs.choose_spec U hU).1) (As := [.ref v, .int (nI n), .int 0]) (rest := []) rfl (Nat.le_of_ble_eq_true rfl) ⟨Nat.le_of_ble_eq_true rfl, Nat.le_of_ble_eq_true rfl⟩ ⟨Nat.zero_le _, Nat.zero_le _⟩ dJ5_putStringAt_47b60_15 (fun r σ2 hp => ?_)
  obtain ⟨rfl, rfl⟩ := hp
  exact g_vret hx hR 18 dJ5_putStringAt_47b60_18 ⟨rfl, rfl⟩
set_option maxRecDepth 100000 in
set_option maxHeartbeats 4000000 in
theorem c_J5_appendS (l : Launch) (g : Gl) (hK : KB g) {σ : Hp} {b : Nat} {t : List Int32} (hb : SB σ b t) {a : Nat} {cs : List Int32} (hs : StrAt g a cs) (hf : fitB (fun j => cs.getD j 0)) (hq : t.length + cs.length ≤ 450) : MG l g md_J5_append_cf1ce [.ref b, .ref a] σ (fun r σ' => r = some (.ref b) ∧ SB σ' b (t ++ cs) ∧ Kept σ σ' b) := by
  obtain ⟨v, cap, f, hB, hf0, ht⟩ := hb
  refine MG.intro (by decide +kernel) (Nat.le_of_ble_eq_true rfl) (fun X hx hR _ => ?_)
  refine g_ls [0, 1] [(0, .ref b), (1, .ref a)] rfl ?_
  refine g_aload_n hx 0 (i := 1) 1 dJ5_append_cf1ce_0 rfl rfl ?_
  refine g_ifnonnull hx 1 9 dJ5_append_cf1ce_1 (by decide) ?_
  refine g_aload_n hx 9 (i := 1) 1 dJ5_append_cf1ce_9 rfl rfl ?_
  refine g_callX hx (c_J0_length l g hK.1 σ hs (by omega)) lk_J5_32 ar_J0_length (fun U hU => (hs.choose_spec U hU).1) (As := []) (rest := []) rfl (Nat.le_of_ble_eq_true rfl) ⟨Nat.le_of_ble_eq_true rfl, Nat.le_of_ble_eq_true rfl⟩ ⟨rfl, rfl⟩ ⟨Nat.zero_le _, Nat.zero_le _⟩ dJ5_append_cf1ce_10 ?_
  refine g_istore_n hx 13 (i := 2) [(2, .int (nI cs.length)), (0, .ref b), (1, .ref a)] dJ5_append_cf1ce_13 rfl (by decide) rfl ?_
  refine g_aload_n hx 14 (i := 0) 1 dJ5_append_cf1ce_14 rfl rfl ?_
  refine g_aload_n hx 15 (i := 0) 1 dJ5_append_cf1ce_15 rfl rfl ?_
  refine g_get hx 16 (C := RJ4) (T := TJ4) (N := 4) 3 (.int (nI t.length)) hB.1 rfl (by decide) rfl fl_J5_79 dJ5_append_cf1ce_16 ?_
  refine g_iload_n hx 19 (i := 2) 0 dJ5_append_cf1ce_19 rfl rfl ?_
  refine g_iadd hx 20 dJ5_append_cf1ce_20 ?_
  refine g_nmi (x := nI (t.length + cs.length)) (nI_add _ _).symm ?_
  refine g_callP hx (c_ensure l g hK hB hf0 hq) lp_J5_100 hK (List.mem_of_getElem? (i := 0) rfl) rfl (show (parseMethodDescriptor yJ5_ensureCapacityInternal_d00df.desc).map (fun d => d.parameters.length) = some 1 by decide +kernel) hB.1 (As := [.int (nI (t.length + cs.length))]) (rest := []) rfl (Nat.le_of_ble_eq_true rfl) ⟨Nat.le_of_ble_eq_true rfl, Nat.le_of_ble_eq_true rfl⟩ ⟨Nat.le_of_ble_eq_true rfl, Nat.le_of_ble_eq_true rfl⟩ dJ5_append_cf1ce_21 (fun r σ1 hp => ?_)
  obtain ⟨rfl, v', cap', f', hB', hf', hj', hq', hk'⟩ := hp
  show G X σ1 1 902 24 [(2, .int (nI cs.length)), (0, .ref b), (1, .ref a)] []
  refine g_aload_n hx 24 (i := 0) 1 dJ5_append_cf1ce_24 rfl rfl ?_
  refine g_aload_n hx 25 (i := 0) 1 dJ5_append_cf1ce_25 rfl rfl ?_
  refine g_get hx 26 (C := RJ4) (T := TJ4) (N := 4) 3 (.int (nI t.length)) hB'.1 rfl (by decide) rfl fl_J5_79 dJ5_append_cf1ce_26 ?_
  refine g_aload_n hx 29 (i := 1) 2 dJ5_append_cf1ce_29 rfl rfl ?_
  refine g_callP hx (c_putStringAt l g hK hB' hs hq' hf) lp_J5_208 hK (List.mem_of_getElem? (i := 2) rfl) rfl (show (parseMethodDescriptor yJ5_putStringAt_47b60.desc).map (fun d => d.parameters.length) = some 2 by decide +kernel) hB'.1 (As := [.int (nI t.length), .ref a]) (rest := []) rfl (Nat.le_of_ble_eq_true rfl) ⟨Nat.le_of_ble_eq_true rfl, Nat.le_of_ble_eq_true rfl⟩ ⟨Nat.le_of_ble_eq_true rfl, Nat.le_of_ble_eq_true rfl⟩ dJ5_append_cf1ce_30 (fun r σ2 hp => ?_)
  obtain ⟨rfl, rfl⟩ := hp
  show G X (hset σ1 v' (eB cap' (va_cpy (fun j => cs.getD j 0) f' 0 t.length cs.length))) 1 902 33 [(2, .int (nI cs.length)), (0, .ref b), (1, .ref a)] []
  have hb' : (hset σ1 v' (eB cap' (va_cpy (fun j => cs.getD j 0) f' 0 t.length cs.length))).2 b = some (bO v' t.length) := (hset_ne _ _ (by have := hB'.2.2.1; omega)).trans hB'.1
  refine g_aload_n hx 33 (i := 0) 1 dJ5_append_cf1ce_33 rfl rfl ?_
  refine g_dup hx 34 dJ5_append_cf1ce_34 rfl ?_
  refine g_get hx 35 (C := RJ4) (T := TJ4) (N := 4) 3 (.int (nI t.length)) hb' rfl (by decide) rfl fl_J5_79 dJ5_append_cf1ce_35 ?_
  refine g_iload_n hx 38 (i := 2) 0 dJ5_append_cf1ce_38 rfl rfl ?_
  refine g_iadd hx 39 dJ5_append_cf1ce_39 ?_
  refine g_nmi (x := nI (t.length + cs.length)) (nI_add _ _).symm ?_
  refine g_put hx 40 (C := RJ4) (T := TJ4) (N := 4) 3 .int _ hb' rfl (by decide) fl_J5_79 rfl rfl rfl rfl (Nat.le_of_ble_eq_true rfl) rfl dJ5_append_cf1ce_40 ?_
  refine g_aload_n hx 43 (i := 0) 1 dJ5_append_cf1ce_43 rfl rfl ?_
  refine g_aret hx hR 44 (Or.inr ⟨_, rfl⟩) dJ5_append_cf1ce_44 ⟨rfl, ⟨v', cap', _, ⟨by rw [List.length_append]; exact hset_self _ _ _, (hset_ne _ _ (by have := hB'.2.2.1; omega)).trans (hset_self _ _ _), hB'.2.2.1, hB'.2.2.2.1, by rw [List.length_append]; exact hq', hB'.2.2.2.2.2⟩, fit_cpy hf hf' _ _ _, fun j hj => ?_⟩, Kept.hset (Kept.hset hk' (by have := hB'.2.2.1; omega) _) (Nat.le_refl _) _⟩
  rw [List.length_append] at hj
  rw [j_gd]
  unfold va_cpy
  by_cases h : j < t.length
  · rw [if_neg (by omega), if_pos h, hj' j h, ht j h]
  · rw [if_pos ⟨by omega, by omega⟩, if_neg h, Nat.zero_add]
set_option maxRecDepth 100000 in
set_option maxHeartbeats 4000000 in
theorem c_J4_appendS (l : Launch) (g : Gl) (hK : KB g) {σ : Hp} {b : Nat} {t : List Int32} (hb : SB σ b t) {a : Nat} {cs : List Int32} (hs : StrAt g a cs) (hf : fitB (fun j => cs.getD j 0)) (hq : t.length + cs.length ≤ 450) : MG l g md_J4_append_15ec4 [.ref b, .ref a] σ (fun r σ' => r = some (.ref b) ∧ SB σ' b (t ++ cs) ∧ Kept σ σ' b) := by
  refine MG.intro (by decide +kernel) (Nat.le_of_ble_eq_true rfl) (fun X hx hR _ => ?_)
  refine g_ls [0, 1] [(0, .ref b), (1, .ref a)] rfl ?_
  refine g_aload_n hx 0 (i := 0) 0 dJ4_append_15ec4_0 rfl rfl ?_
  refine g_aload_n hx 1 (i := 1) 1 dJ4_append_15ec4_1 rfl rfl ?_
  refine g_callSU hx (c_J5_appendS l g hK hb hs hf hq) ls_J4_append_15ec4 ⟨by show yJ5_append_cf1ce.name ≠ "<init>"; decide +kernel, show (parseMethodDescriptor yJ5_append_cf1ce.desc).map (fun d => d.parameters.length) = some 1 by decide +kernel⟩ hb.choose_spec.choose_spec.choose_spec.1.1 (C := RJ4) (T := TJ4) (N := 4) rfl (As := [.ref a]) (rest := []) rfl (Nat.le_of_ble_eq_true rfl) ⟨Nat.le_of_ble_eq_true rfl, Nat.le_of_ble_eq_true rfl⟩ ⟨Nat.le_of_ble_eq_true rfl, Nat.le_of_ble_eq_true rfl⟩ dJ4_append_15ec4_2 (fun r σ1 hp => ?_)
  obtain ⟨rfl, hp1, hp2⟩ := hp
  show G X σ1 1 902 5 [(0, .ref b), (1, .ref a)] [.ref b]
  refine g_pop hx 5 dJ4_append_15ec4_5 rfl ?_
  refine g_aload_n hx 6 (i := 0) 0 dJ4_append_15ec4_6 rfl rfl ?_
  exact g_aret hx hR 7 (Or.inr ⟨_, rfl⟩) dJ4_append_15ec4_7 ⟨rfl, hp1, hp2⟩
set_option maxRecDepth 100000 in
set_option maxHeartbeats 4000000 in
theorem c_J4_bridge (l : Launch) (g : Gl) (hK : KB g) {σ : Hp} {b : Nat} {t : List Int32} (hb : SB σ b t) {a : Nat} {cs : List Int32} (hs : StrAt g a cs) (hf : fitB (fun j => cs.getD j 0)) (hq : t.length + cs.length ≤ 450) : MG l g md_J4_append_cf1ce [.ref b, .ref a] σ (fun r σ' => r = some (.ref b) ∧ SB σ' b (t ++ cs) ∧ Kept σ σ' b) := by
  refine MG.intro (by decide +kernel) (Nat.le_of_ble_eq_true rfl) (fun X hx hR _ => ?_)
  refine g_ls [0, 1] [(0, .ref b), (1, .ref a)] rfl ?_
  refine g_aload_n hx 0 (i := 0) 0 dJ4_append_cf1ce_0 rfl rfl ?_
  refine g_aload_n hx 1 (i := 1) 1 dJ4_append_cf1ce_1 rfl rfl ?_
  refine g_callV hx (c_J4_appendS l g hK hb hs hf hq) lk_J4_23 ar_J4_append hb.choose_spec.choose_spec.choose_spec.1.1 (T := TJ4) (N := 4) rfl (As := [.ref a]) (rest := []) rfl (Nat.le_of_ble_eq_true rfl) ⟨Nat.le_of_ble_eq_true rfl, Nat.le_of_ble_eq_true rfl⟩ ⟨Nat.le_of_ble_eq_true rfl, Nat.le_of_ble_eq_true rfl⟩ dJ4_append_cf1ce_2 (fun r σ1 hp => ?_)
  obtain ⟨rfl, hp1, hp2⟩ := hp
  exact g_aret hx hR 5 (Or.inr ⟨_, rfl⟩) dJ4_append_cf1ce_5 ⟨rfl, hp1, hp2⟩
