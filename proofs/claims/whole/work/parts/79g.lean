/-! the law: its cases -/
theorem lkw_days : LkW RL 212 md_L_days hh_days := ⟨aw1 (by decide +kernel), aw1 (by decide +kernel), aw1 (by decide +kernel), aw1 (by decide +kernel)⟩
theorem arw_days : Arity md_L_days 3 := ⟨by decide +kernel, by decide +kernel, by decide +kernel⟩
theorem lkl_214 : Lk md_Md_days [.methodLink RL 214 md_Md_days.y, .instanceMethod md_Md_days.y, .selects md_Md_days.y.cls md_Md_days.y md_Md_days.y] := lk_of (by decide +kernel)
theorem arl_214 : Arity md_Md_days 1 := ⟨by decide +kernel, by decide +kernel, by decide +kernel⟩
theorem lkw_misfile : LkW RL 215 md_L_misfile hh_misfile := ⟨aw1 (by decide +kernel), aw1 (by decide +kernel), aw1 (by decide +kernel), aw1 (by decide +kernel)⟩
theorem arw_misfile : Arity md_L_misfile 4 := ⟨by decide +kernel, by decide +kernel, by decide +kernel⟩
theorem lkl_217 : Lk md_Md_misfile [.methodLink RL 217 md_Md_misfile.y, .instanceMethod md_Md_misfile.y, .selects md_Md_misfile.y.cls md_Md_misfile.y md_Md_misfile.y] := lk_of (by decide +kernel)
theorem arl_217 : Arity md_Md_misfile 2 := ⟨by decide +kernel, by decide +kernel, by decide +kernel⟩
theorem lkw_straighten : LkW RL 218 md_L_straighten hh_straighten := ⟨aw1 (by decide +kernel), aw1 (by decide +kernel), aw1 (by decide +kernel), aw1 (by decide +kernel)⟩
theorem arw_straighten : Arity md_L_straighten 3 := ⟨by decide +kernel, by decide +kernel, by decide +kernel⟩
theorem lkl_220 : Lk md_Md_straighten [.methodLink RL 220 md_Md_straighten.y, .instanceMethod md_Md_straighten.y, .selects md_Md_straighten.y.cls md_Md_straighten.y md_Md_straighten.y] := lk_of (by decide +kernel)
theorem arl_220 : Arity md_Md_straighten 1 := ⟨by decide +kernel, by decide +kernel, by decide +kernel⟩
theorem lkw_check : LkW RL 221 md_L_check hh_check := ⟨aw1 (by decide +kernel), aw1 (by decide +kernel), aw1 (by decide +kernel), aw1 (by decide +kernel)⟩
theorem arw_check : Arity md_L_check 3 := ⟨by decide +kernel, by decide +kernel, by decide +kernel⟩
theorem lkl_223 : Lk md_Md_check [.methodLink RL 223 md_Md_check.y, .instanceMethod md_Md_check.y, .selects md_Md_check.y.cls md_Md_check.y md_Md_check.y] := lk_of (by decide +kernel)
theorem arl_223 : Arity md_Md_check 1 := ⟨by decide +kernel, by decide +kernel, by decide +kernel⟩
theorem lkw_setEmbargo : LkW RL 224 md_L_setEmbargo hh_setEmbargo := ⟨aw1 (by decide +kernel), aw1 (by decide +kernel), aw1 (by decide +kernel), aw1 (by decide +kernel)⟩
theorem arw_setEmbargo : Arity md_L_setEmbargo 4 := ⟨by decide +kernel, by decide +kernel, by decide +kernel⟩
theorem lkl_226 : Lk md_Md_setEmbargo [.methodLink RL 226 md_Md_setEmbargo.y, .instanceMethod md_Md_setEmbargo.y, .selects md_Md_setEmbargo.y.cls md_Md_setEmbargo.y md_Md_setEmbargo.y] := lk_of (by decide +kernel)
theorem arl_226 : Arity md_Md_setEmbargo 2 := ⟨by decide +kernel, by decide +kernel, by decide +kernel⟩
theorem lkw_play : LkW RL 227 md_L_play hh_play := ⟨aw1 (by decide +kernel), aw1 (by decide +kernel), aw1 (by decide +kernel), aw1 (by decide +kernel)⟩
theorem arw_play : Arity md_L_play 3 := ⟨by decide +kernel, by decide +kernel, by decide +kernel⟩
theorem lkl_229 : Lk md_Md_play [.methodLink RL 229 md_Md_play.y, .instanceMethod md_Md_play.y, .selects md_Md_play.y.cls md_Md_play.y md_Md_play.y] := lk_of (by decide +kernel)
theorem arl_229 : Arity md_Md_play 1 := ⟨by decide +kernel, by decide +kernel, by decide +kernel⟩
theorem lkl_230 : Lk md_SA_format [.methodLink RL 230 md_SA_format.y, .instanceMethod md_SA_format.y, .selects md_SA_format.y.cls md_SA_format.y md_SA_format.y] := lk_of (by decide +kernel)
theorem arl_230 : Arity md_SA_format 0 := ⟨by decide +kernel, by decide +kernel, by decide +kernel⟩
theorem lkl_233 : Lk md_Md_format [.methodLink RL 233 md_Md_format.y, .instanceMethod md_Md_format.y, .selects md_Md_format.y.cls md_Md_format.y md_Md_format.y] := lk_of (by decide +kernel)
theorem arl_233 : Arity md_Md_format 0 := ⟨by decide +kernel, by decide +kernel, by decide +kernel⟩
theorem lkl_234 : Lk md_SA_formattedByte [.methodLink RL 234 md_SA_formattedByte.y, .instanceMethod md_SA_formattedByte.y, .selects md_SA_formattedByte.y.cls md_SA_formattedByte.y md_SA_formattedByte.y] := lk_of (by decide +kernel)
theorem arl_234 : Arity md_SA_formattedByte 1 := ⟨by decide +kernel, by decide +kernel, by decide +kernel⟩
theorem lkl_237 : Lk md_Md_formattedByte [.methodLink RL 237 md_Md_formattedByte.y, .instanceMethod md_Md_formattedByte.y, .selects md_Md_formattedByte.y.cls md_Md_formattedByte.y md_Md_formattedByte.y] := lk_of (by decide +kernel)
theorem arl_237 : Arity md_Md_formattedByte 1 := ⟨by decide +kernel, by decide +kernel, by decide +kernel⟩
theorem lkl_238 : Lk md_SA_undoCount [.methodLink RL 238 md_SA_undoCount.y, .instanceMethod md_SA_undoCount.y, .selects md_SA_undoCount.y.cls md_SA_undoCount.y md_SA_undoCount.y] := lk_of (by decide +kernel)
theorem arl_238 : Arity md_SA_undoCount 0 := ⟨by decide +kernel, by decide +kernel, by decide +kernel⟩
theorem lkl_241 : Lk md_Md_undoCount [.methodLink RL 241 md_Md_undoCount.y, .instanceMethod md_Md_undoCount.y, .selects md_Md_undoCount.y.cls md_Md_undoCount.y md_Md_undoCount.y] := lk_of (by decide +kernel)
theorem arl_241 : Arity md_Md_undoCount 0 := ⟨by decide +kernel, by decide +kernel, by decide +kernel⟩
theorem lkl_242 : Lk md_SA_undo [.methodLink RL 242 md_SA_undo.y, .instanceMethod md_SA_undo.y, .selects md_SA_undo.y.cls md_SA_undo.y md_SA_undo.y] := lk_of (by decide +kernel)
theorem arl_242 : Arity md_SA_undo 0 := ⟨by decide +kernel, by decide +kernel, by decide +kernel⟩
theorem lkl_245 : Lk md_Md_undo [.methodLink RL 245 md_Md_undo.y, .instanceMethod md_Md_undo.y, .selects md_Md_undo.y.cls md_Md_undo.y md_Md_undo.y] := lk_of (by decide +kernel)
theorem arl_245 : Arity md_Md_undo 0 := ⟨by decide +kernel, by decide +kernel, by decide +kernel⟩
theorem lkl_246 : Lk md_SA_saveSnapshot [.methodLink RL 246 md_SA_saveSnapshot.y, .instanceMethod md_SA_saveSnapshot.y, .selects md_SA_saveSnapshot.y.cls md_SA_saveSnapshot.y md_SA_saveSnapshot.y] := lk_of (by decide +kernel)
theorem arl_246 : Arity md_SA_saveSnapshot 0 := ⟨by decide +kernel, by decide +kernel, by decide +kernel⟩
theorem lkl_249 : Lk md_Md_saveSnapshot [.methodLink RL 249 md_Md_saveSnapshot.y, .instanceMethod md_Md_saveSnapshot.y, .selects md_Md_saveSnapshot.y.cls md_Md_saveSnapshot.y md_Md_saveSnapshot.y] := lk_of (by decide +kernel)
theorem arl_249 : Arity md_Md_saveSnapshot 0 := ⟨by decide +kernel, by decide +kernel, by decide +kernel⟩
theorem lkl_250 : Lk md_SA_restoreSnapshot [.methodLink RL 250 md_SA_restoreSnapshot.y, .instanceMethod md_SA_restoreSnapshot.y, .selects md_SA_restoreSnapshot.y.cls md_SA_restoreSnapshot.y md_SA_restoreSnapshot.y] := lk_of (by decide +kernel)
theorem arl_250 : Arity md_SA_restoreSnapshot 0 := ⟨by decide +kernel, by decide +kernel, by decide +kernel⟩
theorem lkl_254 : Lk md_Md_restoreSnapshot [.methodLink RL 254 md_Md_restoreSnapshot.y, .instanceMethod md_Md_restoreSnapshot.y, .selects md_Md_restoreSnapshot.y.cls md_Md_restoreSnapshot.y md_Md_restoreSnapshot.y] := lk_of (by decide +kernel)
theorem arl_254 : Arity md_Md_restoreSnapshot 0 := ⟨by decide +kernel, by decide +kernel, by decide +kernel⟩
set_option maxRecDepth 100000 in
set_option maxHeartbeats 4000000 in
theorem law_34 {X : Cx} {l : Launch} {g : Gl} {ad ae : Nat → Nat} (hx : Ok X l g RL cL_law 9 room_1) (hC : KAll g ad ae) (hN : KN g) (hl : l.stackTraces = false) {b L B T o i k n : Nat} {xs : Nat → Int32} (hs : Scr g b L xs) (hi : i + 6 ≤ L) (hL : L ≤ 3072) (hlay : Lay B T o) (hk : k + 1 ≤ room_1.cells ∧ n + 6 ≤ room_1.slots) {σ : Hp} {W : WM} {M : MdM} {f : Nat → Int64} (h : WRel W M) (ho : σ.2 o = some (eJ 1 f)) (next : LN X B T o ad ae k n [(4, .int (nI i)), (0, .ref b), (1, .ref B), (2, .ref T), (3, .ref o)]) : G X (LW σ B T ad ae W M) k n 1594 [(4, .int (nI i)), (0, .ref b), (1, .ref B), (2, .ref T), (3, .ref o)] [] := by
  refine g_aload_n hx 1594 (i := 1) 2 dL_law_1594 rfl rfl ?_
  refine g_aload_n hx 1595 (i := 0) 1 dL_law_1595 rfl rfl ?_
  refine g_iload hx 1596 (i := 4) 0 dL_law_1596 rfl ?_
  refine g_iconst hx 1598 (1) dL_law_1598 rfl ?_
  refine g_iadd hx 1599 dL_law_1599 ?_
  refine g_sld hx 1600 hs (vpi (j := 1) hi hL (by decide) _ rfl) dL_law_1600 ?_
  refine g_aload_n hx 1601 (i := 3) 4 dL_law_1601 rfl rfl ?_
  rcases f_days h (xs (nI i + 1).toNatClampNeg) with ⟨kx, b9, M1, e1, e2, e9, hw⟩ | ⟨v, W1, M1, e1, e2, e9, hw⟩
  · refine g_callW hx (c_L_days l g hC hN hl (putMd σ T (owF ad) 0 M) B W (xs (nI i + 1).toNatClampNeg) (o := o) (LW.out hlay ho) hlay.1 e1 (fun k hk9 => ki_days W (xs (nI i + 1).toNatClampNeg) k (e1.trans (congrArg some hk9)))) lkw_days arw_days (As := [.ref B, .int (xs (nI i + 1).toNatClampNeg), .ref o]) (rest := []) rfl (Nat.le_of_ble_eq_true rfl) ⟨Nat.le_of_ble_eq_true rfl, Nat.le_of_ble_eq_true rfl⟩ hk dL_law_1602 (fun v9 σ9 hp => ?_)
    obtain ⟨k9, h9, rfl, h8⟩ := Or.resolve_right hp (fun q => by obtain ⟨u9, h9, -, -⟩ := q; cases h9)
    cases h9
    obtain ⟨z, σm⟩ := σ9
    cases h8
    refine G.heap (show _ = LW (z, σ.2) B T ad ae W M from rfl) ?_
    refine g_istore hx 1605 (i := 5) [(5, .int (ci1 kx)), (4, .int (nI i)), (0, .ref b), (1, .ref B), (2, .ref T), (3, .ref o)] dL_law_1605 (by decide) rfl ?_
    refine g_aload_n hx 1607 (i := 2) 4 dL_law_1607 rfl rfl ?_
    refine g_aload_n hx 1608 (i := 0) 2 dL_law_1608 rfl rfl ?_
    refine g_iload hx 1609 (i := 4) 1 dL_law_1609 rfl ?_
    refine g_iconst hx 1611 (1) dL_law_1611 rfl ?_
    refine g_iadd hx 1612 dL_law_1612 ?_
    refine g_sld hx 1613 hs (vpi (j := 1) hi hL (by decide) _ rfl) dL_law_1613 ?_
    refine G.heap (LW.md (ad := ad) hlay) ?_
    refine g_callVr hx (c_Md_days (ρ := 0) (by decide) l g (putW (z, σ.2) B ae W) T (owF ad) M (xs (nI i + 1).toNatClampNeg) e2) lkl_214 arl_214 (pM_o (putW (z, σ.2) B ae W) T (owF ad) 0 M) (T := TX11) (N := 30) rfl (As := [.int (xs (nI i + 1).toNatClampNeg)]) (rest := []) rfl (Nat.le_of_ble_eq_true rfl) ⟨Nat.le_of_ble_eq_true rfl, Nat.le_of_ble_eq_true rfl⟩ ⟨rfl, rfl⟩ hk dL_law_1614 ?_
    refine G.heap (LW.md (ad := ad) hlay).symm ?_
    refine g_istore hx 1617 (i := 6) [(6, .int b9), (5, .int (ci1 kx)), (4, .int (nI i)), (0, .ref b), (1, .ref B), (2, .ref T), (3, .ref o)] dL_law_1617 (by decide) rfl ?_
    refine g_aload_n hx 1619 (i := 2) 5 dL_law_1619 rfl rfl ?_
    refine G.heap (LW.md (ad := ad) hlay) ?_
    refine g_callVr hx (c_Md_thrown (ρ := 0) (by decide) l g (putW (z, σ.2) B ae W) T (owF ad) M1 rfl) lkl_90 arl_90 (pM_o (putW (z, σ.2) B ae W) T (owF ad) 0 M1) (T := TX11) (N := 30) rfl (As := []) (rest := []) rfl (Nat.le_of_ble_eq_true rfl) ⟨Nat.le_of_ble_eq_true rfl, Nat.le_of_ble_eq_true rfl⟩ ⟨rfl, rfl⟩ hk dL_law_1620 ?_
    refine G.heap (LW.md (ad := ad) hlay).symm ?_
    refine g_iload hx 1623 (i := 5) 1 dL_law_1623 rfl ?_
    refine g_icmp_eq hx 1625 1630 dL_law_1625 (by decide) (fun _ => ?_) (fun hq => absurd e9 hq)
    refine g_iload hx 1630 (i := 5) 1 dL_law_1630 rfl ?_
    refine g_if_ne hx 1632 1647 dL_law_1632 (by decide) (fun _ => ?_) (fun hq => absurd hq (ci_n _))
    refine g_goto hx 1647 2042 dL_law_1647 (by decide) ?_
    refine g_ls [2, 3, 4, 5, 6] [(4, .int (nI i)), (0, .ref b), (1, .ref B), (2, .ref T), (3, .ref o)] rfl ?_
    exact next _ _ _ _ hw ho
  · refine g_callW hx (c_L_days l g hC hN hl (putMd σ T (owF ad) 0 M) B W (xs (nI i + 1).toNatClampNeg) (o := o) (LW.out hlay ho) hlay.1 e1 (fun k hk9 => ki_days W (xs (nI i + 1).toNatClampNeg) k (e1.trans (congrArg some hk9)))) lkw_days arw_days (As := [.ref B, .int (xs (nI i + 1).toNatClampNeg), .ref o]) (rest := []) rfl (Nat.le_of_ble_eq_true rfl) ⟨Nat.le_of_ble_eq_true rfl, Nat.le_of_ble_eq_true rfl⟩ hk dL_law_1602 (fun v9 σ9 hp => ?_)
    obtain ⟨u9, h9, rfl, rfl⟩ := Or.resolve_left hp (fun q => by obtain ⟨k9, h9, -, -⟩ := q; cases h9)
    cases h9
    refine G.heap (LW.set hlay _) ?_
    refine g_istore hx 1605 (i := 5) [(5, .int (0)), (4, .int (nI i)), (0, .ref b), (1, .ref B), (2, .ref T), (3, .ref o)] dL_law_1605 (by decide) rfl ?_
    refine g_aload_n hx 1607 (i := 2) 4 dL_law_1607 rfl rfl ?_
    refine g_aload_n hx 1608 (i := 0) 2 dL_law_1608 rfl rfl ?_
    refine g_iload hx 1609 (i := 4) 1 dL_law_1609 rfl ?_
    refine g_iconst hx 1611 (1) dL_law_1611 rfl ?_
    refine g_iadd hx 1612 dL_law_1612 ?_
    refine g_sld hx 1613 hs (vpi (j := 1) hi hL (by decide) _ rfl) dL_law_1613 ?_
    refine G.heap (LW.md (ad := ad) hlay) ?_
    refine g_callVr hx (c_Md_days (ρ := 0) (by decide) l g (putW (hset σ o (eJ 1 (vp_updL f 0 v.toInt64))) B ae W1) T (owF ad) M (xs (nI i + 1).toNatClampNeg) e2) lkl_214 arl_214 (pM_o (putW (hset σ o (eJ 1 (vp_updL f 0 v.toInt64))) B ae W1) T (owF ad) 0 M) (T := TX11) (N := 30) rfl (As := [.int (xs (nI i + 1).toNatClampNeg)]) (rest := []) rfl (Nat.le_of_ble_eq_true rfl) ⟨Nat.le_of_ble_eq_true rfl, Nat.le_of_ble_eq_true rfl⟩ ⟨rfl, rfl⟩ hk dL_law_1614 ?_
    refine G.heap (LW.md (ad := ad) hlay).symm ?_
    refine g_istore hx 1617 (i := 6) [(6, .int v), (5, .int (0)), (4, .int (nI i)), (0, .ref b), (1, .ref B), (2, .ref T), (3, .ref o)] dL_law_1617 (by decide) rfl ?_
    refine g_aload_n hx 1619 (i := 2) 5 dL_law_1619 rfl rfl ?_
    refine G.heap (LW.md (ad := ad) hlay) ?_
    refine g_callVr hx (c_Md_thrown (ρ := 0) (by decide) l g (putW (hset σ o (eJ 1 (vp_updL f 0 v.toInt64))) B ae W1) T (owF ad) M1 rfl) lkl_90 arl_90 (pM_o (putW (hset σ o (eJ 1 (vp_updL f 0 v.toInt64))) B ae W1) T (owF ad) 0 M1) (T := TX11) (N := 30) rfl (As := []) (rest := []) rfl (Nat.le_of_ble_eq_true rfl) ⟨Nat.le_of_ble_eq_true rfl, Nat.le_of_ble_eq_true rfl⟩ ⟨rfl, rfl⟩ hk dL_law_1620 ?_
    refine G.heap (LW.md (ad := ad) hlay).symm ?_
    refine g_iload hx 1623 (i := 5) 1 dL_law_1623 rfl ?_
    refine g_icmp_eq hx 1625 1630 dL_law_1625 (by decide) (fun _ => ?_) (fun hq => absurd e9 hq)
    refine g_iload hx 1630 (i := 5) 1 dL_law_1630 rfl ?_
    refine g_if_ne hx 1632 1647 dL_law_1632 (by decide) (fun hq => absurd rfl hq) (fun _ => ?_)
    refine g_aload_n hx 1635 (i := 3) 6 dL_law_1635 rfl rfl ?_
    refine g_iconst hx 1636 (0) dL_law_1636 rfl ?_
    refine g_lald hx 1637 (pW_out _ B ae W1 hlay.1 |>.trans (LW.out hlay (hset_self _ _ _))) vp01 dL_law_1637 ?_
    refine g_iload hx 1638 (i := 6) 0 dL_law_1638 rfl ?_
    refine g_i2l hx 1640 dL_law_1640 ?_
    refine g_lcmp hx 1641 dL_law_1641 ?_
    refine g_if_eq hx 1642 1647 dL_law_1642 (by decide) (fun _ => ?_) (fun hq => absurd (cmp_ll _) hq)
    refine g_goto hx 1647 2042 dL_law_1647 (by decide) ?_
    refine g_ls [2, 3, 4, 5, 6] [(4, .int (nI i)), (0, .ref b), (1, .ref B), (2, .ref T), (3, .ref o)] rfl ?_
    exact next _ _ _ _ hw (hset_self _ _ _)
set_option maxRecDepth 100000 in
set_option maxHeartbeats 4000000 in
theorem law_35 {X : Cx} {l : Launch} {g : Gl} {ad ae : Nat → Nat} (hx : Ok X l g RL cL_law 9 room_1) (hC : KAll g ad ae) (hN : KN g) (hl : l.stackTraces = false) {b L B T o i k n : Nat} {xs : Nat → Int32} (hs : Scr g b L xs) (hi : i + 6 ≤ L) (hL : L ≤ 3072) (hlay : Lay B T o) (hk : k + 1 ≤ room_1.cells ∧ n + 6 ≤ room_1.slots) {σ : Hp} {W : WM} {M : MdM} {f : Nat → Int64} (h : WRel W M) (ho : σ.2 o = some (eJ 1 f)) (next : LN X B T o ad ae k n [(4, .int (nI i)), (0, .ref b), (1, .ref B), (2, .ref T), (3, .ref o)]) : G X (LW σ B T ad ae W M) k n 1650 [(4, .int (nI i)), (0, .ref b), (1, .ref B), (2, .ref T), (3, .ref o)] [] := by
  refine g_aload_n hx 1650 (i := 1) 2 dL_law_1650 rfl rfl ?_
  refine g_aload_n hx 1651 (i := 0) 1 dL_law_1651 rfl rfl ?_
  refine g_iload hx 1652 (i := 4) 0 dL_law_1652 rfl ?_
  refine g_iconst hx 1654 (1) dL_law_1654 rfl ?_
  refine g_iadd hx 1655 dL_law_1655 ?_
  refine g_sld hx 1656 hs (vpi (j := 1) hi hL (by decide) _ rfl) dL_law_1656 ?_
  refine g_aload_n hx 1657 (i := 0) 1 dL_law_1657 rfl rfl ?_
  refine g_iload hx 1658 (i := 4) 0 dL_law_1658 rfl ?_
  refine g_iconst hx 1660 (2) dL_law_1660 rfl ?_
  refine g_iadd hx 1661 dL_law_1661 ?_
  refine g_sld hx 1662 hs (vpi (j := 2) hi hL (by decide) _ rfl) dL_law_1662 ?_
  refine g_aload_n hx 1663 (i := 3) 4 dL_law_1663 rfl rfl ?_
  rcases f_misfile h (xs (nI i + 1).toNatClampNeg) (xs (nI i + 2).toNatClampNeg) with ⟨kx, b9, M1, e1, e2, e9, hw⟩ | ⟨v, W1, M1, e1, e2, e9, hw⟩
  · refine g_callW hx (c_L_misfile l g hC hN hl (putMd σ T (owF ad) 0 M) B W (xs (nI i + 1).toNatClampNeg) (xs (nI i + 2).toNatClampNeg) (o := o) (LW.out hlay ho) hlay.1 e1 (fun k hk9 => ki_misfile W (xs (nI i + 1).toNatClampNeg) (xs (nI i + 2).toNatClampNeg) k (e1.trans (congrArg some hk9)))) lkw_misfile arw_misfile (As := [.ref B, .int (xs (nI i + 1).toNatClampNeg), .int (xs (nI i + 2).toNatClampNeg), .ref o]) (rest := []) rfl (Nat.le_of_ble_eq_true rfl) ⟨Nat.le_of_ble_eq_true rfl, Nat.le_of_ble_eq_true rfl⟩ hk dL_law_1664 (fun v9 σ9 hp => ?_)
    obtain ⟨k9, h9, rfl, h8⟩ := Or.resolve_right hp (fun q => by obtain ⟨u9, h9, -, -⟩ := q; cases h9)
    cases h9
    obtain ⟨z, σm⟩ := σ9
    cases h8
    refine G.heap (show _ = LW (z, σ.2) B T ad ae W M from rfl) ?_
    refine g_istore hx 1667 (i := 5) [(5, .int (ci1 kx)), (4, .int (nI i)), (0, .ref b), (1, .ref B), (2, .ref T), (3, .ref o)] dL_law_1667 (by decide) rfl ?_
    refine g_aload_n hx 1669 (i := 2) 4 dL_law_1669 rfl rfl ?_
    refine g_aload_n hx 1670 (i := 0) 2 dL_law_1670 rfl rfl ?_
    refine g_iload hx 1671 (i := 4) 1 dL_law_1671 rfl ?_
    refine g_iconst hx 1673 (1) dL_law_1673 rfl ?_
    refine g_iadd hx 1674 dL_law_1674 ?_
    refine g_sld hx 1675 hs (vpi (j := 1) hi hL (by decide) _ rfl) dL_law_1675 ?_
    refine g_aload_n hx 1676 (i := 0) 2 dL_law_1676 rfl rfl ?_
    refine g_iload hx 1677 (i := 4) 1 dL_law_1677 rfl ?_
    refine g_iconst hx 1679 (2) dL_law_1679 rfl ?_
    refine g_iadd hx 1680 dL_law_1680 ?_
    refine g_sld hx 1681 hs (vpi (j := 2) hi hL (by decide) _ rfl) dL_law_1681 ?_
    refine G.heap (LW.md (ad := ad) hlay) ?_
    refine g_callVr hx (c_Md_misfile (ρ := 0) (by decide) l g (putW (z, σ.2) B ae W) T (owF ad) M (xs (nI i + 1).toNatClampNeg) (xs (nI i + 2).toNatClampNeg) e2) lkl_217 arl_217 (pM_o (putW (z, σ.2) B ae W) T (owF ad) 0 M) (T := TX11) (N := 30) rfl (As := [.int (xs (nI i + 1).toNatClampNeg), .int (xs (nI i + 2).toNatClampNeg)]) (rest := []) rfl (Nat.le_of_ble_eq_true rfl) ⟨Nat.le_of_ble_eq_true rfl, Nat.le_of_ble_eq_true rfl⟩ ⟨rfl, rfl⟩ hk dL_law_1682 ?_
    refine G.heap (LW.md (ad := ad) hlay).symm ?_
    refine g_istore hx 1685 (i := 6) [(6, .int b9), (5, .int (ci1 kx)), (4, .int (nI i)), (0, .ref b), (1, .ref B), (2, .ref T), (3, .ref o)] dL_law_1685 (by decide) rfl ?_
    refine g_aload_n hx 1687 (i := 2) 5 dL_law_1687 rfl rfl ?_
    refine G.heap (LW.md (ad := ad) hlay) ?_
    refine g_callVr hx (c_Md_thrown (ρ := 0) (by decide) l g (putW (z, σ.2) B ae W) T (owF ad) M1 rfl) lkl_90 arl_90 (pM_o (putW (z, σ.2) B ae W) T (owF ad) 0 M1) (T := TX11) (N := 30) rfl (As := []) (rest := []) rfl (Nat.le_of_ble_eq_true rfl) ⟨Nat.le_of_ble_eq_true rfl, Nat.le_of_ble_eq_true rfl⟩ ⟨rfl, rfl⟩ hk dL_law_1688 ?_
    refine G.heap (LW.md (ad := ad) hlay).symm ?_
    refine g_iload hx 1691 (i := 5) 1 dL_law_1691 rfl ?_
    refine g_icmp_eq hx 1693 1698 dL_law_1693 (by decide) (fun _ => ?_) (fun hq => absurd e9 hq)
    refine g_iload hx 1698 (i := 5) 1 dL_law_1698 rfl ?_
    refine g_if_ne hx 1700 1715 dL_law_1700 (by decide) (fun _ => ?_) (fun hq => absurd hq (ci_n _))
    refine g_goto hx 1715 2042 dL_law_1715 (by decide) ?_
    refine g_ls [2, 3, 4, 5, 6] [(4, .int (nI i)), (0, .ref b), (1, .ref B), (2, .ref T), (3, .ref o)] rfl ?_
    exact next _ _ _ _ hw ho
  · refine g_callW hx (c_L_misfile l g hC hN hl (putMd σ T (owF ad) 0 M) B W (xs (nI i + 1).toNatClampNeg) (xs (nI i + 2).toNatClampNeg) (o := o) (LW.out hlay ho) hlay.1 e1 (fun k hk9 => ki_misfile W (xs (nI i + 1).toNatClampNeg) (xs (nI i + 2).toNatClampNeg) k (e1.trans (congrArg some hk9)))) lkw_misfile arw_misfile (As := [.ref B, .int (xs (nI i + 1).toNatClampNeg), .int (xs (nI i + 2).toNatClampNeg), .ref o]) (rest := []) rfl (Nat.le_of_ble_eq_true rfl) ⟨Nat.le_of_ble_eq_true rfl, Nat.le_of_ble_eq_true rfl⟩ hk dL_law_1664 (fun v9 σ9 hp => ?_)
    obtain ⟨u9, h9, rfl, rfl⟩ := Or.resolve_left hp (fun q => by obtain ⟨k9, h9, -, -⟩ := q; cases h9)
    cases h9
    refine G.heap (LW.set hlay _) ?_
    refine g_istore hx 1667 (i := 5) [(5, .int (0)), (4, .int (nI i)), (0, .ref b), (1, .ref B), (2, .ref T), (3, .ref o)] dL_law_1667 (by decide) rfl ?_
    refine g_aload_n hx 1669 (i := 2) 4 dL_law_1669 rfl rfl ?_
    refine g_aload_n hx 1670 (i := 0) 2 dL_law_1670 rfl rfl ?_
    refine g_iload hx 1671 (i := 4) 1 dL_law_1671 rfl ?_
    refine g_iconst hx 1673 (1) dL_law_1673 rfl ?_
    refine g_iadd hx 1674 dL_law_1674 ?_
    refine g_sld hx 1675 hs (vpi (j := 1) hi hL (by decide) _ rfl) dL_law_1675 ?_
    refine g_aload_n hx 1676 (i := 0) 2 dL_law_1676 rfl rfl ?_
    refine g_iload hx 1677 (i := 4) 1 dL_law_1677 rfl ?_
    refine g_iconst hx 1679 (2) dL_law_1679 rfl ?_
    refine g_iadd hx 1680 dL_law_1680 ?_
    refine g_sld hx 1681 hs (vpi (j := 2) hi hL (by decide) _ rfl) dL_law_1681 ?_
    refine G.heap (LW.md (ad := ad) hlay) ?_
    refine g_callVr hx (c_Md_misfile (ρ := 0) (by decide) l g (putW (hset σ o (eJ 1 (vp_updL f 0 v.toInt64))) B ae W1) T (owF ad) M (xs (nI i + 1).toNatClampNeg) (xs (nI i + 2).toNatClampNeg) e2) lkl_217 arl_217 (pM_o (putW (hset σ o (eJ 1 (vp_updL f 0 v.toInt64))) B ae W1) T (owF ad) 0 M) (T := TX11) (N := 30) rfl (As := [.int (xs (nI i + 1).toNatClampNeg), .int (xs (nI i + 2).toNatClampNeg)]) (rest := []) rfl (Nat.le_of_ble_eq_true rfl) ⟨Nat.le_of_ble_eq_true rfl, Nat.le_of_ble_eq_true rfl⟩ ⟨rfl, rfl⟩ hk dL_law_1682 ?_
    refine G.heap (LW.md (ad := ad) hlay).symm ?_
    refine g_istore hx 1685 (i := 6) [(6, .int v), (5, .int (0)), (4, .int (nI i)), (0, .ref b), (1, .ref B), (2, .ref T), (3, .ref o)] dL_law_1685 (by decide) rfl ?_
    refine g_aload_n hx 1687 (i := 2) 5 dL_law_1687 rfl rfl ?_
    refine G.heap (LW.md (ad := ad) hlay) ?_
    refine g_callVr hx (c_Md_thrown (ρ := 0) (by decide) l g (putW (hset σ o (eJ 1 (vp_updL f 0 v.toInt64))) B ae W1) T (owF ad) M1 rfl) lkl_90 arl_90 (pM_o (putW (hset σ o (eJ 1 (vp_updL f 0 v.toInt64))) B ae W1) T (owF ad) 0 M1) (T := TX11) (N := 30) rfl (As := []) (rest := []) rfl (Nat.le_of_ble_eq_true rfl) ⟨Nat.le_of_ble_eq_true rfl, Nat.le_of_ble_eq_true rfl⟩ ⟨rfl, rfl⟩ hk dL_law_1688 ?_
    refine G.heap (LW.md (ad := ad) hlay).symm ?_
    refine g_iload hx 1691 (i := 5) 1 dL_law_1691 rfl ?_
    refine g_icmp_eq hx 1693 1698 dL_law_1693 (by decide) (fun _ => ?_) (fun hq => absurd e9 hq)
    refine g_iload hx 1698 (i := 5) 1 dL_law_1698 rfl ?_
    refine g_if_ne hx 1700 1715 dL_law_1700 (by decide) (fun hq => absurd rfl hq) (fun _ => ?_)
    refine g_aload_n hx 1703 (i := 3) 6 dL_law_1703 rfl rfl ?_
    refine g_iconst hx 1704 (0) dL_law_1704 rfl ?_
    refine g_lald hx 1705 (pW_out _ B ae W1 hlay.1 |>.trans (LW.out hlay (hset_self _ _ _))) vp01 dL_law_1705 ?_
    refine g_iload hx 1706 (i := 6) 0 dL_law_1706 rfl ?_
    refine g_i2l hx 1708 dL_law_1708 ?_
    refine g_lcmp hx 1709 dL_law_1709 ?_
    refine g_if_eq hx 1710 1715 dL_law_1710 (by decide) (fun _ => ?_) (fun hq => absurd (cmp_ll _) hq)
    refine g_goto hx 1715 2042 dL_law_1715 (by decide) ?_
    refine g_ls [2, 3, 4, 5, 6] [(4, .int (nI i)), (0, .ref b), (1, .ref B), (2, .ref T), (3, .ref o)] rfl ?_
    exact next _ _ _ _ hw (hset_self _ _ _)
set_option maxRecDepth 100000 in
set_option maxHeartbeats 4000000 in
theorem law_36 {X : Cx} {l : Launch} {g : Gl} {ad ae : Nat → Nat} (hx : Ok X l g RL cL_law 9 room_1) (hC : KAll g ad ae) (hN : KN g) (hl : l.stackTraces = false) {b L B T o i k n : Nat} {xs : Nat → Int32} (hs : Scr g b L xs) (hi : i + 6 ≤ L) (hL : L ≤ 3072) (hlay : Lay B T o) (hk : k + 1 ≤ room_1.cells ∧ n + 6 ≤ room_1.slots) {σ : Hp} {W : WM} {M : MdM} {f : Nat → Int64} (h : WRel W M) (ho : σ.2 o = some (eJ 1 f)) (next : LN X B T o ad ae k n [(4, .int (nI i)), (0, .ref b), (1, .ref B), (2, .ref T), (3, .ref o)]) : G X (LW σ B T ad ae W M) k n 1718 [(4, .int (nI i)), (0, .ref b), (1, .ref B), (2, .ref T), (3, .ref o)] [] := by
  refine g_aload_n hx 1718 (i := 1) 2 dL_law_1718 rfl rfl ?_
  refine g_aload_n hx 1719 (i := 0) 1 dL_law_1719 rfl rfl ?_
  refine g_iload hx 1720 (i := 4) 0 dL_law_1720 rfl ?_
  refine g_iconst hx 1722 (1) dL_law_1722 rfl ?_
  refine g_iadd hx 1723 dL_law_1723 ?_
  refine g_sld hx 1724 hs (vpi (j := 1) hi hL (by decide) _ rfl) dL_law_1724 ?_
  refine g_aload_n hx 1725 (i := 3) 4 dL_law_1725 rfl rfl ?_
  rcases f_straighten h (xs (nI i + 1).toNatClampNeg) with ⟨kx, b9, M1, e1, e2, e9, hw⟩ | ⟨v, W1, M1, e1, e2, e9, hw⟩
  · refine g_callW hx (c_L_straighten l g hC hN hl (putMd σ T (owF ad) 0 M) B W (xs (nI i + 1).toNatClampNeg) (o := o) (LW.out hlay ho) hlay.1 e1 (fun k hk9 => ki_straighten W (xs (nI i + 1).toNatClampNeg) k (e1.trans (congrArg some hk9)))) lkw_straighten arw_straighten (As := [.ref B, .int (xs (nI i + 1).toNatClampNeg), .ref o]) (rest := []) rfl (Nat.le_of_ble_eq_true rfl) ⟨Nat.le_of_ble_eq_true rfl, Nat.le_of_ble_eq_true rfl⟩ hk dL_law_1726 (fun v9 σ9 hp => ?_)
    obtain ⟨k9, h9, rfl, h8⟩ := Or.resolve_right hp (fun q => by obtain ⟨u9, h9, -, -⟩ := q; cases h9)
    cases h9
    obtain ⟨z, σm⟩ := σ9
    cases h8
    refine G.heap (show _ = LW (z, σ.2) B T ad ae W M from rfl) ?_
    refine g_istore hx 1729 (i := 5) [(5, .int (ci1 kx)), (4, .int (nI i)), (0, .ref b), (1, .ref B), (2, .ref T), (3, .ref o)] dL_law_1729 (by decide) rfl ?_
    refine g_aload_n hx 1731 (i := 2) 4 dL_law_1731 rfl rfl ?_
    refine g_aload_n hx 1732 (i := 0) 2 dL_law_1732 rfl rfl ?_
    refine g_iload hx 1733 (i := 4) 1 dL_law_1733 rfl ?_
    refine g_iconst hx 1735 (1) dL_law_1735 rfl ?_
    refine g_iadd hx 1736 dL_law_1736 ?_
    refine g_sld hx 1737 hs (vpi (j := 1) hi hL (by decide) _ rfl) dL_law_1737 ?_
    refine G.heap (LW.md (ad := ad) hlay) ?_
    refine g_callVr hx (c_Md_straighten (ρ := 0) (by decide) l g (putW (z, σ.2) B ae W) T (owF ad) M (xs (nI i + 1).toNatClampNeg) e2) lkl_220 arl_220 (pM_o (putW (z, σ.2) B ae W) T (owF ad) 0 M) (T := TX11) (N := 30) rfl (As := [.int (xs (nI i + 1).toNatClampNeg)]) (rest := []) rfl (Nat.le_of_ble_eq_true rfl) ⟨Nat.le_of_ble_eq_true rfl, Nat.le_of_ble_eq_true rfl⟩ ⟨rfl, rfl⟩ hk dL_law_1738 ?_
    refine G.heap (LW.md (ad := ad) hlay).symm ?_
    refine g_istore hx 1741 (i := 6) [(6, .int b9), (5, .int (ci1 kx)), (4, .int (nI i)), (0, .ref b), (1, .ref B), (2, .ref T), (3, .ref o)] dL_law_1741 (by decide) rfl ?_
    refine g_aload_n hx 1743 (i := 2) 5 dL_law_1743 rfl rfl ?_
    refine G.heap (LW.md (ad := ad) hlay) ?_
    refine g_callVr hx (c_Md_thrown (ρ := 0) (by decide) l g (putW (z, σ.2) B ae W) T (owF ad) M1 rfl) lkl_90 arl_90 (pM_o (putW (z, σ.2) B ae W) T (owF ad) 0 M1) (T := TX11) (N := 30) rfl (As := []) (rest := []) rfl (Nat.le_of_ble_eq_true rfl) ⟨Nat.le_of_ble_eq_true rfl, Nat.le_of_ble_eq_true rfl⟩ ⟨rfl, rfl⟩ hk dL_law_1744 ?_
    refine G.heap (LW.md (ad := ad) hlay).symm ?_
    refine g_iload hx 1747 (i := 5) 1 dL_law_1747 rfl ?_
    refine g_icmp_eq hx 1749 1754 dL_law_1749 (by decide) (fun _ => ?_) (fun hq => absurd e9 hq)
    refine g_iload hx 1754 (i := 5) 1 dL_law_1754 rfl ?_
    refine g_if_ne hx 1756 1771 dL_law_1756 (by decide) (fun _ => ?_) (fun hq => absurd hq (ci_n _))
    refine g_goto hx 1771 2042 dL_law_1771 (by decide) ?_
    refine g_ls [2, 3, 4, 5, 6] [(4, .int (nI i)), (0, .ref b), (1, .ref B), (2, .ref T), (3, .ref o)] rfl ?_
    exact next _ _ _ _ hw ho
  · refine g_callW hx (c_L_straighten l g hC hN hl (putMd σ T (owF ad) 0 M) B W (xs (nI i + 1).toNatClampNeg) (o := o) (LW.out hlay ho) hlay.1 e1 (fun k hk9 => ki_straighten W (xs (nI i + 1).toNatClampNeg) k (e1.trans (congrArg some hk9)))) lkw_straighten arw_straighten (As := [.ref B, .int (xs (nI i + 1).toNatClampNeg), .ref o]) (rest := []) rfl (Nat.le_of_ble_eq_true rfl) ⟨Nat.le_of_ble_eq_true rfl, Nat.le_of_ble_eq_true rfl⟩ hk dL_law_1726 (fun v9 σ9 hp => ?_)
    obtain ⟨u9, h9, rfl, rfl⟩ := Or.resolve_left hp (fun q => by obtain ⟨k9, h9, -, -⟩ := q; cases h9)
    cases h9
    refine G.heap (LW.set hlay _) ?_
    refine g_istore hx 1729 (i := 5) [(5, .int (0)), (4, .int (nI i)), (0, .ref b), (1, .ref B), (2, .ref T), (3, .ref o)] dL_law_1729 (by decide) rfl ?_
    refine g_aload_n hx 1731 (i := 2) 4 dL_law_1731 rfl rfl ?_
    refine g_aload_n hx 1732 (i := 0) 2 dL_law_1732 rfl rfl ?_
    refine g_iload hx 1733 (i := 4) 1 dL_law_1733 rfl ?_
    refine g_iconst hx 1735 (1) dL_law_1735 rfl ?_
    refine g_iadd hx 1736 dL_law_1736 ?_
    refine g_sld hx 1737 hs (vpi (j := 1) hi hL (by decide) _ rfl) dL_law_1737 ?_
    refine G.heap (LW.md (ad := ad) hlay) ?_
    refine g_callVr hx (c_Md_straighten (ρ := 0) (by decide) l g (putW (hset σ o (eJ 1 (vp_updL f 0 v.toInt64))) B ae W1) T (owF ad) M (xs (nI i + 1).toNatClampNeg) e2) lkl_220 arl_220 (pM_o (putW (hset σ o (eJ 1 (vp_updL f 0 v.toInt64))) B ae W1) T (owF ad) 0 M) (T := TX11) (N := 30) rfl (As := [.int (xs (nI i + 1).toNatClampNeg)]) (rest := []) rfl (Nat.le_of_ble_eq_true rfl) ⟨Nat.le_of_ble_eq_true rfl, Nat.le_of_ble_eq_true rfl⟩ ⟨rfl, rfl⟩ hk dL_law_1738 ?_
    refine G.heap (LW.md (ad := ad) hlay).symm ?_
    refine g_istore hx 1741 (i := 6) [(6, .int v), (5, .int (0)), (4, .int (nI i)), (0, .ref b), (1, .ref B), (2, .ref T), (3, .ref o)] dL_law_1741 (by decide) rfl ?_
    refine g_aload_n hx 1743 (i := 2) 5 dL_law_1743 rfl rfl ?_
    refine G.heap (LW.md (ad := ad) hlay) ?_
    refine g_callVr hx (c_Md_thrown (ρ := 0) (by decide) l g (putW (hset σ o (eJ 1 (vp_updL f 0 v.toInt64))) B ae W1) T (owF ad) M1 rfl) lkl_90 arl_90 (pM_o (putW (hset σ o (eJ 1 (vp_updL f 0 v.toInt64))) B ae W1) T (owF ad) 0 M1) (T := TX11) (N := 30) rfl (As := []) (rest := []) rfl (Nat.le_of_ble_eq_true rfl) ⟨Nat.le_of_ble_eq_true rfl, Nat.le_of_ble_eq_true rfl⟩ ⟨rfl, rfl⟩ hk dL_law_1744 ?_
    refine G.heap (LW.md (ad := ad) hlay).symm ?_
    refine g_iload hx 1747 (i := 5) 1 dL_law_1747 rfl ?_
    refine g_icmp_eq hx 1749 1754 dL_law_1749 (by decide) (fun _ => ?_) (fun hq => absurd e9 hq)
    refine g_iload hx 1754 (i := 5) 1 dL_law_1754 rfl ?_
    refine g_if_ne hx 1756 1771 dL_law_1756 (by decide) (fun hq => absurd rfl hq) (fun _ => ?_)
    refine g_aload_n hx 1759 (i := 3) 6 dL_law_1759 rfl rfl ?_
    refine g_iconst hx 1760 (0) dL_law_1760 rfl ?_
    refine g_lald hx 1761 (pW_out _ B ae W1 hlay.1 |>.trans (LW.out hlay (hset_self _ _ _))) vp01 dL_law_1761 ?_
    refine g_iload hx 1762 (i := 6) 0 dL_law_1762 rfl ?_
    refine g_i2l hx 1764 dL_law_1764 ?_
    refine g_lcmp hx 1765 dL_law_1765 ?_
    refine g_if_eq hx 1766 1771 dL_law_1766 (by decide) (fun _ => ?_) (fun hq => absurd (cmp_ll _) hq)
    refine g_goto hx 1771 2042 dL_law_1771 (by decide) ?_
    refine g_ls [2, 3, 4, 5, 6] [(4, .int (nI i)), (0, .ref b), (1, .ref B), (2, .ref T), (3, .ref o)] rfl ?_
    exact next _ _ _ _ hw (hset_self _ _ _)
set_option maxRecDepth 100000 in
set_option maxHeartbeats 4000000 in
theorem law_37 {X : Cx} {l : Launch} {g : Gl} {ad ae : Nat → Nat} (hx : Ok X l g RL cL_law 9 room_1) (hC : KAll g ad ae) (hN : KN g) (hl : l.stackTraces = false) {b L B T o i k n : Nat} {xs : Nat → Int32} (hs : Scr g b L xs) (hi : i + 6 ≤ L) (hL : L ≤ 3072) (hlay : Lay B T o) (hk : k + 1 ≤ room_1.cells ∧ n + 6 ≤ room_1.slots) {σ : Hp} {W : WM} {M : MdM} {f : Nat → Int64} (h : WRel W M) (ho : σ.2 o = some (eJ 1 f)) (next : LN X B T o ad ae k n [(4, .int (nI i)), (0, .ref b), (1, .ref B), (2, .ref T), (3, .ref o)]) : G X (LW σ B T ad ae W M) k n 1774 [(4, .int (nI i)), (0, .ref b), (1, .ref B), (2, .ref T), (3, .ref o)] [] := by
  refine g_aload_n hx 1774 (i := 1) 2 dL_law_1774 rfl rfl ?_
  refine g_aload_n hx 1775 (i := 0) 1 dL_law_1775 rfl rfl ?_
  refine g_iload hx 1776 (i := 4) 0 dL_law_1776 rfl ?_
  refine g_iconst hx 1778 (1) dL_law_1778 rfl ?_
  refine g_iadd hx 1779 dL_law_1779 ?_
  refine g_sld hx 1780 hs (vpi (j := 1) hi hL (by decide) _ rfl) dL_law_1780 ?_
  refine g_aload_n hx 1781 (i := 3) 4 dL_law_1781 rfl rfl ?_
  rcases f_check h (xs (nI i + 1).toNatClampNeg) with ⟨kx, b9, M1, e1, e2, e9, hw⟩ | ⟨v, W1, M1, e1, e2, e9, hw⟩
  · refine g_callW hx (c_L_check l g hC hN hl (putMd σ T (owF ad) 0 M) B W (xs (nI i + 1).toNatClampNeg) (o := o) (LW.out hlay ho) hlay.1 e1 (fun k hk9 => ki_check W (xs (nI i + 1).toNatClampNeg) k (e1.trans (congrArg some hk9)))) lkw_check arw_check (As := [.ref B, .int (xs (nI i + 1).toNatClampNeg), .ref o]) (rest := []) rfl (Nat.le_of_ble_eq_true rfl) ⟨Nat.le_of_ble_eq_true rfl, Nat.le_of_ble_eq_true rfl⟩ hk dL_law_1782 (fun v9 σ9 hp => ?_)
    obtain ⟨k9, h9, rfl, h8⟩ := Or.resolve_right hp (fun q => by obtain ⟨u9, h9, -, -⟩ := q; cases h9)
    cases h9
    obtain ⟨z, σm⟩ := σ9
    cases h8
    refine G.heap (show _ = LW (z, σ.2) B T ad ae W M from rfl) ?_
    refine g_istore hx 1785 (i := 5) [(5, .int (ci1 kx)), (4, .int (nI i)), (0, .ref b), (1, .ref B), (2, .ref T), (3, .ref o)] dL_law_1785 (by decide) rfl ?_
    refine g_aload_n hx 1787 (i := 2) 4 dL_law_1787 rfl rfl ?_
    refine g_aload_n hx 1788 (i := 0) 2 dL_law_1788 rfl rfl ?_
    refine g_iload hx 1789 (i := 4) 1 dL_law_1789 rfl ?_
    refine g_iconst hx 1791 (1) dL_law_1791 rfl ?_
    refine g_iadd hx 1792 dL_law_1792 ?_
    refine g_sld hx 1793 hs (vpi (j := 1) hi hL (by decide) _ rfl) dL_law_1793 ?_
    refine G.heap (LW.md (ad := ad) hlay) ?_
    refine g_callVr hx (c_Md_check (ρ := 0) (by decide) l g (putW (z, σ.2) B ae W) T (owF ad) M (xs (nI i + 1).toNatClampNeg) e2) lkl_223 arl_223 (pM_o (putW (z, σ.2) B ae W) T (owF ad) 0 M) (T := TX11) (N := 30) rfl (As := [.int (xs (nI i + 1).toNatClampNeg)]) (rest := []) rfl (Nat.le_of_ble_eq_true rfl) ⟨Nat.le_of_ble_eq_true rfl, Nat.le_of_ble_eq_true rfl⟩ ⟨rfl, rfl⟩ hk dL_law_1794 ?_
    refine G.heap (LW.md (ad := ad) hlay).symm ?_
    refine g_istore hx 1797 (i := 6) [(6, .int b9), (5, .int (ci1 kx)), (4, .int (nI i)), (0, .ref b), (1, .ref B), (2, .ref T), (3, .ref o)] dL_law_1797 (by decide) rfl ?_
    refine g_aload_n hx 1799 (i := 2) 5 dL_law_1799 rfl rfl ?_
    refine G.heap (LW.md (ad := ad) hlay) ?_
    refine g_callVr hx (c_Md_thrown (ρ := 0) (by decide) l g (putW (z, σ.2) B ae W) T (owF ad) M1 rfl) lkl_90 arl_90 (pM_o (putW (z, σ.2) B ae W) T (owF ad) 0 M1) (T := TX11) (N := 30) rfl (As := []) (rest := []) rfl (Nat.le_of_ble_eq_true rfl) ⟨Nat.le_of_ble_eq_true rfl, Nat.le_of_ble_eq_true rfl⟩ ⟨rfl, rfl⟩ hk dL_law_1800 ?_
    refine G.heap (LW.md (ad := ad) hlay).symm ?_
    refine g_iload hx 1803 (i := 5) 1 dL_law_1803 rfl ?_
    refine g_icmp_eq hx 1805 1810 dL_law_1805 (by decide) (fun _ => ?_) (fun hq => absurd e9 hq)
    refine g_iload hx 1810 (i := 5) 1 dL_law_1810 rfl ?_
    refine g_if_ne hx 1812 1827 dL_law_1812 (by decide) (fun _ => ?_) (fun hq => absurd hq (ci_n _))
    refine g_goto hx 1827 2042 dL_law_1827 (by decide) ?_
    refine g_ls [2, 3, 4, 5, 6] [(4, .int (nI i)), (0, .ref b), (1, .ref B), (2, .ref T), (3, .ref o)] rfl ?_
    exact next _ _ _ _ hw ho
  · refine g_callW hx (c_L_check l g hC hN hl (putMd σ T (owF ad) 0 M) B W (xs (nI i + 1).toNatClampNeg) (o := o) (LW.out hlay ho) hlay.1 e1 (fun k hk9 => ki_check W (xs (nI i + 1).toNatClampNeg) k (e1.trans (congrArg some hk9)))) lkw_check arw_check (As := [.ref B, .int (xs (nI i + 1).toNatClampNeg), .ref o]) (rest := []) rfl (Nat.le_of_ble_eq_true rfl) ⟨Nat.le_of_ble_eq_true rfl, Nat.le_of_ble_eq_true rfl⟩ hk dL_law_1782 (fun v9 σ9 hp => ?_)
    obtain ⟨u9, h9, rfl, rfl⟩ := Or.resolve_left hp (fun q => by obtain ⟨k9, h9, -, -⟩ := q; cases h9)
    cases h9
    refine G.heap (LW.set hlay _) ?_
    refine g_istore hx 1785 (i := 5) [(5, .int (0)), (4, .int (nI i)), (0, .ref b), (1, .ref B), (2, .ref T), (3, .ref o)] dL_law_1785 (by decide) rfl ?_
    refine g_aload_n hx 1787 (i := 2) 4 dL_law_1787 rfl rfl ?_
    refine g_aload_n hx 1788 (i := 0) 2 dL_law_1788 rfl rfl ?_
    refine g_iload hx 1789 (i := 4) 1 dL_law_1789 rfl ?_
    refine g_iconst hx 1791 (1) dL_law_1791 rfl ?_
    refine g_iadd hx 1792 dL_law_1792 ?_
    refine g_sld hx 1793 hs (vpi (j := 1) hi hL (by decide) _ rfl) dL_law_1793 ?_
    refine G.heap (LW.md (ad := ad) hlay) ?_
    refine g_callVr hx (c_Md_check (ρ := 0) (by decide) l g (putW (hset σ o (eJ 1 (vp_updL f 0 v.toInt64))) B ae W1) T (owF ad) M (xs (nI i + 1).toNatClampNeg) e2) lkl_223 arl_223 (pM_o (putW (hset σ o (eJ 1 (vp_updL f 0 v.toInt64))) B ae W1) T (owF ad) 0 M) (T := TX11) (N := 30) rfl (As := [.int (xs (nI i + 1).toNatClampNeg)]) (rest := []) rfl (Nat.le_of_ble_eq_true rfl) ⟨Nat.le_of_ble_eq_true rfl, Nat.le_of_ble_eq_true rfl⟩ ⟨rfl, rfl⟩ hk dL_law_1794 ?_
    refine G.heap (LW.md (ad := ad) hlay).symm ?_
    refine g_istore hx 1797 (i := 6) [(6, .int v), (5, .int (0)), (4, .int (nI i)), (0, .ref b), (1, .ref B), (2, .ref T), (3, .ref o)] dL_law_1797 (by decide) rfl ?_
    refine g_aload_n hx 1799 (i := 2) 5 dL_law_1799 rfl rfl ?_
    refine G.heap (LW.md (ad := ad) hlay) ?_
    refine g_callVr hx (c_Md_thrown (ρ := 0) (by decide) l g (putW (hset σ o (eJ 1 (vp_updL f 0 v.toInt64))) B ae W1) T (owF ad) M1 rfl) lkl_90 arl_90 (pM_o (putW (hset σ o (eJ 1 (vp_updL f 0 v.toInt64))) B ae W1) T (owF ad) 0 M1) (T := TX11) (N := 30) rfl (As := []) (rest := []) rfl (Nat.le_of_ble_eq_true rfl) ⟨Nat.le_of_ble_eq_true rfl, Nat.le_of_ble_eq_true rfl⟩ ⟨rfl, rfl⟩ hk dL_law_1800 ?_
    refine G.heap (LW.md (ad := ad) hlay).symm ?_
    refine g_iload hx 1803 (i := 5) 1 dL_law_1803 rfl ?_
    refine g_icmp_eq hx 1805 1810 dL_law_1805 (by decide) (fun _ => ?_) (fun hq => absurd e9 hq)
    refine g_iload hx 1810 (i := 5) 1 dL_law_1810 rfl ?_
    refine g_if_ne hx 1812 1827 dL_law_1812 (by decide) (fun hq => absurd rfl hq) (fun _ => ?_)
    refine g_aload_n hx 1815 (i := 3) 6 dL_law_1815 rfl rfl ?_
    refine g_iconst hx 1816 (0) dL_law_1816 rfl ?_
    refine g_lald hx 1817 (pW_out _ B ae W1 hlay.1 |>.trans (LW.out hlay (hset_self _ _ _))) vp01 dL_law_1817 ?_
    refine g_iload hx 1818 (i := 6) 0 dL_law_1818 rfl ?_
    refine g_i2l hx 1820 dL_law_1820 ?_
    refine g_lcmp hx 1821 dL_law_1821 ?_
    refine g_if_eq hx 1822 1827 dL_law_1822 (by decide) (fun _ => ?_) (fun hq => absurd (cmp_ll _) hq)
    refine g_goto hx 1827 2042 dL_law_1827 (by decide) ?_
    refine g_ls [2, 3, 4, 5, 6] [(4, .int (nI i)), (0, .ref b), (1, .ref B), (2, .ref T), (3, .ref o)] rfl ?_
    exact next _ _ _ _ hw (hset_self _ _ _)
set_option maxRecDepth 100000 in
set_option maxHeartbeats 4000000 in
theorem law_38 {X : Cx} {l : Launch} {g : Gl} {ad ae : Nat → Nat} (hx : Ok X l g RL cL_law 9 room_1) (hC : KAll g ad ae) (hN : KN g) (hl : l.stackTraces = false) {b L B T o i k n : Nat} {xs : Nat → Int32} (hs : Scr g b L xs) (hi : i + 6 ≤ L) (hL : L ≤ 3072) (hlay : Lay B T o) (hk : k + 1 ≤ room_1.cells ∧ n + 6 ≤ room_1.slots) {σ : Hp} {W : WM} {M : MdM} {f : Nat → Int64} (h : WRel W M) (ho : σ.2 o = some (eJ 1 f)) (next : LN X B T o ad ae k n [(4, .int (nI i)), (0, .ref b), (1, .ref B), (2, .ref T), (3, .ref o)]) : G X (LW σ B T ad ae W M) k n 1830 [(4, .int (nI i)), (0, .ref b), (1, .ref B), (2, .ref T), (3, .ref o)] [] := by
  refine g_aload_n hx 1830 (i := 1) 2 dL_law_1830 rfl rfl ?_
  refine g_aload_n hx 1831 (i := 0) 1 dL_law_1831 rfl rfl ?_
  refine g_iload hx 1832 (i := 4) 0 dL_law_1832 rfl ?_
  refine g_iconst hx 1834 (1) dL_law_1834 rfl ?_
  refine g_iadd hx 1835 dL_law_1835 ?_
  refine g_sld hx 1836 hs (vpi (j := 1) hi hL (by decide) _ rfl) dL_law_1836 ?_
  refine g_aload_n hx 1837 (i := 0) 1 dL_law_1837 rfl rfl ?_
  refine g_iload hx 1838 (i := 4) 0 dL_law_1838 rfl ?_
  refine g_iconst hx 1840 (2) dL_law_1840 rfl ?_
  refine g_iadd hx 1841 dL_law_1841 ?_
  refine g_sld hx 1842 hs (vpi (j := 2) hi hL (by decide) _ rfl) dL_law_1842 ?_
  refine g_aload_n hx 1843 (i := 3) 4 dL_law_1843 rfl rfl ?_
  rcases f_setEmbargo h (xs (nI i + 1).toNatClampNeg) (xs (nI i + 2).toNatClampNeg) with ⟨kx, b9, M1, e1, e2, e9, hw⟩ | ⟨v, W1, M1, e1, e2, e9, hw⟩
  · refine g_callW hx (c_L_setEmbargo l g hC hN hl (putMd σ T (owF ad) 0 M) B W (xs (nI i + 1).toNatClampNeg) (xs (nI i + 2).toNatClampNeg) (o := o) (LW.out hlay ho) hlay.1 e1) lkw_setEmbargo arw_setEmbargo (As := [.ref B, .int (xs (nI i + 1).toNatClampNeg), .int (xs (nI i + 2).toNatClampNeg), .ref o]) (rest := []) rfl (Nat.le_of_ble_eq_true rfl) ⟨Nat.le_of_ble_eq_true rfl, Nat.le_of_ble_eq_true rfl⟩ hk dL_law_1844 (fun v9 σ9 hp => ?_)
    obtain ⟨k9, h9, rfl, h8⟩ := Or.resolve_right hp (fun q => by obtain ⟨u9, h9, -, -⟩ := q; cases h9)
    cases h9
    obtain ⟨z, σm⟩ := σ9
    cases h8
    refine G.heap (show _ = LW (z, σ.2) B T ad ae W M from rfl) ?_
    refine g_istore hx 1847 (i := 5) [(5, .int (ci2 kx)), (4, .int (nI i)), (0, .ref b), (1, .ref B), (2, .ref T), (3, .ref o)] dL_law_1847 (by decide) rfl ?_
    refine g_aload_n hx 1849 (i := 2) 4 dL_law_1849 rfl rfl ?_
    refine g_aload_n hx 1850 (i := 0) 2 dL_law_1850 rfl rfl ?_
    refine g_iload hx 1851 (i := 4) 1 dL_law_1851 rfl ?_
    refine g_iconst hx 1853 (1) dL_law_1853 rfl ?_
    refine g_iadd hx 1854 dL_law_1854 ?_
    refine g_sld hx 1855 hs (vpi (j := 1) hi hL (by decide) _ rfl) dL_law_1855 ?_
    refine g_aload_n hx 1856 (i := 0) 2 dL_law_1856 rfl rfl ?_
    refine g_iload hx 1857 (i := 4) 1 dL_law_1857 rfl ?_
    refine g_iconst hx 1859 (2) dL_law_1859 rfl ?_
    refine g_iadd hx 1860 dL_law_1860 ?_
    refine g_sld hx 1861 hs (vpi (j := 2) hi hL (by decide) _ rfl) dL_law_1861 ?_
    refine G.heap (LW.md (ad := ad) hlay) ?_
    refine g_callVr hx (c_Md_setEmbargo (ρ := 0) (by decide) l g (putW (z, σ.2) B ae W) T (owF ad) M (xs (nI i + 1).toNatClampNeg) (xs (nI i + 2).toNatClampNeg) e2) lkl_226 arl_226 (pM_o (putW (z, σ.2) B ae W) T (owF ad) 0 M) (T := TX11) (N := 30) rfl (As := [.int (xs (nI i + 1).toNatClampNeg), .int (xs (nI i + 2).toNatClampNeg)]) (rest := []) rfl (Nat.le_of_ble_eq_true rfl) ⟨Nat.le_of_ble_eq_true rfl, Nat.le_of_ble_eq_true rfl⟩ ⟨rfl, rfl⟩ hk dL_law_1862 ?_
    refine G.heap (LW.md (ad := ad) hlay).symm ?_
    refine g_istore hx 1865 (i := 6) [(6, .int b9), (5, .int (ci2 kx)), (4, .int (nI i)), (0, .ref b), (1, .ref B), (2, .ref T), (3, .ref o)] dL_law_1865 (by decide) rfl ?_
    refine g_aload_n hx 1867 (i := 2) 5 dL_law_1867 rfl rfl ?_
    refine G.heap (LW.md (ad := ad) hlay) ?_
    refine g_callVr hx (c_Md_thrown (ρ := 0) (by decide) l g (putW (z, σ.2) B ae W) T (owF ad) M1 rfl) lkl_90 arl_90 (pM_o (putW (z, σ.2) B ae W) T (owF ad) 0 M1) (T := TX11) (N := 30) rfl (As := []) (rest := []) rfl (Nat.le_of_ble_eq_true rfl) ⟨Nat.le_of_ble_eq_true rfl, Nat.le_of_ble_eq_true rfl⟩ ⟨rfl, rfl⟩ hk dL_law_1868 ?_
    refine G.heap (LW.md (ad := ad) hlay).symm ?_
    refine g_iload hx 1871 (i := 5) 1 dL_law_1871 rfl ?_
    refine g_icmp_eq hx 1873 1878 dL_law_1873 (by decide) (fun _ => ?_) (fun hq => absurd e9 hq)
    refine g_iload hx 1878 (i := 5) 1 dL_law_1878 rfl ?_
    refine g_if_ne hx 1880 1895 dL_law_1880 (by decide) (fun _ => ?_) (fun hq => absurd hq (ci_n2 _))
    refine g_goto hx 1895 2042 dL_law_1895 (by decide) ?_
    refine g_ls [2, 3, 4, 5, 6] [(4, .int (nI i)), (0, .ref b), (1, .ref B), (2, .ref T), (3, .ref o)] rfl ?_
    exact next _ _ _ _ hw ho
  · refine g_callW hx (c_L_setEmbargo l g hC hN hl (putMd σ T (owF ad) 0 M) B W (xs (nI i + 1).toNatClampNeg) (xs (nI i + 2).toNatClampNeg) (o := o) (LW.out hlay ho) hlay.1 e1) lkw_setEmbargo arw_setEmbargo (As := [.ref B, .int (xs (nI i + 1).toNatClampNeg), .int (xs (nI i + 2).toNatClampNeg), .ref o]) (rest := []) rfl (Nat.le_of_ble_eq_true rfl) ⟨Nat.le_of_ble_eq_true rfl, Nat.le_of_ble_eq_true rfl⟩ hk dL_law_1844 (fun v9 σ9 hp => ?_)
    obtain ⟨u9, h9, rfl, rfl⟩ := Or.resolve_left hp (fun q => by obtain ⟨k9, h9, -, -⟩ := q; cases h9)
    cases h9
    refine G.heap (LW.set hlay _) ?_
    refine g_istore hx 1847 (i := 5) [(5, .int (0)), (4, .int (nI i)), (0, .ref b), (1, .ref B), (2, .ref T), (3, .ref o)] dL_law_1847 (by decide) rfl ?_
    refine g_aload_n hx 1849 (i := 2) 4 dL_law_1849 rfl rfl ?_
    refine g_aload_n hx 1850 (i := 0) 2 dL_law_1850 rfl rfl ?_
    refine g_iload hx 1851 (i := 4) 1 dL_law_1851 rfl ?_
    refine g_iconst hx 1853 (1) dL_law_1853 rfl ?_
    refine g_iadd hx 1854 dL_law_1854 ?_
    refine g_sld hx 1855 hs (vpi (j := 1) hi hL (by decide) _ rfl) dL_law_1855 ?_
    refine g_aload_n hx 1856 (i := 0) 2 dL_law_1856 rfl rfl ?_
    refine g_iload hx 1857 (i := 4) 1 dL_law_1857 rfl ?_
    refine g_iconst hx 1859 (2) dL_law_1859 rfl ?_
    refine g_iadd hx 1860 dL_law_1860 ?_
    refine g_sld hx 1861 hs (vpi (j := 2) hi hL (by decide) _ rfl) dL_law_1861 ?_
    refine G.heap (LW.md (ad := ad) hlay) ?_
    refine g_callVr hx (c_Md_setEmbargo (ρ := 0) (by decide) l g (putW (hset σ o (eJ 1 (vp_updL f 0 v.toInt64))) B ae W1) T (owF ad) M (xs (nI i + 1).toNatClampNeg) (xs (nI i + 2).toNatClampNeg) e2) lkl_226 arl_226 (pM_o (putW (hset σ o (eJ 1 (vp_updL f 0 v.toInt64))) B ae W1) T (owF ad) 0 M) (T := TX11) (N := 30) rfl (As := [.int (xs (nI i + 1).toNatClampNeg), .int (xs (nI i + 2).toNatClampNeg)]) (rest := []) rfl (Nat.le_of_ble_eq_true rfl) ⟨Nat.le_of_ble_eq_true rfl, Nat.le_of_ble_eq_true rfl⟩ ⟨rfl, rfl⟩ hk dL_law_1862 ?_
    refine G.heap (LW.md (ad := ad) hlay).symm ?_
    refine g_istore hx 1865 (i := 6) [(6, .int v), (5, .int (0)), (4, .int (nI i)), (0, .ref b), (1, .ref B), (2, .ref T), (3, .ref o)] dL_law_1865 (by decide) rfl ?_
    refine g_aload_n hx 1867 (i := 2) 5 dL_law_1867 rfl rfl ?_
    refine G.heap (LW.md (ad := ad) hlay) ?_
    refine g_callVr hx (c_Md_thrown (ρ := 0) (by decide) l g (putW (hset σ o (eJ 1 (vp_updL f 0 v.toInt64))) B ae W1) T (owF ad) M1 rfl) lkl_90 arl_90 (pM_o (putW (hset σ o (eJ 1 (vp_updL f 0 v.toInt64))) B ae W1) T (owF ad) 0 M1) (T := TX11) (N := 30) rfl (As := []) (rest := []) rfl (Nat.le_of_ble_eq_true rfl) ⟨Nat.le_of_ble_eq_true rfl, Nat.le_of_ble_eq_true rfl⟩ ⟨rfl, rfl⟩ hk dL_law_1868 ?_
    refine G.heap (LW.md (ad := ad) hlay).symm ?_
    refine g_iload hx 1871 (i := 5) 1 dL_law_1871 rfl ?_
    refine g_icmp_eq hx 1873 1878 dL_law_1873 (by decide) (fun _ => ?_) (fun hq => absurd e9 hq)
    refine g_iload hx 1878 (i := 5) 1 dL_law_1878 rfl ?_
    refine g_if_ne hx 1880 1895 dL_law_1880 (by decide) (fun hq => absurd rfl hq) (fun _ => ?_)
    refine g_aload_n hx 1883 (i := 3) 6 dL_law_1883 rfl rfl ?_
    refine g_iconst hx 1884 (0) dL_law_1884 rfl ?_
    refine g_lald hx 1885 (pW_out _ B ae W1 hlay.1 |>.trans (LW.out hlay (hset_self _ _ _))) vp01 dL_law_1885 ?_
    refine g_iload hx 1886 (i := 6) 0 dL_law_1886 rfl ?_
    refine g_i2l hx 1888 dL_law_1888 ?_
    refine g_lcmp hx 1889 dL_law_1889 ?_
    refine g_if_eq hx 1890 1895 dL_law_1890 (by decide) (fun _ => ?_) (fun hq => absurd (cmp_ll _) hq)
    refine g_goto hx 1895 2042 dL_law_1895 (by decide) ?_
    refine g_ls [2, 3, 4, 5, 6] [(4, .int (nI i)), (0, .ref b), (1, .ref B), (2, .ref T), (3, .ref o)] rfl ?_
    exact next _ _ _ _ hw (hset_self _ _ _)
set_option maxRecDepth 100000 in
set_option maxHeartbeats 4000000 in
theorem law_39 {X : Cx} {l : Launch} {g : Gl} {ad ae : Nat → Nat} (hx : Ok X l g RL cL_law 9 room_1) (hC : KAll g ad ae) (hN : KN g) (hl : l.stackTraces = false) {b L B T o i k n : Nat} {xs : Nat → Int32} (hs : Scr g b L xs) (hi : i + 6 ≤ L) (hL : L ≤ 3072) (hlay : Lay B T o) (hk : k + 1 ≤ room_1.cells ∧ n + 6 ≤ room_1.slots) {σ : Hp} {W : WM} {M : MdM} {f : Nat → Int64} (h : WRel W M) (ho : σ.2 o = some (eJ 1 f)) (next : LN X B T o ad ae k n [(4, .int (nI i)), (0, .ref b), (1, .ref B), (2, .ref T), (3, .ref o)]) : G X (LW σ B T ad ae W M) k n 1898 [(4, .int (nI i)), (0, .ref b), (1, .ref B), (2, .ref T), (3, .ref o)] [] := by
  refine g_aload_n hx 1898 (i := 1) 2 dL_law_1898 rfl rfl ?_
  refine g_aload_n hx 1899 (i := 0) 1 dL_law_1899 rfl rfl ?_
  refine g_iload hx 1900 (i := 4) 0 dL_law_1900 rfl ?_
  refine g_iconst hx 1902 (1) dL_law_1902 rfl ?_
  refine g_iadd hx 1903 dL_law_1903 ?_
  refine g_sld hx 1904 hs (vpi (j := 1) hi hL (by decide) _ rfl) dL_law_1904 ?_
  refine g_aload_n hx 1905 (i := 3) 4 dL_law_1905 rfl rfl ?_
  rcases f_play h (xs (nI i + 1).toNatClampNeg) with ⟨kx, b9, M1, e1, e2, e9, hw⟩ | ⟨v, W1, M1, e1, e2, e9, hw⟩
  · refine g_callW hx (c_L_play l g hC hN hl (putMd σ T (owF ad) 0 M) B W (xs (nI i + 1).toNatClampNeg) (o := o) (LW.out hlay ho) hlay.1 e1 (fun k hk9 => ki_play W (xs (nI i + 1).toNatClampNeg) k (e1.trans (congrArg some hk9)))) lkw_play arw_play (As := [.ref B, .int (xs (nI i + 1).toNatClampNeg), .ref o]) (rest := []) rfl (Nat.le_of_ble_eq_true rfl) ⟨Nat.le_of_ble_eq_true rfl, Nat.le_of_ble_eq_true rfl⟩ hk dL_law_1906 (fun v9 σ9 hp => ?_)
    obtain ⟨k9, h9, rfl, h8⟩ := Or.resolve_right hp (fun q => by obtain ⟨u9, h9, -, -⟩ := q; cases h9)
    cases h9
    obtain ⟨z, σm⟩ := σ9
    cases h8
    refine G.heap (show _ = LW (z, σ.2) B T ad ae W M from rfl) ?_
    refine g_istore hx 1909 (i := 5) [(5, .int (ci1 kx)), (4, .int (nI i)), (0, .ref b), (1, .ref B), (2, .ref T), (3, .ref o)] dL_law_1909 (by decide) rfl ?_
    refine g_aload_n hx 1911 (i := 2) 4 dL_law_1911 rfl rfl ?_
    refine g_aload_n hx 1912 (i := 0) 2 dL_law_1912 rfl rfl ?_
    refine g_iload hx 1913 (i := 4) 1 dL_law_1913 rfl ?_
    refine g_iconst hx 1915 (1) dL_law_1915 rfl ?_
    refine g_iadd hx 1916 dL_law_1916 ?_
    refine g_sld hx 1917 hs (vpi (j := 1) hi hL (by decide) _ rfl) dL_law_1917 ?_
    refine G.heap (LW.md (ad := ad) hlay) ?_
    refine g_callVr hx (c_Md_play l g hC.1 (putW (z, σ.2) B ae W) T M (xs (nI i + 1).toNatClampNeg) e2) lkl_229 arl_229 (pM_o (putW (z, σ.2) B ae W) T (owF ad) 0 M) (T := TX11) (N := 30) rfl (As := [.int (xs (nI i + 1).toNatClampNeg)]) (rest := []) rfl (Nat.le_of_ble_eq_true rfl) ⟨Nat.le_of_ble_eq_true rfl, Nat.le_of_ble_eq_true rfl⟩ ⟨rfl, rfl⟩ hk dL_law_1918 ?_
    refine G.heap (LW.md (ad := ad) hlay).symm ?_
    refine g_istore hx 1921 (i := 6) [(6, .int b9), (5, .int (ci1 kx)), (4, .int (nI i)), (0, .ref b), (1, .ref B), (2, .ref T), (3, .ref o)] dL_law_1921 (by decide) rfl ?_
    refine g_aload_n hx 1923 (i := 2) 5 dL_law_1923 rfl rfl ?_
    refine G.heap (LW.md (ad := ad) hlay) ?_
    refine g_callVr hx (c_Md_thrown (ρ := 0) (by decide) l g (putW (z, σ.2) B ae W) T (owF ad) M1 rfl) lkl_90 arl_90 (pM_o (putW (z, σ.2) B ae W) T (owF ad) 0 M1) (T := TX11) (N := 30) rfl (As := []) (rest := []) rfl (Nat.le_of_ble_eq_true rfl) ⟨Nat.le_of_ble_eq_true rfl, Nat.le_of_ble_eq_true rfl⟩ ⟨rfl, rfl⟩ hk dL_law_1924 ?_
    refine G.heap (LW.md (ad := ad) hlay).symm ?_
    refine g_iload hx 1927 (i := 5) 1 dL_law_1927 rfl ?_
    refine g_icmp_eq hx 1929 1934 dL_law_1929 (by decide) (fun _ => ?_) (fun hq => absurd e9 hq)
    refine g_iload hx 1934 (i := 5) 1 dL_law_1934 rfl ?_
    refine g_if_ne hx 1936 1951 dL_law_1936 (by decide) (fun _ => ?_) (fun hq => absurd hq (ci_n _))
    refine g_goto hx 1951 2042 dL_law_1951 (by decide) ?_
    refine g_ls [2, 3, 4, 5, 6] [(4, .int (nI i)), (0, .ref b), (1, .ref B), (2, .ref T), (3, .ref o)] rfl ?_
    exact next _ _ _ _ hw ho
  · refine g_callW hx (c_L_play l g hC hN hl (putMd σ T (owF ad) 0 M) B W (xs (nI i + 1).toNatClampNeg) (o := o) (LW.out hlay ho) hlay.1 e1 (fun k hk9 => ki_play W (xs (nI i + 1).toNatClampNeg) k (e1.trans (congrArg some hk9)))) lkw_play arw_play (As := [.ref B, .int (xs (nI i + 1).toNatClampNeg), .ref o]) (rest := []) rfl (Nat.le_of_ble_eq_true rfl) ⟨Nat.le_of_ble_eq_true rfl, Nat.le_of_ble_eq_true rfl⟩ hk dL_law_1906 (fun v9 σ9 hp => ?_)
    obtain ⟨u9, h9, rfl, rfl⟩ := Or.resolve_left hp (fun q => by obtain ⟨k9, h9, -, -⟩ := q; cases h9)
    cases h9
    refine G.heap (LW.set hlay _) ?_
    refine g_istore hx 1909 (i := 5) [(5, .int (0)), (4, .int (nI i)), (0, .ref b), (1, .ref B), (2, .ref T), (3, .ref o)] dL_law_1909 (by decide) rfl ?_
    refine g_aload_n hx 1911 (i := 2) 4 dL_law_1911 rfl rfl ?_
    refine g_aload_n hx 1912 (i := 0) 2 dL_law_1912 rfl rfl ?_
    refine g_iload hx 1913 (i := 4) 1 dL_law_1913 rfl ?_
    refine g_iconst hx 1915 (1) dL_law_1915 rfl ?_
    refine g_iadd hx 1916 dL_law_1916 ?_
    refine g_sld hx 1917 hs (vpi (j := 1) hi hL (by decide) _ rfl) dL_law_1917 ?_
    refine G.heap (LW.md (ad := ad) hlay) ?_
    refine g_callVr hx (c_Md_play l g hC.1 (putW (hset σ o (eJ 1 (vp_updL f 0 v.toInt64))) B ae W1) T M (xs (nI i + 1).toNatClampNeg) e2) lkl_229 arl_229 (pM_o (putW (hset σ o (eJ 1 (vp_updL f 0 v.toInt64))) B ae W1) T (owF ad) 0 M) (T := TX11) (N := 30) rfl (As := [.int (xs (nI i + 1).toNatClampNeg)]) (rest := []) rfl (Nat.le_of_ble_eq_true rfl) ⟨Nat.le_of_ble_eq_true rfl, Nat.le_of_ble_eq_true rfl⟩ ⟨rfl, rfl⟩ hk dL_law_1918 ?_
    refine G.heap (LW.md (ad := ad) hlay).symm ?_
    refine g_istore hx 1921 (i := 6) [(6, .int v), (5, .int (0)), (4, .int (nI i)), (0, .ref b), (1, .ref B), (2, .ref T), (3, .ref o)] dL_law_1921 (by decide) rfl ?_
    refine g_aload_n hx 1923 (i := 2) 5 dL_law_1923 rfl rfl ?_
    refine G.heap (LW.md (ad := ad) hlay) ?_
    refine g_callVr hx (c_Md_thrown (ρ := 0) (by decide) l g (putW (hset σ o (eJ 1 (vp_updL f 0 v.toInt64))) B ae W1) T (owF ad) M1 rfl) lkl_90 arl_90 (pM_o (putW (hset σ o (eJ 1 (vp_updL f 0 v.toInt64))) B ae W1) T (owF ad) 0 M1) (T := TX11) (N := 30) rfl (As := []) (rest := []) rfl (Nat.le_of_ble_eq_true rfl) ⟨Nat.le_of_ble_eq_true rfl, Nat.le_of_ble_eq_true rfl⟩ ⟨rfl, rfl⟩ hk dL_law_1924 ?_
    refine G.heap (LW.md (ad := ad) hlay).symm ?_
    refine g_iload hx 1927 (i := 5) 1 dL_law_1927 rfl ?_
    refine g_icmp_eq hx 1929 1934 dL_law_1929 (by decide) (fun _ => ?_) (fun hq => absurd e9 hq)
    refine g_iload hx 1934 (i := 5) 1 dL_law_1934 rfl ?_
    refine g_if_ne hx 1936 1951 dL_law_1936 (by decide) (fun hq => absurd rfl hq) (fun _ => ?_)
    refine g_aload_n hx 1939 (i := 3) 6 dL_law_1939 rfl rfl ?_
    refine g_iconst hx 1940 (0) dL_law_1940 rfl ?_
    refine g_lald hx 1941 (pW_out _ B ae W1 hlay.1 |>.trans (LW.out hlay (hset_self _ _ _))) vp01 dL_law_1941 ?_
    refine g_iload hx 1942 (i := 6) 0 dL_law_1942 rfl ?_
    refine g_i2l hx 1944 dL_law_1944 ?_
    refine g_lcmp hx 1945 dL_law_1945 ?_
    refine g_if_eq hx 1946 1951 dL_law_1946 (by decide) (fun _ => ?_) (fun hq => absurd (cmp_ll _) hq)
    refine g_goto hx 1951 2042 dL_law_1951 (by decide) ?_
    refine g_ls [2, 3, 4, 5, 6] [(4, .int (nI i)), (0, .ref b), (1, .ref B), (2, .ref T), (3, .ref o)] rfl ?_
    exact next _ _ _ _ hw (hset_self _ _ _)
set_option maxRecDepth 100000 in
set_option maxHeartbeats 4000000 in
theorem law_40 {X : Cx} {l : Launch} {g : Gl} {ad ae : Nat → Nat} (hx : Ok X l g RL cL_law 9 room_1) (hC : KAll g ad ae) (hN : KN g) (hl : l.stackTraces = false) {b L B T o i k n : Nat} {xs : Nat → Int32} (hs : Scr g b L xs) (hi : i + 6 ≤ L) (hL : L ≤ 3072) (hlay : Lay B T o) (hk : k + 1 ≤ room_1.cells ∧ n + 6 ≤ room_1.slots) {σ : Hp} {W : WM} {M : MdM} {f : Nat → Int64} (h : WRel W M) (ho : σ.2 o = some (eJ 1 f)) (next : LN X B T o ad ae k n [(4, .int (nI i)), (0, .ref b), (1, .ref B), (2, .ref T), (3, .ref o)]) : G X (LW σ B T ad ae W M) k n 1954 [(4, .int (nI i)), (0, .ref b), (1, .ref B), (2, .ref T), (3, .ref o)] [] := by
  obtain ⟨v, W1, M1, e1, e2, hw⟩ := f_format h
  refine g_aload_n hx 1954 (i := 1) 2 dL_law_1954 rfl rfl ?_
  refine g_callVr hx (c_SA_format l g hC (putMd σ T (owF ad) 0 M) B W e1) lkl_230 arl_230 (pW (putMd σ T (owF ad) 0 M) B ae W 0 (by decide)) (T := TX10) (N := 11) rfl (As := []) (rest := []) rfl (Nat.le_of_ble_eq_true rfl) ⟨Nat.le_of_ble_eq_true rfl, Nat.le_of_ble_eq_true rfl⟩ ⟨rfl, rfl⟩ ⟨Nat.le_of_succ_le hk.1, Nat.le_trans (Nat.le_add_right _ 6) hk.2⟩ dL_law_1955 ?_
  refine g_aload_n hx 1958 (i := 2) 3 dL_law_1958 rfl rfl ?_
  refine G.heap (LW.md (ad := ad) hlay) ?_
  refine g_callVr hx (c_Md_format (ρ := 0) (by decide) l g (putW σ B ae W1) T (owF ad) M e2) lkl_233 arl_233 (pM_o (putW σ B ae W1) T (owF ad) 0 M) (T := TX11) (N := 30) rfl (As := []) (rest := [.int v]) rfl (Nat.le_of_ble_eq_true rfl) ⟨Nat.le_of_ble_eq_true rfl, Nat.le_of_ble_eq_true rfl⟩ ⟨rfl, rfl⟩ ⟨Nat.le_of_succ_le hk.1, Nat.le_trans (Nat.le_add_right _ 6) hk.2⟩ dL_law_1959 ?_
  refine G.heap (LW.md (ad := ad) hlay).symm ?_
  exact g_icmp_eq hx 1962 2042 dL_law_1962 (by decide) (fun _ => (g_widen (Nat.le_succ _) (Nat.le_add_right _ _) (next _ _ _ _ hw ho))) (fun hq => absurd rfl hq)
set_option maxRecDepth 100000 in
set_option maxHeartbeats 4000000 in
theorem law_41 {X : Cx} {l : Launch} {g : Gl} {ad ae : Nat → Nat} (hx : Ok X l g RL cL_law 9 room_1) (hC : KAll g ad ae) (hN : KN g) (hl : l.stackTraces = false) {b L B T o i k n : Nat} {xs : Nat → Int32} (hs : Scr g b L xs) (hi : i + 6 ≤ L) (hL : L ≤ 3072) (hlay : Lay B T o) (hk : k + 1 ≤ room_1.cells ∧ n + 6 ≤ room_1.slots) {σ : Hp} {W : WM} {M : MdM} {f : Nat → Int64} (h : WRel W M) (ho : σ.2 o = some (eJ 1 f)) (next : LN X B T o ad ae k n [(4, .int (nI i)), (0, .ref b), (1, .ref B), (2, .ref T), (3, .ref o)]) : G X (LW σ B T ad ae W M) k n 1967 [(4, .int (nI i)), (0, .ref b), (1, .ref B), (2, .ref T), (3, .ref o)] [] := by
  obtain ⟨M1, e2, hw⟩ := f_formattedByte h (xs (nI i + 1).toNatClampNeg)
  refine g_aload_n hx 1967 (i := 1) 2 dL_law_1967 rfl rfl ?_
  refine g_aload_n hx 1968 (i := 0) 1 dL_law_1968 rfl rfl ?_
  refine g_iload hx 1969 (i := 4) 0 dL_law_1969 rfl ?_
  refine g_iconst hx 1971 (1) dL_law_1971 rfl ?_
  refine g_iadd hx 1972 dL_law_1972 ?_
  refine g_sld hx 1973 hs (vpi (j := 1) hi hL (by decide) _ rfl) dL_law_1973 ?_
  refine g_callVr hx (c_SA_formattedByte l g hC (putMd σ T (owF ad) 0 M) B W (xs (nI i + 1).toNatClampNeg) rfl) lkl_234 arl_234 (pW (putMd σ T (owF ad) 0 M) B ae W 0 (by decide)) (T := TX10) (N := 11) rfl (As := [.int (xs (nI i + 1).toNatClampNeg)]) (rest := []) rfl (Nat.le_of_ble_eq_true rfl) ⟨Nat.le_of_ble_eq_true rfl, Nat.le_of_ble_eq_true rfl⟩ ⟨rfl, rfl⟩ ⟨Nat.le_of_succ_le hk.1, Nat.le_trans (Nat.le_add_right _ 6) hk.2⟩ dL_law_1974 ?_
  refine g_aload_n hx 1977 (i := 2) 3 dL_law_1977 rfl rfl ?_
  refine g_aload_n hx 1978 (i := 0) 1 dL_law_1978 rfl rfl ?_
  refine g_iload hx 1979 (i := 4) 0 dL_law_1979 rfl ?_
  refine g_iconst hx 1981 (1) dL_law_1981 rfl ?_
  refine g_iadd hx 1982 dL_law_1982 ?_
  refine g_sld hx 1983 hs (vpi (j := 1) hi hL (by decide) _ rfl) dL_law_1983 ?_
  refine G.heap (LW.md (ad := ad) hlay) ?_
  refine g_callVr hx (c_Md_formattedByte (ρ := 0) (by decide) l g (putW σ B ae W) T (owF ad) M (xs (nI i + 1).toNatClampNeg) e2) lkl_237 arl_237 (pM_o (putW σ B ae W) T (owF ad) 0 M) (T := TX11) (N := 30) rfl (As := [.int (xs (nI i + 1).toNatClampNeg)]) (rest := [.int (SA_formattedByte W (xs (nI i + 1).toNatClampNeg))]) rfl (Nat.le_of_ble_eq_true rfl) ⟨Nat.le_of_ble_eq_true rfl, Nat.le_of_ble_eq_true rfl⟩ ⟨rfl, rfl⟩ ⟨Nat.le_of_succ_le hk.1, Nat.le_trans (Nat.le_add_right _ 6) hk.2⟩ dL_law_1984 ?_
  refine G.heap (LW.md (ad := ad) hlay).symm ?_
  exact g_icmp_eq hx 1987 2042 dL_law_1987 (by decide) (fun _ => (g_widen (Nat.le_succ _) (Nat.le_add_right _ _) (next _ _ _ _ hw ho))) (fun hq => absurd rfl hq)
set_option maxRecDepth 100000 in
set_option maxHeartbeats 4000000 in
theorem law_42 {X : Cx} {l : Launch} {g : Gl} {ad ae : Nat → Nat} (hx : Ok X l g RL cL_law 9 room_1) (hC : KAll g ad ae) (hN : KN g) (hl : l.stackTraces = false) {b L B T o i k n : Nat} {xs : Nat → Int32} (hs : Scr g b L xs) (hi : i + 6 ≤ L) (hL : L ≤ 3072) (hlay : Lay B T o) (hk : k + 1 ≤ room_1.cells ∧ n + 6 ≤ room_1.slots) {σ : Hp} {W : WM} {M : MdM} {f : Nat → Int64} (h : WRel W M) (ho : σ.2 o = some (eJ 1 f)) (next : LN X B T o ad ae k n [(4, .int (nI i)), (0, .ref b), (1, .ref B), (2, .ref T), (3, .ref o)]) : G X (LW σ B T ad ae W M) k n 1992 [(4, .int (nI i)), (0, .ref b), (1, .ref B), (2, .ref T), (3, .ref o)] [] := by
  obtain ⟨e1, hw⟩ := f_undoCount h
  refine g_aload_n hx 1992 (i := 1) 2 dL_law_1992 rfl rfl ?_
  refine g_callVr hx (c_SA_undoCount l g hC (putMd σ T (owF ad) 0 M) B W rfl) lkl_238 arl_238 (pW (putMd σ T (owF ad) 0 M) B ae W 0 (by decide)) (T := TX10) (N := 11) rfl (As := []) (rest := []) rfl (Nat.le_of_ble_eq_true rfl) ⟨Nat.le_of_ble_eq_true rfl, Nat.le_of_ble_eq_true rfl⟩ ⟨rfl, rfl⟩ ⟨Nat.le_of_succ_le hk.1, Nat.le_trans (Nat.le_add_right _ 6) hk.2⟩ dL_law_1993 ?_
  refine g_aload_n hx 1996 (i := 2) 3 dL_law_1996 rfl rfl ?_
  refine G.heap (LW.md (ad := ad) hlay) ?_
  refine g_callVr hx (c_Md_undoCount (ρ := 0) (by decide) l g (putW σ B ae W) T (owF ad) M rfl) lkl_241 arl_241 (pM_o (putW σ B ae W) T (owF ad) 0 M) (T := TX11) (N := 30) rfl (As := []) (rest := [.int (SA_undoCount W)]) rfl (Nat.le_of_ble_eq_true rfl) ⟨Nat.le_of_ble_eq_true rfl, Nat.le_of_ble_eq_true rfl⟩ ⟨rfl, rfl⟩ ⟨Nat.le_of_succ_le hk.1, Nat.le_trans (Nat.le_add_right _ 6) hk.2⟩ dL_law_1997 ?_
  refine G.heap (LW.md (ad := ad) hlay).symm ?_
  exact g_icmp_eq hx 2000 2042 dL_law_2000 (by decide) (fun _ => (g_widen (Nat.le_succ _) (Nat.le_add_right _ _) (next _ _ _ _ hw ho))) (fun hq => absurd e1 hq)
set_option maxRecDepth 100000 in
set_option maxHeartbeats 4000000 in
theorem law_43 {X : Cx} {l : Launch} {g : Gl} {ad ae : Nat → Nat} (hx : Ok X l g RL cL_law 9 room_1) (hC : KAll g ad ae) (hN : KN g) (hl : l.stackTraces = false) {b L B T o i k n : Nat} {xs : Nat → Int32} (hs : Scr g b L xs) (hi : i + 6 ≤ L) (hL : L ≤ 3072) (hlay : Lay B T o) (hk : k + 1 ≤ room_1.cells ∧ n + 6 ≤ room_1.slots) {σ : Hp} {W : WM} {M : MdM} {f : Nat → Int64} (h : WRel W M) (ho : σ.2 o = some (eJ 1 f)) (next : LN X B T o ad ae k n [(4, .int (nI i)), (0, .ref b), (1, .ref B), (2, .ref T), (3, .ref o)]) : G X (LW σ B T ad ae W M) k n 2005 [(4, .int (nI i)), (0, .ref b), (1, .ref B), (2, .ref T), (3, .ref o)] [] := by
  obtain ⟨v, W1, M1, e1, e2, hw⟩ := f_undo h
  refine g_aload_n hx 2005 (i := 1) 2 dL_law_2005 rfl rfl ?_
  refine g_callVr hx (c_SA_undo l g hC (putMd σ T (owF ad) 0 M) B W e1) lkl_242 arl_242 (pW (putMd σ T (owF ad) 0 M) B ae W 0 (by decide)) (T := TX10) (N := 11) rfl (As := []) (rest := []) rfl (Nat.le_of_ble_eq_true rfl) ⟨Nat.le_of_ble_eq_true rfl, Nat.le_of_ble_eq_true rfl⟩ ⟨rfl, rfl⟩ ⟨Nat.le_of_succ_le hk.1, Nat.le_trans (Nat.le_add_right _ 6) hk.2⟩ dL_law_2006 ?_
  refine g_aload_n hx 2009 (i := 2) 3 dL_law_2009 rfl rfl ?_
  refine G.heap (LW.md (ad := ad) hlay) ?_
  refine g_callVr hx (c_Md_undo (ρ := 0) (by decide) l g (putW σ B ae W1) T (owF ad) M e2) lkl_245 arl_245 (pM_o (putW σ B ae W1) T (owF ad) 0 M) (T := TX11) (N := 30) rfl (As := []) (rest := [.int v]) rfl (Nat.le_of_ble_eq_true rfl) ⟨Nat.le_of_ble_eq_true rfl, Nat.le_of_ble_eq_true rfl⟩ ⟨rfl, rfl⟩ ⟨Nat.le_of_succ_le hk.1, Nat.le_trans (Nat.le_add_right _ 6) hk.2⟩ dL_law_2010 ?_
  refine G.heap (LW.md (ad := ad) hlay).symm ?_
  exact g_icmp_eq hx 2013 2042 dL_law_2013 (by decide) (fun _ => (g_widen (Nat.le_succ _) (Nat.le_add_right _ _) (next _ _ _ _ hw ho))) (fun hq => absurd rfl hq)
set_option maxRecDepth 100000 in
set_option maxHeartbeats 4000000 in
theorem law_44 {X : Cx} {l : Launch} {g : Gl} {ad ae : Nat → Nat} (hx : Ok X l g RL cL_law 9 room_1) (hC : KAll g ad ae) (hN : KN g) (hl : l.stackTraces = false) {b L B T o i k n : Nat} {xs : Nat → Int32} (hs : Scr g b L xs) (hi : i + 6 ≤ L) (hL : L ≤ 3072) (hlay : Lay B T o) (hk : k + 1 ≤ room_1.cells ∧ n + 6 ≤ room_1.slots) {σ : Hp} {W : WM} {M : MdM} {f : Nat → Int64} (h : WRel W M) (ho : σ.2 o = some (eJ 1 f)) (next : LN X B T o ad ae k n [(4, .int (nI i)), (0, .ref b), (1, .ref B), (2, .ref T), (3, .ref o)]) : G X (LW σ B T ad ae W M) k n 2018 [(4, .int (nI i)), (0, .ref b), (1, .ref B), (2, .ref T), (3, .ref o)] [] := by
  obtain ⟨M1, e2, hw⟩ := f_saveSnapshot h
  refine g_aload_n hx 2018 (i := 1) 2 dL_law_2018 rfl rfl ?_
  refine g_callVv hx (c_SA_saveSnapshot l g hC (putMd σ T (owF ad) 0 M) B W rfl) lkl_246 arl_246 (pW (putMd σ T (owF ad) 0 M) B ae W 0 (by decide)) (T := TX10) (N := 11) rfl (As := []) (rest := []) rfl (Nat.le_of_ble_eq_true rfl) ⟨Nat.le_of_ble_eq_true rfl, Nat.le_of_ble_eq_true rfl⟩ ⟨rfl, rfl⟩ ⟨Nat.le_of_succ_le hk.1, Nat.le_trans (Nat.le_add_right _ 6) hk.2⟩ dL_law_2019 ?_
  refine g_aload_n hx 2022 (i := 2) 3 dL_law_2022 rfl rfl ?_
  refine G.heap (LW.md (ad := ad) hlay) ?_
  refine g_callVv hx (c_Md_saveSnapshot (ρ := 0) (by decide) l g (putW σ B ae (SA_saveSnapshot W)) T (owF ad) M e2) lkl_249 arl_249 (pM_o (putW σ B ae (SA_saveSnapshot W)) T (owF ad) 0 M) (T := TX11) (N := 30) rfl (As := []) (rest := []) rfl (Nat.le_of_ble_eq_true rfl) ⟨Nat.le_of_ble_eq_true rfl, Nat.le_of_ble_eq_true rfl⟩ ⟨rfl, rfl⟩ ⟨Nat.le_of_succ_le hk.1, Nat.le_trans (Nat.le_add_right _ 6) hk.2⟩ dL_law_2023 ?_
  refine G.heap (LW.md (ad := ad) hlay).symm ?_
  refine g_goto hx 2026 2042 dL_law_2026 (by decide) ?_
  exact (g_widen (Nat.le_succ _) (Nat.le_add_right _ _) (next _ _ _ _ hw ho))
set_option maxRecDepth 100000 in
set_option maxHeartbeats 4000000 in
theorem law_45 {X : Cx} {l : Launch} {g : Gl} {ad ae : Nat → Nat} (hx : Ok X l g RL cL_law 9 room_1) (hC : KAll g ad ae) (hN : KN g) (hl : l.stackTraces = false) {b L B T o i k n : Nat} {xs : Nat → Int32} (hs : Scr g b L xs) (hi : i + 6 ≤ L) (hL : L ≤ 3072) (hlay : Lay B T o) (hk : k + 1 ≤ room_1.cells ∧ n + 6 ≤ room_1.slots) {σ : Hp} {W : WM} {M : MdM} {f : Nat → Int64} (h : WRel W M) (ho : σ.2 o = some (eJ 1 f)) (next : LN X B T o ad ae k n [(4, .int (nI i)), (0, .ref b), (1, .ref B), (2, .ref T), (3, .ref o)]) : G X (LW σ B T ad ae W M) k n 2029 [(4, .int (nI i)), (0, .ref b), (1, .ref B), (2, .ref T), (3, .ref o)] [] := by
  obtain ⟨v, M1, e2, e1, hw⟩ := f_restoreSnapshot h
  refine g_aload_n hx 2029 (i := 1) 2 dL_law_2029 rfl rfl ?_
  refine g_callVr hx (c_SA_restoreSnapshot l g hC (putMd σ T (owF ad) 0 M) B W rfl) lkl_250 arl_250 (pW (putMd σ T (owF ad) 0 M) B ae W 0 (by decide)) (T := TX10) (N := 11) rfl (As := []) (rest := []) rfl (Nat.le_of_ble_eq_true rfl) ⟨Nat.le_of_ble_eq_true rfl, Nat.le_of_ble_eq_true rfl⟩ ⟨rfl, rfl⟩ ⟨Nat.le_of_succ_le hk.1, Nat.le_trans (Nat.le_add_right _ 6) hk.2⟩ dL_law_2030 ?_
  refine g_aload_n hx 2033 (i := 2) 3 dL_law_2033 rfl rfl ?_
  refine G.heap (LW.md (ad := ad) hlay) ?_
  refine g_callVr hx (c_Md_restoreSnapshot (ρ := 0) (by decide) l g (putW σ B ae (SA_restoreSnapshot W).2) T (owF ad) M e2) lkl_254 arl_254 (pM_o (putW σ B ae (SA_restoreSnapshot W).2) T (owF ad) 0 M) (T := TX11) (N := 30) rfl (As := []) (rest := [.int (SA_restoreSnapshot W).1]) rfl (Nat.le_of_ble_eq_true rfl) ⟨Nat.le_of_ble_eq_true rfl, Nat.le_of_ble_eq_true rfl⟩ ⟨rfl, rfl⟩ ⟨Nat.le_of_succ_le hk.1, Nat.le_trans (Nat.le_add_right _ 6) hk.2⟩ dL_law_2034 ?_
  refine G.heap (LW.md (ad := ad) hlay).symm ?_
  exact g_icmp_eq hx 2037 2042 dL_law_2037 (by decide) (fun _ => (g_widen (Nat.le_succ _) (Nat.le_add_right _ _) (next _ _ _ _ hw ho))) (fun hq => absurd e1 hq)
