/-! the law: its cases -/
theorem lkw_servedBy : LkW RL 176 md_L_servedBy hh_servedBy := ⟨aw1 (by decide +kernel), aw1 (by decide +kernel), aw1 (by decide +kernel), aw1 (by decide +kernel)⟩
theorem arw_servedBy : Arity md_L_servedBy 3 := ⟨by decide +kernel, by decide +kernel, by decide +kernel⟩
theorem lkl_178 : Lk md_Md_servedBy [.methodLink RL 178 md_Md_servedBy.y, .instanceMethod md_Md_servedBy.y, .selects md_Md_servedBy.y.cls md_Md_servedBy.y md_Md_servedBy.y] := lk_of (by decide +kernel)
theorem arl_178 : Arity md_Md_servedBy 1 := ⟨by decide +kernel, by decide +kernel, by decide +kernel⟩
theorem lkw_waitingIn : LkW RL 179 md_L_waitingIn hh_waitingIn := ⟨aw1 (by decide +kernel), aw1 (by decide +kernel), aw1 (by decide +kernel), aw1 (by decide +kernel)⟩
theorem arw_waitingIn : Arity md_L_waitingIn 3 := ⟨by decide +kernel, by decide +kernel, by decide +kernel⟩
theorem lkl_181 : Lk md_Md_waitingIn [.methodLink RL 181 md_Md_waitingIn.y, .instanceMethod md_Md_waitingIn.y, .selects md_Md_waitingIn.y.cls md_Md_waitingIn.y md_Md_waitingIn.y] := lk_of (by decide +kernel)
theorem arl_181 : Arity md_Md_waitingIn 1 := ⟨by decide +kernel, by decide +kernel, by decide +kernel⟩
theorem lkw_servedWith : LkW RL 182 md_L_servedWith hh_servedWith := ⟨aw1 (by decide +kernel), aw1 (by decide +kernel), aw1 (by decide +kernel), aw1 (by decide +kernel)⟩
theorem arw_servedWith : Arity md_L_servedWith 3 := ⟨by decide +kernel, by decide +kernel, by decide +kernel⟩
theorem lkl_184 : Lk md_Md_servedWith [.methodLink RL 184 md_Md_servedWith.y, .instanceMethod md_Md_servedWith.y, .selects md_Md_servedWith.y.cls md_Md_servedWith.y md_Md_servedWith.y] := lk_of (by decide +kernel)
theorem arl_184 : Arity md_Md_servedWith 1 := ⟨by decide +kernel, by decide +kernel, by decide +kernel⟩
theorem lkl_185 : Lk md_SA_swapsLeft [.methodLink RL 185 md_SA_swapsLeft.y, .instanceMethod md_SA_swapsLeft.y, .selects md_SA_swapsLeft.y.cls md_SA_swapsLeft.y md_SA_swapsLeft.y] := lk_of (by decide +kernel)
theorem arl_185 : Arity md_SA_swapsLeft 0 := ⟨by decide +kernel, by decide +kernel, by decide +kernel⟩
theorem lkl_188 : Lk md_Md_swapsLeft [.methodLink RL 188 md_Md_swapsLeft.y, .instanceMethod md_Md_swapsLeft.y, .selects md_Md_swapsLeft.y.cls md_Md_swapsLeft.y md_Md_swapsLeft.y] := lk_of (by decide +kernel)
theorem arl_188 : Arity md_Md_swapsLeft 0 := ⟨by decide +kernel, by decide +kernel, by decide +kernel⟩
theorem lkw_missedAfter : LkW RL 189 md_L_missedAfter hh_missedAfter := ⟨aw1 (by decide +kernel), aw1 (by decide +kernel), aw1 (by decide +kernel), aw1 (by decide +kernel)⟩
theorem arw_missedAfter : Arity md_L_missedAfter 3 := ⟨by decide +kernel, by decide +kernel, by decide +kernel⟩
theorem lkl_191 : Lk md_Md_missedAfter [.methodLink RL 191 md_Md_missedAfter.y, .instanceMethod md_Md_missedAfter.y, .selects md_Md_missedAfter.y.cls md_Md_missedAfter.y md_Md_missedAfter.y] := lk_of (by decide +kernel)
theorem arl_191 : Arity md_Md_missedAfter 1 := ⟨by decide +kernel, by decide +kernel, by decide +kernel⟩
theorem lkl_192 : Lk md_SA_foundShare [.methodLink RL 192 md_SA_foundShare.y, .instanceMethod md_SA_foundShare.y, .selects md_SA_foundShare.y.cls md_SA_foundShare.y md_SA_foundShare.y] := lk_of (by decide +kernel)
theorem arl_192 : Arity md_SA_foundShare 0 := ⟨by decide +kernel, by decide +kernel, by decide +kernel⟩
theorem lkl_196 : Lk md_Md_foundShare [.methodLink RL 196 md_Md_foundShare.y, .instanceMethod md_Md_foundShare.y, .selects md_Md_foundShare.y.cls md_Md_foundShare.y md_Md_foundShare.y] := lk_of (by decide +kernel)
theorem arl_196 : Arity md_Md_foundShare 0 := ⟨by decide +kernel, by decide +kernel, by decide +kernel⟩
theorem lkl_197 : Lk md_SA_meanWait [.methodLink RL 197 md_SA_meanWait.y, .instanceMethod md_SA_meanWait.y, .selects md_SA_meanWait.y.cls md_SA_meanWait.y md_SA_meanWait.y] := lk_of (by decide +kernel)
theorem arl_197 : Arity md_SA_meanWait 0 := ⟨by decide +kernel, by decide +kernel, by decide +kernel⟩
theorem lkl_201 : Lk md_Md_meanWait [.methodLink RL 201 md_Md_meanWait.y, .instanceMethod md_Md_meanWait.y, .selects md_Md_meanWait.y.cls md_Md_meanWait.y md_Md_meanWait.y] := lk_of (by decide +kernel)
theorem arl_201 : Arity md_Md_meanWait 0 := ⟨by decide +kernel, by decide +kernel, by decide +kernel⟩
theorem lkw_slip : LkW RL 202 md_L_slip hh_slip := ⟨aw1 (by decide +kernel), aw1 (by decide +kernel), aw1 (by decide +kernel), aw1 (by decide +kernel)⟩
theorem arw_slip : Arity md_L_slip 4 := ⟨by decide +kernel, by decide +kernel, by decide +kernel⟩
theorem lkl_204 : Lk md_Md_slip [.methodLink RL 204 md_Md_slip.y, .instanceMethod md_Md_slip.y, .selects md_Md_slip.y.cls md_Md_slip.y md_Md_slip.y] := lk_of (by decide +kernel)
theorem arl_204 : Arity md_Md_slip 2 := ⟨by decide +kernel, by decide +kernel, by decide +kernel⟩
theorem lkl_205 : Lk md_SA_dropSlip [.methodLink RL 205 md_SA_dropSlip.y, .instanceMethod md_SA_dropSlip.y, .selects md_SA_dropSlip.y.cls md_SA_dropSlip.y md_SA_dropSlip.y] := lk_of (by decide +kernel)
theorem arl_205 : Arity md_SA_dropSlip 1 := ⟨by decide +kernel, by decide +kernel, by decide +kernel⟩
theorem lkl_208 : Lk md_Md_dropSlip [.methodLink RL 208 md_Md_dropSlip.y, .instanceMethod md_Md_dropSlip.y, .selects md_Md_dropSlip.y.cls md_Md_dropSlip.y md_Md_dropSlip.y] := lk_of (by decide +kernel)
theorem arl_208 : Arity md_Md_dropSlip 1 := ⟨by decide +kernel, by decide +kernel, by decide +kernel⟩
theorem lkw_giveBack : LkW RL 209 md_L_giveBack hh_giveBack := ⟨aw1 (by decide +kernel), aw1 (by decide +kernel), aw1 (by decide +kernel), aw1 (by decide +kernel)⟩
theorem arw_giveBack : Arity md_L_giveBack 3 := ⟨by decide +kernel, by decide +kernel, by decide +kernel⟩
theorem lkl_211 : Lk md_Md_giveBack [.methodLink RL 211 md_Md_giveBack.y, .instanceMethod md_Md_giveBack.y, .selects md_Md_giveBack.y.cls md_Md_giveBack.y md_Md_giveBack.y] := lk_of (by decide +kernel)
theorem arl_211 : Arity md_Md_giveBack 1 := ⟨by decide +kernel, by decide +kernel, by decide +kernel⟩
set_option maxRecDepth 100000 in
set_option maxHeartbeats 4000000 in
theorem law_24 {X : Cx} {l : Launch} {g : Gl} {ad ae : Nat → Nat} (hx : Ok X l g RL cL_law 9 room_1) (hC : KAll g ad ae) (hN : KN g) (hl : l.stackTraces = false) {b L B T o i k n : Nat} {xs : Nat → Int32} (hs : Scr g b L xs) (hi : i + 6 ≤ L) (hL : L ≤ 3072) (hlay : Lay B T o) (hk : k + 1 ≤ room_1.cells ∧ n + 6 ≤ room_1.slots) {σ : Hp} {W : WM} {M : MdM} {f : Nat → Int64} (h : WRel W M) (ho : σ.2 o = some (eJ 1 f)) (next : LN X B T o ad ae k n [(4, .int (nI i)), (0, .ref b), (1, .ref B), (2, .ref T), (3, .ref o)]) : G X (LW σ B T ad ae W M) k n 1124 [(4, .int (nI i)), (0, .ref b), (1, .ref B), (2, .ref T), (3, .ref o)] [] := by
  refine g_aload_n hx 1124 (i := 1) 2 dL_law_1124 rfl rfl ?_
  refine g_aload_n hx 1125 (i := 0) 1 dL_law_1125 rfl rfl ?_
  refine g_iload hx 1126 (i := 4) 0 dL_law_1126 rfl ?_
  refine g_iconst hx 1128 (1) dL_law_1128 rfl ?_
  refine g_iadd hx 1129 dL_law_1129 ?_
  refine g_sld hx 1130 hs (vpi (j := 1) hi hL (by decide) _ rfl) dL_law_1130 ?_
  refine g_aload_n hx 1131 (i := 3) 4 dL_law_1131 rfl rfl ?_
  rcases f_servedBy h (xs (nI i + 1).toNatClampNeg) with ⟨kx, b9, M1, e1, e2, e9, hw⟩ | ⟨v, W1, M1, e1, e2, e9, hw⟩
  · refine g_callW hx (c_L_servedBy l g hC hN hl (putMd σ T (owF ad) 0 M) B W (xs (nI i + 1).toNatClampNeg) (o := o) (LW.out hlay ho) hlay.1 e1 (fun k hk9 => ki_servedBy W (xs (nI i + 1).toNatClampNeg) k (e1.trans (congrArg some hk9)))) lkw_servedBy arw_servedBy (As := [.ref B, .int (xs (nI i + 1).toNatClampNeg), .ref o]) (rest := []) rfl (Nat.le_of_ble_eq_true rfl) ⟨Nat.le_of_ble_eq_true rfl, Nat.le_of_ble_eq_true rfl⟩ hk dL_law_1132 (fun v9 σ9 hp => ?_)
    obtain ⟨k9, h9, rfl, h8⟩ := Or.resolve_right hp (fun q => by obtain ⟨u9, h9, -, -⟩ := q; cases h9)
    cases h9
    obtain ⟨z, σm⟩ := σ9
    cases h8
    refine G.heap (show _ = LW (z, σ.2) B T ad ae W M from rfl) ?_
    refine g_istore hx 1135 (i := 5) [(5, .int (ci1 kx)), (4, .int (nI i)), (0, .ref b), (1, .ref B), (2, .ref T), (3, .ref o)] dL_law_1135 (by decide) rfl ?_
    refine g_aload_n hx 1137 (i := 2) 4 dL_law_1137 rfl rfl ?_
    refine g_aload_n hx 1138 (i := 0) 2 dL_law_1138 rfl rfl ?_
    refine g_iload hx 1139 (i := 4) 1 dL_law_1139 rfl ?_
    refine g_iconst hx 1141 (1) dL_law_1141 rfl ?_
    refine g_iadd hx 1142 dL_law_1142 ?_
    refine g_sld hx 1143 hs (vpi (j := 1) hi hL (by decide) _ rfl) dL_law_1143 ?_
    refine G.heap (LW.md (ad := ad) hlay) ?_
    refine g_callVr hx (c_Md_servedBy (ρ := 0) (by decide) l g (putW (z, σ.2) B ae W) T (owF ad) M (xs (nI i + 1).toNatClampNeg) e2) lkl_178 arl_178 (pM_o (putW (z, σ.2) B ae W) T (owF ad) 0 M) (T := TX11) (N := 30) rfl (As := [.int (xs (nI i + 1).toNatClampNeg)]) (rest := []) rfl (Nat.le_of_ble_eq_true rfl) ⟨Nat.le_of_ble_eq_true rfl, Nat.le_of_ble_eq_true rfl⟩ ⟨rfl, rfl⟩ hk dL_law_1144 ?_
    refine G.heap (LW.md (ad := ad) hlay).symm ?_
    refine g_istore hx 1147 (i := 6) [(6, .int b9), (5, .int (ci1 kx)), (4, .int (nI i)), (0, .ref b), (1, .ref B), (2, .ref T), (3, .ref o)] dL_law_1147 (by decide) rfl ?_
    refine g_aload_n hx 1149 (i := 2) 5 dL_law_1149 rfl rfl ?_
    refine G.heap (LW.md (ad := ad) hlay) ?_
    refine g_callVr hx (c_Md_thrown (ρ := 0) (by decide) l g (putW (z, σ.2) B ae W) T (owF ad) M1 rfl) lkl_90 arl_90 (pM_o (putW (z, σ.2) B ae W) T (owF ad) 0 M1) (T := TX11) (N := 30) rfl (As := []) (rest := []) rfl (Nat.le_of_ble_eq_true rfl) ⟨Nat.le_of_ble_eq_true rfl, Nat.le_of_ble_eq_true rfl⟩ ⟨rfl, rfl⟩ hk dL_law_1150 ?_
    refine G.heap (LW.md (ad := ad) hlay).symm ?_
    refine g_iload hx 1153 (i := 5) 1 dL_law_1153 rfl ?_
    refine g_icmp_eq hx 1155 1160 dL_law_1155 (by decide) (fun _ => ?_) (fun hq => absurd e9 hq)
    refine g_iload hx 1160 (i := 5) 1 dL_law_1160 rfl ?_
    refine g_if_ne hx 1162 1177 dL_law_1162 (by decide) (fun _ => ?_) (fun hq => absurd hq (ci_n _))
    refine g_goto hx 1177 2042 dL_law_1177 (by decide) ?_
    refine g_ls [2, 3, 4, 5, 6] [(4, .int (nI i)), (0, .ref b), (1, .ref B), (2, .ref T), (3, .ref o)] rfl ?_
    exact next _ _ _ _ hw ho
  · refine g_callW hx (c_L_servedBy l g hC hN hl (putMd σ T (owF ad) 0 M) B W (xs (nI i + 1).toNatClampNeg) (o := o) (LW.out hlay ho) hlay.1 e1 (fun k hk9 => ki_servedBy W (xs (nI i + 1).toNatClampNeg) k (e1.trans (congrArg some hk9)))) lkw_servedBy arw_servedBy (As := [.ref B, .int (xs (nI i + 1).toNatClampNeg), .ref o]) (rest := []) rfl (Nat.le_of_ble_eq_true rfl) ⟨Nat.le_of_ble_eq_true rfl, Nat.le_of_ble_eq_true rfl⟩ hk dL_law_1132 (fun v9 σ9 hp => ?_)
    obtain ⟨u9, h9, rfl, rfl⟩ := Or.resolve_left hp (fun q => by obtain ⟨k9, h9, -, -⟩ := q; cases h9)
    cases h9
    refine G.heap (LW.set hlay _) ?_
    refine g_istore hx 1135 (i := 5) [(5, .int (0)), (4, .int (nI i)), (0, .ref b), (1, .ref B), (2, .ref T), (3, .ref o)] dL_law_1135 (by decide) rfl ?_
    refine g_aload_n hx 1137 (i := 2) 4 dL_law_1137 rfl rfl ?_
    refine g_aload_n hx 1138 (i := 0) 2 dL_law_1138 rfl rfl ?_
    refine g_iload hx 1139 (i := 4) 1 dL_law_1139 rfl ?_
    refine g_iconst hx 1141 (1) dL_law_1141 rfl ?_
    refine g_iadd hx 1142 dL_law_1142 ?_
    refine g_sld hx 1143 hs (vpi (j := 1) hi hL (by decide) _ rfl) dL_law_1143 ?_
    refine G.heap (LW.md (ad := ad) hlay) ?_
    refine g_callVr hx (c_Md_servedBy (ρ := 0) (by decide) l g (putW (hset σ o (eJ 1 (vp_updL f 0 v.toInt64))) B ae W1) T (owF ad) M (xs (nI i + 1).toNatClampNeg) e2) lkl_178 arl_178 (pM_o (putW (hset σ o (eJ 1 (vp_updL f 0 v.toInt64))) B ae W1) T (owF ad) 0 M) (T := TX11) (N := 30) rfl (As := [.int (xs (nI i + 1).toNatClampNeg)]) (rest := []) rfl (Nat.le_of_ble_eq_true rfl) ⟨Nat.le_of_ble_eq_true rfl, Nat.le_of_ble_eq_true rfl⟩ ⟨rfl, rfl⟩ hk dL_law_1144 ?_
    refine G.heap (LW.md (ad := ad) hlay).symm ?_
    refine g_istore hx 1147 (i := 6) [(6, .int v), (5, .int (0)), (4, .int (nI i)), (0, .ref b), (1, .ref B), (2, .ref T), (3, .ref o)] dL_law_1147 (by decide) rfl ?_
    refine g_aload_n hx 1149 (i := 2) 5 dL_law_1149 rfl rfl ?_
    refine G.heap (LW.md (ad := ad) hlay) ?_
    refine g_callVr hx (c_Md_thrown (ρ := 0) (by decide) l g (putW (hset σ o (eJ 1 (vp_updL f 0 v.toInt64))) B ae W1) T (owF ad) M1 rfl) lkl_90 arl_90 (pM_o (putW (hset σ o (eJ 1 (vp_updL f 0 v.toInt64))) B ae W1) T (owF ad) 0 M1) (T := TX11) (N := 30) rfl (As := []) (rest := []) rfl (Nat.le_of_ble_eq_true rfl) ⟨Nat.le_of_ble_eq_true rfl, Nat.le_of_ble_eq_true rfl⟩ ⟨rfl, rfl⟩ hk dL_law_1150 ?_
    refine G.heap (LW.md (ad := ad) hlay).symm ?_
    refine g_iload hx 1153 (i := 5) 1 dL_law_1153 rfl ?_
    refine g_icmp_eq hx 1155 1160 dL_law_1155 (by decide) (fun _ => ?_) (fun hq => absurd e9 hq)
    refine g_iload hx 1160 (i := 5) 1 dL_law_1160 rfl ?_
    refine g_if_ne hx 1162 1177 dL_law_1162 (by decide) (fun hq => absurd rfl hq) (fun _ => ?_)
    refine g_aload_n hx 1165 (i := 3) 6 dL_law_1165 rfl rfl ?_
    refine g_iconst hx 1166 (0) dL_law_1166 rfl ?_
    refine g_lald hx 1167 (pW_out _ B ae W1 hlay.1 |>.trans (LW.out hlay (hset_self _ _ _))) vp01 dL_law_1167 ?_
    refine g_iload hx 1168 (i := 6) 0 dL_law_1168 rfl ?_
    refine g_i2l hx 1170 dL_law_1170 ?_
    refine g_lcmp hx 1171 dL_law_1171 ?_
    refine g_if_eq hx 1172 1177 dL_law_1172 (by decide) (fun _ => ?_) (fun hq => absurd (cmp_ll _) hq)
    refine g_goto hx 1177 2042 dL_law_1177 (by decide) ?_
    refine g_ls [2, 3, 4, 5, 6] [(4, .int (nI i)), (0, .ref b), (1, .ref B), (2, .ref T), (3, .ref o)] rfl ?_
    exact next _ _ _ _ hw (hset_self _ _ _)
set_option maxRecDepth 100000 in
set_option maxHeartbeats 4000000 in
theorem law_25 {X : Cx} {l : Launch} {g : Gl} {ad ae : Nat → Nat} (hx : Ok X l g RL cL_law 9 room_1) (hC : KAll g ad ae) (hN : KN g) (hl : l.stackTraces = false) {b L B T o i k n : Nat} {xs : Nat → Int32} (hs : Scr g b L xs) (hi : i + 6 ≤ L) (hL : L ≤ 3072) (hlay : Lay B T o) (hk : k + 1 ≤ room_1.cells ∧ n + 6 ≤ room_1.slots) {σ : Hp} {W : WM} {M : MdM} {f : Nat → Int64} (h : WRel W M) (ho : σ.2 o = some (eJ 1 f)) (next : LN X B T o ad ae k n [(4, .int (nI i)), (0, .ref b), (1, .ref B), (2, .ref T), (3, .ref o)]) : G X (LW σ B T ad ae W M) k n 1180 [(4, .int (nI i)), (0, .ref b), (1, .ref B), (2, .ref T), (3, .ref o)] [] := by
  refine g_aload_n hx 1180 (i := 1) 2 dL_law_1180 rfl rfl ?_
  refine g_aload_n hx 1181 (i := 0) 1 dL_law_1181 rfl rfl ?_
  refine g_iload hx 1182 (i := 4) 0 dL_law_1182 rfl ?_
  refine g_iconst hx 1184 (1) dL_law_1184 rfl ?_
  refine g_iadd hx 1185 dL_law_1185 ?_
  refine g_sld hx 1186 hs (vpi (j := 1) hi hL (by decide) _ rfl) dL_law_1186 ?_
  refine g_aload_n hx 1187 (i := 3) 4 dL_law_1187 rfl rfl ?_
  rcases f_waitingIn h (xs (nI i + 1).toNatClampNeg) with ⟨kx, b9, M1, e1, e2, e9, hw⟩ | ⟨v, W1, M1, e1, e2, e9, hw⟩
  · refine g_callW hx (c_L_waitingIn l g hC hN hl (putMd σ T (owF ad) 0 M) B W (xs (nI i + 1).toNatClampNeg) (o := o) (LW.out hlay ho) hlay.1 e1 (fun k hk9 => ki_waitingIn W (xs (nI i + 1).toNatClampNeg) k (e1.trans (congrArg some hk9)))) lkw_waitingIn arw_waitingIn (As := [.ref B, .int (xs (nI i + 1).toNatClampNeg), .ref o]) (rest := []) rfl (Nat.le_of_ble_eq_true rfl) ⟨Nat.le_of_ble_eq_true rfl, Nat.le_of_ble_eq_true rfl⟩ hk dL_law_1188 (fun v9 σ9 hp => ?_)
    obtain ⟨k9, h9, rfl, h8⟩ := Or.resolve_right hp (fun q => by obtain ⟨u9, h9, -, -⟩ := q; cases h9)
    cases h9
    obtain ⟨z, σm⟩ := σ9
    cases h8
    refine G.heap (show _ = LW (z, σ.2) B T ad ae W M from rfl) ?_
    refine g_istore hx 1191 (i := 5) [(5, .int (ci1 kx)), (4, .int (nI i)), (0, .ref b), (1, .ref B), (2, .ref T), (3, .ref o)] dL_law_1191 (by decide) rfl ?_
    refine g_aload_n hx 1193 (i := 2) 4 dL_law_1193 rfl rfl ?_
    refine g_aload_n hx 1194 (i := 0) 2 dL_law_1194 rfl rfl ?_
    refine g_iload hx 1195 (i := 4) 1 dL_law_1195 rfl ?_
    refine g_iconst hx 1197 (1) dL_law_1197 rfl ?_
    refine g_iadd hx 1198 dL_law_1198 ?_
    refine g_sld hx 1199 hs (vpi (j := 1) hi hL (by decide) _ rfl) dL_law_1199 ?_
    refine G.heap (LW.md (ad := ad) hlay) ?_
    refine g_callVr hx (c_Md_waitingIn (ρ := 0) (by decide) l g (putW (z, σ.2) B ae W) T (owF ad) M (xs (nI i + 1).toNatClampNeg) e2) lkl_181 arl_181 (pM_o (putW (z, σ.2) B ae W) T (owF ad) 0 M) (T := TX11) (N := 30) rfl (As := [.int (xs (nI i + 1).toNatClampNeg)]) (rest := []) rfl (Nat.le_of_ble_eq_true rfl) ⟨Nat.le_of_ble_eq_true rfl, Nat.le_of_ble_eq_true rfl⟩ ⟨rfl, rfl⟩ hk dL_law_1200 ?_
    refine G.heap (LW.md (ad := ad) hlay).symm ?_
    refine g_istore hx 1203 (i := 6) [(6, .int b9), (5, .int (ci1 kx)), (4, .int (nI i)), (0, .ref b), (1, .ref B), (2, .ref T), (3, .ref o)] dL_law_1203 (by decide) rfl ?_
    refine g_aload_n hx 1205 (i := 2) 5 dL_law_1205 rfl rfl ?_
    refine G.heap (LW.md (ad := ad) hlay) ?_
    refine g_callVr hx (c_Md_thrown (ρ := 0) (by decide) l g (putW (z, σ.2) B ae W) T (owF ad) M1 rfl) lkl_90 arl_90 (pM_o (putW (z, σ.2) B ae W) T (owF ad) 0 M1) (T := TX11) (N := 30) rfl (As := []) (rest := []) rfl (Nat.le_of_ble_eq_true rfl) ⟨Nat.le_of_ble_eq_true rfl, Nat.le_of_ble_eq_true rfl⟩ ⟨rfl, rfl⟩ hk dL_law_1206 ?_
    refine G.heap (LW.md (ad := ad) hlay).symm ?_
    refine g_iload hx 1209 (i := 5) 1 dL_law_1209 rfl ?_
    refine g_icmp_eq hx 1211 1216 dL_law_1211 (by decide) (fun _ => ?_) (fun hq => absurd e9 hq)
    refine g_iload hx 1216 (i := 5) 1 dL_law_1216 rfl ?_
    refine g_if_ne hx 1218 1233 dL_law_1218 (by decide) (fun _ => ?_) (fun hq => absurd hq (ci_n _))
    refine g_goto hx 1233 2042 dL_law_1233 (by decide) ?_
    refine g_ls [2, 3, 4, 5, 6] [(4, .int (nI i)), (0, .ref b), (1, .ref B), (2, .ref T), (3, .ref o)] rfl ?_
    exact next _ _ _ _ hw ho
  · refine g_callW hx (c_L_waitingIn l g hC hN hl (putMd σ T (owF ad) 0 M) B W (xs (nI i + 1).toNatClampNeg) (o := o) (LW.out hlay ho) hlay.1 e1 (fun k hk9 => ki_waitingIn W (xs (nI i + 1).toNatClampNeg) k (e1.trans (congrArg some hk9)))) lkw_waitingIn arw_waitingIn (As := [.ref B, .int (xs (nI i + 1).toNatClampNeg), .ref o]) (rest := []) rfl (Nat.le_of_ble_eq_true rfl) ⟨Nat.le_of_ble_eq_true rfl, Nat.le_of_ble_eq_true rfl⟩ hk dL_law_1188 (fun v9 σ9 hp => ?_)
    obtain ⟨u9, h9, rfl, rfl⟩ := Or.resolve_left hp (fun q => by obtain ⟨k9, h9, -, -⟩ := q; cases h9)
    cases h9
    refine G.heap (LW.set hlay _) ?_
    refine g_istore hx 1191 (i := 5) [(5, .int (0)), (4, .int (nI i)), (0, .ref b), (1, .ref B), (2, .ref T), (3, .ref o)] dL_law_1191 (by decide) rfl ?_
    refine g_aload_n hx 1193 (i := 2) 4 dL_law_1193 rfl rfl ?_
    refine g_aload_n hx 1194 (i := 0) 2 dL_law_1194 rfl rfl ?_
    refine g_iload hx 1195 (i := 4) 1 dL_law_1195 rfl ?_
    refine g_iconst hx 1197 (1) dL_law_1197 rfl ?_
    refine g_iadd hx 1198 dL_law_1198 ?_
    refine g_sld hx 1199 hs (vpi (j := 1) hi hL (by decide) _ rfl) dL_law_1199 ?_
    refine G.heap (LW.md (ad := ad) hlay) ?_
    refine g_callVr hx (c_Md_waitingIn (ρ := 0) (by decide) l g (putW (hset σ o (eJ 1 (vp_updL f 0 v.toInt64))) B ae W1) T (owF ad) M (xs (nI i + 1).toNatClampNeg) e2) lkl_181 arl_181 (pM_o (putW (hset σ o (eJ 1 (vp_updL f 0 v.toInt64))) B ae W1) T (owF ad) 0 M) (T := TX11) (N := 30) rfl (As := [.int (xs (nI i + 1).toNatClampNeg)]) (rest := []) rfl (Nat.le_of_ble_eq_true rfl) ⟨Nat.le_of_ble_eq_true rfl, Nat.le_of_ble_eq_true rfl⟩ ⟨rfl, rfl⟩ hk dL_law_1200 ?_
    refine G.heap (LW.md (ad := ad) hlay).symm ?_
    refine g_istore hx 1203 (i := 6) [(6, .int v), (5, .int (0)), (4, .int (nI i)), (0, .ref b), (1, .ref B), (2, .ref T), (3, .ref o)] dL_law_1203 (by decide) rfl ?_
    refine g_aload_n hx 1205 (i := 2) 5 dL_law_1205 rfl rfl ?_
    refine G.heap (LW.md (ad := ad) hlay) ?_
    refine g_callVr hx (c_Md_thrown (ρ := 0) (by decide) l g (putW (hset σ o (eJ 1 (vp_updL f 0 v.toInt64))) B ae W1) T (owF ad) M1 rfl) lkl_90 arl_90 (pM_o (putW (hset σ o (eJ 1 (vp_updL f 0 v.toInt64))) B ae W1) T (owF ad) 0 M1) (T := TX11) (N := 30) rfl (As := []) (rest := []) rfl (Nat.le_of_ble_eq_true rfl) ⟨Nat.le_of_ble_eq_true rfl, Nat.le_of_ble_eq_true rfl⟩ ⟨rfl, rfl⟩ hk dL_law_1206 ?_
    refine G.heap (LW.md (ad := ad) hlay).symm ?_
    refine g_iload hx 1209 (i := 5) 1 dL_law_1209 rfl ?_
    refine g_icmp_eq hx 1211 1216 dL_law_1211 (by decide) (fun _ => ?_) (fun hq => absurd e9 hq)
    refine g_iload hx 1216 (i := 5) 1 dL_law_1216 rfl ?_
    refine g_if_ne hx 1218 1233 dL_law_1218 (by decide) (fun hq => absurd rfl hq) (fun _ => ?_)
    refine g_aload_n hx 1221 (i := 3) 6 dL_law_1221 rfl rfl ?_
    refine g_iconst hx 1222 (0) dL_law_1222 rfl ?_
    refine g_lald hx 1223 (pW_out _ B ae W1 hlay.1 |>.trans (LW.out hlay (hset_self _ _ _))) vp01 dL_law_1223 ?_
    refine g_iload hx 1224 (i := 6) 0 dL_law_1224 rfl ?_
    refine g_i2l hx 1226 dL_law_1226 ?_
    refine g_lcmp hx 1227 dL_law_1227 ?_
    refine g_if_eq hx 1228 1233 dL_law_1228 (by decide) (fun _ => ?_) (fun hq => absurd (cmp_ll _) hq)
    refine g_goto hx 1233 2042 dL_law_1233 (by decide) ?_
    refine g_ls [2, 3, 4, 5, 6] [(4, .int (nI i)), (0, .ref b), (1, .ref B), (2, .ref T), (3, .ref o)] rfl ?_
    exact next _ _ _ _ hw (hset_self _ _ _)
set_option maxRecDepth 100000 in
set_option maxHeartbeats 4000000 in
theorem law_26 {X : Cx} {l : Launch} {g : Gl} {ad ae : Nat → Nat} (hx : Ok X l g RL cL_law 9 room_1) (hC : KAll g ad ae) (hN : KN g) (hl : l.stackTraces = false) {b L B T o i k n : Nat} {xs : Nat → Int32} (hs : Scr g b L xs) (hi : i + 6 ≤ L) (hL : L ≤ 3072) (hlay : Lay B T o) (hk : k + 1 ≤ room_1.cells ∧ n + 6 ≤ room_1.slots) {σ : Hp} {W : WM} {M : MdM} {f : Nat → Int64} (h : WRel W M) (ho : σ.2 o = some (eJ 1 f)) (next : LN X B T o ad ae k n [(4, .int (nI i)), (0, .ref b), (1, .ref B), (2, .ref T), (3, .ref o)]) : G X (LW σ B T ad ae W M) k n 1236 [(4, .int (nI i)), (0, .ref b), (1, .ref B), (2, .ref T), (3, .ref o)] [] := by
  refine g_aload_n hx 1236 (i := 1) 2 dL_law_1236 rfl rfl ?_
  refine g_aload_n hx 1237 (i := 0) 1 dL_law_1237 rfl rfl ?_
  refine g_iload hx 1238 (i := 4) 0 dL_law_1238 rfl ?_
  refine g_iconst hx 1240 (1) dL_law_1240 rfl ?_
  refine g_iadd hx 1241 dL_law_1241 ?_
  refine g_sld hx 1242 hs (vpi (j := 1) hi hL (by decide) _ rfl) dL_law_1242 ?_
  refine g_aload_n hx 1243 (i := 3) 4 dL_law_1243 rfl rfl ?_
  rcases f_servedWith h (xs (nI i + 1).toNatClampNeg) with ⟨kx, b9, M1, e1, e2, e9, hw⟩ | ⟨v, W1, M1, e1, e2, e9, hw⟩
  · refine g_callW hx (c_L_servedWith l g hC hN hl (putMd σ T (owF ad) 0 M) B W (xs (nI i + 1).toNatClampNeg) (o := o) (LW.out hlay ho) hlay.1 e1 (fun k hk9 => ki_servedWith W (xs (nI i + 1).toNatClampNeg) k (e1.trans (congrArg some hk9)))) lkw_servedWith arw_servedWith (As := [.ref B, .int (xs (nI i + 1).toNatClampNeg), .ref o]) (rest := []) rfl (Nat.le_of_ble_eq_true rfl) ⟨Nat.le_of_ble_eq_true rfl, Nat.le_of_ble_eq_true rfl⟩ hk dL_law_1244 (fun v9 σ9 hp => ?_)
    obtain ⟨k9, h9, rfl, h8⟩ := Or.resolve_right hp (fun q => by obtain ⟨u9, h9, -, -⟩ := q; cases h9)
    cases h9
    obtain ⟨z, σm⟩ := σ9
    cases h8
    refine G.heap (show _ = LW (z, σ.2) B T ad ae W M from rfl) ?_
    refine g_istore hx 1247 (i := 5) [(5, .int (ci1 kx)), (4, .int (nI i)), (0, .ref b), (1, .ref B), (2, .ref T), (3, .ref o)] dL_law_1247 (by decide) rfl ?_
    refine g_aload_n hx 1249 (i := 2) 4 dL_law_1249 rfl rfl ?_
    refine g_aload_n hx 1250 (i := 0) 2 dL_law_1250 rfl rfl ?_
    refine g_iload hx 1251 (i := 4) 1 dL_law_1251 rfl ?_
    refine g_iconst hx 1253 (1) dL_law_1253 rfl ?_
    refine g_iadd hx 1254 dL_law_1254 ?_
    refine g_sld hx 1255 hs (vpi (j := 1) hi hL (by decide) _ rfl) dL_law_1255 ?_
    refine G.heap (LW.md (ad := ad) hlay) ?_
    refine g_callVr hx (c_Md_servedWith (ρ := 0) (by decide) l g (putW (z, σ.2) B ae W) T (owF ad) M (xs (nI i + 1).toNatClampNeg) e2) lkl_184 arl_184 (pM_o (putW (z, σ.2) B ae W) T (owF ad) 0 M) (T := TX11) (N := 30) rfl (As := [.int (xs (nI i + 1).toNatClampNeg)]) (rest := []) rfl (Nat.le_of_ble_eq_true rfl) ⟨Nat.le_of_ble_eq_true rfl, Nat.le_of_ble_eq_true rfl⟩ ⟨rfl, rfl⟩ hk dL_law_1256 ?_
    refine G.heap (LW.md (ad := ad) hlay).symm ?_
    refine g_istore hx 1259 (i := 6) [(6, .int b9), (5, .int (ci1 kx)), (4, .int (nI i)), (0, .ref b), (1, .ref B), (2, .ref T), (3, .ref o)] dL_law_1259 (by decide) rfl ?_
    refine g_aload_n hx 1261 (i := 2) 5 dL_law_1261 rfl rfl ?_
    refine G.heap (LW.md (ad := ad) hlay) ?_
    refine g_callVr hx (c_Md_thrown (ρ := 0) (by decide) l g (putW (z, σ.2) B ae W) T (owF ad) M1 rfl) lkl_90 arl_90 (pM_o (putW (z, σ.2) B ae W) T (owF ad) 0 M1) (T := TX11) (N := 30) rfl (As := []) (rest := []) rfl (Nat.le_of_ble_eq_true rfl) ⟨Nat.le_of_ble_eq_true rfl, Nat.le_of_ble_eq_true rfl⟩ ⟨rfl, rfl⟩ hk dL_law_1262 ?_
    refine G.heap (LW.md (ad := ad) hlay).symm ?_
    refine g_iload hx 1265 (i := 5) 1 dL_law_1265 rfl ?_
    refine g_icmp_eq hx 1267 1272 dL_law_1267 (by decide) (fun _ => ?_) (fun hq => absurd e9 hq)
    refine g_iload hx 1272 (i := 5) 1 dL_law_1272 rfl ?_
    refine g_if_ne hx 1274 1289 dL_law_1274 (by decide) (fun _ => ?_) (fun hq => absurd hq (ci_n _))
    refine g_goto hx 1289 2042 dL_law_1289 (by decide) ?_
    refine g_ls [2, 3, 4, 5, 6] [(4, .int (nI i)), (0, .ref b), (1, .ref B), (2, .ref T), (3, .ref o)] rfl ?_
    exact next _ _ _ _ hw ho
  · refine g_callW hx (c_L_servedWith l g hC hN hl (putMd σ T (owF ad) 0 M) B W (xs (nI i + 1).toNatClampNeg) (o := o) (LW.out hlay ho) hlay.1 e1 (fun k hk9 => ki_servedWith W (xs (nI i + 1).toNatClampNeg) k (e1.trans (congrArg some hk9)))) lkw_servedWith arw_servedWith (As := [.ref B, .int (xs (nI i + 1).toNatClampNeg), .ref o]) (rest := []) rfl (Nat.le_of_ble_eq_true rfl) ⟨Nat.le_of_ble_eq_true rfl, Nat.le_of_ble_eq_true rfl⟩ hk dL_law_1244 (fun v9 σ9 hp => ?_)
    obtain ⟨u9, h9, rfl, rfl⟩ := Or.resolve_left hp (fun q => by obtain ⟨k9, h9, -, -⟩ := q; cases h9)
    cases h9
    refine G.heap (LW.set hlay _) ?_
    refine g_istore hx 1247 (i := 5) [(5, .int (0)), (4, .int (nI i)), (0, .ref b), (1, .ref B), (2, .ref T), (3, .ref o)] dL_law_1247 (by decide) rfl ?_
    refine g_aload_n hx 1249 (i := 2) 4 dL_law_1249 rfl rfl ?_
    refine g_aload_n hx 1250 (i := 0) 2 dL_law_1250 rfl rfl ?_
    refine g_iload hx 1251 (i := 4) 1 dL_law_1251 rfl ?_
    refine g_iconst hx 1253 (1) dL_law_1253 rfl ?_
    refine g_iadd hx 1254 dL_law_1254 ?_
    refine g_sld hx 1255 hs (vpi (j := 1) hi hL (by decide) _ rfl) dL_law_1255 ?_
    refine G.heap (LW.md (ad := ad) hlay) ?_
    refine g_callVr hx (c_Md_servedWith (ρ := 0) (by decide) l g (putW (hset σ o (eJ 1 (vp_updL f 0 v.toInt64))) B ae W1) T (owF ad) M (xs (nI i + 1).toNatClampNeg) e2) lkl_184 arl_184 (pM_o (putW (hset σ o (eJ 1 (vp_updL f 0 v.toInt64))) B ae W1) T (owF ad) 0 M) (T := TX11) (N := 30) rfl (As := [.int (xs (nI i + 1).toNatClampNeg)]) (rest := []) rfl (Nat.le_of_ble_eq_true rfl) ⟨Nat.le_of_ble_eq_true rfl, Nat.le_of_ble_eq_true rfl⟩ ⟨rfl, rfl⟩ hk dL_law_1256 ?_
    refine G.heap (LW.md (ad := ad) hlay).symm ?_
    refine g_istore hx 1259 (i := 6) [(6, .int v), (5, .int (0)), (4, .int (nI i)), (0, .ref b), (1, .ref B), (2, .ref T), (3, .ref o)] dL_law_1259 (by decide) rfl ?_
    refine g_aload_n hx 1261 (i := 2) 5 dL_law_1261 rfl rfl ?_
    refine G.heap (LW.md (ad := ad) hlay) ?_
    refine g_callVr hx (c_Md_thrown (ρ := 0) (by decide) l g (putW (hset σ o (eJ 1 (vp_updL f 0 v.toInt64))) B ae W1) T (owF ad) M1 rfl) lkl_90 arl_90 (pM_o (putW (hset σ o (eJ 1 (vp_updL f 0 v.toInt64))) B ae W1) T (owF ad) 0 M1) (T := TX11) (N := 30) rfl (As := []) (rest := []) rfl (Nat.le_of_ble_eq_true rfl) ⟨Nat.le_of_ble_eq_true rfl, Nat.le_of_ble_eq_true rfl⟩ ⟨rfl, rfl⟩ hk dL_law_1262 ?_
    refine G.heap (LW.md (ad := ad) hlay).symm ?_
    refine g_iload hx 1265 (i := 5) 1 dL_law_1265 rfl ?_
    refine g_icmp_eq hx 1267 1272 dL_law_1267 (by decide) (fun _ => ?_) (fun hq => absurd e9 hq)
    refine g_iload hx 1272 (i := 5) 1 dL_law_1272 rfl ?_
    refine g_if_ne hx 1274 1289 dL_law_1274 (by decide) (fun hq => absurd rfl hq) (fun _ => ?_)
    refine g_aload_n hx 1277 (i := 3) 6 dL_law_1277 rfl rfl ?_
    refine g_iconst hx 1278 (0) dL_law_1278 rfl ?_
    refine g_lald hx 1279 (pW_out _ B ae W1 hlay.1 |>.trans (LW.out hlay (hset_self _ _ _))) vp01 dL_law_1279 ?_
    refine g_iload hx 1280 (i := 6) 0 dL_law_1280 rfl ?_
    refine g_i2l hx 1282 dL_law_1282 ?_
    refine g_lcmp hx 1283 dL_law_1283 ?_
    refine g_if_eq hx 1284 1289 dL_law_1284 (by decide) (fun _ => ?_) (fun hq => absurd (cmp_ll _) hq)
    refine g_goto hx 1289 2042 dL_law_1289 (by decide) ?_
    refine g_ls [2, 3, 4, 5, 6] [(4, .int (nI i)), (0, .ref b), (1, .ref B), (2, .ref T), (3, .ref o)] rfl ?_
    exact next _ _ _ _ hw (hset_self _ _ _)
set_option maxRecDepth 100000 in
set_option maxHeartbeats 4000000 in
theorem law_27 {X : Cx} {l : Launch} {g : Gl} {ad ae : Nat → Nat} (hx : Ok X l g RL cL_law 9 room_1) (hC : KAll g ad ae) (hN : KN g) (hl : l.stackTraces = false) {b L B T o i k n : Nat} {xs : Nat → Int32} (hs : Scr g b L xs) (hi : i + 6 ≤ L) (hL : L ≤ 3072) (hlay : Lay B T o) (hk : k + 1 ≤ room_1.cells ∧ n + 6 ≤ room_1.slots) {σ : Hp} {W : WM} {M : MdM} {f : Nat → Int64} (h : WRel W M) (ho : σ.2 o = some (eJ 1 f)) (next : LN X B T o ad ae k n [(4, .int (nI i)), (0, .ref b), (1, .ref B), (2, .ref T), (3, .ref o)]) : G X (LW σ B T ad ae W M) k n 1292 [(4, .int (nI i)), (0, .ref b), (1, .ref B), (2, .ref T), (3, .ref o)] [] := by
  obtain ⟨v, M1, e1, e2, hw⟩ := f_swapsLeft h
  refine g_aload_n hx 1292 (i := 1) 2 dL_law_1292 rfl rfl ?_
  refine g_callVr hx (c_SA_swapsLeft l g hC (putMd σ T (owF ad) 0 M) B W e1) lkl_185 arl_185 (pW (putMd σ T (owF ad) 0 M) B ae W 0 (by decide)) (T := TX10) (N := 11) rfl (As := []) (rest := []) rfl (Nat.le_of_ble_eq_true rfl) ⟨Nat.le_of_ble_eq_true rfl, Nat.le_of_ble_eq_true rfl⟩ ⟨rfl, rfl⟩ ⟨Nat.le_of_succ_le hk.1, Nat.le_trans (Nat.le_add_right _ 6) hk.2⟩ dL_law_1293 ?_
  refine g_aload_n hx 1296 (i := 2) 3 dL_law_1296 rfl rfl ?_
  refine G.heap (LW.md (ad := ad) hlay) ?_
  refine g_callVr hx (c_Md_swapsLeft (ρ := 0) (by decide) l g (putW σ B ae W) T (owF ad) M e2) lkl_188 arl_188 (pM_o (putW σ B ae W) T (owF ad) 0 M) (T := TX11) (N := 30) rfl (As := []) (rest := [.int v]) rfl (Nat.le_of_ble_eq_true rfl) ⟨Nat.le_of_ble_eq_true rfl, Nat.le_of_ble_eq_true rfl⟩ ⟨rfl, rfl⟩ ⟨Nat.le_of_succ_le hk.1, Nat.le_trans (Nat.le_add_right _ 6) hk.2⟩ dL_law_1297 ?_
  refine G.heap (LW.md (ad := ad) hlay).symm ?_
  exact g_icmp_eq hx 1300 2042 dL_law_1300 (by decide) (fun _ => (g_widen (Nat.le_succ _) (Nat.le_add_right _ _) (next _ _ _ _ hw ho))) (fun hq => absurd rfl hq)
set_option maxRecDepth 100000 in
set_option maxHeartbeats 4000000 in
theorem law_28 {X : Cx} {l : Launch} {g : Gl} {ad ae : Nat → Nat} (hx : Ok X l g RL cL_law 9 room_1) (hC : KAll g ad ae) (hN : KN g) (hl : l.stackTraces = false) {b L B T o i k n : Nat} {xs : Nat → Int32} (hs : Scr g b L xs) (hi : i + 6 ≤ L) (hL : L ≤ 3072) (hlay : Lay B T o) (hk : k + 1 ≤ room_1.cells ∧ n + 6 ≤ room_1.slots) {σ : Hp} {W : WM} {M : MdM} {f : Nat → Int64} (h : WRel W M) (ho : σ.2 o = some (eJ 1 f)) (next : LN X B T o ad ae k n [(4, .int (nI i)), (0, .ref b), (1, .ref B), (2, .ref T), (3, .ref o)]) : G X (LW σ B T ad ae W M) k n 1305 [(4, .int (nI i)), (0, .ref b), (1, .ref B), (2, .ref T), (3, .ref o)] [] := by
  refine g_aload_n hx 1305 (i := 1) 2 dL_law_1305 rfl rfl ?_
  refine g_aload_n hx 1306 (i := 0) 1 dL_law_1306 rfl rfl ?_
  refine g_iload hx 1307 (i := 4) 0 dL_law_1307 rfl ?_
  refine g_iconst hx 1309 (1) dL_law_1309 rfl ?_
  refine g_iadd hx 1310 dL_law_1310 ?_
  refine g_sld hx 1311 hs (vpi (j := 1) hi hL (by decide) _ rfl) dL_law_1311 ?_
  refine g_aload_n hx 1312 (i := 3) 4 dL_law_1312 rfl rfl ?_
  rcases f_missedAfter h (xs (nI i + 1).toNatClampNeg) with ⟨kx, b9, M1, e1, e2, e9, hw⟩ | ⟨v, W1, M1, e1, e2, e9, hw⟩
  · refine g_callW hx (c_L_missedAfter l g hC hN hl (putMd σ T (owF ad) 0 M) B W (xs (nI i + 1).toNatClampNeg) (o := o) (LW.out hlay ho) hlay.1 e1 (fun k hk9 => ki_missedAfter W (xs (nI i + 1).toNatClampNeg) k (e1.trans (congrArg some hk9)))) lkw_missedAfter arw_missedAfter (As := [.ref B, .int (xs (nI i + 1).toNatClampNeg), .ref o]) (rest := []) rfl (Nat.le_of_ble_eq_true rfl) ⟨Nat.le_of_ble_eq_true rfl, Nat.le_of_ble_eq_true rfl⟩ hk dL_law_1313 (fun v9 σ9 hp => ?_)
    obtain ⟨k9, h9, rfl, h8⟩ := Or.resolve_right hp (fun q => by obtain ⟨u9, h9, -, -⟩ := q; cases h9)
    cases h9
    obtain ⟨z, σm⟩ := σ9
    cases h8
    refine G.heap (show _ = LW (z, σ.2) B T ad ae W M from rfl) ?_
    refine g_istore hx 1316 (i := 5) [(5, .int (ci1 kx)), (4, .int (nI i)), (0, .ref b), (1, .ref B), (2, .ref T), (3, .ref o)] dL_law_1316 (by decide) rfl ?_
    refine g_aload_n hx 1318 (i := 2) 4 dL_law_1318 rfl rfl ?_
    refine g_aload_n hx 1319 (i := 0) 2 dL_law_1319 rfl rfl ?_
    refine g_iload hx 1320 (i := 4) 1 dL_law_1320 rfl ?_
    refine g_iconst hx 1322 (1) dL_law_1322 rfl ?_
    refine g_iadd hx 1323 dL_law_1323 ?_
    refine g_sld hx 1324 hs (vpi (j := 1) hi hL (by decide) _ rfl) dL_law_1324 ?_
    refine G.heap (LW.md (ad := ad) hlay) ?_
    refine g_callVr hx (c_Md_missedAfter (ρ := 0) (by decide) l g (putW (z, σ.2) B ae W) T (owF ad) M (xs (nI i + 1).toNatClampNeg) e2) lkl_191 arl_191 (pM_o (putW (z, σ.2) B ae W) T (owF ad) 0 M) (T := TX11) (N := 30) rfl (As := [.int (xs (nI i + 1).toNatClampNeg)]) (rest := []) rfl (Nat.le_of_ble_eq_true rfl) ⟨Nat.le_of_ble_eq_true rfl, Nat.le_of_ble_eq_true rfl⟩ ⟨rfl, rfl⟩ hk dL_law_1325 ?_
    refine G.heap (LW.md (ad := ad) hlay).symm ?_
    refine g_istore hx 1328 (i := 6) [(6, .int b9), (5, .int (ci1 kx)), (4, .int (nI i)), (0, .ref b), (1, .ref B), (2, .ref T), (3, .ref o)] dL_law_1328 (by decide) rfl ?_
    refine g_aload_n hx 1330 (i := 2) 5 dL_law_1330 rfl rfl ?_
    refine G.heap (LW.md (ad := ad) hlay) ?_
    refine g_callVr hx (c_Md_thrown (ρ := 0) (by decide) l g (putW (z, σ.2) B ae W) T (owF ad) M1 rfl) lkl_90 arl_90 (pM_o (putW (z, σ.2) B ae W) T (owF ad) 0 M1) (T := TX11) (N := 30) rfl (As := []) (rest := []) rfl (Nat.le_of_ble_eq_true rfl) ⟨Nat.le_of_ble_eq_true rfl, Nat.le_of_ble_eq_true rfl⟩ ⟨rfl, rfl⟩ hk dL_law_1331 ?_
    refine G.heap (LW.md (ad := ad) hlay).symm ?_
    refine g_iload hx 1334 (i := 5) 1 dL_law_1334 rfl ?_
    refine g_icmp_eq hx 1336 1341 dL_law_1336 (by decide) (fun _ => ?_) (fun hq => absurd e9 hq)
    refine g_iload hx 1341 (i := 5) 1 dL_law_1341 rfl ?_
    refine g_if_ne hx 1343 1358 dL_law_1343 (by decide) (fun _ => ?_) (fun hq => absurd hq (ci_n _))
    refine g_goto hx 1358 2042 dL_law_1358 (by decide) ?_
    refine g_ls [2, 3, 4, 5, 6] [(4, .int (nI i)), (0, .ref b), (1, .ref B), (2, .ref T), (3, .ref o)] rfl ?_
    exact next _ _ _ _ hw ho
  · refine g_callW hx (c_L_missedAfter l g hC hN hl (putMd σ T (owF ad) 0 M) B W (xs (nI i + 1).toNatClampNeg) (o := o) (LW.out hlay ho) hlay.1 e1 (fun k hk9 => ki_missedAfter W (xs (nI i + 1).toNatClampNeg) k (e1.trans (congrArg some hk9)))) lkw_missedAfter arw_missedAfter (As := [.ref B, .int (xs (nI i + 1).toNatClampNeg), .ref o]) (rest := []) rfl (Nat.le_of_ble_eq_true rfl) ⟨Nat.le_of_ble_eq_true rfl, Nat.le_of_ble_eq_true rfl⟩ hk dL_law_1313 (fun v9 σ9 hp => ?_)
    obtain ⟨u9, h9, rfl, rfl⟩ := Or.resolve_left hp (fun q => by obtain ⟨k9, h9, -, -⟩ := q; cases h9)
    cases h9
    refine G.heap (LW.set hlay _) ?_
    refine g_istore hx 1316 (i := 5) [(5, .int (0)), (4, .int (nI i)), (0, .ref b), (1, .ref B), (2, .ref T), (3, .ref o)] dL_law_1316 (by decide) rfl ?_
    refine g_aload_n hx 1318 (i := 2) 4 dL_law_1318 rfl rfl ?_
    refine g_aload_n hx 1319 (i := 0) 2 dL_law_1319 rfl rfl ?_
    refine g_iload hx 1320 (i := 4) 1 dL_law_1320 rfl ?_
    refine g_iconst hx 1322 (1) dL_law_1322 rfl ?_
    refine g_iadd hx 1323 dL_law_1323 ?_
    refine g_sld hx 1324 hs (vpi (j := 1) hi hL (by decide) _ rfl) dL_law_1324 ?_
    refine G.heap (LW.md (ad := ad) hlay) ?_
    refine g_callVr hx (c_Md_missedAfter (ρ := 0) (by decide) l g (putW (hset σ o (eJ 1 (vp_updL f 0 v.toInt64))) B ae W1) T (owF ad) M (xs (nI i + 1).toNatClampNeg) e2) lkl_191 arl_191 (pM_o (putW (hset σ o (eJ 1 (vp_updL f 0 v.toInt64))) B ae W1) T (owF ad) 0 M) (T := TX11) (N := 30) rfl (As := [.int (xs (nI i + 1).toNatClampNeg)]) (rest := []) rfl (Nat.le_of_ble_eq_true rfl) ⟨Nat.le_of_ble_eq_true rfl, Nat.le_of_ble_eq_true rfl⟩ ⟨rfl, rfl⟩ hk dL_law_1325 ?_
    refine G.heap (LW.md (ad := ad) hlay).symm ?_
    refine g_istore hx 1328 (i := 6) [(6, .int v), (5, .int (0)), (4, .int (nI i)), (0, .ref b), (1, .ref B), (2, .ref T), (3, .ref o)] dL_law_1328 (by decide) rfl ?_
    refine g_aload_n hx 1330 (i := 2) 5 dL_law_1330 rfl rfl ?_
    refine G.heap (LW.md (ad := ad) hlay) ?_
    refine g_callVr hx (c_Md_thrown (ρ := 0) (by decide) l g (putW (hset σ o (eJ 1 (vp_updL f 0 v.toInt64))) B ae W1) T (owF ad) M1 rfl) lkl_90 arl_90 (pM_o (putW (hset σ o (eJ 1 (vp_updL f 0 v.toInt64))) B ae W1) T (owF ad) 0 M1) (T := TX11) (N := 30) rfl (As := []) (rest := []) rfl (Nat.le_of_ble_eq_true rfl) ⟨Nat.le_of_ble_eq_true rfl, Nat.le_of_ble_eq_true rfl⟩ ⟨rfl, rfl⟩ hk dL_law_1331 ?_
    refine G.heap (LW.md (ad := ad) hlay).symm ?_
    refine g_iload hx 1334 (i := 5) 1 dL_law_1334 rfl ?_
    refine g_icmp_eq hx 1336 1341 dL_law_1336 (by decide) (fun _ => ?_) (fun hq => absurd e9 hq)
    refine g_iload hx 1341 (i := 5) 1 dL_law_1341 rfl ?_
    refine g_if_ne hx 1343 1358 dL_law_1343 (by decide) (fun hq => absurd rfl hq) (fun _ => ?_)
    refine g_aload_n hx 1346 (i := 3) 6 dL_law_1346 rfl rfl ?_
    refine g_iconst hx 1347 (0) dL_law_1347 rfl ?_
    refine g_lald hx 1348 (pW_out _ B ae W1 hlay.1 |>.trans (LW.out hlay (hset_self _ _ _))) vp01 dL_law_1348 ?_
    refine g_iload hx 1349 (i := 6) 0 dL_law_1349 rfl ?_
    refine g_i2l hx 1351 dL_law_1351 ?_
    refine g_lcmp hx 1352 dL_law_1352 ?_
    refine g_if_eq hx 1353 1358 dL_law_1353 (by decide) (fun _ => ?_) (fun hq => absurd (cmp_ll _) hq)
    refine g_goto hx 1358 2042 dL_law_1358 (by decide) ?_
    refine g_ls [2, 3, 4, 5, 6] [(4, .int (nI i)), (0, .ref b), (1, .ref B), (2, .ref T), (3, .ref o)] rfl ?_
    exact next _ _ _ _ hw (hset_self _ _ _)
set_option maxRecDepth 100000 in
set_option maxHeartbeats 4000000 in
theorem law_29 {X : Cx} {l : Launch} {g : Gl} {ad ae : Nat → Nat} (hx : Ok X l g RL cL_law 9 room_1) (hC : KAll g ad ae) (hN : KN g) (hl : l.stackTraces = false) {b L B T o i k n : Nat} {xs : Nat → Int32} (hs : Scr g b L xs) (hi : i + 6 ≤ L) (hL : L ≤ 3072) (hlay : Lay B T o) (hk : k + 1 ≤ room_1.cells ∧ n + 6 ≤ room_1.slots) {σ : Hp} {W : WM} {M : MdM} {f : Nat → Int64} (h : WRel W M) (ho : σ.2 o = some (eJ 1 f)) (next : LN X B T o ad ae k n [(4, .int (nI i)), (0, .ref b), (1, .ref B), (2, .ref T), (3, .ref o)]) : G X (LW σ B T ad ae W M) k n 1361 [(4, .int (nI i)), (0, .ref b), (1, .ref B), (2, .ref T), (3, .ref o)] [] := by
  obtain ⟨v, W1, M1, e1, e2, hw, hnan⟩ := f_foundShare h
  refine g_aload_n hx 1361 (i := 1) 2 dL_law_1361 rfl rfl ?_
  refine g_callVr hx (c_SA_foundShare l g hC (putMd σ T (owF ad) 0 M) B W e1) lkl_192 arl_192 (pW (putMd σ T (owF ad) 0 M) B ae W 0 (by decide)) (T := TX10) (N := 11) rfl (As := []) (rest := []) rfl (Nat.le_of_ble_eq_true rfl) ⟨Nat.le_of_ble_eq_true rfl, Nat.le_of_ble_eq_true rfl⟩ ⟨rfl, rfl⟩ ⟨Nat.le_of_succ_le hk.1, Nat.le_trans (Nat.le_add_right _ 6) hk.2⟩ dL_law_1362 ?_
  refine g_f2d hx 1365 hnan dL_law_1365 ?_
  refine g_dstore hx 1366 (i := 5) [(5, .double (FP.f2d v)), (4, .int (nI i)), (0, .ref b), (1, .ref B), (2, .ref T), (3, .ref o)] dL_law_1366 (by decide) rfl ?_
  refine g_aload_n hx 1368 (i := 2) 4 dL_law_1368 rfl rfl ?_
  refine G.heap (LW.md (ad := ad) hlay) ?_
  refine g_callVr hx (c_Md_foundShare (ρ := 0) (by decide) l g (putW σ B ae W1) T (owF ad) M e2) lkl_196 arl_196 (pM_o (putW σ B ae W1) T (owF ad) 0 M) (T := TX11) (N := 30) rfl (As := []) (rest := []) rfl (Nat.le_of_ble_eq_true rfl) ⟨Nat.le_of_ble_eq_true rfl, Nat.le_of_ble_eq_true rfl⟩ ⟨rfl, rfl⟩ ⟨Nat.le_of_succ_le hk.1, Nat.le_trans (Nat.le_add_right _ 6) hk.2⟩ dL_law_1369 ?_
  refine G.heap (LW.md (ad := ad) hlay).symm ?_
  refine g_f2d hx 1372 hnan dL_law_1372 ?_
  refine g_dstore hx 1373 (i := 7) [(7, .double (FP.f2d v)), (5, .double (FP.f2d v)), (4, .int (nI i)), (0, .ref b), (1, .ref B), (2, .ref T), (3, .ref o)] dL_law_1373 (by decide) rfl ?_
  refine g_dload hx 1375 (i := 5) 1 dL_law_1375 rfl ?_
  refine g_dload hx 1377 (i := 7) 0 dL_law_1377 rfl ?_
  refine g_dcmp hx 1379 dL_law_1379 ?_
  have go : G X (LW σ B T ad ae W1 M1) k n 1401 [(7, .double (FP.f2d v)), (5, .double (FP.f2d v)), (4, .int (nI i)), (0, .ref b), (1, .ref B), (2, .ref T), (3, .ref o)] [] := by
    refine g_goto hx 1401 2042 dL_law_1401 (by decide) ?_
    refine g_ls [2, 3, 4, 5, 6] [(4, .int (nI i)), (0, .ref b), (1, .ref B), (2, .ref T), (3, .ref o)] rfl ?_
    exact (g_widen (Nat.le_succ _) (Nat.le_add_right _ _) (next _ _ _ _ hw ho))
  refine g_if_eq hx 1380 1401 dL_law_1380 (by decide) (fun _ => go) (fun hq => ?_)
  refine g_dload hx 1383 (i := 5) 1 dL_law_1383 rfl ?_
  refine g_dload hx 1385 (i := 5) 1 dL_law_1385 rfl ?_
  refine g_dcmp hx 1387 dL_law_1387 ?_
  refine g_if_eq hx 1388 1399 dL_law_1388 (by decide) (fun h0 => absurd h0 hq) (fun _ => ?_)
  refine g_dload hx 1391 (i := 7) 0 dL_law_1391 rfl ?_
  refine g_dload hx 1393 (i := 7) 0 dL_law_1393 rfl ?_
  refine g_dcmp hx 1395 dL_law_1395 ?_
  exact g_if_ne hx 1396 1401 dL_law_1396 (by decide) (fun _ => go) (fun h0 => absurd h0 hq)
set_option maxRecDepth 100000 in
set_option maxHeartbeats 4000000 in
theorem law_30 {X : Cx} {l : Launch} {g : Gl} {ad ae : Nat → Nat} (hx : Ok X l g RL cL_law 9 room_1) (hC : KAll g ad ae) (hN : KN g) (hl : l.stackTraces = false) {b L B T o i k n : Nat} {xs : Nat → Int32} (hs : Scr g b L xs) (hi : i + 6 ≤ L) (hL : L ≤ 3072) (hlay : Lay B T o) (hk : k + 1 ≤ room_1.cells ∧ n + 6 ≤ room_1.slots) {σ : Hp} {W : WM} {M : MdM} {f : Nat → Int64} (h : WRel W M) (ho : σ.2 o = some (eJ 1 f)) (next : LN X B T o ad ae k n [(4, .int (nI i)), (0, .ref b), (1, .ref B), (2, .ref T), (3, .ref o)]) : G X (LW σ B T ad ae W M) k n 1404 [(4, .int (nI i)), (0, .ref b), (1, .ref B), (2, .ref T), (3, .ref o)] [] := by
  obtain ⟨v, M1, e1, e2, hw, hnan⟩ := f_meanWait h
  refine g_aload_n hx 1404 (i := 1) 2 dL_law_1404 rfl rfl ?_
  refine g_callVr hx (c_SA_meanWait l g hC (putMd σ T (owF ad) 0 M) B W e1) lkl_197 arl_197 (pW (putMd σ T (owF ad) 0 M) B ae W 0 (by decide)) (T := TX10) (N := 11) rfl (As := []) (rest := []) rfl (Nat.le_of_ble_eq_true rfl) ⟨Nat.le_of_ble_eq_true rfl, Nat.le_of_ble_eq_true rfl⟩ ⟨rfl, rfl⟩ ⟨Nat.le_of_succ_le hk.1, Nat.le_trans (Nat.le_add_right _ 6) hk.2⟩ dL_law_1405 ?_
  refine g_dstore hx 1408 (i := 5) [(5, .double v), (4, .int (nI i)), (0, .ref b), (1, .ref B), (2, .ref T), (3, .ref o)] dL_law_1408 (by decide) rfl ?_
  refine g_aload_n hx 1410 (i := 2) 4 dL_law_1410 rfl rfl ?_
  refine G.heap (LW.md (ad := ad) hlay) ?_
  refine g_callVr hx (c_Md_meanWait (ρ := 0) (by decide) l g (putW σ B ae W) T (owF ad) M e2) lkl_201 arl_201 (pM_o (putW σ B ae W) T (owF ad) 0 M) (T := TX11) (N := 30) rfl (As := []) (rest := []) rfl (Nat.le_of_ble_eq_true rfl) ⟨Nat.le_of_ble_eq_true rfl, Nat.le_of_ble_eq_true rfl⟩ ⟨rfl, rfl⟩ ⟨Nat.le_of_succ_le hk.1, Nat.le_trans (Nat.le_add_right _ 6) hk.2⟩ dL_law_1411 ?_
  refine G.heap (LW.md (ad := ad) hlay).symm ?_
  refine g_dstore hx 1414 (i := 7) [(7, .double v), (5, .double v), (4, .int (nI i)), (0, .ref b), (1, .ref B), (2, .ref T), (3, .ref o)] dL_law_1414 (by decide) rfl ?_
  refine g_dload hx 1416 (i := 5) 1 dL_law_1416 rfl ?_
  refine g_dload hx 1418 (i := 7) 0 dL_law_1418 rfl ?_
  refine g_dcmp hx 1420 dL_law_1420 ?_
  have go : G X (LW σ B T ad ae W M1) k n 1442 [(7, .double v), (5, .double v), (4, .int (nI i)), (0, .ref b), (1, .ref B), (2, .ref T), (3, .ref o)] [] := by
    refine g_goto hx 1442 2042 dL_law_1442 (by decide) ?_
    refine g_ls [2, 3, 4, 5, 6] [(4, .int (nI i)), (0, .ref b), (1, .ref B), (2, .ref T), (3, .ref o)] rfl ?_
    exact (g_widen (Nat.le_succ _) (Nat.le_add_right _ _) (next _ _ _ _ hw ho))
  refine g_if_eq hx 1421 1442 dL_law_1421 (by decide) (fun _ => go) (fun hq => ?_)
  refine g_dload hx 1424 (i := 5) 1 dL_law_1424 rfl ?_
  refine g_dload hx 1426 (i := 5) 1 dL_law_1426 rfl ?_
  refine g_dcmp hx 1428 dL_law_1428 ?_
  refine g_if_eq hx 1429 1440 dL_law_1429 (by decide) (fun h0 => absurd h0 hq) (fun _ => ?_)
  refine g_dload hx 1432 (i := 7) 0 dL_law_1432 rfl ?_
  refine g_dload hx 1434 (i := 7) 0 dL_law_1434 rfl ?_
  refine g_dcmp hx 1436 dL_law_1436 ?_
  exact g_if_ne hx 1437 1442 dL_law_1437 (by decide) (fun _ => go) (fun h0 => absurd h0 hq)
set_option maxRecDepth 100000 in
set_option maxHeartbeats 4000000 in
theorem law_31 {X : Cx} {l : Launch} {g : Gl} {ad ae : Nat → Nat} (hx : Ok X l g RL cL_law 9 room_1) (hC : KAll g ad ae) (hN : KN g) (hl : l.stackTraces = false) {b L B T o i k n : Nat} {xs : Nat → Int32} (hs : Scr g b L xs) (hi : i + 6 ≤ L) (hL : L ≤ 3072) (hlay : Lay B T o) (hk : k + 1 ≤ room_1.cells ∧ n + 6 ≤ room_1.slots) {σ : Hp} {W : WM} {M : MdM} {f : Nat → Int64} (h : WRel W M) (ho : σ.2 o = some (eJ 1 f)) (next : LN X B T o ad ae k n [(4, .int (nI i)), (0, .ref b), (1, .ref B), (2, .ref T), (3, .ref o)]) : G X (LW σ B T ad ae W M) k n 1445 [(4, .int (nI i)), (0, .ref b), (1, .ref B), (2, .ref T), (3, .ref o)] [] := by
  refine g_aload_n hx 1445 (i := 1) 2 dL_law_1445 rfl rfl ?_
  refine g_aload_n hx 1446 (i := 0) 1 dL_law_1446 rfl rfl ?_
  refine g_iload hx 1447 (i := 4) 0 dL_law_1447 rfl ?_
  refine g_iconst hx 1449 (1) dL_law_1449 rfl ?_
  refine g_iadd hx 1450 dL_law_1450 ?_
  refine g_sld hx 1451 hs (vpi (j := 1) hi hL (by decide) _ rfl) dL_law_1451 ?_
  refine g_aload_n hx 1452 (i := 0) 1 dL_law_1452 rfl rfl ?_
  refine g_iload hx 1453 (i := 4) 0 dL_law_1453 rfl ?_
  refine g_iconst hx 1455 (2) dL_law_1455 rfl ?_
  refine g_iadd hx 1456 dL_law_1456 ?_
  refine g_sld hx 1457 hs (vpi (j := 2) hi hL (by decide) _ rfl) dL_law_1457 ?_
  refine g_aload_n hx 1458 (i := 3) 4 dL_law_1458 rfl rfl ?_
  rcases f_slip h (xs (nI i + 1).toNatClampNeg) (xs (nI i + 2).toNatClampNeg) with ⟨kx, b9, M1, e1, e2, e9, hw⟩ | ⟨v, W1, M1, e1, e2, e9, hw⟩
  · refine g_callW hx (c_L_slip l g hC hN hl (putMd σ T (owF ad) 0 M) B W (xs (nI i + 1).toNatClampNeg) (xs (nI i + 2).toNatClampNeg) (o := o) (LW.out hlay ho) hlay.1 e1 (fun k hk9 => ki_slip W (xs (nI i + 1).toNatClampNeg) (xs (nI i + 2).toNatClampNeg) k (e1.trans (congrArg some hk9)))) lkw_slip arw_slip (As := [.ref B, .int (xs (nI i + 1).toNatClampNeg), .int (xs (nI i + 2).toNatClampNeg), .ref o]) (rest := []) rfl (Nat.le_of_ble_eq_true rfl) ⟨Nat.le_of_ble_eq_true rfl, Nat.le_of_ble_eq_true rfl⟩ hk dL_law_1459 (fun v9 σ9 hp => ?_)
    obtain ⟨k9, h9, rfl, h8⟩ := Or.resolve_right hp (fun q => by obtain ⟨u9, h9, -, -⟩ := q; cases h9)
    cases h9
    obtain ⟨z, σm⟩ := σ9
    cases h8
    refine G.heap (show _ = LW (z, σ.2) B T ad ae W M from rfl) ?_
    refine g_istore hx 1462 (i := 5) [(5, .int (ci1 kx)), (4, .int (nI i)), (0, .ref b), (1, .ref B), (2, .ref T), (3, .ref o)] dL_law_1462 (by decide) rfl ?_
    refine g_aload_n hx 1464 (i := 2) 4 dL_law_1464 rfl rfl ?_
    refine g_aload_n hx 1465 (i := 0) 2 dL_law_1465 rfl rfl ?_
    refine g_iload hx 1466 (i := 4) 1 dL_law_1466 rfl ?_
    refine g_iconst hx 1468 (1) dL_law_1468 rfl ?_
    refine g_iadd hx 1469 dL_law_1469 ?_
    refine g_sld hx 1470 hs (vpi (j := 1) hi hL (by decide) _ rfl) dL_law_1470 ?_
    refine g_aload_n hx 1471 (i := 0) 2 dL_law_1471 rfl rfl ?_
    refine g_iload hx 1472 (i := 4) 1 dL_law_1472 rfl ?_
    refine g_iconst hx 1474 (2) dL_law_1474 rfl ?_
    refine g_iadd hx 1475 dL_law_1475 ?_
    refine g_sld hx 1476 hs (vpi (j := 2) hi hL (by decide) _ rfl) dL_law_1476 ?_
    refine G.heap (LW.md (ad := ad) hlay) ?_
    refine g_callVr hx (c_Md_slip (ρ := 0) (by decide) l g (putW (z, σ.2) B ae W) T (owF ad) M (xs (nI i + 1).toNatClampNeg) (xs (nI i + 2).toNatClampNeg) e2) lkl_204 arl_204 (pM_o (putW (z, σ.2) B ae W) T (owF ad) 0 M) (T := TX11) (N := 30) rfl (As := [.int (xs (nI i + 1).toNatClampNeg), .int (xs (nI i + 2).toNatClampNeg)]) (rest := []) rfl (Nat.le_of_ble_eq_true rfl) ⟨Nat.le_of_ble_eq_true rfl, Nat.le_of_ble_eq_true rfl⟩ ⟨rfl, rfl⟩ hk dL_law_1477 ?_
    refine G.heap (LW.md (ad := ad) hlay).symm ?_
    refine g_istore hx 1480 (i := 6) [(6, .int b9), (5, .int (ci1 kx)), (4, .int (nI i)), (0, .ref b), (1, .ref B), (2, .ref T), (3, .ref o)] dL_law_1480 (by decide) rfl ?_
    refine g_aload_n hx 1482 (i := 2) 5 dL_law_1482 rfl rfl ?_
    refine G.heap (LW.md (ad := ad) hlay) ?_
    refine g_callVr hx (c_Md_thrown (ρ := 0) (by decide) l g (putW (z, σ.2) B ae W) T (owF ad) M1 rfl) lkl_90 arl_90 (pM_o (putW (z, σ.2) B ae W) T (owF ad) 0 M1) (T := TX11) (N := 30) rfl (As := []) (rest := []) rfl (Nat.le_of_ble_eq_true rfl) ⟨Nat.le_of_ble_eq_true rfl, Nat.le_of_ble_eq_true rfl⟩ ⟨rfl, rfl⟩ hk dL_law_1483 ?_
    refine G.heap (LW.md (ad := ad) hlay).symm ?_
    refine g_iload hx 1486 (i := 5) 1 dL_law_1486 rfl ?_
    refine g_icmp_eq hx 1488 1493 dL_law_1488 (by decide) (fun _ => ?_) (fun hq => absurd e9 hq)
    refine g_iload hx 1493 (i := 5) 1 dL_law_1493 rfl ?_
    refine g_if_ne hx 1495 1510 dL_law_1495 (by decide) (fun _ => ?_) (fun hq => absurd hq (ci_n _))
    refine g_goto hx 1510 2042 dL_law_1510 (by decide) ?_
    refine g_ls [2, 3, 4, 5, 6] [(4, .int (nI i)), (0, .ref b), (1, .ref B), (2, .ref T), (3, .ref o)] rfl ?_
    exact next _ _ _ _ hw ho
  · refine g_callW hx (c_L_slip l g hC hN hl (putMd σ T (owF ad) 0 M) B W (xs (nI i + 1).toNatClampNeg) (xs (nI i + 2).toNatClampNeg) (o := o) (LW.out hlay ho) hlay.1 e1 (fun k hk9 => ki_slip W (xs (nI i + 1).toNatClampNeg) (xs (nI i + 2).toNatClampNeg) k (e1.trans (congrArg some hk9)))) lkw_slip arw_slip (As := [.ref B, .int (xs (nI i + 1).toNatClampNeg), .int (xs (nI i + 2).toNatClampNeg), .ref o]) (rest := []) rfl (Nat.le_of_ble_eq_true rfl) ⟨Nat.le_of_ble_eq_true rfl, Nat.le_of_ble_eq_true rfl⟩ hk dL_law_1459 (fun v9 σ9 hp => ?_)
    obtain ⟨u9, h9, rfl, rfl⟩ := Or.resolve_left hp (fun q => by obtain ⟨k9, h9, -, -⟩ := q; cases h9)
    cases h9
    refine G.heap (LW.set hlay _) ?_
    refine g_istore hx 1462 (i := 5) [(5, .int (0)), (4, .int (nI i)), (0, .ref b), (1, .ref B), (2, .ref T), (3, .ref o)] dL_law_1462 (by decide) rfl ?_
    refine g_aload_n hx 1464 (i := 2) 4 dL_law_1464 rfl rfl ?_
    refine g_aload_n hx 1465 (i := 0) 2 dL_law_1465 rfl rfl ?_
    refine g_iload hx 1466 (i := 4) 1 dL_law_1466 rfl ?_
    refine g_iconst hx 1468 (1) dL_law_1468 rfl ?_
    refine g_iadd hx 1469 dL_law_1469 ?_
    refine g_sld hx 1470 hs (vpi (j := 1) hi hL (by decide) _ rfl) dL_law_1470 ?_
    refine g_aload_n hx 1471 (i := 0) 2 dL_law_1471 rfl rfl ?_
    refine g_iload hx 1472 (i := 4) 1 dL_law_1472 rfl ?_
    refine g_iconst hx 1474 (2) dL_law_1474 rfl ?_
    refine g_iadd hx 1475 dL_law_1475 ?_
    refine g_sld hx 1476 hs (vpi (j := 2) hi hL (by decide) _ rfl) dL_law_1476 ?_
    refine G.heap (LW.md (ad := ad) hlay) ?_
    refine g_callVr hx (c_Md_slip (ρ := 0) (by decide) l g (putW (hset σ o (eJ 1 (vp_updL f 0 v.toInt64))) B ae W1) T (owF ad) M (xs (nI i + 1).toNatClampNeg) (xs (nI i + 2).toNatClampNeg) e2) lkl_204 arl_204 (pM_o (putW (hset σ o (eJ 1 (vp_updL f 0 v.toInt64))) B ae W1) T (owF ad) 0 M) (T := TX11) (N := 30) rfl (As := [.int (xs (nI i + 1).toNatClampNeg), .int (xs (nI i + 2).toNatClampNeg)]) (rest := []) rfl (Nat.le_of_ble_eq_true rfl) ⟨Nat.le_of_ble_eq_true rfl, Nat.le_of_ble_eq_true rfl⟩ ⟨rfl, rfl⟩ hk dL_law_1477 ?_
    refine G.heap (LW.md (ad := ad) hlay).symm ?_
    refine g_istore hx 1480 (i := 6) [(6, .int v), (5, .int (0)), (4, .int (nI i)), (0, .ref b), (1, .ref B), (2, .ref T), (3, .ref o)] dL_law_1480 (by decide) rfl ?_
    refine g_aload_n hx 1482 (i := 2) 5 dL_law_1482 rfl rfl ?_
    refine G.heap (LW.md (ad := ad) hlay) ?_
    refine g_callVr hx (c_Md_thrown (ρ := 0) (by decide) l g (putW (hset σ o (eJ 1 (vp_updL f 0 v.toInt64))) B ae W1) T (owF ad) M1 rfl) lkl_90 arl_90 (pM_o (putW (hset σ o (eJ 1 (vp_updL f 0 v.toInt64))) B ae W1) T (owF ad) 0 M1) (T := TX11) (N := 30) rfl (As := []) (rest := []) rfl (Nat.le_of_ble_eq_true rfl) ⟨Nat.le_of_ble_eq_true rfl, Nat.le_of_ble_eq_true rfl⟩ ⟨rfl, rfl⟩ hk dL_law_1483 ?_
    refine G.heap (LW.md (ad := ad) hlay).symm ?_
    refine g_iload hx 1486 (i := 5) 1 dL_law_1486 rfl ?_
    refine g_icmp_eq hx 1488 1493 dL_law_1488 (by decide) (fun _ => ?_) (fun hq => absurd e9 hq)
    refine g_iload hx 1493 (i := 5) 1 dL_law_1493 rfl ?_
    refine g_if_ne hx 1495 1510 dL_law_1495 (by decide) (fun hq => absurd rfl hq) (fun _ => ?_)
    refine g_aload_n hx 1498 (i := 3) 6 dL_law_1498 rfl rfl ?_
    refine g_iconst hx 1499 (0) dL_law_1499 rfl ?_
    refine g_lald hx 1500 (pW_out _ B ae W1 hlay.1 |>.trans (LW.out hlay (hset_self _ _ _))) vp01 dL_law_1500 ?_
    refine g_iload hx 1501 (i := 6) 0 dL_law_1501 rfl ?_
    refine g_i2l hx 1503 dL_law_1503 ?_
    refine g_lcmp hx 1504 dL_law_1504 ?_
    refine g_if_eq hx 1505 1510 dL_law_1505 (by decide) (fun _ => ?_) (fun hq => absurd (cmp_ll _) hq)
    refine g_goto hx 1510 2042 dL_law_1510 (by decide) ?_
    refine g_ls [2, 3, 4, 5, 6] [(4, .int (nI i)), (0, .ref b), (1, .ref B), (2, .ref T), (3, .ref o)] rfl ?_
    exact next _ _ _ _ hw (hset_self _ _ _)
set_option maxRecDepth 100000 in
set_option maxHeartbeats 4000000 in
theorem law_32 {X : Cx} {l : Launch} {g : Gl} {ad ae : Nat → Nat} (hx : Ok X l g RL cL_law 9 room_1) (hC : KAll g ad ae) (hN : KN g) (hl : l.stackTraces = false) {b L B T o i k n : Nat} {xs : Nat → Int32} (hs : Scr g b L xs) (hi : i + 6 ≤ L) (hL : L ≤ 3072) (hlay : Lay B T o) (hk : k + 1 ≤ room_1.cells ∧ n + 6 ≤ room_1.slots) {σ : Hp} {W : WM} {M : MdM} {f : Nat → Int64} (h : WRel W M) (ho : σ.2 o = some (eJ 1 f)) (next : LN X B T o ad ae k n [(4, .int (nI i)), (0, .ref b), (1, .ref B), (2, .ref T), (3, .ref o)]) : G X (LW σ B T ad ae W M) k n 1513 [(4, .int (nI i)), (0, .ref b), (1, .ref B), (2, .ref T), (3, .ref o)] [] := by
  obtain ⟨v, W1, M1, e1, e2, hw⟩ := f_dropSlip h (xs (nI i + 1).toNatClampNeg)
  refine g_aload_n hx 1513 (i := 1) 2 dL_law_1513 rfl rfl ?_
  refine g_aload_n hx 1514 (i := 0) 1 dL_law_1514 rfl rfl ?_
  refine g_iload hx 1515 (i := 4) 0 dL_law_1515 rfl ?_
  refine g_iconst hx 1517 (1) dL_law_1517 rfl ?_
  refine g_iadd hx 1518 dL_law_1518 ?_
  refine g_sld hx 1519 hs (vpi (j := 1) hi hL (by decide) _ rfl) dL_law_1519 ?_
  refine g_callVr hx (c_SA_dropSlip l g hC (putMd σ T (owF ad) 0 M) B W (xs (nI i + 1).toNatClampNeg) e1) lkl_205 arl_205 (pW (putMd σ T (owF ad) 0 M) B ae W 0 (by decide)) (T := TX10) (N := 11) rfl (As := [.int (xs (nI i + 1).toNatClampNeg)]) (rest := []) rfl (Nat.le_of_ble_eq_true rfl) ⟨Nat.le_of_ble_eq_true rfl, Nat.le_of_ble_eq_true rfl⟩ ⟨rfl, rfl⟩ ⟨Nat.le_of_succ_le hk.1, Nat.le_trans (Nat.le_add_right _ 6) hk.2⟩ dL_law_1520 ?_
  refine g_aload_n hx 1523 (i := 2) 3 dL_law_1523 rfl rfl ?_
  refine g_aload_n hx 1524 (i := 0) 1 dL_law_1524 rfl rfl ?_
  refine g_iload hx 1525 (i := 4) 0 dL_law_1525 rfl ?_
  refine g_iconst hx 1527 (1) dL_law_1527 rfl ?_
  refine g_iadd hx 1528 dL_law_1528 ?_
  refine g_sld hx 1529 hs (vpi (j := 1) hi hL (by decide) _ rfl) dL_law_1529 ?_
  refine G.heap (LW.md (ad := ad) hlay) ?_
  refine g_callVr hx (c_Md_dropSlip (ρ := 0) (by decide) l g (putW σ B ae W1) T (owF ad) M (xs (nI i + 1).toNatClampNeg) e2) lkl_208 arl_208 (pM_o (putW σ B ae W1) T (owF ad) 0 M) (T := TX11) (N := 30) rfl (As := [.int (xs (nI i + 1).toNatClampNeg)]) (rest := [.int v]) rfl (Nat.le_of_ble_eq_true rfl) ⟨Nat.le_of_ble_eq_true rfl, Nat.le_of_ble_eq_true rfl⟩ ⟨rfl, rfl⟩ ⟨Nat.le_of_succ_le hk.1, Nat.le_trans (Nat.le_add_right _ 6) hk.2⟩ dL_law_1530 ?_
  refine G.heap (LW.md (ad := ad) hlay).symm ?_
  exact g_icmp_eq hx 1533 2042 dL_law_1533 (by decide) (fun _ => (g_widen (Nat.le_succ _) (Nat.le_add_right _ _) (next _ _ _ _ hw ho))) (fun hq => absurd rfl hq)
set_option maxRecDepth 100000 in
set_option maxHeartbeats 4000000 in
theorem law_33 {X : Cx} {l : Launch} {g : Gl} {ad ae : Nat → Nat} (hx : Ok X l g RL cL_law 9 room_1) (hC : KAll g ad ae) (hN : KN g) (hl : l.stackTraces = false) {b L B T o i k n : Nat} {xs : Nat → Int32} (hs : Scr g b L xs) (hi : i + 6 ≤ L) (hL : L ≤ 3072) (hlay : Lay B T o) (hk : k + 1 ≤ room_1.cells ∧ n + 6 ≤ room_1.slots) {σ : Hp} {W : WM} {M : MdM} {f : Nat → Int64} (h : WRel W M) (ho : σ.2 o = some (eJ 1 f)) (next : LN X B T o ad ae k n [(4, .int (nI i)), (0, .ref b), (1, .ref B), (2, .ref T), (3, .ref o)]) : G X (LW σ B T ad ae W M) k n 1538 [(4, .int (nI i)), (0, .ref b), (1, .ref B), (2, .ref T), (3, .ref o)] [] := by
  refine g_aload_n hx 1538 (i := 1) 2 dL_law_1538 rfl rfl ?_
  refine g_aload_n hx 1539 (i := 0) 1 dL_law_1539 rfl rfl ?_
  refine g_iload hx 1540 (i := 4) 0 dL_law_1540 rfl ?_
  refine g_iconst hx 1542 (1) dL_law_1542 rfl ?_
  refine g_iadd hx 1543 dL_law_1543 ?_
  refine g_sld hx 1544 hs (vpi (j := 1) hi hL (by decide) _ rfl) dL_law_1544 ?_
  refine g_aload_n hx 1545 (i := 3) 4 dL_law_1545 rfl rfl ?_
  rcases f_giveBack h (xs (nI i + 1).toNatClampNeg) with ⟨kx, b9, M1, e1, e2, e9, hw⟩ | ⟨v, W1, M1, e1, e2, e9, hw⟩
  · refine g_callW hx (c_L_giveBack l g hC hN hl (putMd σ T (owF ad) 0 M) B W (xs (nI i + 1).toNatClampNeg) (o := o) (LW.out hlay ho) hlay.1 e1 (fun k hk9 => ki_giveBack W (xs (nI i + 1).toNatClampNeg) k (e1.trans (congrArg some hk9)))) lkw_giveBack arw_giveBack (As := [.ref B, .int (xs (nI i + 1).toNatClampNeg), .ref o]) (rest := []) rfl (Nat.le_of_ble_eq_true rfl) ⟨Nat.le_of_ble_eq_true rfl, Nat.le_of_ble_eq_true rfl⟩ hk dL_law_1546 (fun v9 σ9 hp => ?_)
    obtain ⟨k9, h9, rfl, h8⟩ := Or.resolve_right hp (fun q => by obtain ⟨u9, h9, -, -⟩ := q; cases h9)
    cases h9
    obtain ⟨z, σm⟩ := σ9
    cases h8
    refine G.heap (show _ = LW (z, σ.2) B T ad ae W M from rfl) ?_
    refine g_istore hx 1549 (i := 5) [(5, .int (ci1 kx)), (4, .int (nI i)), (0, .ref b), (1, .ref B), (2, .ref T), (3, .ref o)] dL_law_1549 (by decide) rfl ?_
    refine g_aload_n hx 1551 (i := 2) 4 dL_law_1551 rfl rfl ?_
    refine g_aload_n hx 1552 (i := 0) 2 dL_law_1552 rfl rfl ?_
    refine g_iload hx 1553 (i := 4) 1 dL_law_1553 rfl ?_
    refine g_iconst hx 1555 (1) dL_law_1555 rfl ?_
    refine g_iadd hx 1556 dL_law_1556 ?_
    refine g_sld hx 1557 hs (vpi (j := 1) hi hL (by decide) _ rfl) dL_law_1557 ?_
    refine G.heap (LW.md (ad := ad) hlay) ?_
    refine g_callVr hx (c_Md_giveBack (ρ := 0) (by decide) l g (putW (z, σ.2) B ae W) T (owF ad) M (xs (nI i + 1).toNatClampNeg) e2) lkl_211 arl_211 (pM_o (putW (z, σ.2) B ae W) T (owF ad) 0 M) (T := TX11) (N := 30) rfl (As := [.int (xs (nI i + 1).toNatClampNeg)]) (rest := []) rfl (Nat.le_of_ble_eq_true rfl) ⟨Nat.le_of_ble_eq_true rfl, Nat.le_of_ble_eq_true rfl⟩ ⟨rfl, rfl⟩ hk dL_law_1558 ?_
    refine G.heap (LW.md (ad := ad) hlay).symm ?_
    refine g_istore hx 1561 (i := 6) [(6, .int b9), (5, .int (ci1 kx)), (4, .int (nI i)), (0, .ref b), (1, .ref B), (2, .ref T), (3, .ref o)] dL_law_1561 (by decide) rfl ?_
    refine g_aload_n hx 1563 (i := 2) 5 dL_law_1563 rfl rfl ?_
    refine G.heap (LW.md (ad := ad) hlay) ?_
    refine g_callVr hx (c_Md_thrown (ρ := 0) (by decide) l g (putW (z, σ.2) B ae W) T (owF ad) M1 rfl) lkl_90 arl_90 (pM_o (putW (z, σ.2) B ae W) T (owF ad) 0 M1) (T := TX11) (N := 30) rfl (As := []) (rest := []) rfl (Nat.le_of_ble_eq_true rfl) ⟨Nat.le_of_ble_eq_true rfl, Nat.le_of_ble_eq_true rfl⟩ ⟨rfl, rfl⟩ hk dL_law_1564 ?_
    refine G.heap (LW.md (ad := ad) hlay).symm ?_
    refine g_iload hx 1567 (i := 5) 1 dL_law_1567 rfl ?_
    refine g_icmp_eq hx 1569 1574 dL_law_1569 (by decide) (fun _ => ?_) (fun hq => absurd e9 hq)
    refine g_iload hx 1574 (i := 5) 1 dL_law_1574 rfl ?_
    refine g_if_ne hx 1576 1591 dL_law_1576 (by decide) (fun _ => ?_) (fun hq => absurd hq (ci_n _))
    refine g_goto hx 1591 2042 dL_law_1591 (by decide) ?_
    refine g_ls [2, 3, 4, 5, 6] [(4, .int (nI i)), (0, .ref b), (1, .ref B), (2, .ref T), (3, .ref o)] rfl ?_
    exact next _ _ _ _ hw ho
  · refine g_callW hx (c_L_giveBack l g hC hN hl (putMd σ T (owF ad) 0 M) B W (xs (nI i + 1).toNatClampNeg) (o := o) (LW.out hlay ho) hlay.1 e1 (fun k hk9 => ki_giveBack W (xs (nI i + 1).toNatClampNeg) k (e1.trans (congrArg some hk9)))) lkw_giveBack arw_giveBack (As := [.ref B, .int (xs (nI i + 1).toNatClampNeg), .ref o]) (rest := []) rfl (Nat.le_of_ble_eq_true rfl) ⟨Nat.le_of_ble_eq_true rfl, Nat.le_of_ble_eq_true rfl⟩ hk dL_law_1546 (fun v9 σ9 hp => ?_)
    obtain ⟨u9, h9, rfl, rfl⟩ := Or.resolve_left hp (fun q => by obtain ⟨k9, h9, -, -⟩ := q; cases h9)
    cases h9
    refine G.heap (LW.set hlay _) ?_
    refine g_istore hx 1549 (i := 5) [(5, .int (0)), (4, .int (nI i)), (0, .ref b), (1, .ref B), (2, .ref T), (3, .ref o)] dL_law_1549 (by decide) rfl ?_
    refine g_aload_n hx 1551 (i := 2) 4 dL_law_1551 rfl rfl ?_
    refine g_aload_n hx 1552 (i := 0) 2 dL_law_1552 rfl rfl ?_
    refine g_iload hx 1553 (i := 4) 1 dL_law_1553 rfl ?_
    refine g_iconst hx 1555 (1) dL_law_1555 rfl ?_
    refine g_iadd hx 1556 dL_law_1556 ?_
    refine g_sld hx 1557 hs (vpi (j := 1) hi hL (by decide) _ rfl) dL_law_1557 ?_
    refine G.heap (LW.md (ad := ad) hlay) ?_
    refine g_callVr hx (c_Md_giveBack (ρ := 0) (by decide) l g (putW (hset σ o (eJ 1 (vp_updL f 0 v.toInt64))) B ae W1) T (owF ad) M (xs (nI i + 1).toNatClampNeg) e2) lkl_211 arl_211 (pM_o (putW (hset σ o (eJ 1 (vp_updL f 0 v.toInt64))) B ae W1) T (owF ad) 0 M) (T := TX11) (N := 30) rfl (As := [.int (xs (nI i + 1).toNatClampNeg)]) (rest := []) rfl (Nat.le_of_ble_eq_true rfl) ⟨Nat.le_of_ble_eq_true rfl, Nat.le_of_ble_eq_true rfl⟩ ⟨rfl, rfl⟩ hk dL_law_1558 ?_
    refine G.heap (LW.md (ad := ad) hlay).symm ?_
    refine g_istore hx 1561 (i := 6) [(6, .int v), (5, .int (0)), (4, .int (nI i)), (0, .ref b), (1, .ref B), (2, .ref T), (3, .ref o)] dL_law_1561 (by decide) rfl ?_
    refine g_aload_n hx 1563 (i := 2) 5 dL_law_1563 rfl rfl ?_
    refine G.heap (LW.md (ad := ad) hlay) ?_
    refine g_callVr hx (c_Md_thrown (ρ := 0) (by decide) l g (putW (hset σ o (eJ 1 (vp_updL f 0 v.toInt64))) B ae W1) T (owF ad) M1 rfl) lkl_90 arl_90 (pM_o (putW (hset σ o (eJ 1 (vp_updL f 0 v.toInt64))) B ae W1) T (owF ad) 0 M1) (T := TX11) (N := 30) rfl (As := []) (rest := []) rfl (Nat.le_of_ble_eq_true rfl) ⟨Nat.le_of_ble_eq_true rfl, Nat.le_of_ble_eq_true rfl⟩ ⟨rfl, rfl⟩ hk dL_law_1564 ?_
    refine G.heap (LW.md (ad := ad) hlay).symm ?_
    refine g_iload hx 1567 (i := 5) 1 dL_law_1567 rfl ?_
    refine g_icmp_eq hx 1569 1574 dL_law_1569 (by decide) (fun _ => ?_) (fun hq => absurd e9 hq)
    refine g_iload hx 1574 (i := 5) 1 dL_law_1574 rfl ?_
    refine g_if_ne hx 1576 1591 dL_law_1576 (by decide) (fun hq => absurd rfl hq) (fun _ => ?_)
    refine g_aload_n hx 1579 (i := 3) 6 dL_law_1579 rfl rfl ?_
    refine g_iconst hx 1580 (0) dL_law_1580 rfl ?_
    refine g_lald hx 1581 (pW_out _ B ae W1 hlay.1 |>.trans (LW.out hlay (hset_self _ _ _))) vp01 dL_law_1581 ?_
    refine g_iload hx 1582 (i := 6) 0 dL_law_1582 rfl ?_
    refine g_i2l hx 1584 dL_law_1584 ?_
    refine g_lcmp hx 1585 dL_law_1585 ?_
    refine g_if_eq hx 1586 1591 dL_law_1586 (by decide) (fun _ => ?_) (fun hq => absurd (cmp_ll _) hq)
    refine g_goto hx 1591 2042 dL_law_1591 (by decide) ?_
    refine g_ls [2, 3, 4, 5, 6] [(4, .int (nI i)), (0, .ref b), (1, .ref B), (2, .ref T), (3, .ref o)] rfl ?_
    exact next _ _ _ _ hw (hset_self _ _ _)
