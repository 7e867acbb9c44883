def md_SA_appendBytes : Md := (yX10_appendBytes, cX10_appendBytes, 3, none, 1, 21, 0, 0)
def md_SA_feed : Md := (yX10_feed, cX10_feed, 6, some .int, 2, 43, 0, 0)
def md_SA_load : Md := (yX10_load, cX10_load, 3, some .int, 7, 170, 1, 6)
def md_SA_errorPosition : Md := (yX10_errorPosition, cX10_errorPosition, 1, some .int, 0, 0, 0, 0)
def md_SA_size : Md := (yX10_size, cX10_size, 2, some .int, 6, 90, 1, 6)
def md_SA_account : Md := (yX10_account, cX10_account, 2, some .int, 6, 90, 1, 6)
def md_SA_folder : Md := (yX10_folder, cX10_folder, 3, some .int, 6, 90, 1, 6)
def md_SA_marked : Md := (yX10_marked, cX10_marked, 2, some .int, 1, 22, 0, 0)
def md_SA_at : Md := (yX10_at, cX10_at, 2, some .int, 1, 21, 0, 0)
def md_SA_reader : Md := (yX10_reader, cX10_reader, 3, some .int, 6, 90, 1, 6)
def md_SA_waiting : Md := (yX10_waiting, cX10_waiting, 3, some .int, 6, 90, 1, 6)
def md_SA_gap : Md := (yX10_gap, cX10_gap, 1, some .int, 3, 62, 0, 0)
def md_SA_found : Md := (yX10_found, cX10_found, 2, some .int, 2, 47, 0, 0)
def md_SA_looks : Md := (yX10_looks, cX10_looks, 2, some .int, 2, 47, 0, 0)
def md_SA_missed : Md := (yX10_missed, cX10_missed, 1, some .int, 3, 69, 0, 0)
def md_SA_refilePlace : Md := (yX10_refilePlace, cX10_refilePlace, 3, some .int, 2, 47, 0, 0)
def md_SA_inversions : Md := (yX10_inversions, cX10_inversions, 1, some .int, 3, 66, 0, 0)
def md_SA_longestOrdered : Md := (yX10_longestOrdered, cX10_longestOrdered, 1, some .int, 3, 84, 0, 0)
def md_SA_lookedAt : Md := (yX10_lookedAt, cX10_lookedAt, 3, some .int, 2, 47, 0, 0)
def md_SA_mostMisplaced : Md := (yX10_mostMisplaced, cX10_mostMisplaced, 1, some .int, 4, 90, 0, 0)
def md_SA_mostAsked : Md := (yX10_mostAsked, cX10_mostAsked, 5, some .int, 1, 23, 0, 0)
def md_SA_why : Md := (yX10_why, cX10_why, 3, some .int, 6, 90, 1, 6)
def md_SA_cause : Md := (yX10_cause, cX10_cause, 3, some .int, 6, 90, 1, 6)
def md_SA_waitsFor : Md := (yX10_waitsFor, cX10_waitsFor, 3, some .int, 3, 65, 0, 0)
theorem fl_X10_14 : Cond.fieldLink RX10 14 (TX10 0).1 (TX10 0).2.1 (TX10 0).2.2.1 ∈ aw := aw1 (by decide +kernel)
theorem lk_X10_86 : Lk md_Ln_add [.methodLink RX10 86 md_Ln_add.y, .instanceMethod md_Ln_add.y, .selects md_Ln_add.y.cls md_Ln_add.y md_Ln_add.y] := lk_of (by decide +kernel)
theorem lk_X10_79 : Lk md_Ln_count [.methodLink RX10 79 md_Ln_count.y, .instanceMethod md_Ln_count.y, .selects md_Ln_count.y.cls md_Ln_count.y md_Ln_count.y] := lk_of (by decide +kernel)
theorem lk_X10_83 : Lk md_SA_appendBytes [.methodLink RX10 83 md_SA_appendBytes.y, .instanceMethod md_SA_appendBytes.y, .selects md_SA_appendBytes.y.cls md_SA_appendBytes.y md_SA_appendBytes.y] := lk_of (by decide +kernel)
theorem ar_SA_appendBytes : Arity md_SA_appendBytes 1 := ⟨by decide +kernel, by decide +kernel, by decide +kernel⟩
theorem xk_X10_89 : Cond.classLink RX10 89 iae ∈ aw := aw1 (by decide +kernel)
theorem xi_iae : Cond.initialized iae ∈ aw := aw1 (by decide +kernel)
theorem xo_X10_89_93 : (Cond.classLink RX10 89 iae :: Cond.initialized iae :: vx_atS RX10 93 iae nms).all vx_ot = true := by decide +kernel
theorem fl_X10_29 : Cond.fieldLink RX10 29 (TX10 3).1 (TX10 3).2.1 (TX10 3).2.2.1 ∈ aw := aw1 (by decide +kernel)
theorem fl_X10_54 : Cond.fieldLink RX10 54 (TX10 7).1 (TX10 7).2.1 (TX10 7).2.2.1 ∈ aw := aw1 (by decide +kernel)
theorem lk_X10_96 : Lk md_Ps_readArchive [.methodLink RX10 96 md_Ps_readArchive.y, .instanceMethod md_Ps_readArchive.y, .selects md_Ps_readArchive.y.cls md_Ps_readArchive.y md_Ps_readArchive.y] := lk_of (by decide +kernel)
theorem ar_Ps_readArchive : Arity md_Ps_readArchive 2 := ⟨by decide +kernel, by decide +kernel, by decide +kernel⟩
theorem lk_X10_100 : Lk md_Ln_clear [.methodLink RX10 100 md_Ln_clear.y, .instanceMethod md_Ln_clear.y, .selects md_Ln_clear.y.cls md_Ln_clear.y md_Ln_clear.y] := lk_of (by decide +kernel)
theorem lk_X10_103 : Lk md_Ps_errorPlace [.methodLink RX10 103 md_Ps_errorPlace.y, .instanceMethod md_Ps_errorPlace.y, .selects md_Ps_errorPlace.y.cls md_Ps_errorPlace.y md_Ps_errorPlace.y] := lk_of (by decide +kernel)
theorem ar_Ps_errorPlace : Arity md_Ps_errorPlace 0 := ⟨by decide +kernel, by decide +kernel, by decide +kernel⟩
theorem fl_X10_64 : Cond.fieldLink RX10 64 (TX10 10).1 (TX10 10).2.1 (TX10 10).2.2.1 ∈ aw := aw1 (by decide +kernel)
theorem fl_X10_50 : Cond.fieldLink RX10 50 (TX10 6).1 (TX10 6).2.1 (TX10 6).2.2.1 ∈ aw := aw1 (by decide +kernel)
theorem lk_X10_106 : Lk md_St_copyFrom [.methodLink RX10 106 md_St_copyFrom.y, .instanceMethod md_St_copyFrom.y, .selects md_St_copyFrom.y.cls md_St_copyFrom.y md_St_copyFrom.y] := lk_of (by decide +kernel)
theorem fl_X10_43 : Cond.fieldLink RX10 43 (TX10 5).1 (TX10 5).2.1 (TX10 5).2.2.1 ∈ aw := aw1 (by decide +kernel)
theorem lk_X10_110 : Lk md_Hi_clear [.methodLink RX10 110 md_Hi_clear.y, .instanceMethod md_Hi_clear.y, .selects md_Hi_clear.y.cls md_Hi_clear.y md_Hi_clear.y] := lk_of (by decide +kernel)
theorem ar_Hi_clear : Arity md_Hi_clear 0 := ⟨by decide +kernel, by decide +kernel, by decide +kernel⟩
theorem fl_X10_60 : Cond.fieldLink RX10 60 (TX10 9).1 (TX10 9).2.1 (TX10 9).2.2.1 ∈ aw := aw1 (by decide +kernel)
theorem fl_X10_111 : Cond.fieldLink RX10 111 (TX8 4).1 (TX8 4).2.1 (TX8 4).2.2.1 ∈ aw := aw1 (by decide +kernel)
theorem fl_X10_114 : Cond.fieldLink RX10 114 (TX8 0).1 (TX8 0).2.1 (TX8 0).2.2.1 ∈ aw := aw1 (by decide +kernel)
theorem fl_X10_117 : Cond.fieldLink RX10 117 (TX8 1).1 (TX8 1).2.1 (TX8 1).2.2.1 ∈ aw := aw1 (by decide +kernel)
theorem fl_X10_120 : Cond.fieldLink RX10 120 (TX8 2).1 (TX8 2).2.1 (TX8 2).2.2.1 ∈ aw := aw1 (by decide +kernel)
theorem fl_X10_123 : Cond.fieldLink RX10 123 (TX8 9).1 (TX8 9).2.1 (TX8 9).2.2.1 ∈ aw := aw1 (by decide +kernel)
theorem fl_X10_126 : Cond.fieldLink RX10 126 (TX8 3).1 (TX8 3).2.1 (TX8 3).2.2.1 ∈ aw := aw1 (by decide +kernel)
theorem fl_X10_129 : Cond.fieldLink RX10 129 (TX8 11).1 (TX8 11).2.1 (TX8 11).2.2.1 ∈ aw := aw1 (by decide +kernel)
theorem fl_X10_133 : Cond.fieldLink RX10 133 (TX5 0).1 (TX5 0).2.1 (TX5 0).2.2.1 ∈ aw := aw1 (by decide +kernel)
theorem fl_X10_138 : Cond.fieldLink RX10 138 (TX8 6).1 (TX8 6).2.1 (TX8 6).2.2.1 ∈ aw := aw1 (by decide +kernel)
theorem lk_X10_141 : Lk md_Ln_countOf [.methodLink RX10 141 md_Ln_countOf.y, .instanceMethod md_Ln_countOf.y, .selects md_Ln_countOf.y.cls md_Ln_countOf.y md_Ln_countOf.y] := lk_of (by decide +kernel)
theorem fl_X10_145 : Cond.fieldLink RX10 145 (TX8 12).1 (TX8 12).2.1 (TX8 12).2.2.1 ∈ aw := aw1 (by decide +kernel)
theorem fl_X10_148 : Cond.fieldLink RX10 148 (TX8 13).1 (TX8 13).2.1 (TX8 13).2.2.1 ∈ aw := aw1 (by decide +kernel)
theorem lk_X10_152 : Lk md_Sl_count [.methodLink RX10 152 md_Sl_count.y, .instanceMethod md_Sl_count.y, .selects md_Sl_count.y.cls md_Sl_count.y md_Sl_count.y] := lk_of (by decide +kernel)
theorem lk_X10_155 : Lk md_Rw_wrongPairs [.methodLink RX10 155 md_Rw_wrongPairs.y, .instanceMethod md_Rw_wrongPairs.y, .selects md_Rw_wrongPairs.y.cls md_Rw_wrongPairs.y md_Rw_wrongPairs.y] := lk_of (by decide +kernel)
theorem ar_Rw_wrongPairs : Arity md_Rw_wrongPairs 0 := ⟨by decide +kernel, by decide +kernel, by decide +kernel⟩
theorem lk_X10_158 : Lk md_St_daysToRefiling [.methodLink RX10 158 md_St_daysToRefiling.y, .instanceMethod md_St_daysToRefiling.y, .selects md_St_daysToRefiling.y.cls md_St_daysToRefiling.y md_St_daysToRefiling.y] := lk_of (by decide +kernel)
theorem ar_St_daysToRefiling : Arity md_St_daysToRefiling 0 := ⟨by decide +kernel, by decide +kernel, by decide +kernel⟩
theorem fl_X10_168 : Cond.fieldLink RX10 168 (TX8 14).1 (TX8 14).2.1 (TX8 14).2.2.1 ∈ aw := aw1 (by decide +kernel)
theorem lk_X10_165 : Lk md_Ln_get [.methodLink RX10 165 md_Ln_get.y, .instanceMethod md_Ln_get.y, .selects md_Ln_get.y.cls md_Ln_get.y md_Ln_get.y] := lk_of (by decide +kernel)
theorem fl_X10_21 : Cond.fieldLink RX10 21 (TX10 2).1 (TX10 2).2.1 (TX10 2).2.2.1 ∈ aw := aw1 (by decide +kernel)
theorem lk_X10_171 : Lk md_St_hasFolder [.methodLink RX10 171 md_St_hasFolder.y, .instanceMethod md_St_hasFolder.y, .selects md_St_hasFolder.y.cls md_St_hasFolder.y md_St_hasFolder.y] := lk_of (by decide +kernel)
theorem xk_X10_175 : Cond.classLink RX10 175 nse ∈ aw := aw1 (by decide +kernel)
theorem xi_nse : Cond.initialized nse ∈ aw := aw1 (by decide +kernel)
theorem xo_X10_175_179 : (Cond.classLink RX10 175 nse :: Cond.initialized nse :: nx_atS RX10 179 nse rte nxs).all vx_ot = true := by decide +kernel
theorem fl_X10_180 : Cond.fieldLink RX10 180 (TX8 5).1 (TX8 5).2.1 (TX8 5).2.2.1 ∈ aw := aw1 (by decide +kernel)
theorem lk_X10_183 : Lk md_St_whereabouts [.methodLink RX10 183 md_St_whereabouts.y, .instanceMethod md_St_whereabouts.y, .selects md_St_whereabouts.y.cls md_St_whereabouts.y md_St_whereabouts.y] := lk_of (by decide +kernel)
theorem ar_St_whereabouts : Arity md_St_whereabouts 1 := ⟨by decide +kernel, by decide +kernel, by decide +kernel⟩
theorem fl_X10_186 : Cond.fieldLink RX10 186 (TX7 1).1 (TX7 1).2.1 (TX7 1).2.2.1 ∈ aw := aw1 (by decide +kernel)
theorem fl_X10_187 : Cond.fieldLink RX10 187 (TX8 8).1 (TX8 8).2.1 (TX8 8).2.2.1 ∈ aw := aw1 (by decide +kernel)
theorem lk_X10_190 : Lk md_St_isClosed [.methodLink RX10 190 md_St_isClosed.y, .instanceMethod md_St_isClosed.y, .selects md_St_isClosed.y.cls md_St_isClosed.y md_St_isClosed.y] := lk_of (by decide +kernel)
theorem lk_X10_195 : Lk md_Ln_placeOf [.methodLink RX10 195 md_Ln_placeOf.y, .instanceMethod md_Ln_placeOf.y, .selects md_Ln_placeOf.y.cls md_Ln_placeOf.y md_Ln_placeOf.y] := lk_of (by decide +kernel)
theorem lk_X10_198 : Lk md_St_hasReader [.methodLink RX10 198 md_St_hasReader.y, .instanceMethod md_St_hasReader.y, .selects md_St_hasReader.y.cls md_St_hasReader.y md_St_hasReader.y] := lk_of (by decide +kernel)
theorem fl_X10_203 : Cond.fieldLink RX10 203 (TX7 0).1 (TX7 0).2.1 (TX7 0).2.2.1 ∈ aw := aw1 (by decide +kernel)
theorem fl_X10_206 : Cond.fieldLink RX10 206 (TX8 10).1 (TX8 10).2.1 (TX8 10).2.2.1 ∈ aw := aw1 (by decide +kernel)
theorem fl_X10_213 : Cond.fieldLink RX10 213 (TX7 2).1 (TX7 2).2.1 (TX7 2).2.2.1 ∈ aw := aw1 (by decide +kernel)
theorem fl_X10_216 : Cond.fieldLink RX10 216 (TX7 3).1 (TX7 3).2.1 (TX7 3).2.2.1 ∈ aw := aw1 (by decide +kernel)
theorem lk_X10_219 : Lk md_Sl_has [.methodLink RX10 219 md_Sl_has.y, .instanceMethod md_Sl_has.y, .selects md_Sl_has.y.cls md_Sl_has.y md_Sl_has.y] := lk_of (by decide +kernel)
theorem lk_X10_222 : Lk md_St_idleness [.methodLink RX10 222 md_St_idleness.y, .instanceMethod md_St_idleness.y, .selects md_St_idleness.y.cls md_St_idleness.y md_St_idleness.y] := lk_of (by decide +kernel)
theorem lk_X10_225 : Lk md_St_foldersAstray [.methodLink RX10 225 md_St_foldersAstray.y, .instanceMethod md_St_foldersAstray.y, .selects md_St_foldersAstray.y.cls md_St_foldersAstray.y md_St_foldersAstray.y] := lk_of (by decide +kernel)
theorem ar_St_foldersAstray : Arity md_St_foldersAstray 0 := ⟨by decide +kernel, by decide +kernel, by decide +kernel⟩
theorem lk_X10_228 : Lk md_St_readersAboveLimit [.methodLink RX10 228 md_St_readersAboveLimit.y, .instanceMethod md_St_readersAboveLimit.y, .selects md_St_readersAboveLimit.y.cls md_St_readersAboveLimit.y md_St_readersAboveLimit.y] := lk_of (by decide +kernel)
theorem ar_St_readersAboveLimit : Arity md_St_readersAboveLimit 0 := ⟨by decide +kernel, by decide +kernel, by decide +kernel⟩
theorem lk_X10_231 : Lk md_St_slipsForOwnFolders [.methodLink RX10 231 md_St_slipsForOwnFolders.y, .instanceMethod md_St_slipsForOwnFolders.y, .selects md_St_slipsForOwnFolders.y.cls md_St_slipsForOwnFolders.y md_St_slipsForOwnFolders.y] := lk_of (by decide +kernel)
theorem ar_St_slipsForOwnFolders : Arity md_St_slipsForOwnFolders 0 := ⟨by decide +kernel, by decide +kernel, by decide +kernel⟩
theorem lk_X10_234 : Lk md_Rw_halve [.methodLink RX10 234 md_Rw_halve.y, .instanceMethod md_Rw_halve.y, .selects md_Rw_halve.y.cls md_Rw_halve.y md_Rw_halve.y] := lk_of (by decide +kernel)
theorem fl_X10_237 : Cond.fieldLink RX10 237 (TX5 1).1 (TX5 1).2.1 (TX5 1).2.2.1 ∈ aw := aw1 (by decide +kernel)
theorem lk_X10_240 : Lk md_Rw_missedByHalving [.methodLink RX10 240 md_Rw_missedByHalving.y, .instanceMethod md_Rw_missedByHalving.y, .selects md_Rw_missedByHalving.y.cls md_Rw_missedByHalving.y md_Rw_missedByHalving.y] := lk_of (by decide +kernel)
theorem ar_Rw_missedByHalving : Arity md_Rw_missedByHalving 0 := ⟨by decide +kernel, by decide +kernel, by decide +kernel⟩
theorem lk_X10_243 : Lk md_Rw_placeBehindMiss [.methodLink RX10 243 md_Rw_placeBehindMiss.y, .instanceMethod md_Rw_placeBehindMiss.y, .selects md_Rw_placeBehindMiss.y.cls md_Rw_placeBehindMiss.y md_Rw_placeBehindMiss.y] := lk_of (by decide +kernel)
theorem lk_X10_246 : Lk md_Rw_pairsInWrongOrder [.methodLink RX10 246 md_Rw_pairsInWrongOrder.y, .instanceMethod md_Rw_pairsInWrongOrder.y, .selects md_Rw_pairsInWrongOrder.y.cls md_Rw_pairsInWrongOrder.y md_Rw_pairsInWrongOrder.y] := lk_of (by decide +kernel)
theorem ar_Rw_pairsInWrongOrder : Arity md_Rw_pairsInWrongOrder 0 := ⟨by decide +kernel, by decide +kernel, by decide +kernel⟩
theorem lk_X10_249 : Lk md_Rw_longestRun [.methodLink RX10 249 md_Rw_longestRun.y, .instanceMethod md_Rw_longestRun.y, .selects md_Rw_longestRun.y.cls md_Rw_longestRun.y md_Rw_longestRun.y] := lk_of (by decide +kernel)
theorem ar_Rw_longestRun : Arity md_Rw_longestRun 0 := ⟨by decide +kernel, by decide +kernel, by decide +kernel⟩
theorem lk_X10_252 : Lk md_Rw_farthestFromOrder [.methodLink RX10 252 md_Rw_farthestFromOrder.y, .instanceMethod md_Rw_farthestFromOrder.y, .selects md_Rw_farthestFromOrder.y.cls md_Rw_farthestFromOrder.y md_Rw_farthestFromOrder.y] := lk_of (by decide +kernel)
theorem ar_Rw_farthestFromOrder : Arity md_Rw_farthestFromOrder 0 := ⟨by decide +kernel, by decide +kernel, by decide +kernel⟩
theorem lk_X10_257 : Lk md_St_refusal [.methodLink RX10 257 md_St_refusal.y, .instanceMethod md_St_refusal.y, .selects md_St_refusal.y.cls md_St_refusal.y md_St_refusal.y] := lk_of (by decide +kernel)
theorem lk_X10_261 : Lk md_Sl_placeFor [.methodLink RX10 261 md_Sl_placeFor.y, .instanceMethod md_Sl_placeFor.y, .selects md_Sl_placeFor.y.cls md_Sl_placeFor.y md_Sl_placeFor.y] := lk_of (by decide +kernel)
theorem fl_X10_264 : Cond.fieldLink RX10 264 (TX8 7).1 (TX8 7).2.1 (TX8 7).2.2.1 ∈ aw := aw1 (by decide +kernel)
def SA_appendBytes_L3 : Nat → WM → Int32 → Int32 → Option (WM)
  | 0, _, _, _ => none
  | n + 1, M, v1_1373, v2_1374 => if v2_1374 < 0 then (some (M)) else (SA_appendBytes_L3 n (setWL M 0 (lnadd 700 (M.2.1 0) (((v1_1373.toUInt32 >>> (v2_1374.toUInt32 &&& Int32.toUInt32 31)).toInt32) &&& 255))) v1_1373 (v2_1374 + (-8)))
def SA_appendBytes (M : WM) (p1 : Int32) : Option (WM) := SA_appendBytes_L3 FU M p1 24
set_option maxRecDepth 100000 in
set_option maxHeartbeats 4000000 in
theorem w_SA_appendBytes_L3 {ad ae : Nat → Nat} {X : Cx} {l : Launch} {g : Gl} (hx : Ok X l g RX10 cX10_appendBytes 3 md_SA_appendBytes.rm) (hC : KAll g ad ae) {σ : Hp} {B : Nat} {r : WM} (hR : Ret X (rs none (putW σ B ae r)) 0 0 (none)) : ∀ (n : Nat) (M : WM) (v1_1373 v2_1374 : Int32), SA_appendBytes_L3 n M v1_1373 v2_1374 = some r → G X (putW σ B ae M) 0 0 3 [(0, .ref B), (1, .int v1_1373), (2, .int v2_1374)] [] := by
  intro n
  induction n with
  | zero =>
    intro M v1_1373 v2_1374 hr
    rw [SA_appendBytes_L3] at hr
    cases hr
  | succ n ih =>
    intro M v1_1373 v2_1374 hr
    rw [SA_appendBytes_L3] at hr
    refine g_iload_n hx 3 (i := 2) 2 dX10_appendBytes_3 rfl rfl ?_
    refine g_if_lt hx 4 27 dX10_appendBytes_4 (by decide) (fun hc_1375 => ?_) (fun hc_1375 => ?_)
    · have hr := (if_pos hc_1375).symm.trans hr
      exact g_vret hx hR 27 dX10_appendBytes_27 ⟨rfl, by rw [← Option.some.inj hr] <;> rfl⟩
    · have hr := (if_neg hc_1375).symm.trans hr
      refine g_aload_n hx 7 (i := 0) 0 dX10_appendBytes_7 rfl rfl ?_
      refine g_get hx 8 (C := RX10) (T := TX10) (N := 11) 0 (.ref (B + 1)) (pW σ B ae M 0 (by decide)) rfl (by decide) rfl fl_X10_14 dX10_appendBytes_8 ?_
      refine g_iload_n hx 11 (i := 1) 1 dX10_appendBytes_11 rfl rfl ?_
      refine g_iload_n hx 12 (i := 2) 2 dX10_appendBytes_12 rfl rfl ?_
      refine g_iushr hx 13 dX10_appendBytes_13 ?_
      refine g_sipush hx 14 (255) dX10_appendBytes_14 rfl ?_
      refine g_iand hx 17 dX10_appendBytes_17 ?_
      refine g_callVv hx (k_add l g (pW_l0 σ B ae M) (by decide) (((v1_1373.toUInt32 >>> (v2_1374.toUInt32 &&& Int32.toUInt32 31)).toInt32) &&& 255)) lk_X10_86 ar_Ln_add (pW_l0 σ B ae M).1 (T := TX2) (N := 2) rfl (As := [.int (((v1_1373.toUInt32 >>> (v2_1374.toUInt32 &&& Int32.toUInt32 31)).toInt32) &&& 255)]) (rest := []) rfl (Nat.le_of_ble_eq_true rfl) ⟨Nat.le_of_ble_eq_true rfl, Nat.le_of_ble_eq_true rfl⟩ ⟨rfl, rfl⟩ ⟨Nat.zero_le _, Nat.zero_le _⟩ dX10_appendBytes_18 ?_
      refine G.heap (pW_p0 σ B ae M (lnadd 700 (M.2.1 0) (((v1_1373.toUInt32 >>> (v2_1374.toUInt32 &&& Int32.toUInt32 31)).toInt32) &&& 255))) ?_
      refine g_iinc hx 21 (i := 2) 2 (v2_1374 + (-8)) [(2, .int (v2_1374 + (-8))), (0, .ref B), (1, .int v1_1373)] dX10_appendBytes_21 rfl rfl (by decide) rfl ?_
      refine g_goto hx 24 3 dX10_appendBytes_24 (by decide) ?_
      refine g_ls [1, 2, 0] [(0, .ref B), (1, .int v1_1373), (2, .int (v2_1374 + (-8)))] rfl ?_
      exact ih (setWL M 0 (lnadd 700 (M.2.1 0) (((v1_1373.toUInt32 >>> (v2_1374.toUInt32 &&& Int32.toUInt32 31)).toInt32) &&& 255))) v1_1373 (v2_1374 + (-8)) hr
set_option maxRecDepth 100000 in
set_option maxHeartbeats 4000000 in
theorem c_SA_appendBytes {ad ae : Nat → Nat} (l : Launch) (g : Gl) (hC : KAll g ad ae) (σ : Hp) (B : Nat) (M : WM) (p1 : Int32) {r : WM} (hr : SA_appendBytes M p1 = some r) : MG l g md_SA_appendBytes [.ref B, .int p1] (putW σ B ae M) (rs none (putW σ B ae r)) := by
  refine MG.intro (by decide +kernel) (Nat.le_of_ble_eq_true rfl) (fun X hx hR _ => ?_)
  unfold SA_appendBytes at hr
  refine g_ls [0, 1] [(0, .ref B), (1, .int p1)] rfl ?_
  refine g_bipush hx 0 (24) dX10_appendBytes_0 rfl ?_
  refine g_istore_n hx 2 (i := 2) [(2, .int 24), (0, .ref B), (1, .int p1)] dX10_appendBytes_2 rfl (by decide) rfl ?_
  refine g_ls [1, 2, 0] [(0, .ref B), (1, .int p1), (2, .int 24)] rfl ?_
  exact w_SA_appendBytes_L3 hx hC hR FU M p1 24 hr
def SA_feed (M : WM) (p1 p2 p3 p4 p5 : Int32) : Option (Int32 × WM) := if (nI (M.2.1 0).length) + 20 ≤ 700 then (Option.bind (SA_appendBytes M p1) fun M_1377 => Option.bind (SA_appendBytes M_1377 p2) fun M_1378 => Option.bind (SA_appendBytes M_1378 p3) fun M_1379 => Option.bind (SA_appendBytes M_1379 p4) fun M_1380 => Option.bind (SA_appendBytes M_1380 p5) fun M_1381 => some ((nI (M_1381.2.1 0).length, M_1381))) else (some (((-1), M)))
set_option maxRecDepth 100000 in
set_option maxHeartbeats 4000000 in
theorem c_SA_feed {ad ae : Nat → Nat} (l : Launch) (g : Gl) (hC : KAll g ad ae) (σ : Hp) (B : Nat) (M : WM) (p1 p2 p3 p4 p5 : Int32) {r : Int32 × WM} (hr : SA_feed M p1 p2 p3 p4 p5 = some r) : MG l g md_SA_feed [.ref B, .int p1, .int p2, .int p3, .int p4, .int p5] (putW σ B ae M) (rs (some (.int r.1)) (putW σ B ae r.2)) := by
  refine MG.intro (by decide +kernel) (Nat.le_of_ble_eq_true rfl) (fun X hx hR _ => ?_)
  unfold SA_feed at hr
  refine g_ls [0, 1, 2, 3, 4, 5] [(0, .ref B), (1, .int p1), (2, .int p2), (3, .int p3), (4, .int p4), (5, .int p5)] rfl ?_
  refine g_aload_n hx 0 (i := 0) 0 dX10_feed_0 rfl rfl ?_
  refine g_get hx 1 (C := RX10) (T := TX10) (N := 11) 0 (.ref (B + 1)) (pW σ B ae M 0 (by decide)) rfl (by decide) rfl fl_X10_14 dX10_feed_1 ?_
  refine g_callVr hx (k_count l g (pW_l0 σ B ae M) (by decide)) lk_X10_79 ar_Ln_count (pW_l0 σ B ae M).1 (T := TX2) (N := 2) rfl (As := []) (rest := []) rfl (Nat.le_of_ble_eq_true rfl) ⟨Nat.le_of_ble_eq_true rfl, Nat.le_of_ble_eq_true rfl⟩ ⟨rfl, rfl⟩ ⟨Nat.zero_le _, Nat.zero_le _⟩ dX10_feed_4 ?_
  refine g_bipush hx 7 (20) dX10_feed_7 rfl ?_
  refine g_iadd hx 9 dX10_feed_9 ?_
  refine g_sipush hx 10 (700) dX10_feed_10 rfl ?_
  refine g_icmp_le hx 13 18 dX10_feed_13 (by decide) (fun hc_1376 => ?_) (fun hc_1376 => ?_)
  · have hr := (if_pos hc_1376).symm.trans hr
    refine g_aload_n hx 18 (i := 0) 0 dX10_feed_18 rfl rfl ?_
    refine g_iload_n hx 19 (i := 1) 1 dX10_feed_19 rfl rfl ?_
    obtain ⟨M_1377, eM_1377, hr⟩ := bind_e hr
    refine g_callVv hx (c_SA_appendBytes l g hC σ B M p1 eM_1377) lk_X10_83 ar_SA_appendBytes (pW σ B ae M 0 (by decide)) (T := TX10) (N := 11) rfl (As := [.int p1]) (rest := []) rfl (Nat.le_of_ble_eq_true rfl) ⟨Nat.le_of_ble_eq_true rfl, Nat.le_of_ble_eq_true rfl⟩ ⟨rfl, rfl⟩ ⟨Nat.zero_le _, Nat.zero_le _⟩ dX10_feed_20 ?_
    refine g_aload_n hx 23 (i := 0) 0 dX10_feed_23 rfl rfl ?_
    refine g_iload_n hx 24 (i := 2) 2 dX10_feed_24 rfl rfl ?_
    obtain ⟨M_1378, eM_1378, hr⟩ := bind_e hr
    refine g_callVv hx (c_SA_appendBytes l g hC σ B M_1377 p2 eM_1378) lk_X10_83 ar_SA_appendBytes (pW σ B ae M_1377 0 (by decide)) (T := TX10) (N := 11) rfl (As := [.int p2]) (rest := []) rfl (Nat.le_of_ble_eq_true rfl) ⟨Nat.le_of_ble_eq_true rfl, Nat.le_of_ble_eq_true rfl⟩ ⟨rfl, rfl⟩ ⟨Nat.zero_le _, Nat.zero_le _⟩ dX10_feed_25 ?_
    refine g_aload_n hx 28 (i := 0) 0 dX10_feed_28 rfl rfl ?_
    refine g_iload_n hx 29 (i := 3) 3 dX10_feed_29 rfl rfl ?_
    obtain ⟨M_1379, eM_1379, hr⟩ := bind_e hr
    refine g_callVv hx (c_SA_appendBytes l g hC σ B M_1378 p3 eM_1379) lk_X10_83 ar_SA_appendBytes (pW σ B ae M_1378 0 (by decide)) (T := TX10) (N := 11) rfl (As := [.int p3]) (rest := []) rfl (Nat.le_of_ble_eq_true rfl) ⟨Nat.le_of_ble_eq_true rfl, Nat.le_of_ble_eq_true rfl⟩ ⟨rfl, rfl⟩ ⟨Nat.zero_le _, Nat.zero_le _⟩ dX10_feed_30 ?_
    refine g_aload_n hx 33 (i := 0) 0 dX10_feed_33 rfl rfl ?_
    refine g_iload hx 34 (i := 4) 4 dX10_feed_34 rfl ?_
    obtain ⟨M_1380, eM_1380, hr⟩ := bind_e hr
    refine g_callVv hx (c_SA_appendBytes l g hC σ B M_1379 p4 eM_1380) lk_X10_83 ar_SA_appendBytes (pW σ B ae M_1379 0 (by decide)) (T := TX10) (N := 11) rfl (As := [.int p4]) (rest := []) rfl (Nat.le_of_ble_eq_true rfl) ⟨Nat.le_of_ble_eq_true rfl, Nat.le_of_ble_eq_true rfl⟩ ⟨rfl, rfl⟩ ⟨Nat.zero_le _, Nat.zero_le _⟩ dX10_feed_36 ?_
    refine g_aload_n hx 39 (i := 0) 0 dX10_feed_39 rfl rfl ?_
    refine g_iload hx 40 (i := 5) 5 dX10_feed_40 rfl ?_
    obtain ⟨M_1381, eM_1381, hr⟩ := bind_e hr
    refine g_callVv hx (c_SA_appendBytes l g hC σ B M_1380 p5 eM_1381) lk_X10_83 ar_SA_appendBytes (pW σ B ae M_1380 0 (by decide)) (T := TX10) (N := 11) rfl (As := [.int p5]) (rest := []) rfl (Nat.le_of_ble_eq_true rfl) ⟨Nat.le_of_ble_eq_true rfl, Nat.le_of_ble_eq_true rfl⟩ ⟨rfl, rfl⟩ ⟨Nat.zero_le _, Nat.zero_le _⟩ dX10_feed_42 ?_
    refine g_aload_n hx 45 (i := 0) 0 dX10_feed_45 rfl rfl ?_
    refine g_get hx 46 (C := RX10) (T := TX10) (N := 11) 0 (.ref (B + 1)) (pW σ B ae M_1381 0 (by decide)) rfl (by decide) rfl fl_X10_14 dX10_feed_46 ?_
    refine g_callVr hx (k_count l g (pW_l0 σ B ae M_1381) (by decide)) lk_X10_79 ar_Ln_count (pW_l0 σ B ae M_1381).1 (T := TX2) (N := 2) rfl (As := []) (rest := []) rfl (Nat.le_of_ble_eq_true rfl) ⟨Nat.le_of_ble_eq_true rfl, Nat.le_of_ble_eq_true rfl⟩ ⟨rfl, rfl⟩ ⟨Nat.zero_le _, Nat.zero_le _⟩ dX10_feed_49 ?_
    exact g_iret hx hR 52 dX10_feed_52 ⟨by rw [← Option.some.inj hr] <;> rfl, by rw [← Option.some.inj hr] <;> rfl⟩
  · have hr := (if_neg hc_1376).symm.trans hr
    refine g_iconst hx 16 (-1) dX10_feed_16 rfl ?_
    exact g_iret hx hR 17 dX10_feed_17 ⟨by rw [← Option.some.inj hr] <;> rfl, by rw [← Option.some.inj hr] <;> rfl⟩
def SA_load (M : WM) (p1 : Int32) : Option (Nat ⊕ (Int32 × WM)) := if p1 < 0 then (some (.inl 0)) else (if p1 ≤ nI (M.2.1 0).length then (Option.bind (Ps_readArchive M p1) fun q_1384 => lt' (q_1384.1) fun v2_1385 => if v2_1385 = 0 then (lt' (St_copyFrom (q_1384.2.1 10) (q_1384.2.1 9)) fun M_1387 => lt' (Hi_clear (setS (setWI (setWL q_1384.2 0 ([])) 10 (Ps_errorPlace (setWL q_1384.2 0 ([])))) 9 M_1387)) fun M_1388 => some (.inr (nI ((M_1388.1 9).2 0).length, setWI M_1388 9 0))) else (some (.inr ((-10) - v2_1385, setWI (setWL q_1384.2 0 ([])) 10 (Ps_errorPlace (setWL q_1384.2 0 ([]))))))) else (some (.inl 0)))
set_option maxRecDepth 100000 in
set_option maxHeartbeats 4000000 in
theorem c_SA_load {ad ae : Nat → Nat} (l : Launch) (g : Gl) (hC : KAll g ad ae) (hl : l.stackTraces = false) (σ : Hp) (B : Nat) (M : WM) (p1 : Int32) {r : Nat ⊕ (Int32 × WM)} (hr : SA_load M p1 = some r) : VG l g md_SA_load [.ref B, .int p1] (putW σ B ae M) (fun v1 σ1 => ∃ u, r = .inr u ∧ v1 = some (.int u.1) ∧ σ1 = putW σ B ae u.2) (pxW r (putW σ B ae M).2) := by
  refine VG.intro (by decide +kernel) (Nat.le_of_ble_eq_true rfl) (fun X hx hR => ?_)
  unfold SA_load at hr
  refine g_ls [0, 1] [(0, .ref B), (1, .int p1)] rfl ?_
  refine g_iload_n hx 0 (i := 1) 1 dX10_load_0 rfl rfl ?_
  refine g_if_lt hx 1 15 dX10_load_1 (by decide) (fun hc_1382 => ?_) (fun hc_1382 => ?_)
  · have hr := (if_pos hc_1382).symm.trans hr
    exact g_throwS hx hR hl 15 (cls := iae) xk_X10_89 xi_iae (hC.1.2.2 _ (List.mem_of_getElem? (i := 0) rfl)) (fun U hU => (hC.2.2.1 U hU).1) xo_X10_89_93 (by decide +kernel) (fun U hU => ⟨(hC.2.2.1 U hU).2.2.1, (hC.2.2.1 U hU).2.2.2⟩) dX10_load_15 dX10_load_18 dX10_load_19 dX10_load_21 dX10_load_24 (Nat.le_of_ble_eq_true rfl) ⟨Nat.le_of_ble_eq_true rfl, Nat.le_of_ble_eq_true rfl⟩ ⟨Nat.le_of_ble_eq_true rfl, Nat.le_of_ble_eq_true rfl⟩ ⟨Nat.le_of_ble_eq_true rfl, Nat.le_of_ble_eq_true rfl⟩ (fun z => ⟨_, (Option.some.inj hr).symm, rfl, rfl⟩)
  · have hr := (if_neg hc_1382).symm.trans hr
    refine g_iload_n hx 4 (i := 1) 1 dX10_load_4 rfl rfl ?_
    refine g_aload_n hx 5 (i := 0) 0 dX10_load_5 rfl rfl ?_
    refine g_get hx 6 (C := RX10) (T := TX10) (N := 11) 0 (.ref (B + 1)) (pW σ B ae M 0 (by decide)) rfl (by decide) rfl fl_X10_14 dX10_load_6 ?_
    refine g_callVr hx (k_count l g (pW_l0 σ B ae M) (by decide)) lk_X10_79 ar_Ln_count (pW_l0 σ B ae M).1 (T := TX2) (N := 2) rfl (As := []) (rest := [.int p1]) rfl (Nat.le_of_ble_eq_true rfl) ⟨Nat.le_of_ble_eq_true rfl, Nat.le_of_ble_eq_true rfl⟩ ⟨rfl, rfl⟩ ⟨Nat.zero_le _, Nat.zero_le _⟩ dX10_load_9 ?_
    refine g_icmp_le hx 12 25 dX10_load_12 (by decide) (fun hc_1383 => ?_) (fun hc_1383 => ?_)
    · have hr := (if_pos hc_1383).symm.trans hr
      refine g_aload_n hx 25 (i := 0) 0 dX10_load_25 rfl rfl ?_
      refine g_get hx 26 (C := RX10) (T := TX10) (N := 11) 3 (.ref (B + 7)) (pW σ B ae M 0 (by decide)) rfl (by decide) rfl fl_X10_29 dX10_load_26 ?_
      refine g_iload_n hx 29 (i := 1) 1 dX10_load_29 rfl rfl ?_
      refine g_aload_n hx 30 (i := 0) 0 dX10_load_30 rfl rfl ?_
      refine g_get hx 31 (C := RX10) (T := TX10) (N := 11) 7 (.ref (B + 367)) (pW σ B ae M 0 (by decide)) rfl (by decide) rfl fl_X10_54 dX10_load_31 ?_
      obtain ⟨q_1384, eq_1384, hr⟩ := bind_e hr
      refine g_callVr hx (c_Ps_readArchive l g hC σ B M p1 eq_1384) lk_X10_96 ar_Ps_readArchive (pW σ B ae M 7 (by decide)) (T := TX4) (N := 3) rfl (As := [.int p1, .ref (B + 367)]) (rest := []) rfl (Nat.le_of_ble_eq_true rfl) ⟨Nat.le_of_ble_eq_true rfl, Nat.le_of_ble_eq_true rfl⟩ ⟨rfl, rfl⟩ ⟨Nat.zero_le _, Nat.zero_le _⟩ dX10_load_34 ?_
      obtain ⟨v2_1385, ev2_1385, hr⟩ := lt'_e hr
      refine g_nmi ev2_1385 ?_
      refine g_istore_n hx 37 (i := 2) [(2, .int v2_1385), (0, .ref B), (1, .int p1)] dX10_load_37 rfl (by decide) rfl ?_
      refine g_aload_n hx 38 (i := 0) 1 dX10_load_38 rfl rfl ?_
      refine g_get hx 39 (C := RX10) (T := TX10) (N := 11) 0 (.ref (B + 1)) (pW σ B ae q_1384.2 0 (by decide)) rfl (by decide) rfl fl_X10_14 dX10_load_39 ?_
      refine g_callVv hx (k_clear l g (pW_l0 σ B ae q_1384.2) (by decide)) lk_X10_100 ar_Ln_clear (pW_l0 σ B ae q_1384.2).1 (T := TX2) (N := 2) rfl (As := []) (rest := []) rfl (Nat.le_of_ble_eq_true rfl) ⟨Nat.le_of_ble_eq_true rfl, Nat.le_of_ble_eq_true rfl⟩ ⟨rfl, rfl⟩ ⟨Nat.zero_le _, Nat.zero_le _⟩ dX10_load_42 ?_
      refine G.heap (pW_p0 σ B ae q_1384.2 ([])) ?_
      refine g_aload_n hx 45 (i := 0) 1 dX10_load_45 rfl rfl ?_
      refine g_aload_n hx 46 (i := 0) 1 dX10_load_46 rfl rfl ?_
      refine g_get hx 47 (C := RX10) (T := TX10) (N := 11) 3 (.ref (B + 7)) (pW σ B ae (setWL q_1384.2 0 ([])) 0 (by decide)) rfl (by decide) rfl fl_X10_29 dX10_load_47 ?_
      refine g_callVr hx (c_Ps_errorPlace l g hC σ B (setWL q_1384.2 0 ([])) rfl) lk_X10_103 ar_Ps_errorPlace (pW σ B ae (setWL q_1384.2 0 ([])) 7 (by decide)) (T := TX4) (N := 3) rfl (As := []) (rest := [.ref B]) rfl (Nat.le_of_ble_eq_true rfl) ⟨Nat.le_of_ble_eq_true rfl, Nat.le_of_ble_eq_true rfl⟩ ⟨rfl, rfl⟩ ⟨Nat.zero_le _, Nat.zero_le _⟩ dX10_load_50 ?_
      refine g_put hx 53 (C := RX10) (T := TX10) (N := 11) 10 .int _ (pW σ B ae (setWL q_1384.2 0 ([])) 0 (by decide)) rfl (by decide) fl_X10_64 rfl rfl rfl rfl (Nat.le_of_ble_eq_true rfl) rfl dX10_load_53 ?_
      refine G.heap (pW_i10 σ B ae (setWL q_1384.2 0 ([])) (Ps_errorPlace (setWL q_1384.2 0 ([])))) ?_
      refine g_iload_n hx 56 (i := 2) 0 dX10_load_56 rfl rfl ?_
      refine g_if_eq hx 57 65 dX10_load_57 (by decide) (fun hc_1386 => ?_) (fun hc_1386 => ?_)
      · have hr := (if_pos hc_1386).symm.trans hr
        refine g_aload_n hx 65 (i := 0) 1 dX10_load_65 rfl rfl ?_
        refine g_get hx 66 (C := RX10) (T := TX10) (N := 11) 6 (.ref (B + 332)) (pW σ B ae (setWI (setWL q_1384.2 0 ([])) 10 (Ps_errorPlace (setWL q_1384.2 0 ([])))) 0 (by decide)) rfl (by decide) rfl fl_X10_50 dX10_load_66 ?_
        refine g_aload_n hx 69 (i := 0) 1 dX10_load_69 rfl rfl ?_
        refine g_get hx 70 (C := RX10) (T := TX10) (N := 11) 7 (.ref (B + 367)) (pW σ B ae (setWI (setWL q_1384.2 0 ([])) 10 (Ps_errorPlace (setWL q_1384.2 0 ([])))) 0 (by decide)) rfl (by decide) rfl fl_X10_54 dX10_load_70 ?_
        obtain ⟨M_1387, eM_1387, hr⟩ := lt'_e hr
        refine g_callVv hx (MG.at9 (w := setWI (setWL q_1384.2 0 ([])) 10 (Ps_errorPlace (setWL q_1384.2 0 ([])))) (c_St_copyFrom (pW_st10 σ B ae (setWI (setWL q_1384.2 0 ([])) 10 (Ps_errorPlace (setWL q_1384.2 0 ([]))))) (by omega) l g (q_1384.2.1 9) eM_1387.symm)) lk_X10_106 ar_St_copyFrom (pW_st9 σ B ae (setWI (setWL q_1384.2 0 ([])) 10 (Ps_errorPlace (setWL q_1384.2 0 ([])))) 0 (by decide)) (T := TX8) (N := 15) rfl (As := [.ref (B + 367)]) (rest := []) rfl (Nat.le_of_ble_eq_true rfl) ⟨Nat.le_of_ble_eq_true rfl, Nat.le_of_ble_eq_true rfl⟩ ⟨rfl, rfl⟩ ⟨Nat.zero_le _, Nat.zero_le _⟩ dX10_load_73 ?_
        refine g_aload_n hx 76 (i := 0) 1 dX10_load_76 rfl rfl ?_
        refine g_get hx 77 (C := RX10) (T := TX10) (N := 11) 5 (.ref (B + 15)) (pW σ B ae (setS (setWI (setWL q_1384.2 0 ([])) 10 (Ps_errorPlace (setWL q_1384.2 0 ([])))) 9 M_1387) 0 (by decide)) rfl (by decide) rfl fl_X10_43 dX10_load_77 ?_
        obtain ⟨M_1388, eM_1388, hr⟩ := lt'_e hr
        refine g_callVv hx (c_Hi_clear l g hC σ B (setS (setWI (setWL q_1384.2 0 ([])) 10 (Ps_errorPlace (setWL q_1384.2 0 ([])))) 9 M_1387) eM_1388.symm) lk_X10_110 ar_Hi_clear (pW σ B ae (setS (setWI (setWL q_1384.2 0 ([])) 10 (Ps_errorPlace (setWL q_1384.2 0 ([])))) 9 M_1387) 15 (by decide)) (T := TX1) (N := 3) rfl (As := []) (rest := []) rfl (Nat.le_of_ble_eq_true rfl) ⟨Nat.le_of_ble_eq_true rfl, Nat.le_of_ble_eq_true rfl⟩ ⟨rfl, rfl⟩ ⟨Nat.zero_le _, Nat.zero_le _⟩ dX10_load_80 ?_
        refine g_aload_n hx 83 (i := 0) 1 dX10_load_83 rfl rfl ?_
        refine g_iconst hx 84 (0) dX10_load_84 rfl ?_
        refine g_put hx 85 (C := RX10) (T := TX10) (N := 11) 9 .boolean _ (pW σ B ae M_1388 0 (by decide)) rfl (by decide) fl_X10_60 rfl rfl rfl rfl (Nat.le_of_ble_eq_true rfl) rfl dX10_load_85 ?_
        refine G.heap (pW_i9 σ B ae M_1388 0) ?_
        refine g_aload_n hx 88 (i := 0) 1 dX10_load_88 rfl rfl ?_
        refine g_get hx 89 (C := RX10) (T := TX10) (N := 11) 6 (.ref (B + 332)) (pW σ B ae (setWI M_1388 9 0) 0 (by decide)) rfl (by decide) rfl fl_X10_50 dX10_load_89 ?_
        refine g_get hx 92 (C := RX8) (T := TX8) (N := 15) 4 (.ref (B + 332 + 1)) (pW_st9 σ B ae (setWI M_1388 9 0) 0 (by decide)) rfl (by decide) rfl fl_X10_111 dX10_load_92 ?_
        refine g_callVr hx (k_count l g (st_l0 (pW_st9 σ B ae (setWI M_1388 9 0))) (by decide)) lk_X10_79 ar_Ln_count (st_l0 (pW_st9 σ B ae (setWI M_1388 9 0))).1 (T := TX2) (N := 2) rfl (As := []) (rest := []) rfl (Nat.le_of_ble_eq_true rfl) ⟨Nat.le_of_ble_eq_true rfl, Nat.le_of_ble_eq_true rfl⟩ ⟨rfl, rfl⟩ ⟨Nat.zero_le _, Nat.zero_le _⟩ dX10_load_95 ?_
        exact g_iretV hx hR 98 dX10_load_98 ⟨Nat.le_of_ble_eq_true rfl, Nat.le_of_ble_eq_true rfl⟩ ⟨_, (Option.some.inj hr).symm, rfl, rfl⟩
      · have hr := (if_neg hc_1386).symm.trans hr
        refine g_bipush hx 60 (-10) dX10_load_60 rfl ?_
        refine g_iload_n hx 62 (i := 2) 0 dX10_load_62 rfl rfl ?_
        refine g_isub hx 63 dX10_load_63 ?_
        exact g_iretV hx hR 64 dX10_load_64 ⟨Nat.le_of_ble_eq_true rfl, Nat.le_of_ble_eq_true rfl⟩ ⟨_, (Option.some.inj hr).symm, rfl, rfl⟩
    · have hr := (if_neg hc_1383).symm.trans hr
      exact g_throwS hx hR hl 15 (cls := iae) xk_X10_89 xi_iae (hC.1.2.2 _ (List.mem_of_getElem? (i := 0) rfl)) (fun U hU => (hC.2.2.1 U hU).1) xo_X10_89_93 (by decide +kernel) (fun U hU => ⟨(hC.2.2.1 U hU).2.2.1, (hC.2.2.1 U hU).2.2.2⟩) dX10_load_15 dX10_load_18 dX10_load_19 dX10_load_21 dX10_load_24 (Nat.le_of_ble_eq_true rfl) ⟨Nat.le_of_ble_eq_true rfl, Nat.le_of_ble_eq_true rfl⟩ ⟨Nat.le_of_ble_eq_true rfl, Nat.le_of_ble_eq_true rfl⟩ ⟨Nat.le_of_ble_eq_true rfl, Nat.le_of_ble_eq_true rfl⟩ (fun z => ⟨_, (Option.some.inj hr).symm, rfl, rfl⟩)
def SA_errorPosition (M : WM) : Int32 := M.2.2.1 10
set_option maxRecDepth 100000 in
set_option maxHeartbeats 4000000 in
theorem c_SA_errorPosition {ad ae : Nat → Nat} (l : Launch) (g : Gl) (hC : KAll g ad ae) (σ : Hp) (B : Nat) (M : WM) {r : Int32} (hr : SA_errorPosition M = r) : MG l g md_SA_errorPosition [.ref B] (putW σ B ae M) (rs (some (.int r)) (putW σ B ae M)) := by
  refine MG.intro (by decide +kernel) (Nat.le_of_ble_eq_true rfl) (fun X hx hR _ => ?_)
  unfold SA_errorPosition at hr
  refine g_ls [0] [(0, .ref B)] rfl ?_
  refine g_aload_n hx 0 (i := 0) 0 dX10_errorPosition_0 rfl rfl ?_
  refine g_get hx 1 (C := RX10) (T := TX10) (N := 11) 10 (.int (M.2.2.1 10)) (pW σ B ae M 0 (by decide)) rfl (by decide) rfl fl_X10_64 dX10_errorPosition_1 ?_
  exact g_iret hx hR 4 dX10_errorPosition_4 ⟨by rw [← hr] <;> rfl, rfl⟩
def SA_size (M : WM) (p1 : Int32) : Option (Nat ⊕ (Int32)) := if p1 = 0 then (some (.inr ((M.1 9).1 0))) else (if p1 = 1 then (some (.inr ((M.1 9).1 1))) else (if p1 = 2 then (some (.inr ((M.1 9).1 2))) else (if p1 = 3 then (some (.inr (nI ((M.1 9).2 5).length))) else (if p1 = 4 then (some (.inr ((M.1 9).1 3))) else (if p1 = 5 then (some (.inr (nI ((M.1 9).2 0).length))) else (if p1 = 6 then (some (.inr (nI ((M.1 9).2 7).length))) else (if p1 = 7 then (some (.inr (lncnt ((M.1 9).2 2) 1))) else (if p1 = 8 then (some (.inr (nI ((M.1 9).2 10).length))) else (if p1 = 9 then (some (.inr (Sl_count (M.1 9)))) else (if p1 = 10 then (Option.bind (Rw_wrongPairs (M.1 9)) fun q_1400 => some (.inr q_1400)) else (if p1 = 11 then (some (.inr (St_daysToRefiling (M.1 9)))) else (some (.inl 0)))))))))))))
set_option maxRecDepth 100000 in
set_option maxHeartbeats 4000000 in
theorem c_SA_size {ad ae : Nat → Nat} (l : Launch) (g : Gl) (hC : KAll g ad ae) (hl : l.stackTraces = false) (σ : Hp) (B : Nat) (M : WM) (p1 : Int32) {r : Nat ⊕ (Int32)} (hr : SA_size M p1 = some r) : VG l g md_SA_size [.ref B, .int p1] (putW σ B ae M) (fun v1 σ1 => ∃ u, r = .inr u ∧ v1 = some (.int u) ∧ σ1 = putW σ B ae M) (pxW r (putW σ B ae M).2) := by
  refine VG.intro (by decide +kernel) (Nat.le_of_ble_eq_true rfl) (fun X hx hR => ?_)
  unfold SA_size at hr
  refine g_ls [0, 1] [(0, .ref B), (1, .int p1)] rfl ?_
  refine g_iload_n hx 0 (i := 1) 1 dX10_size_0 rfl rfl ?_
  by_cases hc_1389 : p1 = 0
  · have hr := (if_pos hc_1389).symm.trans hr
    refine g_tableIn hx 1 64 dX10_size_1 (by rw [hc_1389]; decide) (by rw [hc_1389]; decide) (by rw [hc_1389]; rfl) (by decide) ?_
    refine g_aload_n hx 64 (i := 0) 0 dX10_size_64 rfl rfl ?_
    refine g_get hx 65 (C := RX10) (T := TX10) (N := 11) 6 (.ref (B + 332)) (pW σ B ae M 0 (by decide)) rfl (by decide) rfl fl_X10_50 dX10_size_65 ?_
    refine g_get hx 68 (C := RX8) (T := TX8) (N := 15) 0 (.int ((M.1 9).1 0)) (pW_st9 σ B ae M 0 (by decide)) rfl (by decide) rfl fl_X10_114 dX10_size_68 ?_
    exact g_iretV hx hR 71 dX10_size_71 ⟨Nat.le_of_ble_eq_true rfl, Nat.le_of_ble_eq_true rfl⟩ ⟨_, (Option.some.inj hr).symm, rfl, rfl⟩
  · have hr := (if_neg hc_1389).symm.trans hr
    by_cases hc_1390 : p1 = 1
    · have hr := (if_pos hc_1390).symm.trans hr
      refine g_tableIn hx 1 72 dX10_size_1 (by rw [hc_1390]; decide) (by rw [hc_1390]; decide) (by rw [hc_1390]; rfl) (by decide) ?_
      refine g_aload_n hx 72 (i := 0) 0 dX10_size_72 rfl rfl ?_
      refine g_get hx 73 (C := RX10) (T := TX10) (N := 11) 6 (.ref (B + 332)) (pW σ B ae M 0 (by decide)) rfl (by decide) rfl fl_X10_50 dX10_size_73 ?_
      refine g_get hx 76 (C := RX8) (T := TX8) (N := 15) 1 (.int ((M.1 9).1 1)) (pW_st9 σ B ae M 0 (by decide)) rfl (by decide) rfl fl_X10_117 dX10_size_76 ?_
      exact g_iretV hx hR 79 dX10_size_79 ⟨Nat.le_of_ble_eq_true rfl, Nat.le_of_ble_eq_true rfl⟩ ⟨_, (Option.some.inj hr).symm, rfl, rfl⟩
    · have hr := (if_neg hc_1390).symm.trans hr
      by_cases hc_1391 : p1 = 2
      · have hr := (if_pos hc_1391).symm.trans hr
        refine g_tableIn hx 1 80 dX10_size_1 (by rw [hc_1391]; decide) (by rw [hc_1391]; decide) (by rw [hc_1391]; rfl) (by decide) ?_
        refine g_aload_n hx 80 (i := 0) 0 dX10_size_80 rfl rfl ?_
        refine g_get hx 81 (C := RX10) (T := TX10) (N := 11) 6 (.ref (B + 332)) (pW σ B ae M 0 (by decide)) rfl (by decide) rfl fl_X10_50 dX10_size_81 ?_
        refine g_get hx 84 (C := RX8) (T := TX8) (N := 15) 2 (.int ((M.1 9).1 2)) (pW_st9 σ B ae M 0 (by decide)) rfl (by decide) rfl fl_X10_120 dX10_size_84 ?_
        exact g_iretV hx hR 87 dX10_size_87 ⟨Nat.le_of_ble_eq_true rfl, Nat.le_of_ble_eq_true rfl⟩ ⟨_, (Option.some.inj hr).symm, rfl, rfl⟩
      · have hr := (if_neg hc_1391).symm.trans hr
        by_cases hc_1392 : p1 = 3
        · have hr := (if_pos hc_1392).symm.trans hr
          refine g_tableIn hx 1 88 dX10_size_1 (by rw [hc_1392]; decide) (by rw [hc_1392]; decide) (by rw [hc_1392]; rfl) (by decide) ?_
          refine g_aload_n hx 88 (i := 0) 0 dX10_size_88 rfl rfl ?_
          refine g_get hx 89 (C := RX10) (T := TX10) (N := 11) 6 (.ref (B + 332)) (pW σ B ae M 0 (by decide)) rfl (by decide) rfl fl_X10_50 dX10_size_89 ?_
          refine g_get hx 92 (C := RX8) (T := TX8) (N := 15) 9 (.ref (B + 332 + 11)) (pW_st9 σ B ae M 0 (by decide)) rfl (by decide) rfl fl_X10_123 dX10_size_92 ?_
          refine g_callVr hx (k_count l g (st_l5 (pW_st9 σ B ae M)) (by decide)) lk_X10_79 ar_Ln_count (st_l5 (pW_st9 σ B ae M)).1 (T := TX2) (N := 2) rfl (As := []) (rest := []) rfl (Nat.le_of_ble_eq_true rfl) ⟨Nat.le_of_ble_eq_true rfl, Nat.le_of_ble_eq_true rfl⟩ ⟨rfl, rfl⟩ ⟨Nat.zero_le _, Nat.zero_le _⟩ dX10_size_95 ?_
          exact g_iretV hx hR 98 dX10_size_98 ⟨Nat.le_of_ble_eq_true rfl, Nat.le_of_ble_eq_true rfl⟩ ⟨_, (Option.some.inj hr).symm, rfl, rfl⟩
        · have hr := (if_neg hc_1392).symm.trans hr
          by_cases hc_1393 : p1 = 4
          · have hr := (if_pos hc_1393).symm.trans hr
            refine g_tableIn hx 1 99 dX10_size_1 (by rw [hc_1393]; decide) (by rw [hc_1393]; decide) (by rw [hc_1393]; rfl) (by decide) ?_
            refine g_aload_n hx 99 (i := 0) 0 dX10_size_99 rfl rfl ?_
            refine g_get hx 100 (C := RX10) (T := TX10) (N := 11) 6 (.ref (B + 332)) (pW σ B ae M 0 (by decide)) rfl (by decide) rfl fl_X10_50 dX10_size_100 ?_
            refine g_get hx 103 (C := RX8) (T := TX8) (N := 15) 3 (.int ((M.1 9).1 3)) (pW_st9 σ B ae M 0 (by decide)) rfl (by decide) rfl fl_X10_126 dX10_size_103 ?_
            exact g_iretV hx hR 106 dX10_size_106 ⟨Nat.le_of_ble_eq_true rfl, Nat.le_of_ble_eq_true rfl⟩ ⟨_, (Option.some.inj hr).symm, rfl, rfl⟩
          · have hr := (if_neg hc_1393).symm.trans hr
            by_cases hc_1394 : p1 = 5
            · have hr := (if_pos hc_1394).symm.trans hr
              refine g_tableIn hx 1 107 dX10_size_1 (by rw [hc_1394]; decide) (by rw [hc_1394]; decide) (by rw [hc_1394]; rfl) (by decide) ?_
              refine g_aload_n hx 107 (i := 0) 0 dX10_size_107 rfl rfl ?_
              refine g_get hx 108 (C := RX10) (T := TX10) (N := 11) 6 (.ref (B + 332)) (pW σ B ae M 0 (by decide)) rfl (by decide) rfl fl_X10_50 dX10_size_108 ?_
              refine g_get hx 111 (C := RX8) (T := TX8) (N := 15) 4 (.ref (B + 332 + 1)) (pW_st9 σ B ae M 0 (by decide)) rfl (by decide) rfl fl_X10_111 dX10_size_111 ?_
              refine g_callVr hx (k_count l g (st_l0 (pW_st9 σ B ae M)) (by decide)) lk_X10_79 ar_Ln_count (st_l0 (pW_st9 σ B ae M)).1 (T := TX2) (N := 2) rfl (As := []) (rest := []) rfl (Nat.le_of_ble_eq_true rfl) ⟨Nat.le_of_ble_eq_true rfl, Nat.le_of_ble_eq_true rfl⟩ ⟨rfl, rfl⟩ ⟨Nat.zero_le _, Nat.zero_le _⟩ dX10_size_114 ?_
              exact g_iretV hx hR 117 dX10_size_117 ⟨Nat.le_of_ble_eq_true rfl, Nat.le_of_ble_eq_true rfl⟩ ⟨_, (Option.some.inj hr).symm, rfl, rfl⟩
            · have hr := (if_neg hc_1394).symm.trans hr
              by_cases hc_1395 : p1 = 6
              · have hr := (if_pos hc_1395).symm.trans hr
                refine g_tableIn hx 1 118 dX10_size_1 (by rw [hc_1395]; decide) (by rw [hc_1395]; decide) (by rw [hc_1395]; rfl) (by decide) ?_
                refine g_aload_n hx 118 (i := 0) 0 dX10_size_118 rfl rfl ?_
                refine g_get hx 119 (C := RX10) (T := TX10) (N := 11) 6 (.ref (B + 332)) (pW σ B ae M 0 (by decide)) rfl (by decide) rfl fl_X10_50 dX10_size_119 ?_
                refine g_get hx 122 (C := RX8) (T := TX8) (N := 15) 11 (.ref (B + 332 + 15)) (pW_st9 σ B ae M 0 (by decide)) rfl (by decide) rfl fl_X10_129 dX10_size_122 ?_
                refine g_get hx 125 (C := RX5) (T := TX5) (N := 4) 0 (.ref (B + 332 + 16)) (pW_st9 σ B ae M 15 (by decide)) rfl (by decide) rfl fl_X10_133 dX10_size_125 ?_
                refine g_callVr hx (k_count l g (st_l7 (pW_st9 σ B ae M)) (by decide)) lk_X10_79 ar_Ln_count (st_l7 (pW_st9 σ B ae M)).1 (T := TX2) (N := 2) rfl (As := []) (rest := []) rfl (Nat.le_of_ble_eq_true rfl) ⟨Nat.le_of_ble_eq_true rfl, Nat.le_of_ble_eq_true rfl⟩ ⟨rfl, rfl⟩ ⟨Nat.zero_le _, Nat.zero_le _⟩ dX10_size_128 ?_
                exact g_iretV hx hR 131 dX10_size_131 ⟨Nat.le_of_ble_eq_true rfl, Nat.le_of_ble_eq_true rfl⟩ ⟨_, (Option.some.inj hr).symm, rfl, rfl⟩
              · have hr := (if_neg hc_1395).symm.trans hr
                by_cases hc_1396 : p1 = 7
                · have hr := (if_pos hc_1396).symm.trans hr
                  refine g_tableIn hx 1 132 dX10_size_1 (by rw [hc_1396]; decide) (by rw [hc_1396]; decide) (by rw [hc_1396]; rfl) (by decide) ?_
                  refine g_aload_n hx 132 (i := 0) 0 dX10_size_132 rfl rfl ?_
                  refine g_get hx 133 (C := RX10) (T := TX10) (N := 11) 6 (.ref (B + 332)) (pW σ B ae M 0 (by decide)) rfl (by decide) rfl fl_X10_50 dX10_size_133 ?_
                  refine g_get hx 136 (C := RX8) (T := TX8) (N := 15) 6 (.ref (B + 332 + 5)) (pW_st9 σ B ae M 0 (by decide)) rfl (by decide) rfl fl_X10_138 dX10_size_136 ?_
                  refine g_iconst hx 139 (1) dX10_size_139 rfl ?_
                  refine g_callVr hx (k_countOf l g (st_l2 (pW_st9 σ B ae M)) (by decide) 1) lk_X10_141 ar_Ln_countOf (st_l2 (pW_st9 σ B ae M)).1 (T := TX2) (N := 2) rfl (As := [.int 1]) (rest := []) rfl (Nat.le_of_ble_eq_true rfl) ⟨Nat.le_of_ble_eq_true rfl, Nat.le_of_ble_eq_true rfl⟩ ⟨rfl, rfl⟩ ⟨Nat.zero_le _, Nat.zero_le _⟩ dX10_size_140 ?_
                  exact g_iretV hx hR 143 dX10_size_143 ⟨Nat.le_of_ble_eq_true rfl, Nat.le_of_ble_eq_true rfl⟩ ⟨_, (Option.some.inj hr).symm, rfl, rfl⟩
                · have hr := (if_neg hc_1396).symm.trans hr
                  by_cases hc_1397 : p1 = 8
                  · have hr := (if_pos hc_1397).symm.trans hr
                    refine g_tableIn hx 1 144 dX10_size_1 (by rw [hc_1397]; decide) (by rw [hc_1397]; decide) (by rw [hc_1397]; rfl) (by decide) ?_
                    refine g_aload_n hx 144 (i := 0) 0 dX10_size_144 rfl rfl ?_
                    refine g_get hx 145 (C := RX10) (T := TX10) (N := 11) 6 (.ref (B + 332)) (pW σ B ae M 0 (by decide)) rfl (by decide) rfl fl_X10_50 dX10_size_145 ?_
                    refine g_get hx 148 (C := RX8) (T := TX8) (N := 15) 12 (.ref (B + 332 + 22)) (pW_st9 σ B ae M 0 (by decide)) rfl (by decide) rfl fl_X10_145 dX10_size_148 ?_
                    refine g_callVr hx (k_count l g (st_l10 (pW_st9 σ B ae M)) (by decide)) lk_X10_79 ar_Ln_count (st_l10 (pW_st9 σ B ae M)).1 (T := TX2) (N := 2) rfl (As := []) (rest := []) rfl (Nat.le_of_ble_eq_true rfl) ⟨Nat.le_of_ble_eq_true rfl, Nat.le_of_ble_eq_true rfl⟩ ⟨rfl, rfl⟩ ⟨Nat.zero_le _, Nat.zero_le _⟩ dX10_size_151 ?_
                    exact g_iretV hx hR 154 dX10_size_154 ⟨Nat.le_of_ble_eq_true rfl, Nat.le_of_ble_eq_true rfl⟩ ⟨_, (Option.some.inj hr).symm, rfl, rfl⟩
                  · have hr := (if_neg hc_1397).symm.trans hr
                    by_cases hc_1398 : p1 = 9
                    · have hr := (if_pos hc_1398).symm.trans hr
                      refine g_tableIn hx 1 155 dX10_size_1 (by rw [hc_1398]; decide) (by rw [hc_1398]; decide) (by rw [hc_1398]; rfl) (by decide) ?_
                      refine g_aload_n hx 155 (i := 0) 0 dX10_size_155 rfl rfl ?_
                      refine g_get hx 156 (C := RX10) (T := TX10) (N := 11) 6 (.ref (B + 332)) (pW σ B ae M 0 (by decide)) rfl (by decide) rfl fl_X10_50 dX10_size_156 ?_
                      refine g_get hx 159 (C := RX8) (T := TX8) (N := 15) 13 (.ref (B + 332 + 24)) (pW_st9 σ B ae M 0 (by decide)) rfl (by decide) rfl fl_X10_148 dX10_size_159 ?_
                      refine g_callVr hx (MG.ar9 (w := M) (c_Sl_count l g (putW σ B ae M) (B + 332) (M.1 9) rfl)) lk_X10_152 ar_Sl_count (pW_st9 σ B ae M 24 (by decide)) (T := TX7) (N := 4) rfl (As := []) (rest := []) rfl (Nat.le_of_ble_eq_true rfl) ⟨Nat.le_of_ble_eq_true rfl, Nat.le_of_ble_eq_true rfl⟩ ⟨rfl, rfl⟩ ⟨Nat.zero_le _, Nat.zero_le _⟩ dX10_size_162 ?_
                      exact g_iretV hx hR 165 dX10_size_165 ⟨Nat.le_of_ble_eq_true rfl, Nat.le_of_ble_eq_true rfl⟩ ⟨_, (Option.some.inj hr).symm, rfl, rfl⟩
                    · have hr := (if_neg hc_1398).symm.trans hr
                      by_cases hc_1399 : p1 = 10
                      · have hr := (if_pos hc_1399).symm.trans hr
                        refine g_tableIn hx 1 166 dX10_size_1 (by rw [hc_1399]; decide) (by rw [hc_1399]; decide) (by rw [hc_1399]; rfl) (by decide) ?_
                        refine g_aload_n hx 166 (i := 0) 0 dX10_size_166 rfl rfl ?_
                        refine g_get hx 167 (C := RX10) (T := TX10) (N := 11) 6 (.ref (B + 332)) (pW σ B ae M 0 (by decide)) rfl (by decide) rfl fl_X10_50 dX10_size_167 ?_
                        refine g_get hx 170 (C := RX8) (T := TX8) (N := 15) 11 (.ref (B + 332 + 15)) (pW_st9 σ B ae M 0 (by decide)) rfl (by decide) rfl fl_X10_129 dX10_size_170 ?_
                        obtain ⟨q_1400, eq_1400, hr⟩ := bind_e hr
                        refine g_callVr hx (MG.ar9 (w := M) (c_Rw_wrongPairs l g (putW σ B ae M) (B + 332) (M.1 9) eq_1400)) lk_X10_155 ar_Rw_wrongPairs (pW_st9 σ B ae M 15 (by decide)) (T := TX5) (N := 4) rfl (As := []) (rest := []) rfl (Nat.le_of_ble_eq_true rfl) ⟨Nat.le_of_ble_eq_true rfl, Nat.le_of_ble_eq_true rfl⟩ ⟨rfl, rfl⟩ ⟨Nat.zero_le _, Nat.zero_le _⟩ dX10_size_173 ?_
                        exact g_iretV hx hR 176 dX10_size_176 ⟨Nat.le_of_ble_eq_true rfl, Nat.le_of_ble_eq_true rfl⟩ ⟨_, (Option.some.inj hr).symm, rfl, rfl⟩
                      · have hr := (if_neg hc_1399).symm.trans hr
                        by_cases hc_1401 : p1 = 11
                        · have hr := (if_pos hc_1401).symm.trans hr
                          refine g_tableIn hx 1 177 dX10_size_1 (by rw [hc_1401]; decide) (by rw [hc_1401]; decide) (by rw [hc_1401]; rfl) (by decide) ?_
                          refine g_aload_n hx 177 (i := 0) 0 dX10_size_177 rfl rfl ?_
                          refine g_get hx 178 (C := RX10) (T := TX10) (N := 11) 6 (.ref (B + 332)) (pW σ B ae M 0 (by decide)) rfl (by decide) rfl fl_X10_50 dX10_size_178 ?_
                          refine g_callVr hx (MG.ar9 (w := M) (c_St_daysToRefiling l g (putW σ B ae M) (B + 332) (M.1 9) rfl)) lk_X10_158 ar_St_daysToRefiling (pW_st9 σ B ae M 0 (by decide)) (T := TX8) (N := 15) rfl (As := []) (rest := []) rfl (Nat.le_of_ble_eq_true rfl) ⟨Nat.le_of_ble_eq_true rfl, Nat.le_of_ble_eq_true rfl⟩ ⟨rfl, rfl⟩ ⟨Nat.zero_le _, Nat.zero_le _⟩ dX10_size_181 ?_
                          exact g_iretV hx hR 184 dX10_size_184 ⟨Nat.le_of_ble_eq_true rfl, Nat.le_of_ble_eq_true rfl⟩ ⟨_, (Option.some.inj hr).symm, rfl, rfl⟩
                        · have hr := (if_neg hc_1401).symm.trans hr
                          refine g_tableOut hx 1 185 dX10_size_1 (sw_out (fun c h1 h2 hq => by have hc : c = 0 ∨ c = 1 ∨ c = 2 ∨ c = 3 ∨ c = 4 ∨ c = 5 ∨ c = 6 ∨ c = 7 ∨ c = 8 ∨ c = 9 ∨ c = 10 ∨ c = 11 := (by omega); rcases hc with rfl | rfl | rfl | rfl | rfl | rfl | rfl | rfl | rfl | rfl | rfl | rfl <;> first | exact lv_neT hc_1389 rfl hq | exact lv_neT hc_1390 rfl hq | exact lv_neT hc_1391 rfl hq | exact lv_neT hc_1392 rfl hq | exact lv_neT hc_1393 rfl hq | exact lv_neT hc_1394 rfl hq | exact lv_neT hc_1395 rfl hq | exact lv_neT hc_1396 rfl hq | exact lv_neT hc_1397 rfl hq | exact lv_neT hc_1398 rfl hq | exact lv_neT hc_1399 rfl hq | exact lv_neT hc_1401 rfl hq)) (by decide) ?_
                          exact g_throwS hx hR hl 185 (cls := iae) xk_X10_89 xi_iae (hC.1.2.2 _ (List.mem_of_getElem? (i := 1) rfl)) (fun U hU => (hC.2.2.1 U hU).1) xo_X10_89_93 (by decide +kernel) (fun U hU => ⟨(hC.2.2.1 U hU).2.2.1, (hC.2.2.1 U hU).2.2.2⟩) dX10_size_185 dX10_size_188 dX10_size_189 dX10_size_191 dX10_size_194 (Nat.le_of_ble_eq_true rfl) ⟨Nat.le_of_ble_eq_true rfl, Nat.le_of_ble_eq_true rfl⟩ ⟨Nat.le_of_ble_eq_true rfl, Nat.le_of_ble_eq_true rfl⟩ ⟨Nat.le_of_ble_eq_true rfl, Nat.le_of_ble_eq_true rfl⟩ (fun z => ⟨_, (Option.some.inj hr).symm, rfl, rfl⟩)
def SA_account (M : WM) (p1 : Int32) : Option (Nat ⊕ (Int32)) := if p1 < 0 then (some (.inl 0)) else (if p1 < 11 then (Option.bind (if 3 ≤ p1 then (some (lnget ((M.1 9).2 15) p1)) else (some (lnget (M.2.1 2) p1))) fun b_1405 => some (.inr b_1405)) else (some (.inl 0)))
set_option maxRecDepth 100000 in
set_option maxHeartbeats 4000000 in
theorem c_SA_account {ad ae : Nat → Nat} (l : Launch) (g : Gl) (hC : KAll g ad ae) (hl : l.stackTraces = false) (σ : Hp) (B : Nat) (M : WM) (p1 : Int32) {r : Nat ⊕ (Int32)} (hr : SA_account M p1 = some r) : VG l g md_SA_account [.ref B, .int p1] (putW σ B ae M) (fun v1 σ1 => ∃ u, r = .inr u ∧ v1 = some (.int u) ∧ σ1 = putW σ B ae M) (pxW r (putW σ B ae M).2) := by
  refine VG.intro (by decide +kernel) (Nat.le_of_ble_eq_true rfl) (fun X hx hR => ?_)
  unfold SA_account at hr
  refine g_ls [0, 1] [(0, .ref B), (1, .int p1)] rfl ?_
  refine g_iload_n hx 0 (i := 1) 1 dX10_account_0 rfl rfl ?_
  refine g_if_lt hx 1 10 dX10_account_1 (by decide) (fun hc_1402 => ?_) (fun hc_1402 => ?_)
  · have hr := (if_pos hc_1402).symm.trans hr
    exact g_throwS hx hR hl 10 (cls := iae) xk_X10_89 xi_iae (hC.1.2.2 _ (List.mem_of_getElem? (i := 2) rfl)) (fun U hU => (hC.2.2.1 U hU).1) xo_X10_89_93 (by decide +kernel) (fun U hU => ⟨(hC.2.2.1 U hU).2.2.1, (hC.2.2.1 U hU).2.2.2⟩) dX10_account_10 dX10_account_13 dX10_account_14 dX10_account_16 dX10_account_19 (Nat.le_of_ble_eq_true rfl) ⟨Nat.le_of_ble_eq_true rfl, Nat.le_of_ble_eq_true rfl⟩ ⟨Nat.le_of_ble_eq_true rfl, Nat.le_of_ble_eq_true rfl⟩ ⟨Nat.le_of_ble_eq_true rfl, Nat.le_of_ble_eq_true rfl⟩ (fun z => ⟨_, (Option.some.inj hr).symm, rfl, rfl⟩)
  · have hr := (if_neg hc_1402).symm.trans hr
    refine g_iload_n hx 4 (i := 1) 1 dX10_account_4 rfl rfl ?_
    refine g_bipush hx 5 (11) dX10_account_5 rfl ?_
    refine g_icmp_lt hx 7 20 dX10_account_7 (by decide) (fun hc_1403 => ?_) (fun hc_1403 => ?_)
    · have hr := (if_pos hc_1403).symm.trans hr
      refine g_iload_n hx 20 (i := 1) 1 dX10_account_20 rfl rfl ?_
      refine g_iconst hx 21 (3) dX10_account_21 rfl ?_
      obtain ⟨b_1405, eb_1405, hr⟩ := bind_e hr
      have rest : G X (putW σ B ae M) 0 0 47 [(0, .ref B), (1, .int p1)] [.int b_1405] := by
        exact g_iretV hx hR 47 dX10_account_47 ⟨Nat.le_of_ble_eq_true rfl, Nat.le_of_ble_eq_true rfl⟩ ⟨_, (Option.some.inj hr).symm, rfl, rfl⟩
      clear hr
      have hr := eb_1405
      refine g_icmp_ge hx 22 36 dX10_account_22 (by decide) (fun hc_1404 => ?_) (fun hc_1404 => ?_)
      · have hr := (if_pos hc_1404).symm.trans hr
        refine g_aload_n hx 36 (i := 0) 0 dX10_account_36 rfl rfl ?_
        refine g_get hx 37 (C := RX10) (T := TX10) (N := 11) 6 (.ref (B + 332)) (pW σ B ae M 0 (by decide)) rfl (by decide) rfl fl_X10_50 dX10_account_37 ?_
        refine g_get hx 40 (C := RX8) (T := TX8) (N := 15) 14 (.ref (B + 332 + 33)) (pW_st9 σ B ae M 0 (by decide)) rfl (by decide) rfl fl_X10_168 dX10_account_40 ?_
        refine g_iload_n hx 43 (i := 1) 1 dX10_account_43 rfl rfl ?_
        refine g_callVr hx (k_get l g (st_l15 (pW_st9 σ B ae M)) (by decide) p1) lk_X10_165 ar_Ln_get (st_l15 (pW_st9 σ B ae M)).1 (T := TX2) (N := 2) rfl (As := [.int p1]) (rest := []) rfl (Nat.le_of_ble_eq_true rfl) ⟨Nat.le_of_ble_eq_true rfl, Nat.le_of_ble_eq_true rfl⟩ ⟨rfl, rfl⟩ ⟨Nat.zero_le _, Nat.zero_le _⟩ dX10_account_44 ?_
        exact g_nmi (Option.some.inj hr).symm rest
      · have hr := (if_neg hc_1404).symm.trans hr
        refine g_aload_n hx 25 (i := 0) 0 dX10_account_25 rfl rfl ?_
        refine g_get hx 26 (C := RX10) (T := TX10) (N := 11) 2 (.ref (B + 5)) (pW σ B ae M 0 (by decide)) rfl (by decide) rfl fl_X10_21 dX10_account_26 ?_
        refine g_iload_n hx 29 (i := 1) 1 dX10_account_29 rfl rfl ?_
        refine g_callVr hx (k_get l g (pW_l2 σ B ae M) (by decide) p1) lk_X10_165 ar_Ln_get (pW_l2 σ B ae M).1 (T := TX2) (N := 2) rfl (As := [.int p1]) (rest := []) rfl (Nat.le_of_ble_eq_true rfl) ⟨Nat.le_of_ble_eq_true rfl, Nat.le_of_ble_eq_true rfl⟩ ⟨rfl, rfl⟩ ⟨Nat.zero_le _, Nat.zero_le _⟩ dX10_account_30 ?_
        refine g_goto hx 33 47 dX10_account_33 (by decide) ?_
        exact g_nmi (Option.some.inj hr).symm rest
    · have hr := (if_neg hc_1403).symm.trans hr
      exact g_throwS hx hR hl 10 (cls := iae) xk_X10_89 xi_iae (hC.1.2.2 _ (List.mem_of_getElem? (i := 2) rfl)) (fun U hU => (hC.2.2.1 U hU).1) xo_X10_89_93 (by decide +kernel) (fun U hU => ⟨(hC.2.2.1 U hU).2.2.1, (hC.2.2.1 U hU).2.2.2⟩) dX10_account_10 dX10_account_13 dX10_account_14 dX10_account_16 dX10_account_19 (Nat.le_of_ble_eq_true rfl) ⟨Nat.le_of_ble_eq_true rfl, Nat.le_of_ble_eq_true rfl⟩ ⟨Nat.le_of_ble_eq_true rfl, Nat.le_of_ble_eq_true rfl⟩ ⟨Nat.le_of_ble_eq_true rfl, Nat.le_of_ble_eq_true rfl⟩ (fun z => ⟨_, (Option.some.inj hr).symm, rfl, rfl⟩)
def SA_folder (M : WM) (p1 p2 : Int32) : Option (Nat ⊕ (Int32)) := if St_hasFolder (M.1 9) p1 = 0 then (some (.inl 1)) else (if p2 = 0 then (some (.inr (lnget ((M.1 9).2 0) p1))) else (if p2 = 1 then (some (.inr (lnget ((M.1 9).2 1) p1))) else (if p2 = 2 then (some (.inr (lnget ((M.1 9).2 2) p1))) else (if p2 = 3 then (some (.inr (St_whereabouts (M.1 9) p1))) else (if p2 = 4 then (some (.inr (lncnt ((M.1 9).2 12) p1))) else (if p2 = 5 then (some (.inr (lnget ((M.1 9).2 4) p1))) else (if p2 = 6 then (Option.bind (if St_isClosed (M.1 9) p1 = 0 then (some 0) else (some 1)) fun b_1415 => some (.inr b_1415)) else (some (.inl 0)))))))))
set_option maxRecDepth 100000 in
set_option maxHeartbeats 4000000 in
theorem c_SA_folder {ad ae : Nat → Nat} (l : Launch) (g : Gl) (hC : KAll g ad ae) (hl : l.stackTraces = false) (σ : Hp) (B : Nat) (M : WM) (p1 p2 : Int32) {r : Nat ⊕ (Int32)} (hr : SA_folder M p1 p2 = some r) : VG l g md_SA_folder [.ref B, .int p1, .int p2] (putW σ B ae M) (fun v1 σ1 => ∃ u, r = .inr u ∧ v1 = some (.int u) ∧ σ1 = putW σ B ae M) (pxW r (putW σ B ae M).2) := by
  refine VG.intro (by decide +kernel) (Nat.le_of_ble_eq_true rfl) (fun X hx hR => ?_)
  unfold SA_folder at hr
  refine g_ls [0, 1, 2] [(0, .ref B), (1, .int p1), (2, .int p2)] rfl ?_
  refine g_aload_n hx 0 (i := 0) 0 dX10_folder_0 rfl rfl ?_
  refine g_get hx 1 (C := RX10) (T := TX10) (N := 11) 6 (.ref (B + 332)) (pW σ B ae M 0 (by decide)) rfl (by decide) rfl fl_X10_50 dX10_folder_1 ?_
  refine g_iload_n hx 4 (i := 1) 1 dX10_folder_4 rfl rfl ?_
  refine g_callVr hx (MG.ar9 (w := M) (c_St_hasFolder l g (putW σ B ae M) (B + 332) (M.1 9) p1 rfl)) lk_X10_171 ar_St_hasFolder (pW_st9 σ B ae M 0 (by decide)) (T := TX8) (N := 15) rfl (As := [.int p1]) (rest := []) rfl (Nat.le_of_ble_eq_true rfl) ⟨Nat.le_of_ble_eq_true rfl, Nat.le_of_ble_eq_true rfl⟩ ⟨rfl, rfl⟩ ⟨Nat.zero_le _, Nat.zero_le _⟩ dX10_folder_5 ?_
  refine g_if_ne hx 8 21 dX10_folder_8 (by decide) (fun hc_1406 => ?_) (fun hc_1406 => ?_)
  · have hr := (if_neg hc_1406).symm.trans hr
    refine g_iload_n hx 21 (i := 2) 2 dX10_folder_21 rfl rfl ?_
    by_cases hc_1407 : p2 = 0
    · have hr := (if_pos hc_1407).symm.trans hr
      refine g_tableIn hx 22 64 dX10_folder_22 (by rw [hc_1407]; decide) (by rw [hc_1407]; decide) (by rw [hc_1407]; rfl) (by decide) ?_
      refine g_aload_n hx 64 (i := 0) 0 dX10_folder_64 rfl rfl ?_
      refine g_get hx 65 (C := RX10) (T := TX10) (N := 11) 6 (.ref (B + 332)) (pW σ B ae M 0 (by decide)) rfl (by decide) rfl fl_X10_50 dX10_folder_65 ?_
      refine g_get hx 68 (C := RX8) (T := TX8) (N := 15) 4 (.ref (B + 332 + 1)) (pW_st9 σ B ae M 0 (by decide)) rfl (by decide) rfl fl_X10_111 dX10_folder_68 ?_
      refine g_iload_n hx 71 (i := 1) 1 dX10_folder_71 rfl rfl ?_
      refine g_callVr hx (k_get l g (st_l0 (pW_st9 σ B ae M)) (by decide) p1) lk_X10_165 ar_Ln_get (st_l0 (pW_st9 σ B ae M)).1 (T := TX2) (N := 2) rfl (As := [.int p1]) (rest := []) rfl (Nat.le_of_ble_eq_true rfl) ⟨Nat.le_of_ble_eq_true rfl, Nat.le_of_ble_eq_true rfl⟩ ⟨rfl, rfl⟩ ⟨Nat.zero_le _, Nat.zero_le _⟩ dX10_folder_72 ?_
      exact g_iretV hx hR 75 dX10_folder_75 ⟨Nat.le_of_ble_eq_true rfl, Nat.le_of_ble_eq_true rfl⟩ ⟨_, (Option.some.inj hr).symm, rfl, rfl⟩
    · have hr := (if_neg hc_1407).symm.trans hr
      by_cases hc_1408 : p2 = 1
      · have hr := (if_pos hc_1408).symm.trans hr
        refine g_tableIn hx 22 76 dX10_folder_22 (by rw [hc_1408]; decide) (by rw [hc_1408]; decide) (by rw [hc_1408]; rfl) (by decide) ?_
        refine g_aload_n hx 76 (i := 0) 0 dX10_folder_76 rfl rfl ?_
        refine g_get hx 77 (C := RX10) (T := TX10) (N := 11) 6 (.ref (B + 332)) (pW σ B ae M 0 (by decide)) rfl (by decide) rfl fl_X10_50 dX10_folder_77 ?_
        refine g_get hx 80 (C := RX8) (T := TX8) (N := 15) 5 (.ref (B + 332 + 3)) (pW_st9 σ B ae M 0 (by decide)) rfl (by decide) rfl fl_X10_180 dX10_folder_80 ?_
        refine g_iload_n hx 83 (i := 1) 1 dX10_folder_83 rfl rfl ?_
        refine g_callVr hx (k_get l g (st_l1 (pW_st9 σ B ae M)) (by decide) p1) lk_X10_165 ar_Ln_get (st_l1 (pW_st9 σ B ae M)).1 (T := TX2) (N := 2) rfl (As := [.int p1]) (rest := []) rfl (Nat.le_of_ble_eq_true rfl) ⟨Nat.le_of_ble_eq_true rfl, Nat.le_of_ble_eq_true rfl⟩ ⟨rfl, rfl⟩ ⟨Nat.zero_le _, Nat.zero_le _⟩ dX10_folder_84 ?_
        exact g_iretV hx hR 87 dX10_folder_87 ⟨Nat.le_of_ble_eq_true rfl, Nat.le_of_ble_eq_true rfl⟩ ⟨_, (Option.some.inj hr).symm, rfl, rfl⟩
      · have hr := (if_neg hc_1408).symm.trans hr
        by_cases hc_1409 : p2 = 2
        · have hr := (if_pos hc_1409).symm.trans hr
          refine g_tableIn hx 22 88 dX10_folder_22 (by rw [hc_1409]; decide) (by rw [hc_1409]; decide) (by rw [hc_1409]; rfl) (by decide) ?_
          refine g_aload_n hx 88 (i := 0) 0 dX10_folder_88 rfl rfl ?_
          refine g_get hx 89 (C := RX10) (T := TX10) (N := 11) 6 (.ref (B + 332)) (pW σ B ae M 0 (by decide)) rfl (by decide) rfl fl_X10_50 dX10_folder_89 ?_
          refine g_get hx 92 (C := RX8) (T := TX8) (N := 15) 6 (.ref (B + 332 + 5)) (pW_st9 σ B ae M 0 (by decide)) rfl (by decide) rfl fl_X10_138 dX10_folder_92 ?_
          refine g_iload_n hx 95 (i := 1) 1 dX10_folder_95 rfl rfl ?_
          refine g_callVr hx (k_get l g (st_l2 (pW_st9 σ B ae M)) (by decide) p1) lk_X10_165 ar_Ln_get (st_l2 (pW_st9 σ B ae M)).1 (T := TX2) (N := 2) rfl (As := [.int p1]) (rest := []) rfl (Nat.le_of_ble_eq_true rfl) ⟨Nat.le_of_ble_eq_true rfl, Nat.le_of_ble_eq_true rfl⟩ ⟨rfl, rfl⟩ ⟨Nat.zero_le _, Nat.zero_le _⟩ dX10_folder_96 ?_
          exact g_iretV hx hR 99 dX10_folder_99 ⟨Nat.le_of_ble_eq_true rfl, Nat.le_of_ble_eq_true rfl⟩ ⟨_, (Option.some.inj hr).symm, rfl, rfl⟩
        · have hr := (if_neg hc_1409).symm.trans hr
          by_cases hc_1410 : p2 = 3
          · have hr := (if_pos hc_1410).symm.trans hr
            refine g_tableIn hx 22 100 dX10_folder_22 (by rw [hc_1410]; decide) (by rw [hc_1410]; decide) (by rw [hc_1410]; rfl) (by decide) ?_
            refine g_aload_n hx 100 (i := 0) 0 dX10_folder_100 rfl rfl ?_
            refine g_get hx 101 (C := RX10) (T := TX10) (N := 11) 6 (.ref (B + 332)) (pW σ B ae M 0 (by decide)) rfl (by decide) rfl fl_X10_50 dX10_folder_101 ?_
            refine g_iload_n hx 104 (i := 1) 1 dX10_folder_104 rfl rfl ?_
            refine g_callVr hx (MG.ar9 (w := M) (c_St_whereabouts l g (putW σ B ae M) (B + 332) (M.1 9) p1 rfl)) lk_X10_183 ar_St_whereabouts (pW_st9 σ B ae M 0 (by decide)) (T := TX8) (N := 15) rfl (As := [.int p1]) (rest := []) rfl (Nat.le_of_ble_eq_true rfl) ⟨Nat.le_of_ble_eq_true rfl, Nat.le_of_ble_eq_true rfl⟩ ⟨rfl, rfl⟩ ⟨Nat.zero_le _, Nat.zero_le _⟩ dX10_folder_105 ?_
            exact g_iretV hx hR 108 dX10_folder_108 ⟨Nat.le_of_ble_eq_true rfl, Nat.le_of_ble_eq_true rfl⟩ ⟨_, (Option.some.inj hr).symm, rfl, rfl⟩
          · have hr := (if_neg hc_1410).symm.trans hr
            by_cases hc_1411 : p2 = 4
            · have hr := (if_pos hc_1411).symm.trans hr
              refine g_tableIn hx 22 109 dX10_folder_22 (by rw [hc_1411]; decide) (by rw [hc_1411]; decide) (by rw [hc_1411]; rfl) (by decide) ?_
              refine g_aload_n hx 109 (i := 0) 0 dX10_folder_109 rfl rfl ?_
              refine g_get hx 110 (C := RX10) (T := TX10) (N := 11) 6 (.ref (B + 332)) (pW σ B ae M 0 (by decide)) rfl (by decide) rfl fl_X10_50 dX10_folder_110 ?_
              refine g_get hx 113 (C := RX8) (T := TX8) (N := 15) 13 (.ref (B + 332 + 24)) (pW_st9 σ B ae M 0 (by decide)) rfl (by decide) rfl fl_X10_148 dX10_folder_113 ?_
              refine g_get hx 116 (C := RX7) (T := TX7) (N := 4) 1 (.ref (B + 332 + 27)) (pW_st9 σ B ae M 24 (by decide)) rfl (by decide) rfl fl_X10_186 dX10_folder_116 ?_
              refine g_iload_n hx 119 (i := 1) 1 dX10_folder_119 rfl rfl ?_
              refine g_callVr hx (k_countOf l g (st_l12 (pW_st9 σ B ae M)) (by decide) p1) lk_X10_141 ar_Ln_countOf (st_l12 (pW_st9 σ B ae M)).1 (T := TX2) (N := 2) rfl (As := [.int p1]) (rest := []) rfl (Nat.le_of_ble_eq_true rfl) ⟨Nat.le_of_ble_eq_true rfl, Nat.le_of_ble_eq_true rfl⟩ ⟨rfl, rfl⟩ ⟨Nat.zero_le _, Nat.zero_le _⟩ dX10_folder_120 ?_
              exact g_iretV hx hR 123 dX10_folder_123 ⟨Nat.le_of_ble_eq_true rfl, Nat.le_of_ble_eq_true rfl⟩ ⟨_, (Option.some.inj hr).symm, rfl, rfl⟩
            · have hr := (if_neg hc_1411).symm.trans hr
              by_cases hc_1412 : p2 = 5
              · have hr := (if_pos hc_1412).symm.trans hr
                refine g_tableIn hx 22 124 dX10_folder_22 (by rw [hc_1412]; decide) (by rw [hc_1412]; decide) (by rw [hc_1412]; rfl) (by decide) ?_
                refine g_aload_n hx 124 (i := 0) 0 dX10_folder_124 rfl rfl ?_
                refine g_get hx 125 (C := RX10) (T := TX10) (N := 11) 6 (.ref (B + 332)) (pW σ B ae M 0 (by decide)) rfl (by decide) rfl fl_X10_50 dX10_folder_125 ?_
                refine g_get hx 128 (C := RX8) (T := TX8) (N := 15) 8 (.ref (B + 332 + 9)) (pW_st9 σ B ae M 0 (by decide)) rfl (by decide) rfl fl_X10_187 dX10_folder_128 ?_
                refine g_iload_n hx 131 (i := 1) 1 dX10_folder_131 rfl rfl ?_
                refine g_callVr hx (k_get l g (st_l4 (pW_st9 σ B ae M)) (by decide) p1) lk_X10_165 ar_Ln_get (st_l4 (pW_st9 σ B ae M)).1 (T := TX2) (N := 2) rfl (As := [.int p1]) (rest := []) rfl (Nat.le_of_ble_eq_true rfl) ⟨Nat.le_of_ble_eq_true rfl, Nat.le_of_ble_eq_true rfl⟩ ⟨rfl, rfl⟩ ⟨Nat.zero_le _, Nat.zero_le _⟩ dX10_folder_132 ?_
                exact g_iretV hx hR 135 dX10_folder_135 ⟨Nat.le_of_ble_eq_true rfl, Nat.le_of_ble_eq_true rfl⟩ ⟨_, (Option.some.inj hr).symm, rfl, rfl⟩
              · have hr := (if_neg hc_1412).symm.trans hr
                by_cases hc_1413 : p2 = 6
                · have hr := (if_pos hc_1413).symm.trans hr
                  refine g_tableIn hx 22 136 dX10_folder_22 (by rw [hc_1413]; decide) (by rw [hc_1413]; decide) (by rw [hc_1413]; rfl) (by decide) ?_
                  refine g_aload_n hx 136 (i := 0) 0 dX10_folder_136 rfl rfl ?_
                  refine g_get hx 137 (C := RX10) (T := TX10) (N := 11) 6 (.ref (B + 332)) (pW σ B ae M 0 (by decide)) rfl (by decide) rfl fl_X10_50 dX10_folder_137 ?_
                  refine g_iload_n hx 140 (i := 1) 1 dX10_folder_140 rfl rfl ?_
                  refine g_callVr hx (MG.ar9 (w := M) (c_St_isClosed l g (putW σ B ae M) (B + 332) (M.1 9) p1 rfl)) lk_X10_190 ar_St_isClosed (pW_st9 σ B ae M 0 (by decide)) (T := TX8) (N := 15) rfl (As := [.int p1]) (rest := []) rfl (Nat.le_of_ble_eq_true rfl) ⟨Nat.le_of_ble_eq_true rfl, Nat.le_of_ble_eq_true rfl⟩ ⟨rfl, rfl⟩ ⟨Nat.zero_le _, Nat.zero_le _⟩ dX10_folder_141 ?_
                  obtain ⟨b_1415, eb_1415, hr⟩ := bind_e hr
                  have rest : G X (putW σ B ae M) 0 0 152 [(0, .ref B), (1, .int p1), (2, .int p2)] [.int b_1415] := by
                    exact g_iretV hx hR 152 dX10_folder_152 ⟨Nat.le_of_ble_eq_true rfl, Nat.le_of_ble_eq_true rfl⟩ ⟨_, (Option.some.inj hr).symm, rfl, rfl⟩
                  clear hr
                  have hr := eb_1415
                  refine g_if_eq hx 144 151 dX10_folder_144 (by decide) (fun hc_1414 => ?_) (fun hc_1414 => ?_)
                  · have hr := (if_pos hc_1414).symm.trans hr
                    refine g_iconst hx 151 (0) dX10_folder_151 rfl ?_
                    exact g_nmi (Option.some.inj hr).symm rest
                  · have hr := (if_neg hc_1414).symm.trans hr
                    refine g_iconst hx 147 (1) dX10_folder_147 rfl ?_
                    refine g_goto hx 148 152 dX10_folder_148 (by decide) ?_
                    exact g_nmi (Option.some.inj hr).symm rest
                · have hr := (if_neg hc_1413).symm.trans hr
                  refine g_tableOut hx 22 153 dX10_folder_22 (sw_out (fun c h1 h2 hq => by have hc : c = 0 ∨ c = 1 ∨ c = 2 ∨ c = 3 ∨ c = 4 ∨ c = 5 ∨ c = 6 := (by omega); rcases hc with rfl | rfl | rfl | rfl | rfl | rfl | rfl <;> first | exact lv_neT hc_1407 rfl hq | exact lv_neT hc_1408 rfl hq | exact lv_neT hc_1409 rfl hq | exact lv_neT hc_1410 rfl hq | exact lv_neT hc_1411 rfl hq | exact lv_neT hc_1412 rfl hq | exact lv_neT hc_1413 rfl hq)) (by decide) ?_
                  exact g_throwS hx hR hl 153 (cls := iae) xk_X10_89 xi_iae (hC.1.2.2 _ (List.mem_of_getElem? (i := 4) rfl)) (fun U hU => (hC.2.2.1 U hU).1) xo_X10_89_93 (by decide +kernel) (fun U hU => ⟨(hC.2.2.1 U hU).2.2.1, (hC.2.2.1 U hU).2.2.2⟩) dX10_folder_153 dX10_folder_156 dX10_folder_157 dX10_folder_159 dX10_folder_162 (Nat.le_of_ble_eq_true rfl) ⟨Nat.le_of_ble_eq_true rfl, Nat.le_of_ble_eq_true rfl⟩ ⟨Nat.le_of_ble_eq_true rfl, Nat.le_of_ble_eq_true rfl⟩ ⟨Nat.le_of_ble_eq_true rfl, Nat.le_of_ble_eq_true rfl⟩ (fun z => ⟨_, (Option.some.inj hr).symm, rfl, rfl⟩)
  · have hr := (if_pos hc_1406).symm.trans hr
    exact g_throwN hx hR hl 11 (cls := nse) xk_X10_175 xi_nse (hC.1.2.2 _ (List.mem_of_getElem? (i := 3) rfl)) (fun U hU => (hC.2.2.1 U hU).2.1) xo_X10_175_179 (by decide +kernel) (fun U hU => ⟨(hC.2.2.1 U hU).2.2.1, (hC.2.2.1 U hU).2.2.2⟩) dX10_folder_11 dX10_folder_14 dX10_folder_15 dX10_folder_17 dX10_folder_20 (Nat.le_of_ble_eq_true rfl) ⟨Nat.le_of_ble_eq_true rfl, Nat.le_of_ble_eq_true rfl⟩ ⟨Nat.le_of_ble_eq_true rfl, Nat.le_of_ble_eq_true rfl⟩ ⟨Nat.le_of_ble_eq_true rfl, Nat.le_of_ble_eq_true rfl⟩ (fun z => ⟨_, (Option.some.inj hr).symm, rfl, rfl⟩)
def SA_marked (M : WM) (p1 : Int32) : Int32 := lnpl ((M.1 9).2 0) p1
set_option maxRecDepth 100000 in
set_option maxHeartbeats 4000000 in
theorem c_SA_marked {ad ae : Nat → Nat} (l : Launch) (g : Gl) (hC : KAll g ad ae) (σ : Hp) (B : Nat) (M : WM) (p1 : Int32) {r : Int32} (hr : SA_marked M p1 = r) : MG l g md_SA_marked [.ref B, .int p1] (putW σ B ae M) (rs (some (.int r)) (putW σ B ae M)) := by
  refine MG.intro (by decide +kernel) (Nat.le_of_ble_eq_true rfl) (fun X hx hR _ => ?_)
  unfold SA_marked at hr
  refine g_ls [0, 1] [(0, .ref B), (1, .int p1)] rfl ?_
  refine g_aload_n hx 0 (i := 0) 0 dX10_marked_0 rfl rfl ?_
  refine g_get hx 1 (C := RX10) (T := TX10) (N := 11) 6 (.ref (B + 332)) (pW σ B ae M 0 (by decide)) rfl (by decide) rfl fl_X10_50 dX10_marked_1 ?_
  refine g_get hx 4 (C := RX8) (T := TX8) (N := 15) 4 (.ref (B + 332 + 1)) (pW_st9 σ B ae M 0 (by decide)) rfl (by decide) rfl fl_X10_111 dX10_marked_4 ?_
  refine g_iload_n hx 7 (i := 1) 1 dX10_marked_7 rfl rfl ?_
  refine g_callVr hx (k_placeOf l g (st_l0 (pW_st9 σ B ae M)) (by decide) p1) lk_X10_195 ar_Ln_placeOf (st_l0 (pW_st9 σ B ae M)).1 (T := TX2) (N := 2) rfl (As := [.int p1]) (rest := []) rfl (Nat.le_of_ble_eq_true rfl) ⟨Nat.le_of_ble_eq_true rfl, Nat.le_of_ble_eq_true rfl⟩ ⟨rfl, rfl⟩ ⟨Nat.zero_le _, Nat.zero_le _⟩ dX10_marked_8 ?_
  exact g_iret hx hR 11 dX10_marked_11 ⟨by rw [← hr] <;> rfl, rfl⟩
def SA_at (M : WM) (p1 : Int32) : Int32 := lnget ((M.1 9).2 7) p1
set_option maxRecDepth 100000 in
set_option maxHeartbeats 4000000 in
theorem c_SA_at {ad ae : Nat → Nat} (l : Launch) (g : Gl) (hC : KAll g ad ae) (σ : Hp) (B : Nat) (M : WM) (p1 : Int32) {r : Int32} (hr : SA_at M p1 = r) : MG l g md_SA_at [.ref B, .int p1] (putW σ B ae M) (rs (some (.int r)) (putW σ B ae M)) := by
  refine MG.intro (by decide +kernel) (Nat.le_of_ble_eq_true rfl) (fun X hx hR _ => ?_)
  unfold SA_at at hr
  refine g_ls [0, 1] [(0, .ref B), (1, .int p1)] rfl ?_
  refine g_aload_n hx 0 (i := 0) 0 dX10_at_0 rfl rfl ?_
  refine g_get hx 1 (C := RX10) (T := TX10) (N := 11) 6 (.ref (B + 332)) (pW σ B ae M 0 (by decide)) rfl (by decide) rfl fl_X10_50 dX10_at_1 ?_
  refine g_get hx 4 (C := RX8) (T := TX8) (N := 15) 11 (.ref (B + 332 + 15)) (pW_st9 σ B ae M 0 (by decide)) rfl (by decide) rfl fl_X10_129 dX10_at_4 ?_
  refine g_get hx 7 (C := RX5) (T := TX5) (N := 4) 0 (.ref (B + 332 + 16)) (pW_st9 σ B ae M 15 (by decide)) rfl (by decide) rfl fl_X10_133 dX10_at_7 ?_
  refine g_iload_n hx 10 (i := 1) 1 dX10_at_10 rfl rfl ?_
  refine g_callVr hx (k_get l g (st_l7 (pW_st9 σ B ae M)) (by decide) p1) lk_X10_165 ar_Ln_get (st_l7 (pW_st9 σ B ae M)).1 (T := TX2) (N := 2) rfl (As := [.int p1]) (rest := []) rfl (Nat.le_of_ble_eq_true rfl) ⟨Nat.le_of_ble_eq_true rfl, Nat.le_of_ble_eq_true rfl⟩ ⟨rfl, rfl⟩ ⟨Nat.zero_le _, Nat.zero_le _⟩ dX10_at_11 ?_
  exact g_iret hx hR 14 dX10_at_14 ⟨by rw [← hr] <;> rfl, rfl⟩
def SA_reader (M : WM) (p1 p2 : Int32) : Option (Nat ⊕ (Int32)) := if St_hasReader (M.1 9) p1 = 0 then (some (.inl 1)) else (if p2 = 0 then (some (.inr (lnget ((M.1 9).2 5) p1))) else (if p2 = 1 then (some (.inr (lncnt ((M.1 9).2 11) p1))) else (if p2 = 2 then (some (.inr (lnget ((M.1 9).2 6) p1))) else (some (.inl 0)))))
set_option maxRecDepth 100000 in
set_option maxHeartbeats 4000000 in
theorem c_SA_reader {ad ae : Nat → Nat} (l : Launch) (g : Gl) (hC : KAll g ad ae) (hl : l.stackTraces = false) (σ : Hp) (B : Nat) (M : WM) (p1 p2 : Int32) {r : Nat ⊕ (Int32)} (hr : SA_reader M p1 p2 = some r) : VG l g md_SA_reader [.ref B, .int p1, .int p2] (putW σ B ae M) (fun v1 σ1 => ∃ u, r = .inr u ∧ v1 = some (.int u) ∧ σ1 = putW σ B ae M) (pxW r (putW σ B ae M).2) := by
  refine VG.intro (by decide +kernel) (Nat.le_of_ble_eq_true rfl) (fun X hx hR => ?_)
  unfold SA_reader at hr
  refine g_ls [0, 1, 2] [(0, .ref B), (1, .int p1), (2, .int p2)] rfl ?_
  refine g_aload_n hx 0 (i := 0) 0 dX10_reader_0 rfl rfl ?_
  refine g_get hx 1 (C := RX10) (T := TX10) (N := 11) 6 (.ref (B + 332)) (pW σ B ae M 0 (by decide)) rfl (by decide) rfl fl_X10_50 dX10_reader_1 ?_
  refine g_iload_n hx 4 (i := 1) 1 dX10_reader_4 rfl rfl ?_
  refine g_callVr hx (MG.ar9 (w := M) (c_St_hasReader l g (putW σ B ae M) (B + 332) (M.1 9) p1 rfl)) lk_X10_198 ar_St_hasReader (pW_st9 σ B ae M 0 (by decide)) (T := TX8) (N := 15) rfl (As := [.int p1]) (rest := []) rfl (Nat.le_of_ble_eq_true rfl) ⟨Nat.le_of_ble_eq_true rfl, Nat.le_of_ble_eq_true rfl⟩ ⟨rfl, rfl⟩ ⟨Nat.zero_le _, Nat.zero_le _⟩ dX10_reader_5 ?_
  refine g_if_ne hx 8 21 dX10_reader_8 (by decide) (fun hc_1416 => ?_) (fun hc_1416 => ?_)
  · have hr := (if_neg hc_1416).symm.trans hr
    refine g_iload_n hx 21 (i := 2) 2 dX10_reader_21 rfl rfl ?_
    by_cases hc_1417 : p2 = 0
    · have hr := (if_pos hc_1417).symm.trans hr
      refine g_tableIn hx 22 48 dX10_reader_22 (by rw [hc_1417]; decide) (by rw [hc_1417]; decide) (by rw [hc_1417]; rfl) (by decide) ?_
      refine g_aload_n hx 48 (i := 0) 0 dX10_reader_48 rfl rfl ?_
      refine g_get hx 49 (C := RX10) (T := TX10) (N := 11) 6 (.ref (B + 332)) (pW σ B ae M 0 (by decide)) rfl (by decide) rfl fl_X10_50 dX10_reader_49 ?_
      refine g_get hx 52 (C := RX8) (T := TX8) (N := 15) 9 (.ref (B + 332 + 11)) (pW_st9 σ B ae M 0 (by decide)) rfl (by decide) rfl fl_X10_123 dX10_reader_52 ?_
      refine g_iload_n hx 55 (i := 1) 1 dX10_reader_55 rfl rfl ?_
      refine g_callVr hx (k_get l g (st_l5 (pW_st9 σ B ae M)) (by decide) p1) lk_X10_165 ar_Ln_get (st_l5 (pW_st9 σ B ae M)).1 (T := TX2) (N := 2) rfl (As := [.int p1]) (rest := []) rfl (Nat.le_of_ble_eq_true rfl) ⟨Nat.le_of_ble_eq_true rfl, Nat.le_of_ble_eq_true rfl⟩ ⟨rfl, rfl⟩ ⟨Nat.zero_le _, Nat.zero_le _⟩ dX10_reader_56 ?_
      exact g_iretV hx hR 59 dX10_reader_59 ⟨Nat.le_of_ble_eq_true rfl, Nat.le_of_ble_eq_true rfl⟩ ⟨_, (Option.some.inj hr).symm, rfl, rfl⟩
    · have hr := (if_neg hc_1417).symm.trans hr
      by_cases hc_1418 : p2 = 1
      · have hr := (if_pos hc_1418).symm.trans hr
        refine g_tableIn hx 22 60 dX10_reader_22 (by rw [hc_1418]; decide) (by rw [hc_1418]; decide) (by rw [hc_1418]; rfl) (by decide) ?_
        refine g_aload_n hx 60 (i := 0) 0 dX10_reader_60 rfl rfl ?_
        refine g_get hx 61 (C := RX10) (T := TX10) (N := 11) 6 (.ref (B + 332)) (pW σ B ae M 0 (by decide)) rfl (by decide) rfl fl_X10_50 dX10_reader_61 ?_
        refine g_get hx 64 (C := RX8) (T := TX8) (N := 15) 13 (.ref (B + 332 + 24)) (pW_st9 σ B ae M 0 (by decide)) rfl (by decide) rfl fl_X10_148 dX10_reader_64 ?_
        refine g_get hx 67 (C := RX7) (T := TX7) (N := 4) 0 (.ref (B + 332 + 25)) (pW_st9 σ B ae M 24 (by decide)) rfl (by decide) rfl fl_X10_203 dX10_reader_67 ?_
        refine g_iload_n hx 70 (i := 1) 1 dX10_reader_70 rfl rfl ?_
        refine g_callVr hx (k_countOf l g (st_l11 (pW_st9 σ B ae M)) (by decide) p1) lk_X10_141 ar_Ln_countOf (st_l11 (pW_st9 σ B ae M)).1 (T := TX2) (N := 2) rfl (As := [.int p1]) (rest := []) rfl (Nat.le_of_ble_eq_true rfl) ⟨Nat.le_of_ble_eq_true rfl, Nat.le_of_ble_eq_true rfl⟩ ⟨rfl, rfl⟩ ⟨Nat.zero_le _, Nat.zero_le _⟩ dX10_reader_71 ?_
        exact g_iretV hx hR 74 dX10_reader_74 ⟨Nat.le_of_ble_eq_true rfl, Nat.le_of_ble_eq_true rfl⟩ ⟨_, (Option.some.inj hr).symm, rfl, rfl⟩
      · have hr := (if_neg hc_1418).symm.trans hr
        by_cases hc_1419 : p2 = 2
        · have hr := (if_pos hc_1419).symm.trans hr
          refine g_tableIn hx 22 75 dX10_reader_22 (by rw [hc_1419]; decide) (by rw [hc_1419]; decide) (by rw [hc_1419]; rfl) (by decide) ?_
          refine g_aload_n hx 75 (i := 0) 0 dX10_reader_75 rfl rfl ?_
          refine g_get hx 76 (C := RX10) (T := TX10) (N := 11) 6 (.ref (B + 332)) (pW σ B ae M 0 (by decide)) rfl (by decide) rfl fl_X10_50 dX10_reader_76 ?_
          refine g_get hx 79 (C := RX8) (T := TX8) (N := 15) 10 (.ref (B + 332 + 13)) (pW_st9 σ B ae M 0 (by decide)) rfl (by decide) rfl fl_X10_206 dX10_reader_79 ?_
          refine g_iload_n hx 82 (i := 1) 1 dX10_reader_82 rfl rfl ?_
          refine g_callVr hx (k_get l g (st_l6 (pW_st9 σ B ae M)) (by decide) p1) lk_X10_165 ar_Ln_get (st_l6 (pW_st9 σ B ae M)).1 (T := TX2) (N := 2) rfl (As := [.int p1]) (rest := []) rfl (Nat.le_of_ble_eq_true rfl) ⟨Nat.le_of_ble_eq_true rfl, Nat.le_of_ble_eq_true rfl⟩ ⟨rfl, rfl⟩ ⟨Nat.zero_le _, Nat.zero_le _⟩ dX10_reader_83 ?_
          exact g_iretV hx hR 86 dX10_reader_86 ⟨Nat.le_of_ble_eq_true rfl, Nat.le_of_ble_eq_true rfl⟩ ⟨_, (Option.some.inj hr).symm, rfl, rfl⟩
        · have hr := (if_neg hc_1419).symm.trans hr
          refine g_tableOut hx 22 87 dX10_reader_22 (sw_out (fun c h1 h2 hq => by have hc : c = 0 ∨ c = 1 ∨ c = 2 := (by omega); rcases hc with rfl | rfl | rfl <;> first | exact lv_neT hc_1417 rfl hq | exact lv_neT hc_1418 rfl hq | exact lv_neT hc_1419 rfl hq)) (by decide) ?_
          exact g_throwS hx hR hl 87 (cls := iae) xk_X10_89 xi_iae (hC.1.2.2 _ (List.mem_of_getElem? (i := 6) rfl)) (fun U hU => (hC.2.2.1 U hU).1) xo_X10_89_93 (by decide +kernel) (fun U hU => ⟨(hC.2.2.1 U hU).2.2.1, (hC.2.2.1 U hU).2.2.2⟩) dX10_reader_87 dX10_reader_90 dX10_reader_91 dX10_reader_93 dX10_reader_96 (Nat.le_of_ble_eq_true rfl) ⟨Nat.le_of_ble_eq_true rfl, Nat.le_of_ble_eq_true rfl⟩ ⟨Nat.le_of_ble_eq_true rfl, Nat.le_of_ble_eq_true rfl⟩ ⟨Nat.le_of_ble_eq_true rfl, Nat.le_of_ble_eq_true rfl⟩ (fun z => ⟨_, (Option.some.inj hr).symm, rfl, rfl⟩)
  · have hr := (if_pos hc_1416).symm.trans hr
    exact g_throwN hx hR hl 11 (cls := nse) xk_X10_175 xi_nse (hC.1.2.2 _ (List.mem_of_getElem? (i := 5) rfl)) (fun U hU => (hC.2.2.1 U hU).2.1) xo_X10_175_179 (by decide +kernel) (fun U hU => ⟨(hC.2.2.1 U hU).2.2.1, (hC.2.2.1 U hU).2.2.2⟩) dX10_reader_11 dX10_reader_14 dX10_reader_15 dX10_reader_17 dX10_reader_20 (Nat.le_of_ble_eq_true rfl) ⟨Nat.le_of_ble_eq_true rfl, Nat.le_of_ble_eq_true rfl⟩ ⟨Nat.le_of_ble_eq_true rfl, Nat.le_of_ble_eq_true rfl⟩ ⟨Nat.le_of_ble_eq_true rfl, Nat.le_of_ble_eq_true rfl⟩ (fun z => ⟨_, (Option.some.inj hr).symm, rfl, rfl⟩)
def SA_waiting (M : WM) (p1 p2 : Int32) : Option (Nat ⊕ (Int32)) := if p2 < 0 then (some (.inl 0)) else (if p2 ≤ 4 then (if p2 = 0 then (some (.inr (lnget ((M.1 9).2 11) p1))) else (if p2 = 1 then (some (.inr (lnget ((M.1 9).2 12) p1))) else (if p2 = 2 then (some (.inr (lnget ((M.1 9).2 13) p1))) else (if p2 = 3 then (some (.inr (lnget ((M.1 9).2 14) p1))) else (Option.bind (if Sl_has (M.1 9) p1 = 0 then (some (-1)) else (some (St_idleness (M.1 9) p1))) fun b_1427 => some (.inr b_1427)))))) else (some (.inl 0)))
set_option maxRecDepth 100000 in
set_option maxHeartbeats 4000000 in
theorem c_SA_waiting {ad ae : Nat → Nat} (l : Launch) (g : Gl) (hC : KAll g ad ae) (hl : l.stackTraces = false) (σ : Hp) (B : Nat) (M : WM) (p1 p2 : Int32) {r : Nat ⊕ (Int32)} (hr : SA_waiting M p1 p2 = some r) : VG l g md_SA_waiting [.ref B, .int p1, .int p2] (putW σ B ae M) (fun v1 σ1 => ∃ u, r = .inr u ∧ v1 = some (.int u) ∧ σ1 = putW σ B ae M) (pxW r (putW σ B ae M).2) := by
  refine VG.intro (by decide +kernel) (Nat.le_of_ble_eq_true rfl) (fun X hx hR => ?_)
  unfold SA_waiting at hr
  refine g_ls [0, 1, 2] [(0, .ref B), (1, .int p1), (2, .int p2)] rfl ?_
  refine g_iload_n hx 0 (i := 2) 2 dX10_waiting_0 rfl rfl ?_
  refine g_if_lt hx 1 9 dX10_waiting_1 (by decide) (fun hc_1420 => ?_) (fun hc_1420 => ?_)
  · have hr := (if_pos hc_1420).symm.trans hr
    exact g_throwS hx hR hl 9 (cls := iae) xk_X10_89 xi_iae (hC.1.2.2 _ (List.mem_of_getElem? (i := 7) rfl)) (fun U hU => (hC.2.2.1 U hU).1) xo_X10_89_93 (by decide +kernel) (fun U hU => ⟨(hC.2.2.1 U hU).2.2.1, (hC.2.2.1 U hU).2.2.2⟩) dX10_waiting_9 dX10_waiting_12 dX10_waiting_13 dX10_waiting_15 dX10_waiting_18 (Nat.le_of_ble_eq_true rfl) ⟨Nat.le_of_ble_eq_true rfl, Nat.le_of_ble_eq_true rfl⟩ ⟨Nat.le_of_ble_eq_true rfl, Nat.le_of_ble_eq_true rfl⟩ ⟨Nat.le_of_ble_eq_true rfl, Nat.le_of_ble_eq_true rfl⟩ (fun z => ⟨_, (Option.some.inj hr).symm, rfl, rfl⟩)
  · have hr := (if_neg hc_1420).symm.trans hr
    refine g_iload_n hx 4 (i := 2) 2 dX10_waiting_4 rfl rfl ?_
    refine g_iconst hx 5 (4) dX10_waiting_5 rfl ?_
    refine g_icmp_le hx 6 19 dX10_waiting_6 (by decide) (fun hc_1421 => ?_) (fun hc_1421 => ?_)
    · have hr := (if_pos hc_1421).symm.trans hr
      refine g_iload_n hx 19 (i := 2) 2 dX10_waiting_19 rfl rfl ?_
      by_cases hc_1422 : p2 = 0
      · have hr := (if_pos hc_1422).symm.trans hr
        refine g_tableIn hx 20 52 dX10_waiting_20 (by rw [hc_1422]; decide) (by rw [hc_1422]; decide) (by rw [hc_1422]; rfl) (by decide) ?_
        refine g_aload_n hx 52 (i := 0) 0 dX10_waiting_52 rfl rfl ?_
        refine g_get hx 53 (C := RX10) (T := TX10) (N := 11) 6 (.ref (B + 332)) (pW σ B ae M 0 (by decide)) rfl (by decide) rfl fl_X10_50 dX10_waiting_53 ?_
        refine g_get hx 56 (C := RX8) (T := TX8) (N := 15) 13 (.ref (B + 332 + 24)) (pW_st9 σ B ae M 0 (by decide)) rfl (by decide) rfl fl_X10_148 dX10_waiting_56 ?_
        refine g_get hx 59 (C := RX7) (T := TX7) (N := 4) 0 (.ref (B + 332 + 25)) (pW_st9 σ B ae M 24 (by decide)) rfl (by decide) rfl fl_X10_203 dX10_waiting_59 ?_
        refine g_iload_n hx 62 (i := 1) 1 dX10_waiting_62 rfl rfl ?_
        refine g_callVr hx (k_get l g (st_l11 (pW_st9 σ B ae M)) (by decide) p1) lk_X10_165 ar_Ln_get (st_l11 (pW_st9 σ B ae M)).1 (T := TX2) (N := 2) rfl (As := [.int p1]) (rest := []) rfl (Nat.le_of_ble_eq_true rfl) ⟨Nat.le_of_ble_eq_true rfl, Nat.le_of_ble_eq_true rfl⟩ ⟨rfl, rfl⟩ ⟨Nat.zero_le _, Nat.zero_le _⟩ dX10_waiting_63 ?_
        exact g_iretV hx hR 66 dX10_waiting_66 ⟨Nat.le_of_ble_eq_true rfl, Nat.le_of_ble_eq_true rfl⟩ ⟨_, (Option.some.inj hr).symm, rfl, rfl⟩
      · have hr := (if_neg hc_1422).symm.trans hr
        by_cases hc_1423 : p2 = 1
        · have hr := (if_pos hc_1423).symm.trans hr
          refine g_tableIn hx 20 67 dX10_waiting_20 (by rw [hc_1423]; decide) (by rw [hc_1423]; decide) (by rw [hc_1423]; rfl) (by decide) ?_
          refine g_aload_n hx 67 (i := 0) 0 dX10_waiting_67 rfl rfl ?_
          refine g_get hx 68 (C := RX10) (T := TX10) (N := 11) 6 (.ref (B + 332)) (pW σ B ae M 0 (by decide)) rfl (by decide) rfl fl_X10_50 dX10_waiting_68 ?_
          refine g_get hx 71 (C := RX8) (T := TX8) (N := 15) 13 (.ref (B + 332 + 24)) (pW_st9 σ B ae M 0 (by decide)) rfl (by decide) rfl fl_X10_148 dX10_waiting_71 ?_
          refine g_get hx 74 (C := RX7) (T := TX7) (N := 4) 1 (.ref (B + 332 + 27)) (pW_st9 σ B ae M 24 (by decide)) rfl (by decide) rfl fl_X10_186 dX10_waiting_74 ?_
          refine g_iload_n hx 77 (i := 1) 1 dX10_waiting_77 rfl rfl ?_
          refine g_callVr hx (k_get l g (st_l12 (pW_st9 σ B ae M)) (by decide) p1) lk_X10_165 ar_Ln_get (st_l12 (pW_st9 σ B ae M)).1 (T := TX2) (N := 2) rfl (As := [.int p1]) (rest := []) rfl (Nat.le_of_ble_eq_true rfl) ⟨Nat.le_of_ble_eq_true rfl, Nat.le_of_ble_eq_true rfl⟩ ⟨rfl, rfl⟩ ⟨Nat.zero_le _, Nat.zero_le _⟩ dX10_waiting_78 ?_
          exact g_iretV hx hR 81 dX10_waiting_81 ⟨Nat.le_of_ble_eq_true rfl, Nat.le_of_ble_eq_true rfl⟩ ⟨_, (Option.some.inj hr).symm, rfl, rfl⟩
        · have hr := (if_neg hc_1423).symm.trans hr
          by_cases hc_1424 : p2 = 2
          · have hr := (if_pos hc_1424).symm.trans hr
            refine g_tableIn hx 20 82 dX10_waiting_20 (by rw [hc_1424]; decide) (by rw [hc_1424]; decide) (by rw [hc_1424]; rfl) (by decide) ?_
            refine g_aload_n hx 82 (i := 0) 0 dX10_waiting_82 rfl rfl ?_
            refine g_get hx 83 (C := RX10) (T := TX10) (N := 11) 6 (.ref (B + 332)) (pW σ B ae M 0 (by decide)) rfl (by decide) rfl fl_X10_50 dX10_waiting_83 ?_
            refine g_get hx 86 (C := RX8) (T := TX8) (N := 15) 13 (.ref (B + 332 + 24)) (pW_st9 σ B ae M 0 (by decide)) rfl (by decide) rfl fl_X10_148 dX10_waiting_86 ?_
            refine g_get hx 89 (C := RX7) (T := TX7) (N := 4) 2 (.ref (B + 332 + 29)) (pW_st9 σ B ae M 24 (by decide)) rfl (by decide) rfl fl_X10_213 dX10_waiting_89 ?_
            refine g_iload_n hx 92 (i := 1) 1 dX10_waiting_92 rfl rfl ?_
            refine g_callVr hx (k_get l g (st_l13 (pW_st9 σ B ae M)) (by decide) p1) lk_X10_165 ar_Ln_get (st_l13 (pW_st9 σ B ae M)).1 (T := TX2) (N := 2) rfl (As := [.int p1]) (rest := []) rfl (Nat.le_of_ble_eq_true rfl) ⟨Nat.le_of_ble_eq_true rfl, Nat.le_of_ble_eq_true rfl⟩ ⟨rfl, rfl⟩ ⟨Nat.zero_le _, Nat.zero_le _⟩ dX10_waiting_93 ?_
            exact g_iretV hx hR 96 dX10_waiting_96 ⟨Nat.le_of_ble_eq_true rfl, Nat.le_of_ble_eq_true rfl⟩ ⟨_, (Option.some.inj hr).symm, rfl, rfl⟩
          · have hr := (if_neg hc_1424).symm.trans hr
            by_cases hc_1425 : p2 = 3
            · have hr := (if_pos hc_1425).symm.trans hr
              refine g_tableIn hx 20 97 dX10_waiting_20 (by rw [hc_1425]; decide) (by rw [hc_1425]; decide) (by rw [hc_1425]; rfl) (by decide) ?_
              refine g_aload_n hx 97 (i := 0) 0 dX10_waiting_97 rfl rfl ?_
              refine g_get hx 98 (C := RX10) (T := TX10) (N := 11) 6 (.ref (B + 332)) (pW σ B ae M 0 (by decide)) rfl (by decide) rfl fl_X10_50 dX10_waiting_98 ?_
              refine g_get hx 101 (C := RX8) (T := TX8) (N := 15) 13 (.ref (B + 332 + 24)) (pW_st9 σ B ae M 0 (by decide)) rfl (by decide) rfl fl_X10_148 dX10_waiting_101 ?_
              refine g_get hx 104 (C := RX7) (T := TX7) (N := 4) 3 (.ref (B + 332 + 31)) (pW_st9 σ B ae M 24 (by decide)) rfl (by decide) rfl fl_X10_216 dX10_waiting_104 ?_
              refine g_iload_n hx 107 (i := 1) 1 dX10_waiting_107 rfl rfl ?_
              refine g_callVr hx (k_get l g (st_l14 (pW_st9 σ B ae M)) (by decide) p1) lk_X10_165 ar_Ln_get (st_l14 (pW_st9 σ B ae M)).1 (T := TX2) (N := 2) rfl (As := [.int p1]) (rest := []) rfl (Nat.le_of_ble_eq_true rfl) ⟨Nat.le_of_ble_eq_true rfl, Nat.le_of_ble_eq_true rfl⟩ ⟨rfl, rfl⟩ ⟨Nat.zero_le _, Nat.zero_le _⟩ dX10_waiting_108 ?_
              exact g_iretV hx hR 111 dX10_waiting_111 ⟨Nat.le_of_ble_eq_true rfl, Nat.le_of_ble_eq_true rfl⟩ ⟨_, (Option.some.inj hr).symm, rfl, rfl⟩
            · have hr := (if_neg hc_1425).symm.trans hr
              refine g_tableOut hx 20 112 dX10_waiting_20 (sw_out (fun c h1 h2 hq => by have hc : c = 0 ∨ c = 1 ∨ c = 2 ∨ c = 3 := (by omega); rcases hc with rfl | rfl | rfl | rfl <;> first | exact lv_neT hc_1422 rfl hq | exact lv_neT hc_1423 rfl hq | exact lv_neT hc_1424 rfl hq | exact lv_neT hc_1425 rfl hq)) (by decide) ?_
              refine g_aload_n hx 112 (i := 0) 0 dX10_waiting_112 rfl rfl ?_
              refine g_get hx 113 (C := RX10) (T := TX10) (N := 11) 6 (.ref (B + 332)) (pW σ B ae M 0 (by decide)) rfl (by decide) rfl fl_X10_50 dX10_waiting_113 ?_
              refine g_get hx 116 (C := RX8) (T := TX8) (N := 15) 13 (.ref (B + 332 + 24)) (pW_st9 σ B ae M 0 (by decide)) rfl (by decide) rfl fl_X10_148 dX10_waiting_116 ?_
              refine g_iload_n hx 119 (i := 1) 1 dX10_waiting_119 rfl rfl ?_
              refine g_callVr hx (MG.ar9 (w := M) (c_Sl_has l g (putW σ B ae M) (B + 332) (M.1 9) p1 rfl)) lk_X10_219 ar_Sl_has (pW_st9 σ B ae M 24 (by decide)) (T := TX7) (N := 4) rfl (As := [.int p1]) (rest := []) rfl (Nat.le_of_ble_eq_true rfl) ⟨Nat.le_of_ble_eq_true rfl, Nat.le_of_ble_eq_true rfl⟩ ⟨rfl, rfl⟩ ⟨Nat.zero_le _, Nat.zero_le _⟩ dX10_waiting_120 ?_
              obtain ⟨b_1427, eb_1427, hr⟩ := bind_e hr
              have rest : G X (putW σ B ae M) 0 0 138 [(0, .ref B), (1, .int p1), (2, .int p2)] [.int b_1427] := by
                exact g_iretV hx hR 138 dX10_waiting_138 ⟨Nat.le_of_ble_eq_true rfl, Nat.le_of_ble_eq_true rfl⟩ ⟨_, (Option.some.inj hr).symm, rfl, rfl⟩
              clear hr
              have hr := eb_1427
              refine g_if_eq hx 123 137 dX10_waiting_123 (by decide) (fun hc_1426 => ?_) (fun hc_1426 => ?_)
              · have hr := (if_pos hc_1426).symm.trans hr
                refine g_iconst hx 137 (-1) dX10_waiting_137 rfl ?_
                exact g_nmi (Option.some.inj hr).symm rest
              · have hr := (if_neg hc_1426).symm.trans hr
                refine g_aload_n hx 126 (i := 0) 0 dX10_waiting_126 rfl rfl ?_
                refine g_get hx 127 (C := RX10) (T := TX10) (N := 11) 6 (.ref (B + 332)) (pW σ B ae M 0 (by decide)) rfl (by decide) rfl fl_X10_50 dX10_waiting_127 ?_
                refine g_iload_n hx 130 (i := 1) 1 dX10_waiting_130 rfl rfl ?_
                refine g_callVr hx (MG.ar9 (w := M) (c_St_idleness l g (putW σ B ae M) (B + 332) (M.1 9) p1 rfl)) lk_X10_222 ar_St_idleness (pW_st9 σ B ae M 0 (by decide)) (T := TX8) (N := 15) rfl (As := [.int p1]) (rest := []) rfl (Nat.le_of_ble_eq_true rfl) ⟨Nat.le_of_ble_eq_true rfl, Nat.le_of_ble_eq_true rfl⟩ ⟨rfl, rfl⟩ ⟨Nat.zero_le _, Nat.zero_le _⟩ dX10_waiting_131 ?_
                refine g_goto hx 134 138 dX10_waiting_134 (by decide) ?_
                exact g_nmi (Option.some.inj hr).symm rest
    · have hr := (if_neg hc_1421).symm.trans hr
      exact g_throwS hx hR hl 9 (cls := iae) xk_X10_89 xi_iae (hC.1.2.2 _ (List.mem_of_getElem? (i := 7) rfl)) (fun U hU => (hC.2.2.1 U hU).1) xo_X10_89_93 (by decide +kernel) (fun U hU => ⟨(hC.2.2.1 U hU).2.2.1, (hC.2.2.1 U hU).2.2.2⟩) dX10_waiting_9 dX10_waiting_12 dX10_waiting_13 dX10_waiting_15 dX10_waiting_18 (Nat.le_of_ble_eq_true rfl) ⟨Nat.le_of_ble_eq_true rfl, Nat.le_of_ble_eq_true rfl⟩ ⟨Nat.le_of_ble_eq_true rfl, Nat.le_of_ble_eq_true rfl⟩ ⟨Nat.le_of_ble_eq_true rfl, Nat.le_of_ble_eq_true rfl⟩ (fun z => ⟨_, (Option.some.inj hr).symm, rfl, rfl⟩)
def SA_gap (M : WM) : Option (Int32) := Option.bind (St_foldersAstray (M.1 9)) fun q_1428 => Option.bind (St_readersAboveLimit (M.1 9)) fun q_1429 => Option.bind (St_slipsForOwnFolders (M.1 9)) fun q_1430 => some ((q_1428 + q_1429) + q_1430)
set_option maxRecDepth 100000 in
set_option maxHeartbeats 4000000 in
theorem c_SA_gap {ad ae : Nat → Nat} (l : Launch) (g : Gl) (hC : KAll g ad ae) (σ : Hp) (B : Nat) (M : WM) {r : Int32} (hr : SA_gap M = some r) : MG l g md_SA_gap [.ref B] (putW σ B ae M) (rs (some (.int r)) (putW σ B ae M)) := by
  refine MG.intro (by decide +kernel) (Nat.le_of_ble_eq_true rfl) (fun X hx hR _ => ?_)
  unfold SA_gap at hr
  refine g_ls [0] [(0, .ref B)] rfl ?_
  refine g_aload_n hx 0 (i := 0) 0 dX10_gap_0 rfl rfl ?_
  refine g_get hx 1 (C := RX10) (T := TX10) (N := 11) 6 (.ref (B + 332)) (pW σ B ae M 0 (by decide)) rfl (by decide) rfl fl_X10_50 dX10_gap_1 ?_
  obtain ⟨q_1428, eq_1428, hr⟩ := bind_e hr
  refine g_callVr hx (MG.ar9 (w := M) (c_St_foldersAstray l g (putW σ B ae M) (B + 332) (M.1 9) eq_1428)) lk_X10_225 ar_St_foldersAstray (pW_st9 σ B ae M 0 (by decide)) (T := TX8) (N := 15) rfl (As := []) (rest := []) rfl (Nat.le_of_ble_eq_true rfl) ⟨Nat.le_of_ble_eq_true rfl, Nat.le_of_ble_eq_true rfl⟩ ⟨rfl, rfl⟩ ⟨Nat.zero_le _, Nat.zero_le _⟩ dX10_gap_4 ?_
  refine g_aload_n hx 7 (i := 0) 0 dX10_gap_7 rfl rfl ?_
  refine g_get hx 8 (C := RX10) (T := TX10) (N := 11) 6 (.ref (B + 332)) (pW σ B ae M 0 (by decide)) rfl (by decide) rfl fl_X10_50 dX10_gap_8 ?_
  obtain ⟨q_1429, eq_1429, hr⟩ := bind_e hr
  refine g_callVr hx (MG.ar9 (w := M) (c_St_readersAboveLimit l g (putW σ B ae M) (B + 332) (M.1 9) eq_1429)) lk_X10_228 ar_St_readersAboveLimit (pW_st9 σ B ae M 0 (by decide)) (T := TX8) (N := 15) rfl (As := []) (rest := [.int q_1428]) rfl (Nat.le_of_ble_eq_true rfl) ⟨Nat.le_of_ble_eq_true rfl, Nat.le_of_ble_eq_true rfl⟩ ⟨rfl, rfl⟩ ⟨Nat.zero_le _, Nat.zero_le _⟩ dX10_gap_11 ?_
  refine g_iadd hx 14 dX10_gap_14 ?_
  refine g_aload_n hx 15 (i := 0) 0 dX10_gap_15 rfl rfl ?_
  refine g_get hx 16 (C := RX10) (T := TX10) (N := 11) 6 (.ref (B + 332)) (pW σ B ae M 0 (by decide)) rfl (by decide) rfl fl_X10_50 dX10_gap_16 ?_
  obtain ⟨q_1430, eq_1430, hr⟩ := bind_e hr
  refine g_callVr hx (MG.ar9 (w := M) (c_St_slipsForOwnFolders l g (putW σ B ae M) (B + 332) (M.1 9) eq_1430)) lk_X10_231 ar_St_slipsForOwnFolders (pW_st9 σ B ae M 0 (by decide)) (T := TX8) (N := 15) rfl (As := []) (rest := [.int (q_1428 + q_1429)]) rfl (Nat.le_of_ble_eq_true rfl) ⟨Nat.le_of_ble_eq_true rfl, Nat.le_of_ble_eq_true rfl⟩ ⟨rfl, rfl⟩ ⟨Nat.zero_le _, Nat.zero_le _⟩ dX10_gap_19 ?_
  refine g_iadd hx 22 dX10_gap_22 ?_
  exact g_iret hx hR 23 dX10_gap_23 ⟨by rw [← Option.some.inj hr] <;> rfl, rfl⟩
def SA_found (M : WM) (p1 : Int32) : Option (Int32 × WM) := Option.bind (Rw_halve (M.1 9) p1) fun q_1431 => some ((q_1431.1, setS M 9 q_1431.2))
set_option maxRecDepth 100000 in
set_option maxHeartbeats 4000000 in
theorem c_SA_found {ad ae : Nat → Nat} (l : Launch) (g : Gl) (hC : KAll g ad ae) (σ : Hp) (B : Nat) (M : WM) (p1 : Int32) {r : Int32 × WM} (hr : SA_found M p1 = some r) : MG l g md_SA_found [.ref B, .int p1] (putW σ B ae M) (rs (some (.int r.1)) (putW σ B ae r.2)) := by
  refine MG.intro (by decide +kernel) (Nat.le_of_ble_eq_true rfl) (fun X hx hR _ => ?_)
  unfold SA_found at hr
  refine g_ls [0, 1] [(0, .ref B), (1, .int p1)] rfl ?_
  refine g_aload_n hx 0 (i := 0) 0 dX10_found_0 rfl rfl ?_
  refine g_get hx 1 (C := RX10) (T := TX10) (N := 11) 6 (.ref (B + 332)) (pW σ B ae M 0 (by decide)) rfl (by decide) rfl fl_X10_50 dX10_found_1 ?_
  refine g_get hx 4 (C := RX8) (T := TX8) (N := 15) 11 (.ref (B + 332 + 15)) (pW_st9 σ B ae M 0 (by decide)) rfl (by decide) rfl fl_X10_129 dX10_found_4 ?_
  refine g_iload_n hx 7 (i := 1) 1 dX10_found_7 rfl rfl ?_
  obtain ⟨q_1431, eq_1431, hr⟩ := bind_e hr
  refine g_callVr hx (MG.at9 (w := M) (c_Rw_halve l g (putW σ B ae M) (B + 332) (M.1 9) p1 eq_1431)) lk_X10_234 ar_Rw_halve (pW_st9 σ B ae M 15 (by decide)) (T := TX5) (N := 4) rfl (As := [.int p1]) (rest := []) rfl (Nat.le_of_ble_eq_true rfl) ⟨Nat.le_of_ble_eq_true rfl, Nat.le_of_ble_eq_true rfl⟩ ⟨rfl, rfl⟩ ⟨Nat.zero_le _, Nat.zero_le _⟩ dX10_found_8 ?_
  exact g_iret hx hR 11 dX10_found_11 ⟨by rw [← Option.some.inj hr] <;> rfl, by rw [← Option.some.inj hr] <;> rfl⟩
def SA_looks (M : WM) (p1 : Int32) : Option (Int32 × WM) := Option.bind (Rw_halve (M.1 9) p1) fun q_1432 => some ((nI (q_1432.2.2 8).length, setS M 9 q_1432.2))
set_option maxRecDepth 100000 in
set_option maxHeartbeats 4000000 in
theorem c_SA_looks {ad ae : Nat → Nat} (l : Launch) (g : Gl) (hC : KAll g ad ae) (σ : Hp) (B : Nat) (M : WM) (p1 : Int32) {r : Int32 × WM} (hr : SA_looks M p1 = some r) : MG l g md_SA_looks [.ref B, .int p1] (putW σ B ae M) (rs (some (.int r.1)) (putW σ B ae r.2)) := by
  refine MG.intro (by decide +kernel) (Nat.le_of_ble_eq_true rfl) (fun X hx hR _ => ?_)
  unfold SA_looks at hr
  refine g_ls [0, 1] [(0, .ref B), (1, .int p1)] rfl ?_
  refine g_aload_n hx 0 (i := 0) 0 dX10_looks_0 rfl rfl ?_
  refine g_get hx 1 (C := RX10) (T := TX10) (N := 11) 6 (.ref (B + 332)) (pW σ B ae M 0 (by decide)) rfl (by decide) rfl fl_X10_50 dX10_looks_1 ?_
  refine g_get hx 4 (C := RX8) (T := TX8) (N := 15) 11 (.ref (B + 332 + 15)) (pW_st9 σ B ae M 0 (by decide)) rfl (by decide) rfl fl_X10_129 dX10_looks_4 ?_
  refine g_iload_n hx 7 (i := 1) 1 dX10_looks_7 rfl rfl ?_
  obtain ⟨q_1432, eq_1432, hr⟩ := bind_e hr
  refine g_callVr hx (MG.at9 (w := M) (c_Rw_halve l g (putW σ B ae M) (B + 332) (M.1 9) p1 eq_1432)) lk_X10_234 ar_Rw_halve (pW_st9 σ B ae M 15 (by decide)) (T := TX5) (N := 4) rfl (As := [.int p1]) (rest := []) rfl (Nat.le_of_ble_eq_true rfl) ⟨Nat.le_of_ble_eq_true rfl, Nat.le_of_ble_eq_true rfl⟩ ⟨rfl, rfl⟩ ⟨Nat.zero_le _, Nat.zero_le _⟩ dX10_looks_8 ?_
  refine g_pop hx 11 dX10_looks_11 rfl ?_
  refine g_aload_n hx 12 (i := 0) 0 dX10_looks_12 rfl rfl ?_
  refine g_get hx 13 (C := RX10) (T := TX10) (N := 11) 6 (.ref (B + 332)) (pW σ B ae (setS M 9 q_1432.2) 0 (by decide)) rfl (by decide) rfl fl_X10_50 dX10_looks_13 ?_
  refine g_get hx 16 (C := RX8) (T := TX8) (N := 15) 11 (.ref (B + 332 + 15)) (pW_st9 σ B ae (setS M 9 q_1432.2) 0 (by decide)) rfl (by decide) rfl fl_X10_129 dX10_looks_16 ?_
  refine g_get hx 19 (C := RX5) (T := TX5) (N := 4) 1 (.ref (B + 332 + 18)) (pW_st9 σ B ae (setS M 9 q_1432.2) 15 (by decide)) rfl (by decide) rfl fl_X10_237 dX10_looks_19 ?_
  refine g_callVr hx (k_count l g (st_l8 (pW_st9 σ B ae (setS M 9 q_1432.2))) (by decide)) lk_X10_79 ar_Ln_count (st_l8 (pW_st9 σ B ae (setS M 9 q_1432.2))).1 (T := TX2) (N := 2) rfl (As := []) (rest := []) rfl (Nat.le_of_ble_eq_true rfl) ⟨Nat.le_of_ble_eq_true rfl, Nat.le_of_ble_eq_true rfl⟩ ⟨rfl, rfl⟩ ⟨Nat.zero_le _, Nat.zero_le _⟩ dX10_looks_22 ?_
  exact g_iret hx hR 25 dX10_looks_25 ⟨by rw [← Option.some.inj hr] <;> rfl, by rw [← Option.some.inj hr] <;> rfl⟩
def SA_missed (M : WM) : Option (Int32 × WM) := Option.bind (Rw_missedByHalving (M.1 9)) fun q_1433 => some ((q_1433.1, setS M 9 q_1433.2))
set_option maxRecDepth 100000 in
set_option maxHeartbeats 4000000 in
theorem c_SA_missed {ad ae : Nat → Nat} (l : Launch) (g : Gl) (hC : KAll g ad ae) (σ : Hp) (B : Nat) (M : WM) {r : Int32 × WM} (hr : SA_missed M = some r) : MG l g md_SA_missed [.ref B] (putW σ B ae M) (rs (some (.int r.1)) (putW σ B ae r.2)) := by
  refine MG.intro (by decide +kernel) (Nat.le_of_ble_eq_true rfl) (fun X hx hR _ => ?_)
  unfold SA_missed at hr
  refine g_ls [0] [(0, .ref B)] rfl ?_
  refine g_aload_n hx 0 (i := 0) 0 dX10_missed_0 rfl rfl ?_
  refine g_get hx 1 (C := RX10) (T := TX10) (N := 11) 6 (.ref (B + 332)) (pW σ B ae M 0 (by decide)) rfl (by decide) rfl fl_X10_50 dX10_missed_1 ?_
  refine g_get hx 4 (C := RX8) (T := TX8) (N := 15) 11 (.ref (B + 332 + 15)) (pW_st9 σ B ae M 0 (by decide)) rfl (by decide) rfl fl_X10_129 dX10_missed_4 ?_
  obtain ⟨q_1433, eq_1433, hr⟩ := bind_e hr
  refine g_callVr hx (MG.at9 (w := M) (c_Rw_missedByHalving l g (putW σ B ae M) (B + 332) (M.1 9) eq_1433)) lk_X10_240 ar_Rw_missedByHalving (pW_st9 σ B ae M 15 (by decide)) (T := TX5) (N := 4) rfl (As := []) (rest := []) rfl (Nat.le_of_ble_eq_true rfl) ⟨Nat.le_of_ble_eq_true rfl, Nat.le_of_ble_eq_true rfl⟩ ⟨rfl, rfl⟩ ⟨Nat.zero_le _, Nat.zero_le _⟩ dX10_missed_7 ?_
  exact g_iret hx hR 10 dX10_missed_10 ⟨by rw [← Option.some.inj hr] <;> rfl, by rw [← Option.some.inj hr] <;> rfl⟩
def SA_refilePlace (M : WM) (p1 : Int32) : Option (Int32 × WM) := Option.bind (Rw_halve (M.1 9) p1) fun q_1434 => lt' (q_1434.1) fun v2_1435 => Option.bind (if v2_1435 = (-1) then (some (Rw_placeBehindMiss q_1434.2 p1)) else (some v2_1435)) fun b_1437 => some ((b_1437, setS M 9 q_1434.2))
set_option maxRecDepth 100000 in
set_option maxHeartbeats 4000000 in
theorem c_SA_refilePlace {ad ae : Nat → Nat} (l : Launch) (g : Gl) (hC : KAll g ad ae) (σ : Hp) (B : Nat) (M : WM) (p1 : Int32) {r : Int32 × WM} (hr : SA_refilePlace M p1 = some r) : MG l g md_SA_refilePlace [.ref B, .int p1] (putW σ B ae M) (rs (some (.int r.1)) (putW σ B ae r.2)) := by
  refine MG.intro (by decide +kernel) (Nat.le_of_ble_eq_true rfl) (fun X hx hR _ => ?_)
  unfold SA_refilePlace at hr
  refine g_ls [0, 1] [(0, .ref B), (1, .int p1)] rfl ?_
  refine g_aload_n hx 0 (i := 0) 0 dX10_refilePlace_0 rfl rfl ?_
  refine g_get hx 1 (C := RX10) (T := TX10) (N := 11) 6 (.ref (B + 332)) (pW σ B ae M 0 (by decide)) rfl (by decide) rfl fl_X10_50 dX10_refilePlace_1 ?_
  refine g_get hx 4 (C := RX8) (T := TX8) (N := 15) 11 (.ref (B + 332 + 15)) (pW_st9 σ B ae M 0 (by decide)) rfl (by decide) rfl fl_X10_129 dX10_refilePlace_4 ?_
  refine g_iload_n hx 7 (i := 1) 1 dX10_refilePlace_7 rfl rfl ?_
  obtain ⟨q_1434, eq_1434, hr⟩ := bind_e hr
  refine g_callVr hx (MG.at9 (w := M) (c_Rw_halve l g (putW σ B ae M) (B + 332) (M.1 9) p1 eq_1434)) lk_X10_234 ar_Rw_halve (pW_st9 σ B ae M 15 (by decide)) (T := TX5) (N := 4) rfl (As := [.int p1]) (rest := []) rfl (Nat.le_of_ble_eq_true rfl) ⟨Nat.le_of_ble_eq_true rfl, Nat.le_of_ble_eq_true rfl⟩ ⟨rfl, rfl⟩ ⟨Nat.zero_le _, Nat.zero_le _⟩ dX10_refilePlace_8 ?_
  obtain ⟨v2_1435, ev2_1435, hr⟩ := lt'_e hr
  refine g_nmi ev2_1435 ?_
  refine g_istore_n hx 11 (i := 2) [(2, .int v2_1435), (0, .ref B), (1, .int p1)] dX10_refilePlace_11 rfl (by decide) rfl ?_
  refine g_iload_n hx 12 (i := 2) 0 dX10_refilePlace_12 rfl rfl ?_
  refine g_iconst hx 13 (-1) dX10_refilePlace_13 rfl ?_
  obtain ⟨b_1437, eb_1437, hr⟩ := bind_e hr
  have rest : G X (putW σ B ae (setS M 9 q_1434.2)) 0 0 32 [(2, .int v2_1435), (0, .ref B), (1, .int p1)] [.int b_1437] := by
    exact g_iret hx hR 32 dX10_refilePlace_32 ⟨by rw [← Option.some.inj hr] <;> rfl, by rw [← Option.some.inj hr] <;> rfl⟩
  clear hr
  have hr := eb_1437
  refine g_icmp_eq hx 14 21 dX10_refilePlace_14 (by decide) (fun hc_1436 => ?_) (fun hc_1436 => ?_)
  · have hr := (if_pos hc_1436).symm.trans hr
    refine g_aload_n hx 21 (i := 0) 1 dX10_refilePlace_21 rfl rfl ?_
    refine g_get hx 22 (C := RX10) (T := TX10) (N := 11) 6 (.ref (B + 332)) (pW σ B ae (setS M 9 q_1434.2) 0 (by decide)) rfl (by decide) rfl fl_X10_50 dX10_refilePlace_22 ?_
    refine g_get hx 25 (C := RX8) (T := TX8) (N := 15) 11 (.ref (B + 332 + 15)) (pW_st9 σ B ae (setS M 9 q_1434.2) 0 (by decide)) rfl (by decide) rfl fl_X10_129 dX10_refilePlace_25 ?_
    refine g_iload_n hx 28 (i := 1) 2 dX10_refilePlace_28 rfl rfl ?_
    refine g_callVr hx (MG.ar9 (w := setS M 9 q_1434.2) (c_Rw_placeBehindMiss l g (putW σ B ae (setS M 9 q_1434.2)) (B + 332) q_1434.2 p1 rfl)) lk_X10_243 ar_Rw_placeBehindMiss (pW_st9 σ B ae (setS M 9 q_1434.2) 15 (by decide)) (T := TX5) (N := 4) rfl (As := [.int p1]) (rest := []) rfl (Nat.le_of_ble_eq_true rfl) ⟨Nat.le_of_ble_eq_true rfl, Nat.le_of_ble_eq_true rfl⟩ ⟨rfl, rfl⟩ ⟨Nat.zero_le _, Nat.zero_le _⟩ dX10_refilePlace_29 ?_
    exact g_nmi (Option.some.inj hr).symm rest
  · have hr := (if_neg hc_1436).symm.trans hr
    refine g_iload_n hx 17 (i := 2) 0 dX10_refilePlace_17 rfl rfl ?_
    refine g_goto hx 18 32 dX10_refilePlace_18 (by decide) ?_
    exact g_nmi (Option.some.inj hr).symm rest
def SA_inversions (M : WM) : Option (Int32) := Option.bind (Rw_pairsInWrongOrder (M.1 9)) fun q_1438 => some (q_1438)
set_option maxRecDepth 100000 in
set_option maxHeartbeats 4000000 in
theorem c_SA_inversions {ad ae : Nat → Nat} (l : Launch) (g : Gl) (hC : KAll g ad ae) (σ : Hp) (B : Nat) (M : WM) {r : Int32} (hr : SA_inversions M = some r) : MG l g md_SA_inversions [.ref B] (putW σ B ae M) (rs (some (.int r)) (putW σ B ae M)) := by
  refine MG.intro (by decide +kernel) (Nat.le_of_ble_eq_true rfl) (fun X hx hR _ => ?_)
  unfold SA_inversions at hr
  refine g_ls [0] [(0, .ref B)] rfl ?_
  refine g_aload_n hx 0 (i := 0) 0 dX10_inversions_0 rfl rfl ?_
  refine g_get hx 1 (C := RX10) (T := TX10) (N := 11) 6 (.ref (B + 332)) (pW σ B ae M 0 (by decide)) rfl (by decide) rfl fl_X10_50 dX10_inversions_1 ?_
  refine g_get hx 4 (C := RX8) (T := TX8) (N := 15) 11 (.ref (B + 332 + 15)) (pW_st9 σ B ae M 0 (by decide)) rfl (by decide) rfl fl_X10_129 dX10_inversions_4 ?_
  obtain ⟨q_1438, eq_1438, hr⟩ := bind_e hr
  refine g_callVr hx (MG.ar9 (w := M) (c_Rw_pairsInWrongOrder l g (putW σ B ae M) (B + 332) (M.1 9) eq_1438)) lk_X10_246 ar_Rw_pairsInWrongOrder (pW_st9 σ B ae M 15 (by decide)) (T := TX5) (N := 4) rfl (As := []) (rest := []) rfl (Nat.le_of_ble_eq_true rfl) ⟨Nat.le_of_ble_eq_true rfl, Nat.le_of_ble_eq_true rfl⟩ ⟨rfl, rfl⟩ ⟨Nat.zero_le _, Nat.zero_le _⟩ dX10_inversions_7 ?_
  exact g_iret hx hR 10 dX10_inversions_10 ⟨by rw [← Option.some.inj hr] <;> rfl, rfl⟩
def SA_longestOrdered (M : WM) : Option (Int32 × WM) := Option.bind (Rw_longestRun (M.1 9)) fun q_1439 => some ((q_1439.1, setS M 9 q_1439.2))
set_option maxRecDepth 100000 in
set_option maxHeartbeats 4000000 in
theorem c_SA_longestOrdered {ad ae : Nat → Nat} (l : Launch) (g : Gl) (hC : KAll g ad ae) (σ : Hp) (B : Nat) (M : WM) {r : Int32 × WM} (hr : SA_longestOrdered M = some r) : MG l g md_SA_longestOrdered [.ref B] (putW σ B ae M) (rs (some (.int r.1)) (putW σ B ae r.2)) := by
  refine MG.intro (by decide +kernel) (Nat.le_of_ble_eq_true rfl) (fun X hx hR _ => ?_)
  unfold SA_longestOrdered at hr
  refine g_ls [0] [(0, .ref B)] rfl ?_
  refine g_aload_n hx 0 (i := 0) 0 dX10_longestOrdered_0 rfl rfl ?_
  refine g_get hx 1 (C := RX10) (T := TX10) (N := 11) 6 (.ref (B + 332)) (pW σ B ae M 0 (by decide)) rfl (by decide) rfl fl_X10_50 dX10_longestOrdered_1 ?_
  refine g_get hx 4 (C := RX8) (T := TX8) (N := 15) 11 (.ref (B + 332 + 15)) (pW_st9 σ B ae M 0 (by decide)) rfl (by decide) rfl fl_X10_129 dX10_longestOrdered_4 ?_
  obtain ⟨q_1439, eq_1439, hr⟩ := bind_e hr
  refine g_callVr hx (MG.at9 (w := M) (c_Rw_longestRun l g (putW σ B ae M) (B + 332) (M.1 9) eq_1439)) lk_X10_249 ar_Rw_longestRun (pW_st9 σ B ae M 15 (by decide)) (T := TX5) (N := 4) rfl (As := []) (rest := []) rfl (Nat.le_of_ble_eq_true rfl) ⟨Nat.le_of_ble_eq_true rfl, Nat.le_of_ble_eq_true rfl⟩ ⟨rfl, rfl⟩ ⟨Nat.zero_le _, Nat.zero_le _⟩ dX10_longestOrdered_7 ?_
  exact g_iret hx hR 10 dX10_longestOrdered_10 ⟨by rw [← Option.some.inj hr] <;> rfl, by rw [← Option.some.inj hr] <;> rfl⟩
def SA_lookedAt (M : WM) (p1 p2 : Int32) : Option (Int32 × WM) := Option.bind (Rw_halve (M.1 9) p1) fun q_1440 => some ((lnget (q_1440.2.2 7) (lnget (q_1440.2.2 8) p2), setS M 9 q_1440.2))
set_option maxRecDepth 100000 in
set_option maxHeartbeats 4000000 in
theorem c_SA_lookedAt {ad ae : Nat → Nat} (l : Launch) (g : Gl) (hC : KAll g ad ae) (σ : Hp) (B : Nat) (M : WM) (p1 p2 : Int32) {r : Int32 × WM} (hr : SA_lookedAt M p1 p2 = some r) : MG l g md_SA_lookedAt [.ref B, .int p1, .int p2] (putW σ B ae M) (rs (some (.int r.1)) (putW σ B ae r.2)) := by
  refine MG.intro (by decide +kernel) (Nat.le_of_ble_eq_true rfl) (fun X hx hR _ => ?_)
  unfold SA_lookedAt at hr
  refine g_ls [0, 1, 2] [(0, .ref B), (1, .int p1), (2, .int p2)] rfl ?_
  refine g_aload_n hx 0 (i := 0) 0 dX10_lookedAt_0 rfl rfl ?_
  refine g_get hx 1 (C := RX10) (T := TX10) (N := 11) 6 (.ref (B + 332)) (pW σ B ae M 0 (by decide)) rfl (by decide) rfl fl_X10_50 dX10_lookedAt_1 ?_
  refine g_get hx 4 (C := RX8) (T := TX8) (N := 15) 11 (.ref (B + 332 + 15)) (pW_st9 σ B ae M 0 (by decide)) rfl (by decide) rfl fl_X10_129 dX10_lookedAt_4 ?_
  refine g_iload_n hx 7 (i := 1) 1 dX10_lookedAt_7 rfl rfl ?_
  obtain ⟨q_1440, eq_1440, hr⟩ := bind_e hr
  refine g_callVr hx (MG.at9 (w := M) (c_Rw_halve l g (putW σ B ae M) (B + 332) (M.1 9) p1 eq_1440)) lk_X10_234 ar_Rw_halve (pW_st9 σ B ae M 15 (by decide)) (T := TX5) (N := 4) rfl (As := [.int p1]) (rest := []) rfl (Nat.le_of_ble_eq_true rfl) ⟨Nat.le_of_ble_eq_true rfl, Nat.le_of_ble_eq_true rfl⟩ ⟨rfl, rfl⟩ ⟨Nat.zero_le _, Nat.zero_le _⟩ dX10_lookedAt_8 ?_
  refine g_pop hx 11 dX10_lookedAt_11 rfl ?_
  refine g_aload_n hx 12 (i := 0) 0 dX10_lookedAt_12 rfl rfl ?_
  refine g_get hx 13 (C := RX10) (T := TX10) (N := 11) 6 (.ref (B + 332)) (pW σ B ae (setS M 9 q_1440.2) 0 (by decide)) rfl (by decide) rfl fl_X10_50 dX10_lookedAt_13 ?_
  refine g_get hx 16 (C := RX8) (T := TX8) (N := 15) 11 (.ref (B + 332 + 15)) (pW_st9 σ B ae (setS M 9 q_1440.2) 0 (by decide)) rfl (by decide) rfl fl_X10_129 dX10_lookedAt_16 ?_
  refine g_get hx 19 (C := RX5) (T := TX5) (N := 4) 0 (.ref (B + 332 + 16)) (pW_st9 σ B ae (setS M 9 q_1440.2) 15 (by decide)) rfl (by decide) rfl fl_X10_133 dX10_lookedAt_19 ?_
  refine g_aload_n hx 22 (i := 0) 0 dX10_lookedAt_22 rfl rfl ?_
  refine g_get hx 23 (C := RX10) (T := TX10) (N := 11) 6 (.ref (B + 332)) (pW σ B ae (setS M 9 q_1440.2) 0 (by decide)) rfl (by decide) rfl fl_X10_50 dX10_lookedAt_23 ?_
  refine g_get hx 26 (C := RX8) (T := TX8) (N := 15) 11 (.ref (B + 332 + 15)) (pW_st9 σ B ae (setS M 9 q_1440.2) 0 (by decide)) rfl (by decide) rfl fl_X10_129 dX10_lookedAt_26 ?_
  refine g_get hx 29 (C := RX5) (T := TX5) (N := 4) 1 (.ref (B + 332 + 18)) (pW_st9 σ B ae (setS M 9 q_1440.2) 15 (by decide)) rfl (by decide) rfl fl_X10_237 dX10_lookedAt_29 ?_
  refine g_iload_n hx 32 (i := 2) 2 dX10_lookedAt_32 rfl rfl ?_
  refine g_callVr hx (k_get l g (st_l8 (pW_st9 σ B ae (setS M 9 q_1440.2))) (by decide) p2) lk_X10_165 ar_Ln_get (st_l8 (pW_st9 σ B ae (setS M 9 q_1440.2))).1 (T := TX2) (N := 2) rfl (As := [.int p2]) (rest := [.ref (B + 332 + 16)]) rfl (Nat.le_of_ble_eq_true rfl) ⟨Nat.le_of_ble_eq_true rfl, Nat.le_of_ble_eq_true rfl⟩ ⟨rfl, rfl⟩ ⟨Nat.zero_le _, Nat.zero_le _⟩ dX10_lookedAt_33 ?_
  refine g_callVr hx (k_get l g (st_l7 (pW_st9 σ B ae (setS M 9 q_1440.2))) (by decide) (lnget (q_1440.2.2 8) p2)) lk_X10_165 ar_Ln_get (st_l7 (pW_st9 σ B ae (setS M 9 q_1440.2))).1 (T := TX2) (N := 2) rfl (As := [.int (lnget (q_1440.2.2 8) p2)]) (rest := []) rfl (Nat.le_of_ble_eq_true rfl) ⟨Nat.le_of_ble_eq_true rfl, Nat.le_of_ble_eq_true rfl⟩ ⟨rfl, rfl⟩ ⟨Nat.zero_le _, Nat.zero_le _⟩ dX10_lookedAt_36 ?_
  exact g_iret hx hR 39 dX10_lookedAt_39 ⟨by rw [← Option.some.inj hr] <;> rfl, by rw [← Option.some.inj hr] <;> rfl⟩
def SA_mostMisplaced (M : WM) : Option (Int32) := Option.bind (Rw_farthestFromOrder (M.1 9)) fun q_1441 => some (q_1441)
set_option maxRecDepth 100000 in
set_option maxHeartbeats 4000000 in
theorem c_SA_mostMisplaced {ad ae : Nat → Nat} (l : Launch) (g : Gl) (hC : KAll g ad ae) (σ : Hp) (B : Nat) (M : WM) {r : Int32} (hr : SA_mostMisplaced M = some r) : MG l g md_SA_mostMisplaced [.ref B] (putW σ B ae M) (rs (some (.int r)) (putW σ B ae M)) := by
  refine MG.intro (by decide +kernel) (Nat.le_of_ble_eq_true rfl) (fun X hx hR _ => ?_)
  unfold SA_mostMisplaced at hr
  refine g_ls [0] [(0, .ref B)] rfl ?_
  refine g_aload_n hx 0 (i := 0) 0 dX10_mostMisplaced_0 rfl rfl ?_
  refine g_get hx 1 (C := RX10) (T := TX10) (N := 11) 6 (.ref (B + 332)) (pW σ B ae M 0 (by decide)) rfl (by decide) rfl fl_X10_50 dX10_mostMisplaced_1 ?_
  refine g_get hx 4 (C := RX8) (T := TX8) (N := 15) 11 (.ref (B + 332 + 15)) (pW_st9 σ B ae M 0 (by decide)) rfl (by decide) rfl fl_X10_129 dX10_mostMisplaced_4 ?_
  obtain ⟨q_1441, eq_1441, hr⟩ := bind_e hr
  refine g_callVr hx (MG.ar9 (w := M) (c_Rw_farthestFromOrder l g (putW σ B ae M) (B + 332) (M.1 9) eq_1441)) lk_X10_252 ar_Rw_farthestFromOrder (pW_st9 σ B ae M 15 (by decide)) (T := TX5) (N := 4) rfl (As := []) (rest := []) rfl (Nat.le_of_ble_eq_true rfl) ⟨Nat.le_of_ble_eq_true rfl, Nat.le_of_ble_eq_true rfl⟩ ⟨rfl, rfl⟩ ⟨Nat.zero_le _, Nat.zero_le _⟩ dX10_mostMisplaced_7 ?_
  exact g_iret hx hR 10 dX10_mostMisplaced_10 ⟨by rw [← Option.some.inj hr] <;> rfl, rfl⟩
def SA_mostAsked_L6 (M : WM) : Nat → Int32 → Int32 → Int32 → Option (Int32)
  | 0, _, _, _ => none
  | n + 1, v1_1442, v2_1443, v3_1444 => if nI ((M.1 9).2 0).length ≤ v3_1444 then (some (v2_1443)) else (lt' (lncnt ((M.1 9).2 12) v3_1444) fun v4_1446 => if v4_1446 ≤ v1_1442 then (SA_mostAsked_L6 M n v1_1442 v2_1443 (v3_1444 + 1)) else (SA_mostAsked_L6 M n v4_1446 v3_1444 (v3_1444 + 1)))
def SA_mostAsked (M : WM) : Option (Int32) := SA_mostAsked_L6 M FU 0 (-1) 0
set_option maxRecDepth 100000 in
set_option maxHeartbeats 4000000 in
theorem w_SA_mostAsked_L6 {ad ae : Nat → Nat} {X : Cx} {l : Launch} {g : Gl} (hx : Ok X l g RX10 cX10_mostAsked 5 md_SA_mostAsked.rm) (hC : KAll g ad ae) {σ : Hp} {B : Nat} {M : WM} {r : Int32} (hR : Ret X (rs (some (.int r)) (putW σ B ae M)) 0 0 (some .int)) : ∀ (n : Nat) (v1_1442 v2_1443 v3_1444 : Int32), SA_mostAsked_L6 M n v1_1442 v2_1443 v3_1444 = some r → G X (putW σ B ae M) 0 0 6 [(0, .ref B), (1, .int v1_1442), (2, .int v2_1443), (3, .int v3_1444)] [] := by
  intro n
  induction n with
  | zero =>
    intro v1_1442 v2_1443 v3_1444 hr
    rw [SA_mostAsked_L6] at hr
    cases hr
  | succ n ih =>
    intro v1_1442 v2_1443 v3_1444 hr
    rw [SA_mostAsked_L6] at hr
    refine g_iload_n hx 6 (i := 3) 3 dX10_mostAsked_6 rfl rfl ?_
    refine g_aload_n hx 7 (i := 0) 0 dX10_mostAsked_7 rfl rfl ?_
    refine g_get hx 8 (C := RX10) (T := TX10) (N := 11) 6 (.ref (B + 332)) (pW σ B ae M 0 (by decide)) rfl (by decide) rfl fl_X10_50 dX10_mostAsked_8 ?_
    refine g_get hx 11 (C := RX8) (T := TX8) (N := 15) 4 (.ref (B + 332 + 1)) (pW_st9 σ B ae M 0 (by decide)) rfl (by decide) rfl fl_X10_111 dX10_mostAsked_11 ?_
    refine g_callVr hx (k_count l g (st_l0 (pW_st9 σ B ae M)) (by decide)) lk_X10_79 ar_Ln_count (st_l0 (pW_st9 σ B ae M)).1 (T := TX2) (N := 2) rfl (As := []) (rest := [.int v3_1444]) rfl (Nat.le_of_ble_eq_true rfl) ⟨Nat.le_of_ble_eq_true rfl, Nat.le_of_ble_eq_true rfl⟩ ⟨rfl, rfl⟩ ⟨Nat.zero_le _, Nat.zero_le _⟩ dX10_mostAsked_14 ?_
    refine g_icmp_ge hx 17 53 dX10_mostAsked_17 (by decide) (fun hc_1445 => ?_) (fun hc_1445 => ?_)
    · have hr := (if_pos hc_1445).symm.trans hr
      refine g_iload_n hx 53 (i := 2) 2 dX10_mostAsked_53 rfl rfl ?_
      exact g_iret hx hR 54 dX10_mostAsked_54 ⟨by rw [← Option.some.inj hr] <;> rfl, rfl⟩
    · have hr := (if_neg hc_1445).symm.trans hr
      refine g_aload_n hx 20 (i := 0) 0 dX10_mostAsked_20 rfl rfl ?_
      refine g_get hx 21 (C := RX10) (T := TX10) (N := 11) 6 (.ref (B + 332)) (pW σ B ae M 0 (by decide)) rfl (by decide) rfl fl_X10_50 dX10_mostAsked_21 ?_
      refine g_get hx 24 (C := RX8) (T := TX8) (N := 15) 13 (.ref (B + 332 + 24)) (pW_st9 σ B ae M 0 (by decide)) rfl (by decide) rfl fl_X10_148 dX10_mostAsked_24 ?_
      refine g_get hx 27 (C := RX7) (T := TX7) (N := 4) 1 (.ref (B + 332 + 27)) (pW_st9 σ B ae M 24 (by decide)) rfl (by decide) rfl fl_X10_186 dX10_mostAsked_27 ?_
      refine g_iload_n hx 30 (i := 3) 3 dX10_mostAsked_30 rfl rfl ?_
      refine g_callVr hx (k_countOf l g (st_l12 (pW_st9 σ B ae M)) (by decide) v3_1444) lk_X10_141 ar_Ln_countOf (st_l12 (pW_st9 σ B ae M)).1 (T := TX2) (N := 2) rfl (As := [.int v3_1444]) (rest := []) rfl (Nat.le_of_ble_eq_true rfl) ⟨Nat.le_of_ble_eq_true rfl, Nat.le_of_ble_eq_true rfl⟩ ⟨rfl, rfl⟩ ⟨Nat.zero_le _, Nat.zero_le _⟩ dX10_mostAsked_31 ?_
      obtain ⟨v4_1446, ev4_1446, hr⟩ := lt'_e hr
      refine g_nmi ev4_1446 ?_
      refine g_istore hx 34 (i := 4) [(4, .int v4_1446), (0, .ref B), (1, .int v1_1442), (2, .int v2_1443), (3, .int v3_1444)] dX10_mostAsked_34 (by decide) rfl ?_
      refine g_iload hx 36 (i := 4) 0 dX10_mostAsked_36 rfl ?_
      refine g_iload_n hx 38 (i := 1) 2 dX10_mostAsked_38 rfl rfl ?_
      refine g_icmp_le hx 39 47 dX10_mostAsked_39 (by decide) (fun hc_1447 => ?_) (fun hc_1447 => ?_)
      · have hr := (if_pos hc_1447).symm.trans hr
        refine g_iinc hx 47 (i := 3) 4 (v3_1444 + 1) [(3, .int (v3_1444 + 1)), (4, .int v4_1446), (0, .ref B), (1, .int v1_1442), (2, .int v2_1443)] dX10_mostAsked_47 rfl rfl (by decide) rfl ?_
        refine g_goto hx 50 6 dX10_mostAsked_50 (by decide) ?_
        refine g_ls [2, 3, 4, 0] [(0, .ref B), (1, .int v1_1442), (2, .int v2_1443), (3, .int (v3_1444 + 1))] rfl ?_
        exact ih v1_1442 v2_1443 (v3_1444 + 1) hr
      · have hr := (if_neg hc_1447).symm.trans hr
        refine g_iload hx 42 (i := 4) 0 dX10_mostAsked_42 rfl ?_
        refine g_istore_n hx 44 (i := 1) [(1, .int v4_1446), (4, .int v4_1446), (0, .ref B), (2, .int v2_1443), (3, .int v3_1444)] dX10_mostAsked_44 rfl (by decide) rfl ?_
        refine g_iload_n hx 45 (i := 3) 4 dX10_mostAsked_45 rfl rfl ?_
        refine g_istore_n hx 46 (i := 2) [(2, .int v3_1444), (1, .int v4_1446), (4, .int v4_1446), (0, .ref B), (3, .int v3_1444)] dX10_mostAsked_46 rfl (by decide) rfl ?_
        refine g_iinc hx 47 (i := 3) 4 (v3_1444 + 1) [(3, .int (v3_1444 + 1)), (2, .int v3_1444), (1, .int v4_1446), (4, .int v4_1446), (0, .ref B)] dX10_mostAsked_47 rfl rfl (by decide) rfl ?_
        refine g_goto hx 50 6 dX10_mostAsked_50 (by decide) ?_
        refine g_ls [4, 2, 1, 0] [(0, .ref B), (1, .int v4_1446), (2, .int v3_1444), (3, .int (v3_1444 + 1))] rfl ?_
        exact ih v4_1446 v3_1444 (v3_1444 + 1) hr
set_option maxRecDepth 100000 in
set_option maxHeartbeats 4000000 in
theorem c_SA_mostAsked {ad ae : Nat → Nat} (l : Launch) (g : Gl) (hC : KAll g ad ae) (σ : Hp) (B : Nat) (M : WM) {r : Int32} (hr : SA_mostAsked M = some r) : MG l g md_SA_mostAsked [.ref B] (putW σ B ae M) (rs (some (.int r)) (putW σ B ae M)) := by
  refine MG.intro (by decide +kernel) (Nat.le_of_ble_eq_true rfl) (fun X hx hR _ => ?_)
  unfold SA_mostAsked at hr
  refine g_ls [0] [(0, .ref B)] rfl ?_
  refine g_iconst hx 0 (0) dX10_mostAsked_0 rfl ?_
  refine g_istore_n hx 1 (i := 1) [(1, .int 0), (0, .ref B)] dX10_mostAsked_1 rfl (by decide) rfl ?_
  refine g_iconst hx 2 (-1) dX10_mostAsked_2 rfl ?_
  refine g_istore_n hx 3 (i := 2) [(2, .int (-1)), (1, .int 0), (0, .ref B)] dX10_mostAsked_3 rfl (by decide) rfl ?_
  refine g_iconst hx 4 (0) dX10_mostAsked_4 rfl ?_
  refine g_istore_n hx 5 (i := 3) [(3, .int 0), (2, .int (-1)), (1, .int 0), (0, .ref B)] dX10_mostAsked_5 rfl (by decide) rfl ?_
  refine g_ls [3, 2, 1, 0] [(0, .ref B), (1, .int 0), (2, .int (-1)), (3, .int 0)] rfl ?_
  exact w_SA_mostAsked_L6 hx hC hR FU 0 (-1) 0 hr
def SA_why (M : WM) (p1 p2 : Int32) : Option (Nat ⊕ (Int32)) := if St_hasReader (M.1 9) p1 = 0 then (some (.inl 1)) else (if St_hasFolder (M.1 9) p2 = 0 then (some (.inl 1)) else (Option.bind (St_refusal (M.1 9) p1 p2) fun q_1450 => some (.inr q_1450)))
set_option maxRecDepth 100000 in
set_option maxHeartbeats 4000000 in
theorem c_SA_why {ad ae : Nat → Nat} (l : Launch) (g : Gl) (hC : KAll g ad ae) (hl : l.stackTraces = false) (σ : Hp) (B : Nat) (M : WM) (p1 p2 : Int32) {r : Nat ⊕ (Int32)} (hr : SA_why M p1 p2 = some r) : VG l g md_SA_why [.ref B, .int p1, .int p2] (putW σ B ae M) (fun v1 σ1 => ∃ u, r = .inr u ∧ v1 = some (.int u) ∧ σ1 = putW σ B ae M) (pxW r (putW σ B ae M).2) := by
  refine VG.intro (by decide +kernel) (Nat.le_of_ble_eq_true rfl) (fun X hx hR => ?_)
  unfold SA_why at hr
  refine g_ls [0, 1, 2] [(0, .ref B), (1, .int p1), (2, .int p2)] rfl ?_
  refine g_aload_n hx 0 (i := 0) 0 dX10_why_0 rfl rfl ?_
  refine g_get hx 1 (C := RX10) (T := TX10) (N := 11) 6 (.ref (B + 332)) (pW σ B ae M 0 (by decide)) rfl (by decide) rfl fl_X10_50 dX10_why_1 ?_
  refine g_iload_n hx 4 (i := 1) 1 dX10_why_4 rfl rfl ?_
  refine g_callVr hx (MG.ar9 (w := M) (c_St_hasReader l g (putW σ B ae M) (B + 332) (M.1 9) p1 rfl)) lk_X10_198 ar_St_hasReader (pW_st9 σ B ae M 0 (by decide)) (T := TX8) (N := 15) rfl (As := [.int p1]) (rest := []) rfl (Nat.le_of_ble_eq_true rfl) ⟨Nat.le_of_ble_eq_true rfl, Nat.le_of_ble_eq_true rfl⟩ ⟨rfl, rfl⟩ ⟨Nat.zero_le _, Nat.zero_le _⟩ dX10_why_5 ?_
  refine g_if_eq hx 8 22 dX10_why_8 (by decide) (fun hc_1448 => ?_) (fun hc_1448 => ?_)
  · have hr := (if_pos hc_1448).symm.trans hr
    exact g_throwN hx hR hl 22 (cls := nse) xk_X10_175 xi_nse (hC.1.2.2 _ (List.mem_of_getElem? (i := 8) rfl)) (fun U hU => (hC.2.2.1 U hU).2.1) xo_X10_175_179 (by decide +kernel) (fun U hU => ⟨(hC.2.2.1 U hU).2.2.1, (hC.2.2.1 U hU).2.2.2⟩) dX10_why_22 dX10_why_25 dX10_why_26 dX10_why_28 dX10_why_31 (Nat.le_of_ble_eq_true rfl) ⟨Nat.le_of_ble_eq_true rfl, Nat.le_of_ble_eq_true rfl⟩ ⟨Nat.le_of_ble_eq_true rfl, Nat.le_of_ble_eq_true rfl⟩ ⟨Nat.le_of_ble_eq_true rfl, Nat.le_of_ble_eq_true rfl⟩ (fun z => ⟨_, (Option.some.inj hr).symm, rfl, rfl⟩)
  · have hr := (if_neg hc_1448).symm.trans hr
    refine g_aload_n hx 11 (i := 0) 0 dX10_why_11 rfl rfl ?_
    refine g_get hx 12 (C := RX10) (T := TX10) (N := 11) 6 (.ref (B + 332)) (pW σ B ae M 0 (by decide)) rfl (by decide) rfl fl_X10_50 dX10_why_12 ?_
    refine g_iload_n hx 15 (i := 2) 2 dX10_why_15 rfl rfl ?_
    refine g_callVr hx (MG.ar9 (w := M) (c_St_hasFolder l g (putW σ B ae M) (B + 332) (M.1 9) p2 rfl)) lk_X10_171 ar_St_hasFolder (pW_st9 σ B ae M 0 (by decide)) (T := TX8) (N := 15) rfl (As := [.int p2]) (rest := []) rfl (Nat.le_of_ble_eq_true rfl) ⟨Nat.le_of_ble_eq_true rfl, Nat.le_of_ble_eq_true rfl⟩ ⟨rfl, rfl⟩ ⟨Nat.zero_le _, Nat.zero_le _⟩ dX10_why_16 ?_
    refine g_if_ne hx 19 32 dX10_why_19 (by decide) (fun hc_1449 => ?_) (fun hc_1449 => ?_)
    · have hr := (if_neg hc_1449).symm.trans hr
      refine g_aload_n hx 32 (i := 0) 0 dX10_why_32 rfl rfl ?_
      refine g_get hx 33 (C := RX10) (T := TX10) (N := 11) 6 (.ref (B + 332)) (pW σ B ae M 0 (by decide)) rfl (by decide) rfl fl_X10_50 dX10_why_33 ?_
      refine g_iload_n hx 36 (i := 1) 1 dX10_why_36 rfl rfl ?_
      refine g_iload_n hx 37 (i := 2) 2 dX10_why_37 rfl rfl ?_
      obtain ⟨q_1450, eq_1450, hr⟩ := bind_e hr
      refine g_callVr hx (MG.ar9 (w := M) (c_St_refusal l g (putW σ B ae M) (B + 332) (M.1 9) p1 p2 eq_1450)) lk_X10_257 ar_St_refusal (pW_st9 σ B ae M 0 (by decide)) (T := TX8) (N := 15) rfl (As := [.int p1, .int p2]) (rest := []) rfl (Nat.le_of_ble_eq_true rfl) ⟨Nat.le_of_ble_eq_true rfl, Nat.le_of_ble_eq_true rfl⟩ ⟨rfl, rfl⟩ ⟨Nat.zero_le _, Nat.zero_le _⟩ dX10_why_38 ?_
      exact g_iretV hx hR 41 dX10_why_41 ⟨Nat.le_of_ble_eq_true rfl, Nat.le_of_ble_eq_true rfl⟩ ⟨_, (Option.some.inj hr).symm, rfl, rfl⟩
    · have hr := (if_pos hc_1449).symm.trans hr
      exact g_throwN hx hR hl 22 (cls := nse) xk_X10_175 xi_nse (hC.1.2.2 _ (List.mem_of_getElem? (i := 8) rfl)) (fun U hU => (hC.2.2.1 U hU).2.1) xo_X10_175_179 (by decide +kernel) (fun U hU => ⟨(hC.2.2.1 U hU).2.2.1, (hC.2.2.1 U hU).2.2.2⟩) dX10_why_22 dX10_why_25 dX10_why_26 dX10_why_28 dX10_why_31 (Nat.le_of_ble_eq_true rfl) ⟨Nat.le_of_ble_eq_true rfl, Nat.le_of_ble_eq_true rfl⟩ ⟨Nat.le_of_ble_eq_true rfl, Nat.le_of_ble_eq_true rfl⟩ ⟨Nat.le_of_ble_eq_true rfl, Nat.le_of_ble_eq_true rfl⟩ (fun z => ⟨_, (Option.some.inj hr).symm, rfl, rfl⟩)
def SA_cause (M : WM) (p1 p2 : Int32) : Option (Nat ⊕ (Int32)) := if St_hasReader (M.1 9) p1 = 0 then (some (.inl 1)) else (if St_hasFolder (M.1 9) p2 = 0 then (some (.inl 1)) else (Option.bind (St_refusal (M.1 9) p1 p2) fun q_1453 => Option.bind (if q_1453 = (-3) then (Option.bind (Sl_placeFor (M.1 9) p1 p2) fun q_1455 => some q_1455) else (some (-1))) fun b_1456 => some (.inr b_1456)))
set_option maxRecDepth 100000 in
set_option maxHeartbeats 4000000 in
theorem c_SA_cause {ad ae : Nat → Nat} (l : Launch) (g : Gl) (hC : KAll g ad ae) (hl : l.stackTraces = false) (σ : Hp) (B : Nat) (M : WM) (p1 p2 : Int32) {r : Nat ⊕ (Int32)} (hr : SA_cause M p1 p2 = some r) : VG l g md_SA_cause [.ref B, .int p1, .int p2] (putW σ B ae M) (fun v1 σ1 => ∃ u, r = .inr u ∧ v1 = some (.int u) ∧ σ1 = putW σ B ae M) (pxW r (putW σ B ae M).2) := by
  refine VG.intro (by decide +kernel) (Nat.le_of_ble_eq_true rfl) (fun X hx hR => ?_)
  unfold SA_cause at hr
  refine g_ls [0, 1, 2] [(0, .ref B), (1, .int p1), (2, .int p2)] rfl ?_
  refine g_aload_n hx 0 (i := 0) 0 dX10_cause_0 rfl rfl ?_
  refine g_get hx 1 (C := RX10) (T := TX10) (N := 11) 6 (.ref (B + 332)) (pW σ B ae M 0 (by decide)) rfl (by decide) rfl fl_X10_50 dX10_cause_1 ?_
  refine g_iload_n hx 4 (i := 1) 1 dX10_cause_4 rfl rfl ?_
  refine g_callVr hx (MG.ar9 (w := M) (c_St_hasReader l g (putW σ B ae M) (B + 332) (M.1 9) p1 rfl)) lk_X10_198 ar_St_hasReader (pW_st9 σ B ae M 0 (by decide)) (T := TX8) (N := 15) rfl (As := [.int p1]) (rest := []) rfl (Nat.le_of_ble_eq_true rfl) ⟨Nat.le_of_ble_eq_true rfl, Nat.le_of_ble_eq_true rfl⟩ ⟨rfl, rfl⟩ ⟨Nat.zero_le _, Nat.zero_le _⟩ dX10_cause_5 ?_
  refine g_if_eq hx 8 22 dX10_cause_8 (by decide) (fun hc_1451 => ?_) (fun hc_1451 => ?_)
  · have hr := (if_pos hc_1451).symm.trans hr
    exact g_throwN hx hR hl 22 (cls := nse) xk_X10_175 xi_nse (hC.1.2.2 _ (List.mem_of_getElem? (i := 8) rfl)) (fun U hU => (hC.2.2.1 U hU).2.1) xo_X10_175_179 (by decide +kernel) (fun U hU => ⟨(hC.2.2.1 U hU).2.2.1, (hC.2.2.1 U hU).2.2.2⟩) dX10_cause_22 dX10_cause_25 dX10_cause_26 dX10_cause_28 dX10_cause_31 (Nat.le_of_ble_eq_true rfl) ⟨Nat.le_of_ble_eq_true rfl, Nat.le_of_ble_eq_true rfl⟩ ⟨Nat.le_of_ble_eq_true rfl, Nat.le_of_ble_eq_true rfl⟩ ⟨Nat.le_of_ble_eq_true rfl, Nat.le_of_ble_eq_true rfl⟩ (fun z => ⟨_, (Option.some.inj hr).symm, rfl, rfl⟩)
  · have hr := (if_neg hc_1451).symm.trans hr
    refine g_aload_n hx 11 (i := 0) 0 dX10_cause_11 rfl rfl ?_
    refine g_get hx 12 (C := RX10) (T := TX10) (N := 11) 6 (.ref (B + 332)) (pW σ B ae M 0 (by decide)) rfl (by decide) rfl fl_X10_50 dX10_cause_12 ?_
    refine g_iload_n hx 15 (i := 2) 2 dX10_cause_15 rfl rfl ?_
    refine g_callVr hx (MG.ar9 (w := M) (c_St_hasFolder l g (putW σ B ae M) (B + 332) (M.1 9) p2 rfl)) lk_X10_171 ar_St_hasFolder (pW_st9 σ B ae M 0 (by decide)) (T := TX8) (N := 15) rfl (As := [.int p2]) (rest := []) rfl (Nat.le_of_ble_eq_true rfl) ⟨Nat.le_of_ble_eq_true rfl, Nat.le_of_ble_eq_true rfl⟩ ⟨rfl, rfl⟩ ⟨Nat.zero_le _, Nat.zero_le _⟩ dX10_cause_16 ?_
    refine g_if_ne hx 19 32 dX10_cause_19 (by decide) (fun hc_1452 => ?_) (fun hc_1452 => ?_)
    · have hr := (if_neg hc_1452).symm.trans hr
      refine g_aload_n hx 32 (i := 0) 0 dX10_cause_32 rfl rfl ?_
      refine g_get hx 33 (C := RX10) (T := TX10) (N := 11) 6 (.ref (B + 332)) (pW σ B ae M 0 (by decide)) rfl (by decide) rfl fl_X10_50 dX10_cause_33 ?_
      refine g_iload_n hx 36 (i := 1) 1 dX10_cause_36 rfl rfl ?_
      refine g_iload_n hx 37 (i := 2) 2 dX10_cause_37 rfl rfl ?_
      obtain ⟨q_1453, eq_1453, hr⟩ := bind_e hr
      refine g_callVr hx (MG.ar9 (w := M) (c_St_refusal l g (putW σ B ae M) (B + 332) (M.1 9) p1 p2 eq_1453)) lk_X10_257 ar_St_refusal (pW_st9 σ B ae M 0 (by decide)) (T := TX8) (N := 15) rfl (As := [.int p1, .int p2]) (rest := []) rfl (Nat.le_of_ble_eq_true rfl) ⟨Nat.le_of_ble_eq_true rfl, Nat.le_of_ble_eq_true rfl⟩ ⟨rfl, rfl⟩ ⟨Nat.zero_le _, Nat.zero_le _⟩ dX10_cause_38 ?_
      refine g_bipush hx 41 (-3) dX10_cause_41 rfl ?_
      obtain ⟨b_1456, eb_1456, hr⟩ := bind_e hr
      have rest : G X (putW σ B ae M) 0 0 62 [(0, .ref B), (1, .int p1), (2, .int p2)] [.int b_1456] := by
        exact g_iretV hx hR 62 dX10_cause_62 ⟨Nat.le_of_ble_eq_true rfl, Nat.le_of_ble_eq_true rfl⟩ ⟨_, (Option.some.inj hr).symm, rfl, rfl⟩
      clear hr
      have hr := eb_1456
      refine g_icmp_ne hx 43 61 dX10_cause_43 (by decide) (fun hc_1454 => ?_) (fun hc_1454 => ?_)
      · have hr := (if_neg hc_1454).symm.trans hr
        refine g_iconst hx 61 (-1) dX10_cause_61 rfl ?_
        exact g_nmi (Option.some.inj hr).symm rest
      · have hr := (if_pos hc_1454).symm.trans hr
        refine g_aload_n hx 46 (i := 0) 0 dX10_cause_46 rfl rfl ?_
        refine g_get hx 47 (C := RX10) (T := TX10) (N := 11) 6 (.ref (B + 332)) (pW σ B ae M 0 (by decide)) rfl (by decide) rfl fl_X10_50 dX10_cause_47 ?_
        refine g_get hx 50 (C := RX8) (T := TX8) (N := 15) 13 (.ref (B + 332 + 24)) (pW_st9 σ B ae M 0 (by decide)) rfl (by decide) rfl fl_X10_148 dX10_cause_50 ?_
        refine g_iload_n hx 53 (i := 1) 1 dX10_cause_53 rfl rfl ?_
        refine g_iload_n hx 54 (i := 2) 2 dX10_cause_54 rfl rfl ?_
        obtain ⟨q_1455, eq_1455, hr⟩ := bind_e hr
        refine g_callVr hx (MG.ar9 (w := M) (c_Sl_placeFor l g (putW σ B ae M) (B + 332) (M.1 9) p1 p2 eq_1455)) lk_X10_261 ar_Sl_placeFor (pW_st9 σ B ae M 24 (by decide)) (T := TX7) (N := 4) rfl (As := [.int p1, .int p2]) (rest := []) rfl (Nat.le_of_ble_eq_true rfl) ⟨Nat.le_of_ble_eq_true rfl, Nat.le_of_ble_eq_true rfl⟩ ⟨rfl, rfl⟩ ⟨Nat.zero_le _, Nat.zero_le _⟩ dX10_cause_55 ?_
        refine g_goto hx 58 62 dX10_cause_58 (by decide) ?_
        exact g_nmi (Option.some.inj hr).symm rest
    · have hr := (if_pos hc_1452).symm.trans hr
      exact g_throwN hx hR hl 22 (cls := nse) xk_X10_175 xi_nse (hC.1.2.2 _ (List.mem_of_getElem? (i := 8) rfl)) (fun U hU => (hC.2.2.1 U hU).2.1) xo_X10_175_179 (by decide +kernel) (fun U hU => ⟨(hC.2.2.1 U hU).2.2.1, (hC.2.2.1 U hU).2.2.2⟩) dX10_cause_22 dX10_cause_25 dX10_cause_26 dX10_cause_28 dX10_cause_31 (Nat.le_of_ble_eq_true rfl) ⟨Nat.le_of_ble_eq_true rfl, Nat.le_of_ble_eq_true rfl⟩ ⟨Nat.le_of_ble_eq_true rfl, Nat.le_of_ble_eq_true rfl⟩ ⟨Nat.le_of_ble_eq_true rfl, Nat.le_of_ble_eq_true rfl⟩ (fun z => ⟨_, (Option.some.inj hr).symm, rfl, rfl⟩)
def SA_waitsFor (M : WM) (p1 : Int32) : Int32 := if Sl_has (M.1 9) p1 = 0 then ((-1)) else (lt' (lnget ((M.1 9).2 12) p1) fun v2_1458 => if St_idleness (M.1 9) p1 = 1 then (lnget ((M.1 9).2 3) v2_1458) else (if St_idleness (M.1 9) p1 = 2 then (St_daysToRefiling (M.1 9)) else (if St_idleness (M.1 9) p1 = 3 then ((lnget ((M.1 9).2 1) v2_1458) - ((M.1 9).1 0)) else (if St_idleness (M.1 9) p1 = 4 then (lnget ((M.1 9).2 5) (lnget ((M.1 9).2 11) p1)) else ((-1))))))
set_option maxRecDepth 100000 in
set_option maxHeartbeats 4000000 in
theorem c_SA_waitsFor {ad ae : Nat → Nat} (l : Launch) (g : Gl) (hC : KAll g ad ae) (σ : Hp) (B : Nat) (M : WM) (p1 : Int32) {r : Int32} (hr : SA_waitsFor M p1 = r) : MG l g md_SA_waitsFor [.ref B, .int p1] (putW σ B ae M) (rs (some (.int r)) (putW σ B ae M)) := by
  refine MG.intro (by decide +kernel) (Nat.le_of_ble_eq_true rfl) (fun X hx hR _ => ?_)
  unfold SA_waitsFor at hr
  refine g_ls [0, 1] [(0, .ref B), (1, .int p1)] rfl ?_
  refine g_aload_n hx 0 (i := 0) 0 dX10_waitsFor_0 rfl rfl ?_
  refine g_get hx 1 (C := RX10) (T := TX10) (N := 11) 6 (.ref (B + 332)) (pW σ B ae M 0 (by decide)) rfl (by decide) rfl fl_X10_50 dX10_waitsFor_1 ?_
  refine g_get hx 4 (C := RX8) (T := TX8) (N := 15) 13 (.ref (B + 332 + 24)) (pW_st9 σ B ae M 0 (by decide)) rfl (by decide) rfl fl_X10_148 dX10_waitsFor_4 ?_
  refine g_iload_n hx 7 (i := 1) 1 dX10_waitsFor_7 rfl rfl ?_
  refine g_callVr hx (MG.ar9 (w := M) (c_Sl_has l g (putW σ B ae M) (B + 332) (M.1 9) p1 rfl)) lk_X10_219 ar_Sl_has (pW_st9 σ B ae M 24 (by decide)) (T := TX7) (N := 4) rfl (As := [.int p1]) (rest := []) rfl (Nat.le_of_ble_eq_true rfl) ⟨Nat.le_of_ble_eq_true rfl, Nat.le_of_ble_eq_true rfl⟩ ⟨rfl, rfl⟩ ⟨Nat.zero_le _, Nat.zero_le _⟩ dX10_waitsFor_8 ?_
  refine g_if_ne hx 11 16 dX10_waitsFor_11 (by decide) (fun hc_1457 => ?_) (fun hc_1457 => ?_)
  · have hr := (if_neg hc_1457).symm.trans hr
    refine g_aload_n hx 16 (i := 0) 0 dX10_waitsFor_16 rfl rfl ?_
    refine g_get hx 17 (C := RX10) (T := TX10) (N := 11) 6 (.ref (B + 332)) (pW σ B ae M 0 (by decide)) rfl (by decide) rfl fl_X10_50 dX10_waitsFor_17 ?_
    refine g_get hx 20 (C := RX8) (T := TX8) (N := 15) 13 (.ref (B + 332 + 24)) (pW_st9 σ B ae M 0 (by decide)) rfl (by decide) rfl fl_X10_148 dX10_waitsFor_20 ?_
    refine g_get hx 23 (C := RX7) (T := TX7) (N := 4) 1 (.ref (B + 332 + 27)) (pW_st9 σ B ae M 24 (by decide)) rfl (by decide) rfl fl_X10_186 dX10_waitsFor_23 ?_
    refine g_iload_n hx 26 (i := 1) 1 dX10_waitsFor_26 rfl rfl ?_
    refine g_callVr hx (k_get l g (st_l12 (pW_st9 σ B ae M)) (by decide) p1) lk_X10_165 ar_Ln_get (st_l12 (pW_st9 σ B ae M)).1 (T := TX2) (N := 2) rfl (As := [.int p1]) (rest := []) rfl (Nat.le_of_ble_eq_true rfl) ⟨Nat.le_of_ble_eq_true rfl, Nat.le_of_ble_eq_true rfl⟩ ⟨rfl, rfl⟩ ⟨Nat.zero_le _, Nat.zero_le _⟩ dX10_waitsFor_27 ?_
    obtain ⟨v2_1458, ev2_1458, hr⟩ := lt'_e hr
    refine g_nmi ev2_1458 ?_
    refine g_istore_n hx 30 (i := 2) [(2, .int v2_1458), (0, .ref B), (1, .int p1)] dX10_waitsFor_30 rfl (by decide) rfl ?_
    refine g_aload_n hx 31 (i := 0) 1 dX10_waitsFor_31 rfl rfl ?_
    refine g_get hx 32 (C := RX10) (T := TX10) (N := 11) 6 (.ref (B + 332)) (pW σ B ae M 0 (by decide)) rfl (by decide) rfl fl_X10_50 dX10_waitsFor_32 ?_
    refine g_iload_n hx 35 (i := 1) 2 dX10_waitsFor_35 rfl rfl ?_
    refine g_callVr hx (MG.ar9 (w := M) (c_St_idleness l g (putW σ B ae M) (B + 332) (M.1 9) p1 rfl)) lk_X10_222 ar_St_idleness (pW_st9 σ B ae M 0 (by decide)) (T := TX8) (N := 15) rfl (As := [.int p1]) (rest := []) rfl (Nat.le_of_ble_eq_true rfl) ⟨Nat.le_of_ble_eq_true rfl, Nat.le_of_ble_eq_true rfl⟩ ⟨rfl, rfl⟩ ⟨Nat.zero_le _, Nat.zero_le _⟩ dX10_waitsFor_36 ?_
    by_cases hc_1459 : St_idleness (M.1 9) p1 = 1
    · have hr := (if_pos hc_1459).symm.trans hr
      refine g_tableIn hx 39 68 dX10_waitsFor_39 (by rw [hc_1459]; decide) (by rw [hc_1459]; decide) (by rw [hc_1459]; rfl) (by decide) ?_
      refine g_aload_n hx 68 (i := 0) 1 dX10_waitsFor_68 rfl rfl ?_
      refine g_get hx 69 (C := RX10) (T := TX10) (N := 11) 6 (.ref (B + 332)) (pW σ B ae M 0 (by decide)) rfl (by decide) rfl fl_X10_50 dX10_waitsFor_69 ?_
      refine g_get hx 72 (C := RX8) (T := TX8) (N := 15) 7 (.ref (B + 332 + 7)) (pW_st9 σ B ae M 0 (by decide)) rfl (by decide) rfl fl_X10_264 dX10_waitsFor_72 ?_
      refine g_iload_n hx 75 (i := 2) 0 dX10_waitsFor_75 rfl rfl ?_
      refine g_callVr hx (k_get l g (st_l3 (pW_st9 σ B ae M)) (by decide) v2_1458) lk_X10_165 ar_Ln_get (st_l3 (pW_st9 σ B ae M)).1 (T := TX2) (N := 2) rfl (As := [.int v2_1458]) (rest := []) rfl (Nat.le_of_ble_eq_true rfl) ⟨Nat.le_of_ble_eq_true rfl, Nat.le_of_ble_eq_true rfl⟩ ⟨rfl, rfl⟩ ⟨Nat.zero_le _, Nat.zero_le _⟩ dX10_waitsFor_76 ?_
      exact g_iret hx hR 79 dX10_waitsFor_79 ⟨by rw [← hr] <;> rfl, rfl⟩
    · have hr := (if_neg hc_1459).symm.trans hr
      by_cases hc_1460 : St_idleness (M.1 9) p1 = 2
      · have hr := (if_pos hc_1460).symm.trans hr
        refine g_tableIn hx 39 80 dX10_waitsFor_39 (by rw [hc_1460]; decide) (by rw [hc_1460]; decide) (by rw [hc_1460]; rfl) (by decide) ?_
        refine g_aload_n hx 80 (i := 0) 1 dX10_waitsFor_80 rfl rfl ?_
        refine g_get hx 81 (C := RX10) (T := TX10) (N := 11) 6 (.ref (B + 332)) (pW σ B ae M 0 (by decide)) rfl (by decide) rfl fl_X10_50 dX10_waitsFor_81 ?_
        refine g_callVr hx (MG.ar9 (w := M) (c_St_daysToRefiling l g (putW σ B ae M) (B + 332) (M.1 9) rfl)) lk_X10_158 ar_St_daysToRefiling (pW_st9 σ B ae M 0 (by decide)) (T := TX8) (N := 15) rfl (As := []) (rest := []) rfl (Nat.le_of_ble_eq_true rfl) ⟨Nat.le_of_ble_eq_true rfl, Nat.le_of_ble_eq_true rfl⟩ ⟨rfl, rfl⟩ ⟨Nat.zero_le _, Nat.zero_le _⟩ dX10_waitsFor_84 ?_
        exact g_iret hx hR 87 dX10_waitsFor_87 ⟨by rw [← hr] <;> rfl, rfl⟩
      · have hr := (if_neg hc_1460).symm.trans hr
        by_cases hc_1461 : St_idleness (M.1 9) p1 = 3
        · have hr := (if_pos hc_1461).symm.trans hr
          refine g_tableIn hx 39 88 dX10_waitsFor_39 (by rw [hc_1461]; decide) (by rw [hc_1461]; decide) (by rw [hc_1461]; rfl) (by decide) ?_
          refine g_aload_n hx 88 (i := 0) 1 dX10_waitsFor_88 rfl rfl ?_
          refine g_get hx 89 (C := RX10) (T := TX10) (N := 11) 6 (.ref (B + 332)) (pW σ B ae M 0 (by decide)) rfl (by decide) rfl fl_X10_50 dX10_waitsFor_89 ?_
          refine g_get hx 92 (C := RX8) (T := TX8) (N := 15) 5 (.ref (B + 332 + 3)) (pW_st9 σ B ae M 0 (by decide)) rfl (by decide) rfl fl_X10_180 dX10_waitsFor_92 ?_
          refine g_iload_n hx 95 (i := 2) 0 dX10_waitsFor_95 rfl rfl ?_
          refine g_callVr hx (k_get l g (st_l1 (pW_st9 σ B ae M)) (by decide) v2_1458) lk_X10_165 ar_Ln_get (st_l1 (pW_st9 σ B ae M)).1 (T := TX2) (N := 2) rfl (As := [.int v2_1458]) (rest := []) rfl (Nat.le_of_ble_eq_true rfl) ⟨Nat.le_of_ble_eq_true rfl, Nat.le_of_ble_eq_true rfl⟩ ⟨rfl, rfl⟩ ⟨Nat.zero_le _, Nat.zero_le _⟩ dX10_waitsFor_96 ?_
          refine g_aload_n hx 99 (i := 0) 1 dX10_waitsFor_99 rfl rfl ?_
          refine g_get hx 100 (C := RX10) (T := TX10) (N := 11) 6 (.ref (B + 332)) (pW σ B ae M 0 (by decide)) rfl (by decide) rfl fl_X10_50 dX10_waitsFor_100 ?_
          refine g_get hx 103 (C := RX8) (T := TX8) (N := 15) 0 (.int ((M.1 9).1 0)) (pW_st9 σ B ae M 0 (by decide)) rfl (by decide) rfl fl_X10_114 dX10_waitsFor_103 ?_
          refine g_isub hx 106 dX10_waitsFor_106 ?_
          exact g_iret hx hR 107 dX10_waitsFor_107 ⟨by rw [← hr] <;> rfl, rfl⟩
        · have hr := (if_neg hc_1461).symm.trans hr
          by_cases hc_1462 : St_idleness (M.1 9) p1 = 4
          · have hr := (if_pos hc_1462).symm.trans hr
            refine g_tableIn hx 39 108 dX10_waitsFor_39 (by rw [hc_1462]; decide) (by rw [hc_1462]; decide) (by rw [hc_1462]; rfl) (by decide) ?_
            refine g_aload_n hx 108 (i := 0) 1 dX10_waitsFor_108 rfl rfl ?_
            refine g_get hx 109 (C := RX10) (T := TX10) (N := 11) 6 (.ref (B + 332)) (pW σ B ae M 0 (by decide)) rfl (by decide) rfl fl_X10_50 dX10_waitsFor_109 ?_
            refine g_get hx 112 (C := RX8) (T := TX8) (N := 15) 9 (.ref (B + 332 + 11)) (pW_st9 σ B ae M 0 (by decide)) rfl (by decide) rfl fl_X10_123 dX10_waitsFor_112 ?_
            refine g_aload_n hx 115 (i := 0) 1 dX10_waitsFor_115 rfl rfl ?_
            refine g_get hx 116 (C := RX10) (T := TX10) (N := 11) 6 (.ref (B + 332)) (pW σ B ae M 0 (by decide)) rfl (by decide) rfl fl_X10_50 dX10_waitsFor_116 ?_
            refine g_get hx 119 (C := RX8) (T := TX8) (N := 15) 13 (.ref (B + 332 + 24)) (pW_st9 σ B ae M 0 (by decide)) rfl (by decide) rfl fl_X10_148 dX10_waitsFor_119 ?_
            refine g_get hx 122 (C := RX7) (T := TX7) (N := 4) 0 (.ref (B + 332 + 25)) (pW_st9 σ B ae M 24 (by decide)) rfl (by decide) rfl fl_X10_203 dX10_waitsFor_122 ?_
            refine g_iload_n hx 125 (i := 1) 2 dX10_waitsFor_125 rfl rfl ?_
            refine g_callVr hx (k_get l g (st_l11 (pW_st9 σ B ae M)) (by decide) p1) lk_X10_165 ar_Ln_get (st_l11 (pW_st9 σ B ae M)).1 (T := TX2) (N := 2) rfl (As := [.int p1]) (rest := [.ref (B + 332 + 11)]) rfl (Nat.le_of_ble_eq_true rfl) ⟨Nat.le_of_ble_eq_true rfl, Nat.le_of_ble_eq_true rfl⟩ ⟨rfl, rfl⟩ ⟨Nat.zero_le _, Nat.zero_le _⟩ dX10_waitsFor_126 ?_
            refine g_callVr hx (k_get l g (st_l5 (pW_st9 σ B ae M)) (by decide) (lnget ((M.1 9).2 11) p1)) lk_X10_165 ar_Ln_get (st_l5 (pW_st9 σ B ae M)).1 (T := TX2) (N := 2) rfl (As := [.int (lnget ((M.1 9).2 11) p1)]) (rest := []) rfl (Nat.le_of_ble_eq_true rfl) ⟨Nat.le_of_ble_eq_true rfl, Nat.le_of_ble_eq_true rfl⟩ ⟨rfl, rfl⟩ ⟨Nat.zero_le _, Nat.zero_le _⟩ dX10_waitsFor_129 ?_
            exact g_iret hx hR 132 dX10_waitsFor_132 ⟨by rw [← hr] <;> rfl, rfl⟩
          · have hr := (if_neg hc_1462).symm.trans hr
            refine g_tableOut hx 39 133 dX10_waitsFor_39 (sw_out (fun c h1 h2 hq => by have hc : c = 1 ∨ c = 2 ∨ c = 3 ∨ c = 4 := (by omega); rcases hc with rfl | rfl | rfl | rfl <;> first | exact lv_neT hc_1459 rfl hq | exact lv_neT hc_1460 rfl hq | exact lv_neT hc_1461 rfl hq | exact lv_neT hc_1462 rfl hq)) (by decide) ?_
            refine g_iconst hx 133 (-1) dX10_waitsFor_133 rfl ?_
            exact g_iret hx hR 134 dX10_waitsFor_134 ⟨by rw [← hr] <;> rfl, rfl⟩
  · have hr := (if_pos hc_1457).symm.trans hr
    refine g_iconst hx 14 (-1) dX10_waitsFor_14 rfl ?_
    exact g_iret hx hR 15 dX10_waitsFor_15 ⟨by rw [← hr] <;> rfl, rfl⟩
