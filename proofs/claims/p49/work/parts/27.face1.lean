def md_SA_appendBytes : Md := (yX10_appendBytes, cX10_appendBytes, 3, none, 1, 21, 0, 0)
def md_SA_feed : Md := (yX10_feed, cX10_feed, 6, some .int, 2, 43, 0, 0)
def md_SA_load : Md := (yX10_load, cX10_load, 3, some .int, 7, 170, 0, 0)
def md_SA_size : Md := (yX10_size, cX10_size, 2, some .int, 3, 64, 0, 0)
def md_SA_account : Md := (yX10_account, cX10_account, 2, some .int, 1, 60, 0, 0)
def md_SA_folder : Md := (yX10_folder, cX10_folder, 3, some .int, 2, 60, 0, 0)
def md_SA_marked : Md := (yX10_marked, cX10_marked, 2, some .int, 1, 22, 0, 0)
def md_SA_at : Md := (yX10_at, cX10_at, 2, some .int, 1, 21, 0, 0)
def md_SA_reader : Md := (yX10_reader, cX10_reader, 3, some .int, 2, 60, 0, 0)
def md_SA_waiting : Md := (yX10_waiting, cX10_waiting, 3, some .int, 3, 65, 0, 0)
def md_SA_gap : Md := (yX10_gap, cX10_gap, 1, some .int, 3, 62, 0, 0)
def md_SA_found : Md := (yX10_found, cX10_found, 2, some .int, 2, 47, 0, 0)
def md_SA_looks : Md := (yX10_looks, cX10_looks, 2, some .int, 2, 47, 0, 0)
def md_SA_missed : Md := (yX10_missed, cX10_missed, 1, some .int, 3, 69, 0, 0)
def md_SA_refilePlace : Md := (yX10_refilePlace, cX10_refilePlace, 3, some .int, 2, 47, 0, 0)
def md_SA_inversions : Md := (yX10_inversions, cX10_inversions, 1, some .int, 3, 66, 0, 0)
def md_SA_longestOrdered : Md := (yX10_longestOrdered, cX10_longestOrdered, 1, some .int, 3, 84, 0, 0)
def md_SA_lookedAt : Md := (yX10_lookedAt, cX10_lookedAt, 3, some .int, 2, 47, 0, 0)
def md_SA_mostMisplaced : Md := (yX10_mostMisplaced, cX10_mostMisplaced, 1, some .int, 4, 90, 0, 0)
def md_SA_mostAsked : Md := (yX10_mostAsked, cX10_mostAsked, 5, some .int, 1, 23, 0, 0)
def md_SA_why : Md := (yX10_why, cX10_why, 3, some .int, 3, 66, 0, 0)
theorem fl_X10_14 : Cond.fieldLink RX10 14 (TX10 0).1 (TX10 0).2.1 (TX10 0).2.2.1 ∈ aw := aw1 (by decide +kernel)
theorem lk_X10_86 : Lk md_Ln_add [.methodLink RX10 86 md_Ln_add.y, .instanceMethod md_Ln_add.y, .selects md_Ln_add.y.cls md_Ln_add.y md_Ln_add.y] := lk_of (by decide +kernel)
theorem lk_X10_79 : Lk md_Ln_count [.methodLink RX10 79 md_Ln_count.y, .instanceMethod md_Ln_count.y, .selects md_Ln_count.y.cls md_Ln_count.y md_Ln_count.y] := lk_of (by decide +kernel)
theorem lk_X10_83 : Lk md_SA_appendBytes [.methodLink RX10 83 md_SA_appendBytes.y, .instanceMethod md_SA_appendBytes.y, .selects md_SA_appendBytes.y.cls md_SA_appendBytes.y md_SA_appendBytes.y] := lk_of (by decide +kernel)
theorem ar_SA_appendBytes : Arity md_SA_appendBytes 1 := ⟨by decide +kernel, by decide +kernel, by decide +kernel⟩
theorem fl_X10_29 : Cond.fieldLink RX10 29 (TX10 3).1 (TX10 3).2.1 (TX10 3).2.2.1 ∈ aw := aw1 (by decide +kernel)
theorem fl_X10_54 : Cond.fieldLink RX10 54 (TX10 7).1 (TX10 7).2.1 (TX10 7).2.2.1 ∈ aw := aw1 (by decide +kernel)
theorem lk_X10_96 : Lk md_Ps_readArchive [.methodLink RX10 96 md_Ps_readArchive.y, .instanceMethod md_Ps_readArchive.y, .selects md_Ps_readArchive.y.cls md_Ps_readArchive.y md_Ps_readArchive.y] := lk_of (by decide +kernel)
theorem ar_Ps_readArchive : Arity md_Ps_readArchive 2 := ⟨by decide +kernel, by decide +kernel, by decide +kernel⟩
theorem lk_X10_100 : Lk md_Ln_clear [.methodLink RX10 100 md_Ln_clear.y, .instanceMethod md_Ln_clear.y, .selects md_Ln_clear.y.cls md_Ln_clear.y md_Ln_clear.y] := lk_of (by decide +kernel)
theorem lk_X10_103 : Lk md_Ps_errorPlace [.methodLink RX10 103 md_Ps_errorPlace.y, .instanceMethod md_Ps_errorPlace.y, .selects md_Ps_errorPlace.y.cls md_Ps_errorPlace.y md_Ps_errorPlace.y] := lk_of (by decide +kernel)
theorem ar_Ps_errorPlace : Arity md_Ps_errorPlace 0 := ⟨by decide +kernel, by decide +kernel, by decide +kernel⟩
theorem fl_X10_64 : Cond.fieldLink RX10 64 (TX10 10).1 (TX10 10).2.1 (TX10 10).2.2.1 ∈ aw := aw1 (by decide +kernel)
theorem fl_X10_50 : Cond.fieldLink RX10 50 (TX10 6).1 (TX10 6).2.1 (TX10 6).2.2.1 ∈ aw := aw1 (by decide +kernel)
theorem lk_X10_106 : Lk md_St_copyFrom [.methodLink RX10 106 md_St_copyFrom.y, .instanceMethod md_St_copyFrom.y, .selects md_St_copyFrom.y.cls md_St_copyFrom.y md_St_copyFrom.y] := lk_of (by decide +kernel)
theorem fl_X10_43 : Cond.fieldLink RX10 43 (TX10 5).1 (TX10 5).2.1 (TX10 5).2.2.1 ∈ aw := aw1 (by decide +kernel)
theorem lk_X10_110 : Lk md_Hi_clear [.methodLink RX10 110 md_Hi_clear.y, .instanceMethod md_Hi_clear.y, .selects md_Hi_clear.y.cls md_Hi_clear.y md_Hi_clear.y] := lk_of (by decide +kernel)
theorem ar_Hi_clear : Arity md_Hi_clear 0 := ⟨by decide +kernel, by decide +kernel, by decide +kernel⟩
theorem fl_X10_60 : Cond.fieldLink RX10 60 (TX10 9).1 (TX10 9).2.1 (TX10 9).2.2.1 ∈ aw := aw1 (by decide +kernel)
theorem fl_X10_111 : Cond.fieldLink RX10 111 (TX8 4).1 (TX8 4).2.1 (TX8 4).2.2.1 ∈ aw := aw1 (by decide +kernel)
theorem fl_X10_114 : Cond.fieldLink RX10 114 (TX8 0).1 (TX8 0).2.1 (TX8 0).2.2.1 ∈ aw := aw1 (by decide +kernel)
theorem fl_X10_117 : Cond.fieldLink RX10 117 (TX8 1).1 (TX8 1).2.1 (TX8 1).2.2.1 ∈ aw := aw1 (by decide +kernel)
theorem fl_X10_120 : Cond.fieldLink RX10 120 (TX8 2).1 (TX8 2).2.1 (TX8 2).2.2.1 ∈ aw := aw1 (by decide +kernel)
theorem fl_X10_123 : Cond.fieldLink RX10 123 (TX8 9).1 (TX8 9).2.1 (TX8 9).2.2.1 ∈ aw := aw1 (by decide +kernel)
theorem fl_X10_126 : Cond.fieldLink RX10 126 (TX8 3).1 (TX8 3).2.1 (TX8 3).2.2.1 ∈ aw := aw1 (by decide +kernel)
theorem fl_X10_129 : Cond.fieldLink RX10 129 (TX8 11).1 (TX8 11).2.1 (TX8 11).2.2.1 ∈ aw := aw1 (by decide +kernel)
theorem fl_X10_133 : Cond.fieldLink RX10 133 (TX5 0).1 (TX5 0).2.1 (TX5 0).2.2.1 ∈ aw := aw1 (by decide +kernel)
theorem fl_X10_138 : Cond.fieldLink RX10 138 (TX8 6).1 (TX8 6).2.1 (TX8 6).2.2.1 ∈ aw := aw1 (by decide +kernel)
theorem lk_X10_141 : Lk md_Ln_countOf [.methodLink RX10 141 md_Ln_countOf.y, .instanceMethod md_Ln_countOf.y, .selects md_Ln_countOf.y.cls md_Ln_countOf.y md_Ln_countOf.y] := lk_of (by decide +kernel)
theorem fl_X10_145 : Cond.fieldLink RX10 145 (TX8 12).1 (TX8 12).2.1 (TX8 12).2.2.1 ∈ aw := aw1 (by decide +kernel)
theorem fl_X10_148 : Cond.fieldLink RX10 148 (TX8 13).1 (TX8 13).2.1 (TX8 13).2.2.1 ∈ aw := aw1 (by decide +kernel)
theorem lk_X10_152 : Lk md_Sl_count [.methodLink RX10 152 md_Sl_count.y, .instanceMethod md_Sl_count.y, .selects md_Sl_count.y.cls md_Sl_count.y md_Sl_count.y] := lk_of (by decide +kernel)
theorem lk_X10_155 : Lk md_Rw_wrongPairs [.methodLink RX10 155 md_Rw_wrongPairs.y, .instanceMethod md_Rw_wrongPairs.y, .selects md_Rw_wrongPairs.y.cls md_Rw_wrongPairs.y md_Rw_wrongPairs.y] := lk_of (by decide +kernel)
theorem ar_Rw_wrongPairs : Arity md_Rw_wrongPairs 0 := ⟨by decide +kernel, by decide +kernel, by decide +kernel⟩
theorem lk_X10_158 : Lk md_St_daysToRefiling [.methodLink RX10 158 md_St_daysToRefiling.y, .instanceMethod md_St_daysToRefiling.y, .selects md_St_daysToRefiling.y.cls md_St_daysToRefiling.y md_St_daysToRefiling.y] := lk_of (by decide +kernel)
theorem ar_St_daysToRefiling : Arity md_St_daysToRefiling 0 := ⟨by decide +kernel, by decide +kernel, by decide +kernel⟩
theorem fl_X10_168 : Cond.fieldLink RX10 168 (TX8 14).1 (TX8 14).2.1 (TX8 14).2.2.1 ∈ aw := aw1 (by decide +kernel)
theorem lk_X10_165 : Lk md_Ln_get [.methodLink RX10 165 md_Ln_get.y, .instanceMethod md_Ln_get.y, .selects md_Ln_get.y.cls md_Ln_get.y md_Ln_get.y] := lk_of (by decide +kernel)
theorem fl_X10_21 : Cond.fieldLink RX10 21 (TX10 2).1 (TX10 2).2.1 (TX10 2).2.2.1 ∈ aw := aw1 (by decide +kernel)
theorem lk_X10_171 : Lk md_St_hasFolder [.methodLink RX10 171 md_St_hasFolder.y, .instanceMethod md_St_hasFolder.y, .selects md_St_hasFolder.y.cls md_St_hasFolder.y md_St_hasFolder.y] := lk_of (by decide +kernel)
theorem fl_X10_180 : Cond.fieldLink RX10 180 (TX8 5).1 (TX8 5).2.1 (TX8 5).2.2.1 ∈ aw := aw1 (by decide +kernel)
theorem lk_X10_183 : Lk md_St_whereabouts [.methodLink RX10 183 md_St_whereabouts.y, .instanceMethod md_St_whereabouts.y, .selects md_St_whereabouts.y.cls md_St_whereabouts.y md_St_whereabouts.y] := lk_of (by decide +kernel)
theorem ar_St_whereabouts : Arity md_St_whereabouts 1 := ⟨by decide +kernel, by decide +kernel, by decide +kernel⟩
theorem fl_X10_186 : Cond.fieldLink RX10 186 (TX7 1).1 (TX7 1).2.1 (TX7 1).2.2.1 ∈ aw := aw1 (by decide +kernel)
theorem fl_X10_187 : Cond.fieldLink RX10 187 (TX8 8).1 (TX8 8).2.1 (TX8 8).2.2.1 ∈ aw := aw1 (by decide +kernel)
theorem lk_X10_190 : Lk md_St_isClosed [.methodLink RX10 190 md_St_isClosed.y, .instanceMethod md_St_isClosed.y, .selects md_St_isClosed.y.cls md_St_isClosed.y md_St_isClosed.y] := lk_of (by decide +kernel)
theorem lk_X10_195 : Lk md_Ln_placeOf [.methodLink RX10 195 md_Ln_placeOf.y, .instanceMethod md_Ln_placeOf.y, .selects md_Ln_placeOf.y.cls md_Ln_placeOf.y md_Ln_placeOf.y] := lk_of (by decide +kernel)
theorem lk_X10_198 : Lk md_St_hasReader [.methodLink RX10 198 md_St_hasReader.y, .instanceMethod md_St_hasReader.y, .selects md_St_hasReader.y.cls md_St_hasReader.y md_St_hasReader.y] := lk_of (by decide +kernel)
theorem fl_X10_203 : Cond.fieldLink RX10 203 (TX7 0).1 (TX7 0).2.1 (TX7 0).2.2.1 ∈ aw := aw1 (by decide +kernel)
theorem fl_X10_206 : Cond.fieldLink RX10 206 (TX8 10).1 (TX8 10).2.1 (TX8 10).2.2.1 ∈ aw := aw1 (by decide +kernel)
theorem fl_X10_213 : Cond.fieldLink RX10 213 (TX7 2).1 (TX7 2).2.1 (TX7 2).2.2.1 ∈ aw := aw1 (by decide +kernel)
theorem fl_X10_216 : Cond.fieldLink RX10 216 (TX7 3).1 (TX7 3).2.1 (TX7 3).2.2.1 ∈ aw := aw1 (by decide +kernel)
theorem lk_X10_219 : Lk md_Sl_has [.methodLink RX10 219 md_Sl_has.y, .instanceMethod md_Sl_has.y, .selects md_Sl_has.y.cls md_Sl_has.y md_Sl_has.y] := lk_of (by decide +kernel)
theorem lk_X10_222 : Lk md_St_idleness [.methodLink RX10 222 md_St_idleness.y, .instanceMethod md_St_idleness.y, .selects md_St_idleness.y.cls md_St_idleness.y md_St_idleness.y] := lk_of (by decide +kernel)
theorem lk_X10_225 : Lk md_St_foldersAstray [.methodLink RX10 225 md_St_foldersAstray.y, .instanceMethod md_St_foldersAstray.y, .selects md_St_foldersAstray.y.cls md_St_foldersAstray.y md_St_foldersAstray.y] := lk_of (by decide +kernel)
theorem ar_St_foldersAstray : Arity md_St_foldersAstray 0 := ⟨by decide +kernel, by decide +kernel, by decide +kernel⟩
theorem lk_X10_228 : Lk md_St_readersAboveLimit [.methodLink RX10 228 md_St_readersAboveLimit.y, .instanceMethod md_St_readersAboveLimit.y, .selects md_St_readersAboveLimit.y.cls md_St_readersAboveLimit.y md_St_readersAboveLimit.y] := lk_of (by decide +kernel)
theorem ar_St_readersAboveLimit : Arity md_St_readersAboveLimit 0 := ⟨by decide +kernel, by decide +kernel, by decide +kernel⟩
theorem lk_X10_231 : Lk md_St_slipsForOwnFolders [.methodLink RX10 231 md_St_slipsForOwnFolders.y, .instanceMethod md_St_slipsForOwnFolders.y, .selects md_St_slipsForOwnFolders.y.cls md_St_slipsForOwnFolders.y md_St_slipsForOwnFolders.y] := lk_of (by decide +kernel)
theorem ar_St_slipsForOwnFolders : Arity md_St_slipsForOwnFolders 0 := ⟨by decide +kernel, by decide +kernel, by decide +kernel⟩
theorem lk_X10_234 : Lk md_Rw_halve [.methodLink RX10 234 md_Rw_halve.y, .instanceMethod md_Rw_halve.y, .selects md_Rw_halve.y.cls md_Rw_halve.y md_Rw_halve.y] := lk_of (by decide +kernel)
theorem fl_X10_237 : Cond.fieldLink RX10 237 (TX5 1).1 (TX5 1).2.1 (TX5 1).2.2.1 ∈ aw := aw1 (by decide +kernel)
theorem lk_X10_240 : Lk md_Rw_missedByHalving [.methodLink RX10 240 md_Rw_missedByHalving.y, .instanceMethod md_Rw_missedByHalving.y, .selects md_Rw_missedByHalving.y.cls md_Rw_missedByHalving.y md_Rw_missedByHalving.y] := lk_of (by decide +kernel)
theorem ar_Rw_missedByHalving : Arity md_Rw_missedByHalving 0 := ⟨by decide +kernel, by decide +kernel, by decide +kernel⟩
theorem lk_X10_243 : Lk md_Rw_placeBehindMiss [.methodLink RX10 243 md_Rw_placeBehindMiss.y, .instanceMethod md_Rw_placeBehindMiss.y, .selects md_Rw_placeBehindMiss.y.cls md_Rw_placeBehindMiss.y md_Rw_placeBehindMiss.y] := lk_of (by decide +kernel)
theorem lk_X10_246 : Lk md_Rw_pairsInWrongOrder [.methodLink RX10 246 md_Rw_pairsInWrongOrder.y, .instanceMethod md_Rw_pairsInWrongOrder.y, .selects md_Rw_pairsInWrongOrder.y.cls md_Rw_pairsInWrongOrder.y md_Rw_pairsInWrongOrder.y] := lk_of (by decide +kernel)
theorem ar_Rw_pairsInWrongOrder : Arity md_Rw_pairsInWrongOrder 0 := ⟨by decide +kernel, by decide +kernel, by decide +kernel⟩
theorem lk_X10_249 : Lk md_Rw_longestRun [.methodLink RX10 249 md_Rw_longestRun.y, .instanceMethod md_Rw_longestRun.y, .selects md_Rw_longestRun.y.cls md_Rw_longestRun.y md_Rw_longestRun.y] := lk_of (by decide +kernel)
theorem ar_Rw_longestRun : Arity md_Rw_longestRun 0 := ⟨by decide +kernel, by decide +kernel, by decide +kernel⟩
theorem lk_X10_252 : Lk md_Rw_farthestFromOrder [.methodLink RX10 252 md_Rw_farthestFromOrder.y, .instanceMethod md_Rw_farthestFromOrder.y, .selects md_Rw_farthestFromOrder.y.cls md_Rw_farthestFromOrder.y md_Rw_farthestFromOrder.y] := lk_of (by decide +kernel)
theorem ar_Rw_farthestFromOrder : Arity md_Rw_farthestFromOrder 0 := ⟨by decide +kernel, by decide +kernel, by decide +kernel⟩
theorem lk_X10_257 : Lk md_St_refusal [.methodLink RX10 257 md_St_refusal.y, .instanceMethod md_St_refusal.y, .selects md_St_refusal.y.cls md_St_refusal.y md_St_refusal.y] := lk_of (by decide +kernel)
def SA_appendBytes_L3 : Nat → WM → Int32 → Int32 → Option (WM)
  | 0, _, _, _ => none
  | n + 1, M, v1_363, v2_364 => if v2_364 < 0 then (some (M)) else (SA_appendBytes_L3 n (setWL M 0 (lnadd 700 (M.2.1 0) (((v1_363.toUInt32 >>> (v2_364.toUInt32 &&& Int32.toUInt32 31)).toInt32) &&& 255))) v1_363 (v2_364 + (-8)))
def SA_appendBytes (M : WM) (p1 : Int32) : Option (WM) := SA_appendBytes_L3 FU M p1 24
set_option maxRecDepth 100000 in
set_option maxHeartbeats 4000000 in
theorem w_SA_appendBytes_L3 {ad ae : Nat → Nat} {X : Cx} {l : Launch} {g : Gl} (hx : Ok X l g RX10 cX10_appendBytes 3 md_SA_appendBytes.rm) (hC : KAll g ad ae) {σ : Hp} {B : Nat} {r : WM} (hR : Ret X (rs none (putW σ B ae r)) 0 0 (none)) : ∀ (n : Nat) (M : WM) (v1_363 v2_364 : Int32), SA_appendBytes_L3 n M v1_363 v2_364 = some r → G X (putW σ B ae M) 0 0 3 [(0, .ref B), (1, .int v1_363), (2, .int v2_364)] [] := by
  intro n
  induction n with
  | zero =>
    intro M v1_363 v2_364 hr
    rw [SA_appendBytes_L3] at hr
    cases hr
  | succ n ih =>
    intro M v1_363 v2_364 hr
    rw [SA_appendBytes_L3] at hr
    refine g_iload_n hx 3 (i := 2) 2 dX10_appendBytes_3 rfl rfl ?_
    refine g_if_lt hx 4 27 dX10_appendBytes_4 (by decide) (fun hc_365 => ?_) (fun hc_365 => ?_)
    · have hr := (if_pos hc_365).symm.trans hr
      exact g_vret hx hR 27 dX10_appendBytes_27 ⟨rfl, by rw [← Option.some.inj hr] <;> rfl⟩
    · have hr := (if_neg hc_365).symm.trans hr
      refine g_aload_n hx 7 (i := 0) 0 dX10_appendBytes_7 rfl rfl ?_
      refine g_get hx 8 (C := RX10) (T := TX10) (N := 11) 0 (.ref (B + 1)) (pW σ B ae M 0 (by decide)) rfl (by decide) rfl fl_X10_14 dX10_appendBytes_8 ?_
      refine g_iload_n hx 11 (i := 1) 1 dX10_appendBytes_11 rfl rfl ?_
      refine g_iload_n hx 12 (i := 2) 2 dX10_appendBytes_12 rfl rfl ?_
      refine g_iushr hx 13 dX10_appendBytes_13 ?_
      refine g_sipush hx 14 (255) dX10_appendBytes_14 rfl ?_
      refine g_iand hx 17 dX10_appendBytes_17 ?_
      refine g_callVv hx (k_add l g (pW_l0 σ B ae M) (by decide) (((v1_363.toUInt32 >>> (v2_364.toUInt32 &&& Int32.toUInt32 31)).toInt32) &&& 255)) lk_X10_86 ar_Ln_add (pW_l0 σ B ae M).1 (T := TX2) (N := 2) rfl (As := [.int (((v1_363.toUInt32 >>> (v2_364.toUInt32 &&& Int32.toUInt32 31)).toInt32) &&& 255)]) (rest := []) rfl (Nat.le_of_ble_eq_true rfl) ⟨Nat.le_of_ble_eq_true rfl, Nat.le_of_ble_eq_true rfl⟩ ⟨rfl, rfl⟩ ⟨Nat.zero_le _, Nat.zero_le _⟩ dX10_appendBytes_18 ?_
      refine G.heap (pW_p0 σ B ae M (lnadd 700 (M.2.1 0) (((v1_363.toUInt32 >>> (v2_364.toUInt32 &&& Int32.toUInt32 31)).toInt32) &&& 255))) ?_
      refine g_iinc hx 21 (i := 2) 2 (v2_364 + (-8)) [(2, .int (v2_364 + (-8))), (0, .ref B), (1, .int v1_363)] dX10_appendBytes_21 rfl rfl (by decide) rfl ?_
      refine g_goto hx 24 3 dX10_appendBytes_24 (by decide) ?_
      refine g_ls [1, 2, 0] [(0, .ref B), (1, .int v1_363), (2, .int (v2_364 + (-8)))] rfl ?_
      exact ih (setWL M 0 (lnadd 700 (M.2.1 0) (((v1_363.toUInt32 >>> (v2_364.toUInt32 &&& Int32.toUInt32 31)).toInt32) &&& 255))) v1_363 (v2_364 + (-8)) hr
set_option maxRecDepth 100000 in
set_option maxHeartbeats 4000000 in
theorem c_SA_appendBytes {ad ae : Nat → Nat} (l : Launch) (g : Gl) (hC : KAll g ad ae) (σ : Hp) (B : Nat) (M : WM) (p1 : Int32) {r : WM} (hr : SA_appendBytes M p1 = some r) : MG l g md_SA_appendBytes [.ref B, .int p1] (putW σ B ae M) (rs none (putW σ B ae r)) := by
  refine MG.intro (by decide +kernel) (Nat.le_of_ble_eq_true rfl) (fun X hx hR _ => ?_)
  unfold SA_appendBytes at hr
  refine g_ls [0, 1] [(0, .ref B), (1, .int p1)] rfl ?_
  refine g_bipush hx 0 (24) dX10_appendBytes_0 rfl ?_
  refine g_istore_n hx 2 (i := 2) [(2, .int 24), (0, .ref B), (1, .int p1)] dX10_appendBytes_2 rfl (by decide) rfl ?_
  refine g_ls [1, 2, 0] [(0, .ref B), (1, .int p1), (2, .int 24)] rfl ?_
  exact w_SA_appendBytes_L3 hx hC hR FU M p1 24 hr
def SA_feed (M : WM) (p1 p2 p3 p4 p5 : Int32) : Option (Int32 × WM) := if (nI (M.2.1 0).length) + 20 ≤ 700 then (Option.bind (SA_appendBytes M p1) fun M_367 => Option.bind (SA_appendBytes M_367 p2) fun M_368 => Option.bind (SA_appendBytes M_368 p3) fun M_369 => Option.bind (SA_appendBytes M_369 p4) fun M_370 => Option.bind (SA_appendBytes M_370 p5) fun M_371 => some ((nI (M_371.2.1 0).length, M_371))) else (some (((-1), M)))
set_option maxRecDepth 100000 in
set_option maxHeartbeats 4000000 in
theorem c_SA_feed {ad ae : Nat → Nat} (l : Launch) (g : Gl) (hC : KAll g ad ae) (σ : Hp) (B : Nat) (M : WM) (p1 p2 p3 p4 p5 : Int32) {r : Int32 × WM} (hr : SA_feed M p1 p2 p3 p4 p5 = some r) : MG l g md_SA_feed [.ref B, .int p1, .int p2, .int p3, .int p4, .int p5] (putW σ B ae M) (rs (some (.int r.1)) (putW σ B ae r.2)) := by
  refine MG.intro (by decide +kernel) (Nat.le_of_ble_eq_true rfl) (fun X hx hR _ => ?_)
  unfold SA_feed at hr
  refine g_ls [0, 1, 2, 3, 4, 5] [(0, .ref B), (1, .int p1), (2, .int p2), (3, .int p3), (4, .int p4), (5, .int p5)] rfl ?_
  refine g_aload_n hx 0 (i := 0) 0 dX10_feed_0 rfl rfl ?_
  refine g_get hx 1 (C := RX10) (T := TX10) (N := 11) 0 (.ref (B + 1)) (pW σ B ae M 0 (by decide)) rfl (by decide) rfl fl_X10_14 dX10_feed_1 ?_
  refine g_callVr hx (k_count l g (pW_l0 σ B ae M) (by decide)) lk_X10_79 ar_Ln_count (pW_l0 σ B ae M).1 (T := TX2) (N := 2) rfl (As := []) (rest := []) rfl (Nat.le_of_ble_eq_true rfl) ⟨Nat.le_of_ble_eq_true rfl, Nat.le_of_ble_eq_true rfl⟩ ⟨rfl, rfl⟩ ⟨Nat.zero_le _, Nat.zero_le _⟩ dX10_feed_4 ?_
  refine g_bipush hx 7 (20) dX10_feed_7 rfl ?_
  refine g_iadd hx 9 dX10_feed_9 ?_
  refine g_sipush hx 10 (700) dX10_feed_10 rfl ?_
  refine g_icmp_le hx 13 18 dX10_feed_13 (by decide) (fun hc_366 => ?_) (fun hc_366 => ?_)
  · have hr := (if_pos hc_366).symm.trans hr
    refine g_aload_n hx 18 (i := 0) 0 dX10_feed_18 rfl rfl ?_
    refine g_iload_n hx 19 (i := 1) 1 dX10_feed_19 rfl rfl ?_
    obtain ⟨M_367, eM_367, hr⟩ := bind_e hr
    refine g_callVv hx (c_SA_appendBytes l g hC σ B M p1 eM_367) lk_X10_83 ar_SA_appendBytes (pW σ B ae M 0 (by decide)) (T := TX10) (N := 11) rfl (As := [.int p1]) (rest := []) rfl (Nat.le_of_ble_eq_true rfl) ⟨Nat.le_of_ble_eq_true rfl, Nat.le_of_ble_eq_true rfl⟩ ⟨rfl, rfl⟩ ⟨Nat.zero_le _, Nat.zero_le _⟩ dX10_feed_20 ?_
    refine g_aload_n hx 23 (i := 0) 0 dX10_feed_23 rfl rfl ?_
    refine g_iload_n hx 24 (i := 2) 2 dX10_feed_24 rfl rfl ?_
    obtain ⟨M_368, eM_368, hr⟩ := bind_e hr
    refine g_callVv hx (c_SA_appendBytes l g hC σ B M_367 p2 eM_368) lk_X10_83 ar_SA_appendBytes (pW σ B ae M_367 0 (by decide)) (T := TX10) (N := 11) rfl (As := [.int p2]) (rest := []) rfl (Nat.le_of_ble_eq_true rfl) ⟨Nat.le_of_ble_eq_true rfl, Nat.le_of_ble_eq_true rfl⟩ ⟨rfl, rfl⟩ ⟨Nat.zero_le _, Nat.zero_le _⟩ dX10_feed_25 ?_
    refine g_aload_n hx 28 (i := 0) 0 dX10_feed_28 rfl rfl ?_
    refine g_iload_n hx 29 (i := 3) 3 dX10_feed_29 rfl rfl ?_
    obtain ⟨M_369, eM_369, hr⟩ := bind_e hr
    refine g_callVv hx (c_SA_appendBytes l g hC σ B M_368 p3 eM_369) lk_X10_83 ar_SA_appendBytes (pW σ B ae M_368 0 (by decide)) (T := TX10) (N := 11) rfl (As := [.int p3]) (rest := []) rfl (Nat.le_of_ble_eq_true rfl) ⟨Nat.le_of_ble_eq_true rfl, Nat.le_of_ble_eq_true rfl⟩ ⟨rfl, rfl⟩ ⟨Nat.zero_le _, Nat.zero_le _⟩ dX10_feed_30 ?_
    refine g_aload_n hx 33 (i := 0) 0 dX10_feed_33 rfl rfl ?_
    refine g_iload hx 34 (i := 4) 4 dX10_feed_34 rfl ?_
    obtain ⟨M_370, eM_370, hr⟩ := bind_e hr
    refine g_callVv hx (c_SA_appendBytes l g hC σ B M_369 p4 eM_370) lk_X10_83 ar_SA_appendBytes (pW σ B ae M_369 0 (by decide)) (T := TX10) (N := 11) rfl (As := [.int p4]) (rest := []) rfl (Nat.le_of_ble_eq_true rfl) ⟨Nat.le_of_ble_eq_true rfl, Nat.le_of_ble_eq_true rfl⟩ ⟨rfl, rfl⟩ ⟨Nat.zero_le _, Nat.zero_le _⟩ dX10_feed_36 ?_
    refine g_aload_n hx 39 (i := 0) 0 dX10_feed_39 rfl rfl ?_
    refine g_iload hx 40 (i := 5) 5 dX10_feed_40 rfl ?_
    obtain ⟨M_371, eM_371, hr⟩ := bind_e hr
    refine g_callVv hx (c_SA_appendBytes l g hC σ B M_370 p5 eM_371) lk_X10_83 ar_SA_appendBytes (pW σ B ae M_370 0 (by decide)) (T := TX10) (N := 11) rfl (As := [.int p5]) (rest := []) rfl (Nat.le_of_ble_eq_true rfl) ⟨Nat.le_of_ble_eq_true rfl, Nat.le_of_ble_eq_true rfl⟩ ⟨rfl, rfl⟩ ⟨Nat.zero_le _, Nat.zero_le _⟩ dX10_feed_42 ?_
    refine g_aload_n hx 45 (i := 0) 0 dX10_feed_45 rfl rfl ?_
    refine g_get hx 46 (C := RX10) (T := TX10) (N := 11) 0 (.ref (B + 1)) (pW σ B ae M_371 0 (by decide)) rfl (by decide) rfl fl_X10_14 dX10_feed_46 ?_
    refine g_callVr hx (k_count l g (pW_l0 σ B ae M_371) (by decide)) lk_X10_79 ar_Ln_count (pW_l0 σ B ae M_371).1 (T := TX2) (N := 2) rfl (As := []) (rest := []) rfl (Nat.le_of_ble_eq_true rfl) ⟨Nat.le_of_ble_eq_true rfl, Nat.le_of_ble_eq_true rfl⟩ ⟨rfl, rfl⟩ ⟨Nat.zero_le _, Nat.zero_le _⟩ dX10_feed_49 ?_
    exact g_iret hx hR 52 dX10_feed_52 ⟨by rw [← Option.some.inj hr] <;> rfl, by rw [← Option.some.inj hr] <;> rfl⟩
  · have hr := (if_neg hc_366).symm.trans hr
    refine g_iconst hx 16 (-1) dX10_feed_16 rfl ?_
    exact g_iret hx hR 17 dX10_feed_17 ⟨by rw [← Option.some.inj hr] <;> rfl, by rw [← Option.some.inj hr] <;> rfl⟩
def SA_load (M : WM) (p1 : Int32) : Option (Int32 × WM) := if p1 < 0 then (none) else (if p1 ≤ nI (M.2.1 0).length then (Option.bind (Ps_readArchive M p1) fun q_374 => lt' (q_374.1) fun v2_375 => if v2_375 = 0 then (lt' (St_copyFrom (q_374.2.1 10) (q_374.2.1 9)) fun M_377 => lt' (Hi_clear (setS (setWI (setWL q_374.2 0 ([])) 10 (Ps_errorPlace (setWL q_374.2 0 ([])))) 9 M_377)) fun M_378 => some ((nI ((M_378.1 9).2 0).length, setWI M_378 9 0))) else (some (((-10) - v2_375, setWI (setWL q_374.2 0 ([])) 10 (Ps_errorPlace (setWL q_374.2 0 ([]))))))) else (none))
set_option maxRecDepth 100000 in
set_option maxHeartbeats 4000000 in
theorem c_SA_load {ad ae : Nat → Nat} (l : Launch) (g : Gl) (hC : KAll g ad ae) (σ : Hp) (B : Nat) (M : WM) (p1 : Int32) {r : Int32 × WM} (hr : SA_load M p1 = some r) : MG l g md_SA_load [.ref B, .int p1] (putW σ B ae M) (rs (some (.int r.1)) (putW σ B ae r.2)) := by
  refine MG.intro (by decide +kernel) (Nat.le_of_ble_eq_true rfl) (fun X hx hR _ => ?_)
  unfold SA_load at hr
  refine g_ls [0, 1] [(0, .ref B), (1, .int p1)] rfl ?_
  refine g_iload_n hx 0 (i := 1) 1 dX10_load_0 rfl rfl ?_
  refine g_if_lt hx 1 15 dX10_load_1 (by decide) (fun hc_372 => ?_) (fun hc_372 => ?_)
  · have hr := (if_pos hc_372).symm.trans hr
    cases hr
  · have hr := (if_neg hc_372).symm.trans hr
    refine g_iload_n hx 4 (i := 1) 1 dX10_load_4 rfl rfl ?_
    refine g_aload_n hx 5 (i := 0) 0 dX10_load_5 rfl rfl ?_
    refine g_get hx 6 (C := RX10) (T := TX10) (N := 11) 0 (.ref (B + 1)) (pW σ B ae M 0 (by decide)) rfl (by decide) rfl fl_X10_14 dX10_load_6 ?_
    refine g_callVr hx (k_count l g (pW_l0 σ B ae M) (by decide)) lk_X10_79 ar_Ln_count (pW_l0 σ B ae M).1 (T := TX2) (N := 2) rfl (As := []) (rest := [.int p1]) rfl (Nat.le_of_ble_eq_true rfl) ⟨Nat.le_of_ble_eq_true rfl, Nat.le_of_ble_eq_true rfl⟩ ⟨rfl, rfl⟩ ⟨Nat.zero_le _, Nat.zero_le _⟩ dX10_load_9 ?_
    refine g_icmp_le hx 12 25 dX10_load_12 (by decide) (fun hc_373 => ?_) (fun hc_373 => ?_)
    · have hr := (if_pos hc_373).symm.trans hr
      refine g_aload_n hx 25 (i := 0) 0 dX10_load_25 rfl rfl ?_
      refine g_get hx 26 (C := RX10) (T := TX10) (N := 11) 3 (.ref (B + 7)) (pW σ B ae M 0 (by decide)) rfl (by decide) rfl fl_X10_29 dX10_load_26 ?_
      refine g_iload_n hx 29 (i := 1) 1 dX10_load_29 rfl rfl ?_
      refine g_aload_n hx 30 (i := 0) 0 dX10_load_30 rfl rfl ?_
      refine g_get hx 31 (C := RX10) (T := TX10) (N := 11) 7 (.ref (B + 367)) (pW σ B ae M 0 (by decide)) rfl (by decide) rfl fl_X10_54 dX10_load_31 ?_
      obtain ⟨q_374, eq_374, hr⟩ := bind_e hr
      refine g_callVr hx (c_Ps_readArchive l g hC σ B M p1 eq_374) lk_X10_96 ar_Ps_readArchive (pW σ B ae M 7 (by decide)) (T := TX4) (N := 3) rfl (As := [.int p1, .ref (B + 367)]) (rest := []) rfl (Nat.le_of_ble_eq_true rfl) ⟨Nat.le_of_ble_eq_true rfl, Nat.le_of_ble_eq_true rfl⟩ ⟨rfl, rfl⟩ ⟨Nat.zero_le _, Nat.zero_le _⟩ dX10_load_34 ?_
      obtain ⟨v2_375, ev2_375, hr⟩ := lt'_e hr
      refine g_nmi ev2_375 ?_
      refine g_istore_n hx 37 (i := 2) [(2, .int v2_375), (0, .ref B), (1, .int p1)] dX10_load_37 rfl (by decide) rfl ?_
      refine g_aload_n hx 38 (i := 0) 1 dX10_load_38 rfl rfl ?_
      refine g_get hx 39 (C := RX10) (T := TX10) (N := 11) 0 (.ref (B + 1)) (pW σ B ae q_374.2 0 (by decide)) rfl (by decide) rfl fl_X10_14 dX10_load_39 ?_
      refine g_callVv hx (k_clear l g (pW_l0 σ B ae q_374.2) (by decide)) lk_X10_100 ar_Ln_clear (pW_l0 σ B ae q_374.2).1 (T := TX2) (N := 2) rfl (As := []) (rest := []) rfl (Nat.le_of_ble_eq_true rfl) ⟨Nat.le_of_ble_eq_true rfl, Nat.le_of_ble_eq_true rfl⟩ ⟨rfl, rfl⟩ ⟨Nat.zero_le _, Nat.zero_le _⟩ dX10_load_42 ?_
      refine G.heap (pW_p0 σ B ae q_374.2 ([])) ?_
      refine g_aload_n hx 45 (i := 0) 1 dX10_load_45 rfl rfl ?_
      refine g_aload_n hx 46 (i := 0) 1 dX10_load_46 rfl rfl ?_
      refine g_get hx 47 (C := RX10) (T := TX10) (N := 11) 3 (.ref (B + 7)) (pW σ B ae (setWL q_374.2 0 ([])) 0 (by decide)) rfl (by decide) rfl fl_X10_29 dX10_load_47 ?_
      refine g_callVr hx (c_Ps_errorPlace l g hC σ B (setWL q_374.2 0 ([])) rfl) lk_X10_103 ar_Ps_errorPlace (pW σ B ae (setWL q_374.2 0 ([])) 7 (by decide)) (T := TX4) (N := 3) rfl (As := []) (rest := [.ref B]) rfl (Nat.le_of_ble_eq_true rfl) ⟨Nat.le_of_ble_eq_true rfl, Nat.le_of_ble_eq_true rfl⟩ ⟨rfl, rfl⟩ ⟨Nat.zero_le _, Nat.zero_le _⟩ dX10_load_50 ?_
      refine g_put hx 53 (C := RX10) (T := TX10) (N := 11) 10 .int _ (pW σ B ae (setWL q_374.2 0 ([])) 0 (by decide)) rfl (by decide) fl_X10_64 rfl rfl rfl rfl (Nat.le_of_ble_eq_true rfl) rfl dX10_load_53 ?_
      refine G.heap (pW_i10 σ B ae (setWL q_374.2 0 ([])) (Ps_errorPlace (setWL q_374.2 0 ([])))) ?_
      refine g_iload_n hx 56 (i := 2) 0 dX10_load_56 rfl rfl ?_
      refine g_if_eq hx 57 65 dX10_load_57 (by decide) (fun hc_376 => ?_) (fun hc_376 => ?_)
      · have hr := (if_pos hc_376).symm.trans hr
        refine g_aload_n hx 65 (i := 0) 1 dX10_load_65 rfl rfl ?_
        refine g_get hx 66 (C := RX10) (T := TX10) (N := 11) 6 (.ref (B + 332)) (pW σ B ae (setWI (setWL q_374.2 0 ([])) 10 (Ps_errorPlace (setWL q_374.2 0 ([])))) 0 (by decide)) rfl (by decide) rfl fl_X10_50 dX10_load_66 ?_
        refine g_aload_n hx 69 (i := 0) 1 dX10_load_69 rfl rfl ?_
        refine g_get hx 70 (C := RX10) (T := TX10) (N := 11) 7 (.ref (B + 367)) (pW σ B ae (setWI (setWL q_374.2 0 ([])) 10 (Ps_errorPlace (setWL q_374.2 0 ([])))) 0 (by decide)) rfl (by decide) rfl fl_X10_54 dX10_load_70 ?_
        obtain ⟨M_377, eM_377, hr⟩ := lt'_e hr
        refine g_callVv hx (MG.at9 (w := setWI (setWL q_374.2 0 ([])) 10 (Ps_errorPlace (setWL q_374.2 0 ([])))) (c_St_copyFrom (pW_st10 σ B ae (setWI (setWL q_374.2 0 ([])) 10 (Ps_errorPlace (setWL q_374.2 0 ([]))))) (by omega) l g (q_374.2.1 9) eM_377.symm)) lk_X10_106 ar_St_copyFrom (pW_st9 σ B ae (setWI (setWL q_374.2 0 ([])) 10 (Ps_errorPlace (setWL q_374.2 0 ([])))) 0 (by decide)) (T := TX8) (N := 15) rfl (As := [.ref (B + 367)]) (rest := []) rfl (Nat.le_of_ble_eq_true rfl) ⟨Nat.le_of_ble_eq_true rfl, Nat.le_of_ble_eq_true rfl⟩ ⟨rfl, rfl⟩ ⟨Nat.zero_le _, Nat.zero_le _⟩ dX10_load_73 ?_
        refine g_aload_n hx 76 (i := 0) 1 dX10_load_76 rfl rfl ?_
        refine g_get hx 77 (C := RX10) (T := TX10) (N := 11) 5 (.ref (B + 15)) (pW σ B ae (setS (setWI (setWL q_374.2 0 ([])) 10 (Ps_errorPlace (setWL q_374.2 0 ([])))) 9 M_377) 0 (by decide)) rfl (by decide) rfl fl_X10_43 dX10_load_77 ?_
        obtain ⟨M_378, eM_378, hr⟩ := lt'_e hr
        refine g_callVv hx (c_Hi_clear l g hC σ B (setS (setWI (setWL q_374.2 0 ([])) 10 (Ps_errorPlace (setWL q_374.2 0 ([])))) 9 M_377) eM_378.symm) lk_X10_110 ar_Hi_clear (pW σ B ae (setS (setWI (setWL q_374.2 0 ([])) 10 (Ps_errorPlace (setWL q_374.2 0 ([])))) 9 M_377) 15 (by decide)) (T := TX1) (N := 3) rfl (As := []) (rest := []) rfl (Nat.le_of_ble_eq_true rfl) ⟨Nat.le_of_ble_eq_true rfl, Nat.le_of_ble_eq_true rfl⟩ ⟨rfl, rfl⟩ ⟨Nat.zero_le _, Nat.zero_le _⟩ dX10_load_80 ?_
        refine g_aload_n hx 83 (i := 0) 1 dX10_load_83 rfl rfl ?_
        refine g_iconst hx 84 (0) dX10_load_84 rfl ?_
        refine g_put hx 85 (C := RX10) (T := TX10) (N := 11) 9 .boolean _ (pW σ B ae M_378 0 (by decide)) rfl (by decide) fl_X10_60 rfl rfl rfl rfl (Nat.le_of_ble_eq_true rfl) rfl dX10_load_85 ?_
        refine G.heap (pW_i9 σ B ae M_378 0) ?_
        refine g_aload_n hx 88 (i := 0) 1 dX10_load_88 rfl rfl ?_
        refine g_get hx 89 (C := RX10) (T := TX10) (N := 11) 6 (.ref (B + 332)) (pW σ B ae (setWI M_378 9 0) 0 (by decide)) rfl (by decide) rfl fl_X10_50 dX10_load_89 ?_
        refine g_get hx 92 (C := RX8) (T := TX8) (N := 15) 4 (.ref (B + 332 + 1)) (pW_st9 σ B ae (setWI M_378 9 0) 0 (by decide)) rfl (by decide) rfl fl_X10_111 dX10_load_92 ?_
        refine g_callVr hx (k_count l g (st_l0 (pW_st9 σ B ae (setWI M_378 9 0))) (by decide)) lk_X10_79 ar_Ln_count (st_l0 (pW_st9 σ B ae (setWI M_378 9 0))).1 (T := TX2) (N := 2) rfl (As := []) (rest := []) rfl (Nat.le_of_ble_eq_true rfl) ⟨Nat.le_of_ble_eq_true rfl, Nat.le_of_ble_eq_true rfl⟩ ⟨rfl, rfl⟩ ⟨Nat.zero_le _, Nat.zero_le _⟩ dX10_load_95 ?_
        exact g_iret hx hR 98 dX10_load_98 ⟨by rw [← Option.some.inj hr] <;> rfl, by rw [← Option.some.inj hr] <;> rfl⟩
      · have hr := (if_neg hc_376).symm.trans hr
        refine g_bipush hx 60 (-10) dX10_load_60 rfl ?_
        refine g_iload_n hx 62 (i := 2) 0 dX10_load_62 rfl rfl ?_
        refine g_isub hx 63 dX10_load_63 ?_
        exact g_iret hx hR 64 dX10_load_64 ⟨by rw [← Option.some.inj hr] <;> rfl, by rw [← Option.some.inj hr] <;> rfl⟩
    · have hr := (if_neg hc_373).symm.trans hr
      cases hr
def SA_size (M : WM) (p1 : Int32) : Option (Int32) := if p1 = 0 then (some ((M.1 9).1 0)) else (if p1 = 1 then (some ((M.1 9).1 1)) else (if p1 = 2 then (some ((M.1 9).1 2)) else (if p1 = 3 then (some (nI ((M.1 9).2 5).length)) else (if p1 = 4 then (some ((M.1 9).1 3)) else (if p1 = 5 then (some (nI ((M.1 9).2 0).length)) else (if p1 = 6 then (some (nI ((M.1 9).2 7).length)) else (if p1 = 7 then (some (lncnt ((M.1 9).2 2) 1)) else (if p1 = 8 then (some (nI ((M.1 9).2 10).length)) else (if p1 = 9 then (some (Sl_count (M.1 9))) else (if p1 = 10 then (Option.bind (Rw_wrongPairs (M.1 9)) fun q_390 => some (q_390)) else (if p1 = 11 then (some (St_daysToRefiling (M.1 9))) else (none))))))))))))
set_option maxRecDepth 100000 in
set_option maxHeartbeats 4000000 in
theorem c_SA_size {ad ae : Nat → Nat} (l : Launch) (g : Gl) (hC : KAll g ad ae) (σ : Hp) (B : Nat) (M : WM) (p1 : Int32) {r : Int32} (hr : SA_size M p1 = some r) : MG l g md_SA_size [.ref B, .int p1] (putW σ B ae M) (rs (some (.int r)) (putW σ B ae M)) := by
  refine MG.intro (by decide +kernel) (Nat.le_of_ble_eq_true rfl) (fun X hx hR _ => ?_)
  unfold SA_size at hr
  refine g_ls [0, 1] [(0, .ref B), (1, .int p1)] rfl ?_
  refine g_iload_n hx 0 (i := 1) 1 dX10_size_0 rfl rfl ?_
  by_cases hc_379 : p1 = 0
  · have hr := (if_pos hc_379).symm.trans hr
    refine g_tableIn hx 1 64 dX10_size_1 (by rw [hc_379]; decide) (by rw [hc_379]; decide) (by rw [hc_379]; rfl) (by decide) ?_
    refine g_aload_n hx 64 (i := 0) 0 dX10_size_64 rfl rfl ?_
    refine g_get hx 65 (C := RX10) (T := TX10) (N := 11) 6 (.ref (B + 332)) (pW σ B ae M 0 (by decide)) rfl (by decide) rfl fl_X10_50 dX10_size_65 ?_
    refine g_get hx 68 (C := RX8) (T := TX8) (N := 15) 0 (.int ((M.1 9).1 0)) (pW_st9 σ B ae M 0 (by decide)) rfl (by decide) rfl fl_X10_114 dX10_size_68 ?_
    exact g_iret hx hR 71 dX10_size_71 ⟨by rw [← Option.some.inj hr] <;> rfl, rfl⟩
  · have hr := (if_neg hc_379).symm.trans hr
    by_cases hc_380 : p1 = 1
    · have hr := (if_pos hc_380).symm.trans hr
      refine g_tableIn hx 1 72 dX10_size_1 (by rw [hc_380]; decide) (by rw [hc_380]; decide) (by rw [hc_380]; rfl) (by decide) ?_
      refine g_aload_n hx 72 (i := 0) 0 dX10_size_72 rfl rfl ?_
      refine g_get hx 73 (C := RX10) (T := TX10) (N := 11) 6 (.ref (B + 332)) (pW σ B ae M 0 (by decide)) rfl (by decide) rfl fl_X10_50 dX10_size_73 ?_
      refine g_get hx 76 (C := RX8) (T := TX8) (N := 15) 1 (.int ((M.1 9).1 1)) (pW_st9 σ B ae M 0 (by decide)) rfl (by decide) rfl fl_X10_117 dX10_size_76 ?_
      exact g_iret hx hR 79 dX10_size_79 ⟨by rw [← Option.some.inj hr] <;> rfl, rfl⟩
    · have hr := (if_neg hc_380).symm.trans hr
      by_cases hc_381 : p1 = 2
      · have hr := (if_pos hc_381).symm.trans hr
        refine g_tableIn hx 1 80 dX10_size_1 (by rw [hc_381]; decide) (by rw [hc_381]; decide) (by rw [hc_381]; rfl) (by decide) ?_
        refine g_aload_n hx 80 (i := 0) 0 dX10_size_80 rfl rfl ?_
        refine g_get hx 81 (C := RX10) (T := TX10) (N := 11) 6 (.ref (B + 332)) (pW σ B ae M 0 (by decide)) rfl (by decide) rfl fl_X10_50 dX10_size_81 ?_
        refine g_get hx 84 (C := RX8) (T := TX8) (N := 15) 2 (.int ((M.1 9).1 2)) (pW_st9 σ B ae M 0 (by decide)) rfl (by decide) rfl fl_X10_120 dX10_size_84 ?_
        exact g_iret hx hR 87 dX10_size_87 ⟨by rw [← Option.some.inj hr] <;> rfl, rfl⟩
      · have hr := (if_neg hc_381).symm.trans hr
        by_cases hc_382 : p1 = 3
        · have hr := (if_pos hc_382).symm.trans hr
          refine g_tableIn hx 1 88 dX10_size_1 (by rw [hc_382]; decide) (by rw [hc_382]; decide) (by rw [hc_382]; rfl) (by decide) ?_
          refine g_aload_n hx 88 (i := 0) 0 dX10_size_88 rfl rfl ?_
          refine g_get hx 89 (C := RX10) (T := TX10) (N := 11) 6 (.ref (B + 332)) (pW σ B ae M 0 (by decide)) rfl (by decide) rfl fl_X10_50 dX10_size_89 ?_
          refine g_get hx 92 (C := RX8) (T := TX8) (N := 15) 9 (.ref (B + 332 + 11)) (pW_st9 σ B ae M 0 (by decide)) rfl (by decide) rfl fl_X10_123 dX10_size_92 ?_
          refine g_callVr hx (k_count l g (st_l5 (pW_st9 σ B ae M)) (by decide)) lk_X10_79 ar_Ln_count (st_l5 (pW_st9 σ B ae M)).1 (T := TX2) (N := 2) rfl (As := []) (rest := []) rfl (Nat.le_of_ble_eq_true rfl) ⟨Nat.le_of_ble_eq_true rfl, Nat.le_of_ble_eq_true rfl⟩ ⟨rfl, rfl⟩ ⟨Nat.zero_le _, Nat.zero_le _⟩ dX10_size_95 ?_
          exact g_iret hx hR 98 dX10_size_98 ⟨by rw [← Option.some.inj hr] <;> rfl, rfl⟩
        · have hr := (if_neg hc_382).symm.trans hr
          by_cases hc_383 : p1 = 4
          · have hr := (if_pos hc_383).symm.trans hr
            refine g_tableIn hx 1 99 dX10_size_1 (by rw [hc_383]; decide) (by rw [hc_383]; decide) (by rw [hc_383]; rfl) (by decide) ?_
            refine g_aload_n hx 99 (i := 0) 0 dX10_size_99 rfl rfl ?_
            refine g_get hx 100 (C := RX10) (T := TX10) (N := 11) 6 (.ref (B + 332)) (pW σ B ae M 0 (by decide)) rfl (by decide) rfl fl_X10_50 dX10_size_100 ?_
            refine g_get hx 103 (C := RX8) (T := TX8) (N := 15) 3 (.int ((M.1 9).1 3)) (pW_st9 σ B ae M 0 (by decide)) rfl (by decide) rfl fl_X10_126 dX10_size_103 ?_
            exact g_iret hx hR 106 dX10_size_106 ⟨by rw [← Option.some.inj hr] <;> rfl, rfl⟩
          · have hr := (if_neg hc_383).symm.trans hr
            by_cases hc_384 : p1 = 5
            · have hr := (if_pos hc_384).symm.trans hr
              refine g_tableIn hx 1 107 dX10_size_1 (by rw [hc_384]; decide) (by rw [hc_384]; decide) (by rw [hc_384]; rfl) (by decide) ?_
              refine g_aload_n hx 107 (i := 0) 0 dX10_size_107 rfl rfl ?_
              refine g_get hx 108 (C := RX10) (T := TX10) (N := 11) 6 (.ref (B + 332)) (pW σ B ae M 0 (by decide)) rfl (by decide) rfl fl_X10_50 dX10_size_108 ?_
              refine g_get hx 111 (C := RX8) (T := TX8) (N := 15) 4 (.ref (B + 332 + 1)) (pW_st9 σ B ae M 0 (by decide)) rfl (by decide) rfl fl_X10_111 dX10_size_111 ?_
              refine g_callVr hx (k_count l g (st_l0 (pW_st9 σ B ae M)) (by decide)) lk_X10_79 ar_Ln_count (st_l0 (pW_st9 σ B ae M)).1 (T := TX2) (N := 2) rfl (As := []) (rest := []) rfl (Nat.le_of_ble_eq_true rfl) ⟨Nat.le_of_ble_eq_true rfl, Nat.le_of_ble_eq_true rfl⟩ ⟨rfl, rfl⟩ ⟨Nat.zero_le _, Nat.zero_le _⟩ dX10_size_114 ?_
              exact g_iret hx hR 117 dX10_size_117 ⟨by rw [← Option.some.inj hr] <;> rfl, rfl⟩
            · have hr := (if_neg hc_384).symm.trans hr
              by_cases hc_385 : p1 = 6
              · have hr := (if_pos hc_385).symm.trans hr
                refine g_tableIn hx 1 118 dX10_size_1 (by rw [hc_385]; decide) (by rw [hc_385]; decide) (by rw [hc_385]; rfl) (by decide) ?_
                refine g_aload_n hx 118 (i := 0) 0 dX10_size_118 rfl rfl ?_
                refine g_get hx 119 (C := RX10) (T := TX10) (N := 11) 6 (.ref (B + 332)) (pW σ B ae M 0 (by decide)) rfl (by decide) rfl fl_X10_50 dX10_size_119 ?_
                refine g_get hx 122 (C := RX8) (T := TX8) (N := 15) 11 (.ref (B + 332 + 15)) (pW_st9 σ B ae M 0 (by decide)) rfl (by decide) rfl fl_X10_129 dX10_size_122 ?_
                refine g_get hx 125 (C := RX5) (T := TX5) (N := 4) 0 (.ref (B + 332 + 16)) (pW_st9 σ B ae M 15 (by decide)) rfl (by decide) rfl fl_X10_133 dX10_size_125 ?_
                refine g_callVr hx (k_count l g (st_l7 (pW_st9 σ B ae M)) (by decide)) lk_X10_79 ar_Ln_count (st_l7 (pW_st9 σ B ae M)).1 (T := TX2) (N := 2) rfl (As := []) (rest := []) rfl (Nat.le_of_ble_eq_true rfl) ⟨Nat.le_of_ble_eq_true rfl, Nat.le_of_ble_eq_true rfl⟩ ⟨rfl, rfl⟩ ⟨Nat.zero_le _, Nat.zero_le _⟩ dX10_size_128 ?_
                exact g_iret hx hR 131 dX10_size_131 ⟨by rw [← Option.some.inj hr] <;> rfl, rfl⟩
              · have hr := (if_neg hc_385).symm.trans hr
                by_cases hc_386 : p1 = 7
                · have hr := (if_pos hc_386).symm.trans hr
                  refine g_tableIn hx 1 132 dX10_size_1 (by rw [hc_386]; decide) (by rw [hc_386]; decide) (by rw [hc_386]; rfl) (by decide) ?_
                  refine g_aload_n hx 132 (i := 0) 0 dX10_size_132 rfl rfl ?_
                  refine g_get hx 133 (C := RX10) (T := TX10) (N := 11) 6 (.ref (B + 332)) (pW σ B ae M 0 (by decide)) rfl (by decide) rfl fl_X10_50 dX10_size_133 ?_
                  refine g_get hx 136 (C := RX8) (T := TX8) (N := 15) 6 (.ref (B + 332 + 5)) (pW_st9 σ B ae M 0 (by decide)) rfl (by decide) rfl fl_X10_138 dX10_size_136 ?_
                  refine g_iconst hx 139 (1) dX10_size_139 rfl ?_
                  refine g_callVr hx (k_countOf l g (st_l2 (pW_st9 σ B ae M)) (by decide) 1) lk_X10_141 ar_Ln_countOf (st_l2 (pW_st9 σ B ae M)).1 (T := TX2) (N := 2) rfl (As := [.int 1]) (rest := []) rfl (Nat.le_of_ble_eq_true rfl) ⟨Nat.le_of_ble_eq_true rfl, Nat.le_of_ble_eq_true rfl⟩ ⟨rfl, rfl⟩ ⟨Nat.zero_le _, Nat.zero_le _⟩ dX10_size_140 ?_
                  exact g_iret hx hR 143 dX10_size_143 ⟨by rw [← Option.some.inj hr] <;> rfl, rfl⟩
                · have hr := (if_neg hc_386).symm.trans hr
                  by_cases hc_387 : p1 = 8
                  · have hr := (if_pos hc_387).symm.trans hr
                    refine g_tableIn hx 1 144 dX10_size_1 (by rw [hc_387]; decide) (by rw [hc_387]; decide) (by rw [hc_387]; rfl) (by decide) ?_
                    refine g_aload_n hx 144 (i := 0) 0 dX10_size_144 rfl rfl ?_
                    refine g_get hx 145 (C := RX10) (T := TX10) (N := 11) 6 (.ref (B + 332)) (pW σ B ae M 0 (by decide)) rfl (by decide) rfl fl_X10_50 dX10_size_145 ?_
                    refine g_get hx 148 (C := RX8) (T := TX8) (N := 15) 12 (.ref (B + 332 + 22)) (pW_st9 σ B ae M 0 (by decide)) rfl (by decide) rfl fl_X10_145 dX10_size_148 ?_
                    refine g_callVr hx (k_count l g (st_l10 (pW_st9 σ B ae M)) (by decide)) lk_X10_79 ar_Ln_count (st_l10 (pW_st9 σ B ae M)).1 (T := TX2) (N := 2) rfl (As := []) (rest := []) rfl (Nat.le_of_ble_eq_true rfl) ⟨Nat.le_of_ble_eq_true rfl, Nat.le_of_ble_eq_true rfl⟩ ⟨rfl, rfl⟩ ⟨Nat.zero_le _, Nat.zero_le _⟩ dX10_size_151 ?_
                    exact g_iret hx hR 154 dX10_size_154 ⟨by rw [← Option.some.inj hr] <;> rfl, rfl⟩
                  · have hr := (if_neg hc_387).symm.trans hr
                    by_cases hc_388 : p1 = 9
                    · have hr := (if_pos hc_388).symm.trans hr
                      refine g_tableIn hx 1 155 dX10_size_1 (by rw [hc_388]; decide) (by rw [hc_388]; decide) (by rw [hc_388]; rfl) (by decide) ?_
                      refine g_aload_n hx 155 (i := 0) 0 dX10_size_155 rfl rfl ?_
                      refine g_get hx 156 (C := RX10) (T := TX10) (N := 11) 6 (.ref (B + 332)) (pW σ B ae M 0 (by decide)) rfl (by decide) rfl fl_X10_50 dX10_size_156 ?_
                      refine g_get hx 159 (C := RX8) (T := TX8) (N := 15) 13 (.ref (B + 332 + 24)) (pW_st9 σ B ae M 0 (by decide)) rfl (by decide) rfl fl_X10_148 dX10_size_159 ?_
                      refine g_callVr hx (MG.ar9 (w := M) (c_Sl_count l g (putW σ B ae M) (B + 332) (M.1 9) rfl)) lk_X10_152 ar_Sl_count (pW_st9 σ B ae M 24 (by decide)) (T := TX7) (N := 4) rfl (As := []) (rest := []) rfl (Nat.le_of_ble_eq_true rfl) ⟨Nat.le_of_ble_eq_true rfl, Nat.le_of_ble_eq_true rfl⟩ ⟨rfl, rfl⟩ ⟨Nat.zero_le _, Nat.zero_le _⟩ dX10_size_162 ?_
                      exact g_iret hx hR 165 dX10_size_165 ⟨by rw [← Option.some.inj hr] <;> rfl, rfl⟩
                    · have hr := (if_neg hc_388).symm.trans hr
                      by_cases hc_389 : p1 = 10
                      · have hr := (if_pos hc_389).symm.trans hr
                        refine g_tableIn hx 1 166 dX10_size_1 (by rw [hc_389]; decide) (by rw [hc_389]; decide) (by rw [hc_389]; rfl) (by decide) ?_
                        refine g_aload_n hx 166 (i := 0) 0 dX10_size_166 rfl rfl ?_
                        refine g_get hx 167 (C := RX10) (T := TX10) (N := 11) 6 (.ref (B + 332)) (pW σ B ae M 0 (by decide)) rfl (by decide) rfl fl_X10_50 dX10_size_167 ?_
                        refine g_get hx 170 (C := RX8) (T := TX8) (N := 15) 11 (.ref (B + 332 + 15)) (pW_st9 σ B ae M 0 (by decide)) rfl (by decide) rfl fl_X10_129 dX10_size_170 ?_
                        obtain ⟨q_390, eq_390, hr⟩ := bind_e hr
                        refine g_callVr hx (MG.ar9 (w := M) (c_Rw_wrongPairs l g (putW σ B ae M) (B + 332) (M.1 9) eq_390)) lk_X10_155 ar_Rw_wrongPairs (pW_st9 σ B ae M 15 (by decide)) (T := TX5) (N := 4) rfl (As := []) (rest := []) rfl (Nat.le_of_ble_eq_true rfl) ⟨Nat.le_of_ble_eq_true rfl, Nat.le_of_ble_eq_true rfl⟩ ⟨rfl, rfl⟩ ⟨Nat.zero_le _, Nat.zero_le _⟩ dX10_size_173 ?_
                        exact g_iret hx hR 176 dX10_size_176 ⟨by rw [← Option.some.inj hr] <;> rfl, rfl⟩
                      · have hr := (if_neg hc_389).symm.trans hr
                        by_cases hc_391 : p1 = 11
                        · have hr := (if_pos hc_391).symm.trans hr
                          refine g_tableIn hx 1 177 dX10_size_1 (by rw [hc_391]; decide) (by rw [hc_391]; decide) (by rw [hc_391]; rfl) (by decide) ?_
                          refine g_aload_n hx 177 (i := 0) 0 dX10_size_177 rfl rfl ?_
                          refine g_get hx 178 (C := RX10) (T := TX10) (N := 11) 6 (.ref (B + 332)) (pW σ B ae M 0 (by decide)) rfl (by decide) rfl fl_X10_50 dX10_size_178 ?_
                          refine g_callVr hx (MG.ar9 (w := M) (c_St_daysToRefiling l g (putW σ B ae M) (B + 332) (M.1 9) rfl)) lk_X10_158 ar_St_daysToRefiling (pW_st9 σ B ae M 0 (by decide)) (T := TX8) (N := 15) rfl (As := []) (rest := []) rfl (Nat.le_of_ble_eq_true rfl) ⟨Nat.le_of_ble_eq_true rfl, Nat.le_of_ble_eq_true rfl⟩ ⟨rfl, rfl⟩ ⟨Nat.zero_le _, Nat.zero_le _⟩ dX10_size_181 ?_
                          exact g_iret hx hR 184 dX10_size_184 ⟨by rw [← Option.some.inj hr] <;> rfl, rfl⟩
                        · have hr := (if_neg hc_391).symm.trans hr
                          refine g_tableOut hx 1 185 dX10_size_1 (sw_out (fun c h1 h2 hq => by have hc : c = 0 ∨ c = 1 ∨ c = 2 ∨ c = 3 ∨ c = 4 ∨ c = 5 ∨ c = 6 ∨ c = 7 ∨ c = 8 ∨ c = 9 ∨ c = 10 ∨ c = 11 := (by omega); rcases hc with rfl | rfl | rfl | rfl | rfl | rfl | rfl | rfl | rfl | rfl | rfl | rfl <;> first | exact lv_neT hc_379 rfl hq | exact lv_neT hc_380 rfl hq | exact lv_neT hc_381 rfl hq | exact lv_neT hc_382 rfl hq | exact lv_neT hc_383 rfl hq | exact lv_neT hc_384 rfl hq | exact lv_neT hc_385 rfl hq | exact lv_neT hc_386 rfl hq | exact lv_neT hc_387 rfl hq | exact lv_neT hc_388 rfl hq | exact lv_neT hc_389 rfl hq | exact lv_neT hc_391 rfl hq)) (by decide) ?_
                          cases hr
def SA_account (M : WM) (p1 : Int32) : Option (Int32) := if p1 < 0 then (none) else (if p1 < 11 then (Option.bind (if 3 ≤ p1 then (some (lnget ((M.1 9).2 15) p1)) else (some (lnget (M.2.1 2) p1))) fun b_395 => some (b_395)) else (none))
set_option maxRecDepth 100000 in
set_option maxHeartbeats 4000000 in
theorem c_SA_account {ad ae : Nat → Nat} (l : Launch) (g : Gl) (hC : KAll g ad ae) (σ : Hp) (B : Nat) (M : WM) (p1 : Int32) {r : Int32} (hr : SA_account M p1 = some r) : MG l g md_SA_account [.ref B, .int p1] (putW σ B ae M) (rs (some (.int r)) (putW σ B ae M)) := by
  refine MG.intro (by decide +kernel) (Nat.le_of_ble_eq_true rfl) (fun X hx hR _ => ?_)
  unfold SA_account at hr
  refine g_ls [0, 1] [(0, .ref B), (1, .int p1)] rfl ?_
  refine g_iload_n hx 0 (i := 1) 1 dX10_account_0 rfl rfl ?_
  refine g_if_lt hx 1 10 dX10_account_1 (by decide) (fun hc_392 => ?_) (fun hc_392 => ?_)
  · have hr := (if_pos hc_392).symm.trans hr
    cases hr
  · have hr := (if_neg hc_392).symm.trans hr
    refine g_iload_n hx 4 (i := 1) 1 dX10_account_4 rfl rfl ?_
    refine g_bipush hx 5 (11) dX10_account_5 rfl ?_
    refine g_icmp_lt hx 7 20 dX10_account_7 (by decide) (fun hc_393 => ?_) (fun hc_393 => ?_)
    · have hr := (if_pos hc_393).symm.trans hr
      refine g_iload_n hx 20 (i := 1) 1 dX10_account_20 rfl rfl ?_
      refine g_iconst hx 21 (3) dX10_account_21 rfl ?_
      obtain ⟨b_395, eb_395, hr⟩ := bind_e hr
      have rest : G X (putW σ B ae M) 0 0 47 [(0, .ref B), (1, .int p1)] [.int b_395] := by
        exact g_iret hx hR 47 dX10_account_47 ⟨by rw [← Option.some.inj hr] <;> rfl, rfl⟩
      clear hr
      have hr := eb_395
      refine g_icmp_ge hx 22 36 dX10_account_22 (by decide) (fun hc_394 => ?_) (fun hc_394 => ?_)
      · have hr := (if_pos hc_394).symm.trans hr
        refine g_aload_n hx 36 (i := 0) 0 dX10_account_36 rfl rfl ?_
        refine g_get hx 37 (C := RX10) (T := TX10) (N := 11) 6 (.ref (B + 332)) (pW σ B ae M 0 (by decide)) rfl (by decide) rfl fl_X10_50 dX10_account_37 ?_
        refine g_get hx 40 (C := RX8) (T := TX8) (N := 15) 14 (.ref (B + 332 + 33)) (pW_st9 σ B ae M 0 (by decide)) rfl (by decide) rfl fl_X10_168 dX10_account_40 ?_
        refine g_iload_n hx 43 (i := 1) 1 dX10_account_43 rfl rfl ?_
        refine g_callVr hx (k_get l g (st_l15 (pW_st9 σ B ae M)) (by decide) p1) lk_X10_165 ar_Ln_get (st_l15 (pW_st9 σ B ae M)).1 (T := TX2) (N := 2) rfl (As := [.int p1]) (rest := []) rfl (Nat.le_of_ble_eq_true rfl) ⟨Nat.le_of_ble_eq_true rfl, Nat.le_of_ble_eq_true rfl⟩ ⟨rfl, rfl⟩ ⟨Nat.zero_le _, Nat.zero_le _⟩ dX10_account_44 ?_
        exact g_nmi (Option.some.inj hr).symm rest
      · have hr := (if_neg hc_394).symm.trans hr
        refine g_aload_n hx 25 (i := 0) 0 dX10_account_25 rfl rfl ?_
        refine g_get hx 26 (C := RX10) (T := TX10) (N := 11) 2 (.ref (B + 5)) (pW σ B ae M 0 (by decide)) rfl (by decide) rfl fl_X10_21 dX10_account_26 ?_
        refine g_iload_n hx 29 (i := 1) 1 dX10_account_29 rfl rfl ?_
        refine g_callVr hx (k_get l g (pW_l2 σ B ae M) (by decide) p1) lk_X10_165 ar_Ln_get (pW_l2 σ B ae M).1 (T := TX2) (N := 2) rfl (As := [.int p1]) (rest := []) rfl (Nat.le_of_ble_eq_true rfl) ⟨Nat.le_of_ble_eq_true rfl, Nat.le_of_ble_eq_true rfl⟩ ⟨rfl, rfl⟩ ⟨Nat.zero_le _, Nat.zero_le _⟩ dX10_account_30 ?_
        refine g_goto hx 33 47 dX10_account_33 (by decide) ?_
        exact g_nmi (Option.some.inj hr).symm rest
    · have hr := (if_neg hc_393).symm.trans hr
      cases hr
def SA_folder (M : WM) (p1 p2 : Int32) : Option (Int32) := if St_hasFolder (M.1 9) p1 = 0 then (none) else (if p2 = 0 then (some (lnget ((M.1 9).2 0) p1)) else (if p2 = 1 then (some (lnget ((M.1 9).2 1) p1)) else (if p2 = 2 then (some (lnget ((M.1 9).2 2) p1)) else (if p2 = 3 then (some (St_whereabouts (M.1 9) p1)) else (if p2 = 4 then (some (lncnt ((M.1 9).2 12) p1)) else (if p2 = 5 then (some (lnget ((M.1 9).2 4) p1)) else (if p2 = 6 then (Option.bind (if St_isClosed (M.1 9) p1 = 0 then (some 0) else (some 1)) fun b_405 => some (b_405)) else (none))))))))
set_option maxRecDepth 100000 in
set_option maxHeartbeats 4000000 in
theorem c_SA_folder {ad ae : Nat → Nat} (l : Launch) (g : Gl) (hC : KAll g ad ae) (σ : Hp) (B : Nat) (M : WM) (p1 p2 : Int32) {r : Int32} (hr : SA_folder M p1 p2 = some r) : MG l g md_SA_folder [.ref B, .int p1, .int p2] (putW σ B ae M) (rs (some (.int r)) (putW σ B ae M)) := by
  refine MG.intro (by decide +kernel) (Nat.le_of_ble_eq_true rfl) (fun X hx hR _ => ?_)
  unfold SA_folder at hr
  refine g_ls [0, 1, 2] [(0, .ref B), (1, .int p1), (2, .int p2)] rfl ?_
  refine g_aload_n hx 0 (i := 0) 0 dX10_folder_0 rfl rfl ?_
  refine g_get hx 1 (C := RX10) (T := TX10) (N := 11) 6 (.ref (B + 332)) (pW σ B ae M 0 (by decide)) rfl (by decide) rfl fl_X10_50 dX10_folder_1 ?_
  refine g_iload_n hx 4 (i := 1) 1 dX10_folder_4 rfl rfl ?_
  refine g_callVr hx (MG.ar9 (w := M) (c_St_hasFolder l g (putW σ B ae M) (B + 332) (M.1 9) p1 rfl)) lk_X10_171 ar_St_hasFolder (pW_st9 σ B ae M 0 (by decide)) (T := TX8) (N := 15) rfl (As := [.int p1]) (rest := []) rfl (Nat.le_of_ble_eq_true rfl) ⟨Nat.le_of_ble_eq_true rfl, Nat.le_of_ble_eq_true rfl⟩ ⟨rfl, rfl⟩ ⟨Nat.zero_le _, Nat.zero_le _⟩ dX10_folder_5 ?_
  refine g_if_ne hx 8 21 dX10_folder_8 (by decide) (fun hc_396 => ?_) (fun hc_396 => ?_)
  · have hr := (if_neg hc_396).symm.trans hr
    refine g_iload_n hx 21 (i := 2) 2 dX10_folder_21 rfl rfl ?_
    by_cases hc_397 : p2 = 0
    · have hr := (if_pos hc_397).symm.trans hr
      refine g_tableIn hx 22 64 dX10_folder_22 (by rw [hc_397]; decide) (by rw [hc_397]; decide) (by rw [hc_397]; rfl) (by decide) ?_
      refine g_aload_n hx 64 (i := 0) 0 dX10_folder_64 rfl rfl ?_
      refine g_get hx 65 (C := RX10) (T := TX10) (N := 11) 6 (.ref (B + 332)) (pW σ B ae M 0 (by decide)) rfl (by decide) rfl fl_X10_50 dX10_folder_65 ?_
      refine g_get hx 68 (C := RX8) (T := TX8) (N := 15) 4 (.ref (B + 332 + 1)) (pW_st9 σ B ae M 0 (by decide)) rfl (by decide) rfl fl_X10_111 dX10_folder_68 ?_
      refine g_iload_n hx 71 (i := 1) 1 dX10_folder_71 rfl rfl ?_
      refine g_callVr hx (k_get l g (st_l0 (pW_st9 σ B ae M)) (by decide) p1) lk_X10_165 ar_Ln_get (st_l0 (pW_st9 σ B ae M)).1 (T := TX2) (N := 2) rfl (As := [.int p1]) (rest := []) rfl (Nat.le_of_ble_eq_true rfl) ⟨Nat.le_of_ble_eq_true rfl, Nat.le_of_ble_eq_true rfl⟩ ⟨rfl, rfl⟩ ⟨Nat.zero_le _, Nat.zero_le _⟩ dX10_folder_72 ?_
      exact g_iret hx hR 75 dX10_folder_75 ⟨by rw [← Option.some.inj hr] <;> rfl, rfl⟩
    · have hr := (if_neg hc_397).symm.trans hr
      by_cases hc_398 : p2 = 1
      · have hr := (if_pos hc_398).symm.trans hr
        refine g_tableIn hx 22 76 dX10_folder_22 (by rw [hc_398]; decide) (by rw [hc_398]; decide) (by rw [hc_398]; rfl) (by decide) ?_
        refine g_aload_n hx 76 (i := 0) 0 dX10_folder_76 rfl rfl ?_
        refine g_get hx 77 (C := RX10) (T := TX10) (N := 11) 6 (.ref (B + 332)) (pW σ B ae M 0 (by decide)) rfl (by decide) rfl fl_X10_50 dX10_folder_77 ?_
        refine g_get hx 80 (C := RX8) (T := TX8) (N := 15) 5 (.ref (B + 332 + 3)) (pW_st9 σ B ae M 0 (by decide)) rfl (by decide) rfl fl_X10_180 dX10_folder_80 ?_
        refine g_iload_n hx 83 (i := 1) 1 dX10_folder_83 rfl rfl ?_
        refine g_callVr hx (k_get l g (st_l1 (pW_st9 σ B ae M)) (by decide) p1) lk_X10_165 ar_Ln_get (st_l1 (pW_st9 σ B ae M)).1 (T := TX2) (N := 2) rfl (As := [.int p1]) (rest := []) rfl (Nat.le_of_ble_eq_true rfl) ⟨Nat.le_of_ble_eq_true rfl, Nat.le_of_ble_eq_true rfl⟩ ⟨rfl, rfl⟩ ⟨Nat.zero_le _, Nat.zero_le _⟩ dX10_folder_84 ?_
        exact g_iret hx hR 87 dX10_folder_87 ⟨by rw [← Option.some.inj hr] <;> rfl, rfl⟩
      · have hr := (if_neg hc_398).symm.trans hr
        by_cases hc_399 : p2 = 2
        · have hr := (if_pos hc_399).symm.trans hr
          refine g_tableIn hx 22 88 dX10_folder_22 (by rw [hc_399]; decide) (by rw [hc_399]; decide) (by rw [hc_399]; rfl) (by decide) ?_
          refine g_aload_n hx 88 (i := 0) 0 dX10_folder_88 rfl rfl ?_
          refine g_get hx 89 (C := RX10) (T := TX10) (N := 11) 6 (.ref (B + 332)) (pW σ B ae M 0 (by decide)) rfl (by decide) rfl fl_X10_50 dX10_folder_89 ?_
          refine g_get hx 92 (C := RX8) (T := TX8) (N := 15) 6 (.ref (B + 332 + 5)) (pW_st9 σ B ae M 0 (by decide)) rfl (by decide) rfl fl_X10_138 dX10_folder_92 ?_
          refine g_iload_n hx 95 (i := 1) 1 dX10_folder_95 rfl rfl ?_
          refine g_callVr hx (k_get l g (st_l2 (pW_st9 σ B ae M)) (by decide) p1) lk_X10_165 ar_Ln_get (st_l2 (pW_st9 σ B ae M)).1 (T := TX2) (N := 2) rfl (As := [.int p1]) (rest := []) rfl (Nat.le_of_ble_eq_true rfl) ⟨Nat.le_of_ble_eq_true rfl, Nat.le_of_ble_eq_true rfl⟩ ⟨rfl, rfl⟩ ⟨Nat.zero_le _, Nat.zero_le _⟩ dX10_folder_96 ?_
          exact g_iret hx hR 99 dX10_folder_99 ⟨by rw [← Option.some.inj hr] <;> rfl, rfl⟩
        · have hr := (if_neg hc_399).symm.trans hr
          by_cases hc_400 : p2 = 3
          · have hr := (if_pos hc_400).symm.trans hr
            refine g_tableIn hx 22 100 dX10_folder_22 (by rw [hc_400]; decide) (by rw [hc_400]; decide) (by rw [hc_400]; rfl) (by decide) ?_
            refine g_aload_n hx 100 (i := 0) 0 dX10_folder_100 rfl rfl ?_
            refine g_get hx 101 (C := RX10) (T := TX10) (N := 11) 6 (.ref (B + 332)) (pW σ B ae M 0 (by decide)) rfl (by decide) rfl fl_X10_50 dX10_folder_101 ?_
            refine g_iload_n hx 104 (i := 1) 1 dX10_folder_104 rfl rfl ?_
            refine g_callVr hx (MG.ar9 (w := M) (c_St_whereabouts l g (putW σ B ae M) (B + 332) (M.1 9) p1 rfl)) lk_X10_183 ar_St_whereabouts (pW_st9 σ B ae M 0 (by decide)) (T := TX8) (N := 15) rfl (As := [.int p1]) (rest := []) rfl (Nat.le_of_ble_eq_true rfl) ⟨Nat.le_of_ble_eq_true rfl, Nat.le_of_ble_eq_true rfl⟩ ⟨rfl, rfl⟩ ⟨Nat.zero_le _, Nat.zero_le _⟩ dX10_folder_105 ?_
            exact g_iret hx hR 108 dX10_folder_108 ⟨by rw [← Option.some.inj hr] <;> rfl, rfl⟩
          · have hr := (if_neg hc_400).symm.trans hr
            by_cases hc_401 : p2 = 4
            · have hr := (if_pos hc_401).symm.trans hr
              refine g_tableIn hx 22 109 dX10_folder_22 (by rw [hc_401]; decide) (by rw [hc_401]; decide) (by rw [hc_401]; rfl) (by decide) ?_
              refine g_aload_n hx 109 (i := 0) 0 dX10_folder_109 rfl rfl ?_
              refine g_get hx 110 (C := RX10) (T := TX10) (N := 11) 6 (.ref (B + 332)) (pW σ B ae M 0 (by decide)) rfl (by decide) rfl fl_X10_50 dX10_folder_110 ?_
              refine g_get hx 113 (C := RX8) (T := TX8) (N := 15) 13 (.ref (B + 332 + 24)) (pW_st9 σ B ae M 0 (by decide)) rfl (by decide) rfl fl_X10_148 dX10_folder_113 ?_
              refine g_get hx 116 (C := RX7) (T := TX7) (N := 4) 1 (.ref (B + 332 + 27)) (pW_st9 σ B ae M 24 (by decide)) rfl (by decide) rfl fl_X10_186 dX10_folder_116 ?_
              refine g_iload_n hx 119 (i := 1) 1 dX10_folder_119 rfl rfl ?_
              refine g_callVr hx (k_countOf l g (st_l12 (pW_st9 σ B ae M)) (by decide) p1) lk_X10_141 ar_Ln_countOf (st_l12 (pW_st9 σ B ae M)).1 (T := TX2) (N := 2) rfl (As := [.int p1]) (rest := []) rfl (Nat.le_of_ble_eq_true rfl) ⟨Nat.le_of_ble_eq_true rfl, Nat.le_of_ble_eq_true rfl⟩ ⟨rfl, rfl⟩ ⟨Nat.zero_le _, Nat.zero_le _⟩ dX10_folder_120 ?_
              exact g_iret hx hR 123 dX10_folder_123 ⟨by rw [← Option.some.inj hr] <;> rfl, rfl⟩
            · have hr := (if_neg hc_401).symm.trans hr
              by_cases hc_402 : p2 = 5
              · have hr := (if_pos hc_402).symm.trans hr
                refine g_tableIn hx 22 124 dX10_folder_22 (by rw [hc_402]; decide) (by rw [hc_402]; decide) (by rw [hc_402]; rfl) (by decide) ?_
                refine g_aload_n hx 124 (i := 0) 0 dX10_folder_124 rfl rfl ?_
                refine g_get hx 125 (C := RX10) (T := TX10) (N := 11) 6 (.ref (B + 332)) (pW σ B ae M 0 (by decide)) rfl (by decide) rfl fl_X10_50 dX10_folder_125 ?_
                refine g_get hx 128 (C := RX8) (T := TX8) (N := 15) 8 (.ref (B + 332 + 9)) (pW_st9 σ B ae M 0 (by decide)) rfl (by decide) rfl fl_X10_187 dX10_folder_128 ?_
                refine g_iload_n hx 131 (i := 1) 1 dX10_folder_131 rfl rfl ?_
                refine g_callVr hx (k_get l g (st_l4 (pW_st9 σ B ae M)) (by decide) p1) lk_X10_165 ar_Ln_get (st_l4 (pW_st9 σ B ae M)).1 (T := TX2) (N := 2) rfl (As := [.int p1]) (rest := []) rfl (Nat.le_of_ble_eq_true rfl) ⟨Nat.le_of_ble_eq_true rfl, Nat.le_of_ble_eq_true rfl⟩ ⟨rfl, rfl⟩ ⟨Nat.zero_le _, Nat.zero_le _⟩ dX10_folder_132 ?_
                exact g_iret hx hR 135 dX10_folder_135 ⟨by rw [← Option.some.inj hr] <;> rfl, rfl⟩
              · have hr := (if_neg hc_402).symm.trans hr
                by_cases hc_403 : p2 = 6
                · have hr := (if_pos hc_403).symm.trans hr
                  refine g_tableIn hx 22 136 dX10_folder_22 (by rw [hc_403]; decide) (by rw [hc_403]; decide) (by rw [hc_403]; rfl) (by decide) ?_
                  refine g_aload_n hx 136 (i := 0) 0 dX10_folder_136 rfl rfl ?_
                  refine g_get hx 137 (C := RX10) (T := TX10) (N := 11) 6 (.ref (B + 332)) (pW σ B ae M 0 (by decide)) rfl (by decide) rfl fl_X10_50 dX10_folder_137 ?_
                  refine g_iload_n hx 140 (i := 1) 1 dX10_folder_140 rfl rfl ?_
                  refine g_callVr hx (MG.ar9 (w := M) (c_St_isClosed l g (putW σ B ae M) (B + 332) (M.1 9) p1 rfl)) lk_X10_190 ar_St_isClosed (pW_st9 σ B ae M 0 (by decide)) (T := TX8) (N := 15) rfl (As := [.int p1]) (rest := []) rfl (Nat.le_of_ble_eq_true rfl) ⟨Nat.le_of_ble_eq_true rfl, Nat.le_of_ble_eq_true rfl⟩ ⟨rfl, rfl⟩ ⟨Nat.zero_le _, Nat.zero_le _⟩ dX10_folder_141 ?_
                  obtain ⟨b_405, eb_405, hr⟩ := bind_e hr
                  have rest : G X (putW σ B ae M) 0 0 152 [(0, .ref B), (1, .int p1), (2, .int p2)] [.int b_405] := by
                    exact g_iret hx hR 152 dX10_folder_152 ⟨by rw [← Option.some.inj hr] <;> rfl, rfl⟩
                  clear hr
                  have hr := eb_405
                  refine g_if_eq hx 144 151 dX10_folder_144 (by decide) (fun hc_404 => ?_) (fun hc_404 => ?_)
                  · have hr := (if_pos hc_404).symm.trans hr
                    refine g_iconst hx 151 (0) dX10_folder_151 rfl ?_
                    exact g_nmi (Option.some.inj hr).symm rest
                  · have hr := (if_neg hc_404).symm.trans hr
                    refine g_iconst hx 147 (1) dX10_folder_147 rfl ?_
                    refine g_goto hx 148 152 dX10_folder_148 (by decide) ?_
                    exact g_nmi (Option.some.inj hr).symm rest
                · have hr := (if_neg hc_403).symm.trans hr
                  refine g_tableOut hx 22 153 dX10_folder_22 (sw_out (fun c h1 h2 hq => by have hc : c = 0 ∨ c = 1 ∨ c = 2 ∨ c = 3 ∨ c = 4 ∨ c = 5 ∨ c = 6 := (by omega); rcases hc with rfl | rfl | rfl | rfl | rfl | rfl | rfl <;> first | exact lv_neT hc_397 rfl hq | exact lv_neT hc_398 rfl hq | exact lv_neT hc_399 rfl hq | exact lv_neT hc_400 rfl hq | exact lv_neT hc_401 rfl hq | exact lv_neT hc_402 rfl hq | exact lv_neT hc_403 rfl hq)) (by decide) ?_
                  cases hr
  · have hr := (if_pos hc_396).symm.trans hr
    cases hr
def SA_marked (M : WM) (p1 : Int32) : Int32 := lnpl ((M.1 9).2 0) p1
set_option maxRecDepth 100000 in
set_option maxHeartbeats 4000000 in
theorem c_SA_marked {ad ae : Nat → Nat} (l : Launch) (g : Gl) (hC : KAll g ad ae) (σ : Hp) (B : Nat) (M : WM) (p1 : Int32) {r : Int32} (hr : SA_marked M p1 = r) : MG l g md_SA_marked [.ref B, .int p1] (putW σ B ae M) (rs (some (.int r)) (putW σ B ae M)) := by
  refine MG.intro (by decide +kernel) (Nat.le_of_ble_eq_true rfl) (fun X hx hR _ => ?_)
  unfold SA_marked at hr
  refine g_ls [0, 1] [(0, .ref B), (1, .int p1)] rfl ?_
  refine g_aload_n hx 0 (i := 0) 0 dX10_marked_0 rfl rfl ?_
  refine g_get hx 1 (C := RX10) (T := TX10) (N := 11) 6 (.ref (B + 332)) (pW σ B ae M 0 (by decide)) rfl (by decide) rfl fl_X10_50 dX10_marked_1 ?_
  refine g_get hx 4 (C := RX8) (T := TX8) (N := 15) 4 (.ref (B + 332 + 1)) (pW_st9 σ B ae M 0 (by decide)) rfl (by decide) rfl fl_X10_111 dX10_marked_4 ?_
  refine g_iload_n hx 7 (i := 1) 1 dX10_marked_7 rfl rfl ?_
  refine g_callVr hx (k_placeOf l g (st_l0 (pW_st9 σ B ae M)) (by decide) p1) lk_X10_195 ar_Ln_placeOf (st_l0 (pW_st9 σ B ae M)).1 (T := TX2) (N := 2) rfl (As := [.int p1]) (rest := []) rfl (Nat.le_of_ble_eq_true rfl) ⟨Nat.le_of_ble_eq_true rfl, Nat.le_of_ble_eq_true rfl⟩ ⟨rfl, rfl⟩ ⟨Nat.zero_le _, Nat.zero_le _⟩ dX10_marked_8 ?_
  exact g_iret hx hR 11 dX10_marked_11 ⟨by rw [← hr] <;> rfl, rfl⟩
def SA_at (M : WM) (p1 : Int32) : Int32 := lnget ((M.1 9).2 7) p1
set_option maxRecDepth 100000 in
set_option maxHeartbeats 4000000 in
theorem c_SA_at {ad ae : Nat → Nat} (l : Launch) (g : Gl) (hC : KAll g ad ae) (σ : Hp) (B : Nat) (M : WM) (p1 : Int32) {r : Int32} (hr : SA_at M p1 = r) : MG l g md_SA_at [.ref B, .int p1] (putW σ B ae M) (rs (some (.int r)) (putW σ B ae M)) := by
  refine MG.intro (by decide +kernel) (Nat.le_of_ble_eq_true rfl) (fun X hx hR _ => ?_)
  unfold SA_at at hr
  refine g_ls [0, 1] [(0, .ref B), (1, .int p1)] rfl ?_
  refine g_aload_n hx 0 (i := 0) 0 dX10_at_0 rfl rfl ?_
  refine g_get hx 1 (C := RX10) (T := TX10) (N := 11) 6 (.ref (B + 332)) (pW σ B ae M 0 (by decide)) rfl (by decide) rfl fl_X10_50 dX10_at_1 ?_
  refine g_get hx 4 (C := RX8) (T := TX8) (N := 15) 11 (.ref (B + 332 + 15)) (pW_st9 σ B ae M 0 (by decide)) rfl (by decide) rfl fl_X10_129 dX10_at_4 ?_
  refine g_get hx 7 (C := RX5) (T := TX5) (N := 4) 0 (.ref (B + 332 + 16)) (pW_st9 σ B ae M 15 (by decide)) rfl (by decide) rfl fl_X10_133 dX10_at_7 ?_
  refine g_iload_n hx 10 (i := 1) 1 dX10_at_10 rfl rfl ?_
  refine g_callVr hx (k_get l g (st_l7 (pW_st9 σ B ae M)) (by decide) p1) lk_X10_165 ar_Ln_get (st_l7 (pW_st9 σ B ae M)).1 (T := TX2) (N := 2) rfl (As := [.int p1]) (rest := []) rfl (Nat.le_of_ble_eq_true rfl) ⟨Nat.le_of_ble_eq_true rfl, Nat.le_of_ble_eq_true rfl⟩ ⟨rfl, rfl⟩ ⟨Nat.zero_le _, Nat.zero_le _⟩ dX10_at_11 ?_
  exact g_iret hx hR 14 dX10_at_14 ⟨by rw [← hr] <;> rfl, rfl⟩
def SA_reader (M : WM) (p1 p2 : Int32) : Option (Int32) := if St_hasReader (M.1 9) p1 = 0 then (none) else (if p2 = 0 then (some (lnget ((M.1 9).2 5) p1)) else (if p2 = 1 then (some (lncnt ((M.1 9).2 11) p1)) else (if p2 = 2 then (some (lnget ((M.1 9).2 6) p1)) else (none))))
set_option maxRecDepth 100000 in
set_option maxHeartbeats 4000000 in
theorem c_SA_reader {ad ae : Nat → Nat} (l : Launch) (g : Gl) (hC : KAll g ad ae) (σ : Hp) (B : Nat) (M : WM) (p1 p2 : Int32) {r : Int32} (hr : SA_reader M p1 p2 = some r) : MG l g md_SA_reader [.ref B, .int p1, .int p2] (putW σ B ae M) (rs (some (.int r)) (putW σ B ae M)) := by
  refine MG.intro (by decide +kernel) (Nat.le_of_ble_eq_true rfl) (fun X hx hR _ => ?_)
  unfold SA_reader at hr
  refine g_ls [0, 1, 2] [(0, .ref B), (1, .int p1), (2, .int p2)] rfl ?_
  refine g_aload_n hx 0 (i := 0) 0 dX10_reader_0 rfl rfl ?_
  refine g_get hx 1 (C := RX10) (T := TX10) (N := 11) 6 (.ref (B + 332)) (pW σ B ae M 0 (by decide)) rfl (by decide) rfl fl_X10_50 dX10_reader_1 ?_
  refine g_iload_n hx 4 (i := 1) 1 dX10_reader_4 rfl rfl ?_
  refine g_callVr hx (MG.ar9 (w := M) (c_St_hasReader l g (putW σ B ae M) (B + 332) (M.1 9) p1 rfl)) lk_X10_198 ar_St_hasReader (pW_st9 σ B ae M 0 (by decide)) (T := TX8) (N := 15) rfl (As := [.int p1]) (rest := []) rfl (Nat.le_of_ble_eq_true rfl) ⟨Nat.le_of_ble_eq_true rfl, Nat.le_of_ble_eq_true rfl⟩ ⟨rfl, rfl⟩ ⟨Nat.zero_le _, Nat.zero_le _⟩ dX10_reader_5 ?_
  refine g_if_ne hx 8 21 dX10_reader_8 (by decide) (fun hc_406 => ?_) (fun hc_406 => ?_)
  · have hr := (if_neg hc_406).symm.trans hr
    refine g_iload_n hx 21 (i := 2) 2 dX10_reader_21 rfl rfl ?_
    by_cases hc_407 : p2 = 0
    · have hr := (if_pos hc_407).symm.trans hr
      refine g_tableIn hx 22 48 dX10_reader_22 (by rw [hc_407]; decide) (by rw [hc_407]; decide) (by rw [hc_407]; rfl) (by decide) ?_
      refine g_aload_n hx 48 (i := 0) 0 dX10_reader_48 rfl rfl ?_
      refine g_get hx 49 (C := RX10) (T := TX10) (N := 11) 6 (.ref (B + 332)) (pW σ B ae M 0 (by decide)) rfl (by decide) rfl fl_X10_50 dX10_reader_49 ?_
      refine g_get hx 52 (C := RX8) (T := TX8) (N := 15) 9 (.ref (B + 332 + 11)) (pW_st9 σ B ae M 0 (by decide)) rfl (by decide) rfl fl_X10_123 dX10_reader_52 ?_
      refine g_iload_n hx 55 (i := 1) 1 dX10_reader_55 rfl rfl ?_
      refine g_callVr hx (k_get l g (st_l5 (pW_st9 σ B ae M)) (by decide) p1) lk_X10_165 ar_Ln_get (st_l5 (pW_st9 σ B ae M)).1 (T := TX2) (N := 2) rfl (As := [.int p1]) (rest := []) rfl (Nat.le_of_ble_eq_true rfl) ⟨Nat.le_of_ble_eq_true rfl, Nat.le_of_ble_eq_true rfl⟩ ⟨rfl, rfl⟩ ⟨Nat.zero_le _, Nat.zero_le _⟩ dX10_reader_56 ?_
      exact g_iret hx hR 59 dX10_reader_59 ⟨by rw [← Option.some.inj hr] <;> rfl, rfl⟩
    · have hr := (if_neg hc_407).symm.trans hr
      by_cases hc_408 : p2 = 1
      · have hr := (if_pos hc_408).symm.trans hr
        refine g_tableIn hx 22 60 dX10_reader_22 (by rw [hc_408]; decide) (by rw [hc_408]; decide) (by rw [hc_408]; rfl) (by decide) ?_
        refine g_aload_n hx 60 (i := 0) 0 dX10_reader_60 rfl rfl ?_
        refine g_get hx 61 (C := RX10) (T := TX10) (N := 11) 6 (.ref (B + 332)) (pW σ B ae M 0 (by decide)) rfl (by decide) rfl fl_X10_50 dX10_reader_61 ?_
        refine g_get hx 64 (C := RX8) (T := TX8) (N := 15) 13 (.ref (B + 332 + 24)) (pW_st9 σ B ae M 0 (by decide)) rfl (by decide) rfl fl_X10_148 dX10_reader_64 ?_
        refine g_get hx 67 (C := RX7) (T := TX7) (N := 4) 0 (.ref (B + 332 + 25)) (pW_st9 σ B ae M 24 (by decide)) rfl (by decide) rfl fl_X10_203 dX10_reader_67 ?_
        refine g_iload_n hx 70 (i := 1) 1 dX10_reader_70 rfl rfl ?_
        refine g_callVr hx (k_countOf l g (st_l11 (pW_st9 σ B ae M)) (by decide) p1) lk_X10_141 ar_Ln_countOf (st_l11 (pW_st9 σ B ae M)).1 (T := TX2) (N := 2) rfl (As := [.int p1]) (rest := []) rfl (Nat.le_of_ble_eq_true rfl) ⟨Nat.le_of_ble_eq_true rfl, Nat.le_of_ble_eq_true rfl⟩ ⟨rfl, rfl⟩ ⟨Nat.zero_le _, Nat.zero_le _⟩ dX10_reader_71 ?_
        exact g_iret hx hR 74 dX10_reader_74 ⟨by rw [← Option.some.inj hr] <;> rfl, rfl⟩
      · have hr := (if_neg hc_408).symm.trans hr
        by_cases hc_409 : p2 = 2
        · have hr := (if_pos hc_409).symm.trans hr
          refine g_tableIn hx 22 75 dX10_reader_22 (by rw [hc_409]; decide) (by rw [hc_409]; decide) (by rw [hc_409]; rfl) (by decide) ?_
          refine g_aload_n hx 75 (i := 0) 0 dX10_reader_75 rfl rfl ?_
          refine g_get hx 76 (C := RX10) (T := TX10) (N := 11) 6 (.ref (B + 332)) (pW σ B ae M 0 (by decide)) rfl (by decide) rfl fl_X10_50 dX10_reader_76 ?_
          refine g_get hx 79 (C := RX8) (T := TX8) (N := 15) 10 (.ref (B + 332 + 13)) (pW_st9 σ B ae M 0 (by decide)) rfl (by decide) rfl fl_X10_206 dX10_reader_79 ?_
          refine g_iload_n hx 82 (i := 1) 1 dX10_reader_82 rfl rfl ?_
          refine g_callVr hx (k_get l g (st_l6 (pW_st9 σ B ae M)) (by decide) p1) lk_X10_165 ar_Ln_get (st_l6 (pW_st9 σ B ae M)).1 (T := TX2) (N := 2) rfl (As := [.int p1]) (rest := []) rfl (Nat.le_of_ble_eq_true rfl) ⟨Nat.le_of_ble_eq_true rfl, Nat.le_of_ble_eq_true rfl⟩ ⟨rfl, rfl⟩ ⟨Nat.zero_le _, Nat.zero_le _⟩ dX10_reader_83 ?_
          exact g_iret hx hR 86 dX10_reader_86 ⟨by rw [← Option.some.inj hr] <;> rfl, rfl⟩
        · have hr := (if_neg hc_409).symm.trans hr
          refine g_tableOut hx 22 87 dX10_reader_22 (sw_out (fun c h1 h2 hq => by have hc : c = 0 ∨ c = 1 ∨ c = 2 := (by omega); rcases hc with rfl | rfl | rfl <;> first | exact lv_neT hc_407 rfl hq | exact lv_neT hc_408 rfl hq | exact lv_neT hc_409 rfl hq)) (by decide) ?_
          cases hr
  · have hr := (if_pos hc_406).symm.trans hr
    cases hr
def SA_waiting (M : WM) (p1 p2 : Int32) : Option (Int32) := if p2 < 0 then (none) else (if p2 ≤ 4 then (if p2 = 0 then (some (lnget ((M.1 9).2 11) p1)) else (if p2 = 1 then (some (lnget ((M.1 9).2 12) p1)) else (if p2 = 2 then (some (lnget ((M.1 9).2 13) p1)) else (if p2 = 3 then (some (lnget ((M.1 9).2 14) p1)) else (Option.bind (if Sl_has (M.1 9) p1 = 0 then (some (-1)) else (some (St_idleness (M.1 9) p1))) fun b_417 => some (b_417)))))) else (none))
set_option maxRecDepth 100000 in
set_option maxHeartbeats 4000000 in
theorem c_SA_waiting {ad ae : Nat → Nat} (l : Launch) (g : Gl) (hC : KAll g ad ae) (σ : Hp) (B : Nat) (M : WM) (p1 p2 : Int32) {r : Int32} (hr : SA_waiting M p1 p2 = some r) : MG l g md_SA_waiting [.ref B, .int p1, .int p2] (putW σ B ae M) (rs (some (.int r)) (putW σ B ae M)) := by
  refine MG.intro (by decide +kernel) (Nat.le_of_ble_eq_true rfl) (fun X hx hR _ => ?_)
  unfold SA_waiting at hr
  refine g_ls [0, 1, 2] [(0, .ref B), (1, .int p1), (2, .int p2)] rfl ?_
  refine g_iload_n hx 0 (i := 2) 2 dX10_waiting_0 rfl rfl ?_
  refine g_if_lt hx 1 9 dX10_waiting_1 (by decide) (fun hc_410 => ?_) (fun hc_410 => ?_)
  · have hr := (if_pos hc_410).symm.trans hr
    cases hr
  · have hr := (if_neg hc_410).symm.trans hr
    refine g_iload_n hx 4 (i := 2) 2 dX10_waiting_4 rfl rfl ?_
    refine g_iconst hx 5 (4) dX10_waiting_5 rfl ?_
    refine g_icmp_le hx 6 19 dX10_waiting_6 (by decide) (fun hc_411 => ?_) (fun hc_411 => ?_)
    · have hr := (if_pos hc_411).symm.trans hr
      refine g_iload_n hx 19 (i := 2) 2 dX10_waiting_19 rfl rfl ?_
      by_cases hc_412 : p2 = 0
      · have hr := (if_pos hc_412).symm.trans hr
        refine g_tableIn hx 20 52 dX10_waiting_20 (by rw [hc_412]; decide) (by rw [hc_412]; decide) (by rw [hc_412]; rfl) (by decide) ?_
        refine g_aload_n hx 52 (i := 0) 0 dX10_waiting_52 rfl rfl ?_
        refine g_get hx 53 (C := RX10) (T := TX10) (N := 11) 6 (.ref (B + 332)) (pW σ B ae M 0 (by decide)) rfl (by decide) rfl fl_X10_50 dX10_waiting_53 ?_
        refine g_get hx 56 (C := RX8) (T := TX8) (N := 15) 13 (.ref (B + 332 + 24)) (pW_st9 σ B ae M 0 (by decide)) rfl (by decide) rfl fl_X10_148 dX10_waiting_56 ?_
        refine g_get hx 59 (C := RX7) (T := TX7) (N := 4) 0 (.ref (B + 332 + 25)) (pW_st9 σ B ae M 24 (by decide)) rfl (by decide) rfl fl_X10_203 dX10_waiting_59 ?_
        refine g_iload_n hx 62 (i := 1) 1 dX10_waiting_62 rfl rfl ?_
        refine g_callVr hx (k_get l g (st_l11 (pW_st9 σ B ae M)) (by decide) p1) lk_X10_165 ar_Ln_get (st_l11 (pW_st9 σ B ae M)).1 (T := TX2) (N := 2) rfl (As := [.int p1]) (rest := []) rfl (Nat.le_of_ble_eq_true rfl) ⟨Nat.le_of_ble_eq_true rfl, Nat.le_of_ble_eq_true rfl⟩ ⟨rfl, rfl⟩ ⟨Nat.zero_le _, Nat.zero_le _⟩ dX10_waiting_63 ?_
        exact g_iret hx hR 66 dX10_waiting_66 ⟨by rw [← Option.some.inj hr] <;> rfl, rfl⟩
      · have hr := (if_neg hc_412).symm.trans hr
        by_cases hc_413 : p2 = 1
        · have hr := (if_pos hc_413).symm.trans hr
          refine g_tableIn hx 20 67 dX10_waiting_20 (by rw [hc_413]; decide) (by rw [hc_413]; decide) (by rw [hc_413]; rfl) (by decide) ?_
          refine g_aload_n hx 67 (i := 0) 0 dX10_waiting_67 rfl rfl ?_
          refine g_get hx 68 (C := RX10) (T := TX10) (N := 11) 6 (.ref (B + 332)) (pW σ B ae M 0 (by decide)) rfl (by decide) rfl fl_X10_50 dX10_waiting_68 ?_
          refine g_get hx 71 (C := RX8) (T := TX8) (N := 15) 13 (.ref (B + 332 + 24)) (pW_st9 σ B ae M 0 (by decide)) rfl (by decide) rfl fl_X10_148 dX10_waiting_71 ?_
          refine g_get hx 74 (C := RX7) (T := TX7) (N := 4) 1 (.ref (B + 332 + 27)) (pW_st9 σ B ae M 24 (by decide)) rfl (by decide) rfl fl_X10_186 dX10_waiting_74 ?_
          refine g_iload_n hx 77 (i := 1) 1 dX10_waiting_77 rfl rfl ?_
          refine g_callVr hx (k_get l g (st_l12 (pW_st9 σ B ae M)) (by decide) p1) lk_X10_165 ar_Ln_get (st_l12 (pW_st9 σ B ae M)).1 (T := TX2) (N := 2) rfl (As := [.int p1]) (rest := []) rfl (Nat.le_of_ble_eq_true rfl) ⟨Nat.le_of_ble_eq_true rfl, Nat.le_of_ble_eq_true rfl⟩ ⟨rfl, rfl⟩ ⟨Nat.zero_le _, Nat.zero_le _⟩ dX10_waiting_78 ?_
          exact g_iret hx hR 81 dX10_waiting_81 ⟨by rw [← Option.some.inj hr] <;> rfl, rfl⟩
        · have hr := (if_neg hc_413).symm.trans hr
          by_cases hc_414 : p2 = 2
          · have hr := (if_pos hc_414).symm.trans hr
            refine g_tableIn hx 20 82 dX10_waiting_20 (by rw [hc_414]; decide) (by rw [hc_414]; decide) (by rw [hc_414]; rfl) (by decide) ?_
            refine g_aload_n hx 82 (i := 0) 0 dX10_waiting_82 rfl rfl ?_
            refine g_get hx 83 (C := RX10) (T := TX10) (N := 11) 6 (.ref (B + 332)) (pW σ B ae M 0 (by decide)) rfl (by decide) rfl fl_X10_50 dX10_waiting_83 ?_
            refine g_get hx 86 (C := RX8) (T := TX8) (N := 15) 13 (.ref (B + 332 + 24)) (pW_st9 σ B ae M 0 (by decide)) rfl (by decide) rfl fl_X10_148 dX10_waiting_86 ?_
            refine g_get hx 89 (C := RX7) (T := TX7) (N := 4) 2 (.ref (B + 332 + 29)) (pW_st9 σ B ae M 24 (by decide)) rfl (by decide) rfl fl_X10_213 dX10_waiting_89 ?_
            refine g_iload_n hx 92 (i := 1) 1 dX10_waiting_92 rfl rfl ?_
            refine g_callVr hx (k_get l g (st_l13 (pW_st9 σ B ae M)) (by decide) p1) lk_X10_165 ar_Ln_get (st_l13 (pW_st9 σ B ae M)).1 (T := TX2) (N := 2) rfl (As := [.int p1]) (rest := []) rfl (Nat.le_of_ble_eq_true rfl) ⟨Nat.le_of_ble_eq_true rfl, Nat.le_of_ble_eq_true rfl⟩ ⟨rfl, rfl⟩ ⟨Nat.zero_le _, Nat.zero_le _⟩ dX10_waiting_93 ?_
            exact g_iret hx hR 96 dX10_waiting_96 ⟨by rw [← Option.some.inj hr] <;> rfl, rfl⟩
          · have hr := (if_neg hc_414).symm.trans hr
            by_cases hc_415 : p2 = 3
            · have hr := (if_pos hc_415).symm.trans hr
              refine g_tableIn hx 20 97 dX10_waiting_20 (by rw [hc_415]; decide) (by rw [hc_415]; decide) (by rw [hc_415]; rfl) (by decide) ?_
              refine g_aload_n hx 97 (i := 0) 0 dX10_waiting_97 rfl rfl ?_
              refine g_get hx 98 (C := RX10) (T := TX10) (N := 11) 6 (.ref (B + 332)) (pW σ B ae M 0 (by decide)) rfl (by decide) rfl fl_X10_50 dX10_waiting_98 ?_
              refine g_get hx 101 (C := RX8) (T := TX8) (N := 15) 13 (.ref (B + 332 + 24)) (pW_st9 σ B ae M 0 (by decide)) rfl (by decide) rfl fl_X10_148 dX10_waiting_101 ?_
              refine g_get hx 104 (C := RX7) (T := TX7) (N := 4) 3 (.ref (B + 332 + 31)) (pW_st9 σ B ae M 24 (by decide)) rfl (by decide) rfl fl_X10_216 dX10_waiting_104 ?_
              refine g_iload_n hx 107 (i := 1) 1 dX10_waiting_107 rfl rfl ?_
              refine g_callVr hx (k_get l g (st_l14 (pW_st9 σ B ae M)) (by decide) p1) lk_X10_165 ar_Ln_get (st_l14 (pW_st9 σ B ae M)).1 (T := TX2) (N := 2) rfl (As := [.int p1]) (rest := []) rfl (Nat.le_of_ble_eq_true rfl) ⟨Nat.le_of_ble_eq_true rfl, Nat.le_of_ble_eq_true rfl⟩ ⟨rfl, rfl⟩ ⟨Nat.zero_le _, Nat.zero_le _⟩ dX10_waiting_108 ?_
              exact g_iret hx hR 111 dX10_waiting_111 ⟨by rw [← Option.some.inj hr] <;> rfl, rfl⟩
            · have hr := (if_neg hc_415).symm.trans hr
              refine g_tableOut hx 20 112 dX10_waiting_20 (sw_out (fun c h1 h2 hq => by have hc : c = 0 ∨ c = 1 ∨ c = 2 ∨ c = 3 := (by omega); rcases hc with rfl | rfl | rfl | rfl <;> first | exact lv_neT hc_412 rfl hq | exact lv_neT hc_413 rfl hq | exact lv_neT hc_414 rfl hq | exact lv_neT hc_415 rfl hq)) (by decide) ?_
              refine g_aload_n hx 112 (i := 0) 0 dX10_waiting_112 rfl rfl ?_
              refine g_get hx 113 (C := RX10) (T := TX10) (N := 11) 6 (.ref (B + 332)) (pW σ B ae M 0 (by decide)) rfl (by decide) rfl fl_X10_50 dX10_waiting_113 ?_
              refine g_get hx 116 (C := RX8) (T := TX8) (N := 15) 13 (.ref (B + 332 + 24)) (pW_st9 σ B ae M 0 (by decide)) rfl (by decide) rfl fl_X10_148 dX10_waiting_116 ?_
              refine g_iload_n hx 119 (i := 1) 1 dX10_waiting_119 rfl rfl ?_
              refine g_callVr hx (MG.ar9 (w := M) (c_Sl_has l g (putW σ B ae M) (B + 332) (M.1 9) p1 rfl)) lk_X10_219 ar_Sl_has (pW_st9 σ B ae M 24 (by decide)) (T := TX7) (N := 4) rfl (As := [.int p1]) (rest := []) rfl (Nat.le_of_ble_eq_true rfl) ⟨Nat.le_of_ble_eq_true rfl, Nat.le_of_ble_eq_true rfl⟩ ⟨rfl, rfl⟩ ⟨Nat.zero_le _, Nat.zero_le _⟩ dX10_waiting_120 ?_
              obtain ⟨b_417, eb_417, hr⟩ := bind_e hr
              have rest : G X (putW σ B ae M) 0 0 138 [(0, .ref B), (1, .int p1), (2, .int p2)] [.int b_417] := by
                exact g_iret hx hR 138 dX10_waiting_138 ⟨by rw [← Option.some.inj hr] <;> rfl, rfl⟩
              clear hr
              have hr := eb_417
              refine g_if_eq hx 123 137 dX10_waiting_123 (by decide) (fun hc_416 => ?_) (fun hc_416 => ?_)
              · have hr := (if_pos hc_416).symm.trans hr
                refine g_iconst hx 137 (-1) dX10_waiting_137 rfl ?_
                exact g_nmi (Option.some.inj hr).symm rest
              · have hr := (if_neg hc_416).symm.trans hr
                refine g_aload_n hx 126 (i := 0) 0 dX10_waiting_126 rfl rfl ?_
                refine g_get hx 127 (C := RX10) (T := TX10) (N := 11) 6 (.ref (B + 332)) (pW σ B ae M 0 (by decide)) rfl (by decide) rfl fl_X10_50 dX10_waiting_127 ?_
                refine g_iload_n hx 130 (i := 1) 1 dX10_waiting_130 rfl rfl ?_
                refine g_callVr hx (MG.ar9 (w := M) (c_St_idleness l g (putW σ B ae M) (B + 332) (M.1 9) p1 rfl)) lk_X10_222 ar_St_idleness (pW_st9 σ B ae M 0 (by decide)) (T := TX8) (N := 15) rfl (As := [.int p1]) (rest := []) rfl (Nat.le_of_ble_eq_true rfl) ⟨Nat.le_of_ble_eq_true rfl, Nat.le_of_ble_eq_true rfl⟩ ⟨rfl, rfl⟩ ⟨Nat.zero_le _, Nat.zero_le _⟩ dX10_waiting_131 ?_
                refine g_goto hx 134 138 dX10_waiting_134 (by decide) ?_
                exact g_nmi (Option.some.inj hr).symm rest
    · have hr := (if_neg hc_411).symm.trans hr
      cases hr
def SA_gap (M : WM) : Option (Int32) := Option.bind (St_foldersAstray (M.1 9)) fun q_418 => Option.bind (St_readersAboveLimit (M.1 9)) fun q_419 => Option.bind (St_slipsForOwnFolders (M.1 9)) fun q_420 => some ((q_418 + q_419) + q_420)
set_option maxRecDepth 100000 in
set_option maxHeartbeats 4000000 in
theorem c_SA_gap {ad ae : Nat → Nat} (l : Launch) (g : Gl) (hC : KAll g ad ae) (σ : Hp) (B : Nat) (M : WM) {r : Int32} (hr : SA_gap M = some r) : MG l g md_SA_gap [.ref B] (putW σ B ae M) (rs (some (.int r)) (putW σ B ae M)) := by
  refine MG.intro (by decide +kernel) (Nat.le_of_ble_eq_true rfl) (fun X hx hR _ => ?_)
  unfold SA_gap at hr
  refine g_ls [0] [(0, .ref B)] rfl ?_
  refine g_aload_n hx 0 (i := 0) 0 dX10_gap_0 rfl rfl ?_
  refine g_get hx 1 (C := RX10) (T := TX10) (N := 11) 6 (.ref (B + 332)) (pW σ B ae M 0 (by decide)) rfl (by decide) rfl fl_X10_50 dX10_gap_1 ?_
  obtain ⟨q_418, eq_418, hr⟩ := bind_e hr
  refine g_callVr hx (MG.ar9 (w := M) (c_St_foldersAstray l g (putW σ B ae M) (B + 332) (M.1 9) eq_418)) lk_X10_225 ar_St_foldersAstray (pW_st9 σ B ae M 0 (by decide)) (T := TX8) (N := 15) rfl (As := []) (rest := []) rfl (Nat.le_of_ble_eq_true rfl) ⟨Nat.le_of_ble_eq_true rfl, Nat.le_of_ble_eq_true rfl⟩ ⟨rfl, rfl⟩ ⟨Nat.zero_le _, Nat.zero_le _⟩ dX10_gap_4 ?_
  refine g_aload_n hx 7 (i := 0) 0 dX10_gap_7 rfl rfl ?_
  refine g_get hx 8 (C := RX10) (T := TX10) (N := 11) 6 (.ref (B + 332)) (pW σ B ae M 0 (by decide)) rfl (by decide) rfl fl_X10_50 dX10_gap_8 ?_
  obtain ⟨q_419, eq_419, hr⟩ := bind_e hr
  refine g_callVr hx (MG.ar9 (w := M) (c_St_readersAboveLimit l g (putW σ B ae M) (B + 332) (M.1 9) eq_419)) lk_X10_228 ar_St_readersAboveLimit (pW_st9 σ B ae M 0 (by decide)) (T := TX8) (N := 15) rfl (As := []) (rest := [.int q_418]) rfl (Nat.le_of_ble_eq_true rfl) ⟨Nat.le_of_ble_eq_true rfl, Nat.le_of_ble_eq_true rfl⟩ ⟨rfl, rfl⟩ ⟨Nat.zero_le _, Nat.zero_le _⟩ dX10_gap_11 ?_
  refine g_iadd hx 14 dX10_gap_14 ?_
  refine g_aload_n hx 15 (i := 0) 0 dX10_gap_15 rfl rfl ?_
  refine g_get hx 16 (C := RX10) (T := TX10) (N := 11) 6 (.ref (B + 332)) (pW σ B ae M 0 (by decide)) rfl (by decide) rfl fl_X10_50 dX10_gap_16 ?_
  obtain ⟨q_420, eq_420, hr⟩ := bind_e hr
  refine g_callVr hx (MG.ar9 (w := M) (c_St_slipsForOwnFolders l g (putW σ B ae M) (B + 332) (M.1 9) eq_420)) lk_X10_231 ar_St_slipsForOwnFolders (pW_st9 σ B ae M 0 (by decide)) (T := TX8) (N := 15) rfl (As := []) (rest := [.int (q_418 + q_419)]) rfl (Nat.le_of_ble_eq_true rfl) ⟨Nat.le_of_ble_eq_true rfl, Nat.le_of_ble_eq_true rfl⟩ ⟨rfl, rfl⟩ ⟨Nat.zero_le _, Nat.zero_le _⟩ dX10_gap_19 ?_
  refine g_iadd hx 22 dX10_gap_22 ?_
  exact g_iret hx hR 23 dX10_gap_23 ⟨by rw [← Option.some.inj hr] <;> rfl, rfl⟩
def SA_found (M : WM) (p1 : Int32) : Option (Int32 × WM) := Option.bind (Rw_halve (M.1 9) p1) fun q_421 => some ((q_421.1, setS M 9 q_421.2))
set_option maxRecDepth 100000 in
set_option maxHeartbeats 4000000 in
theorem c_SA_found {ad ae : Nat → Nat} (l : Launch) (g : Gl) (hC : KAll g ad ae) (σ : Hp) (B : Nat) (M : WM) (p1 : Int32) {r : Int32 × WM} (hr : SA_found M p1 = some r) : MG l g md_SA_found [.ref B, .int p1] (putW σ B ae M) (rs (some (.int r.1)) (putW σ B ae r.2)) := by
  refine MG.intro (by decide +kernel) (Nat.le_of_ble_eq_true rfl) (fun X hx hR _ => ?_)
  unfold SA_found at hr
  refine g_ls [0, 1] [(0, .ref B), (1, .int p1)] rfl ?_
  refine g_aload_n hx 0 (i := 0) 0 dX10_found_0 rfl rfl ?_
  refine g_get hx 1 (C := RX10) (T := TX10) (N := 11) 6 (.ref (B + 332)) (pW σ B ae M 0 (by decide)) rfl (by decide) rfl fl_X10_50 dX10_found_1 ?_
  refine g_get hx 4 (C := RX8) (T := TX8) (N := 15) 11 (.ref (B + 332 + 15)) (pW_st9 σ B ae M 0 (by decide)) rfl (by decide) rfl fl_X10_129 dX10_found_4 ?_
  refine g_iload_n hx 7 (i := 1) 1 dX10_found_7 rfl rfl ?_
  obtain ⟨q_421, eq_421, hr⟩ := bind_e hr
  refine g_callVr hx (MG.at9 (w := M) (c_Rw_halve l g (putW σ B ae M) (B + 332) (M.1 9) p1 eq_421)) lk_X10_234 ar_Rw_halve (pW_st9 σ B ae M 15 (by decide)) (T := TX5) (N := 4) rfl (As := [.int p1]) (rest := []) rfl (Nat.le_of_ble_eq_true rfl) ⟨Nat.le_of_ble_eq_true rfl, Nat.le_of_ble_eq_true rfl⟩ ⟨rfl, rfl⟩ ⟨Nat.zero_le _, Nat.zero_le _⟩ dX10_found_8 ?_
  exact g_iret hx hR 11 dX10_found_11 ⟨by rw [← Option.some.inj hr] <;> rfl, by rw [← Option.some.inj hr] <;> rfl⟩
def SA_looks (M : WM) (p1 : Int32) : Option (Int32 × WM) := Option.bind (Rw_halve (M.1 9) p1) fun q_422 => some ((nI (q_422.2.2 8).length, setS M 9 q_422.2))
set_option maxRecDepth 100000 in
set_option maxHeartbeats 4000000 in
theorem c_SA_looks {ad ae : Nat → Nat} (l : Launch) (g : Gl) (hC : KAll g ad ae) (σ : Hp) (B : Nat) (M : WM) (p1 : Int32) {r : Int32 × WM} (hr : SA_looks M p1 = some r) : MG l g md_SA_looks [.ref B, .int p1] (putW σ B ae M) (rs (some (.int r.1)) (putW σ B ae r.2)) := by
  refine MG.intro (by decide +kernel) (Nat.le_of_ble_eq_true rfl) (fun X hx hR _ => ?_)
  unfold SA_looks at hr
  refine g_ls [0, 1] [(0, .ref B), (1, .int p1)] rfl ?_
  refine g_aload_n hx 0 (i := 0) 0 dX10_looks_0 rfl rfl ?_
  refine g_get hx 1 (C := RX10) (T := TX10) (N := 11) 6 (.ref (B + 332)) (pW σ B ae M 0 (by decide)) rfl (by decide) rfl fl_X10_50 dX10_looks_1 ?_
  refine g_get hx 4 (C := RX8) (T := TX8) (N := 15) 11 (.ref (B + 332 + 15)) (pW_st9 σ B ae M 0 (by decide)) rfl (by decide) rfl fl_X10_129 dX10_looks_4 ?_
  refine g_iload_n hx 7 (i := 1) 1 dX10_looks_7 rfl rfl ?_
  obtain ⟨q_422, eq_422, hr⟩ := bind_e hr
  refine g_callVr hx (MG.at9 (w := M) (c_Rw_halve l g (putW σ B ae M) (B + 332) (M.1 9) p1 eq_422)) lk_X10_234 ar_Rw_halve (pW_st9 σ B ae M 15 (by decide)) (T := TX5) (N := 4) rfl (As := [.int p1]) (rest := []) rfl (Nat.le_of_ble_eq_true rfl) ⟨Nat.le_of_ble_eq_true rfl, Nat.le_of_ble_eq_true rfl⟩ ⟨rfl, rfl⟩ ⟨Nat.zero_le _, Nat.zero_le _⟩ dX10_looks_8 ?_
  refine g_pop hx 11 dX10_looks_11 rfl ?_
  refine g_aload_n hx 12 (i := 0) 0 dX10_looks_12 rfl rfl ?_
  refine g_get hx 13 (C := RX10) (T := TX10) (N := 11) 6 (.ref (B + 332)) (pW σ B ae (setS M 9 q_422.2) 0 (by decide)) rfl (by decide) rfl fl_X10_50 dX10_looks_13 ?_
  refine g_get hx 16 (C := RX8) (T := TX8) (N := 15) 11 (.ref (B + 332 + 15)) (pW_st9 σ B ae (setS M 9 q_422.2) 0 (by decide)) rfl (by decide) rfl fl_X10_129 dX10_looks_16 ?_
  refine g_get hx 19 (C := RX5) (T := TX5) (N := 4) 1 (.ref (B + 332 + 18)) (pW_st9 σ B ae (setS M 9 q_422.2) 15 (by decide)) rfl (by decide) rfl fl_X10_237 dX10_looks_19 ?_
  refine g_callVr hx (k_count l g (st_l8 (pW_st9 σ B ae (setS M 9 q_422.2))) (by decide)) lk_X10_79 ar_Ln_count (st_l8 (pW_st9 σ B ae (setS M 9 q_422.2))).1 (T := TX2) (N := 2) rfl (As := []) (rest := []) rfl (Nat.le_of_ble_eq_true rfl) ⟨Nat.le_of_ble_eq_true rfl, Nat.le_of_ble_eq_true rfl⟩ ⟨rfl, rfl⟩ ⟨Nat.zero_le _, Nat.zero_le _⟩ dX10_looks_22 ?_
  exact g_iret hx hR 25 dX10_looks_25 ⟨by rw [← Option.some.inj hr] <;> rfl, by rw [← Option.some.inj hr] <;> rfl⟩
def SA_missed (M : WM) : Option (Int32 × WM) := Option.bind (Rw_missedByHalving (M.1 9)) fun q_423 => some ((q_423.1, setS M 9 q_423.2))
set_option maxRecDepth 100000 in
set_option maxHeartbeats 4000000 in
theorem c_SA_missed {ad ae : Nat → Nat} (l : Launch) (g : Gl) (hC : KAll g ad ae) (σ : Hp) (B : Nat) (M : WM) {r : Int32 × WM} (hr : SA_missed M = some r) : MG l g md_SA_missed [.ref B] (putW σ B ae M) (rs (some (.int r.1)) (putW σ B ae r.2)) := by
  refine MG.intro (by decide +kernel) (Nat.le_of_ble_eq_true rfl) (fun X hx hR _ => ?_)
  unfold SA_missed at hr
  refine g_ls [0] [(0, .ref B)] rfl ?_
  refine g_aload_n hx 0 (i := 0) 0 dX10_missed_0 rfl rfl ?_
  refine g_get hx 1 (C := RX10) (T := TX10) (N := 11) 6 (.ref (B + 332)) (pW σ B ae M 0 (by decide)) rfl (by decide) rfl fl_X10_50 dX10_missed_1 ?_
  refine g_get hx 4 (C := RX8) (T := TX8) (N := 15) 11 (.ref (B + 332 + 15)) (pW_st9 σ B ae M 0 (by decide)) rfl (by decide) rfl fl_X10_129 dX10_missed_4 ?_
  obtain ⟨q_423, eq_423, hr⟩ := bind_e hr
  refine g_callVr hx (MG.at9 (w := M) (c_Rw_missedByHalving l g (putW σ B ae M) (B + 332) (M.1 9) eq_423)) lk_X10_240 ar_Rw_missedByHalving (pW_st9 σ B ae M 15 (by decide)) (T := TX5) (N := 4) rfl (As := []) (rest := []) rfl (Nat.le_of_ble_eq_true rfl) ⟨Nat.le_of_ble_eq_true rfl, Nat.le_of_ble_eq_true rfl⟩ ⟨rfl, rfl⟩ ⟨Nat.zero_le _, Nat.zero_le _⟩ dX10_missed_7 ?_
  exact g_iret hx hR 10 dX10_missed_10 ⟨by rw [← Option.some.inj hr] <;> rfl, by rw [← Option.some.inj hr] <;> rfl⟩
def SA_refilePlace (M : WM) (p1 : Int32) : Option (Int32 × WM) := Option.bind (Rw_halve (M.1 9) p1) fun q_424 => lt' (q_424.1) fun v2_425 => Option.bind (if v2_425 = (-1) then (some (Rw_placeBehindMiss q_424.2 p1)) else (some v2_425)) fun b_427 => some ((b_427, setS M 9 q_424.2))
set_option maxRecDepth 100000 in
set_option maxHeartbeats 4000000 in
theorem c_SA_refilePlace {ad ae : Nat → Nat} (l : Launch) (g : Gl) (hC : KAll g ad ae) (σ : Hp) (B : Nat) (M : WM) (p1 : Int32) {r : Int32 × WM} (hr : SA_refilePlace M p1 = some r) : MG l g md_SA_refilePlace [.ref B, .int p1] (putW σ B ae M) (rs (some (.int r.1)) (putW σ B ae r.2)) := by
  refine MG.intro (by decide +kernel) (Nat.le_of_ble_eq_true rfl) (fun X hx hR _ => ?_)
  unfold SA_refilePlace at hr
  refine g_ls [0, 1] [(0, .ref B), (1, .int p1)] rfl ?_
  refine g_aload_n hx 0 (i := 0) 0 dX10_refilePlace_0 rfl rfl ?_
  refine g_get hx 1 (C := RX10) (T := TX10) (N := 11) 6 (.ref (B + 332)) (pW σ B ae M 0 (by decide)) rfl (by decide) rfl fl_X10_50 dX10_refilePlace_1 ?_
  refine g_get hx 4 (C := RX8) (T := TX8) (N := 15) 11 (.ref (B + 332 + 15)) (pW_st9 σ B ae M 0 (by decide)) rfl (by decide) rfl fl_X10_129 dX10_refilePlace_4 ?_
  refine g_iload_n hx 7 (i := 1) 1 dX10_refilePlace_7 rfl rfl ?_
  obtain ⟨q_424, eq_424, hr⟩ := bind_e hr
  refine g_callVr hx (MG.at9 (w := M) (c_Rw_halve l g (putW σ B ae M) (B + 332) (M.1 9) p1 eq_424)) lk_X10_234 ar_Rw_halve (pW_st9 σ B ae M 15 (by decide)) (T := TX5) (N := 4) rfl (As := [.int p1]) (rest := []) rfl (Nat.le_of_ble_eq_true rfl) ⟨Nat.le_of_ble_eq_true rfl, Nat.le_of_ble_eq_true rfl⟩ ⟨rfl, rfl⟩ ⟨Nat.zero_le _, Nat.zero_le _⟩ dX10_refilePlace_8 ?_
  obtain ⟨v2_425, ev2_425, hr⟩ := lt'_e hr
  refine g_nmi ev2_425 ?_
  refine g_istore_n hx 11 (i := 2) [(2, .int v2_425), (0, .ref B), (1, .int p1)] dX10_refilePlace_11 rfl (by decide) rfl ?_
  refine g_iload_n hx 12 (i := 2) 0 dX10_refilePlace_12 rfl rfl ?_
  refine g_iconst hx 13 (-1) dX10_refilePlace_13 rfl ?_
  obtain ⟨b_427, eb_427, hr⟩ := bind_e hr
  have rest : G X (putW σ B ae (setS M 9 q_424.2)) 0 0 32 [(2, .int v2_425), (0, .ref B), (1, .int p1)] [.int b_427] := by
    exact g_iret hx hR 32 dX10_refilePlace_32 ⟨by rw [← Option.some.inj hr] <;> rfl, by rw [← Option.some.inj hr] <;> rfl⟩
  clear hr
  have hr := eb_427
  refine g_icmp_eq hx 14 21 dX10_refilePlace_14 (by decide) (fun hc_426 => ?_) (fun hc_426 => ?_)
  · have hr := (if_pos hc_426).symm.trans hr
    refine g_aload_n hx 21 (i := 0) 1 dX10_refilePlace_21 rfl rfl ?_
    refine g_get hx 22 (C := RX10) (T := TX10) (N := 11) 6 (.ref (B + 332)) (pW σ B ae (setS M 9 q_424.2) 0 (by decide)) rfl (by decide) rfl fl_X10_50 dX10_refilePlace_22 ?_
    refine g_get hx 25 (C := RX8) (T := TX8) (N := 15) 11 (.ref (B + 332 + 15)) (pW_st9 σ B ae (setS M 9 q_424.2) 0 (by decide)) rfl (by decide) rfl fl_X10_129 dX10_refilePlace_25 ?_
    refine g_iload_n hx 28 (i := 1) 2 dX10_refilePlace_28 rfl rfl ?_
    refine g_callVr hx (MG.ar9 (w := setS M 9 q_424.2) (c_Rw_placeBehindMiss l g (putW σ B ae (setS M 9 q_424.2)) (B + 332) q_424.2 p1 rfl)) lk_X10_243 ar_Rw_placeBehindMiss (pW_st9 σ B ae (setS M 9 q_424.2) 15 (by decide)) (T := TX5) (N := 4) rfl (As := [.int p1]) (rest := []) rfl (Nat.le_of_ble_eq_true rfl) ⟨Nat.le_of_ble_eq_true rfl, Nat.le_of_ble_eq_true rfl⟩ ⟨rfl, rfl⟩ ⟨Nat.zero_le _, Nat.zero_le _⟩ dX10_refilePlace_29 ?_
    exact g_nmi (Option.some.inj hr).symm rest
  · have hr := (if_neg hc_426).symm.trans hr
    refine g_iload_n hx 17 (i := 2) 0 dX10_refilePlace_17 rfl rfl ?_
    refine g_goto hx 18 32 dX10_refilePlace_18 (by decide) ?_
    exact g_nmi (Option.some.inj hr).symm rest
def SA_inversions (M : WM) : Option (Int32) := Option.bind (Rw_pairsInWrongOrder (M.1 9)) fun q_428 => some (q_428)
set_option maxRecDepth 100000 in
set_option maxHeartbeats 4000000 in
theorem c_SA_inversions {ad ae : Nat → Nat} (l : Launch) (g : Gl) (hC : KAll g ad ae) (σ : Hp) (B : Nat) (M : WM) {r : Int32} (hr : SA_inversions M = some r) : MG l g md_SA_inversions [.ref B] (putW σ B ae M) (rs (some (.int r)) (putW σ B ae M)) := by
  refine MG.intro (by decide +kernel) (Nat.le_of_ble_eq_true rfl) (fun X hx hR _ => ?_)
  unfold SA_inversions at hr
  refine g_ls [0] [(0, .ref B)] rfl ?_
  refine g_aload_n hx 0 (i := 0) 0 dX10_inversions_0 rfl rfl ?_
  refine g_get hx 1 (C := RX10) (T := TX10) (N := 11) 6 (.ref (B + 332)) (pW σ B ae M 0 (by decide)) rfl (by decide) rfl fl_X10_50 dX10_inversions_1 ?_
  refine g_get hx 4 (C := RX8) (T := TX8) (N := 15) 11 (.ref (B + 332 + 15)) (pW_st9 σ B ae M 0 (by decide)) rfl (by decide) rfl fl_X10_129 dX10_inversions_4 ?_
  obtain ⟨q_428, eq_428, hr⟩ := bind_e hr
  refine g_callVr hx (MG.ar9 (w := M) (c_Rw_pairsInWrongOrder l g (putW σ B ae M) (B + 332) (M.1 9) eq_428)) lk_X10_246 ar_Rw_pairsInWrongOrder (pW_st9 σ B ae M 15 (by decide)) (T := TX5) (N := 4) rfl (As := []) (rest := []) rfl (Nat.le_of_ble_eq_true rfl) ⟨Nat.le_of_ble_eq_true rfl, Nat.le_of_ble_eq_true rfl⟩ ⟨rfl, rfl⟩ ⟨Nat.zero_le _, Nat.zero_le _⟩ dX10_inversions_7 ?_
  exact g_iret hx hR 10 dX10_inversions_10 ⟨by rw [← Option.some.inj hr] <;> rfl, rfl⟩
def SA_longestOrdered (M : WM) : Option (Int32 × WM) := Option.bind (Rw_longestRun (M.1 9)) fun q_429 => some ((q_429.1, setS M 9 q_429.2))
set_option maxRecDepth 100000 in
set_option maxHeartbeats 4000000 in
theorem c_SA_longestOrdered {ad ae : Nat → Nat} (l : Launch) (g : Gl) (hC : KAll g ad ae) (σ : Hp) (B : Nat) (M : WM) {r : Int32 × WM} (hr : SA_longestOrdered M = some r) : MG l g md_SA_longestOrdered [.ref B] (putW σ B ae M) (rs (some (.int r.1)) (putW σ B ae r.2)) := by
  refine MG.intro (by decide +kernel) (Nat.le_of_ble_eq_true rfl) (fun X hx hR _ => ?_)
  unfold SA_longestOrdered at hr
  refine g_ls [0] [(0, .ref B)] rfl ?_
  refine g_aload_n hx 0 (i := 0) 0 dX10_longestOrdered_0 rfl rfl ?_
  refine g_get hx 1 (C := RX10) (T := TX10) (N := 11) 6 (.ref (B + 332)) (pW σ B ae M 0 (by decide)) rfl (by decide) rfl fl_X10_50 dX10_longestOrdered_1 ?_
  refine g_get hx 4 (C := RX8) (T := TX8) (N := 15) 11 (.ref (B + 332 + 15)) (pW_st9 σ B ae M 0 (by decide)) rfl (by decide) rfl fl_X10_129 dX10_longestOrdered_4 ?_
  obtain ⟨q_429, eq_429, hr⟩ := bind_e hr
  refine g_callVr hx (MG.at9 (w := M) (c_Rw_longestRun l g (putW σ B ae M) (B + 332) (M.1 9) eq_429)) lk_X10_249 ar_Rw_longestRun (pW_st9 σ B ae M 15 (by decide)) (T := TX5) (N := 4) rfl (As := []) (rest := []) rfl (Nat.le_of_ble_eq_true rfl) ⟨Nat.le_of_ble_eq_true rfl, Nat.le_of_ble_eq_true rfl⟩ ⟨rfl, rfl⟩ ⟨Nat.zero_le _, Nat.zero_le _⟩ dX10_longestOrdered_7 ?_
  exact g_iret hx hR 10 dX10_longestOrdered_10 ⟨by rw [← Option.some.inj hr] <;> rfl, by rw [← Option.some.inj hr] <;> rfl⟩
def SA_lookedAt (M : WM) (p1 p2 : Int32) : Option (Int32 × WM) := Option.bind (Rw_halve (M.1 9) p1) fun q_430 => some ((lnget (q_430.2.2 7) (lnget (q_430.2.2 8) p2), setS M 9 q_430.2))
set_option maxRecDepth 100000 in
set_option maxHeartbeats 4000000 in
theorem c_SA_lookedAt {ad ae : Nat → Nat} (l : Launch) (g : Gl) (hC : KAll g ad ae) (σ : Hp) (B : Nat) (M : WM) (p1 p2 : Int32) {r : Int32 × WM} (hr : SA_lookedAt M p1 p2 = some r) : MG l g md_SA_lookedAt [.ref B, .int p1, .int p2] (putW σ B ae M) (rs (some (.int r.1)) (putW σ B ae r.2)) := by
  refine MG.intro (by decide +kernel) (Nat.le_of_ble_eq_true rfl) (fun X hx hR _ => ?_)
  unfold SA_lookedAt at hr
  refine g_ls [0, 1, 2] [(0, .ref B), (1, .int p1), (2, .int p2)] rfl ?_
  refine g_aload_n hx 0 (i := 0) 0 dX10_lookedAt_0 rfl rfl ?_
  refine g_get hx 1 (C := RX10) (T := TX10) (N := 11) 6 (.ref (B + 332)) (pW σ B ae M 0 (by decide)) rfl (by decide) rfl fl_X10_50 dX10_lookedAt_1 ?_
  refine g_get hx 4 (C := RX8) (T := TX8) (N := 15) 11 (.ref (B + 332 + 15)) (pW_st9 σ B ae M 0 (by decide)) rfl (by decide) rfl fl_X10_129 dX10_lookedAt_4 ?_
  refine g_iload_n hx 7 (i := 1) 1 dX10_lookedAt_7 rfl rfl ?_
  obtain ⟨q_430, eq_430, hr⟩ := bind_e hr
  refine g_callVr hx (MG.at9 (w := M) (c_Rw_halve l g (putW σ B ae M) (B + 332) (M.1 9) p1 eq_430)) lk_X10_234 ar_Rw_halve (pW_st9 σ B ae M 15 (by decide)) (T := TX5) (N := 4) rfl (As := [.int p1]) (rest := []) rfl (Nat.le_of_ble_eq_true rfl) ⟨Nat.le_of_ble_eq_true rfl, Nat.le_of_ble_eq_true rfl⟩ ⟨rfl, rfl⟩ ⟨Nat.zero_le _, Nat.zero_le _⟩ dX10_lookedAt_8 ?_
  refine g_pop hx 11 dX10_lookedAt_11 rfl ?_
  refine g_aload_n hx 12 (i := 0) 0 dX10_lookedAt_12 rfl rfl ?_
  refine g_get hx 13 (C := RX10) (T := TX10) (N := 11) 6 (.ref (B + 332)) (pW σ B ae (setS M 9 q_430.2) 0 (by decide)) rfl (by decide) rfl fl_X10_50 dX10_lookedAt_13 ?_
  refine g_get hx 16 (C := RX8) (T := TX8) (N := 15) 11 (.ref (B + 332 + 15)) (pW_st9 σ B ae (setS M 9 q_430.2) 0 (by decide)) rfl (by decide) rfl fl_X10_129 dX10_lookedAt_16 ?_
  refine g_get hx 19 (C := RX5) (T := TX5) (N := 4) 0 (.ref (B + 332 + 16)) (pW_st9 σ B ae (setS M 9 q_430.2) 15 (by decide)) rfl (by decide) rfl fl_X10_133 dX10_lookedAt_19 ?_
  refine g_aload_n hx 22 (i := 0) 0 dX10_lookedAt_22 rfl rfl ?_
  refine g_get hx 23 (C := RX10) (T := TX10) (N := 11) 6 (.ref (B + 332)) (pW σ B ae (setS M 9 q_430.2) 0 (by decide)) rfl (by decide) rfl fl_X10_50 dX10_lookedAt_23 ?_
  refine g_get hx 26 (C := RX8) (T := TX8) (N := 15) 11 (.ref (B + 332 + 15)) (pW_st9 σ B ae (setS M 9 q_430.2) 0 (by decide)) rfl (by decide) rfl fl_X10_129 dX10_lookedAt_26 ?_
  refine g_get hx 29 (C := RX5) (T := TX5) (N := 4) 1 (.ref (B + 332 + 18)) (pW_st9 σ B ae (setS M 9 q_430.2) 15 (by decide)) rfl (by decide) rfl fl_X10_237 dX10_lookedAt_29 ?_
  refine g_iload_n hx 32 (i := 2) 2 dX10_lookedAt_32 rfl rfl ?_
  refine g_callVr hx (k_get l g (st_l8 (pW_st9 σ B ae (setS M 9 q_430.2))) (by decide) p2) lk_X10_165 ar_Ln_get (st_l8 (pW_st9 σ B ae (setS M 9 q_430.2))).1 (T := TX2) (N := 2) rfl (As := [.int p2]) (rest := [.ref (B + 332 + 16)]) rfl (Nat.le_of_ble_eq_true rfl) ⟨Nat.le_of_ble_eq_true rfl, Nat.le_of_ble_eq_true rfl⟩ ⟨rfl, rfl⟩ ⟨Nat.zero_le _, Nat.zero_le _⟩ dX10_lookedAt_33 ?_
  refine g_callVr hx (k_get l g (st_l7 (pW_st9 σ B ae (setS M 9 q_430.2))) (by decide) (lnget (q_430.2.2 8) p2)) lk_X10_165 ar_Ln_get (st_l7 (pW_st9 σ B ae (setS M 9 q_430.2))).1 (T := TX2) (N := 2) rfl (As := [.int (lnget (q_430.2.2 8) p2)]) (rest := []) rfl (Nat.le_of_ble_eq_true rfl) ⟨Nat.le_of_ble_eq_true rfl, Nat.le_of_ble_eq_true rfl⟩ ⟨rfl, rfl⟩ ⟨Nat.zero_le _, Nat.zero_le _⟩ dX10_lookedAt_36 ?_
  exact g_iret hx hR 39 dX10_lookedAt_39 ⟨by rw [← Option.some.inj hr] <;> rfl, by rw [← Option.some.inj hr] <;> rfl⟩
def SA_mostMisplaced (M : WM) : Option (Int32) := Option.bind (Rw_farthestFromOrder (M.1 9)) fun q_431 => some (q_431)
set_option maxRecDepth 100000 in
set_option maxHeartbeats 4000000 in
theorem c_SA_mostMisplaced {ad ae : Nat → Nat} (l : Launch) (g : Gl) (hC : KAll g ad ae) (σ : Hp) (B : Nat) (M : WM) {r : Int32} (hr : SA_mostMisplaced M = some r) : MG l g md_SA_mostMisplaced [.ref B] (putW σ B ae M) (rs (some (.int r)) (putW σ B ae M)) := by
  refine MG.intro (by decide +kernel) (Nat.le_of_ble_eq_true rfl) (fun X hx hR _ => ?_)
  unfold SA_mostMisplaced at hr
  refine g_ls [0] [(0, .ref B)] rfl ?_
  refine g_aload_n hx 0 (i := 0) 0 dX10_mostMisplaced_0 rfl rfl ?_
  refine g_get hx 1 (C := RX10) (T := TX10) (N := 11) 6 (.ref (B + 332)) (pW σ B ae M 0 (by decide)) rfl (by decide) rfl fl_X10_50 dX10_mostMisplaced_1 ?_
  refine g_get hx 4 (C := RX8) (T := TX8) (N := 15) 11 (.ref (B + 332 + 15)) (pW_st9 σ B ae M 0 (by decide)) rfl (by decide) rfl fl_X10_129 dX10_mostMisplaced_4 ?_
  obtain ⟨q_431, eq_431, hr⟩ := bind_e hr
  refine g_callVr hx (MG.ar9 (w := M) (c_Rw_farthestFromOrder l g (putW σ B ae M) (B + 332) (M.1 9) eq_431)) lk_X10_252 ar_Rw_farthestFromOrder (pW_st9 σ B ae M 15 (by decide)) (T := TX5) (N := 4) rfl (As := []) (rest := []) rfl (Nat.le_of_ble_eq_true rfl) ⟨Nat.le_of_ble_eq_true rfl, Nat.le_of_ble_eq_true rfl⟩ ⟨rfl, rfl⟩ ⟨Nat.zero_le _, Nat.zero_le _⟩ dX10_mostMisplaced_7 ?_
  exact g_iret hx hR 10 dX10_mostMisplaced_10 ⟨by rw [← Option.some.inj hr] <;> rfl, rfl⟩
def SA_mostAsked_L6 (M : WM) : Nat → Int32 → Int32 → Int32 → Option (Int32)
  | 0, _, _, _ => none
  | n + 1, v1_432, v2_433, v3_434 => if nI ((M.1 9).2 0).length ≤ v3_434 then (some (v2_433)) else (lt' (lncnt ((M.1 9).2 12) v3_434) fun v4_436 => if v4_436 ≤ v1_432 then (SA_mostAsked_L6 M n v1_432 v2_433 (v3_434 + 1)) else (SA_mostAsked_L6 M n v4_436 v3_434 (v3_434 + 1)))
def SA_mostAsked (M : WM) : Option (Int32) := SA_mostAsked_L6 M FU 0 (-1) 0
set_option maxRecDepth 100000 in
set_option maxHeartbeats 4000000 in
theorem w_SA_mostAsked_L6 {ad ae : Nat → Nat} {X : Cx} {l : Launch} {g : Gl} (hx : Ok X l g RX10 cX10_mostAsked 5 md_SA_mostAsked.rm) (hC : KAll g ad ae) {σ : Hp} {B : Nat} {M : WM} {r : Int32} (hR : Ret X (rs (some (.int r)) (putW σ B ae M)) 0 0 (some .int)) : ∀ (n : Nat) (v1_432 v2_433 v3_434 : Int32), SA_mostAsked_L6 M n v1_432 v2_433 v3_434 = some r → G X (putW σ B ae M) 0 0 6 [(0, .ref B), (1, .int v1_432), (2, .int v2_433), (3, .int v3_434)] [] := by
  intro n
  induction n with
  | zero =>
    intro v1_432 v2_433 v3_434 hr
    rw [SA_mostAsked_L6] at hr
    cases hr
  | succ n ih =>
    intro v1_432 v2_433 v3_434 hr
    rw [SA_mostAsked_L6] at hr
    refine g_iload_n hx 6 (i := 3) 3 dX10_mostAsked_6 rfl rfl ?_
    refine g_aload_n hx 7 (i := 0) 0 dX10_mostAsked_7 rfl rfl ?_
    refine g_get hx 8 (C := RX10) (T := TX10) (N := 11) 6 (.ref (B + 332)) (pW σ B ae M 0 (by decide)) rfl (by decide) rfl fl_X10_50 dX10_mostAsked_8 ?_
    refine g_get hx 11 (C := RX8) (T := TX8) (N := 15) 4 (.ref (B + 332 + 1)) (pW_st9 σ B ae M 0 (by decide)) rfl (by decide) rfl fl_X10_111 dX10_mostAsked_11 ?_
    refine g_callVr hx (k_count l g (st_l0 (pW_st9 σ B ae M)) (by decide)) lk_X10_79 ar_Ln_count (st_l0 (pW_st9 σ B ae M)).1 (T := TX2) (N := 2) rfl (As := []) (rest := [.int v3_434]) rfl (Nat.le_of_ble_eq_true rfl) ⟨Nat.le_of_ble_eq_true rfl, Nat.le_of_ble_eq_true rfl⟩ ⟨rfl, rfl⟩ ⟨Nat.zero_le _, Nat.zero_le _⟩ dX10_mostAsked_14 ?_
    refine g_icmp_ge hx 17 53 dX10_mostAsked_17 (by decide) (fun hc_435 => ?_) (fun hc_435 => ?_)
    · have hr := (if_pos hc_435).symm.trans hr
      refine g_iload_n hx 53 (i := 2) 2 dX10_mostAsked_53 rfl rfl ?_
      exact g_iret hx hR 54 dX10_mostAsked_54 ⟨by rw [← Option.some.inj hr] <;> rfl, rfl⟩
    · have hr := (if_neg hc_435).symm.trans hr
      refine g_aload_n hx 20 (i := 0) 0 dX10_mostAsked_20 rfl rfl ?_
      refine g_get hx 21 (C := RX10) (T := TX10) (N := 11) 6 (.ref (B + 332)) (pW σ B ae M 0 (by decide)) rfl (by decide) rfl fl_X10_50 dX10_mostAsked_21 ?_
      refine g_get hx 24 (C := RX8) (T := TX8) (N := 15) 13 (.ref (B + 332 + 24)) (pW_st9 σ B ae M 0 (by decide)) rfl (by decide) rfl fl_X10_148 dX10_mostAsked_24 ?_
      refine g_get hx 27 (C := RX7) (T := TX7) (N := 4) 1 (.ref (B + 332 + 27)) (pW_st9 σ B ae M 24 (by decide)) rfl (by decide) rfl fl_X10_186 dX10_mostAsked_27 ?_
      refine g_iload_n hx 30 (i := 3) 3 dX10_mostAsked_30 rfl rfl ?_
      refine g_callVr hx (k_countOf l g (st_l12 (pW_st9 σ B ae M)) (by decide) v3_434) lk_X10_141 ar_Ln_countOf (st_l12 (pW_st9 σ B ae M)).1 (T := TX2) (N := 2) rfl (As := [.int v3_434]) (rest := []) rfl (Nat.le_of_ble_eq_true rfl) ⟨Nat.le_of_ble_eq_true rfl, Nat.le_of_ble_eq_true rfl⟩ ⟨rfl, rfl⟩ ⟨Nat.zero_le _, Nat.zero_le _⟩ dX10_mostAsked_31 ?_
      obtain ⟨v4_436, ev4_436, hr⟩ := lt'_e hr
      refine g_nmi ev4_436 ?_
      refine g_istore hx 34 (i := 4) [(4, .int v4_436), (0, .ref B), (1, .int v1_432), (2, .int v2_433), (3, .int v3_434)] dX10_mostAsked_34 (by decide) rfl ?_
      refine g_iload hx 36 (i := 4) 0 dX10_mostAsked_36 rfl ?_
      refine g_iload_n hx 38 (i := 1) 2 dX10_mostAsked_38 rfl rfl ?_
      refine g_icmp_le hx 39 47 dX10_mostAsked_39 (by decide) (fun hc_437 => ?_) (fun hc_437 => ?_)
      · have hr := (if_pos hc_437).symm.trans hr
        refine g_iinc hx 47 (i := 3) 4 (v3_434 + 1) [(3, .int (v3_434 + 1)), (4, .int v4_436), (0, .ref B), (1, .int v1_432), (2, .int v2_433)] dX10_mostAsked_47 rfl rfl (by decide) rfl ?_
        refine g_goto hx 50 6 dX10_mostAsked_50 (by decide) ?_
        refine g_ls [2, 3, 4, 0] [(0, .ref B), (1, .int v1_432), (2, .int v2_433), (3, .int (v3_434 + 1))] rfl ?_
        exact ih v1_432 v2_433 (v3_434 + 1) hr
      · have hr := (if_neg hc_437).symm.trans hr
        refine g_iload hx 42 (i := 4) 0 dX10_mostAsked_42 rfl ?_
        refine g_istore_n hx 44 (i := 1) [(1, .int v4_436), (4, .int v4_436), (0, .ref B), (2, .int v2_433), (3, .int v3_434)] dX10_mostAsked_44 rfl (by decide) rfl ?_
        refine g_iload_n hx 45 (i := 3) 4 dX10_mostAsked_45 rfl rfl ?_
        refine g_istore_n hx 46 (i := 2) [(2, .int v3_434), (1, .int v4_436), (4, .int v4_436), (0, .ref B), (3, .int v3_434)] dX10_mostAsked_46 rfl (by decide) rfl ?_
        refine g_iinc hx 47 (i := 3) 4 (v3_434 + 1) [(3, .int (v3_434 + 1)), (2, .int v3_434), (1, .int v4_436), (4, .int v4_436), (0, .ref B)] dX10_mostAsked_47 rfl rfl (by decide) rfl ?_
        refine g_goto hx 50 6 dX10_mostAsked_50 (by decide) ?_
        refine g_ls [4, 2, 1, 0] [(0, .ref B), (1, .int v4_436), (2, .int v3_434), (3, .int (v3_434 + 1))] rfl ?_
        exact ih v4_436 v3_434 (v3_434 + 1) hr
set_option maxRecDepth 100000 in
set_option maxHeartbeats 4000000 in
theorem c_SA_mostAsked {ad ae : Nat → Nat} (l : Launch) (g : Gl) (hC : KAll g ad ae) (σ : Hp) (B : Nat) (M : WM) {r : Int32} (hr : SA_mostAsked M = some r) : MG l g md_SA_mostAsked [.ref B] (putW σ B ae M) (rs (some (.int r)) (putW σ B ae M)) := by
  refine MG.intro (by decide +kernel) (Nat.le_of_ble_eq_true rfl) (fun X hx hR _ => ?_)
  unfold SA_mostAsked at hr
  refine g_ls [0] [(0, .ref B)] rfl ?_
  refine g_iconst hx 0 (0) dX10_mostAsked_0 rfl ?_
  refine g_istore_n hx 1 (i := 1) [(1, .int 0), (0, .ref B)] dX10_mostAsked_1 rfl (by decide) rfl ?_
  refine g_iconst hx 2 (-1) dX10_mostAsked_2 rfl ?_
  refine g_istore_n hx 3 (i := 2) [(2, .int (-1)), (1, .int 0), (0, .ref B)] dX10_mostAsked_3 rfl (by decide) rfl ?_
  refine g_iconst hx 4 (0) dX10_mostAsked_4 rfl ?_
  refine g_istore_n hx 5 (i := 3) [(3, .int 0), (2, .int (-1)), (1, .int 0), (0, .ref B)] dX10_mostAsked_5 rfl (by decide) rfl ?_
  refine g_ls [3, 2, 1, 0] [(0, .ref B), (1, .int 0), (2, .int (-1)), (3, .int 0)] rfl ?_
  exact w_SA_mostAsked_L6 hx hC hR FU 0 (-1) 0 hr
def SA_why (M : WM) (p1 p2 : Int32) : Option (Int32) := if St_hasReader (M.1 9) p1 = 0 then (none) else (if St_hasFolder (M.1 9) p2 = 0 then (none) else (Option.bind (St_refusal (M.1 9) p1 p2) fun q_440 => some (q_440)))
set_option maxRecDepth 100000 in
set_option maxHeartbeats 4000000 in
theorem c_SA_why {ad ae : Nat → Nat} (l : Launch) (g : Gl) (hC : KAll g ad ae) (σ : Hp) (B : Nat) (M : WM) (p1 p2 : Int32) {r : Int32} (hr : SA_why M p1 p2 = some r) : MG l g md_SA_why [.ref B, .int p1, .int p2] (putW σ B ae M) (rs (some (.int r)) (putW σ B ae M)) := by
  refine MG.intro (by decide +kernel) (Nat.le_of_ble_eq_true rfl) (fun X hx hR _ => ?_)
  unfold SA_why at hr
  refine g_ls [0, 1, 2] [(0, .ref B), (1, .int p1), (2, .int p2)] rfl ?_
  refine g_aload_n hx 0 (i := 0) 0 dX10_why_0 rfl rfl ?_
  refine g_get hx 1 (C := RX10) (T := TX10) (N := 11) 6 (.ref (B + 332)) (pW σ B ae M 0 (by decide)) rfl (by decide) rfl fl_X10_50 dX10_why_1 ?_
  refine g_iload_n hx 4 (i := 1) 1 dX10_why_4 rfl rfl ?_
  refine g_callVr hx (MG.ar9 (w := M) (c_St_hasReader l g (putW σ B ae M) (B + 332) (M.1 9) p1 rfl)) lk_X10_198 ar_St_hasReader (pW_st9 σ B ae M 0 (by decide)) (T := TX8) (N := 15) rfl (As := [.int p1]) (rest := []) rfl (Nat.le_of_ble_eq_true rfl) ⟨Nat.le_of_ble_eq_true rfl, Nat.le_of_ble_eq_true rfl⟩ ⟨rfl, rfl⟩ ⟨Nat.zero_le _, Nat.zero_le _⟩ dX10_why_5 ?_
  refine g_if_eq hx 8 22 dX10_why_8 (by decide) (fun hc_438 => ?_) (fun hc_438 => ?_)
  · have hr := (if_pos hc_438).symm.trans hr
    cases hr
  · have hr := (if_neg hc_438).symm.trans hr
    refine g_aload_n hx 11 (i := 0) 0 dX10_why_11 rfl rfl ?_
    refine g_get hx 12 (C := RX10) (T := TX10) (N := 11) 6 (.ref (B + 332)) (pW σ B ae M 0 (by decide)) rfl (by decide) rfl fl_X10_50 dX10_why_12 ?_
    refine g_iload_n hx 15 (i := 2) 2 dX10_why_15 rfl rfl ?_
    refine g_callVr hx (MG.ar9 (w := M) (c_St_hasFolder l g (putW σ B ae M) (B + 332) (M.1 9) p2 rfl)) lk_X10_171 ar_St_hasFolder (pW_st9 σ B ae M 0 (by decide)) (T := TX8) (N := 15) rfl (As := [.int p2]) (rest := []) rfl (Nat.le_of_ble_eq_true rfl) ⟨Nat.le_of_ble_eq_true rfl, Nat.le_of_ble_eq_true rfl⟩ ⟨rfl, rfl⟩ ⟨Nat.zero_le _, Nat.zero_le _⟩ dX10_why_16 ?_
    refine g_if_ne hx 19 32 dX10_why_19 (by decide) (fun hc_439 => ?_) (fun hc_439 => ?_)
    · have hr := (if_neg hc_439).symm.trans hr
      refine g_aload_n hx 32 (i := 0) 0 dX10_why_32 rfl rfl ?_
      refine g_get hx 33 (C := RX10) (T := TX10) (N := 11) 6 (.ref (B + 332)) (pW σ B ae M 0 (by decide)) rfl (by decide) rfl fl_X10_50 dX10_why_33 ?_
      refine g_iload_n hx 36 (i := 1) 1 dX10_why_36 rfl rfl ?_
      refine g_iload_n hx 37 (i := 2) 2 dX10_why_37 rfl rfl ?_
      obtain ⟨q_440, eq_440, hr⟩ := bind_e hr
      refine g_callVr hx (MG.ar9 (w := M) (c_St_refusal l g (putW σ B ae M) (B + 332) (M.1 9) p1 p2 eq_440)) lk_X10_257 ar_St_refusal (pW_st9 σ B ae M 0 (by decide)) (T := TX8) (N := 15) rfl (As := [.int p1, .int p2]) (rest := []) rfl (Nat.le_of_ble_eq_true rfl) ⟨Nat.le_of_ble_eq_true rfl, Nat.le_of_ble_eq_true rfl⟩ ⟨rfl, rfl⟩ ⟨Nat.zero_le _, Nat.zero_le _⟩ dX10_why_38 ?_
      exact g_iret hx hR 41 dX10_why_41 ⟨by rw [← Option.some.inj hr] <;> rfl, rfl⟩
    · have hr := (if_pos hc_439).symm.trans hr
      cases hr
