def md_SA_servedIn : Md := (yX10_servedIn, cX10_servedIn, 5, some .int, 4, 124, 0, 0)
def md_SA_servedBy : Md := (yX10_servedBy, cX10_servedBy, 2, some .int, 6, 124, 1, 6)
def md_SA_waitingIn : Md := (yX10_waitingIn, cX10_waitingIn, 2, some .int, 6, 124, 1, 6)
def md_SA_servedWith : Md := (yX10_servedWith, cX10_servedWith, 2, some .int, 6, 124, 1, 6)
def md_SA_swapsLeft : Md := (yX10_swapsLeft, cX10_swapsLeft, 1, some .int, 3, 66, 0, 0)
def md_SA_missedAfter : Md := (yX10_missedAfter, cX10_missedAfter, 2, some .int, 6, 124, 1, 6)
def md_SA_counted : Md := (yX10_counted, cX10_counted, 2, some .int, 1, 22, 0, 0)
def md_SA_settled : Md := (yX10_settled, cX10_settled, 2, some .int, 2, 43, 0, 0)
def md_SA_slip : Md := (yX10_slip, cX10_slip, 3, some .int, 6, 146, 1, 6)
def md_SA_dropSlip : Md := (yX10_dropSlip, cX10_dropSlip, 2, some .int, 5, 146, 0, 0)
def md_SA_giveBack : Md := (yX10_giveBack, cX10_giveBack, 2, some .int, 6, 146, 1, 6)
def md_SA_days : Md := (yX10_days, cX10_days, 2, some .int, 6, 146, 1, 6)
def md_SA_misfile : Md := (yX10_misfile, cX10_misfile, 3, some .int, 6, 146, 1, 6)
def md_SA_straighten : Md := (yX10_straighten, cX10_straighten, 2, some .int, 6, 146, 1, 6)
def md_SA_check : Md := (yX10_check, cX10_check, 2, some .int, 6, 146, 1, 6)
def md_SA_setEmbargo : Md := (yX10_setEmbargo, cX10_setEmbargo, 3, some .int, 6, 146, 1, 6)
def md_SA_answerOf : Md := (yX10_answerOf, cX10_answerOf, 5, some .int, 5, 118, 0, 0)
def md_SA_play : Md := (yX10_play, cX10_play, 5, some .int, 7, 171, 1, 6)
def md_SA_appendNumber : Md := (yX10_appendNumber, cX10_appendNumber, 3, none, 1, 21, 0, 0)
def md_SA_format : Md := (yX10_format, cX10_format, 2, some .int, 2, 43, 0, 0)
def md_SA_formattedByte : Md := (yX10_formattedByte, cX10_formattedByte, 2, some .int, 1, 21, 0, 0)
def md_SA_undoCount : Md := (yX10_undoCount, cX10_undoCount, 1, some .int, 1, 20, 0, 0)
def md_SA_undo : Md := (yX10_undo, cX10_undo, 1, some .int, 5, 146, 0, 0)
def md_SA_saveSnapshot : Md := (yX10_saveSnapshot, cX10_saveSnapshot, 1, none, 4, 124, 0, 0)
def md_SA_restoreSnapshot : Md := (yX10_restoreSnapshot, cX10_restoreSnapshot, 1, some .boolean, 4, 124, 0, 0)
theorem lk_X10_267 : Lk md_St_nextDay [.methodLink RX10 267 md_St_nextDay.y, .instanceMethod md_St_nextDay.y, .selects md_St_nextDay.y.cls md_St_nextDay.y md_St_nextDay.y] := lk_of (by decide +kernel)
theorem lk_X10_272 : Lk md_St_passDays [.methodLink RX10 272 md_St_passDays.y, .instanceMethod md_St_passDays.y, .selects md_St_passDays.y.cls md_St_passDays.y md_St_passDays.y] := lk_of (by decide +kernel)
theorem ar_St_passDays : Arity md_St_passDays 2 := ⟨by decide +kernel, by decide +kernel, by decide +kernel⟩
theorem lk_X10_279 : Lk md_Rw_swapWrongPairs [.methodLink RX10 279 md_Rw_swapWrongPairs.y, .instanceMethod md_Rw_swapWrongPairs.y, .selects md_Rw_swapWrongPairs.y.cls md_Rw_swapWrongPairs.y md_Rw_swapWrongPairs.y] := lk_of (by decide +kernel)
theorem lk_X10_329 : Lk md_Ln_raise [.methodLink RX10 329 md_Ln_raise.y, .instanceMethod md_Ln_raise.y, .selects md_Ln_raise.y.cls md_Ln_raise.y md_Ln_raise.y] := lk_of (by decide +kernel)
theorem lk_X10_323 : Lk md_SA_counted [.methodLink RX10 323 md_SA_counted.y, .instanceMethod md_SA_counted.y, .selects md_SA_counted.y.cls md_SA_counted.y md_SA_counted.y] := lk_of (by decide +kernel)
theorem ar_SA_counted : Arity md_SA_counted 1 := ⟨by decide +kernel, by decide +kernel, by decide +kernel⟩
theorem lk_X10_326 : Lk md_Hi_keep [.methodLink RX10 326 md_Hi_keep.y, .instanceMethod md_Hi_keep.y, .selects md_Hi_keep.y.cls md_Hi_keep.y md_Hi_keep.y] := lk_of (by decide +kernel)
theorem ar_Hi_keep : Arity md_Hi_keep 0 := ⟨by decide +kernel, by decide +kernel, by decide +kernel⟩
theorem lk_X10_282 : Lk md_Hi_prepare [.methodLink RX10 282 md_Hi_prepare.y, .instanceMethod md_Hi_prepare.y, .selects md_Hi_prepare.y.cls md_Hi_prepare.y md_Hi_prepare.y] := lk_of (by decide +kernel)
theorem ar_Hi_prepare : Arity md_Hi_prepare 1 := ⟨by decide +kernel, by decide +kernel, by decide +kernel⟩
theorem lk_X10_285 : Lk md_St_handIn [.methodLink RX10 285 md_St_handIn.y, .instanceMethod md_St_handIn.y, .selects md_St_handIn.y.cls md_St_handIn.y md_St_handIn.y] := lk_of (by decide +kernel)
theorem ar_St_handIn : Arity md_St_handIn 2 := ⟨by decide +kernel, by decide +kernel, by decide +kernel⟩
theorem lk_X10_288 : Lk md_SA_settled [.methodLink RX10 288 md_SA_settled.y, .instanceMethod md_SA_settled.y, .selects md_SA_settled.y.cls md_SA_settled.y md_SA_settled.y] := lk_of (by decide +kernel)
theorem ar_SA_settled : Arity md_SA_settled 1 := ⟨by decide +kernel, by decide +kernel, by decide +kernel⟩
theorem lk_X10_291 : Lk md_St_takeAway [.methodLink RX10 291 md_St_takeAway.y, .instanceMethod md_St_takeAway.y, .selects md_St_takeAway.y.cls md_St_takeAway.y md_St_takeAway.y] := lk_of (by decide +kernel)
theorem ar_St_takeAway : Arity md_St_takeAway 1 := ⟨by decide +kernel, by decide +kernel, by decide +kernel⟩
theorem lk_X10_294 : Lk md_St_bringBack [.methodLink RX10 294 md_St_bringBack.y, .instanceMethod md_St_bringBack.y, .selects md_St_bringBack.y.cls md_St_bringBack.y md_St_bringBack.y] := lk_of (by decide +kernel)
theorem ar_St_bringBack : Arity md_St_bringBack 1 := ⟨by decide +kernel, by decide +kernel, by decide +kernel⟩
theorem lk_X10_299 : Lk md_Rw_moveTo [.methodLink RX10 299 md_Rw_moveTo.y, .instanceMethod md_Rw_moveTo.y, .selects md_Rw_moveTo.y.cls md_Rw_moveTo.y md_Rw_moveTo.y] := lk_of (by decide +kernel)
theorem ar_Rw_moveTo : Arity md_Rw_moveTo 2 := ⟨by decide +kernel, by decide +kernel, by decide +kernel⟩
theorem lk_X10_302 : Lk md_Rw_moveToOrder [.methodLink RX10 302 md_Rw_moveToOrder.y, .instanceMethod md_Rw_moveToOrder.y, .selects md_Rw_moveToOrder.y.cls md_Rw_moveToOrder.y md_Rw_moveToOrder.y] := lk_of (by decide +kernel)
theorem ar_Rw_moveToOrder : Arity md_Rw_moveToOrder 1 := ⟨by decide +kernel, by decide +kernel, by decide +kernel⟩
theorem lk_X10_307 : Lk md_St_swapNeighbours [.methodLink RX10 307 md_St_swapNeighbours.y, .instanceMethod md_St_swapNeighbours.y, .selects md_St_swapNeighbours.y.cls md_St_swapNeighbours.y md_St_swapNeighbours.y] := lk_of (by decide +kernel)
theorem ar_St_swapNeighbours : Arity md_St_swapNeighbours 1 := ⟨by decide +kernel, by decide +kernel, by decide +kernel⟩
theorem lk_X10_312 : Lk md_St_closeUntil [.methodLink RX10 312 md_St_closeUntil.y, .instanceMethod md_St_closeUntil.y, .selects md_St_closeUntil.y.cls md_St_closeUntil.y md_St_closeUntil.y] := lk_of (by decide +kernel)
theorem ar_St_closeUntil : Arity md_St_closeUntil 2 := ⟨by decide +kernel, by decide +kernel, by decide +kernel⟩
theorem fl_X10_36 : Cond.fieldLink RX10 36 (TX10 4).1 (TX10 4).2.1 (TX10 4).2.2.1 ∈ aw := aw1 (by decide +kernel)
theorem lk_X10_332 : Lk md_Sc_order [.methodLink RX10 332 md_Sc_order.y, .instanceMethod md_Sc_order.y, .selects md_Sc_order.y.cls md_Sc_order.y md_Sc_order.y] := lk_of (by decide +kernel)
theorem ar_Sc_order : Arity md_Sc_order 1 := ⟨by decide +kernel, by decide +kernel, by decide +kernel⟩
theorem fl_X10_336 : Cond.fieldLink RX10 336 (TX6 1).1 (TX6 1).2.1 (TX6 1).2.2.1 ∈ aw := aw1 (by decide +kernel)
theorem fl_X10_339 : Cond.fieldLink RX10 339 (TX6 2).1 (TX6 2).2.1 (TX6 2).2.2.1 ∈ aw := aw1 (by decide +kernel)
theorem fs_X10_342 : Cond.fieldLink RX10 342 "SlipArchive$1" "$SwitchMap$SlipArchive$Order" "[I" ∈ aw := aw1 (by decide +kernel)
theorem lk_X10_315 : Lk md_Ps_readScript [.methodLink RX10 315 md_Ps_readScript.y, .instanceMethod md_Ps_readScript.y, .selects md_Ps_readScript.y.cls md_Ps_readScript.y md_Ps_readScript.y] := lk_of (by decide +kernel)
theorem ar_Ps_readScript : Arity md_Ps_readScript 2 := ⟨by decide +kernel, by decide +kernel, by decide +kernel⟩
theorem lk_X10_319 : Lk md_Sc_count [.methodLink RX10 319 md_Sc_count.y, .instanceMethod md_Sc_count.y, .selects md_Sc_count.y.cls md_Sc_count.y md_Sc_count.y] := lk_of (by decide +kernel)
theorem ar_Sc_count : Arity md_Sc_count 0 := ⟨by decide +kernel, by decide +kernel, by decide +kernel⟩
theorem lk_X10_320 : Lk md_SA_answerOf [.methodLink RX10 320 md_SA_answerOf.y, .instanceMethod md_SA_answerOf.y, .selects md_SA_answerOf.y.cls md_SA_answerOf.y md_SA_answerOf.y] := lk_of (by decide +kernel)
theorem ar_SA_answerOf : Arity md_SA_answerOf 1 := ⟨by decide +kernel, by decide +kernel, by decide +kernel⟩
theorem fl_X10_18 : Cond.fieldLink RX10 18 (TX10 1).1 (TX10 1).2.1 (TX10 1).2.2.1 ∈ aw := aw1 (by decide +kernel)
theorem lk_X10_359 : Lk md_SA_appendNumber [.methodLink RX10 359 md_SA_appendNumber.y, .instanceMethod md_SA_appendNumber.y, .selects md_SA_appendNumber.y.cls md_SA_appendNumber.y md_SA_appendNumber.y] := lk_of (by decide +kernel)
theorem ar_SA_appendNumber : Arity md_SA_appendNumber 1 := ⟨by decide +kernel, by decide +kernel, by decide +kernel⟩
theorem lk_X10_356 : Lk md_Rw_markAt [.methodLink RX10 356 md_Rw_markAt.y, .instanceMethod md_Rw_markAt.y, .selects md_Rw_markAt.y.cls md_Rw_markAt.y md_Rw_markAt.y] := lk_of (by decide +kernel)
theorem lk_X10_353 : Lk md_Rw_isWrong [.methodLink RX10 353 md_Rw_isWrong.y, .instanceMethod md_Rw_isWrong.y, .selects md_Rw_isWrong.y.cls md_Rw_isWrong.y md_Rw_isWrong.y] := lk_of (by decide +kernel)
theorem lk_X10_362 : Lk md_Hi_count [.methodLink RX10 362 md_Hi_count.y, .instanceMethod md_Hi_count.y, .selects md_Hi_count.y.cls md_Hi_count.y md_Hi_count.y] := lk_of (by decide +kernel)
theorem ar_Hi_count : Arity md_Hi_count 0 := ⟨by decide +kernel, by decide +kernel, by decide +kernel⟩
theorem lk_X10_363 : Lk md_Hi_takeBack [.methodLink RX10 363 md_Hi_takeBack.y, .instanceMethod md_Hi_takeBack.y, .selects md_Hi_takeBack.y.cls md_Hi_takeBack.y md_Hi_takeBack.y] := lk_of (by decide +kernel)
theorem ar_Hi_takeBack : Arity md_Hi_takeBack 1 := ⟨by decide +kernel, by decide +kernel, by decide +kernel⟩
theorem fl_X10_57 : Cond.fieldLink RX10 57 (TX10 8).1 (TX10 8).2.1 (TX10 8).2.2.1 ∈ aw := aw1 (by decide +kernel)
def SA_servedIn_L60 : Nat → WM → Int32 → Int32 → Int32 → Int32 → Option (Int32 × WM)
  | 0, _, _, _, _, _ => none
  | n + 1, M, v1_1467, v2_1468, v3_1469, v4_1470 => if 60 < v4_1470 then (some (((-1), M))) else (Option.bind (St_nextDay (M.1 10)) fun q_1472 => Option.bind (Sl_placeFor q_1472.2 v2_1468 v3_1469) fun q_1473 => if q_1473 = (-1) then (some ((v4_1470, setS M 10 q_1472.2))) else (SA_servedIn_L60 n (setS M 10 q_1472.2) v1_1467 v2_1468 v3_1469 (v4_1470 + 1)))
def SA_servedIn (M : WM) (p1 : Int32) : Option (Int32 × WM) := if Sl_has (M.1 9) p1 = 0 then (some (((-1), M))) else (lt' (lnget ((M.1 9).2 11) p1) fun v2_1464 => lt' (lnget ((M.1 9).2 12) p1) fun v3_1465 => lt' (St_copyFrom (M.1 9) (M.1 10)) fun M_1466 => SA_servedIn_L60 FU (setS M 10 M_1466) p1 v2_1464 v3_1465 1)
set_option maxRecDepth 100000 in
set_option maxHeartbeats 4000000 in
theorem w_SA_servedIn_L60 {ad ae : Nat → Nat} {X : Cx} {l : Launch} {g : Gl} (hx : Ok X l g RX10 cX10_servedIn 5 md_SA_servedIn.rm) (hC : KAll g ad ae) {σ : Hp} {B : Nat} {r : Int32 × WM} (hR : Ret X (rs (some (.int r.1)) (putW σ B ae r.2)) 0 0 (some .int)) : ∀ (n : Nat) (M : WM) (v1_1467 v2_1468 v3_1469 v4_1470 : Int32), SA_servedIn_L60 n M v1_1467 v2_1468 v3_1469 v4_1470 = some r → G X (putW σ B ae M) 0 0 60 [(0, .ref B), (1, .int v1_1467), (2, .int v2_1468), (3, .int v3_1469), (4, .int v4_1470)] [] := by
  intro n
  induction n with
  | zero =>
    intro M v1_1467 v2_1468 v3_1469 v4_1470 hr
    rw [SA_servedIn_L60] at hr
    cases hr
  | succ n ih =>
    intro M v1_1467 v2_1468 v3_1469 v4_1470 hr
    rw [SA_servedIn_L60] at hr
    refine g_iload hx 60 (i := 4) 4 dX10_servedIn_60 rfl ?_
    refine g_bipush hx 62 (60) dX10_servedIn_62 rfl ?_
    refine g_icmp_gt hx 64 100 dX10_servedIn_64 (by decide) (fun hc_1471 => ?_) (fun hc_1471 => ?_)
    · have hr := (if_pos hc_1471).symm.trans hr
      refine g_iconst hx 100 (-1) dX10_servedIn_100 rfl ?_
      exact g_iret hx hR 101 dX10_servedIn_101 ⟨by rw [← Option.some.inj hr] <;> rfl, by rw [← Option.some.inj hr] <;> rfl⟩
    · have hr := (if_neg hc_1471).symm.trans hr
      refine g_aload_n hx 67 (i := 0) 0 dX10_servedIn_67 rfl rfl ?_
      refine g_get hx 68 (C := RX10) (T := TX10) (N := 11) 7 (.ref (B + 367)) (pW σ B ae M 0 (by decide)) rfl (by decide) rfl fl_X10_54 dX10_servedIn_68 ?_
      obtain ⟨q_1472, eq_1472, hr⟩ := bind_e hr
      refine g_callVr hx (MG.at10 (w := M) (c_St_nextDay l g (putW σ B ae M) (B + 367) (M.1 10) eq_1472)) lk_X10_267 ar_St_nextDay (pW_st10 σ B ae M 0 (by decide)) (T := TX8) (N := 15) rfl (As := []) (rest := []) rfl (Nat.le_of_ble_eq_true rfl) ⟨Nat.le_of_ble_eq_true rfl, Nat.le_of_ble_eq_true rfl⟩ ⟨rfl, rfl⟩ ⟨Nat.zero_le _, Nat.zero_le _⟩ dX10_servedIn_71 ?_
      refine g_pop hx 74 dX10_servedIn_74 rfl ?_
      refine g_aload_n hx 75 (i := 0) 0 dX10_servedIn_75 rfl rfl ?_
      refine g_get hx 76 (C := RX10) (T := TX10) (N := 11) 7 (.ref (B + 367)) (pW σ B ae (setS M 10 q_1472.2) 0 (by decide)) rfl (by decide) rfl fl_X10_54 dX10_servedIn_76 ?_
      refine g_get hx 79 (C := RX8) (T := TX8) (N := 15) 13 (.ref (B + 367 + 24)) (pW_st10 σ B ae (setS M 10 q_1472.2) 0 (by decide)) rfl (by decide) rfl fl_X10_148 dX10_servedIn_79 ?_
      refine g_iload_n hx 82 (i := 2) 2 dX10_servedIn_82 rfl rfl ?_
      refine g_iload_n hx 83 (i := 3) 3 dX10_servedIn_83 rfl rfl ?_
      obtain ⟨q_1473, eq_1473, hr⟩ := bind_e hr
      refine g_callVr hx (MG.ar10 (w := setS M 10 q_1472.2) (c_Sl_placeFor l g (putW σ B ae (setS M 10 q_1472.2)) (B + 367) q_1472.2 v2_1468 v3_1469 eq_1473)) lk_X10_261 ar_Sl_placeFor (pW_st10 σ B ae (setS M 10 q_1472.2) 24 (by decide)) (T := TX7) (N := 4) rfl (As := [.int v2_1468, .int v3_1469]) (rest := []) rfl (Nat.le_of_ble_eq_true rfl) ⟨Nat.le_of_ble_eq_true rfl, Nat.le_of_ble_eq_true rfl⟩ ⟨rfl, rfl⟩ ⟨Nat.zero_le _, Nat.zero_le _⟩ dX10_servedIn_84 ?_
      refine g_iconst hx 87 (-1) dX10_servedIn_87 rfl ?_
      refine g_icmp_ne hx 88 94 dX10_servedIn_88 (by decide) (fun hc_1474 => ?_) (fun hc_1474 => ?_)
      · have hr := (if_neg hc_1474).symm.trans hr
        refine g_iinc hx 94 (i := 4) 4 (v4_1470 + 1) [(4, .int (v4_1470 + 1)), (0, .ref B), (1, .int v1_1467), (2, .int v2_1468), (3, .int v3_1469)] dX10_servedIn_94 rfl rfl (by decide) rfl ?_
        refine g_goto hx 97 60 dX10_servedIn_97 (by decide) ?_
        refine g_ls [1, 2, 3, 4, 0] [(0, .ref B), (1, .int v1_1467), (2, .int v2_1468), (3, .int v3_1469), (4, .int (v4_1470 + 1))] rfl ?_
        exact ih (setS M 10 q_1472.2) v1_1467 v2_1468 v3_1469 (v4_1470 + 1) hr
      · have hr := (if_pos hc_1474).symm.trans hr
        refine g_iload hx 91 (i := 4) 4 dX10_servedIn_91 rfl ?_
        exact g_iret hx hR 93 dX10_servedIn_93 ⟨by rw [← Option.some.inj hr] <;> rfl, by rw [← Option.some.inj hr] <;> rfl⟩
set_option maxRecDepth 100000 in
set_option maxHeartbeats 4000000 in
theorem c_SA_servedIn {ad ae : Nat → Nat} (l : Launch) (g : Gl) (hC : KAll g ad ae) (σ : Hp) (B : Nat) (M : WM) (p1 : Int32) {r : Int32 × WM} (hr : SA_servedIn M p1 = some r) : MG l g md_SA_servedIn [.ref B, .int p1] (putW σ B ae M) (rs (some (.int r.1)) (putW σ B ae r.2)) := by
  refine MG.intro (by decide +kernel) (Nat.le_of_ble_eq_true rfl) (fun X hx hR _ => ?_)
  unfold SA_servedIn at hr
  refine g_ls [0, 1] [(0, .ref B), (1, .int p1)] rfl ?_
  refine g_aload_n hx 0 (i := 0) 0 dX10_servedIn_0 rfl rfl ?_
  refine g_get hx 1 (C := RX10) (T := TX10) (N := 11) 6 (.ref (B + 332)) (pW σ B ae M 0 (by decide)) rfl (by decide) rfl fl_X10_50 dX10_servedIn_1 ?_
  refine g_get hx 4 (C := RX8) (T := TX8) (N := 15) 13 (.ref (B + 332 + 24)) (pW_st9 σ B ae M 0 (by decide)) rfl (by decide) rfl fl_X10_148 dX10_servedIn_4 ?_
  refine g_iload_n hx 7 (i := 1) 1 dX10_servedIn_7 rfl rfl ?_
  refine g_callVr hx (MG.ar9 (w := M) (c_Sl_has l g (putW σ B ae M) (B + 332) (M.1 9) p1 rfl)) lk_X10_219 ar_Sl_has (pW_st9 σ B ae M 24 (by decide)) (T := TX7) (N := 4) rfl (As := [.int p1]) (rest := []) rfl (Nat.le_of_ble_eq_true rfl) ⟨Nat.le_of_ble_eq_true rfl, Nat.le_of_ble_eq_true rfl⟩ ⟨rfl, rfl⟩ ⟨Nat.zero_le _, Nat.zero_le _⟩ dX10_servedIn_8 ?_
  refine g_if_ne hx 11 16 dX10_servedIn_11 (by decide) (fun hc_1463 => ?_) (fun hc_1463 => ?_)
  · have hr := (if_neg hc_1463).symm.trans hr
    refine g_aload_n hx 16 (i := 0) 0 dX10_servedIn_16 rfl rfl ?_
    refine g_get hx 17 (C := RX10) (T := TX10) (N := 11) 6 (.ref (B + 332)) (pW σ B ae M 0 (by decide)) rfl (by decide) rfl fl_X10_50 dX10_servedIn_17 ?_
    refine g_get hx 20 (C := RX8) (T := TX8) (N := 15) 13 (.ref (B + 332 + 24)) (pW_st9 σ B ae M 0 (by decide)) rfl (by decide) rfl fl_X10_148 dX10_servedIn_20 ?_
    refine g_get hx 23 (C := RX7) (T := TX7) (N := 4) 0 (.ref (B + 332 + 25)) (pW_st9 σ B ae M 24 (by decide)) rfl (by decide) rfl fl_X10_203 dX10_servedIn_23 ?_
    refine g_iload_n hx 26 (i := 1) 1 dX10_servedIn_26 rfl rfl ?_
    refine g_callVr hx (k_get l g (st_l11 (pW_st9 σ B ae M)) (by decide) p1) lk_X10_165 ar_Ln_get (st_l11 (pW_st9 σ B ae M)).1 (T := TX2) (N := 2) rfl (As := [.int p1]) (rest := []) rfl (Nat.le_of_ble_eq_true rfl) ⟨Nat.le_of_ble_eq_true rfl, Nat.le_of_ble_eq_true rfl⟩ ⟨rfl, rfl⟩ ⟨Nat.zero_le _, Nat.zero_le _⟩ dX10_servedIn_27 ?_
    obtain ⟨v2_1464, ev2_1464, hr⟩ := lt'_e hr
    refine g_nmi ev2_1464 ?_
    refine g_istore_n hx 30 (i := 2) [(2, .int v2_1464), (0, .ref B), (1, .int p1)] dX10_servedIn_30 rfl (by decide) rfl ?_
    refine g_aload_n hx 31 (i := 0) 1 dX10_servedIn_31 rfl rfl ?_
    refine g_get hx 32 (C := RX10) (T := TX10) (N := 11) 6 (.ref (B + 332)) (pW σ B ae M 0 (by decide)) rfl (by decide) rfl fl_X10_50 dX10_servedIn_32 ?_
    refine g_get hx 35 (C := RX8) (T := TX8) (N := 15) 13 (.ref (B + 332 + 24)) (pW_st9 σ B ae M 0 (by decide)) rfl (by decide) rfl fl_X10_148 dX10_servedIn_35 ?_
    refine g_get hx 38 (C := RX7) (T := TX7) (N := 4) 1 (.ref (B + 332 + 27)) (pW_st9 σ B ae M 24 (by decide)) rfl (by decide) rfl fl_X10_186 dX10_servedIn_38 ?_
    refine g_iload_n hx 41 (i := 1) 2 dX10_servedIn_41 rfl rfl ?_
    refine g_callVr hx (k_get l g (st_l12 (pW_st9 σ B ae M)) (by decide) p1) lk_X10_165 ar_Ln_get (st_l12 (pW_st9 σ B ae M)).1 (T := TX2) (N := 2) rfl (As := [.int p1]) (rest := []) rfl (Nat.le_of_ble_eq_true rfl) ⟨Nat.le_of_ble_eq_true rfl, Nat.le_of_ble_eq_true rfl⟩ ⟨rfl, rfl⟩ ⟨Nat.zero_le _, Nat.zero_le _⟩ dX10_servedIn_42 ?_
    obtain ⟨v3_1465, ev3_1465, hr⟩ := lt'_e hr
    refine g_nmi ev3_1465 ?_
    refine g_istore_n hx 45 (i := 3) [(3, .int v3_1465), (2, .int v2_1464), (0, .ref B), (1, .int p1)] dX10_servedIn_45 rfl (by decide) rfl ?_
    refine g_aload_n hx 46 (i := 0) 2 dX10_servedIn_46 rfl rfl ?_
    refine g_get hx 47 (C := RX10) (T := TX10) (N := 11) 7 (.ref (B + 367)) (pW σ B ae M 0 (by decide)) rfl (by decide) rfl fl_X10_54 dX10_servedIn_47 ?_
    refine g_aload_n hx 50 (i := 0) 2 dX10_servedIn_50 rfl rfl ?_
    refine g_get hx 51 (C := RX10) (T := TX10) (N := 11) 6 (.ref (B + 332)) (pW σ B ae M 0 (by decide)) rfl (by decide) rfl fl_X10_50 dX10_servedIn_51 ?_
    obtain ⟨M_1466, eM_1466, hr⟩ := lt'_e hr
    refine g_callVv hx (MG.at10 (w := M) (c_St_copyFrom (pW_st9 σ B ae M) (by omega) l g (M.1 10) eM_1466.symm)) lk_X10_106 ar_St_copyFrom (pW_st10 σ B ae M 0 (by decide)) (T := TX8) (N := 15) rfl (As := [.ref (B + 332)]) (rest := []) rfl (Nat.le_of_ble_eq_true rfl) ⟨Nat.le_of_ble_eq_true rfl, Nat.le_of_ble_eq_true rfl⟩ ⟨rfl, rfl⟩ ⟨Nat.zero_le _, Nat.zero_le _⟩ dX10_servedIn_54 ?_
    refine g_iconst hx 57 (1) dX10_servedIn_57 rfl ?_
    refine g_istore hx 58 (i := 4) [(4, .int 1), (3, .int v3_1465), (2, .int v2_1464), (0, .ref B), (1, .int p1)] dX10_servedIn_58 (by decide) rfl ?_
    refine g_ls [3, 4, 2, 1, 0] [(0, .ref B), (1, .int p1), (2, .int v2_1464), (3, .int v3_1465), (4, .int 1)] rfl ?_
    exact w_SA_servedIn_L60 hx hC hR FU (setS M 10 M_1466) p1 v2_1464 v3_1465 1 hr
  · have hr := (if_pos hc_1463).symm.trans hr
    refine g_iconst hx 14 (-1) dX10_servedIn_14 rfl ?_
    exact g_iret hx hR 15 dX10_servedIn_15 ⟨by rw [← Option.some.inj hr] <;> rfl, by rw [← Option.some.inj hr] <;> rfl⟩
def SA_servedBy (M : WM) (p1 : Int32) : Option (Nat ⊕ (Int32 × WM)) := if p1 < 0 then (some (.inl 0)) else (if p1 ≤ 60 then (lt' (St_copyFrom (M.1 9) (M.1 10)) fun M_1477 => Option.bind (St_passDays M_1477 p1 1059) fun q_1478 => some (.inr (q_1478.1, setS (setS M 10 M_1477) 10 q_1478.2))) else (some (.inl 0)))
set_option maxRecDepth 100000 in
set_option maxHeartbeats 4000000 in
theorem c_SA_servedBy {ad ae : Nat → Nat} (l : Launch) (g : Gl) (hC : KAll g ad ae) (hl : l.stackTraces = false) (σ : Hp) (B : Nat) (M : WM) (p1 : Int32) {r : Nat ⊕ (Int32 × WM)} (hr : SA_servedBy M p1 = some r) : VG l g md_SA_servedBy [.ref B, .int p1] (putW σ B ae M) (fun v1 σ1 => ∃ u, r = .inr u ∧ v1 = some (.int u.1) ∧ σ1 = putW σ B ae u.2) (pxW r (putW σ B ae M).2) := by
  refine VG.intro (by decide +kernel) (Nat.le_of_ble_eq_true rfl) (fun X hx hR => ?_)
  unfold SA_servedBy at hr
  refine g_ls [0, 1] [(0, .ref B), (1, .int p1)] rfl ?_
  refine g_iload_n hx 0 (i := 1) 1 dX10_servedBy_0 rfl rfl ?_
  refine g_if_lt hx 1 10 dX10_servedBy_1 (by decide) (fun hc_1475 => ?_) (fun hc_1475 => ?_)
  · have hr := (if_pos hc_1475).symm.trans hr
    exact g_throwSW hx hR hl 10 (cls := iae) xk_X10_89 xi_iae (hC.1.2.2 _ (List.mem_of_getElem? (i := 9) rfl)) (fun U hU => (hC.2.2.1 U hU).1) xo_X10_89_93 (by decide +kernel) (fun U hU => ⟨(hC.2.2.1 U hU).2.2.1, (hC.2.2.1 U hU).2.2.2⟩) dX10_servedBy_10 dX10_servedBy_13 dX10_servedBy_14 dX10_servedBy_17 dX10_servedBy_20 (Nat.le_of_ble_eq_true rfl) ⟨Nat.le_of_ble_eq_true rfl, Nat.le_of_ble_eq_true rfl⟩ ⟨Nat.le_of_ble_eq_true rfl, Nat.le_of_ble_eq_true rfl⟩ ⟨Nat.le_of_ble_eq_true rfl, Nat.le_of_ble_eq_true rfl⟩ (fun z => ⟨_, (Option.some.inj hr).symm, rfl, rfl⟩)
  · have hr := (if_neg hc_1475).symm.trans hr
    refine g_iload_n hx 4 (i := 1) 1 dX10_servedBy_4 rfl rfl ?_
    refine g_bipush hx 5 (60) dX10_servedBy_5 rfl ?_
    refine g_icmp_le hx 7 21 dX10_servedBy_7 (by decide) (fun hc_1476 => ?_) (fun hc_1476 => ?_)
    · have hr := (if_pos hc_1476).symm.trans hr
      refine g_aload_n hx 21 (i := 0) 0 dX10_servedBy_21 rfl rfl ?_
      refine g_get hx 22 (C := RX10) (T := TX10) (N := 11) 7 (.ref (B + 367)) (pW σ B ae M 0 (by decide)) rfl (by decide) rfl fl_X10_54 dX10_servedBy_22 ?_
      refine g_aload_n hx 25 (i := 0) 0 dX10_servedBy_25 rfl rfl ?_
      refine g_get hx 26 (C := RX10) (T := TX10) (N := 11) 6 (.ref (B + 332)) (pW σ B ae M 0 (by decide)) rfl (by decide) rfl fl_X10_50 dX10_servedBy_26 ?_
      obtain ⟨M_1477, eM_1477, hr⟩ := lt'_e hr
      refine g_callVv hx (MG.at10 (w := M) (c_St_copyFrom (pW_st9 σ B ae M) (by omega) l g (M.1 10) eM_1477.symm)) lk_X10_106 ar_St_copyFrom (pW_st10 σ B ae M 0 (by decide)) (T := TX8) (N := 15) rfl (As := [.ref (B + 332)]) (rest := []) rfl (Nat.le_of_ble_eq_true rfl) ⟨Nat.le_of_ble_eq_true rfl, Nat.le_of_ble_eq_true rfl⟩ ⟨rfl, rfl⟩ ⟨Nat.zero_le _, Nat.zero_le _⟩ dX10_servedBy_29 ?_
      refine g_aload_n hx 32 (i := 0) 0 dX10_servedBy_32 rfl rfl ?_
      refine g_get hx 33 (C := RX10) (T := TX10) (N := 11) 7 (.ref (B + 367)) (pW σ B ae (setS M 10 M_1477) 0 (by decide)) rfl (by decide) rfl fl_X10_54 dX10_servedBy_33 ?_
      refine g_iload_n hx 36 (i := 1) 1 dX10_servedBy_36 rfl rfl ?_
      refine g_sipush hx 37 (1059) dX10_servedBy_37 rfl ?_
      obtain ⟨q_1478, eq_1478, hr⟩ := bind_e hr
      refine g_callVr hx (MG.at10 (w := setS M 10 M_1477) (c_St_passDays l g (putW σ B ae (setS M 10 M_1477)) (B + 367) M_1477 p1 1059 eq_1478)) lk_X10_272 ar_St_passDays (pW_st10 σ B ae (setS M 10 M_1477) 0 (by decide)) (T := TX8) (N := 15) rfl (As := [.int p1, .int 1059]) (rest := []) rfl (Nat.le_of_ble_eq_true rfl) ⟨Nat.le_of_ble_eq_true rfl, Nat.le_of_ble_eq_true rfl⟩ ⟨rfl, rfl⟩ ⟨Nat.zero_le _, Nat.zero_le _⟩ dX10_servedBy_40 ?_
      exact g_iretV hx hR 43 dX10_servedBy_43 ⟨Nat.le_of_ble_eq_true rfl, Nat.le_of_ble_eq_true rfl⟩ ⟨_, (Option.some.inj hr).symm, rfl, rfl⟩
    · have hr := (if_neg hc_1476).symm.trans hr
      exact g_throwSW hx hR hl 10 (cls := iae) xk_X10_89 xi_iae (hC.1.2.2 _ (List.mem_of_getElem? (i := 9) rfl)) (fun U hU => (hC.2.2.1 U hU).1) xo_X10_89_93 (by decide +kernel) (fun U hU => ⟨(hC.2.2.1 U hU).2.2.1, (hC.2.2.1 U hU).2.2.2⟩) dX10_servedBy_10 dX10_servedBy_13 dX10_servedBy_14 dX10_servedBy_17 dX10_servedBy_20 (Nat.le_of_ble_eq_true rfl) ⟨Nat.le_of_ble_eq_true rfl, Nat.le_of_ble_eq_true rfl⟩ ⟨Nat.le_of_ble_eq_true rfl, Nat.le_of_ble_eq_true rfl⟩ ⟨Nat.le_of_ble_eq_true rfl, Nat.le_of_ble_eq_true rfl⟩ (fun z => ⟨_, (Option.some.inj hr).symm, rfl, rfl⟩)
def SA_waitingIn (M : WM) (p1 : Int32) : Option (Nat ⊕ (Int32 × WM)) := if p1 < 0 then (some (.inl 0)) else (if p1 ≤ 60 then (lt' (St_copyFrom (M.1 9) (M.1 10)) fun M_1481 => Option.bind (St_passDays M_1481 p1 1059) fun q_1482 => some (.inr (Sl_count q_1482.2, setS (setS M 10 M_1481) 10 q_1482.2))) else (some (.inl 0)))
set_option maxRecDepth 100000 in
set_option maxHeartbeats 4000000 in
theorem c_SA_waitingIn {ad ae : Nat → Nat} (l : Launch) (g : Gl) (hC : KAll g ad ae) (hl : l.stackTraces = false) (σ : Hp) (B : Nat) (M : WM) (p1 : Int32) {r : Nat ⊕ (Int32 × WM)} (hr : SA_waitingIn M p1 = some r) : VG l g md_SA_waitingIn [.ref B, .int p1] (putW σ B ae M) (fun v1 σ1 => ∃ u, r = .inr u ∧ v1 = some (.int u.1) ∧ σ1 = putW σ B ae u.2) (pxW r (putW σ B ae M).2) := by
  refine VG.intro (by decide +kernel) (Nat.le_of_ble_eq_true rfl) (fun X hx hR => ?_)
  unfold SA_waitingIn at hr
  refine g_ls [0, 1] [(0, .ref B), (1, .int p1)] rfl ?_
  refine g_iload_n hx 0 (i := 1) 1 dX10_waitingIn_0 rfl rfl ?_
  refine g_if_lt hx 1 10 dX10_waitingIn_1 (by decide) (fun hc_1479 => ?_) (fun hc_1479 => ?_)
  · have hr := (if_pos hc_1479).symm.trans hr
    exact g_throwSW hx hR hl 10 (cls := iae) xk_X10_89 xi_iae (hC.1.2.2 _ (List.mem_of_getElem? (i := 9) rfl)) (fun U hU => (hC.2.2.1 U hU).1) xo_X10_89_93 (by decide +kernel) (fun U hU => ⟨(hC.2.2.1 U hU).2.2.1, (hC.2.2.1 U hU).2.2.2⟩) dX10_waitingIn_10 dX10_waitingIn_13 dX10_waitingIn_14 dX10_waitingIn_17 dX10_waitingIn_20 (Nat.le_of_ble_eq_true rfl) ⟨Nat.le_of_ble_eq_true rfl, Nat.le_of_ble_eq_true rfl⟩ ⟨Nat.le_of_ble_eq_true rfl, Nat.le_of_ble_eq_true rfl⟩ ⟨Nat.le_of_ble_eq_true rfl, Nat.le_of_ble_eq_true rfl⟩ (fun z => ⟨_, (Option.some.inj hr).symm, rfl, rfl⟩)
  · have hr := (if_neg hc_1479).symm.trans hr
    refine g_iload_n hx 4 (i := 1) 1 dX10_waitingIn_4 rfl rfl ?_
    refine g_bipush hx 5 (60) dX10_waitingIn_5 rfl ?_
    refine g_icmp_le hx 7 21 dX10_waitingIn_7 (by decide) (fun hc_1480 => ?_) (fun hc_1480 => ?_)
    · have hr := (if_pos hc_1480).symm.trans hr
      refine g_aload_n hx 21 (i := 0) 0 dX10_waitingIn_21 rfl rfl ?_
      refine g_get hx 22 (C := RX10) (T := TX10) (N := 11) 7 (.ref (B + 367)) (pW σ B ae M 0 (by decide)) rfl (by decide) rfl fl_X10_54 dX10_waitingIn_22 ?_
      refine g_aload_n hx 25 (i := 0) 0 dX10_waitingIn_25 rfl rfl ?_
      refine g_get hx 26 (C := RX10) (T := TX10) (N := 11) 6 (.ref (B + 332)) (pW σ B ae M 0 (by decide)) rfl (by decide) rfl fl_X10_50 dX10_waitingIn_26 ?_
      obtain ⟨M_1481, eM_1481, hr⟩ := lt'_e hr
      refine g_callVv hx (MG.at10 (w := M) (c_St_copyFrom (pW_st9 σ B ae M) (by omega) l g (M.1 10) eM_1481.symm)) lk_X10_106 ar_St_copyFrom (pW_st10 σ B ae M 0 (by decide)) (T := TX8) (N := 15) rfl (As := [.ref (B + 332)]) (rest := []) rfl (Nat.le_of_ble_eq_true rfl) ⟨Nat.le_of_ble_eq_true rfl, Nat.le_of_ble_eq_true rfl⟩ ⟨rfl, rfl⟩ ⟨Nat.zero_le _, Nat.zero_le _⟩ dX10_waitingIn_29 ?_
      refine g_aload_n hx 32 (i := 0) 0 dX10_waitingIn_32 rfl rfl ?_
      refine g_get hx 33 (C := RX10) (T := TX10) (N := 11) 7 (.ref (B + 367)) (pW σ B ae (setS M 10 M_1481) 0 (by decide)) rfl (by decide) rfl fl_X10_54 dX10_waitingIn_33 ?_
      refine g_iload_n hx 36 (i := 1) 1 dX10_waitingIn_36 rfl rfl ?_
      refine g_sipush hx 37 (1059) dX10_waitingIn_37 rfl ?_
      obtain ⟨q_1482, eq_1482, hr⟩ := bind_e hr
      refine g_callVr hx (MG.at10 (w := setS M 10 M_1481) (c_St_passDays l g (putW σ B ae (setS M 10 M_1481)) (B + 367) M_1481 p1 1059 eq_1482)) lk_X10_272 ar_St_passDays (pW_st10 σ B ae (setS M 10 M_1481) 0 (by decide)) (T := TX8) (N := 15) rfl (As := [.int p1, .int 1059]) (rest := []) rfl (Nat.le_of_ble_eq_true rfl) ⟨Nat.le_of_ble_eq_true rfl, Nat.le_of_ble_eq_true rfl⟩ ⟨rfl, rfl⟩ ⟨Nat.zero_le _, Nat.zero_le _⟩ dX10_waitingIn_40 ?_
      refine g_pop hx 43 dX10_waitingIn_43 rfl ?_
      refine g_aload_n hx 44 (i := 0) 0 dX10_waitingIn_44 rfl rfl ?_
      refine g_get hx 45 (C := RX10) (T := TX10) (N := 11) 7 (.ref (B + 367)) (pW σ B ae (setS (setS M 10 M_1481) 10 q_1482.2) 0 (by decide)) rfl (by decide) rfl fl_X10_54 dX10_waitingIn_45 ?_
      refine g_get hx 48 (C := RX8) (T := TX8) (N := 15) 13 (.ref (B + 367 + 24)) (pW_st10 σ B ae (setS (setS M 10 M_1481) 10 q_1482.2) 0 (by decide)) rfl (by decide) rfl fl_X10_148 dX10_waitingIn_48 ?_
      refine g_callVr hx (MG.ar10 (w := setS (setS M 10 M_1481) 10 q_1482.2) (c_Sl_count l g (putW σ B ae (setS (setS M 10 M_1481) 10 q_1482.2)) (B + 367) q_1482.2 rfl)) lk_X10_152 ar_Sl_count (pW_st10 σ B ae (setS (setS M 10 M_1481) 10 q_1482.2) 24 (by decide)) (T := TX7) (N := 4) rfl (As := []) (rest := []) rfl (Nat.le_of_ble_eq_true rfl) ⟨Nat.le_of_ble_eq_true rfl, Nat.le_of_ble_eq_true rfl⟩ ⟨rfl, rfl⟩ ⟨Nat.zero_le _, Nat.zero_le _⟩ dX10_waitingIn_51 ?_
      exact g_iretV hx hR 54 dX10_waitingIn_54 ⟨Nat.le_of_ble_eq_true rfl, Nat.le_of_ble_eq_true rfl⟩ ⟨_, (Option.some.inj hr).symm, rfl, rfl⟩
    · have hr := (if_neg hc_1480).symm.trans hr
      exact g_throwSW hx hR hl 10 (cls := iae) xk_X10_89 xi_iae (hC.1.2.2 _ (List.mem_of_getElem? (i := 9) rfl)) (fun U hU => (hC.2.2.1 U hU).1) xo_X10_89_93 (by decide +kernel) (fun U hU => ⟨(hC.2.2.1 U hU).2.2.1, (hC.2.2.1 U hU).2.2.2⟩) dX10_waitingIn_10 dX10_waitingIn_13 dX10_waitingIn_14 dX10_waitingIn_17 dX10_waitingIn_20 (Nat.le_of_ble_eq_true rfl) ⟨Nat.le_of_ble_eq_true rfl, Nat.le_of_ble_eq_true rfl⟩ ⟨Nat.le_of_ble_eq_true rfl, Nat.le_of_ble_eq_true rfl⟩ ⟨Nat.le_of_ble_eq_true rfl, Nat.le_of_ble_eq_true rfl⟩ (fun z => ⟨_, (Option.some.inj hr).symm, rfl, rfl⟩)
def SA_servedWith (M : WM) (p1 : Int32) : Option (Nat ⊕ (Int32 × WM)) := if p1 < 1 then (some (.inl 0)) else (if p1 ≤ 6 then (lt' (St_copyFrom (M.1 9) (M.1 10)) fun M_1485 => Option.bind (St_passDays (setI M_1485 2 p1) 10 1059) fun q_1486 => some (.inr (q_1486.1, setS (setS (setS M 10 M_1485) 10 (setI M_1485 2 p1)) 10 q_1486.2))) else (some (.inl 0)))
set_option maxRecDepth 100000 in
set_option maxHeartbeats 4000000 in
theorem c_SA_servedWith {ad ae : Nat → Nat} (l : Launch) (g : Gl) (hC : KAll g ad ae) (hl : l.stackTraces = false) (σ : Hp) (B : Nat) (M : WM) (p1 : Int32) {r : Nat ⊕ (Int32 × WM)} (hr : SA_servedWith M p1 = some r) : VG l g md_SA_servedWith [.ref B, .int p1] (putW σ B ae M) (fun v1 σ1 => ∃ u, r = .inr u ∧ v1 = some (.int u.1) ∧ σ1 = putW σ B ae u.2) (pxW r (putW σ B ae M).2) := by
  refine VG.intro (by decide +kernel) (Nat.le_of_ble_eq_true rfl) (fun X hx hR => ?_)
  unfold SA_servedWith at hr
  refine g_ls [0, 1] [(0, .ref B), (1, .int p1)] rfl ?_
  refine g_iload_n hx 0 (i := 1) 1 dX10_servedWith_0 rfl rfl ?_
  refine g_iconst hx 1 (1) dX10_servedWith_1 rfl ?_
  refine g_icmp_lt hx 2 11 dX10_servedWith_2 (by decide) (fun hc_1483 => ?_) (fun hc_1483 => ?_)
  · have hr := (if_pos hc_1483).symm.trans hr
    exact g_throwSW hx hR hl 11 (cls := iae) xk_X10_89 xi_iae (hC.1.2.2 _ (List.mem_of_getElem? (i := 10) rfl)) (fun U hU => (hC.2.2.1 U hU).1) xo_X10_89_93 (by decide +kernel) (fun U hU => ⟨(hC.2.2.1 U hU).2.2.1, (hC.2.2.1 U hU).2.2.2⟩) dX10_servedWith_11 dX10_servedWith_14 dX10_servedWith_15 dX10_servedWith_18 dX10_servedWith_21 (Nat.le_of_ble_eq_true rfl) ⟨Nat.le_of_ble_eq_true rfl, Nat.le_of_ble_eq_true rfl⟩ ⟨Nat.le_of_ble_eq_true rfl, Nat.le_of_ble_eq_true rfl⟩ ⟨Nat.le_of_ble_eq_true rfl, Nat.le_of_ble_eq_true rfl⟩ (fun z => ⟨_, (Option.some.inj hr).symm, rfl, rfl⟩)
  · have hr := (if_neg hc_1483).symm.trans hr
    refine g_iload_n hx 5 (i := 1) 1 dX10_servedWith_5 rfl rfl ?_
    refine g_bipush hx 6 (6) dX10_servedWith_6 rfl ?_
    refine g_icmp_le hx 8 22 dX10_servedWith_8 (by decide) (fun hc_1484 => ?_) (fun hc_1484 => ?_)
    · have hr := (if_pos hc_1484).symm.trans hr
      refine g_aload_n hx 22 (i := 0) 0 dX10_servedWith_22 rfl rfl ?_
      refine g_get hx 23 (C := RX10) (T := TX10) (N := 11) 7 (.ref (B + 367)) (pW σ B ae M 0 (by decide)) rfl (by decide) rfl fl_X10_54 dX10_servedWith_23 ?_
      refine g_aload_n hx 26 (i := 0) 0 dX10_servedWith_26 rfl rfl ?_
      refine g_get hx 27 (C := RX10) (T := TX10) (N := 11) 6 (.ref (B + 332)) (pW σ B ae M 0 (by decide)) rfl (by decide) rfl fl_X10_50 dX10_servedWith_27 ?_
      obtain ⟨M_1485, eM_1485, hr⟩ := lt'_e hr
      refine g_callVv hx (MG.at10 (w := M) (c_St_copyFrom (pW_st9 σ B ae M) (by omega) l g (M.1 10) eM_1485.symm)) lk_X10_106 ar_St_copyFrom (pW_st10 σ B ae M 0 (by decide)) (T := TX8) (N := 15) rfl (As := [.ref (B + 332)]) (rest := []) rfl (Nat.le_of_ble_eq_true rfl) ⟨Nat.le_of_ble_eq_true rfl, Nat.le_of_ble_eq_true rfl⟩ ⟨rfl, rfl⟩ ⟨Nat.zero_le _, Nat.zero_le _⟩ dX10_servedWith_30 ?_
      refine g_aload_n hx 33 (i := 0) 0 dX10_servedWith_33 rfl rfl ?_
      refine g_get hx 34 (C := RX10) (T := TX10) (N := 11) 7 (.ref (B + 367)) (pW σ B ae (setS M 10 M_1485) 0 (by decide)) rfl (by decide) rfl fl_X10_54 dX10_servedWith_34 ?_
      refine g_iload_n hx 37 (i := 1) 1 dX10_servedWith_37 rfl rfl ?_
      refine g_put hx 38 (C := RX8) (T := TX8) (N := 15) 2 .int _ (pW_st10 σ B ae (setS M 10 M_1485) 0 (by decide)) rfl (by decide) fl_X10_120 rfl rfl rfl rfl (Nat.le_of_ble_eq_true rfl) rfl dX10_servedWith_38 ?_
      refine G.heap (pW_sti10 σ B ae (setS M 10 M_1485) 2 p1) ?_
      refine g_aload_n hx 41 (i := 0) 0 dX10_servedWith_41 rfl rfl ?_
      refine g_get hx 42 (C := RX10) (T := TX10) (N := 11) 7 (.ref (B + 367)) (pW σ B ae (setS (setS M 10 M_1485) 10 (setI M_1485 2 p1)) 0 (by decide)) rfl (by decide) rfl fl_X10_54 dX10_servedWith_42 ?_
      refine g_bipush hx 45 (10) dX10_servedWith_45 rfl ?_
      refine g_sipush hx 47 (1059) dX10_servedWith_47 rfl ?_
      obtain ⟨q_1486, eq_1486, hr⟩ := bind_e hr
      refine g_callVr hx (MG.at10 (w := setS (setS M 10 M_1485) 10 (setI M_1485 2 p1)) (c_St_passDays l g (putW σ B ae (setS (setS M 10 M_1485) 10 (setI M_1485 2 p1))) (B + 367) (setI M_1485 2 p1) 10 1059 eq_1486)) lk_X10_272 ar_St_passDays (pW_st10 σ B ae (setS (setS M 10 M_1485) 10 (setI M_1485 2 p1)) 0 (by decide)) (T := TX8) (N := 15) rfl (As := [.int 10, .int 1059]) (rest := []) rfl (Nat.le_of_ble_eq_true rfl) ⟨Nat.le_of_ble_eq_true rfl, Nat.le_of_ble_eq_true rfl⟩ ⟨rfl, rfl⟩ ⟨Nat.zero_le _, Nat.zero_le _⟩ dX10_servedWith_50 ?_
      exact g_iretV hx hR 53 dX10_servedWith_53 ⟨Nat.le_of_ble_eq_true rfl, Nat.le_of_ble_eq_true rfl⟩ ⟨_, (Option.some.inj hr).symm, rfl, rfl⟩
    · have hr := (if_neg hc_1484).symm.trans hr
      exact g_throwSW hx hR hl 11 (cls := iae) xk_X10_89 xi_iae (hC.1.2.2 _ (List.mem_of_getElem? (i := 10) rfl)) (fun U hU => (hC.2.2.1 U hU).1) xo_X10_89_93 (by decide +kernel) (fun U hU => ⟨(hC.2.2.1 U hU).2.2.1, (hC.2.2.1 U hU).2.2.2⟩) dX10_servedWith_11 dX10_servedWith_14 dX10_servedWith_15 dX10_servedWith_18 dX10_servedWith_21 (Nat.le_of_ble_eq_true rfl) ⟨Nat.le_of_ble_eq_true rfl, Nat.le_of_ble_eq_true rfl⟩ ⟨Nat.le_of_ble_eq_true rfl, Nat.le_of_ble_eq_true rfl⟩ ⟨Nat.le_of_ble_eq_true rfl, Nat.le_of_ble_eq_true rfl⟩ (fun z => ⟨_, (Option.some.inj hr).symm, rfl, rfl⟩)
def SA_swapsLeft (M : WM) : Option (Int32) := Option.bind (Rw_pairsInWrongOrder (M.1 9)) fun q_1487 => some (q_1487)
set_option maxRecDepth 100000 in
set_option maxHeartbeats 4000000 in
theorem c_SA_swapsLeft {ad ae : Nat → Nat} (l : Launch) (g : Gl) (hC : KAll g ad ae) (σ : Hp) (B : Nat) (M : WM) {r : Int32} (hr : SA_swapsLeft M = some r) : MG l g md_SA_swapsLeft [.ref B] (putW σ B ae M) (rs (some (.int r)) (putW σ B ae M)) := by
  refine MG.intro (by decide +kernel) (Nat.le_of_ble_eq_true rfl) (fun X hx hR _ => ?_)
  unfold SA_swapsLeft at hr
  refine g_ls [0] [(0, .ref B)] rfl ?_
  refine g_aload_n hx 0 (i := 0) 0 dX10_swapsLeft_0 rfl rfl ?_
  refine g_get hx 1 (C := RX10) (T := TX10) (N := 11) 6 (.ref (B + 332)) (pW σ B ae M 0 (by decide)) rfl (by decide) rfl fl_X10_50 dX10_swapsLeft_1 ?_
  refine g_get hx 4 (C := RX8) (T := TX8) (N := 15) 11 (.ref (B + 332 + 15)) (pW_st9 σ B ae M 0 (by decide)) rfl (by decide) rfl fl_X10_129 dX10_swapsLeft_4 ?_
  obtain ⟨q_1487, eq_1487, hr⟩ := bind_e hr
  refine g_callVr hx (MG.ar9 (w := M) (c_Rw_pairsInWrongOrder l g (putW σ B ae M) (B + 332) (M.1 9) eq_1487)) lk_X10_246 ar_Rw_pairsInWrongOrder (pW_st9 σ B ae M 15 (by decide)) (T := TX5) (N := 4) rfl (As := []) (rest := []) rfl (Nat.le_of_ble_eq_true rfl) ⟨Nat.le_of_ble_eq_true rfl, Nat.le_of_ble_eq_true rfl⟩ ⟨rfl, rfl⟩ ⟨Nat.zero_le _, Nat.zero_le _⟩ dX10_swapsLeft_7 ?_
  exact g_iret hx hR 10 dX10_swapsLeft_10 ⟨by rw [← Option.some.inj hr] <;> rfl, rfl⟩
def SA_missedAfter (M : WM) (p1 : Int32) : Option (Nat ⊕ (Int32 × WM)) := if p1 < 0 then (some (.inl 0)) else (if p1 ≤ 99 then (lt' (St_copyFrom (M.1 9) (M.1 10)) fun M_1490 => Option.bind (Rw_swapWrongPairs M_1490 p1) fun q_1491 => Option.bind (Rw_missedByHalving q_1491.2) fun q_1492 => some (.inr (q_1492.1, setS (setS (setS M 10 M_1490) 10 q_1491.2) 10 q_1492.2))) else (some (.inl 0)))
set_option maxRecDepth 100000 in
set_option maxHeartbeats 4000000 in
theorem c_SA_missedAfter {ad ae : Nat → Nat} (l : Launch) (g : Gl) (hC : KAll g ad ae) (hl : l.stackTraces = false) (σ : Hp) (B : Nat) (M : WM) (p1 : Int32) {r : Nat ⊕ (Int32 × WM)} (hr : SA_missedAfter M p1 = some r) : VG l g md_SA_missedAfter [.ref B, .int p1] (putW σ B ae M) (fun v1 σ1 => ∃ u, r = .inr u ∧ v1 = some (.int u.1) ∧ σ1 = putW σ B ae u.2) (pxW r (putW σ B ae M).2) := by
  refine VG.intro (by decide +kernel) (Nat.le_of_ble_eq_true rfl) (fun X hx hR => ?_)
  unfold SA_missedAfter at hr
  refine g_ls [0, 1] [(0, .ref B), (1, .int p1)] rfl ?_
  refine g_iload_n hx 0 (i := 1) 1 dX10_missedAfter_0 rfl rfl ?_
  refine g_if_lt hx 1 10 dX10_missedAfter_1 (by decide) (fun hc_1488 => ?_) (fun hc_1488 => ?_)
  · have hr := (if_pos hc_1488).symm.trans hr
    exact g_throwSW hx hR hl 10 (cls := iae) xk_X10_89 xi_iae (hC.1.2.2 _ (List.mem_of_getElem? (i := 11) rfl)) (fun U hU => (hC.2.2.1 U hU).1) xo_X10_89_93 (by decide +kernel) (fun U hU => ⟨(hC.2.2.1 U hU).2.2.1, (hC.2.2.1 U hU).2.2.2⟩) dX10_missedAfter_10 dX10_missedAfter_13 dX10_missedAfter_14 dX10_missedAfter_17 dX10_missedAfter_20 (Nat.le_of_ble_eq_true rfl) ⟨Nat.le_of_ble_eq_true rfl, Nat.le_of_ble_eq_true rfl⟩ ⟨Nat.le_of_ble_eq_true rfl, Nat.le_of_ble_eq_true rfl⟩ ⟨Nat.le_of_ble_eq_true rfl, Nat.le_of_ble_eq_true rfl⟩ (fun z => ⟨_, (Option.some.inj hr).symm, rfl, rfl⟩)
  · have hr := (if_neg hc_1488).symm.trans hr
    refine g_iload_n hx 4 (i := 1) 1 dX10_missedAfter_4 rfl rfl ?_
    refine g_bipush hx 5 (99) dX10_missedAfter_5 rfl ?_
    refine g_icmp_le hx 7 21 dX10_missedAfter_7 (by decide) (fun hc_1489 => ?_) (fun hc_1489 => ?_)
    · have hr := (if_pos hc_1489).symm.trans hr
      refine g_aload_n hx 21 (i := 0) 0 dX10_missedAfter_21 rfl rfl ?_
      refine g_get hx 22 (C := RX10) (T := TX10) (N := 11) 7 (.ref (B + 367)) (pW σ B ae M 0 (by decide)) rfl (by decide) rfl fl_X10_54 dX10_missedAfter_22 ?_
      refine g_aload_n hx 25 (i := 0) 0 dX10_missedAfter_25 rfl rfl ?_
      refine g_get hx 26 (C := RX10) (T := TX10) (N := 11) 6 (.ref (B + 332)) (pW σ B ae M 0 (by decide)) rfl (by decide) rfl fl_X10_50 dX10_missedAfter_26 ?_
      obtain ⟨M_1490, eM_1490, hr⟩ := lt'_e hr
      refine g_callVv hx (MG.at10 (w := M) (c_St_copyFrom (pW_st9 σ B ae M) (by omega) l g (M.1 10) eM_1490.symm)) lk_X10_106 ar_St_copyFrom (pW_st10 σ B ae M 0 (by decide)) (T := TX8) (N := 15) rfl (As := [.ref (B + 332)]) (rest := []) rfl (Nat.le_of_ble_eq_true rfl) ⟨Nat.le_of_ble_eq_true rfl, Nat.le_of_ble_eq_true rfl⟩ ⟨rfl, rfl⟩ ⟨Nat.zero_le _, Nat.zero_le _⟩ dX10_missedAfter_29 ?_
      refine g_aload_n hx 32 (i := 0) 0 dX10_missedAfter_32 rfl rfl ?_
      refine g_get hx 33 (C := RX10) (T := TX10) (N := 11) 7 (.ref (B + 367)) (pW σ B ae (setS M 10 M_1490) 0 (by decide)) rfl (by decide) rfl fl_X10_54 dX10_missedAfter_33 ?_
      refine g_get hx 36 (C := RX8) (T := TX8) (N := 15) 11 (.ref (B + 367 + 15)) (pW_st10 σ B ae (setS M 10 M_1490) 0 (by decide)) rfl (by decide) rfl fl_X10_129 dX10_missedAfter_36 ?_
      refine g_iload_n hx 39 (i := 1) 1 dX10_missedAfter_39 rfl rfl ?_
      obtain ⟨q_1491, eq_1491, hr⟩ := bind_e hr
      refine g_callVr hx (MG.at10 (w := setS M 10 M_1490) (c_Rw_swapWrongPairs l g (putW σ B ae (setS M 10 M_1490)) (B + 367) M_1490 p1 eq_1491)) lk_X10_279 ar_Rw_swapWrongPairs (pW_st10 σ B ae (setS M 10 M_1490) 15 (by decide)) (T := TX5) (N := 4) rfl (As := [.int p1]) (rest := []) rfl (Nat.le_of_ble_eq_true rfl) ⟨Nat.le_of_ble_eq_true rfl, Nat.le_of_ble_eq_true rfl⟩ ⟨rfl, rfl⟩ ⟨Nat.zero_le _, Nat.zero_le _⟩ dX10_missedAfter_40 ?_
      refine g_pop hx 43 dX10_missedAfter_43 rfl ?_
      refine g_aload_n hx 44 (i := 0) 0 dX10_missedAfter_44 rfl rfl ?_
      refine g_get hx 45 (C := RX10) (T := TX10) (N := 11) 7 (.ref (B + 367)) (pW σ B ae (setS (setS M 10 M_1490) 10 q_1491.2) 0 (by decide)) rfl (by decide) rfl fl_X10_54 dX10_missedAfter_45 ?_
      refine g_get hx 48 (C := RX8) (T := TX8) (N := 15) 11 (.ref (B + 367 + 15)) (pW_st10 σ B ae (setS (setS M 10 M_1490) 10 q_1491.2) 0 (by decide)) rfl (by decide) rfl fl_X10_129 dX10_missedAfter_48 ?_
      obtain ⟨q_1492, eq_1492, hr⟩ := bind_e hr
      refine g_callVr hx (MG.at10 (w := setS (setS M 10 M_1490) 10 q_1491.2) (c_Rw_missedByHalving l g (putW σ B ae (setS (setS M 10 M_1490) 10 q_1491.2)) (B + 367) q_1491.2 eq_1492)) lk_X10_240 ar_Rw_missedByHalving (pW_st10 σ B ae (setS (setS M 10 M_1490) 10 q_1491.2) 15 (by decide)) (T := TX5) (N := 4) rfl (As := []) (rest := []) rfl (Nat.le_of_ble_eq_true rfl) ⟨Nat.le_of_ble_eq_true rfl, Nat.le_of_ble_eq_true rfl⟩ ⟨rfl, rfl⟩ ⟨Nat.zero_le _, Nat.zero_le _⟩ dX10_missedAfter_51 ?_
      exact g_iretV hx hR 54 dX10_missedAfter_54 ⟨Nat.le_of_ble_eq_true rfl, Nat.le_of_ble_eq_true rfl⟩ ⟨_, (Option.some.inj hr).symm, rfl, rfl⟩
    · have hr := (if_neg hc_1489).symm.trans hr
      exact g_throwSW hx hR hl 10 (cls := iae) xk_X10_89 xi_iae (hC.1.2.2 _ (List.mem_of_getElem? (i := 11) rfl)) (fun U hU => (hC.2.2.1 U hU).1) xo_X10_89_93 (by decide +kernel) (fun U hU => ⟨(hC.2.2.1 U hU).2.2.1, (hC.2.2.1 U hU).2.2.2⟩) dX10_missedAfter_10 dX10_missedAfter_13 dX10_missedAfter_14 dX10_missedAfter_17 dX10_missedAfter_20 (Nat.le_of_ble_eq_true rfl) ⟨Nat.le_of_ble_eq_true rfl, Nat.le_of_ble_eq_true rfl⟩ ⟨Nat.le_of_ble_eq_true rfl, Nat.le_of_ble_eq_true rfl⟩ ⟨Nat.le_of_ble_eq_true rfl, Nat.le_of_ble_eq_true rfl⟩ (fun z => ⟨_, (Option.some.inj hr).symm, rfl, rfl⟩)
def SA_counted (M : WM) (p1 : Int32) : Int32 × WM := lt' (if p1 < 0 then (1) else (0)) fun b_1494 => (p1, setWL M 2 (lnraise (M.2.1 2) b_1494 1))
set_option maxRecDepth 100000 in
set_option maxHeartbeats 4000000 in
theorem c_SA_counted {ad ae : Nat → Nat} (l : Launch) (g : Gl) (hC : KAll g ad ae) (σ : Hp) (B : Nat) (M : WM) (p1 : Int32) {r : Int32 × WM} (hr : SA_counted M p1 = r) : MG l g md_SA_counted [.ref B, .int p1] (putW σ B ae M) (rs (some (.int r.1)) (putW σ B ae r.2)) := by
  refine MG.intro (by decide +kernel) (Nat.le_of_ble_eq_true rfl) (fun X hx hR _ => ?_)
  unfold SA_counted at hr
  refine g_ls [0, 1] [(0, .ref B), (1, .int p1)] rfl ?_
  refine g_aload_n hx 0 (i := 0) 0 dX10_counted_0 rfl rfl ?_
  refine g_get hx 1 (C := RX10) (T := TX10) (N := 11) 2 (.ref (B + 5)) (pW σ B ae M 0 (by decide)) rfl (by decide) rfl fl_X10_21 dX10_counted_1 ?_
  refine g_iload_n hx 4 (i := 1) 1 dX10_counted_4 rfl rfl ?_
  obtain ⟨b_1494, eb_1494, hr⟩ := lt'_e' hr
  have rest : G X (putW σ B ae M) 0 0 13 [(0, .ref B), (1, .int p1)] [.int b_1494, .ref (B + 5)] := by
    refine g_iconst hx 13 (1) dX10_counted_13 rfl ?_
    refine g_callVv hx (k_raise l g (pW_l2 σ B ae M) (by decide) b_1494 1) lk_X10_329 ar_Ln_raise (pW_l2 σ B ae M).1 (T := TX2) (N := 2) rfl (As := [.int b_1494, .int 1]) (rest := []) rfl (Nat.le_of_ble_eq_true rfl) ⟨Nat.le_of_ble_eq_true rfl, Nat.le_of_ble_eq_true rfl⟩ ⟨rfl, rfl⟩ ⟨Nat.zero_le _, Nat.zero_le _⟩ dX10_counted_14 ?_
    refine G.heap (pW_p2 σ B ae M (lnraise (M.2.1 2) b_1494 1)) ?_
    refine g_iload_n hx 17 (i := 1) 1 dX10_counted_17 rfl rfl ?_
    exact g_iret hx hR 18 dX10_counted_18 ⟨by rw [← hr] <;> rfl, by rw [← hr] <;> rfl⟩
  clear hr
  have hr := eb_1494
  refine g_if_lt hx 5 12 dX10_counted_5 (by decide) (fun hc_1493 => ?_) (fun hc_1493 => ?_)
  · have hr := (if_pos hc_1493).symm.trans hr
    refine g_iconst hx 12 (1) dX10_counted_12 rfl ?_
    exact g_nmi hr.symm rest
  · have hr := (if_neg hc_1493).symm.trans hr
    refine g_iconst hx 8 (0) dX10_counted_8 rfl ?_
    refine g_goto hx 9 13 dX10_counted_9 (by decide) ?_
    exact g_nmi hr.symm rest
def SA_settled (M : WM) (p1 : Int32) : Option (Int32 × WM) := if p1 < 0 then (lt' (SA_counted M p1) fun q_1496 => some ((q_1496.1, q_1496.2))) else (Option.bind (Hi_keep M) fun M_1497 => lt' (SA_counted M_1497 p1) fun q_1498 => some ((q_1498.1, q_1498.2)))
set_option maxRecDepth 100000 in
set_option maxHeartbeats 4000000 in
theorem c_SA_settled {ad ae : Nat → Nat} (l : Launch) (g : Gl) (hC : KAll g ad ae) (σ : Hp) (B : Nat) (M : WM) (p1 : Int32) {r : Int32 × WM} (hr : SA_settled M p1 = some r) : MG l g md_SA_settled [.ref B, .int p1] (putW σ B ae M) (rs (some (.int r.1)) (putW σ B ae r.2)) := by
  refine MG.intro (by decide +kernel) (Nat.le_of_ble_eq_true rfl) (fun X hx hR _ => ?_)
  unfold SA_settled at hr
  refine g_ls [0, 1] [(0, .ref B), (1, .int p1)] rfl ?_
  refine g_iload_n hx 0 (i := 1) 1 dX10_settled_0 rfl rfl ?_
  refine g_if_lt hx 1 11 dX10_settled_1 (by decide) (fun hc_1495 => ?_) (fun hc_1495 => ?_)
  · have hr := (if_pos hc_1495).symm.trans hr
    refine g_aload_n hx 11 (i := 0) 0 dX10_settled_11 rfl rfl ?_
    refine g_iload_n hx 12 (i := 1) 1 dX10_settled_12 rfl rfl ?_
    obtain ⟨q_1496, eq_1496, hr⟩ := lt'_e hr
    refine g_callVr hx (c_SA_counted l g hC σ B M p1 eq_1496.symm) lk_X10_323 ar_SA_counted (pW σ B ae M 0 (by decide)) (T := TX10) (N := 11) rfl (As := [.int p1]) (rest := []) rfl (Nat.le_of_ble_eq_true rfl) ⟨Nat.le_of_ble_eq_true rfl, Nat.le_of_ble_eq_true rfl⟩ ⟨rfl, rfl⟩ ⟨Nat.zero_le _, Nat.zero_le _⟩ dX10_settled_13 ?_
    exact g_iret hx hR 16 dX10_settled_16 ⟨by rw [← Option.some.inj hr] <;> rfl, by rw [← Option.some.inj hr] <;> rfl⟩
  · have hr := (if_neg hc_1495).symm.trans hr
    refine g_aload_n hx 4 (i := 0) 0 dX10_settled_4 rfl rfl ?_
    refine g_get hx 5 (C := RX10) (T := TX10) (N := 11) 5 (.ref (B + 15)) (pW σ B ae M 0 (by decide)) rfl (by decide) rfl fl_X10_43 dX10_settled_5 ?_
    obtain ⟨M_1497, eM_1497, hr⟩ := bind_e hr
    refine g_callVv hx (c_Hi_keep l g hC σ B M eM_1497) lk_X10_326 ar_Hi_keep (pW σ B ae M 15 (by decide)) (T := TX1) (N := 3) rfl (As := []) (rest := []) rfl (Nat.le_of_ble_eq_true rfl) ⟨Nat.le_of_ble_eq_true rfl, Nat.le_of_ble_eq_true rfl⟩ ⟨rfl, rfl⟩ ⟨Nat.zero_le _, Nat.zero_le _⟩ dX10_settled_8 ?_
    refine g_aload_n hx 11 (i := 0) 0 dX10_settled_11 rfl rfl ?_
    refine g_iload_n hx 12 (i := 1) 1 dX10_settled_12 rfl rfl ?_
    obtain ⟨q_1498, eq_1498, hr⟩ := lt'_e hr
    refine g_callVr hx (c_SA_counted l g hC σ B M_1497 p1 eq_1498.symm) lk_X10_323 ar_SA_counted (pW σ B ae M_1497 0 (by decide)) (T := TX10) (N := 11) rfl (As := [.int p1]) (rest := []) rfl (Nat.le_of_ble_eq_true rfl) ⟨Nat.le_of_ble_eq_true rfl, Nat.le_of_ble_eq_true rfl⟩ ⟨rfl, rfl⟩ ⟨Nat.zero_le _, Nat.zero_le _⟩ dX10_settled_13 ?_
    exact g_iret hx hR 16 dX10_settled_16 ⟨by rw [← Option.some.inj hr] <;> rfl, by rw [← Option.some.inj hr] <;> rfl⟩
def SA_slip (M : WM) (p1 p2 : Int32) : Option (Nat ⊕ (Int32 × WM)) := if St_hasReader (M.1 9) p1 = 0 then (some (.inl 1)) else (if St_hasFolder (M.1 9) p2 = 0 then (some (.inl 1)) else (Option.bind (Hi_prepare M) fun M_1501 => Option.bind (St_handIn (M_1501.1 9) p1 p2) fun q_1502 => Option.bind (SA_settled (setS M_1501 9 q_1502.2) q_1502.1) fun q_1503 => some (.inr (q_1503.1, q_1503.2))))
set_option maxRecDepth 100000 in
set_option maxHeartbeats 4000000 in
theorem c_SA_slip {ad ae : Nat → Nat} (l : Launch) (g : Gl) (hC : KAll g ad ae) (hl : l.stackTraces = false) (σ : Hp) (B : Nat) (M : WM) (p1 p2 : Int32) {r : Nat ⊕ (Int32 × WM)} (hr : SA_slip M p1 p2 = some r) : VG l g md_SA_slip [.ref B, .int p1, .int p2] (putW σ B ae M) (fun v1 σ1 => ∃ u, r = .inr u ∧ v1 = some (.int u.1) ∧ σ1 = putW σ B ae u.2) (pxW r (putW σ B ae M).2) := by
  refine VG.intro (by decide +kernel) (Nat.le_of_ble_eq_true rfl) (fun X hx hR => ?_)
  unfold SA_slip at hr
  refine g_ls [0, 1, 2] [(0, .ref B), (1, .int p1), (2, .int p2)] rfl ?_
  refine g_aload_n hx 0 (i := 0) 0 dX10_slip_0 rfl rfl ?_
  refine g_get hx 1 (C := RX10) (T := TX10) (N := 11) 6 (.ref (B + 332)) (pW σ B ae M 0 (by decide)) rfl (by decide) rfl fl_X10_50 dX10_slip_1 ?_
  refine g_iload_n hx 4 (i := 1) 1 dX10_slip_4 rfl rfl ?_
  refine g_callVr hx (MG.ar9 (w := M) (c_St_hasReader l g (putW σ B ae M) (B + 332) (M.1 9) p1 rfl)) lk_X10_198 ar_St_hasReader (pW_st9 σ B ae M 0 (by decide)) (T := TX8) (N := 15) rfl (As := [.int p1]) (rest := []) rfl (Nat.le_of_ble_eq_true rfl) ⟨Nat.le_of_ble_eq_true rfl, Nat.le_of_ble_eq_true rfl⟩ ⟨rfl, rfl⟩ ⟨Nat.zero_le _, Nat.zero_le _⟩ dX10_slip_5 ?_
  refine g_if_eq hx 8 22 dX10_slip_8 (by decide) (fun hc_1499 => ?_) (fun hc_1499 => ?_)
  · have hr := (if_pos hc_1499).symm.trans hr
    exact g_throwN hx hR hl 22 (cls := nse) xk_X10_175 xi_nse (hC.1.2.2 _ (List.mem_of_getElem? (i := 8) rfl)) (fun U hU => (hC.2.2.1 U hU).2.1) xo_X10_175_179 (by decide +kernel) (fun U hU => ⟨(hC.2.2.1 U hU).2.2.1, (hC.2.2.1 U hU).2.2.2⟩) dX10_slip_22 dX10_slip_25 dX10_slip_26 dX10_slip_28 dX10_slip_31 (Nat.le_of_ble_eq_true rfl) ⟨Nat.le_of_ble_eq_true rfl, Nat.le_of_ble_eq_true rfl⟩ ⟨Nat.le_of_ble_eq_true rfl, Nat.le_of_ble_eq_true rfl⟩ ⟨Nat.le_of_ble_eq_true rfl, Nat.le_of_ble_eq_true rfl⟩ (fun z => ⟨_, (Option.some.inj hr).symm, rfl, rfl⟩)
  · have hr := (if_neg hc_1499).symm.trans hr
    refine g_aload_n hx 11 (i := 0) 0 dX10_slip_11 rfl rfl ?_
    refine g_get hx 12 (C := RX10) (T := TX10) (N := 11) 6 (.ref (B + 332)) (pW σ B ae M 0 (by decide)) rfl (by decide) rfl fl_X10_50 dX10_slip_12 ?_
    refine g_iload_n hx 15 (i := 2) 2 dX10_slip_15 rfl rfl ?_
    refine g_callVr hx (MG.ar9 (w := M) (c_St_hasFolder l g (putW σ B ae M) (B + 332) (M.1 9) p2 rfl)) lk_X10_171 ar_St_hasFolder (pW_st9 σ B ae M 0 (by decide)) (T := TX8) (N := 15) rfl (As := [.int p2]) (rest := []) rfl (Nat.le_of_ble_eq_true rfl) ⟨Nat.le_of_ble_eq_true rfl, Nat.le_of_ble_eq_true rfl⟩ ⟨rfl, rfl⟩ ⟨Nat.zero_le _, Nat.zero_le _⟩ dX10_slip_16 ?_
    refine g_if_ne hx 19 32 dX10_slip_19 (by decide) (fun hc_1500 => ?_) (fun hc_1500 => ?_)
    · have hr := (if_neg hc_1500).symm.trans hr
      refine g_aload_n hx 32 (i := 0) 0 dX10_slip_32 rfl rfl ?_
      refine g_get hx 33 (C := RX10) (T := TX10) (N := 11) 5 (.ref (B + 15)) (pW σ B ae M 0 (by decide)) rfl (by decide) rfl fl_X10_43 dX10_slip_33 ?_
      refine g_aload_n hx 36 (i := 0) 0 dX10_slip_36 rfl rfl ?_
      refine g_get hx 37 (C := RX10) (T := TX10) (N := 11) 6 (.ref (B + 332)) (pW σ B ae M 0 (by decide)) rfl (by decide) rfl fl_X10_50 dX10_slip_37 ?_
      obtain ⟨M_1501, eM_1501, hr⟩ := bind_e hr
      refine g_callVv hx (c_Hi_prepare l g hC σ B M eM_1501) lk_X10_282 ar_Hi_prepare (pW σ B ae M 15 (by decide)) (T := TX1) (N := 3) rfl (As := [.ref (B + 332)]) (rest := []) rfl (Nat.le_of_ble_eq_true rfl) ⟨Nat.le_of_ble_eq_true rfl, Nat.le_of_ble_eq_true rfl⟩ ⟨rfl, rfl⟩ ⟨Nat.zero_le _, Nat.zero_le _⟩ dX10_slip_40 ?_
      refine g_aload_n hx 43 (i := 0) 0 dX10_slip_43 rfl rfl ?_
      refine g_aload_n hx 44 (i := 0) 0 dX10_slip_44 rfl rfl ?_
      refine g_get hx 45 (C := RX10) (T := TX10) (N := 11) 6 (.ref (B + 332)) (pW σ B ae M_1501 0 (by decide)) rfl (by decide) rfl fl_X10_50 dX10_slip_45 ?_
      refine g_iload_n hx 48 (i := 1) 1 dX10_slip_48 rfl rfl ?_
      refine g_iload_n hx 49 (i := 2) 2 dX10_slip_49 rfl rfl ?_
      obtain ⟨q_1502, eq_1502, hr⟩ := bind_e hr
      refine g_callVr hx (MG.at9 (w := M_1501) (c_St_handIn l g (putW σ B ae M_1501) (B + 332) (M_1501.1 9) p1 p2 eq_1502)) lk_X10_285 ar_St_handIn (pW_st9 σ B ae M_1501 0 (by decide)) (T := TX8) (N := 15) rfl (As := [.int p1, .int p2]) (rest := [.ref B]) rfl (Nat.le_of_ble_eq_true rfl) ⟨Nat.le_of_ble_eq_true rfl, Nat.le_of_ble_eq_true rfl⟩ ⟨rfl, rfl⟩ ⟨Nat.zero_le _, Nat.zero_le _⟩ dX10_slip_50 ?_
      obtain ⟨q_1503, eq_1503, hr⟩ := bind_e hr
      refine g_callVr hx (c_SA_settled l g hC σ B (setS M_1501 9 q_1502.2) q_1502.1 eq_1503) lk_X10_288 ar_SA_settled (pW σ B ae (setS M_1501 9 q_1502.2) 0 (by decide)) (T := TX10) (N := 11) rfl (As := [.int q_1502.1]) (rest := []) rfl (Nat.le_of_ble_eq_true rfl) ⟨Nat.le_of_ble_eq_true rfl, Nat.le_of_ble_eq_true rfl⟩ ⟨rfl, rfl⟩ ⟨Nat.zero_le _, Nat.zero_le _⟩ dX10_slip_53 ?_
      exact g_iretV hx hR 56 dX10_slip_56 ⟨Nat.le_of_ble_eq_true rfl, Nat.le_of_ble_eq_true rfl⟩ ⟨_, (Option.some.inj hr).symm, rfl, rfl⟩
    · have hr := (if_pos hc_1500).symm.trans hr
      exact g_throwN hx hR hl 22 (cls := nse) xk_X10_175 xi_nse (hC.1.2.2 _ (List.mem_of_getElem? (i := 8) rfl)) (fun U hU => (hC.2.2.1 U hU).2.1) xo_X10_175_179 (by decide +kernel) (fun U hU => ⟨(hC.2.2.1 U hU).2.2.1, (hC.2.2.1 U hU).2.2.2⟩) dX10_slip_22 dX10_slip_25 dX10_slip_26 dX10_slip_28 dX10_slip_31 (Nat.le_of_ble_eq_true rfl) ⟨Nat.le_of_ble_eq_true rfl, Nat.le_of_ble_eq_true rfl⟩ ⟨Nat.le_of_ble_eq_true rfl, Nat.le_of_ble_eq_true rfl⟩ ⟨Nat.le_of_ble_eq_true rfl, Nat.le_of_ble_eq_true rfl⟩ (fun z => ⟨_, (Option.some.inj hr).symm, rfl, rfl⟩)
def SA_dropSlip (M : WM) (p1 : Int32) : Option (Int32 × WM) := Option.bind (Hi_prepare M) fun M_1504 => lt' (St_takeAway (M_1504.1 9) p1) fun q_1505 => Option.bind (SA_settled (setS M_1504 9 q_1505.2) q_1505.1) fun q_1506 => some ((q_1506.1, q_1506.2))
set_option maxRecDepth 100000 in
set_option maxHeartbeats 4000000 in
theorem c_SA_dropSlip {ad ae : Nat → Nat} (l : Launch) (g : Gl) (hC : KAll g ad ae) (σ : Hp) (B : Nat) (M : WM) (p1 : Int32) {r : Int32 × WM} (hr : SA_dropSlip M p1 = some r) : MG l g md_SA_dropSlip [.ref B, .int p1] (putW σ B ae M) (rs (some (.int r.1)) (putW σ B ae r.2)) := by
  refine MG.intro (by decide +kernel) (Nat.le_of_ble_eq_true rfl) (fun X hx hR _ => ?_)
  unfold SA_dropSlip at hr
  refine g_ls [0, 1] [(0, .ref B), (1, .int p1)] rfl ?_
  refine g_aload_n hx 0 (i := 0) 0 dX10_dropSlip_0 rfl rfl ?_
  refine g_get hx 1 (C := RX10) (T := TX10) (N := 11) 5 (.ref (B + 15)) (pW σ B ae M 0 (by decide)) rfl (by decide) rfl fl_X10_43 dX10_dropSlip_1 ?_
  refine g_aload_n hx 4 (i := 0) 0 dX10_dropSlip_4 rfl rfl ?_
  refine g_get hx 5 (C := RX10) (T := TX10) (N := 11) 6 (.ref (B + 332)) (pW σ B ae M 0 (by decide)) rfl (by decide) rfl fl_X10_50 dX10_dropSlip_5 ?_
  obtain ⟨M_1504, eM_1504, hr⟩ := bind_e hr
  refine g_callVv hx (c_Hi_prepare l g hC σ B M eM_1504) lk_X10_282 ar_Hi_prepare (pW σ B ae M 15 (by decide)) (T := TX1) (N := 3) rfl (As := [.ref (B + 332)]) (rest := []) rfl (Nat.le_of_ble_eq_true rfl) ⟨Nat.le_of_ble_eq_true rfl, Nat.le_of_ble_eq_true rfl⟩ ⟨rfl, rfl⟩ ⟨Nat.zero_le _, Nat.zero_le _⟩ dX10_dropSlip_8 ?_
  refine g_aload_n hx 11 (i := 0) 0 dX10_dropSlip_11 rfl rfl ?_
  refine g_aload_n hx 12 (i := 0) 0 dX10_dropSlip_12 rfl rfl ?_
  refine g_get hx 13 (C := RX10) (T := TX10) (N := 11) 6 (.ref (B + 332)) (pW σ B ae M_1504 0 (by decide)) rfl (by decide) rfl fl_X10_50 dX10_dropSlip_13 ?_
  refine g_iload_n hx 16 (i := 1) 1 dX10_dropSlip_16 rfl rfl ?_
  obtain ⟨q_1505, eq_1505, hr⟩ := lt'_e hr
  refine g_callVr hx (MG.at9 (w := M_1504) (c_St_takeAway l g (putW σ B ae M_1504) (B + 332) (M_1504.1 9) p1 eq_1505.symm)) lk_X10_291 ar_St_takeAway (pW_st9 σ B ae M_1504 0 (by decide)) (T := TX8) (N := 15) rfl (As := [.int p1]) (rest := [.ref B]) rfl (Nat.le_of_ble_eq_true rfl) ⟨Nat.le_of_ble_eq_true rfl, Nat.le_of_ble_eq_true rfl⟩ ⟨rfl, rfl⟩ ⟨Nat.zero_le _, Nat.zero_le _⟩ dX10_dropSlip_17 ?_
  obtain ⟨q_1506, eq_1506, hr⟩ := bind_e hr
  refine g_callVr hx (c_SA_settled l g hC σ B (setS M_1504 9 q_1505.2) q_1505.1 eq_1506) lk_X10_288 ar_SA_settled (pW σ B ae (setS M_1504 9 q_1505.2) 0 (by decide)) (T := TX10) (N := 11) rfl (As := [.int q_1505.1]) (rest := []) rfl (Nat.le_of_ble_eq_true rfl) ⟨Nat.le_of_ble_eq_true rfl, Nat.le_of_ble_eq_true rfl⟩ ⟨rfl, rfl⟩ ⟨Nat.zero_le _, Nat.zero_le _⟩ dX10_dropSlip_20 ?_
  exact g_iret hx hR 23 dX10_dropSlip_23 ⟨by rw [← Option.some.inj hr] <;> rfl, by rw [← Option.some.inj hr] <;> rfl⟩
def SA_giveBack (M : WM) (p1 : Int32) : Option (Nat ⊕ (Int32 × WM)) := if St_hasFolder (M.1 9) p1 = 0 then (some (.inl 1)) else (Option.bind (Hi_prepare M) fun M_1508 => lt' (St_bringBack (M_1508.1 9) p1) fun q_1509 => Option.bind (SA_settled (setS M_1508 9 q_1509.2) q_1509.1) fun q_1510 => some (.inr (q_1510.1, q_1510.2)))
set_option maxRecDepth 100000 in
set_option maxHeartbeats 4000000 in
theorem c_SA_giveBack {ad ae : Nat → Nat} (l : Launch) (g : Gl) (hC : KAll g ad ae) (hl : l.stackTraces = false) (σ : Hp) (B : Nat) (M : WM) (p1 : Int32) {r : Nat ⊕ (Int32 × WM)} (hr : SA_giveBack M p1 = some r) : VG l g md_SA_giveBack [.ref B, .int p1] (putW σ B ae M) (fun v1 σ1 => ∃ u, r = .inr u ∧ v1 = some (.int u.1) ∧ σ1 = putW σ B ae u.2) (pxW r (putW σ B ae M).2) := by
  refine VG.intro (by decide +kernel) (Nat.le_of_ble_eq_true rfl) (fun X hx hR => ?_)
  unfold SA_giveBack at hr
  refine g_ls [0, 1] [(0, .ref B), (1, .int p1)] rfl ?_
  refine g_aload_n hx 0 (i := 0) 0 dX10_giveBack_0 rfl rfl ?_
  refine g_get hx 1 (C := RX10) (T := TX10) (N := 11) 6 (.ref (B + 332)) (pW σ B ae M 0 (by decide)) rfl (by decide) rfl fl_X10_50 dX10_giveBack_1 ?_
  refine g_iload_n hx 4 (i := 1) 1 dX10_giveBack_4 rfl rfl ?_
  refine g_callVr hx (MG.ar9 (w := M) (c_St_hasFolder l g (putW σ B ae M) (B + 332) (M.1 9) p1 rfl)) lk_X10_171 ar_St_hasFolder (pW_st9 σ B ae M 0 (by decide)) (T := TX8) (N := 15) rfl (As := [.int p1]) (rest := []) rfl (Nat.le_of_ble_eq_true rfl) ⟨Nat.le_of_ble_eq_true rfl, Nat.le_of_ble_eq_true rfl⟩ ⟨rfl, rfl⟩ ⟨Nat.zero_le _, Nat.zero_le _⟩ dX10_giveBack_5 ?_
  refine g_if_ne hx 8 21 dX10_giveBack_8 (by decide) (fun hc_1507 => ?_) (fun hc_1507 => ?_)
  · have hr := (if_neg hc_1507).symm.trans hr
    refine g_aload_n hx 21 (i := 0) 0 dX10_giveBack_21 rfl rfl ?_
    refine g_get hx 22 (C := RX10) (T := TX10) (N := 11) 5 (.ref (B + 15)) (pW σ B ae M 0 (by decide)) rfl (by decide) rfl fl_X10_43 dX10_giveBack_22 ?_
    refine g_aload_n hx 25 (i := 0) 0 dX10_giveBack_25 rfl rfl ?_
    refine g_get hx 26 (C := RX10) (T := TX10) (N := 11) 6 (.ref (B + 332)) (pW σ B ae M 0 (by decide)) rfl (by decide) rfl fl_X10_50 dX10_giveBack_26 ?_
    obtain ⟨M_1508, eM_1508, hr⟩ := bind_e hr
    refine g_callVv hx (c_Hi_prepare l g hC σ B M eM_1508) lk_X10_282 ar_Hi_prepare (pW σ B ae M 15 (by decide)) (T := TX1) (N := 3) rfl (As := [.ref (B + 332)]) (rest := []) rfl (Nat.le_of_ble_eq_true rfl) ⟨Nat.le_of_ble_eq_true rfl, Nat.le_of_ble_eq_true rfl⟩ ⟨rfl, rfl⟩ ⟨Nat.zero_le _, Nat.zero_le _⟩ dX10_giveBack_29 ?_
    refine g_aload_n hx 32 (i := 0) 0 dX10_giveBack_32 rfl rfl ?_
    refine g_aload_n hx 33 (i := 0) 0 dX10_giveBack_33 rfl rfl ?_
    refine g_get hx 34 (C := RX10) (T := TX10) (N := 11) 6 (.ref (B + 332)) (pW σ B ae M_1508 0 (by decide)) rfl (by decide) rfl fl_X10_50 dX10_giveBack_34 ?_
    refine g_iload_n hx 37 (i := 1) 1 dX10_giveBack_37 rfl rfl ?_
    obtain ⟨q_1509, eq_1509, hr⟩ := lt'_e hr
    refine g_callVr hx (MG.at9 (w := M_1508) (c_St_bringBack l g (putW σ B ae M_1508) (B + 332) (M_1508.1 9) p1 eq_1509.symm)) lk_X10_294 ar_St_bringBack (pW_st9 σ B ae M_1508 0 (by decide)) (T := TX8) (N := 15) rfl (As := [.int p1]) (rest := [.ref B]) rfl (Nat.le_of_ble_eq_true rfl) ⟨Nat.le_of_ble_eq_true rfl, Nat.le_of_ble_eq_true rfl⟩ ⟨rfl, rfl⟩ ⟨Nat.zero_le _, Nat.zero_le _⟩ dX10_giveBack_38 ?_
    obtain ⟨q_1510, eq_1510, hr⟩ := bind_e hr
    refine g_callVr hx (c_SA_settled l g hC σ B (setS M_1508 9 q_1509.2) q_1509.1 eq_1510) lk_X10_288 ar_SA_settled (pW σ B ae (setS M_1508 9 q_1509.2) 0 (by decide)) (T := TX10) (N := 11) rfl (As := [.int q_1509.1]) (rest := []) rfl (Nat.le_of_ble_eq_true rfl) ⟨Nat.le_of_ble_eq_true rfl, Nat.le_of_ble_eq_true rfl⟩ ⟨rfl, rfl⟩ ⟨Nat.zero_le _, Nat.zero_le _⟩ dX10_giveBack_41 ?_
    exact g_iretV hx hR 44 dX10_giveBack_44 ⟨Nat.le_of_ble_eq_true rfl, Nat.le_of_ble_eq_true rfl⟩ ⟨_, (Option.some.inj hr).symm, rfl, rfl⟩
  · have hr := (if_pos hc_1507).symm.trans hr
    exact g_throwN hx hR hl 11 (cls := nse) xk_X10_175 xi_nse (hC.1.2.2 _ (List.mem_of_getElem? (i := 3) rfl)) (fun U hU => (hC.2.2.1 U hU).2.1) xo_X10_175_179 (by decide +kernel) (fun U hU => ⟨(hC.2.2.1 U hU).2.2.1, (hC.2.2.1 U hU).2.2.2⟩) dX10_giveBack_11 dX10_giveBack_14 dX10_giveBack_15 dX10_giveBack_17 dX10_giveBack_20 (Nat.le_of_ble_eq_true rfl) ⟨Nat.le_of_ble_eq_true rfl, Nat.le_of_ble_eq_true rfl⟩ ⟨Nat.le_of_ble_eq_true rfl, Nat.le_of_ble_eq_true rfl⟩ ⟨Nat.le_of_ble_eq_true rfl, Nat.le_of_ble_eq_true rfl⟩ (fun z => ⟨_, (Option.some.inj hr).symm, rfl, rfl⟩)
def SA_days (M : WM) (p1 : Int32) : Option (Nat ⊕ (Int32 × WM)) := if p1 < 1 then (some (.inl 0)) else (if p1 ≤ 60 then (Option.bind (Hi_prepare M) fun M_1513 => Option.bind (St_passDays (M_1513.1 9) p1 999) fun q_1514 => Option.bind (SA_settled (setS M_1513 9 q_1514.2) q_1514.1) fun q_1515 => some (.inr (q_1515.1, q_1515.2))) else (some (.inl 0)))
set_option maxRecDepth 100000 in
set_option maxHeartbeats 4000000 in
theorem c_SA_days {ad ae : Nat → Nat} (l : Launch) (g : Gl) (hC : KAll g ad ae) (hl : l.stackTraces = false) (σ : Hp) (B : Nat) (M : WM) (p1 : Int32) {r : Nat ⊕ (Int32 × WM)} (hr : SA_days M p1 = some r) : VG l g md_SA_days [.ref B, .int p1] (putW σ B ae M) (fun v1 σ1 => ∃ u, r = .inr u ∧ v1 = some (.int u.1) ∧ σ1 = putW σ B ae u.2) (pxW r (putW σ B ae M).2) := by
  refine VG.intro (by decide +kernel) (Nat.le_of_ble_eq_true rfl) (fun X hx hR => ?_)
  unfold SA_days at hr
  refine g_ls [0, 1] [(0, .ref B), (1, .int p1)] rfl ?_
  refine g_iload_n hx 0 (i := 1) 1 dX10_days_0 rfl rfl ?_
  refine g_iconst hx 1 (1) dX10_days_1 rfl ?_
  refine g_icmp_lt hx 2 11 dX10_days_2 (by decide) (fun hc_1511 => ?_) (fun hc_1511 => ?_)
  · have hr := (if_pos hc_1511).symm.trans hr
    exact g_throwSW hx hR hl 11 (cls := iae) xk_X10_89 xi_iae (hC.1.2.2 _ (List.mem_of_getElem? (i := 12) rfl)) (fun U hU => (hC.2.2.1 U hU).1) xo_X10_89_93 (by decide +kernel) (fun U hU => ⟨(hC.2.2.1 U hU).2.2.1, (hC.2.2.1 U hU).2.2.2⟩) dX10_days_11 dX10_days_14 dX10_days_15 dX10_days_18 dX10_days_21 (Nat.le_of_ble_eq_true rfl) ⟨Nat.le_of_ble_eq_true rfl, Nat.le_of_ble_eq_true rfl⟩ ⟨Nat.le_of_ble_eq_true rfl, Nat.le_of_ble_eq_true rfl⟩ ⟨Nat.le_of_ble_eq_true rfl, Nat.le_of_ble_eq_true rfl⟩ (fun z => ⟨_, (Option.some.inj hr).symm, rfl, rfl⟩)
  · have hr := (if_neg hc_1511).symm.trans hr
    refine g_iload_n hx 5 (i := 1) 1 dX10_days_5 rfl rfl ?_
    refine g_bipush hx 6 (60) dX10_days_6 rfl ?_
    refine g_icmp_le hx 8 22 dX10_days_8 (by decide) (fun hc_1512 => ?_) (fun hc_1512 => ?_)
    · have hr := (if_pos hc_1512).symm.trans hr
      refine g_aload_n hx 22 (i := 0) 0 dX10_days_22 rfl rfl ?_
      refine g_get hx 23 (C := RX10) (T := TX10) (N := 11) 5 (.ref (B + 15)) (pW σ B ae M 0 (by decide)) rfl (by decide) rfl fl_X10_43 dX10_days_23 ?_
      refine g_aload_n hx 26 (i := 0) 0 dX10_days_26 rfl rfl ?_
      refine g_get hx 27 (C := RX10) (T := TX10) (N := 11) 6 (.ref (B + 332)) (pW σ B ae M 0 (by decide)) rfl (by decide) rfl fl_X10_50 dX10_days_27 ?_
      obtain ⟨M_1513, eM_1513, hr⟩ := bind_e hr
      refine g_callVv hx (c_Hi_prepare l g hC σ B M eM_1513) lk_X10_282 ar_Hi_prepare (pW σ B ae M 15 (by decide)) (T := TX1) (N := 3) rfl (As := [.ref (B + 332)]) (rest := []) rfl (Nat.le_of_ble_eq_true rfl) ⟨Nat.le_of_ble_eq_true rfl, Nat.le_of_ble_eq_true rfl⟩ ⟨rfl, rfl⟩ ⟨Nat.zero_le _, Nat.zero_le _⟩ dX10_days_30 ?_
      refine g_aload_n hx 33 (i := 0) 0 dX10_days_33 rfl rfl ?_
      refine g_aload_n hx 34 (i := 0) 0 dX10_days_34 rfl rfl ?_
      refine g_get hx 35 (C := RX10) (T := TX10) (N := 11) 6 (.ref (B + 332)) (pW σ B ae M_1513 0 (by decide)) rfl (by decide) rfl fl_X10_50 dX10_days_35 ?_
      refine g_iload_n hx 38 (i := 1) 1 dX10_days_38 rfl rfl ?_
      refine g_sipush hx 39 (999) dX10_days_39 rfl ?_
      obtain ⟨q_1514, eq_1514, hr⟩ := bind_e hr
      refine g_callVr hx (MG.at9 (w := M_1513) (c_St_passDays l g (putW σ B ae M_1513) (B + 332) (M_1513.1 9) p1 999 eq_1514)) lk_X10_272 ar_St_passDays (pW_st9 σ B ae M_1513 0 (by decide)) (T := TX8) (N := 15) rfl (As := [.int p1, .int 999]) (rest := [.ref B]) rfl (Nat.le_of_ble_eq_true rfl) ⟨Nat.le_of_ble_eq_true rfl, Nat.le_of_ble_eq_true rfl⟩ ⟨rfl, rfl⟩ ⟨Nat.zero_le _, Nat.zero_le _⟩ dX10_days_42 ?_
      obtain ⟨q_1515, eq_1515, hr⟩ := bind_e hr
      refine g_callVr hx (c_SA_settled l g hC σ B (setS M_1513 9 q_1514.2) q_1514.1 eq_1515) lk_X10_288 ar_SA_settled (pW σ B ae (setS M_1513 9 q_1514.2) 0 (by decide)) (T := TX10) (N := 11) rfl (As := [.int q_1514.1]) (rest := []) rfl (Nat.le_of_ble_eq_true rfl) ⟨Nat.le_of_ble_eq_true rfl, Nat.le_of_ble_eq_true rfl⟩ ⟨rfl, rfl⟩ ⟨Nat.zero_le _, Nat.zero_le _⟩ dX10_days_45 ?_
      exact g_iretV hx hR 48 dX10_days_48 ⟨Nat.le_of_ble_eq_true rfl, Nat.le_of_ble_eq_true rfl⟩ ⟨_, (Option.some.inj hr).symm, rfl, rfl⟩
    · have hr := (if_neg hc_1512).symm.trans hr
      exact g_throwSW hx hR hl 11 (cls := iae) xk_X10_89 xi_iae (hC.1.2.2 _ (List.mem_of_getElem? (i := 12) rfl)) (fun U hU => (hC.2.2.1 U hU).1) xo_X10_89_93 (by decide +kernel) (fun U hU => ⟨(hC.2.2.1 U hU).2.2.1, (hC.2.2.1 U hU).2.2.2⟩) dX10_days_11 dX10_days_14 dX10_days_15 dX10_days_18 dX10_days_21 (Nat.le_of_ble_eq_true rfl) ⟨Nat.le_of_ble_eq_true rfl, Nat.le_of_ble_eq_true rfl⟩ ⟨Nat.le_of_ble_eq_true rfl, Nat.le_of_ble_eq_true rfl⟩ ⟨Nat.le_of_ble_eq_true rfl, Nat.le_of_ble_eq_true rfl⟩ (fun z => ⟨_, (Option.some.inj hr).symm, rfl, rfl⟩)
def SA_misfile (M : WM) (p1 p2 : Int32) : Option (Nat ⊕ (Int32 × WM)) := if St_hasFolder (M.1 9) p1 = 0 then (some (.inl 1)) else (Option.bind (Hi_prepare M) fun M_1517 => lt' (Rw_moveTo (M_1517.1 9) p1 p2) fun q_1518 => Option.bind (SA_settled (setS M_1517 9 q_1518.2) q_1518.1) fun q_1519 => some (.inr (q_1519.1, q_1519.2)))
set_option maxRecDepth 100000 in
set_option maxHeartbeats 4000000 in
theorem c_SA_misfile {ad ae : Nat → Nat} (l : Launch) (g : Gl) (hC : KAll g ad ae) (hl : l.stackTraces = false) (σ : Hp) (B : Nat) (M : WM) (p1 p2 : Int32) {r : Nat ⊕ (Int32 × WM)} (hr : SA_misfile M p1 p2 = some r) : VG l g md_SA_misfile [.ref B, .int p1, .int p2] (putW σ B ae M) (fun v1 σ1 => ∃ u, r = .inr u ∧ v1 = some (.int u.1) ∧ σ1 = putW σ B ae u.2) (pxW r (putW σ B ae M).2) := by
  refine VG.intro (by decide +kernel) (Nat.le_of_ble_eq_true rfl) (fun X hx hR => ?_)
  unfold SA_misfile at hr
  refine g_ls [0, 1, 2] [(0, .ref B), (1, .int p1), (2, .int p2)] rfl ?_
  refine g_aload_n hx 0 (i := 0) 0 dX10_misfile_0 rfl rfl ?_
  refine g_get hx 1 (C := RX10) (T := TX10) (N := 11) 6 (.ref (B + 332)) (pW σ B ae M 0 (by decide)) rfl (by decide) rfl fl_X10_50 dX10_misfile_1 ?_
  refine g_iload_n hx 4 (i := 1) 1 dX10_misfile_4 rfl rfl ?_
  refine g_callVr hx (MG.ar9 (w := M) (c_St_hasFolder l g (putW σ B ae M) (B + 332) (M.1 9) p1 rfl)) lk_X10_171 ar_St_hasFolder (pW_st9 σ B ae M 0 (by decide)) (T := TX8) (N := 15) rfl (As := [.int p1]) (rest := []) rfl (Nat.le_of_ble_eq_true rfl) ⟨Nat.le_of_ble_eq_true rfl, Nat.le_of_ble_eq_true rfl⟩ ⟨rfl, rfl⟩ ⟨Nat.zero_le _, Nat.zero_le _⟩ dX10_misfile_5 ?_
  refine g_if_ne hx 8 21 dX10_misfile_8 (by decide) (fun hc_1516 => ?_) (fun hc_1516 => ?_)
  · have hr := (if_neg hc_1516).symm.trans hr
    refine g_aload_n hx 21 (i := 0) 0 dX10_misfile_21 rfl rfl ?_
    refine g_get hx 22 (C := RX10) (T := TX10) (N := 11) 5 (.ref (B + 15)) (pW σ B ae M 0 (by decide)) rfl (by decide) rfl fl_X10_43 dX10_misfile_22 ?_
    refine g_aload_n hx 25 (i := 0) 0 dX10_misfile_25 rfl rfl ?_
    refine g_get hx 26 (C := RX10) (T := TX10) (N := 11) 6 (.ref (B + 332)) (pW σ B ae M 0 (by decide)) rfl (by decide) rfl fl_X10_50 dX10_misfile_26 ?_
    obtain ⟨M_1517, eM_1517, hr⟩ := bind_e hr
    refine g_callVv hx (c_Hi_prepare l g hC σ B M eM_1517) lk_X10_282 ar_Hi_prepare (pW σ B ae M 15 (by decide)) (T := TX1) (N := 3) rfl (As := [.ref (B + 332)]) (rest := []) rfl (Nat.le_of_ble_eq_true rfl) ⟨Nat.le_of_ble_eq_true rfl, Nat.le_of_ble_eq_true rfl⟩ ⟨rfl, rfl⟩ ⟨Nat.zero_le _, Nat.zero_le _⟩ dX10_misfile_29 ?_
    refine g_aload_n hx 32 (i := 0) 0 dX10_misfile_32 rfl rfl ?_
    refine g_aload_n hx 33 (i := 0) 0 dX10_misfile_33 rfl rfl ?_
    refine g_get hx 34 (C := RX10) (T := TX10) (N := 11) 6 (.ref (B + 332)) (pW σ B ae M_1517 0 (by decide)) rfl (by decide) rfl fl_X10_50 dX10_misfile_34 ?_
    refine g_get hx 37 (C := RX8) (T := TX8) (N := 15) 11 (.ref (B + 332 + 15)) (pW_st9 σ B ae M_1517 0 (by decide)) rfl (by decide) rfl fl_X10_129 dX10_misfile_37 ?_
    refine g_iload_n hx 40 (i := 1) 1 dX10_misfile_40 rfl rfl ?_
    refine g_iload_n hx 41 (i := 2) 2 dX10_misfile_41 rfl rfl ?_
    obtain ⟨q_1518, eq_1518, hr⟩ := lt'_e hr
    refine g_callVr hx (MG.at9 (w := M_1517) (c_Rw_moveTo l g (putW σ B ae M_1517) (B + 332) (M_1517.1 9) p1 p2 eq_1518.symm)) lk_X10_299 ar_Rw_moveTo (pW_st9 σ B ae M_1517 15 (by decide)) (T := TX5) (N := 4) rfl (As := [.int p1, .int p2]) (rest := [.ref B]) rfl (Nat.le_of_ble_eq_true rfl) ⟨Nat.le_of_ble_eq_true rfl, Nat.le_of_ble_eq_true rfl⟩ ⟨rfl, rfl⟩ ⟨Nat.zero_le _, Nat.zero_le _⟩ dX10_misfile_42 ?_
    obtain ⟨q_1519, eq_1519, hr⟩ := bind_e hr
    refine g_callVr hx (c_SA_settled l g hC σ B (setS M_1517 9 q_1518.2) q_1518.1 eq_1519) lk_X10_288 ar_SA_settled (pW σ B ae (setS M_1517 9 q_1518.2) 0 (by decide)) (T := TX10) (N := 11) rfl (As := [.int q_1518.1]) (rest := []) rfl (Nat.le_of_ble_eq_true rfl) ⟨Nat.le_of_ble_eq_true rfl, Nat.le_of_ble_eq_true rfl⟩ ⟨rfl, rfl⟩ ⟨Nat.zero_le _, Nat.zero_le _⟩ dX10_misfile_45 ?_
    exact g_iretV hx hR 48 dX10_misfile_48 ⟨Nat.le_of_ble_eq_true rfl, Nat.le_of_ble_eq_true rfl⟩ ⟨_, (Option.some.inj hr).symm, rfl, rfl⟩
  · have hr := (if_pos hc_1516).symm.trans hr
    exact g_throwN hx hR hl 11 (cls := nse) xk_X10_175 xi_nse (hC.1.2.2 _ (List.mem_of_getElem? (i := 3) rfl)) (fun U hU => (hC.2.2.1 U hU).2.1) xo_X10_175_179 (by decide +kernel) (fun U hU => ⟨(hC.2.2.1 U hU).2.2.1, (hC.2.2.1 U hU).2.2.2⟩) dX10_misfile_11 dX10_misfile_14 dX10_misfile_15 dX10_misfile_17 dX10_misfile_20 (Nat.le_of_ble_eq_true rfl) ⟨Nat.le_of_ble_eq_true rfl, Nat.le_of_ble_eq_true rfl⟩ ⟨Nat.le_of_ble_eq_true rfl, Nat.le_of_ble_eq_true rfl⟩ ⟨Nat.le_of_ble_eq_true rfl, Nat.le_of_ble_eq_true rfl⟩ (fun z => ⟨_, (Option.some.inj hr).symm, rfl, rfl⟩)
def SA_straighten (M : WM) (p1 : Int32) : Option (Nat ⊕ (Int32 × WM)) := if St_hasFolder (M.1 9) p1 = 0 then (some (.inl 1)) else (Option.bind (Hi_prepare M) fun M_1521 => Option.bind (Rw_moveToOrder (M_1521.1 9) p1) fun q_1522 => Option.bind (SA_settled (setS M_1521 9 q_1522.2) q_1522.1) fun q_1523 => some (.inr (q_1523.1, q_1523.2)))
set_option maxRecDepth 100000 in
set_option maxHeartbeats 4000000 in
theorem c_SA_straighten {ad ae : Nat → Nat} (l : Launch) (g : Gl) (hC : KAll g ad ae) (hl : l.stackTraces = false) (σ : Hp) (B : Nat) (M : WM) (p1 : Int32) {r : Nat ⊕ (Int32 × WM)} (hr : SA_straighten M p1 = some r) : VG l g md_SA_straighten [.ref B, .int p1] (putW σ B ae M) (fun v1 σ1 => ∃ u, r = .inr u ∧ v1 = some (.int u.1) ∧ σ1 = putW σ B ae u.2) (pxW r (putW σ B ae M).2) := by
  refine VG.intro (by decide +kernel) (Nat.le_of_ble_eq_true rfl) (fun X hx hR => ?_)
  unfold SA_straighten at hr
  refine g_ls [0, 1] [(0, .ref B), (1, .int p1)] rfl ?_
  refine g_aload_n hx 0 (i := 0) 0 dX10_straighten_0 rfl rfl ?_
  refine g_get hx 1 (C := RX10) (T := TX10) (N := 11) 6 (.ref (B + 332)) (pW σ B ae M 0 (by decide)) rfl (by decide) rfl fl_X10_50 dX10_straighten_1 ?_
  refine g_iload_n hx 4 (i := 1) 1 dX10_straighten_4 rfl rfl ?_
  refine g_callVr hx (MG.ar9 (w := M) (c_St_hasFolder l g (putW σ B ae M) (B + 332) (M.1 9) p1 rfl)) lk_X10_171 ar_St_hasFolder (pW_st9 σ B ae M 0 (by decide)) (T := TX8) (N := 15) rfl (As := [.int p1]) (rest := []) rfl (Nat.le_of_ble_eq_true rfl) ⟨Nat.le_of_ble_eq_true rfl, Nat.le_of_ble_eq_true rfl⟩ ⟨rfl, rfl⟩ ⟨Nat.zero_le _, Nat.zero_le _⟩ dX10_straighten_5 ?_
  refine g_if_ne hx 8 21 dX10_straighten_8 (by decide) (fun hc_1520 => ?_) (fun hc_1520 => ?_)
  · have hr := (if_neg hc_1520).symm.trans hr
    refine g_aload_n hx 21 (i := 0) 0 dX10_straighten_21 rfl rfl ?_
    refine g_get hx 22 (C := RX10) (T := TX10) (N := 11) 5 (.ref (B + 15)) (pW σ B ae M 0 (by decide)) rfl (by decide) rfl fl_X10_43 dX10_straighten_22 ?_
    refine g_aload_n hx 25 (i := 0) 0 dX10_straighten_25 rfl rfl ?_
    refine g_get hx 26 (C := RX10) (T := TX10) (N := 11) 6 (.ref (B + 332)) (pW σ B ae M 0 (by decide)) rfl (by decide) rfl fl_X10_50 dX10_straighten_26 ?_
    obtain ⟨M_1521, eM_1521, hr⟩ := bind_e hr
    refine g_callVv hx (c_Hi_prepare l g hC σ B M eM_1521) lk_X10_282 ar_Hi_prepare (pW σ B ae M 15 (by decide)) (T := TX1) (N := 3) rfl (As := [.ref (B + 332)]) (rest := []) rfl (Nat.le_of_ble_eq_true rfl) ⟨Nat.le_of_ble_eq_true rfl, Nat.le_of_ble_eq_true rfl⟩ ⟨rfl, rfl⟩ ⟨Nat.zero_le _, Nat.zero_le _⟩ dX10_straighten_29 ?_
    refine g_aload_n hx 32 (i := 0) 0 dX10_straighten_32 rfl rfl ?_
    refine g_aload_n hx 33 (i := 0) 0 dX10_straighten_33 rfl rfl ?_
    refine g_get hx 34 (C := RX10) (T := TX10) (N := 11) 6 (.ref (B + 332)) (pW σ B ae M_1521 0 (by decide)) rfl (by decide) rfl fl_X10_50 dX10_straighten_34 ?_
    refine g_get hx 37 (C := RX8) (T := TX8) (N := 15) 11 (.ref (B + 332 + 15)) (pW_st9 σ B ae M_1521 0 (by decide)) rfl (by decide) rfl fl_X10_129 dX10_straighten_37 ?_
    refine g_iload_n hx 40 (i := 1) 1 dX10_straighten_40 rfl rfl ?_
    obtain ⟨q_1522, eq_1522, hr⟩ := bind_e hr
    refine g_callVr hx (MG.at9 (w := M_1521) (c_Rw_moveToOrder l g (putW σ B ae M_1521) (B + 332) (M_1521.1 9) p1 eq_1522)) lk_X10_302 ar_Rw_moveToOrder (pW_st9 σ B ae M_1521 15 (by decide)) (T := TX5) (N := 4) rfl (As := [.int p1]) (rest := [.ref B]) rfl (Nat.le_of_ble_eq_true rfl) ⟨Nat.le_of_ble_eq_true rfl, Nat.le_of_ble_eq_true rfl⟩ ⟨rfl, rfl⟩ ⟨Nat.zero_le _, Nat.zero_le _⟩ dX10_straighten_41 ?_
    obtain ⟨q_1523, eq_1523, hr⟩ := bind_e hr
    refine g_callVr hx (c_SA_settled l g hC σ B (setS M_1521 9 q_1522.2) q_1522.1 eq_1523) lk_X10_288 ar_SA_settled (pW σ B ae (setS M_1521 9 q_1522.2) 0 (by decide)) (T := TX10) (N := 11) rfl (As := [.int q_1522.1]) (rest := []) rfl (Nat.le_of_ble_eq_true rfl) ⟨Nat.le_of_ble_eq_true rfl, Nat.le_of_ble_eq_true rfl⟩ ⟨rfl, rfl⟩ ⟨Nat.zero_le _, Nat.zero_le _⟩ dX10_straighten_44 ?_
    exact g_iretV hx hR 47 dX10_straighten_47 ⟨Nat.le_of_ble_eq_true rfl, Nat.le_of_ble_eq_true rfl⟩ ⟨_, (Option.some.inj hr).symm, rfl, rfl⟩
  · have hr := (if_pos hc_1520).symm.trans hr
    exact g_throwN hx hR hl 11 (cls := nse) xk_X10_175 xi_nse (hC.1.2.2 _ (List.mem_of_getElem? (i := 3) rfl)) (fun U hU => (hC.2.2.1 U hU).2.1) xo_X10_175_179 (by decide +kernel) (fun U hU => ⟨(hC.2.2.1 U hU).2.2.1, (hC.2.2.1 U hU).2.2.2⟩) dX10_straighten_11 dX10_straighten_14 dX10_straighten_15 dX10_straighten_17 dX10_straighten_20 (Nat.le_of_ble_eq_true rfl) ⟨Nat.le_of_ble_eq_true rfl, Nat.le_of_ble_eq_true rfl⟩ ⟨Nat.le_of_ble_eq_true rfl, Nat.le_of_ble_eq_true rfl⟩ ⟨Nat.le_of_ble_eq_true rfl, Nat.le_of_ble_eq_true rfl⟩ (fun z => ⟨_, (Option.some.inj hr).symm, rfl, rfl⟩)
def SA_check (M : WM) (p1 : Int32) : Option (Nat ⊕ (Int32 × WM)) := if p1 < 1 then (some (.inl 0)) else (if p1 ≤ 99 then (Option.bind (Hi_prepare M) fun M_1526 => Option.bind (St_swapNeighbours (M_1526.1 9) p1) fun q_1527 => Option.bind (SA_settled (setS M_1526 9 q_1527.2) q_1527.1) fun q_1528 => some (.inr (q_1528.1, q_1528.2))) else (some (.inl 0)))
set_option maxRecDepth 100000 in
set_option maxHeartbeats 4000000 in
theorem c_SA_check {ad ae : Nat → Nat} (l : Launch) (g : Gl) (hC : KAll g ad ae) (hl : l.stackTraces = false) (σ : Hp) (B : Nat) (M : WM) (p1 : Int32) {r : Nat ⊕ (Int32 × WM)} (hr : SA_check M p1 = some r) : VG l g md_SA_check [.ref B, .int p1] (putW σ B ae M) (fun v1 σ1 => ∃ u, r = .inr u ∧ v1 = some (.int u.1) ∧ σ1 = putW σ B ae u.2) (pxW r (putW σ B ae M).2) := by
  refine VG.intro (by decide +kernel) (Nat.le_of_ble_eq_true rfl) (fun X hx hR => ?_)
  unfold SA_check at hr
  refine g_ls [0, 1] [(0, .ref B), (1, .int p1)] rfl ?_
  refine g_iload_n hx 0 (i := 1) 1 dX10_check_0 rfl rfl ?_
  refine g_iconst hx 1 (1) dX10_check_1 rfl ?_
  refine g_icmp_lt hx 2 11 dX10_check_2 (by decide) (fun hc_1524 => ?_) (fun hc_1524 => ?_)
  · have hr := (if_pos hc_1524).symm.trans hr
    exact g_throwSW hx hR hl 11 (cls := iae) xk_X10_89 xi_iae (hC.1.2.2 _ (List.mem_of_getElem? (i := 13) rfl)) (fun U hU => (hC.2.2.1 U hU).1) xo_X10_89_93 (by decide +kernel) (fun U hU => ⟨(hC.2.2.1 U hU).2.2.1, (hC.2.2.1 U hU).2.2.2⟩) dX10_check_11 dX10_check_14 dX10_check_15 dX10_check_18 dX10_check_21 (Nat.le_of_ble_eq_true rfl) ⟨Nat.le_of_ble_eq_true rfl, Nat.le_of_ble_eq_true rfl⟩ ⟨Nat.le_of_ble_eq_true rfl, Nat.le_of_ble_eq_true rfl⟩ ⟨Nat.le_of_ble_eq_true rfl, Nat.le_of_ble_eq_true rfl⟩ (fun z => ⟨_, (Option.some.inj hr).symm, rfl, rfl⟩)
  · have hr := (if_neg hc_1524).symm.trans hr
    refine g_iload_n hx 5 (i := 1) 1 dX10_check_5 rfl rfl ?_
    refine g_bipush hx 6 (99) dX10_check_6 rfl ?_
    refine g_icmp_le hx 8 22 dX10_check_8 (by decide) (fun hc_1525 => ?_) (fun hc_1525 => ?_)
    · have hr := (if_pos hc_1525).symm.trans hr
      refine g_aload_n hx 22 (i := 0) 0 dX10_check_22 rfl rfl ?_
      refine g_get hx 23 (C := RX10) (T := TX10) (N := 11) 5 (.ref (B + 15)) (pW σ B ae M 0 (by decide)) rfl (by decide) rfl fl_X10_43 dX10_check_23 ?_
      refine g_aload_n hx 26 (i := 0) 0 dX10_check_26 rfl rfl ?_
      refine g_get hx 27 (C := RX10) (T := TX10) (N := 11) 6 (.ref (B + 332)) (pW σ B ae M 0 (by decide)) rfl (by decide) rfl fl_X10_50 dX10_check_27 ?_
      obtain ⟨M_1526, eM_1526, hr⟩ := bind_e hr
      refine g_callVv hx (c_Hi_prepare l g hC σ B M eM_1526) lk_X10_282 ar_Hi_prepare (pW σ B ae M 15 (by decide)) (T := TX1) (N := 3) rfl (As := [.ref (B + 332)]) (rest := []) rfl (Nat.le_of_ble_eq_true rfl) ⟨Nat.le_of_ble_eq_true rfl, Nat.le_of_ble_eq_true rfl⟩ ⟨rfl, rfl⟩ ⟨Nat.zero_le _, Nat.zero_le _⟩ dX10_check_30 ?_
      refine g_aload_n hx 33 (i := 0) 0 dX10_check_33 rfl rfl ?_
      refine g_aload_n hx 34 (i := 0) 0 dX10_check_34 rfl rfl ?_
      refine g_get hx 35 (C := RX10) (T := TX10) (N := 11) 6 (.ref (B + 332)) (pW σ B ae M_1526 0 (by decide)) rfl (by decide) rfl fl_X10_50 dX10_check_35 ?_
      refine g_iload_n hx 38 (i := 1) 1 dX10_check_38 rfl rfl ?_
      obtain ⟨q_1527, eq_1527, hr⟩ := bind_e hr
      refine g_callVr hx (MG.at9 (w := M_1526) (c_St_swapNeighbours l g (putW σ B ae M_1526) (B + 332) (M_1526.1 9) p1 eq_1527)) lk_X10_307 ar_St_swapNeighbours (pW_st9 σ B ae M_1526 0 (by decide)) (T := TX8) (N := 15) rfl (As := [.int p1]) (rest := [.ref B]) rfl (Nat.le_of_ble_eq_true rfl) ⟨Nat.le_of_ble_eq_true rfl, Nat.le_of_ble_eq_true rfl⟩ ⟨rfl, rfl⟩ ⟨Nat.zero_le _, Nat.zero_le _⟩ dX10_check_39 ?_
      obtain ⟨q_1528, eq_1528, hr⟩ := bind_e hr
      refine g_callVr hx (c_SA_settled l g hC σ B (setS M_1526 9 q_1527.2) q_1527.1 eq_1528) lk_X10_288 ar_SA_settled (pW σ B ae (setS M_1526 9 q_1527.2) 0 (by decide)) (T := TX10) (N := 11) rfl (As := [.int q_1527.1]) (rest := []) rfl (Nat.le_of_ble_eq_true rfl) ⟨Nat.le_of_ble_eq_true rfl, Nat.le_of_ble_eq_true rfl⟩ ⟨rfl, rfl⟩ ⟨Nat.zero_le _, Nat.zero_le _⟩ dX10_check_42 ?_
      exact g_iretV hx hR 45 dX10_check_45 ⟨Nat.le_of_ble_eq_true rfl, Nat.le_of_ble_eq_true rfl⟩ ⟨_, (Option.some.inj hr).symm, rfl, rfl⟩
    · have hr := (if_neg hc_1525).symm.trans hr
      exact g_throwSW hx hR hl 11 (cls := iae) xk_X10_89 xi_iae (hC.1.2.2 _ (List.mem_of_getElem? (i := 13) rfl)) (fun U hU => (hC.2.2.1 U hU).1) xo_X10_89_93 (by decide +kernel) (fun U hU => ⟨(hC.2.2.1 U hU).2.2.1, (hC.2.2.1 U hU).2.2.2⟩) dX10_check_11 dX10_check_14 dX10_check_15 dX10_check_18 dX10_check_21 (Nat.le_of_ble_eq_true rfl) ⟨Nat.le_of_ble_eq_true rfl, Nat.le_of_ble_eq_true rfl⟩ ⟨Nat.le_of_ble_eq_true rfl, Nat.le_of_ble_eq_true rfl⟩ ⟨Nat.le_of_ble_eq_true rfl, Nat.le_of_ble_eq_true rfl⟩ (fun z => ⟨_, (Option.some.inj hr).symm, rfl, rfl⟩)
def SA_setEmbargo (M : WM) (p1 p2 : Int32) : Option (Nat ⊕ (Int32 × WM)) := if St_hasFolder (M.1 9) p1 = 0 then (some (.inl 1)) else (if p2 < 0 then (some (.inl 0)) else (if p2 ≤ 999 then (Option.bind (Hi_prepare M) fun M_1532 => lt' (St_closeUntil (M_1532.1 9) p1 p2) fun q_1533 => Option.bind (SA_settled (setS M_1532 9 q_1533.2) q_1533.1) fun q_1534 => some (.inr (q_1534.1, q_1534.2))) else (some (.inl 0))))
set_option maxRecDepth 100000 in
set_option maxHeartbeats 4000000 in
theorem c_SA_setEmbargo {ad ae : Nat → Nat} (l : Launch) (g : Gl) (hC : KAll g ad ae) (hl : l.stackTraces = false) (σ : Hp) (B : Nat) (M : WM) (p1 p2 : Int32) {r : Nat ⊕ (Int32 × WM)} (hr : SA_setEmbargo M p1 p2 = some r) : VG l g md_SA_setEmbargo [.ref B, .int p1, .int p2] (putW σ B ae M) (fun v1 σ1 => ∃ u, r = .inr u ∧ v1 = some (.int u.1) ∧ σ1 = putW σ B ae u.2) (pxW r (putW σ B ae M).2) := by
  refine VG.intro (by decide +kernel) (Nat.le_of_ble_eq_true rfl) (fun X hx hR => ?_)
  unfold SA_setEmbargo at hr
  refine g_ls [0, 1, 2] [(0, .ref B), (1, .int p1), (2, .int p2)] rfl ?_
  refine g_aload_n hx 0 (i := 0) 0 dX10_setEmbargo_0 rfl rfl ?_
  refine g_get hx 1 (C := RX10) (T := TX10) (N := 11) 6 (.ref (B + 332)) (pW σ B ae M 0 (by decide)) rfl (by decide) rfl fl_X10_50 dX10_setEmbargo_1 ?_
  refine g_iload_n hx 4 (i := 1) 1 dX10_setEmbargo_4 rfl rfl ?_
  refine g_callVr hx (MG.ar9 (w := M) (c_St_hasFolder l g (putW σ B ae M) (B + 332) (M.1 9) p1 rfl)) lk_X10_171 ar_St_hasFolder (pW_st9 σ B ae M 0 (by decide)) (T := TX8) (N := 15) rfl (As := [.int p1]) (rest := []) rfl (Nat.le_of_ble_eq_true rfl) ⟨Nat.le_of_ble_eq_true rfl, Nat.le_of_ble_eq_true rfl⟩ ⟨rfl, rfl⟩ ⟨Nat.zero_le _, Nat.zero_le _⟩ dX10_setEmbargo_5 ?_
  refine g_if_ne hx 8 21 dX10_setEmbargo_8 (by decide) (fun hc_1529 => ?_) (fun hc_1529 => ?_)
  · have hr := (if_neg hc_1529).symm.trans hr
    refine g_iload_n hx 21 (i := 2) 2 dX10_setEmbargo_21 rfl rfl ?_
    refine g_if_lt hx 22 32 dX10_setEmbargo_22 (by decide) (fun hc_1530 => ?_) (fun hc_1530 => ?_)
    · have hr := (if_pos hc_1530).symm.trans hr
      exact g_throwSW hx hR hl 32 (cls := iae) xk_X10_89 xi_iae (hC.1.2.2 _ (List.mem_of_getElem? (i := 14) rfl)) (fun U hU => (hC.2.2.1 U hU).1) xo_X10_89_93 (by decide +kernel) (fun U hU => ⟨(hC.2.2.1 U hU).2.2.1, (hC.2.2.1 U hU).2.2.2⟩) dX10_setEmbargo_32 dX10_setEmbargo_35 dX10_setEmbargo_36 dX10_setEmbargo_39 dX10_setEmbargo_42 (Nat.le_of_ble_eq_true rfl) ⟨Nat.le_of_ble_eq_true rfl, Nat.le_of_ble_eq_true rfl⟩ ⟨Nat.le_of_ble_eq_true rfl, Nat.le_of_ble_eq_true rfl⟩ ⟨Nat.le_of_ble_eq_true rfl, Nat.le_of_ble_eq_true rfl⟩ (fun z => ⟨_, (Option.some.inj hr).symm, rfl, rfl⟩)
    · have hr := (if_neg hc_1530).symm.trans hr
      refine g_iload_n hx 25 (i := 2) 2 dX10_setEmbargo_25 rfl rfl ?_
      refine g_sipush hx 26 (999) dX10_setEmbargo_26 rfl ?_
      refine g_icmp_le hx 29 43 dX10_setEmbargo_29 (by decide) (fun hc_1531 => ?_) (fun hc_1531 => ?_)
      · have hr := (if_pos hc_1531).symm.trans hr
        refine g_aload_n hx 43 (i := 0) 0 dX10_setEmbargo_43 rfl rfl ?_
        refine g_get hx 44 (C := RX10) (T := TX10) (N := 11) 5 (.ref (B + 15)) (pW σ B ae M 0 (by decide)) rfl (by decide) rfl fl_X10_43 dX10_setEmbargo_44 ?_
        refine g_aload_n hx 47 (i := 0) 0 dX10_setEmbargo_47 rfl rfl ?_
        refine g_get hx 48 (C := RX10) (T := TX10) (N := 11) 6 (.ref (B + 332)) (pW σ B ae M 0 (by decide)) rfl (by decide) rfl fl_X10_50 dX10_setEmbargo_48 ?_
        obtain ⟨M_1532, eM_1532, hr⟩ := bind_e hr
        refine g_callVv hx (c_Hi_prepare l g hC σ B M eM_1532) lk_X10_282 ar_Hi_prepare (pW σ B ae M 15 (by decide)) (T := TX1) (N := 3) rfl (As := [.ref (B + 332)]) (rest := []) rfl (Nat.le_of_ble_eq_true rfl) ⟨Nat.le_of_ble_eq_true rfl, Nat.le_of_ble_eq_true rfl⟩ ⟨rfl, rfl⟩ ⟨Nat.zero_le _, Nat.zero_le _⟩ dX10_setEmbargo_51 ?_
        refine g_aload_n hx 54 (i := 0) 0 dX10_setEmbargo_54 rfl rfl ?_
        refine g_aload_n hx 55 (i := 0) 0 dX10_setEmbargo_55 rfl rfl ?_
        refine g_get hx 56 (C := RX10) (T := TX10) (N := 11) 6 (.ref (B + 332)) (pW σ B ae M_1532 0 (by decide)) rfl (by decide) rfl fl_X10_50 dX10_setEmbargo_56 ?_
        refine g_iload_n hx 59 (i := 1) 1 dX10_setEmbargo_59 rfl rfl ?_
        refine g_iload_n hx 60 (i := 2) 2 dX10_setEmbargo_60 rfl rfl ?_
        obtain ⟨q_1533, eq_1533, hr⟩ := lt'_e hr
        refine g_callVr hx (MG.at9 (w := M_1532) (c_St_closeUntil l g (putW σ B ae M_1532) (B + 332) (M_1532.1 9) p1 p2 eq_1533.symm)) lk_X10_312 ar_St_closeUntil (pW_st9 σ B ae M_1532 0 (by decide)) (T := TX8) (N := 15) rfl (As := [.int p1, .int p2]) (rest := [.ref B]) rfl (Nat.le_of_ble_eq_true rfl) ⟨Nat.le_of_ble_eq_true rfl, Nat.le_of_ble_eq_true rfl⟩ ⟨rfl, rfl⟩ ⟨Nat.zero_le _, Nat.zero_le _⟩ dX10_setEmbargo_61 ?_
        obtain ⟨q_1534, eq_1534, hr⟩ := bind_e hr
        refine g_callVr hx (c_SA_settled l g hC σ B (setS M_1532 9 q_1533.2) q_1533.1 eq_1534) lk_X10_288 ar_SA_settled (pW σ B ae (setS M_1532 9 q_1533.2) 0 (by decide)) (T := TX10) (N := 11) rfl (As := [.int q_1533.1]) (rest := []) rfl (Nat.le_of_ble_eq_true rfl) ⟨Nat.le_of_ble_eq_true rfl, Nat.le_of_ble_eq_true rfl⟩ ⟨rfl, rfl⟩ ⟨Nat.zero_le _, Nat.zero_le _⟩ dX10_setEmbargo_64 ?_
        exact g_iretV hx hR 67 dX10_setEmbargo_67 ⟨Nat.le_of_ble_eq_true rfl, Nat.le_of_ble_eq_true rfl⟩ ⟨_, (Option.some.inj hr).symm, rfl, rfl⟩
      · have hr := (if_neg hc_1531).symm.trans hr
        exact g_throwSW hx hR hl 32 (cls := iae) xk_X10_89 xi_iae (hC.1.2.2 _ (List.mem_of_getElem? (i := 14) rfl)) (fun U hU => (hC.2.2.1 U hU).1) xo_X10_89_93 (by decide +kernel) (fun U hU => ⟨(hC.2.2.1 U hU).2.2.1, (hC.2.2.1 U hU).2.2.2⟩) dX10_setEmbargo_32 dX10_setEmbargo_35 dX10_setEmbargo_36 dX10_setEmbargo_39 dX10_setEmbargo_42 (Nat.le_of_ble_eq_true rfl) ⟨Nat.le_of_ble_eq_true rfl, Nat.le_of_ble_eq_true rfl⟩ ⟨Nat.le_of_ble_eq_true rfl, Nat.le_of_ble_eq_true rfl⟩ ⟨Nat.le_of_ble_eq_true rfl, Nat.le_of_ble_eq_true rfl⟩ (fun z => ⟨_, (Option.some.inj hr).symm, rfl, rfl⟩)
  · have hr := (if_pos hc_1529).symm.trans hr
    exact g_throwN hx hR hl 11 (cls := nse) xk_X10_175 xi_nse (hC.1.2.2 _ (List.mem_of_getElem? (i := 3) rfl)) (fun U hU => (hC.2.2.1 U hU).2.1) xo_X10_175_179 (by decide +kernel) (fun U hU => ⟨(hC.2.2.1 U hU).2.2.1, (hC.2.2.1 U hU).2.2.2⟩) dX10_setEmbargo_11 dX10_setEmbargo_14 dX10_setEmbargo_15 dX10_setEmbargo_17 dX10_setEmbargo_20 (Nat.le_of_ble_eq_true rfl) ⟨Nat.le_of_ble_eq_true rfl, Nat.le_of_ble_eq_true rfl⟩ ⟨Nat.le_of_ble_eq_true rfl, Nat.le_of_ble_eq_true rfl⟩ ⟨Nat.le_of_ble_eq_true rfl, Nat.le_of_ble_eq_true rfl⟩ (fun z => ⟨_, (Option.some.inj hr).symm, rfl, rfl⟩)
def SA_answerOf (M : WM) (p1 : Int32) : Option (Int32 × WM) := Option.bind (Sc_order M p1) fun q_1535 => oc (q_1535) (some (((-1), M))) (fun o_1537 => if o_1537 < 7 then (lt' (lnget (M.2.1 3) p1) fun v3_1539 => lt' (lnget (M.2.1 4) p1) fun v4_1540 => if nI (o_1537 + 1) = 1 then (Option.bind (St_handIn (M.1 9) v3_1539 (lnpl ((M.1 9).2 0) v4_1540)) fun q_1542 => some ((q_1542.1, setS M 9 q_1542.2))) else (if nI (o_1537 + 1) = 2 then (lt' (St_takeAway (M.1 9) v3_1539) fun q_1544 => some ((q_1544.1, setS M 9 q_1544.2))) else (if nI (o_1537 + 1) = 3 then (lt' (St_bringBack (M.1 9) (lnpl ((M.1 9).2 0) v3_1539)) fun q_1546 => some ((q_1546.1, setS M 9 q_1546.2))) else (if nI (o_1537 + 1) = 4 then (Option.bind (St_passDays (M.1 9) v3_1539 999) fun q_1548 => some ((q_1548.1, setS M 9 q_1548.2))) else (if nI (o_1537 + 1) = 5 then (lt' (Rw_moveTo (M.1 9) (lnpl ((M.1 9).2 0) v3_1539) v4_1540) fun q_1550 => some ((q_1550.1, setS M 9 q_1550.2))) else (if nI (o_1537 + 1) = 6 then (Option.bind (St_swapNeighbours (M.1 9) v3_1539) fun q_1552 => some ((q_1552.1, setS M 9 q_1552.2))) else (if nI (o_1537 + 1) = 7 then (lt' (St_closeUntil (M.1 9) (lnpl ((M.1 9).2 0) v3_1539) v4_1540) fun q_1554 => some ((q_1554.1, setS M 9 q_1554.2))) else (some (((-1), M)))))))))) else none)
set_option maxRecDepth 100000 in
set_option maxHeartbeats 4000000 in
theorem c_SA_answerOf {ad ae : Nat → Nat} (l : Launch) (g : Gl) (hC : KAll g ad ae) (σ : Hp) (B : Nat) (M : WM) (p1 : Int32) {r : Int32 × WM} (hr : SA_answerOf M p1 = some r) : MG l g md_SA_answerOf [.ref B, .int p1] (putW σ B ae M) (rs (some (.int r.1)) (putW σ B ae r.2)) := by
  refine MG.intro (by decide +kernel) (Nat.le_of_ble_eq_true rfl) (fun X hx hR _ => ?_)
  unfold SA_answerOf at hr
  refine g_ls [0, 1] [(0, .ref B), (1, .int p1)] rfl ?_
  refine g_aload_n hx 0 (i := 0) 0 dX10_answerOf_0 rfl rfl ?_
  refine g_get hx 1 (C := RX10) (T := TX10) (N := 11) 4 (.ref (B + 9)) (pW σ B ae M 0 (by decide)) rfl (by decide) rfl fl_X10_36 dX10_answerOf_1 ?_
  refine g_iload_n hx 4 (i := 1) 1 dX10_answerOf_4 rfl rfl ?_
  obtain ⟨q_1535, eq_1535, hr⟩ := bind_e hr
  refine g_callVr hx (c_Sc_order l g hC σ B M p1 eq_1535) lk_X10_332 ar_Sc_order (pW σ B ae M 9 (by decide)) (T := TX6) (N := 3) rfl (As := [.int p1]) (rest := []) rfl (Nat.le_of_ble_eq_true rfl) ⟨Nat.le_of_ble_eq_true rfl, Nat.le_of_ble_eq_true rfl⟩ ⟨rfl, rfl⟩ ⟨Nat.zero_le _, Nat.zero_le _⟩ dX10_answerOf_5 ?_
  rcases oc_e hr with ⟨ho_1536, hr⟩ | ⟨o_1537, ho_1536, hr⟩
  · rw [ho_1536]
    show G X _ 0 0 8 [(0, .ref B), (1, .int p1)] [.null]
    refine g_astore_nN hx 8 (i := 2) [(2, .null), (0, .ref B), (1, .int p1)] dX10_answerOf_8 rfl (by decide) rfl ?_
    refine g_aload_nN hx 9 (i := 2) 0 dX10_answerOf_9 rfl rfl ?_
    refine g_ifnonnullN hx 10 dX10_answerOf_10 ?_
    refine g_iconst hx 13 (-1) dX10_answerOf_13 rfl ?_
    exact g_iret hx hR 14 dX10_answerOf_14 ⟨by rw [← Option.some.inj hr] <;> rfl, by rw [← Option.some.inj hr] <;> rfl⟩
  · obtain ⟨hl_1538, hr⟩ := ob hr
    rw [ho_1536]
    show G X _ 0 0 8 [(0, .ref B), (1, .int p1)] [.ref (ae o_1537)]
    refine g_astore_n hx 8 (i := 2) [(2, .ref (ae o_1537)), (0, .ref B), (1, .int p1)] dX10_answerOf_8 rfl (by decide) rfl ?_
    refine g_aload_n hx 9 (i := 2) 0 dX10_answerOf_9 rfl rfl ?_
    refine g_ifnonnull hx 10 15 dX10_answerOf_10 (by decide) ?_
    refine g_aload_n hx 15 (i := 0) 1 dX10_answerOf_15 rfl rfl ?_
    refine g_get hx 16 (C := RX10) (T := TX10) (N := 11) 4 (.ref (B + 9)) (pW σ B ae M 0 (by decide)) rfl (by decide) rfl fl_X10_36 dX10_answerOf_16 ?_
    refine g_get hx 19 (C := RX6) (T := TX6) (N := 3) 1 (.ref (B + 11)) (pW σ B ae M 9 (by decide)) rfl (by decide) rfl fl_X10_336 dX10_answerOf_19 ?_
    refine g_iload_n hx 22 (i := 1) 2 dX10_answerOf_22 rfl rfl ?_
    refine g_callVr hx (k_get l g (pW_l3 σ B ae M) (by decide) p1) lk_X10_165 ar_Ln_get (pW_l3 σ B ae M).1 (T := TX2) (N := 2) rfl (As := [.int p1]) (rest := []) rfl (Nat.le_of_ble_eq_true rfl) ⟨Nat.le_of_ble_eq_true rfl, Nat.le_of_ble_eq_true rfl⟩ ⟨rfl, rfl⟩ ⟨Nat.zero_le _, Nat.zero_le _⟩ dX10_answerOf_23 ?_
    obtain ⟨v3_1539, ev3_1539, hr⟩ := lt'_e hr
    refine g_nmi ev3_1539 ?_
    refine g_istore_n hx 26 (i := 3) [(3, .int v3_1539), (2, .ref (ae o_1537)), (0, .ref B), (1, .int p1)] dX10_answerOf_26 rfl (by decide) rfl ?_
    refine g_aload_n hx 27 (i := 0) 2 dX10_answerOf_27 rfl rfl ?_
    refine g_get hx 28 (C := RX10) (T := TX10) (N := 11) 4 (.ref (B + 9)) (pW σ B ae M 0 (by decide)) rfl (by decide) rfl fl_X10_36 dX10_answerOf_28 ?_
    refine g_get hx 31 (C := RX6) (T := TX6) (N := 3) 2 (.ref (B + 13)) (pW σ B ae M 9 (by decide)) rfl (by decide) rfl fl_X10_339 dX10_answerOf_31 ?_
    refine g_iload_n hx 34 (i := 1) 3 dX10_answerOf_34 rfl rfl ?_
    refine g_callVr hx (k_get l g (pW_l4 σ B ae M) (by decide) p1) lk_X10_165 ar_Ln_get (pW_l4 σ B ae M).1 (T := TX2) (N := 2) rfl (As := [.int p1]) (rest := []) rfl (Nat.le_of_ble_eq_true rfl) ⟨Nat.le_of_ble_eq_true rfl, Nat.le_of_ble_eq_true rfl⟩ ⟨rfl, rfl⟩ ⟨Nat.zero_le _, Nat.zero_le _⟩ dX10_answerOf_35 ?_
    obtain ⟨v4_1540, ev4_1540, hr⟩ := lt'_e hr
    refine g_nmi ev4_1540 ?_
    refine g_istore hx 38 (i := 4) [(4, .int v4_1540), (3, .int v3_1539), (2, .ref (ae o_1537)), (0, .ref B), (1, .int p1)] dX10_answerOf_38 (by decide) rfl ?_
    refine g_gets hx 40 (.ref (ae 8)) (fun U hU => (hC.2.1 U hU).2.2.2.1) fs_X10_342 dX10_answerOf_40 ?_
    refine g_aload_n hx 43 (i := 2) 2 dX10_answerOf_43 rfl rfl ?_
    refine g_ordinal hx 44 hl_1538 hC lo_X10_348 ⟨Nat.le_of_ble_eq_true rfl, Nat.le_of_ble_eq_true rfl⟩ ⟨Nat.zero_le _, Nat.zero_le _⟩ (Nat.le_of_ble_eq_true rfl) (rest := [.ref (ae 8)]) dX10_answerOf_44 ?_
    refine g_ti hx 47 (.int (nI (o_1537 + 1))) (fun U hU => (hC.2.1 U hU).2.2.2.2) (vp_in_nI hl_1538 (by decide)) (by rw [nI_clamp (Nat.lt_trans hl_1538 (by decide))]) dX10_answerOf_47 ?_
    by_cases hc_1541 : nI (o_1537 + 1) = 1
    · have hr := (if_pos hc_1541).symm.trans hr
      refine g_tableIn hx 48 92 dX10_answerOf_48 (by rw [hc_1541]; decide) (by rw [hc_1541]; decide) (by rw [hc_1541]; rfl) (by decide) ?_
      refine g_aload_n hx 92 (i := 0) 3 dX10_answerOf_92 rfl rfl ?_
      refine g_get hx 93 (C := RX10) (T := TX10) (N := 11) 6 (.ref (B + 332)) (pW σ B ae M 0 (by decide)) rfl (by decide) rfl fl_X10_50 dX10_answerOf_93 ?_
      refine g_iload_n hx 96 (i := 3) 1 dX10_answerOf_96 rfl rfl ?_
      refine g_aload_n hx 97 (i := 0) 3 dX10_answerOf_97 rfl rfl ?_
      refine g_get hx 98 (C := RX10) (T := TX10) (N := 11) 6 (.ref (B + 332)) (pW σ B ae M 0 (by decide)) rfl (by decide) rfl fl_X10_50 dX10_answerOf_98 ?_
      refine g_get hx 101 (C := RX8) (T := TX8) (N := 15) 4 (.ref (B + 332 + 1)) (pW_st9 σ B ae M 0 (by decide)) rfl (by decide) rfl fl_X10_111 dX10_answerOf_101 ?_
      refine g_iload hx 104 (i := 4) 0 dX10_answerOf_104 rfl ?_
      refine g_callVr hx (k_placeOf l g (st_l0 (pW_st9 σ B ae M)) (by decide) v4_1540) lk_X10_195 ar_Ln_placeOf (st_l0 (pW_st9 σ B ae M)).1 (T := TX2) (N := 2) rfl (As := [.int v4_1540]) (rest := [.int v3_1539, .ref (B + 332)]) rfl (Nat.le_of_ble_eq_true rfl) ⟨Nat.le_of_ble_eq_true rfl, Nat.le_of_ble_eq_true rfl⟩ ⟨rfl, rfl⟩ ⟨Nat.zero_le _, Nat.zero_le _⟩ dX10_answerOf_106 ?_
      obtain ⟨q_1542, eq_1542, hr⟩ := bind_e hr
      refine g_callVr hx (MG.at9 (w := M) (c_St_handIn l g (putW σ B ae M) (B + 332) (M.1 9) v3_1539 (lnpl ((M.1 9).2 0) v4_1540) eq_1542)) lk_X10_285 ar_St_handIn (pW_st9 σ B ae M 0 (by decide)) (T := TX8) (N := 15) rfl (As := [.int v3_1539, .int (lnpl ((M.1 9).2 0) v4_1540)]) (rest := []) rfl (Nat.le_of_ble_eq_true rfl) ⟨Nat.le_of_ble_eq_true rfl, Nat.le_of_ble_eq_true rfl⟩ ⟨rfl, rfl⟩ ⟨Nat.zero_le _, Nat.zero_le _⟩ dX10_answerOf_109 ?_
      exact g_iret hx hR 112 dX10_answerOf_112 ⟨by rw [← Option.some.inj hr] <;> rfl, by rw [← Option.some.inj hr] <;> rfl⟩
    · have hr := (if_neg hc_1541).symm.trans hr
      by_cases hc_1543 : nI (o_1537 + 1) = 2
      · have hr := (if_pos hc_1543).symm.trans hr
        refine g_tableIn hx 48 113 dX10_answerOf_48 (by rw [hc_1543]; decide) (by rw [hc_1543]; decide) (by rw [hc_1543]; rfl) (by decide) ?_
        refine g_aload_n hx 113 (i := 0) 3 dX10_answerOf_113 rfl rfl ?_
        refine g_get hx 114 (C := RX10) (T := TX10) (N := 11) 6 (.ref (B + 332)) (pW σ B ae M 0 (by decide)) rfl (by decide) rfl fl_X10_50 dX10_answerOf_114 ?_
        refine g_iload_n hx 117 (i := 3) 1 dX10_answerOf_117 rfl rfl ?_
        obtain ⟨q_1544, eq_1544, hr⟩ := lt'_e hr
        refine g_callVr hx (MG.at9 (w := M) (c_St_takeAway l g (putW σ B ae M) (B + 332) (M.1 9) v3_1539 eq_1544.symm)) lk_X10_291 ar_St_takeAway (pW_st9 σ B ae M 0 (by decide)) (T := TX8) (N := 15) rfl (As := [.int v3_1539]) (rest := []) rfl (Nat.le_of_ble_eq_true rfl) ⟨Nat.le_of_ble_eq_true rfl, Nat.le_of_ble_eq_true rfl⟩ ⟨rfl, rfl⟩ ⟨Nat.zero_le _, Nat.zero_le _⟩ dX10_answerOf_118 ?_
        exact g_iret hx hR 121 dX10_answerOf_121 ⟨by rw [← Option.some.inj hr] <;> rfl, by rw [← Option.some.inj hr] <;> rfl⟩
      · have hr := (if_neg hc_1543).symm.trans hr
        by_cases hc_1545 : nI (o_1537 + 1) = 3
        · have hr := (if_pos hc_1545).symm.trans hr
          refine g_tableIn hx 48 122 dX10_answerOf_48 (by rw [hc_1545]; decide) (by rw [hc_1545]; decide) (by rw [hc_1545]; rfl) (by decide) ?_
          refine g_aload_n hx 122 (i := 0) 3 dX10_answerOf_122 rfl rfl ?_
          refine g_get hx 123 (C := RX10) (T := TX10) (N := 11) 6 (.ref (B + 332)) (pW σ B ae M 0 (by decide)) rfl (by decide) rfl fl_X10_50 dX10_answerOf_123 ?_
          refine g_aload_n hx 126 (i := 0) 3 dX10_answerOf_126 rfl rfl ?_
          refine g_get hx 127 (C := RX10) (T := TX10) (N := 11) 6 (.ref (B + 332)) (pW σ B ae M 0 (by decide)) rfl (by decide) rfl fl_X10_50 dX10_answerOf_127 ?_
          refine g_get hx 130 (C := RX8) (T := TX8) (N := 15) 4 (.ref (B + 332 + 1)) (pW_st9 σ B ae M 0 (by decide)) rfl (by decide) rfl fl_X10_111 dX10_answerOf_130 ?_
          refine g_iload_n hx 133 (i := 3) 1 dX10_answerOf_133 rfl rfl ?_
          refine g_callVr hx (k_placeOf l g (st_l0 (pW_st9 σ B ae M)) (by decide) v3_1539) lk_X10_195 ar_Ln_placeOf (st_l0 (pW_st9 σ B ae M)).1 (T := TX2) (N := 2) rfl (As := [.int v3_1539]) (rest := [.ref (B + 332)]) rfl (Nat.le_of_ble_eq_true rfl) ⟨Nat.le_of_ble_eq_true rfl, Nat.le_of_ble_eq_true rfl⟩ ⟨rfl, rfl⟩ ⟨Nat.zero_le _, Nat.zero_le _⟩ dX10_answerOf_134 ?_
          obtain ⟨q_1546, eq_1546, hr⟩ := lt'_e hr
          refine g_callVr hx (MG.at9 (w := M) (c_St_bringBack l g (putW σ B ae M) (B + 332) (M.1 9) (lnpl ((M.1 9).2 0) v3_1539) eq_1546.symm)) lk_X10_294 ar_St_bringBack (pW_st9 σ B ae M 0 (by decide)) (T := TX8) (N := 15) rfl (As := [.int (lnpl ((M.1 9).2 0) v3_1539)]) (rest := []) rfl (Nat.le_of_ble_eq_true rfl) ⟨Nat.le_of_ble_eq_true rfl, Nat.le_of_ble_eq_true rfl⟩ ⟨rfl, rfl⟩ ⟨Nat.zero_le _, Nat.zero_le _⟩ dX10_answerOf_137 ?_
          exact g_iret hx hR 140 dX10_answerOf_140 ⟨by rw [← Option.some.inj hr] <;> rfl, by rw [← Option.some.inj hr] <;> rfl⟩
        · have hr := (if_neg hc_1545).symm.trans hr
          by_cases hc_1547 : nI (o_1537 + 1) = 4
          · have hr := (if_pos hc_1547).symm.trans hr
            refine g_tableIn hx 48 141 dX10_answerOf_48 (by rw [hc_1547]; decide) (by rw [hc_1547]; decide) (by rw [hc_1547]; rfl) (by decide) ?_
            refine g_aload_n hx 141 (i := 0) 3 dX10_answerOf_141 rfl rfl ?_
            refine g_get hx 142 (C := RX10) (T := TX10) (N := 11) 6 (.ref (B + 332)) (pW σ B ae M 0 (by decide)) rfl (by decide) rfl fl_X10_50 dX10_answerOf_142 ?_
            refine g_iload_n hx 145 (i := 3) 1 dX10_answerOf_145 rfl rfl ?_
            refine g_sipush hx 146 (999) dX10_answerOf_146 rfl ?_
            obtain ⟨q_1548, eq_1548, hr⟩ := bind_e hr
            refine g_callVr hx (MG.at9 (w := M) (c_St_passDays l g (putW σ B ae M) (B + 332) (M.1 9) v3_1539 999 eq_1548)) lk_X10_272 ar_St_passDays (pW_st9 σ B ae M 0 (by decide)) (T := TX8) (N := 15) rfl (As := [.int v3_1539, .int 999]) (rest := []) rfl (Nat.le_of_ble_eq_true rfl) ⟨Nat.le_of_ble_eq_true rfl, Nat.le_of_ble_eq_true rfl⟩ ⟨rfl, rfl⟩ ⟨Nat.zero_le _, Nat.zero_le _⟩ dX10_answerOf_149 ?_
            exact g_iret hx hR 152 dX10_answerOf_152 ⟨by rw [← Option.some.inj hr] <;> rfl, by rw [← Option.some.inj hr] <;> rfl⟩
          · have hr := (if_neg hc_1547).symm.trans hr
            by_cases hc_1549 : nI (o_1537 + 1) = 5
            · have hr := (if_pos hc_1549).symm.trans hr
              refine g_tableIn hx 48 153 dX10_answerOf_48 (by rw [hc_1549]; decide) (by rw [hc_1549]; decide) (by rw [hc_1549]; rfl) (by decide) ?_
              refine g_aload_n hx 153 (i := 0) 3 dX10_answerOf_153 rfl rfl ?_
              refine g_get hx 154 (C := RX10) (T := TX10) (N := 11) 6 (.ref (B + 332)) (pW σ B ae M 0 (by decide)) rfl (by decide) rfl fl_X10_50 dX10_answerOf_154 ?_
              refine g_get hx 157 (C := RX8) (T := TX8) (N := 15) 11 (.ref (B + 332 + 15)) (pW_st9 σ B ae M 0 (by decide)) rfl (by decide) rfl fl_X10_129 dX10_answerOf_157 ?_
              refine g_aload_n hx 160 (i := 0) 3 dX10_answerOf_160 rfl rfl ?_
              refine g_get hx 161 (C := RX10) (T := TX10) (N := 11) 6 (.ref (B + 332)) (pW σ B ae M 0 (by decide)) rfl (by decide) rfl fl_X10_50 dX10_answerOf_161 ?_
              refine g_get hx 164 (C := RX8) (T := TX8) (N := 15) 4 (.ref (B + 332 + 1)) (pW_st9 σ B ae M 0 (by decide)) rfl (by decide) rfl fl_X10_111 dX10_answerOf_164 ?_
              refine g_iload_n hx 167 (i := 3) 1 dX10_answerOf_167 rfl rfl ?_
              refine g_callVr hx (k_placeOf l g (st_l0 (pW_st9 σ B ae M)) (by decide) v3_1539) lk_X10_195 ar_Ln_placeOf (st_l0 (pW_st9 σ B ae M)).1 (T := TX2) (N := 2) rfl (As := [.int v3_1539]) (rest := [.ref (B + 332 + 15)]) rfl (Nat.le_of_ble_eq_true rfl) ⟨Nat.le_of_ble_eq_true rfl, Nat.le_of_ble_eq_true rfl⟩ ⟨rfl, rfl⟩ ⟨Nat.zero_le _, Nat.zero_le _⟩ dX10_answerOf_168 ?_
              refine g_iload hx 171 (i := 4) 0 dX10_answerOf_171 rfl ?_
              obtain ⟨q_1550, eq_1550, hr⟩ := lt'_e hr
              refine g_callVr hx (MG.at9 (w := M) (c_Rw_moveTo l g (putW σ B ae M) (B + 332) (M.1 9) (lnpl ((M.1 9).2 0) v3_1539) v4_1540 eq_1550.symm)) lk_X10_299 ar_Rw_moveTo (pW_st9 σ B ae M 15 (by decide)) (T := TX5) (N := 4) rfl (As := [.int (lnpl ((M.1 9).2 0) v3_1539), .int v4_1540]) (rest := []) rfl (Nat.le_of_ble_eq_true rfl) ⟨Nat.le_of_ble_eq_true rfl, Nat.le_of_ble_eq_true rfl⟩ ⟨rfl, rfl⟩ ⟨Nat.zero_le _, Nat.zero_le _⟩ dX10_answerOf_173 ?_
              exact g_iret hx hR 176 dX10_answerOf_176 ⟨by rw [← Option.some.inj hr] <;> rfl, by rw [← Option.some.inj hr] <;> rfl⟩
            · have hr := (if_neg hc_1549).symm.trans hr
              by_cases hc_1551 : nI (o_1537 + 1) = 6
              · have hr := (if_pos hc_1551).symm.trans hr
                refine g_tableIn hx 48 177 dX10_answerOf_48 (by rw [hc_1551]; decide) (by rw [hc_1551]; decide) (by rw [hc_1551]; rfl) (by decide) ?_
                refine g_aload_n hx 177 (i := 0) 3 dX10_answerOf_177 rfl rfl ?_
                refine g_get hx 178 (C := RX10) (T := TX10) (N := 11) 6 (.ref (B + 332)) (pW σ B ae M 0 (by decide)) rfl (by decide) rfl fl_X10_50 dX10_answerOf_178 ?_
                refine g_iload_n hx 181 (i := 3) 1 dX10_answerOf_181 rfl rfl ?_
                obtain ⟨q_1552, eq_1552, hr⟩ := bind_e hr
                refine g_callVr hx (MG.at9 (w := M) (c_St_swapNeighbours l g (putW σ B ae M) (B + 332) (M.1 9) v3_1539 eq_1552)) lk_X10_307 ar_St_swapNeighbours (pW_st9 σ B ae M 0 (by decide)) (T := TX8) (N := 15) rfl (As := [.int v3_1539]) (rest := []) rfl (Nat.le_of_ble_eq_true rfl) ⟨Nat.le_of_ble_eq_true rfl, Nat.le_of_ble_eq_true rfl⟩ ⟨rfl, rfl⟩ ⟨Nat.zero_le _, Nat.zero_le _⟩ dX10_answerOf_182 ?_
                exact g_iret hx hR 185 dX10_answerOf_185 ⟨by rw [← Option.some.inj hr] <;> rfl, by rw [← Option.some.inj hr] <;> rfl⟩
              · have hr := (if_neg hc_1551).symm.trans hr
                by_cases hc_1553 : nI (o_1537 + 1) = 7
                · have hr := (if_pos hc_1553).symm.trans hr
                  refine g_tableIn hx 48 186 dX10_answerOf_48 (by rw [hc_1553]; decide) (by rw [hc_1553]; decide) (by rw [hc_1553]; rfl) (by decide) ?_
                  refine g_aload_n hx 186 (i := 0) 3 dX10_answerOf_186 rfl rfl ?_
                  refine g_get hx 187 (C := RX10) (T := TX10) (N := 11) 6 (.ref (B + 332)) (pW σ B ae M 0 (by decide)) rfl (by decide) rfl fl_X10_50 dX10_answerOf_187 ?_
                  refine g_aload_n hx 190 (i := 0) 3 dX10_answerOf_190 rfl rfl ?_
                  refine g_get hx 191 (C := RX10) (T := TX10) (N := 11) 6 (.ref (B + 332)) (pW σ B ae M 0 (by decide)) rfl (by decide) rfl fl_X10_50 dX10_answerOf_191 ?_
                  refine g_get hx 194 (C := RX8) (T := TX8) (N := 15) 4 (.ref (B + 332 + 1)) (pW_st9 σ B ae M 0 (by decide)) rfl (by decide) rfl fl_X10_111 dX10_answerOf_194 ?_
                  refine g_iload_n hx 197 (i := 3) 1 dX10_answerOf_197 rfl rfl ?_
                  refine g_callVr hx (k_placeOf l g (st_l0 (pW_st9 σ B ae M)) (by decide) v3_1539) lk_X10_195 ar_Ln_placeOf (st_l0 (pW_st9 σ B ae M)).1 (T := TX2) (N := 2) rfl (As := [.int v3_1539]) (rest := [.ref (B + 332)]) rfl (Nat.le_of_ble_eq_true rfl) ⟨Nat.le_of_ble_eq_true rfl, Nat.le_of_ble_eq_true rfl⟩ ⟨rfl, rfl⟩ ⟨Nat.zero_le _, Nat.zero_le _⟩ dX10_answerOf_198 ?_
                  refine g_iload hx 201 (i := 4) 0 dX10_answerOf_201 rfl ?_
                  obtain ⟨q_1554, eq_1554, hr⟩ := lt'_e hr
                  refine g_callVr hx (MG.at9 (w := M) (c_St_closeUntil l g (putW σ B ae M) (B + 332) (M.1 9) (lnpl ((M.1 9).2 0) v3_1539) v4_1540 eq_1554.symm)) lk_X10_312 ar_St_closeUntil (pW_st9 σ B ae M 0 (by decide)) (T := TX8) (N := 15) rfl (As := [.int (lnpl ((M.1 9).2 0) v3_1539), .int v4_1540]) (rest := []) rfl (Nat.le_of_ble_eq_true rfl) ⟨Nat.le_of_ble_eq_true rfl, Nat.le_of_ble_eq_true rfl⟩ ⟨rfl, rfl⟩ ⟨Nat.zero_le _, Nat.zero_le _⟩ dX10_answerOf_203 ?_
                  exact g_iret hx hR 206 dX10_answerOf_206 ⟨by rw [← Option.some.inj hr] <;> rfl, by rw [← Option.some.inj hr] <;> rfl⟩
                · have hr := (if_neg hc_1553).symm.trans hr
                  refine g_tableOut hx 48 207 dX10_answerOf_48 (sw_out (fun c h1 h2 hq => by have hc : c = 1 ∨ c = 2 ∨ c = 3 ∨ c = 4 ∨ c = 5 ∨ c = 6 ∨ c = 7 := (by omega); rcases hc with rfl | rfl | rfl | rfl | rfl | rfl | rfl <;> first | exact lv_neT hc_1541 rfl hq | exact lv_neT hc_1543 rfl hq | exact lv_neT hc_1545 rfl hq | exact lv_neT hc_1547 rfl hq | exact lv_neT hc_1549 rfl hq | exact lv_neT hc_1551 rfl hq | exact lv_neT hc_1553 rfl hq)) (by decide) ?_
                  refine g_iconst hx 207 (-1) dX10_answerOf_207 rfl ?_
                  exact g_iret hx hR 208 dX10_answerOf_208 ⟨by rw [← Option.some.inj hr] <;> rfl, by rw [← Option.some.inj hr] <;> rfl⟩
def SA_play_L81 : Nat → WM → Int32 → Int32 → Int32 → Int32 → Option (Nat ⊕ (Int32 × WM))
  | 0, _, _, _, _, _ => none
  | n + 1, M, v1_1561, v2_1562, v3_1563, v4_1564 => if Sc_count M ≤ v4_1564 then (Option.bind (Hi_keep M) fun M_1566 => some (.inr (v3_1563, M_1566))) else (Option.bind (SA_answerOf M v4_1564) fun q_1567 => lt' (SA_counted q_1567.2 q_1567.1) fun q_1568 => if 0 ≤ q_1568.1 then (SA_play_L81 n q_1568.2 v1_1561 v2_1562 (v3_1563 + 1) (v4_1564 + 1)) else (Option.bind (Hi_keep q_1568.2) fun M_1570 => some (.inr (v3_1563, M_1570))))
def SA_play (M : WM) (p1 : Int32) : Option (Nat ⊕ (Int32 × WM)) := if p1 < 0 then (some (.inl 0)) else (if p1 ≤ nI (M.2.1 0).length then (Option.bind (Ps_readScript M p1) fun q_1557 => lt' (q_1557.1) fun v2_1558 => if v2_1558 = 0 then (Option.bind (Hi_prepare (setWI (setWL q_1557.2 0 ([])) 10 (Ps_errorPlace (setWL q_1557.2 0 ([]))))) fun M_1560 => SA_play_L81 FU M_1560 p1 v2_1558 0 0) else (some (.inr ((-10) - v2_1558, setWI (setWL q_1557.2 0 ([])) 10 (Ps_errorPlace (setWL q_1557.2 0 ([]))))))) else (some (.inl 0)))
set_option maxRecDepth 100000 in
set_option maxHeartbeats 4000000 in
theorem w_SA_play_L81 {ad ae : Nat → Nat} {X : Cx} {l : Launch} {g : Gl} (hx : Ok X l g RX10 cX10_play 5 md_SA_play.rm) (hC : KAll g ad ae) (hl : l.stackTraces = false) {σ : Hp} {B : Nat} {M0 : WM} {r : Nat ⊕ (Int32 × WM)} (hR : RetV X (fun v1 σ1 => ∃ u, r = .inr u ∧ v1 = some (.int u.1) ∧ σ1 = putW σ B ae u.2) (pxW r (putW σ B ae M0).2) 1 6 (some .int)) : ∀ (n : Nat) (M : WM) (v1_1561 v2_1562 v3_1563 v4_1564 : Int32), SA_play_L81 n M v1_1561 v2_1562 v3_1563 v4_1564 = some r → G X (putW σ B ae M) 0 0 81 [(0, .ref B), (1, .int v1_1561), (2, .int v2_1562), (3, .int v3_1563), (4, .int v4_1564)] [] := by
  intro n
  induction n with
  | zero =>
    intro M v1_1561 v2_1562 v3_1563 v4_1564 hr
    rw [SA_play_L81] at hr
    cases hr
  | succ n ih =>
    intro M v1_1561 v2_1562 v3_1563 v4_1564 hr
    rw [SA_play_L81] at hr
    refine g_iload hx 81 (i := 4) 4 dX10_play_81 rfl ?_
    refine g_aload_n hx 83 (i := 0) 0 dX10_play_83 rfl rfl ?_
    refine g_get hx 84 (C := RX10) (T := TX10) (N := 11) 4 (.ref (B + 9)) (pW σ B ae M 0 (by decide)) rfl (by decide) rfl fl_X10_36 dX10_play_84 ?_
    refine g_callVr hx (c_Sc_count l g hC σ B M rfl) lk_X10_319 ar_Sc_count (pW σ B ae M 9 (by decide)) (T := TX6) (N := 3) rfl (As := []) (rest := [.int v4_1564]) rfl (Nat.le_of_ble_eq_true rfl) ⟨Nat.le_of_ble_eq_true rfl, Nat.le_of_ble_eq_true rfl⟩ ⟨rfl, rfl⟩ ⟨Nat.zero_le _, Nat.zero_le _⟩ dX10_play_87 ?_
    refine g_icmp_ge hx 90 118 dX10_play_90 (by decide) (fun hc_1565 => ?_) (fun hc_1565 => ?_)
    · have hr := (if_pos hc_1565).symm.trans hr
      refine g_aload_n hx 118 (i := 0) 0 dX10_play_118 rfl rfl ?_
      refine g_get hx 119 (C := RX10) (T := TX10) (N := 11) 5 (.ref (B + 15)) (pW σ B ae M 0 (by decide)) rfl (by decide) rfl fl_X10_43 dX10_play_119 ?_
      obtain ⟨M_1566, eM_1566, hr⟩ := bind_e hr
      refine g_callVv hx (c_Hi_keep l g hC σ B M eM_1566) lk_X10_326 ar_Hi_keep (pW σ B ae M 15 (by decide)) (T := TX1) (N := 3) rfl (As := []) (rest := []) rfl (Nat.le_of_ble_eq_true rfl) ⟨Nat.le_of_ble_eq_true rfl, Nat.le_of_ble_eq_true rfl⟩ ⟨rfl, rfl⟩ ⟨Nat.zero_le _, Nat.zero_le _⟩ dX10_play_122 ?_
      refine g_iload_n hx 125 (i := 3) 3 dX10_play_125 rfl rfl ?_
      exact g_iretV hx hR 126 dX10_play_126 ⟨Nat.le_of_ble_eq_true rfl, Nat.le_of_ble_eq_true rfl⟩ ⟨_, (Option.some.inj hr).symm, rfl, rfl⟩
    · have hr := (if_neg hc_1565).symm.trans hr
      refine g_aload_n hx 93 (i := 0) 0 dX10_play_93 rfl rfl ?_
      refine g_aload_n hx 94 (i := 0) 0 dX10_play_94 rfl rfl ?_
      refine g_iload hx 95 (i := 4) 4 dX10_play_95 rfl ?_
      obtain ⟨q_1567, eq_1567, hr⟩ := bind_e hr
      refine g_callVr hx (c_SA_answerOf l g hC σ B M v4_1564 eq_1567) lk_X10_320 ar_SA_answerOf (pW σ B ae M 0 (by decide)) (T := TX10) (N := 11) rfl (As := [.int v4_1564]) (rest := [.ref B]) rfl (Nat.le_of_ble_eq_true rfl) ⟨Nat.le_of_ble_eq_true rfl, Nat.le_of_ble_eq_true rfl⟩ ⟨rfl, rfl⟩ ⟨Nat.zero_le _, Nat.zero_le _⟩ dX10_play_97 ?_
      obtain ⟨q_1568, eq_1568, hr⟩ := lt'_e hr
      refine g_callVr hx (c_SA_counted l g hC σ B q_1567.2 q_1567.1 eq_1568.symm) lk_X10_323 ar_SA_counted (pW σ B ae q_1567.2 0 (by decide)) (T := TX10) (N := 11) rfl (As := [.int q_1567.1]) (rest := []) rfl (Nat.le_of_ble_eq_true rfl) ⟨Nat.le_of_ble_eq_true rfl, Nat.le_of_ble_eq_true rfl⟩ ⟨rfl, rfl⟩ ⟨Nat.zero_le _, Nat.zero_le _⟩ dX10_play_100 ?_
      refine g_if_ge hx 103 109 dX10_play_103 (by decide) (fun hc_1569 => ?_) (fun hc_1569 => ?_)
      · have hr := (if_pos hc_1569).symm.trans hr
        refine g_iinc hx 109 (i := 3) 3 (v3_1563 + 1) [(3, .int (v3_1563 + 1)), (0, .ref B), (1, .int v1_1561), (2, .int v2_1562), (4, .int v4_1564)] dX10_play_109 rfl rfl (by decide) rfl ?_
        refine g_iinc hx 112 (i := 4) 4 (v4_1564 + 1) [(4, .int (v4_1564 + 1)), (3, .int (v3_1563 + 1)), (0, .ref B), (1, .int v1_1561), (2, .int v2_1562)] dX10_play_112 rfl rfl (by decide) rfl ?_
        refine g_goto hx 115 81 dX10_play_115 (by decide) ?_
        refine g_ls [2, 3, 4, 1, 0] [(0, .ref B), (1, .int v1_1561), (2, .int v2_1562), (3, .int (v3_1563 + 1)), (4, .int (v4_1564 + 1))] rfl ?_
        exact ih q_1568.2 v1_1561 v2_1562 (v3_1563 + 1) (v4_1564 + 1) hr
      · have hr := (if_neg hc_1569).symm.trans hr
        refine g_goto hx 106 118 dX10_play_106 (by decide) ?_
        refine g_aload_n hx 118 (i := 0) 0 dX10_play_118 rfl rfl ?_
        refine g_get hx 119 (C := RX10) (T := TX10) (N := 11) 5 (.ref (B + 15)) (pW σ B ae q_1568.2 0 (by decide)) rfl (by decide) rfl fl_X10_43 dX10_play_119 ?_
        obtain ⟨M_1570, eM_1570, hr⟩ := bind_e hr
        refine g_callVv hx (c_Hi_keep l g hC σ B q_1568.2 eM_1570) lk_X10_326 ar_Hi_keep (pW σ B ae q_1568.2 15 (by decide)) (T := TX1) (N := 3) rfl (As := []) (rest := []) rfl (Nat.le_of_ble_eq_true rfl) ⟨Nat.le_of_ble_eq_true rfl, Nat.le_of_ble_eq_true rfl⟩ ⟨rfl, rfl⟩ ⟨Nat.zero_le _, Nat.zero_le _⟩ dX10_play_122 ?_
        refine g_iload_n hx 125 (i := 3) 3 dX10_play_125 rfl rfl ?_
        exact g_iretV hx hR 126 dX10_play_126 ⟨Nat.le_of_ble_eq_true rfl, Nat.le_of_ble_eq_true rfl⟩ ⟨_, (Option.some.inj hr).symm, rfl, rfl⟩
set_option maxRecDepth 100000 in
set_option maxHeartbeats 4000000 in
theorem c_SA_play {ad ae : Nat → Nat} (l : Launch) (g : Gl) (hC : KAll g ad ae) (hl : l.stackTraces = false) (σ : Hp) (B : Nat) (M : WM) (p1 : Int32) {r : Nat ⊕ (Int32 × WM)} (hr : SA_play M p1 = some r) : VG l g md_SA_play [.ref B, .int p1] (putW σ B ae M) (fun v1 σ1 => ∃ u, r = .inr u ∧ v1 = some (.int u.1) ∧ σ1 = putW σ B ae u.2) (pxW r (putW σ B ae M).2) := by
  refine VG.intro (by decide +kernel) (Nat.le_of_ble_eq_true rfl) (fun X hx hR => ?_)
  unfold SA_play at hr
  refine g_ls [0, 1] [(0, .ref B), (1, .int p1)] rfl ?_
  refine g_iload_n hx 0 (i := 1) 1 dX10_play_0 rfl rfl ?_
  refine g_if_lt hx 1 15 dX10_play_1 (by decide) (fun hc_1555 => ?_) (fun hc_1555 => ?_)
  · have hr := (if_pos hc_1555).symm.trans hr
    exact g_throwS hx hR hl 15 (cls := iae) xk_X10_89 xi_iae (hC.1.2.2 _ (List.mem_of_getElem? (i := 0) rfl)) (fun U hU => (hC.2.2.1 U hU).1) xo_X10_89_93 (by decide +kernel) (fun U hU => ⟨(hC.2.2.1 U hU).2.2.1, (hC.2.2.1 U hU).2.2.2⟩) dX10_play_15 dX10_play_18 dX10_play_19 dX10_play_21 dX10_play_24 (Nat.le_of_ble_eq_true rfl) ⟨Nat.le_of_ble_eq_true rfl, Nat.le_of_ble_eq_true rfl⟩ ⟨Nat.le_of_ble_eq_true rfl, Nat.le_of_ble_eq_true rfl⟩ ⟨Nat.le_of_ble_eq_true rfl, Nat.le_of_ble_eq_true rfl⟩ (fun z => ⟨_, (Option.some.inj hr).symm, rfl, rfl⟩)
  · have hr := (if_neg hc_1555).symm.trans hr
    refine g_iload_n hx 4 (i := 1) 1 dX10_play_4 rfl rfl ?_
    refine g_aload_n hx 5 (i := 0) 0 dX10_play_5 rfl rfl ?_
    refine g_get hx 6 (C := RX10) (T := TX10) (N := 11) 0 (.ref (B + 1)) (pW σ B ae M 0 (by decide)) rfl (by decide) rfl fl_X10_14 dX10_play_6 ?_
    refine g_callVr hx (k_count l g (pW_l0 σ B ae M) (by decide)) lk_X10_79 ar_Ln_count (pW_l0 σ B ae M).1 (T := TX2) (N := 2) rfl (As := []) (rest := [.int p1]) rfl (Nat.le_of_ble_eq_true rfl) ⟨Nat.le_of_ble_eq_true rfl, Nat.le_of_ble_eq_true rfl⟩ ⟨rfl, rfl⟩ ⟨Nat.zero_le _, Nat.zero_le _⟩ dX10_play_9 ?_
    refine g_icmp_le hx 12 25 dX10_play_12 (by decide) (fun hc_1556 => ?_) (fun hc_1556 => ?_)
    · have hr := (if_pos hc_1556).symm.trans hr
      refine g_aload_n hx 25 (i := 0) 0 dX10_play_25 rfl rfl ?_
      refine g_get hx 26 (C := RX10) (T := TX10) (N := 11) 3 (.ref (B + 7)) (pW σ B ae M 0 (by decide)) rfl (by decide) rfl fl_X10_29 dX10_play_26 ?_
      refine g_iload_n hx 29 (i := 1) 1 dX10_play_29 rfl rfl ?_
      refine g_aload_n hx 30 (i := 0) 0 dX10_play_30 rfl rfl ?_
      refine g_get hx 31 (C := RX10) (T := TX10) (N := 11) 4 (.ref (B + 9)) (pW σ B ae M 0 (by decide)) rfl (by decide) rfl fl_X10_36 dX10_play_31 ?_
      obtain ⟨q_1557, eq_1557, hr⟩ := bind_e hr
      refine g_callVr hx (c_Ps_readScript l g hC σ B M p1 eq_1557) lk_X10_315 ar_Ps_readScript (pW σ B ae M 7 (by decide)) (T := TX4) (N := 3) rfl (As := [.int p1, .ref (B + 9)]) (rest := []) rfl (Nat.le_of_ble_eq_true rfl) ⟨Nat.le_of_ble_eq_true rfl, Nat.le_of_ble_eq_true rfl⟩ ⟨rfl, rfl⟩ ⟨Nat.zero_le _, Nat.zero_le _⟩ dX10_play_34 ?_
      obtain ⟨v2_1558, ev2_1558, hr⟩ := lt'_e hr
      refine g_nmi ev2_1558 ?_
      refine g_istore_n hx 37 (i := 2) [(2, .int v2_1558), (0, .ref B), (1, .int p1)] dX10_play_37 rfl (by decide) rfl ?_
      refine g_aload_n hx 38 (i := 0) 1 dX10_play_38 rfl rfl ?_
      refine g_get hx 39 (C := RX10) (T := TX10) (N := 11) 0 (.ref (B + 1)) (pW σ B ae q_1557.2 0 (by decide)) rfl (by decide) rfl fl_X10_14 dX10_play_39 ?_
      refine g_callVv hx (k_clear l g (pW_l0 σ B ae q_1557.2) (by decide)) lk_X10_100 ar_Ln_clear (pW_l0 σ B ae q_1557.2).1 (T := TX2) (N := 2) rfl (As := []) (rest := []) rfl (Nat.le_of_ble_eq_true rfl) ⟨Nat.le_of_ble_eq_true rfl, Nat.le_of_ble_eq_true rfl⟩ ⟨rfl, rfl⟩ ⟨Nat.zero_le _, Nat.zero_le _⟩ dX10_play_42 ?_
      refine G.heap (pW_p0 σ B ae q_1557.2 ([])) ?_
      refine g_aload_n hx 45 (i := 0) 1 dX10_play_45 rfl rfl ?_
      refine g_aload_n hx 46 (i := 0) 1 dX10_play_46 rfl rfl ?_
      refine g_get hx 47 (C := RX10) (T := TX10) (N := 11) 3 (.ref (B + 7)) (pW σ B ae (setWL q_1557.2 0 ([])) 0 (by decide)) rfl (by decide) rfl fl_X10_29 dX10_play_47 ?_
      refine g_callVr hx (c_Ps_errorPlace l g hC σ B (setWL q_1557.2 0 ([])) rfl) lk_X10_103 ar_Ps_errorPlace (pW σ B ae (setWL q_1557.2 0 ([])) 7 (by decide)) (T := TX4) (N := 3) rfl (As := []) (rest := [.ref B]) rfl (Nat.le_of_ble_eq_true rfl) ⟨Nat.le_of_ble_eq_true rfl, Nat.le_of_ble_eq_true rfl⟩ ⟨rfl, rfl⟩ ⟨Nat.zero_le _, Nat.zero_le _⟩ dX10_play_50 ?_
      refine g_put hx 53 (C := RX10) (T := TX10) (N := 11) 10 .int _ (pW σ B ae (setWL q_1557.2 0 ([])) 0 (by decide)) rfl (by decide) fl_X10_64 rfl rfl rfl rfl (Nat.le_of_ble_eq_true rfl) rfl dX10_play_53 ?_
      refine G.heap (pW_i10 σ B ae (setWL q_1557.2 0 ([])) (Ps_errorPlace (setWL q_1557.2 0 ([])))) ?_
      refine g_iload_n hx 56 (i := 2) 0 dX10_play_56 rfl rfl ?_
      refine g_if_eq hx 57 65 dX10_play_57 (by decide) (fun hc_1559 => ?_) (fun hc_1559 => ?_)
      · have hr := (if_pos hc_1559).symm.trans hr
        refine g_aload_n hx 65 (i := 0) 1 dX10_play_65 rfl rfl ?_
        refine g_get hx 66 (C := RX10) (T := TX10) (N := 11) 5 (.ref (B + 15)) (pW σ B ae (setWI (setWL q_1557.2 0 ([])) 10 (Ps_errorPlace (setWL q_1557.2 0 ([])))) 0 (by decide)) rfl (by decide) rfl fl_X10_43 dX10_play_66 ?_
        refine g_aload_n hx 69 (i := 0) 1 dX10_play_69 rfl rfl ?_
        refine g_get hx 70 (C := RX10) (T := TX10) (N := 11) 6 (.ref (B + 332)) (pW σ B ae (setWI (setWL q_1557.2 0 ([])) 10 (Ps_errorPlace (setWL q_1557.2 0 ([])))) 0 (by decide)) rfl (by decide) rfl fl_X10_50 dX10_play_70 ?_
        obtain ⟨M_1560, eM_1560, hr⟩ := bind_e hr
        refine g_callVv hx (c_Hi_prepare l g hC σ B (setWI (setWL q_1557.2 0 ([])) 10 (Ps_errorPlace (setWL q_1557.2 0 ([])))) eM_1560) lk_X10_282 ar_Hi_prepare (pW σ B ae (setWI (setWL q_1557.2 0 ([])) 10 (Ps_errorPlace (setWL q_1557.2 0 ([])))) 15 (by decide)) (T := TX1) (N := 3) rfl (As := [.ref (B + 332)]) (rest := []) rfl (Nat.le_of_ble_eq_true rfl) ⟨Nat.le_of_ble_eq_true rfl, Nat.le_of_ble_eq_true rfl⟩ ⟨rfl, rfl⟩ ⟨Nat.zero_le _, Nat.zero_le _⟩ dX10_play_73 ?_
        refine g_iconst hx 76 (0) dX10_play_76 rfl ?_
        refine g_istore_n hx 77 (i := 3) [(3, .int 0), (2, .int v2_1558), (0, .ref B), (1, .int p1)] dX10_play_77 rfl (by decide) rfl ?_
        refine g_iconst hx 78 (0) dX10_play_78 rfl ?_
        refine g_istore hx 79 (i := 4) [(4, .int 0), (3, .int 0), (2, .int v2_1558), (0, .ref B), (1, .int p1)] dX10_play_79 (by decide) rfl ?_
        refine g_ls [3, 4, 2, 1, 0] [(0, .ref B), (1, .int p1), (2, .int v2_1558), (3, .int 0), (4, .int 0)] rfl ?_
        exact w_SA_play_L81 hx hC hl hR FU M_1560 p1 v2_1558 0 0 hr
      · have hr := (if_neg hc_1559).symm.trans hr
        refine g_bipush hx 60 (-10) dX10_play_60 rfl ?_
        refine g_iload_n hx 62 (i := 2) 0 dX10_play_62 rfl rfl ?_
        refine g_isub hx 63 dX10_play_63 ?_
        exact g_iretV hx hR 64 dX10_play_64 ⟨Nat.le_of_ble_eq_true rfl, Nat.le_of_ble_eq_true rfl⟩ ⟨_, (Option.some.inj hr).symm, rfl, rfl⟩
    · have hr := (if_neg hc_1556).symm.trans hr
      exact g_throwS hx hR hl 15 (cls := iae) xk_X10_89 xi_iae (hC.1.2.2 _ (List.mem_of_getElem? (i := 0) rfl)) (fun U hU => (hC.2.2.1 U hU).1) xo_X10_89_93 (by decide +kernel) (fun U hU => ⟨(hC.2.2.1 U hU).2.2.1, (hC.2.2.1 U hU).2.2.2⟩) dX10_play_15 dX10_play_18 dX10_play_19 dX10_play_21 dX10_play_24 (Nat.le_of_ble_eq_true rfl) ⟨Nat.le_of_ble_eq_true rfl, Nat.le_of_ble_eq_true rfl⟩ ⟨Nat.le_of_ble_eq_true rfl, Nat.le_of_ble_eq_true rfl⟩ ⟨Nat.le_of_ble_eq_true rfl, Nat.le_of_ble_eq_true rfl⟩ (fun z => ⟨_, (Option.some.inj hr).symm, rfl, rfl⟩)
def SA_appendNumber_L4 : Nat → WM → Int32 → Int32 → Option (WM)
  | 0, _, _, _ => none
  | n + 1, M, v1_1571, v2_1572 => if v2_1572 ≤ 0 then (some (M)) else (if v2_1572 ≤ v1_1571 then (lt' (v2_1572 / 10) fun v2_1575 => SA_appendNumber_L4 n (setWL M 1 (lnadd 128 (M.2.1 1) (48 + ((v1_1571 / v2_1572) - (v1_1571 / v2_1572) / 10 * 10)))) v1_1571 v2_1575) else (if v2_1572 = 1 then (lt' (v2_1572 / 10) fun v2_1577 => SA_appendNumber_L4 n (setWL M 1 (lnadd 128 (M.2.1 1) (48 + ((v1_1571 / v2_1572) - (v1_1571 / v2_1572) / 10 * 10)))) v1_1571 v2_1577) else (lt' (v2_1572 / 10) fun v2_1578 => SA_appendNumber_L4 n M v1_1571 v2_1578)))
def SA_appendNumber (M : WM) (p1 : Int32) : Option (WM) := SA_appendNumber_L4 FU M p1 1000
set_option maxRecDepth 100000 in
set_option maxHeartbeats 4000000 in
theorem w_SA_appendNumber_L4 {ad ae : Nat → Nat} {X : Cx} {l : Launch} {g : Gl} (hx : Ok X l g RX10 cX10_appendNumber 3 md_SA_appendNumber.rm) (hC : KAll g ad ae) {σ : Hp} {B : Nat} {r : WM} (hR : Ret X (rs none (putW σ B ae r)) 0 0 (none)) : ∀ (n : Nat) (M : WM) (v1_1571 v2_1572 : Int32), SA_appendNumber_L4 n M v1_1571 v2_1572 = some r → G X (putW σ B ae M) 0 0 4 [(0, .ref B), (1, .int v1_1571), (2, .int v2_1572)] [] := by
  intro n
  induction n with
  | zero =>
    intro M v1_1571 v2_1572 hr
    rw [SA_appendNumber_L4] at hr
    cases hr
  | succ n ih =>
    intro M v1_1571 v2_1572 hr
    rw [SA_appendNumber_L4] at hr
    refine g_iload_n hx 4 (i := 2) 2 dX10_appendNumber_4 rfl rfl ?_
    refine g_if_le hx 5 42 dX10_appendNumber_5 (by decide) (fun hc_1573 => ?_) (fun hc_1573 => ?_)
    · have hr := (if_pos hc_1573).symm.trans hr
      exact g_vret hx hR 42 dX10_appendNumber_42 ⟨rfl, by rw [← Option.some.inj hr] <;> rfl⟩
    · have hr := (if_neg hc_1573).symm.trans hr
      refine g_iload_n hx 8 (i := 1) 1 dX10_appendNumber_8 rfl rfl ?_
      refine g_iload_n hx 9 (i := 2) 2 dX10_appendNumber_9 rfl rfl ?_
      refine g_icmp_ge hx 10 18 dX10_appendNumber_10 (by decide) (fun hc_1574 => ?_) (fun hc_1574 => ?_)
      · have hr := (if_pos hc_1574).symm.trans hr
        refine g_aload_n hx 18 (i := 0) 0 dX10_appendNumber_18 rfl rfl ?_
        refine g_get hx 19 (C := RX10) (T := TX10) (N := 11) 1 (.ref (B + 3)) (pW σ B ae M 0 (by decide)) rfl (by decide) rfl fl_X10_18 dX10_appendNumber_19 ?_
        refine g_bipush hx 22 (48) dX10_appendNumber_22 rfl ?_
        refine g_iload_n hx 24 (i := 1) 1 dX10_appendNumber_24 rfl rfl ?_
        refine g_iload_n hx 25 (i := 2) 2 dX10_appendNumber_25 rfl rfl ?_
        refine g_idiv hx 26 dX10_appendNumber_26 (fun h0 => hc_1573 (by rw [h0]; decide)) ?_
        refine g_bipush hx 27 (10) dX10_appendNumber_27 rfl ?_
        refine g_irem hx 29 dX10_appendNumber_29 (by decide) ?_
        refine g_iadd hx 30 dX10_appendNumber_30 ?_
        refine g_callVv hx (k_add l g (pW_l1 σ B ae M) (by decide) (48 + ((v1_1571 / v2_1572) - (v1_1571 / v2_1572) / 10 * 10))) lk_X10_86 ar_Ln_add (pW_l1 σ B ae M).1 (T := TX2) (N := 2) rfl (As := [.int (48 + ((v1_1571 / v2_1572) - (v1_1571 / v2_1572) / 10 * 10))]) (rest := []) rfl (Nat.le_of_ble_eq_true rfl) ⟨Nat.le_of_ble_eq_true rfl, Nat.le_of_ble_eq_true rfl⟩ ⟨rfl, rfl⟩ ⟨Nat.zero_le _, Nat.zero_le _⟩ dX10_appendNumber_31 ?_
        refine G.heap (pW_p1 σ B ae M (lnadd 128 (M.2.1 1) (48 + ((v1_1571 / v2_1572) - (v1_1571 / v2_1572) / 10 * 10)))) ?_
        refine g_iload_n hx 34 (i := 2) 2 dX10_appendNumber_34 rfl rfl ?_
        refine g_bipush hx 35 (10) dX10_appendNumber_35 rfl ?_
        refine g_idiv hx 37 dX10_appendNumber_37 (by decide) ?_
        obtain ⟨v2_1575, ev2_1575, hr⟩ := lt'_e hr
        refine g_nmi ev2_1575 ?_
        refine g_istore_n hx 38 (i := 2) [(2, .int v2_1575), (0, .ref B), (1, .int v1_1571)] dX10_appendNumber_38 rfl (by decide) rfl ?_
        refine g_goto hx 39 4 dX10_appendNumber_39 (by decide) ?_
        refine g_ls [1, 2, 0] [(0, .ref B), (1, .int v1_1571), (2, .int v2_1575)] rfl ?_
        exact ih (setWL M 1 (lnadd 128 (M.2.1 1) (48 + ((v1_1571 / v2_1572) - (v1_1571 / v2_1572) / 10 * 10)))) v1_1571 v2_1575 hr
      · have hr := (if_neg hc_1574).symm.trans hr
        refine g_iload_n hx 13 (i := 2) 2 dX10_appendNumber_13 rfl rfl ?_
        refine g_iconst hx 14 (1) dX10_appendNumber_14 rfl ?_
        refine g_icmp_ne hx 15 34 dX10_appendNumber_15 (by decide) (fun hc_1576 => ?_) (fun hc_1576 => ?_)
        · have hr := (if_neg hc_1576).symm.trans hr
          refine g_iload_n hx 34 (i := 2) 2 dX10_appendNumber_34 rfl rfl ?_
          refine g_bipush hx 35 (10) dX10_appendNumber_35 rfl ?_
          refine g_idiv hx 37 dX10_appendNumber_37 (by decide) ?_
          obtain ⟨v2_1578, ev2_1578, hr⟩ := lt'_e hr
          refine g_nmi ev2_1578 ?_
          refine g_istore_n hx 38 (i := 2) [(2, .int v2_1578), (0, .ref B), (1, .int v1_1571)] dX10_appendNumber_38 rfl (by decide) rfl ?_
          refine g_goto hx 39 4 dX10_appendNumber_39 (by decide) ?_
          refine g_ls [1, 2, 0] [(0, .ref B), (1, .int v1_1571), (2, .int v2_1578)] rfl ?_
          exact ih M v1_1571 v2_1578 hr
        · have hr := (if_pos hc_1576).symm.trans hr
          refine g_aload_n hx 18 (i := 0) 0 dX10_appendNumber_18 rfl rfl ?_
          refine g_get hx 19 (C := RX10) (T := TX10) (N := 11) 1 (.ref (B + 3)) (pW σ B ae M 0 (by decide)) rfl (by decide) rfl fl_X10_18 dX10_appendNumber_19 ?_
          refine g_bipush hx 22 (48) dX10_appendNumber_22 rfl ?_
          refine g_iload_n hx 24 (i := 1) 1 dX10_appendNumber_24 rfl rfl ?_
          refine g_iload_n hx 25 (i := 2) 2 dX10_appendNumber_25 rfl rfl ?_
          refine g_idiv hx 26 dX10_appendNumber_26 (fun h0 => hc_1573 (by rw [h0]; decide)) ?_
          refine g_bipush hx 27 (10) dX10_appendNumber_27 rfl ?_
          refine g_irem hx 29 dX10_appendNumber_29 (by decide) ?_
          refine g_iadd hx 30 dX10_appendNumber_30 ?_
          refine g_callVv hx (k_add l g (pW_l1 σ B ae M) (by decide) (48 + ((v1_1571 / v2_1572) - (v1_1571 / v2_1572) / 10 * 10))) lk_X10_86 ar_Ln_add (pW_l1 σ B ae M).1 (T := TX2) (N := 2) rfl (As := [.int (48 + ((v1_1571 / v2_1572) - (v1_1571 / v2_1572) / 10 * 10))]) (rest := []) rfl (Nat.le_of_ble_eq_true rfl) ⟨Nat.le_of_ble_eq_true rfl, Nat.le_of_ble_eq_true rfl⟩ ⟨rfl, rfl⟩ ⟨Nat.zero_le _, Nat.zero_le _⟩ dX10_appendNumber_31 ?_
          refine G.heap (pW_p1 σ B ae M (lnadd 128 (M.2.1 1) (48 + ((v1_1571 / v2_1572) - (v1_1571 / v2_1572) / 10 * 10)))) ?_
          refine g_iload_n hx 34 (i := 2) 2 dX10_appendNumber_34 rfl rfl ?_
          refine g_bipush hx 35 (10) dX10_appendNumber_35 rfl ?_
          refine g_idiv hx 37 dX10_appendNumber_37 (by decide) ?_
          obtain ⟨v2_1577, ev2_1577, hr⟩ := lt'_e hr
          refine g_nmi ev2_1577 ?_
          refine g_istore_n hx 38 (i := 2) [(2, .int v2_1577), (0, .ref B), (1, .int v1_1571)] dX10_appendNumber_38 rfl (by decide) rfl ?_
          refine g_goto hx 39 4 dX10_appendNumber_39 (by decide) ?_
          refine g_ls [1, 2, 0] [(0, .ref B), (1, .int v1_1571), (2, .int v2_1577)] rfl ?_
          exact ih (setWL M 1 (lnadd 128 (M.2.1 1) (48 + ((v1_1571 / v2_1572) - (v1_1571 / v2_1572) / 10 * 10)))) v1_1571 v2_1577 hr
set_option maxRecDepth 100000 in
set_option maxHeartbeats 4000000 in
theorem c_SA_appendNumber {ad ae : Nat → Nat} (l : Launch) (g : Gl) (hC : KAll g ad ae) (σ : Hp) (B : Nat) (M : WM) (p1 : Int32) {r : WM} (hr : SA_appendNumber M p1 = some r) : MG l g md_SA_appendNumber [.ref B, .int p1] (putW σ B ae M) (rs none (putW σ B ae r)) := by
  refine MG.intro (by decide +kernel) (Nat.le_of_ble_eq_true rfl) (fun X hx hR _ => ?_)
  unfold SA_appendNumber at hr
  refine g_ls [0, 1] [(0, .ref B), (1, .int p1)] rfl ?_
  refine g_sipush hx 0 (1000) dX10_appendNumber_0 rfl ?_
  refine g_istore_n hx 3 (i := 2) [(2, .int 1000), (0, .ref B), (1, .int p1)] dX10_appendNumber_3 rfl (by decide) rfl ?_
  refine g_ls [1, 2, 0] [(0, .ref B), (1, .int p1), (2, .int 1000)] rfl ?_
  exact w_SA_appendNumber_L4 hx hC hR FU M p1 1000 hr
def SA_format_L90 : Nat → WM → Int32 → Option (Int32 × WM)
  | 0, _, _ => none
  | n + 1, M, v1_1581 => if nI ((M.1 9).2 10).length ≤ v1_1581 then (some ((nI (M.2.1 1).length, M))) else (if v1_1581 ≤ 0 then (Option.bind (SA_appendNumber M (lnget ((M.1 9).2 0) (lnget ((M.1 9).2 10) v1_1581))) fun M_1584 => SA_format_L90 n M_1584 (v1_1581 + 1)) else (Option.bind (SA_appendNumber (setWL M 1 (lnadd 128 (M.2.1 1) 32)) (lnget ((M.1 9).2 0) (lnget ((M.1 9).2 10) v1_1581))) fun M_1585 => SA_format_L90 n M_1585 (v1_1581 + 1)))
def SA_format_L9 : Nat → WM → Int32 → Option (Int32 × WM)
  | 0, _, _ => none
  | n + 1, M, v1_1579 => if nI ((M.1 9).2 7).length ≤ v1_1579 then (SA_format_L90 FU (setWL M 1 (lnadd 128 (M.2.1 1) 124)) 0) else (if v1_1579 ≤ 0 then (Option.bind (SA_appendNumber M (Rw_markAt (M.1 9) v1_1579)) fun M_1587 => SA_format_L9 n M_1587 (v1_1579 + 1)) else (Option.bind (if Rw_isWrong (M.1 9) v1_1579 = 0 then (some 32) else (some 33)) fun b_1589 => Option.bind (SA_appendNumber (setWL M 1 (lnadd 128 (M.2.1 1) b_1589)) (Rw_markAt (M.1 9) v1_1579)) fun M_1590 => SA_format_L9 n M_1590 (v1_1579 + 1)))
def SA_format (M : WM) : Option (Int32 × WM) := SA_format_L9 FU (setWL M 1 ([])) 0
set_option maxRecDepth 100000 in
set_option maxHeartbeats 4000000 in
theorem w_SA_format_L90 {ad ae : Nat → Nat} {X : Cx} {l : Launch} {g : Gl} (hx : Ok X l g RX10 cX10_format 2 md_SA_format.rm) (hC : KAll g ad ae) {σ : Hp} {B : Nat} {r : Int32 × WM} (hR : Ret X (rs (some (.int r.1)) (putW σ B ae r.2)) 0 0 (some .int)) : ∀ (n : Nat) (M : WM) (v1_1581 : Int32), SA_format_L90 n M v1_1581 = some r → G X (putW σ B ae M) 0 0 90 [(0, .ref B), (1, .int v1_1581)] [] := by
  intro n
  induction n with
  | zero =>
    intro M v1_1581 hr
    rw [SA_format_L90] at hr
    cases hr
  | succ n ih =>
    intro M v1_1581 hr
    rw [SA_format_L90] at hr
    refine g_iload_n hx 90 (i := 1) 1 dX10_format_90 rfl rfl ?_
    refine g_aload_n hx 91 (i := 0) 0 dX10_format_91 rfl rfl ?_
    refine g_get hx 92 (C := RX10) (T := TX10) (N := 11) 6 (.ref (B + 332)) (pW σ B ae M 0 (by decide)) rfl (by decide) rfl fl_X10_50 dX10_format_92 ?_
    refine g_get hx 95 (C := RX8) (T := TX8) (N := 15) 12 (.ref (B + 332 + 22)) (pW_st9 σ B ae M 0 (by decide)) rfl (by decide) rfl fl_X10_145 dX10_format_95 ?_
    refine g_callVr hx (k_count l g (st_l10 (pW_st9 σ B ae M)) (by decide)) lk_X10_79 ar_Ln_count (st_l10 (pW_st9 σ B ae M)).1 (T := TX2) (N := 2) rfl (As := []) (rest := [.int v1_1581]) rfl (Nat.le_of_ble_eq_true rfl) ⟨Nat.le_of_ble_eq_true rfl, Nat.le_of_ble_eq_true rfl⟩ ⟨rfl, rfl⟩ ⟨Nat.zero_le _, Nat.zero_le _⟩ dX10_format_98 ?_
    refine g_icmp_ge hx 101 148 dX10_format_101 (by decide) (fun hc_1582 => ?_) (fun hc_1582 => ?_)
    · have hr := (if_pos hc_1582).symm.trans hr
      refine g_aload_n hx 148 (i := 0) 0 dX10_format_148 rfl rfl ?_
      refine g_get hx 149 (C := RX10) (T := TX10) (N := 11) 1 (.ref (B + 3)) (pW σ B ae M 0 (by decide)) rfl (by decide) rfl fl_X10_18 dX10_format_149 ?_
      refine g_callVr hx (k_count l g (pW_l1 σ B ae M) (by decide)) lk_X10_79 ar_Ln_count (pW_l1 σ B ae M).1 (T := TX2) (N := 2) rfl (As := []) (rest := []) rfl (Nat.le_of_ble_eq_true rfl) ⟨Nat.le_of_ble_eq_true rfl, Nat.le_of_ble_eq_true rfl⟩ ⟨rfl, rfl⟩ ⟨Nat.zero_le _, Nat.zero_le _⟩ dX10_format_152 ?_
      exact g_iret hx hR 155 dX10_format_155 ⟨by rw [← Option.some.inj hr] <;> rfl, by rw [← Option.some.inj hr] <;> rfl⟩
    · have hr := (if_neg hc_1582).symm.trans hr
      refine g_iload_n hx 104 (i := 1) 1 dX10_format_104 rfl rfl ?_
      refine g_if_le hx 105 117 dX10_format_105 (by decide) (fun hc_1583 => ?_) (fun hc_1583 => ?_)
      · have hr := (if_pos hc_1583).symm.trans hr
        refine g_aload_n hx 117 (i := 0) 0 dX10_format_117 rfl rfl ?_
        refine g_aload_n hx 118 (i := 0) 0 dX10_format_118 rfl rfl ?_
        refine g_get hx 119 (C := RX10) (T := TX10) (N := 11) 6 (.ref (B + 332)) (pW σ B ae M 0 (by decide)) rfl (by decide) rfl fl_X10_50 dX10_format_119 ?_
        refine g_get hx 122 (C := RX8) (T := TX8) (N := 15) 4 (.ref (B + 332 + 1)) (pW_st9 σ B ae M 0 (by decide)) rfl (by decide) rfl fl_X10_111 dX10_format_122 ?_
        refine g_aload_n hx 125 (i := 0) 0 dX10_format_125 rfl rfl ?_
        refine g_get hx 126 (C := RX10) (T := TX10) (N := 11) 6 (.ref (B + 332)) (pW σ B ae M 0 (by decide)) rfl (by decide) rfl fl_X10_50 dX10_format_126 ?_
        refine g_get hx 129 (C := RX8) (T := TX8) (N := 15) 12 (.ref (B + 332 + 22)) (pW_st9 σ B ae M 0 (by decide)) rfl (by decide) rfl fl_X10_145 dX10_format_129 ?_
        refine g_iload_n hx 132 (i := 1) 1 dX10_format_132 rfl rfl ?_
        refine g_callVr hx (k_get l g (st_l10 (pW_st9 σ B ae M)) (by decide) v1_1581) lk_X10_165 ar_Ln_get (st_l10 (pW_st9 σ B ae M)).1 (T := TX2) (N := 2) rfl (As := [.int v1_1581]) (rest := [.ref (B + 332 + 1), .ref B]) rfl (Nat.le_of_ble_eq_true rfl) ⟨Nat.le_of_ble_eq_true rfl, Nat.le_of_ble_eq_true rfl⟩ ⟨rfl, rfl⟩ ⟨Nat.zero_le _, Nat.zero_le _⟩ dX10_format_133 ?_
        refine g_callVr hx (k_get l g (st_l0 (pW_st9 σ B ae M)) (by decide) (lnget ((M.1 9).2 10) v1_1581)) lk_X10_165 ar_Ln_get (st_l0 (pW_st9 σ B ae M)).1 (T := TX2) (N := 2) rfl (As := [.int (lnget ((M.1 9).2 10) v1_1581)]) (rest := [.ref B]) rfl (Nat.le_of_ble_eq_true rfl) ⟨Nat.le_of_ble_eq_true rfl, Nat.le_of_ble_eq_true rfl⟩ ⟨rfl, rfl⟩ ⟨Nat.zero_le _, Nat.zero_le _⟩ dX10_format_136 ?_
        obtain ⟨M_1584, eM_1584, hr⟩ := bind_e hr
        refine g_callVv hx (c_SA_appendNumber l g hC σ B M (lnget ((M.1 9).2 0) (lnget ((M.1 9).2 10) v1_1581)) eM_1584) lk_X10_359 ar_SA_appendNumber (pW σ B ae M 0 (by decide)) (T := TX10) (N := 11) rfl (As := [.int (lnget ((M.1 9).2 0) (lnget ((M.1 9).2 10) v1_1581))]) (rest := []) rfl (Nat.le_of_ble_eq_true rfl) ⟨Nat.le_of_ble_eq_true rfl, Nat.le_of_ble_eq_true rfl⟩ ⟨rfl, rfl⟩ ⟨Nat.zero_le _, Nat.zero_le _⟩ dX10_format_139 ?_
        refine g_iinc hx 142 (i := 1) 1 (v1_1581 + 1) [(1, .int (v1_1581 + 1)), (0, .ref B)] dX10_format_142 rfl rfl (by decide) rfl ?_
        refine g_goto hx 145 90 dX10_format_145 (by decide) ?_
        refine g_ls [1, 0] [(0, .ref B), (1, .int (v1_1581 + 1))] rfl ?_
        exact ih M_1584 (v1_1581 + 1) hr
      · have hr := (if_neg hc_1583).symm.trans hr
        refine g_aload_n hx 108 (i := 0) 0 dX10_format_108 rfl rfl ?_
        refine g_get hx 109 (C := RX10) (T := TX10) (N := 11) 1 (.ref (B + 3)) (pW σ B ae M 0 (by decide)) rfl (by decide) rfl fl_X10_18 dX10_format_109 ?_
        refine g_bipush hx 112 (32) dX10_format_112 rfl ?_
        refine g_callVv hx (k_add l g (pW_l1 σ B ae M) (by decide) 32) lk_X10_86 ar_Ln_add (pW_l1 σ B ae M).1 (T := TX2) (N := 2) rfl (As := [.int 32]) (rest := []) rfl (Nat.le_of_ble_eq_true rfl) ⟨Nat.le_of_ble_eq_true rfl, Nat.le_of_ble_eq_true rfl⟩ ⟨rfl, rfl⟩ ⟨Nat.zero_le _, Nat.zero_le _⟩ dX10_format_114 ?_
        refine G.heap (pW_p1 σ B ae M (lnadd 128 (M.2.1 1) 32)) ?_
        refine g_aload_n hx 117 (i := 0) 0 dX10_format_117 rfl rfl ?_
        refine g_aload_n hx 118 (i := 0) 0 dX10_format_118 rfl rfl ?_
        refine g_get hx 119 (C := RX10) (T := TX10) (N := 11) 6 (.ref (B + 332)) (pW σ B ae (setWL M 1 (lnadd 128 (M.2.1 1) 32)) 0 (by decide)) rfl (by decide) rfl fl_X10_50 dX10_format_119 ?_
        refine g_get hx 122 (C := RX8) (T := TX8) (N := 15) 4 (.ref (B + 332 + 1)) (pW_st9 σ B ae (setWL M 1 (lnadd 128 (M.2.1 1) 32)) 0 (by decide)) rfl (by decide) rfl fl_X10_111 dX10_format_122 ?_
        refine g_aload_n hx 125 (i := 0) 0 dX10_format_125 rfl rfl ?_
        refine g_get hx 126 (C := RX10) (T := TX10) (N := 11) 6 (.ref (B + 332)) (pW σ B ae (setWL M 1 (lnadd 128 (M.2.1 1) 32)) 0 (by decide)) rfl (by decide) rfl fl_X10_50 dX10_format_126 ?_
        refine g_get hx 129 (C := RX8) (T := TX8) (N := 15) 12 (.ref (B + 332 + 22)) (pW_st9 σ B ae (setWL M 1 (lnadd 128 (M.2.1 1) 32)) 0 (by decide)) rfl (by decide) rfl fl_X10_145 dX10_format_129 ?_
        refine g_iload_n hx 132 (i := 1) 1 dX10_format_132 rfl rfl ?_
        refine g_callVr hx (k_get l g (st_l10 (pW_st9 σ B ae (setWL M 1 (lnadd 128 (M.2.1 1) 32)))) (by decide) v1_1581) lk_X10_165 ar_Ln_get (st_l10 (pW_st9 σ B ae (setWL M 1 (lnadd 128 (M.2.1 1) 32)))).1 (T := TX2) (N := 2) rfl (As := [.int v1_1581]) (rest := [.ref (B + 332 + 1), .ref B]) rfl (Nat.le_of_ble_eq_true rfl) ⟨Nat.le_of_ble_eq_true rfl, Nat.le_of_ble_eq_true rfl⟩ ⟨rfl, rfl⟩ ⟨Nat.zero_le _, Nat.zero_le _⟩ dX10_format_133 ?_
        refine g_callVr hx (k_get l g (st_l0 (pW_st9 σ B ae (setWL M 1 (lnadd 128 (M.2.1 1) 32)))) (by decide) (lnget ((M.1 9).2 10) v1_1581)) lk_X10_165 ar_Ln_get (st_l0 (pW_st9 σ B ae (setWL M 1 (lnadd 128 (M.2.1 1) 32)))).1 (T := TX2) (N := 2) rfl (As := [.int (lnget ((M.1 9).2 10) v1_1581)]) (rest := [.ref B]) rfl (Nat.le_of_ble_eq_true rfl) ⟨Nat.le_of_ble_eq_true rfl, Nat.le_of_ble_eq_true rfl⟩ ⟨rfl, rfl⟩ ⟨Nat.zero_le _, Nat.zero_le _⟩ dX10_format_136 ?_
        obtain ⟨M_1585, eM_1585, hr⟩ := bind_e hr
        refine g_callVv hx (c_SA_appendNumber l g hC σ B (setWL M 1 (lnadd 128 (M.2.1 1) 32)) (lnget ((M.1 9).2 0) (lnget ((M.1 9).2 10) v1_1581)) eM_1585) lk_X10_359 ar_SA_appendNumber (pW σ B ae (setWL M 1 (lnadd 128 (M.2.1 1) 32)) 0 (by decide)) (T := TX10) (N := 11) rfl (As := [.int (lnget ((M.1 9).2 0) (lnget ((M.1 9).2 10) v1_1581))]) (rest := []) rfl (Nat.le_of_ble_eq_true rfl) ⟨Nat.le_of_ble_eq_true rfl, Nat.le_of_ble_eq_true rfl⟩ ⟨rfl, rfl⟩ ⟨Nat.zero_le _, Nat.zero_le _⟩ dX10_format_139 ?_
        refine g_iinc hx 142 (i := 1) 1 (v1_1581 + 1) [(1, .int (v1_1581 + 1)), (0, .ref B)] dX10_format_142 rfl rfl (by decide) rfl ?_
        refine g_goto hx 145 90 dX10_format_145 (by decide) ?_
        refine g_ls [1, 0] [(0, .ref B), (1, .int (v1_1581 + 1))] rfl ?_
        exact ih M_1585 (v1_1581 + 1) hr
set_option maxRecDepth 100000 in
set_option maxHeartbeats 4000000 in
theorem w_SA_format_L9 {ad ae : Nat → Nat} {X : Cx} {l : Launch} {g : Gl} (hx : Ok X l g RX10 cX10_format 2 md_SA_format.rm) (hC : KAll g ad ae) {σ : Hp} {B : Nat} {r : Int32 × WM} (hR : Ret X (rs (some (.int r.1)) (putW σ B ae r.2)) 0 0 (some .int)) : ∀ (n : Nat) (M : WM) (v1_1579 : Int32), SA_format_L9 n M v1_1579 = some r → G X (putW σ B ae M) 0 0 9 [(0, .ref B), (1, .int v1_1579)] [] := by
  intro n
  induction n with
  | zero =>
    intro M v1_1579 hr
    rw [SA_format_L9] at hr
    cases hr
  | succ n ih =>
    intro M v1_1579 hr
    rw [SA_format_L9] at hr
    refine g_iload_n hx 9 (i := 1) 1 dX10_format_9 rfl rfl ?_
    refine g_aload_n hx 10 (i := 0) 0 dX10_format_10 rfl rfl ?_
    refine g_get hx 11 (C := RX10) (T := TX10) (N := 11) 6 (.ref (B + 332)) (pW σ B ae M 0 (by decide)) rfl (by decide) rfl fl_X10_50 dX10_format_11 ?_
    refine g_get hx 14 (C := RX8) (T := TX8) (N := 15) 11 (.ref (B + 332 + 15)) (pW_st9 σ B ae M 0 (by decide)) rfl (by decide) rfl fl_X10_129 dX10_format_14 ?_
    refine g_get hx 17 (C := RX5) (T := TX5) (N := 4) 0 (.ref (B + 332 + 16)) (pW_st9 σ B ae M 15 (by decide)) rfl (by decide) rfl fl_X10_133 dX10_format_17 ?_
    refine g_callVr hx (k_count l g (st_l7 (pW_st9 σ B ae M)) (by decide)) lk_X10_79 ar_Ln_count (st_l7 (pW_st9 σ B ae M)).1 (T := TX2) (N := 2) rfl (As := []) (rest := [.int v1_1579]) rfl (Nat.le_of_ble_eq_true rfl) ⟨Nat.le_of_ble_eq_true rfl, Nat.le_of_ble_eq_true rfl⟩ ⟨rfl, rfl⟩ ⟨Nat.zero_le _, Nat.zero_le _⟩ dX10_format_20 ?_
    refine g_icmp_ge hx 23 79 dX10_format_23 (by decide) (fun hc_1580 => ?_) (fun hc_1580 => ?_)
    · have hr := (if_pos hc_1580).symm.trans hr
      refine g_aload_n hx 79 (i := 0) 0 dX10_format_79 rfl rfl ?_
      refine g_get hx 80 (C := RX10) (T := TX10) (N := 11) 1 (.ref (B + 3)) (pW σ B ae M 0 (by decide)) rfl (by decide) rfl fl_X10_18 dX10_format_80 ?_
      refine g_bipush hx 83 (124) dX10_format_83 rfl ?_
      refine g_callVv hx (k_add l g (pW_l1 σ B ae M) (by decide) 124) lk_X10_86 ar_Ln_add (pW_l1 σ B ae M).1 (T := TX2) (N := 2) rfl (As := [.int 124]) (rest := []) rfl (Nat.le_of_ble_eq_true rfl) ⟨Nat.le_of_ble_eq_true rfl, Nat.le_of_ble_eq_true rfl⟩ ⟨rfl, rfl⟩ ⟨Nat.zero_le _, Nat.zero_le _⟩ dX10_format_85 ?_
      refine G.heap (pW_p1 σ B ae M (lnadd 128 (M.2.1 1) 124)) ?_
      refine g_iconst hx 88 (0) dX10_format_88 rfl ?_
      refine g_istore_n hx 89 (i := 1) [(1, .int 0), (0, .ref B)] dX10_format_89 rfl (by decide) rfl ?_
      refine g_ls [1, 0] [(0, .ref B), (1, .int 0)] rfl ?_
      exact w_SA_format_L90 hx hC hR FU (setWL M 1 (lnadd 128 (M.2.1 1) 124)) 0 hr
    · have hr := (if_neg hc_1580).symm.trans hr
      refine g_iload_n hx 26 (i := 1) 1 dX10_format_26 rfl rfl ?_
      refine g_if_le hx 27 58 dX10_format_27 (by decide) (fun hc_1586 => ?_) (fun hc_1586 => ?_)
      · have hr := (if_pos hc_1586).symm.trans hr
        refine g_aload_n hx 58 (i := 0) 0 dX10_format_58 rfl rfl ?_
        refine g_aload_n hx 59 (i := 0) 0 dX10_format_59 rfl rfl ?_
        refine g_get hx 60 (C := RX10) (T := TX10) (N := 11) 6 (.ref (B + 332)) (pW σ B ae M 0 (by decide)) rfl (by decide) rfl fl_X10_50 dX10_format_60 ?_
        refine g_get hx 63 (C := RX8) (T := TX8) (N := 15) 11 (.ref (B + 332 + 15)) (pW_st9 σ B ae M 0 (by decide)) rfl (by decide) rfl fl_X10_129 dX10_format_63 ?_
        refine g_iload_n hx 66 (i := 1) 1 dX10_format_66 rfl rfl ?_
        refine g_callVr hx (MG.ar9 (w := M) (c_Rw_markAt l g (putW σ B ae M) (B + 332) (M.1 9) v1_1579 rfl)) lk_X10_356 ar_Rw_markAt (pW_st9 σ B ae M 15 (by decide)) (T := TX5) (N := 4) rfl (As := [.int v1_1579]) (rest := [.ref B]) rfl (Nat.le_of_ble_eq_true rfl) ⟨Nat.le_of_ble_eq_true rfl, Nat.le_of_ble_eq_true rfl⟩ ⟨rfl, rfl⟩ ⟨Nat.zero_le _, Nat.zero_le _⟩ dX10_format_67 ?_
        obtain ⟨M_1587, eM_1587, hr⟩ := bind_e hr
        refine g_callVv hx (c_SA_appendNumber l g hC σ B M (Rw_markAt (M.1 9) v1_1579) eM_1587) lk_X10_359 ar_SA_appendNumber (pW σ B ae M 0 (by decide)) (T := TX10) (N := 11) rfl (As := [.int (Rw_markAt (M.1 9) v1_1579)]) (rest := []) rfl (Nat.le_of_ble_eq_true rfl) ⟨Nat.le_of_ble_eq_true rfl, Nat.le_of_ble_eq_true rfl⟩ ⟨rfl, rfl⟩ ⟨Nat.zero_le _, Nat.zero_le _⟩ dX10_format_70 ?_
        refine g_iinc hx 73 (i := 1) 1 (v1_1579 + 1) [(1, .int (v1_1579 + 1)), (0, .ref B)] dX10_format_73 rfl rfl (by decide) rfl ?_
        refine g_goto hx 76 9 dX10_format_76 (by decide) ?_
        refine g_ls [1, 0] [(0, .ref B), (1, .int (v1_1579 + 1))] rfl ?_
        exact ih M_1587 (v1_1579 + 1) hr
      · have hr := (if_neg hc_1586).symm.trans hr
        refine g_aload_n hx 30 (i := 0) 0 dX10_format_30 rfl rfl ?_
        refine g_get hx 31 (C := RX10) (T := TX10) (N := 11) 1 (.ref (B + 3)) (pW σ B ae M 0 (by decide)) rfl (by decide) rfl fl_X10_18 dX10_format_31 ?_
        refine g_aload_n hx 34 (i := 0) 0 dX10_format_34 rfl rfl ?_
        refine g_get hx 35 (C := RX10) (T := TX10) (N := 11) 6 (.ref (B + 332)) (pW σ B ae M 0 (by decide)) rfl (by decide) rfl fl_X10_50 dX10_format_35 ?_
        refine g_get hx 38 (C := RX8) (T := TX8) (N := 15) 11 (.ref (B + 332 + 15)) (pW_st9 σ B ae M 0 (by decide)) rfl (by decide) rfl fl_X10_129 dX10_format_38 ?_
        refine g_iload_n hx 41 (i := 1) 1 dX10_format_41 rfl rfl ?_
        refine g_callVr hx (MG.ar9 (w := M) (c_Rw_isWrong l g (putW σ B ae M) (B + 332) (M.1 9) v1_1579 rfl)) lk_X10_353 ar_Rw_isWrong (pW_st9 σ B ae M 15 (by decide)) (T := TX5) (N := 4) rfl (As := [.int v1_1579]) (rest := [.ref (B + 3)]) rfl (Nat.le_of_ble_eq_true rfl) ⟨Nat.le_of_ble_eq_true rfl, Nat.le_of_ble_eq_true rfl⟩ ⟨rfl, rfl⟩ ⟨Nat.zero_le _, Nat.zero_le _⟩ dX10_format_42 ?_
        obtain ⟨b_1589, eb_1589, hr⟩ := bind_e hr
        have rest : G X (putW σ B ae M) 0 0 55 [(0, .ref B), (1, .int v1_1579)] [.int b_1589, .ref (B + 3)] := by
          refine g_callVv hx (k_add l g (pW_l1 σ B ae M) (by decide) b_1589) lk_X10_86 ar_Ln_add (pW_l1 σ B ae M).1 (T := TX2) (N := 2) rfl (As := [.int b_1589]) (rest := []) rfl (Nat.le_of_ble_eq_true rfl) ⟨Nat.le_of_ble_eq_true rfl, Nat.le_of_ble_eq_true rfl⟩ ⟨rfl, rfl⟩ ⟨Nat.zero_le _, Nat.zero_le _⟩ dX10_format_55 ?_
          refine G.heap (pW_p1 σ B ae M (lnadd 128 (M.2.1 1) b_1589)) ?_
          refine g_aload_n hx 58 (i := 0) 0 dX10_format_58 rfl rfl ?_
          refine g_aload_n hx 59 (i := 0) 0 dX10_format_59 rfl rfl ?_
          refine g_get hx 60 (C := RX10) (T := TX10) (N := 11) 6 (.ref (B + 332)) (pW σ B ae (setWL M 1 (lnadd 128 (M.2.1 1) b_1589)) 0 (by decide)) rfl (by decide) rfl fl_X10_50 dX10_format_60 ?_
          refine g_get hx 63 (C := RX8) (T := TX8) (N := 15) 11 (.ref (B + 332 + 15)) (pW_st9 σ B ae (setWL M 1 (lnadd 128 (M.2.1 1) b_1589)) 0 (by decide)) rfl (by decide) rfl fl_X10_129 dX10_format_63 ?_
          refine g_iload_n hx 66 (i := 1) 1 dX10_format_66 rfl rfl ?_
          refine g_callVr hx (MG.ar9 (w := setWL M 1 (lnadd 128 (M.2.1 1) b_1589)) (c_Rw_markAt l g (putW σ B ae (setWL M 1 (lnadd 128 (M.2.1 1) b_1589))) (B + 332) (M.1 9) v1_1579 rfl)) lk_X10_356 ar_Rw_markAt (pW_st9 σ B ae (setWL M 1 (lnadd 128 (M.2.1 1) b_1589)) 15 (by decide)) (T := TX5) (N := 4) rfl (As := [.int v1_1579]) (rest := [.ref B]) rfl (Nat.le_of_ble_eq_true rfl) ⟨Nat.le_of_ble_eq_true rfl, Nat.le_of_ble_eq_true rfl⟩ ⟨rfl, rfl⟩ ⟨Nat.zero_le _, Nat.zero_le _⟩ dX10_format_67 ?_
          obtain ⟨M_1590, eM_1590, hr⟩ := bind_e hr
          refine g_callVv hx (c_SA_appendNumber l g hC σ B (setWL M 1 (lnadd 128 (M.2.1 1) b_1589)) (Rw_markAt (M.1 9) v1_1579) eM_1590) lk_X10_359 ar_SA_appendNumber (pW σ B ae (setWL M 1 (lnadd 128 (M.2.1 1) b_1589)) 0 (by decide)) (T := TX10) (N := 11) rfl (As := [.int (Rw_markAt (M.1 9) v1_1579)]) (rest := []) rfl (Nat.le_of_ble_eq_true rfl) ⟨Nat.le_of_ble_eq_true rfl, Nat.le_of_ble_eq_true rfl⟩ ⟨rfl, rfl⟩ ⟨Nat.zero_le _, Nat.zero_le _⟩ dX10_format_70 ?_
          refine g_iinc hx 73 (i := 1) 1 (v1_1579 + 1) [(1, .int (v1_1579 + 1)), (0, .ref B)] dX10_format_73 rfl rfl (by decide) rfl ?_
          refine g_goto hx 76 9 dX10_format_76 (by decide) ?_
          refine g_ls [1, 0] [(0, .ref B), (1, .int (v1_1579 + 1))] rfl ?_
          exact ih M_1590 (v1_1579 + 1) hr
        clear hr
        have hr := eb_1589
        refine g_if_eq hx 45 53 dX10_format_45 (by decide) (fun hc_1588 => ?_) (fun hc_1588 => ?_)
        · have hr := (if_pos hc_1588).symm.trans hr
          refine g_bipush hx 53 (32) dX10_format_53 rfl ?_
          exact g_nmi (Option.some.inj hr).symm rest
        · have hr := (if_neg hc_1588).symm.trans hr
          refine g_bipush hx 48 (33) dX10_format_48 rfl ?_
          refine g_goto hx 50 55 dX10_format_50 (by decide) ?_
          exact g_nmi (Option.some.inj hr).symm rest
set_option maxRecDepth 100000 in
set_option maxHeartbeats 4000000 in
theorem c_SA_format {ad ae : Nat → Nat} (l : Launch) (g : Gl) (hC : KAll g ad ae) (σ : Hp) (B : Nat) (M : WM) {r : Int32 × WM} (hr : SA_format M = some r) : MG l g md_SA_format [.ref B] (putW σ B ae M) (rs (some (.int r.1)) (putW σ B ae r.2)) := by
  refine MG.intro (by decide +kernel) (Nat.le_of_ble_eq_true rfl) (fun X hx hR _ => ?_)
  unfold SA_format at hr
  refine g_ls [0] [(0, .ref B)] rfl ?_
  refine g_aload_n hx 0 (i := 0) 0 dX10_format_0 rfl rfl ?_
  refine g_get hx 1 (C := RX10) (T := TX10) (N := 11) 1 (.ref (B + 3)) (pW σ B ae M 0 (by decide)) rfl (by decide) rfl fl_X10_18 dX10_format_1 ?_
  refine g_callVv hx (k_clear l g (pW_l1 σ B ae M) (by decide)) lk_X10_100 ar_Ln_clear (pW_l1 σ B ae M).1 (T := TX2) (N := 2) rfl (As := []) (rest := []) rfl (Nat.le_of_ble_eq_true rfl) ⟨Nat.le_of_ble_eq_true rfl, Nat.le_of_ble_eq_true rfl⟩ ⟨rfl, rfl⟩ ⟨Nat.zero_le _, Nat.zero_le _⟩ dX10_format_4 ?_
  refine G.heap (pW_p1 σ B ae M ([])) ?_
  refine g_iconst hx 7 (0) dX10_format_7 rfl ?_
  refine g_istore_n hx 8 (i := 1) [(1, .int 0), (0, .ref B)] dX10_format_8 rfl (by decide) rfl ?_
  refine g_ls [1, 0] [(0, .ref B), (1, .int 0)] rfl ?_
  exact w_SA_format_L9 hx hC hR FU (setWL M 1 ([])) 0 hr
def SA_formattedByte (M : WM) (p1 : Int32) : Int32 := lnget (M.2.1 1) p1
set_option maxRecDepth 100000 in
set_option maxHeartbeats 4000000 in
theorem c_SA_formattedByte {ad ae : Nat → Nat} (l : Launch) (g : Gl) (hC : KAll g ad ae) (σ : Hp) (B : Nat) (M : WM) (p1 : Int32) {r : Int32} (hr : SA_formattedByte M p1 = r) : MG l g md_SA_formattedByte [.ref B, .int p1] (putW σ B ae M) (rs (some (.int r)) (putW σ B ae M)) := by
  refine MG.intro (by decide +kernel) (Nat.le_of_ble_eq_true rfl) (fun X hx hR _ => ?_)
  unfold SA_formattedByte at hr
  refine g_ls [0, 1] [(0, .ref B), (1, .int p1)] rfl ?_
  refine g_aload_n hx 0 (i := 0) 0 dX10_formattedByte_0 rfl rfl ?_
  refine g_get hx 1 (C := RX10) (T := TX10) (N := 11) 1 (.ref (B + 3)) (pW σ B ae M 0 (by decide)) rfl (by decide) rfl fl_X10_18 dX10_formattedByte_1 ?_
  refine g_iload_n hx 4 (i := 1) 1 dX10_formattedByte_4 rfl rfl ?_
  refine g_callVr hx (k_get l g (pW_l1 σ B ae M) (by decide) p1) lk_X10_165 ar_Ln_get (pW_l1 σ B ae M).1 (T := TX2) (N := 2) rfl (As := [.int p1]) (rest := []) rfl (Nat.le_of_ble_eq_true rfl) ⟨Nat.le_of_ble_eq_true rfl, Nat.le_of_ble_eq_true rfl⟩ ⟨rfl, rfl⟩ ⟨Nat.zero_le _, Nat.zero_le _⟩ dX10_formattedByte_5 ?_
  exact g_iret hx hR 8 dX10_formattedByte_8 ⟨by rw [← hr] <;> rfl, rfl⟩
def SA_undoCount (M : WM) : Int32 := Hi_count M
set_option maxRecDepth 100000 in
set_option maxHeartbeats 4000000 in
theorem c_SA_undoCount {ad ae : Nat → Nat} (l : Launch) (g : Gl) (hC : KAll g ad ae) (σ : Hp) (B : Nat) (M : WM) {r : Int32} (hr : SA_undoCount M = r) : MG l g md_SA_undoCount [.ref B] (putW σ B ae M) (rs (some (.int r)) (putW σ B ae M)) := by
  refine MG.intro (by decide +kernel) (Nat.le_of_ble_eq_true rfl) (fun X hx hR _ => ?_)
  unfold SA_undoCount at hr
  refine g_ls [0] [(0, .ref B)] rfl ?_
  refine g_aload_n hx 0 (i := 0) 0 dX10_undoCount_0 rfl rfl ?_
  refine g_get hx 1 (C := RX10) (T := TX10) (N := 11) 5 (.ref (B + 15)) (pW σ B ae M 0 (by decide)) rfl (by decide) rfl fl_X10_43 dX10_undoCount_1 ?_
  refine g_callVr hx (c_Hi_count l g hC σ B M rfl) lk_X10_362 ar_Hi_count (pW σ B ae M 15 (by decide)) (T := TX1) (N := 3) rfl (As := []) (rest := []) rfl (Nat.le_of_ble_eq_true rfl) ⟨Nat.le_of_ble_eq_true rfl, Nat.le_of_ble_eq_true rfl⟩ ⟨rfl, rfl⟩ ⟨Nat.zero_le _, Nat.zero_le _⟩ dX10_undoCount_4 ?_
  exact g_iret hx hR 7 dX10_undoCount_7 ⟨by rw [← hr] <;> rfl, rfl⟩
def SA_undo (M : WM) : Option (Int32 × WM) := Option.bind (Hi_takeBack M) fun q_1591 => if q_1591.1 = 0 then (some (((-1), q_1591.2))) else (some ((Hi_count (setWL q_1591.2 2 (lnraise (q_1591.2.2.1 2) 2 1)), setWL q_1591.2 2 (lnraise (q_1591.2.2.1 2) 2 1))))
set_option maxRecDepth 100000 in
set_option maxHeartbeats 4000000 in
theorem c_SA_undo {ad ae : Nat → Nat} (l : Launch) (g : Gl) (hC : KAll g ad ae) (σ : Hp) (B : Nat) (M : WM) {r : Int32 × WM} (hr : SA_undo M = some r) : MG l g md_SA_undo [.ref B] (putW σ B ae M) (rs (some (.int r.1)) (putW σ B ae r.2)) := by
  refine MG.intro (by decide +kernel) (Nat.le_of_ble_eq_true rfl) (fun X hx hR _ => ?_)
  unfold SA_undo at hr
  refine g_ls [0] [(0, .ref B)] rfl ?_
  refine g_aload_n hx 0 (i := 0) 0 dX10_undo_0 rfl rfl ?_
  refine g_get hx 1 (C := RX10) (T := TX10) (N := 11) 5 (.ref (B + 15)) (pW σ B ae M 0 (by decide)) rfl (by decide) rfl fl_X10_43 dX10_undo_1 ?_
  refine g_aload_n hx 4 (i := 0) 0 dX10_undo_4 rfl rfl ?_
  refine g_get hx 5 (C := RX10) (T := TX10) (N := 11) 6 (.ref (B + 332)) (pW σ B ae M 0 (by decide)) rfl (by decide) rfl fl_X10_50 dX10_undo_5 ?_
  obtain ⟨q_1591, eq_1591, hr⟩ := bind_e hr
  refine g_callVr hx (c_Hi_takeBack l g hC σ B M eq_1591) lk_X10_363 ar_Hi_takeBack (pW σ B ae M 15 (by decide)) (T := TX1) (N := 3) rfl (As := [.ref (B + 332)]) (rest := []) rfl (Nat.le_of_ble_eq_true rfl) ⟨Nat.le_of_ble_eq_true rfl, Nat.le_of_ble_eq_true rfl⟩ ⟨rfl, rfl⟩ ⟨Nat.zero_le _, Nat.zero_le _⟩ dX10_undo_8 ?_
  refine g_if_ne hx 11 16 dX10_undo_11 (by decide) (fun hc_1592 => ?_) (fun hc_1592 => ?_)
  · have hr := (if_neg hc_1592).symm.trans hr
    refine g_aload_n hx 16 (i := 0) 0 dX10_undo_16 rfl rfl ?_
    refine g_get hx 17 (C := RX10) (T := TX10) (N := 11) 2 (.ref (B + 5)) (pW σ B ae q_1591.2 0 (by decide)) rfl (by decide) rfl fl_X10_21 dX10_undo_17 ?_
    refine g_iconst hx 20 (2) dX10_undo_20 rfl ?_
    refine g_iconst hx 21 (1) dX10_undo_21 rfl ?_
    refine g_callVv hx (k_raise l g (pW_l2 σ B ae q_1591.2) (by decide) 2 1) lk_X10_329 ar_Ln_raise (pW_l2 σ B ae q_1591.2).1 (T := TX2) (N := 2) rfl (As := [.int 2, .int 1]) (rest := []) rfl (Nat.le_of_ble_eq_true rfl) ⟨Nat.le_of_ble_eq_true rfl, Nat.le_of_ble_eq_true rfl⟩ ⟨rfl, rfl⟩ ⟨Nat.zero_le _, Nat.zero_le _⟩ dX10_undo_22 ?_
    refine G.heap (pW_p2 σ B ae q_1591.2 (lnraise (q_1591.2.2.1 2) 2 1)) ?_
    refine g_aload_n hx 25 (i := 0) 0 dX10_undo_25 rfl rfl ?_
    refine g_get hx 26 (C := RX10) (T := TX10) (N := 11) 5 (.ref (B + 15)) (pW σ B ae (setWL q_1591.2 2 (lnraise (q_1591.2.2.1 2) 2 1)) 0 (by decide)) rfl (by decide) rfl fl_X10_43 dX10_undo_26 ?_
    refine g_callVr hx (c_Hi_count l g hC σ B (setWL q_1591.2 2 (lnraise (q_1591.2.2.1 2) 2 1)) rfl) lk_X10_362 ar_Hi_count (pW σ B ae (setWL q_1591.2 2 (lnraise (q_1591.2.2.1 2) 2 1)) 15 (by decide)) (T := TX1) (N := 3) rfl (As := []) (rest := []) rfl (Nat.le_of_ble_eq_true rfl) ⟨Nat.le_of_ble_eq_true rfl, Nat.le_of_ble_eq_true rfl⟩ ⟨rfl, rfl⟩ ⟨Nat.zero_le _, Nat.zero_le _⟩ dX10_undo_29 ?_
    exact g_iret hx hR 32 dX10_undo_32 ⟨by rw [← Option.some.inj hr] <;> rfl, by rw [← Option.some.inj hr] <;> rfl⟩
  · have hr := (if_pos hc_1592).symm.trans hr
    refine g_iconst hx 14 (-1) dX10_undo_14 rfl ?_
    exact g_iret hx hR 15 dX10_undo_15 ⟨by rw [← Option.some.inj hr] <;> rfl, by rw [← Option.some.inj hr] <;> rfl⟩
def SA_saveSnapshot (M : WM) : WM := lt' (St_copyFrom (M.1 9) (M.1 11)) fun M_1593 => setWI (setS M 11 M_1593) 9 1
set_option maxRecDepth 100000 in
set_option maxHeartbeats 4000000 in
theorem c_SA_saveSnapshot {ad ae : Nat → Nat} (l : Launch) (g : Gl) (hC : KAll g ad ae) (σ : Hp) (B : Nat) (M : WM) {r : WM} (hr : SA_saveSnapshot M = r) : MG l g md_SA_saveSnapshot [.ref B] (putW σ B ae M) (rs none (putW σ B ae r)) := by
  refine MG.intro (by decide +kernel) (Nat.le_of_ble_eq_true rfl) (fun X hx hR _ => ?_)
  unfold SA_saveSnapshot at hr
  refine g_ls [0] [(0, .ref B)] rfl ?_
  refine g_aload_n hx 0 (i := 0) 0 dX10_saveSnapshot_0 rfl rfl ?_
  refine g_get hx 1 (C := RX10) (T := TX10) (N := 11) 8 (.ref (B + 402)) (pW σ B ae M 0 (by decide)) rfl (by decide) rfl fl_X10_57 dX10_saveSnapshot_1 ?_
  refine g_aload_n hx 4 (i := 0) 0 dX10_saveSnapshot_4 rfl rfl ?_
  refine g_get hx 5 (C := RX10) (T := TX10) (N := 11) 6 (.ref (B + 332)) (pW σ B ae M 0 (by decide)) rfl (by decide) rfl fl_X10_50 dX10_saveSnapshot_5 ?_
  obtain ⟨M_1593, eM_1593, hr⟩ := lt'_e hr
  refine g_callVv hx (MG.at11 (w := M) (c_St_copyFrom (pW_st9 σ B ae M) (by omega) l g (M.1 11) eM_1593.symm)) lk_X10_106 ar_St_copyFrom (pW_st11 σ B ae M 0 (by decide)) (T := TX8) (N := 15) rfl (As := [.ref (B + 332)]) (rest := []) rfl (Nat.le_of_ble_eq_true rfl) ⟨Nat.le_of_ble_eq_true rfl, Nat.le_of_ble_eq_true rfl⟩ ⟨rfl, rfl⟩ ⟨Nat.zero_le _, Nat.zero_le _⟩ dX10_saveSnapshot_8 ?_
  refine g_aload_n hx 11 (i := 0) 0 dX10_saveSnapshot_11 rfl rfl ?_
  refine g_iconst hx 12 (1) dX10_saveSnapshot_12 rfl ?_
  refine g_put hx 13 (C := RX10) (T := TX10) (N := 11) 9 .boolean _ (pW σ B ae (setS M 11 M_1593) 0 (by decide)) rfl (by decide) fl_X10_60 rfl rfl rfl rfl (Nat.le_of_ble_eq_true rfl) rfl dX10_saveSnapshot_13 ?_
  refine G.heap (pW_i9 σ B ae (setS M 11 M_1593) 1) ?_
  exact g_vret hx hR 16 dX10_saveSnapshot_16 ⟨rfl, by rw [← hr] <;> rfl⟩
def SA_restoreSnapshot (M : WM) : Int32 × WM := if M.2.2.1 9 = 0 then ((0, M)) else (lt' (St_copyFrom (M.1 11) (M.1 9)) fun M_1595 => lt' (Hi_clear (setS M 9 M_1595)) fun M_1596 => (1, M_1596))
set_option maxRecDepth 100000 in
set_option maxHeartbeats 4000000 in
theorem c_SA_restoreSnapshot {ad ae : Nat → Nat} (l : Launch) (g : Gl) (hC : KAll g ad ae) (σ : Hp) (B : Nat) (M : WM) {r : Int32 × WM} (hr : SA_restoreSnapshot M = r) : MG l g md_SA_restoreSnapshot [.ref B] (putW σ B ae M) (rs (some (.int r.1)) (putW σ B ae r.2)) := by
  refine MG.intro (by decide +kernel) (Nat.le_of_ble_eq_true rfl) (fun X hx hR _ => ?_)
  unfold SA_restoreSnapshot at hr
  refine g_ls [0] [(0, .ref B)] rfl ?_
  refine g_aload_n hx 0 (i := 0) 0 dX10_restoreSnapshot_0 rfl rfl ?_
  refine g_get hx 1 (C := RX10) (T := TX10) (N := 11) 9 (.int (M.2.2.1 9)) (pW σ B ae M 0 (by decide)) rfl (by decide) rfl fl_X10_60 dX10_restoreSnapshot_1 ?_
  refine g_if_ne hx 4 9 dX10_restoreSnapshot_4 (by decide) (fun hc_1594 => ?_) (fun hc_1594 => ?_)
  · have hr := (if_neg hc_1594).symm.trans hr
    refine g_aload_n hx 9 (i := 0) 0 dX10_restoreSnapshot_9 rfl rfl ?_
    refine g_get hx 10 (C := RX10) (T := TX10) (N := 11) 6 (.ref (B + 332)) (pW σ B ae M 0 (by decide)) rfl (by decide) rfl fl_X10_50 dX10_restoreSnapshot_10 ?_
    refine g_aload_n hx 13 (i := 0) 0 dX10_restoreSnapshot_13 rfl rfl ?_
    refine g_get hx 14 (C := RX10) (T := TX10) (N := 11) 8 (.ref (B + 402)) (pW σ B ae M 0 (by decide)) rfl (by decide) rfl fl_X10_57 dX10_restoreSnapshot_14 ?_
    obtain ⟨M_1595, eM_1595, hr⟩ := lt'_e hr
    refine g_callVv hx (MG.at9 (w := M) (c_St_copyFrom (pW_st11 σ B ae M) (by omega) l g (M.1 9) eM_1595.symm)) lk_X10_106 ar_St_copyFrom (pW_st9 σ B ae M 0 (by decide)) (T := TX8) (N := 15) rfl (As := [.ref (B + 402)]) (rest := []) rfl (Nat.le_of_ble_eq_true rfl) ⟨Nat.le_of_ble_eq_true rfl, Nat.le_of_ble_eq_true rfl⟩ ⟨rfl, rfl⟩ ⟨Nat.zero_le _, Nat.zero_le _⟩ dX10_restoreSnapshot_17 ?_
    refine g_aload_n hx 20 (i := 0) 0 dX10_restoreSnapshot_20 rfl rfl ?_
    refine g_get hx 21 (C := RX10) (T := TX10) (N := 11) 5 (.ref (B + 15)) (pW σ B ae (setS M 9 M_1595) 0 (by decide)) rfl (by decide) rfl fl_X10_43 dX10_restoreSnapshot_21 ?_
    obtain ⟨M_1596, eM_1596, hr⟩ := lt'_e hr
    refine g_callVv hx (c_Hi_clear l g hC σ B (setS M 9 M_1595) eM_1596.symm) lk_X10_110 ar_Hi_clear (pW σ B ae (setS M 9 M_1595) 15 (by decide)) (T := TX1) (N := 3) rfl (As := []) (rest := []) rfl (Nat.le_of_ble_eq_true rfl) ⟨Nat.le_of_ble_eq_true rfl, Nat.le_of_ble_eq_true rfl⟩ ⟨rfl, rfl⟩ ⟨Nat.zero_le _, Nat.zero_le _⟩ dX10_restoreSnapshot_24 ?_
    refine g_iconst hx 27 (1) dX10_restoreSnapshot_27 rfl ?_
    exact g_zret hx hR 28 (Or.inr rfl) dX10_restoreSnapshot_28 ⟨by rw [← hr] <;> rfl, by rw [← hr] <;> rfl⟩
  · have hr := (if_pos hc_1594).symm.trans hr
    refine g_iconst hx 7 (0) dX10_restoreSnapshot_7 rfl ?_
    exact g_zret hx hR 8 (Or.inl rfl) dX10_restoreSnapshot_8 ⟨by rw [← hr] <;> rfl, by rw [← hr] <;> rfl⟩
