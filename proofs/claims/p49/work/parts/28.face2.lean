def md_SA_cause : Md := (yX10_cause, cX10_cause, 3, some .int, 3, 66, 0, 0)
def md_SA_waitsFor : Md := (yX10_waitsFor, cX10_waitsFor, 3, some .int, 3, 65, 0, 0)
def md_SA_servedIn : Md := (yX10_servedIn, cX10_servedIn, 5, some .int, 4, 124, 0, 0)
def md_SA_servedBy : Md := (yX10_servedBy, cX10_servedBy, 2, some .int, 5, 124, 0, 0)
def md_SA_waitingIn : Md := (yX10_waitingIn, cX10_waitingIn, 2, some .int, 5, 124, 0, 0)
def md_SA_swapsLeft : Md := (yX10_swapsLeft, cX10_swapsLeft, 1, some .int, 3, 66, 0, 0)
def md_SA_missedAfter : Md := (yX10_missedAfter, cX10_missedAfter, 2, some .int, 4, 124, 0, 0)
def md_SA_counted : Md := (yX10_counted, cX10_counted, 2, some .int, 1, 22, 0, 0)
def md_SA_settled : Md := (yX10_settled, cX10_settled, 2, some .int, 2, 43, 0, 0)
def md_SA_slip : Md := (yX10_slip, cX10_slip, 3, some .int, 5, 146, 0, 0)
def md_SA_dropSlip : Md := (yX10_dropSlip, cX10_dropSlip, 2, some .int, 5, 146, 0, 0)
def md_SA_giveBack : Md := (yX10_giveBack, cX10_giveBack, 2, some .int, 5, 146, 0, 0)
def md_SA_days : Md := (yX10_days, cX10_days, 2, some .int, 5, 146, 0, 0)
def md_SA_misfile : Md := (yX10_misfile, cX10_misfile, 3, some .int, 5, 146, 0, 0)
def md_SA_straighten : Md := (yX10_straighten, cX10_straighten, 2, some .int, 5, 146, 0, 0)
def md_SA_check : Md := (yX10_check, cX10_check, 2, some .int, 5, 146, 0, 0)
def md_SA_setEmbargo : Md := (yX10_setEmbargo, cX10_setEmbargo, 3, some .int, 5, 146, 0, 0)
def md_SA_undoCount : Md := (yX10_undoCount, cX10_undoCount, 1, some .int, 1, 20, 0, 0)
def md_SA_undo : Md := (yX10_undo, cX10_undo, 1, some .int, 5, 146, 0, 0)
def md_SA_saveSnapshot : Md := (yX10_saveSnapshot, cX10_saveSnapshot, 1, none, 4, 124, 0, 0)
def md_SA_restoreSnapshot : Md := (yX10_restoreSnapshot, cX10_restoreSnapshot, 1, some .boolean, 4, 124, 0, 0)
theorem lk_X10_261 : Lk md_Sl_placeFor [.methodLink RX10 261 md_Sl_placeFor.y, .instanceMethod md_Sl_placeFor.y, .selects md_Sl_placeFor.y.cls md_Sl_placeFor.y md_Sl_placeFor.y] := lk_of (by decide +kernel)
theorem fl_X10_264 : Cond.fieldLink RX10 264 (TX8 7).1 (TX8 7).2.1 (TX8 7).2.2.1 ∈ aw := aw1 (by decide +kernel)
theorem lk_X10_267 : Lk md_St_nextDay [.methodLink RX10 267 md_St_nextDay.y, .instanceMethod md_St_nextDay.y, .selects md_St_nextDay.y.cls md_St_nextDay.y md_St_nextDay.y] := lk_of (by decide +kernel)
theorem lk_X10_272 : Lk md_St_passDays [.methodLink RX10 272 md_St_passDays.y, .instanceMethod md_St_passDays.y, .selects md_St_passDays.y.cls md_St_passDays.y md_St_passDays.y] := lk_of (by decide +kernel)
theorem ar_St_passDays : Arity md_St_passDays 2 := ⟨by decide +kernel, by decide +kernel, by decide +kernel⟩
theorem lk_X10_279 : Lk md_Rw_swapWrongPairs [.methodLink RX10 279 md_Rw_swapWrongPairs.y, .instanceMethod md_Rw_swapWrongPairs.y, .selects md_Rw_swapWrongPairs.y.cls md_Rw_swapWrongPairs.y md_Rw_swapWrongPairs.y] := lk_of (by decide +kernel)
theorem lk_X10_329 : Lk md_Ln_raise [.methodLink RX10 329 md_Ln_raise.y, .instanceMethod md_Ln_raise.y, .selects md_Ln_raise.y.cls md_Ln_raise.y md_Ln_raise.y] := lk_of (by decide +kernel)
theorem lk_X10_323 : Lk md_SA_counted [.methodLink RX10 323 md_SA_counted.y, .instanceMethod md_SA_counted.y, .selects md_SA_counted.y.cls md_SA_counted.y md_SA_counted.y] := lk_of (by decide +kernel)
theorem ar_SA_counted : Arity md_SA_counted 1 := ⟨by decide +kernel, by decide +kernel, by decide +kernel⟩
theorem lk_X10_326 : Lk md_Hi_keep [.methodLink RX10 326 md_Hi_keep.y, .instanceMethod md_Hi_keep.y, .selects md_Hi_keep.y.cls md_Hi_keep.y md_Hi_keep.y] := lk_of (by decide +kernel)
theorem ar_Hi_keep : Arity md_Hi_keep 0 := ⟨by decide +kernel, by decide +kernel, by decide +kernel⟩
theorem lk_X10_282 : Lk md_Hi_prepare [.methodLink RX10 282 md_Hi_prepare.y, .instanceMethod md_Hi_prepare.y, .selects md_Hi_prepare.y.cls md_Hi_prepare.y md_Hi_prepare.y] := lk_of (by decide +kernel)
theorem ar_Hi_prepare : Arity md_Hi_prepare 1 := ⟨by decide +kernel, by decide +kernel, by decide +kernel⟩
theorem lk_X10_285 : Lk md_St_handIn [.methodLink RX10 285 md_St_handIn.y, .instanceMethod md_St_handIn.y, .selects md_St_handIn.y.cls md_St_handIn.y md_St_handIn.y] := lk_of (by decide +kernel)
theorem ar_St_handIn : Arity md_St_handIn 2 := ⟨by decide +kernel, by decide +kernel, by decide +kernel⟩
theorem lk_X10_288 : Lk md_SA_settled [.methodLink RX10 288 md_SA_settled.y, .instanceMethod md_SA_settled.y, .selects md_SA_settled.y.cls md_SA_settled.y md_SA_settled.y] := lk_of (by decide +kernel)
theorem ar_SA_settled : Arity md_SA_settled 1 := ⟨by decide +kernel, by decide +kernel, by decide +kernel⟩
theorem lk_X10_291 : Lk md_St_takeAway [.methodLink RX10 291 md_St_takeAway.y, .instanceMethod md_St_takeAway.y, .selects md_St_takeAway.y.cls md_St_takeAway.y md_St_takeAway.y] := lk_of (by decide +kernel)
theorem ar_St_takeAway : Arity md_St_takeAway 1 := ⟨by decide +kernel, by decide +kernel, by decide +kernel⟩
theorem lk_X10_294 : Lk md_St_bringBack [.methodLink RX10 294 md_St_bringBack.y, .instanceMethod md_St_bringBack.y, .selects md_St_bringBack.y.cls md_St_bringBack.y md_St_bringBack.y] := lk_of (by decide +kernel)
theorem ar_St_bringBack : Arity md_St_bringBack 1 := ⟨by decide +kernel, by decide +kernel, by decide +kernel⟩
theorem lk_X10_299 : Lk md_Rw_moveTo [.methodLink RX10 299 md_Rw_moveTo.y, .instanceMethod md_Rw_moveTo.y, .selects md_Rw_moveTo.y.cls md_Rw_moveTo.y md_Rw_moveTo.y] := lk_of (by decide +kernel)
theorem ar_Rw_moveTo : Arity md_Rw_moveTo 2 := ⟨by decide +kernel, by decide +kernel, by decide +kernel⟩
theorem lk_X10_302 : Lk md_Rw_moveToOrder [.methodLink RX10 302 md_Rw_moveToOrder.y, .instanceMethod md_Rw_moveToOrder.y, .selects md_Rw_moveToOrder.y.cls md_Rw_moveToOrder.y md_Rw_moveToOrder.y] := lk_of (by decide +kernel)
theorem ar_Rw_moveToOrder : Arity md_Rw_moveToOrder 1 := ⟨by decide +kernel, by decide +kernel, by decide +kernel⟩
theorem lk_X10_307 : Lk md_St_swapNeighbours [.methodLink RX10 307 md_St_swapNeighbours.y, .instanceMethod md_St_swapNeighbours.y, .selects md_St_swapNeighbours.y.cls md_St_swapNeighbours.y md_St_swapNeighbours.y] := lk_of (by decide +kernel)
theorem ar_St_swapNeighbours : Arity md_St_swapNeighbours 1 := ⟨by decide +kernel, by decide +kernel, by decide +kernel⟩
theorem lk_X10_312 : Lk md_St_closeUntil [.methodLink RX10 312 md_St_closeUntil.y, .instanceMethod md_St_closeUntil.y, .selects md_St_closeUntil.y.cls md_St_closeUntil.y md_St_closeUntil.y] := lk_of (by decide +kernel)
theorem ar_St_closeUntil : Arity md_St_closeUntil 2 := ⟨by decide +kernel, by decide +kernel, by decide +kernel⟩
theorem lk_X10_362 : Lk md_Hi_count [.methodLink RX10 362 md_Hi_count.y, .instanceMethod md_Hi_count.y, .selects md_Hi_count.y.cls md_Hi_count.y md_Hi_count.y] := lk_of (by decide +kernel)
theorem ar_Hi_count : Arity md_Hi_count 0 := ⟨by decide +kernel, by decide +kernel, by decide +kernel⟩
theorem lk_X10_363 : Lk md_Hi_takeBack [.methodLink RX10 363 md_Hi_takeBack.y, .instanceMethod md_Hi_takeBack.y, .selects md_Hi_takeBack.y.cls md_Hi_takeBack.y md_Hi_takeBack.y] := lk_of (by decide +kernel)
theorem ar_Hi_takeBack : Arity md_Hi_takeBack 1 := ⟨by decide +kernel, by decide +kernel, by decide +kernel⟩
theorem fl_X10_57 : Cond.fieldLink RX10 57 (TX10 8).1 (TX10 8).2.1 (TX10 8).2.2.1 ∈ aw := aw1 (by decide +kernel)
def SA_cause (M : WM) (p1 p2 : Int32) : Option (Int32) := if St_hasReader (M.1 9) p1 = 0 then (none) else (if St_hasFolder (M.1 9) p2 = 0 then (none) else (Option.bind (St_refusal (M.1 9) p1 p2) fun q_443 => Option.bind (if q_443 = (-3) then (Option.bind (Sl_placeFor (M.1 9) p1 p2) fun q_445 => some q_445) else (some (-1))) fun b_446 => some (b_446)))
set_option maxRecDepth 100000 in
set_option maxHeartbeats 4000000 in
theorem c_SA_cause {ad ae : Nat → Nat} (l : Launch) (g : Gl) (hC : KAll g ad ae) (σ : Hp) (B : Nat) (M : WM) (p1 p2 : Int32) {r : Int32} (hr : SA_cause M p1 p2 = some r) : MG l g md_SA_cause [.ref B, .int p1, .int p2] (putW σ B ae M) (rs (some (.int r)) (putW σ B ae M)) := by
  refine MG.intro (by decide +kernel) (Nat.le_of_ble_eq_true rfl) (fun X hx hR _ => ?_)
  unfold SA_cause at hr
  refine g_ls [0, 1, 2] [(0, .ref B), (1, .int p1), (2, .int p2)] rfl ?_
  refine g_aload_n hx 0 (i := 0) 0 dX10_cause_0 rfl rfl ?_
  refine g_get hx 1 (C := RX10) (T := TX10) (N := 11) 6 (.ref (B + 332)) (pW σ B ae M 0 (by decide)) rfl (by decide) rfl fl_X10_50 dX10_cause_1 ?_
  refine g_iload_n hx 4 (i := 1) 1 dX10_cause_4 rfl rfl ?_
  refine g_callVr hx (MG.ar9 (w := M) (c_St_hasReader l g (putW σ B ae M) (B + 332) (M.1 9) p1 rfl)) lk_X10_198 ar_St_hasReader (pW_st9 σ B ae M 0 (by decide)) (T := TX8) (N := 15) rfl (As := [.int p1]) (rest := []) rfl (Nat.le_of_ble_eq_true rfl) ⟨Nat.le_of_ble_eq_true rfl, Nat.le_of_ble_eq_true rfl⟩ ⟨rfl, rfl⟩ ⟨Nat.zero_le _, Nat.zero_le _⟩ dX10_cause_5 ?_
  refine g_if_eq hx 8 22 dX10_cause_8 (by decide) (fun hc_441 => ?_) (fun hc_441 => ?_)
  · have hr := (if_pos hc_441).symm.trans hr
    cases hr
  · have hr := (if_neg hc_441).symm.trans hr
    refine g_aload_n hx 11 (i := 0) 0 dX10_cause_11 rfl rfl ?_
    refine g_get hx 12 (C := RX10) (T := TX10) (N := 11) 6 (.ref (B + 332)) (pW σ B ae M 0 (by decide)) rfl (by decide) rfl fl_X10_50 dX10_cause_12 ?_
    refine g_iload_n hx 15 (i := 2) 2 dX10_cause_15 rfl rfl ?_
    refine g_callVr hx (MG.ar9 (w := M) (c_St_hasFolder l g (putW σ B ae M) (B + 332) (M.1 9) p2 rfl)) lk_X10_171 ar_St_hasFolder (pW_st9 σ B ae M 0 (by decide)) (T := TX8) (N := 15) rfl (As := [.int p2]) (rest := []) rfl (Nat.le_of_ble_eq_true rfl) ⟨Nat.le_of_ble_eq_true rfl, Nat.le_of_ble_eq_true rfl⟩ ⟨rfl, rfl⟩ ⟨Nat.zero_le _, Nat.zero_le _⟩ dX10_cause_16 ?_
    refine g_if_ne hx 19 32 dX10_cause_19 (by decide) (fun hc_442 => ?_) (fun hc_442 => ?_)
    · have hr := (if_neg hc_442).symm.trans hr
      refine g_aload_n hx 32 (i := 0) 0 dX10_cause_32 rfl rfl ?_
      refine g_get hx 33 (C := RX10) (T := TX10) (N := 11) 6 (.ref (B + 332)) (pW σ B ae M 0 (by decide)) rfl (by decide) rfl fl_X10_50 dX10_cause_33 ?_
      refine g_iload_n hx 36 (i := 1) 1 dX10_cause_36 rfl rfl ?_
      refine g_iload_n hx 37 (i := 2) 2 dX10_cause_37 rfl rfl ?_
      obtain ⟨q_443, eq_443, hr⟩ := bind_e hr
      refine g_callVr hx (MG.ar9 (w := M) (c_St_refusal l g (putW σ B ae M) (B + 332) (M.1 9) p1 p2 eq_443)) lk_X10_257 ar_St_refusal (pW_st9 σ B ae M 0 (by decide)) (T := TX8) (N := 15) rfl (As := [.int p1, .int p2]) (rest := []) rfl (Nat.le_of_ble_eq_true rfl) ⟨Nat.le_of_ble_eq_true rfl, Nat.le_of_ble_eq_true rfl⟩ ⟨rfl, rfl⟩ ⟨Nat.zero_le _, Nat.zero_le _⟩ dX10_cause_38 ?_
      refine g_bipush hx 41 (-3) dX10_cause_41 rfl ?_
      obtain ⟨b_446, eb_446, hr⟩ := bind_e hr
      have rest : G X (putW σ B ae M) 0 0 62 [(0, .ref B), (1, .int p1), (2, .int p2)] [.int b_446] := by
        exact g_iret hx hR 62 dX10_cause_62 ⟨by rw [← Option.some.inj hr] <;> rfl, rfl⟩
      clear hr
      have hr := eb_446
      refine g_icmp_ne hx 43 61 dX10_cause_43 (by decide) (fun hc_444 => ?_) (fun hc_444 => ?_)
      · have hr := (if_neg hc_444).symm.trans hr
        refine g_iconst hx 61 (-1) dX10_cause_61 rfl ?_
        exact g_nmi (Option.some.inj hr).symm rest
      · have hr := (if_pos hc_444).symm.trans hr
        refine g_aload_n hx 46 (i := 0) 0 dX10_cause_46 rfl rfl ?_
        refine g_get hx 47 (C := RX10) (T := TX10) (N := 11) 6 (.ref (B + 332)) (pW σ B ae M 0 (by decide)) rfl (by decide) rfl fl_X10_50 dX10_cause_47 ?_
        refine g_get hx 50 (C := RX8) (T := TX8) (N := 15) 13 (.ref (B + 332 + 24)) (pW_st9 σ B ae M 0 (by decide)) rfl (by decide) rfl fl_X10_148 dX10_cause_50 ?_
        refine g_iload_n hx 53 (i := 1) 1 dX10_cause_53 rfl rfl ?_
        refine g_iload_n hx 54 (i := 2) 2 dX10_cause_54 rfl rfl ?_
        obtain ⟨q_445, eq_445, hr⟩ := bind_e hr
        refine g_callVr hx (MG.ar9 (w := M) (c_Sl_placeFor l g (putW σ B ae M) (B + 332) (M.1 9) p1 p2 eq_445)) lk_X10_261 ar_Sl_placeFor (pW_st9 σ B ae M 24 (by decide)) (T := TX7) (N := 4) rfl (As := [.int p1, .int p2]) (rest := []) rfl (Nat.le_of_ble_eq_true rfl) ⟨Nat.le_of_ble_eq_true rfl, Nat.le_of_ble_eq_true rfl⟩ ⟨rfl, rfl⟩ ⟨Nat.zero_le _, Nat.zero_le _⟩ dX10_cause_55 ?_
        refine g_goto hx 58 62 dX10_cause_58 (by decide) ?_
        exact g_nmi (Option.some.inj hr).symm rest
    · have hr := (if_pos hc_442).symm.trans hr
      cases hr
def SA_waitsFor (M : WM) (p1 : Int32) : Int32 := if Sl_has (M.1 9) p1 = 0 then ((-1)) else (lt' (lnget ((M.1 9).2 12) p1) fun v2_448 => if St_idleness (M.1 9) p1 = 1 then (lnget ((M.1 9).2 3) v2_448) else (if St_idleness (M.1 9) p1 = 2 then (St_daysToRefiling (M.1 9)) else (if St_idleness (M.1 9) p1 = 3 then ((lnget ((M.1 9).2 1) v2_448) - ((M.1 9).1 0)) else (if St_idleness (M.1 9) p1 = 4 then (lnget ((M.1 9).2 5) (lnget ((M.1 9).2 11) p1)) else ((-1))))))
set_option maxRecDepth 100000 in
set_option maxHeartbeats 4000000 in
theorem c_SA_waitsFor {ad ae : Nat → Nat} (l : Launch) (g : Gl) (hC : KAll g ad ae) (σ : Hp) (B : Nat) (M : WM) (p1 : Int32) {r : Int32} (hr : SA_waitsFor M p1 = r) : MG l g md_SA_waitsFor [.ref B, .int p1] (putW σ B ae M) (rs (some (.int r)) (putW σ B ae M)) := by
  refine MG.intro (by decide +kernel) (Nat.le_of_ble_eq_true rfl) (fun X hx hR _ => ?_)
  unfold SA_waitsFor at hr
  refine g_ls [0, 1] [(0, .ref B), (1, .int p1)] rfl ?_
  refine g_aload_n hx 0 (i := 0) 0 dX10_waitsFor_0 rfl rfl ?_
  refine g_get hx 1 (C := RX10) (T := TX10) (N := 11) 6 (.ref (B + 332)) (pW σ B ae M 0 (by decide)) rfl (by decide) rfl fl_X10_50 dX10_waitsFor_1 ?_
  refine g_get hx 4 (C := RX8) (T := TX8) (N := 15) 13 (.ref (B + 332 + 24)) (pW_st9 σ B ae M 0 (by decide)) rfl (by decide) rfl fl_X10_148 dX10_waitsFor_4 ?_
  refine g_iload_n hx 7 (i := 1) 1 dX10_waitsFor_7 rfl rfl ?_
  refine g_callVr hx (MG.ar9 (w := M) (c_Sl_has l g (putW σ B ae M) (B + 332) (M.1 9) p1 rfl)) lk_X10_219 ar_Sl_has (pW_st9 σ B ae M 24 (by decide)) (T := TX7) (N := 4) rfl (As := [.int p1]) (rest := []) rfl (Nat.le_of_ble_eq_true rfl) ⟨Nat.le_of_ble_eq_true rfl, Nat.le_of_ble_eq_true rfl⟩ ⟨rfl, rfl⟩ ⟨Nat.zero_le _, Nat.zero_le _⟩ dX10_waitsFor_8 ?_
  refine g_if_ne hx 11 16 dX10_waitsFor_11 (by decide) (fun hc_447 => ?_) (fun hc_447 => ?_)
  · have hr := (if_neg hc_447).symm.trans hr
    refine g_aload_n hx 16 (i := 0) 0 dX10_waitsFor_16 rfl rfl ?_
    refine g_get hx 17 (C := RX10) (T := TX10) (N := 11) 6 (.ref (B + 332)) (pW σ B ae M 0 (by decide)) rfl (by decide) rfl fl_X10_50 dX10_waitsFor_17 ?_
    refine g_get hx 20 (C := RX8) (T := TX8) (N := 15) 13 (.ref (B + 332 + 24)) (pW_st9 σ B ae M 0 (by decide)) rfl (by decide) rfl fl_X10_148 dX10_waitsFor_20 ?_
    refine g_get hx 23 (C := RX7) (T := TX7) (N := 4) 1 (.ref (B + 332 + 27)) (pW_st9 σ B ae M 24 (by decide)) rfl (by decide) rfl fl_X10_186 dX10_waitsFor_23 ?_
    refine g_iload_n hx 26 (i := 1) 1 dX10_waitsFor_26 rfl rfl ?_
    refine g_callVr hx (k_get l g (st_l12 (pW_st9 σ B ae M)) (by decide) p1) lk_X10_165 ar_Ln_get (st_l12 (pW_st9 σ B ae M)).1 (T := TX2) (N := 2) rfl (As := [.int p1]) (rest := []) rfl (Nat.le_of_ble_eq_true rfl) ⟨Nat.le_of_ble_eq_true rfl, Nat.le_of_ble_eq_true rfl⟩ ⟨rfl, rfl⟩ ⟨Nat.zero_le _, Nat.zero_le _⟩ dX10_waitsFor_27 ?_
    obtain ⟨v2_448, ev2_448, hr⟩ := lt'_e hr
    refine g_nmi ev2_448 ?_
    refine g_istore_n hx 30 (i := 2) [(2, .int v2_448), (0, .ref B), (1, .int p1)] dX10_waitsFor_30 rfl (by decide) rfl ?_
    refine g_aload_n hx 31 (i := 0) 1 dX10_waitsFor_31 rfl rfl ?_
    refine g_get hx 32 (C := RX10) (T := TX10) (N := 11) 6 (.ref (B + 332)) (pW σ B ae M 0 (by decide)) rfl (by decide) rfl fl_X10_50 dX10_waitsFor_32 ?_
    refine g_iload_n hx 35 (i := 1) 2 dX10_waitsFor_35 rfl rfl ?_
    refine g_callVr hx (MG.ar9 (w := M) (c_St_idleness l g (putW σ B ae M) (B + 332) (M.1 9) p1 rfl)) lk_X10_222 ar_St_idleness (pW_st9 σ B ae M 0 (by decide)) (T := TX8) (N := 15) rfl (As := [.int p1]) (rest := []) rfl (Nat.le_of_ble_eq_true rfl) ⟨Nat.le_of_ble_eq_true rfl, Nat.le_of_ble_eq_true rfl⟩ ⟨rfl, rfl⟩ ⟨Nat.zero_le _, Nat.zero_le _⟩ dX10_waitsFor_36 ?_
    by_cases hc_449 : St_idleness (M.1 9) p1 = 1
    · have hr := (if_pos hc_449).symm.trans hr
      refine g_tableIn hx 39 68 dX10_waitsFor_39 (by rw [hc_449]; decide) (by rw [hc_449]; decide) (by rw [hc_449]; rfl) (by decide) ?_
      refine g_aload_n hx 68 (i := 0) 1 dX10_waitsFor_68 rfl rfl ?_
      refine g_get hx 69 (C := RX10) (T := TX10) (N := 11) 6 (.ref (B + 332)) (pW σ B ae M 0 (by decide)) rfl (by decide) rfl fl_X10_50 dX10_waitsFor_69 ?_
      refine g_get hx 72 (C := RX8) (T := TX8) (N := 15) 7 (.ref (B + 332 + 7)) (pW_st9 σ B ae M 0 (by decide)) rfl (by decide) rfl fl_X10_264 dX10_waitsFor_72 ?_
      refine g_iload_n hx 75 (i := 2) 0 dX10_waitsFor_75 rfl rfl ?_
      refine g_callVr hx (k_get l g (st_l3 (pW_st9 σ B ae M)) (by decide) v2_448) lk_X10_165 ar_Ln_get (st_l3 (pW_st9 σ B ae M)).1 (T := TX2) (N := 2) rfl (As := [.int v2_448]) (rest := []) rfl (Nat.le_of_ble_eq_true rfl) ⟨Nat.le_of_ble_eq_true rfl, Nat.le_of_ble_eq_true rfl⟩ ⟨rfl, rfl⟩ ⟨Nat.zero_le _, Nat.zero_le _⟩ dX10_waitsFor_76 ?_
      exact g_iret hx hR 79 dX10_waitsFor_79 ⟨by rw [← hr] <;> rfl, rfl⟩
    · have hr := (if_neg hc_449).symm.trans hr
      by_cases hc_450 : St_idleness (M.1 9) p1 = 2
      · have hr := (if_pos hc_450).symm.trans hr
        refine g_tableIn hx 39 80 dX10_waitsFor_39 (by rw [hc_450]; decide) (by rw [hc_450]; decide) (by rw [hc_450]; rfl) (by decide) ?_
        refine g_aload_n hx 80 (i := 0) 1 dX10_waitsFor_80 rfl rfl ?_
        refine g_get hx 81 (C := RX10) (T := TX10) (N := 11) 6 (.ref (B + 332)) (pW σ B ae M 0 (by decide)) rfl (by decide) rfl fl_X10_50 dX10_waitsFor_81 ?_
        refine g_callVr hx (MG.ar9 (w := M) (c_St_daysToRefiling l g (putW σ B ae M) (B + 332) (M.1 9) rfl)) lk_X10_158 ar_St_daysToRefiling (pW_st9 σ B ae M 0 (by decide)) (T := TX8) (N := 15) rfl (As := []) (rest := []) rfl (Nat.le_of_ble_eq_true rfl) ⟨Nat.le_of_ble_eq_true rfl, Nat.le_of_ble_eq_true rfl⟩ ⟨rfl, rfl⟩ ⟨Nat.zero_le _, Nat.zero_le _⟩ dX10_waitsFor_84 ?_
        exact g_iret hx hR 87 dX10_waitsFor_87 ⟨by rw [← hr] <;> rfl, rfl⟩
      · have hr := (if_neg hc_450).symm.trans hr
        by_cases hc_451 : St_idleness (M.1 9) p1 = 3
        · have hr := (if_pos hc_451).symm.trans hr
          refine g_tableIn hx 39 88 dX10_waitsFor_39 (by rw [hc_451]; decide) (by rw [hc_451]; decide) (by rw [hc_451]; rfl) (by decide) ?_
          refine g_aload_n hx 88 (i := 0) 1 dX10_waitsFor_88 rfl rfl ?_
          refine g_get hx 89 (C := RX10) (T := TX10) (N := 11) 6 (.ref (B + 332)) (pW σ B ae M 0 (by decide)) rfl (by decide) rfl fl_X10_50 dX10_waitsFor_89 ?_
          refine g_get hx 92 (C := RX8) (T := TX8) (N := 15) 5 (.ref (B + 332 + 3)) (pW_st9 σ B ae M 0 (by decide)) rfl (by decide) rfl fl_X10_180 dX10_waitsFor_92 ?_
          refine g_iload_n hx 95 (i := 2) 0 dX10_waitsFor_95 rfl rfl ?_
          refine g_callVr hx (k_get l g (st_l1 (pW_st9 σ B ae M)) (by decide) v2_448) lk_X10_165 ar_Ln_get (st_l1 (pW_st9 σ B ae M)).1 (T := TX2) (N := 2) rfl (As := [.int v2_448]) (rest := []) rfl (Nat.le_of_ble_eq_true rfl) ⟨Nat.le_of_ble_eq_true rfl, Nat.le_of_ble_eq_true rfl⟩ ⟨rfl, rfl⟩ ⟨Nat.zero_le _, Nat.zero_le _⟩ dX10_waitsFor_96 ?_
          refine g_aload_n hx 99 (i := 0) 1 dX10_waitsFor_99 rfl rfl ?_
          refine g_get hx 100 (C := RX10) (T := TX10) (N := 11) 6 (.ref (B + 332)) (pW σ B ae M 0 (by decide)) rfl (by decide) rfl fl_X10_50 dX10_waitsFor_100 ?_
          refine g_get hx 103 (C := RX8) (T := TX8) (N := 15) 0 (.int ((M.1 9).1 0)) (pW_st9 σ B ae M 0 (by decide)) rfl (by decide) rfl fl_X10_114 dX10_waitsFor_103 ?_
          refine g_isub hx 106 dX10_waitsFor_106 ?_
          exact g_iret hx hR 107 dX10_waitsFor_107 ⟨by rw [← hr] <;> rfl, rfl⟩
        · have hr := (if_neg hc_451).symm.trans hr
          by_cases hc_452 : St_idleness (M.1 9) p1 = 4
          · have hr := (if_pos hc_452).symm.trans hr
            refine g_tableIn hx 39 108 dX10_waitsFor_39 (by rw [hc_452]; decide) (by rw [hc_452]; decide) (by rw [hc_452]; rfl) (by decide) ?_
            refine g_aload_n hx 108 (i := 0) 1 dX10_waitsFor_108 rfl rfl ?_
            refine g_get hx 109 (C := RX10) (T := TX10) (N := 11) 6 (.ref (B + 332)) (pW σ B ae M 0 (by decide)) rfl (by decide) rfl fl_X10_50 dX10_waitsFor_109 ?_
            refine g_get hx 112 (C := RX8) (T := TX8) (N := 15) 9 (.ref (B + 332 + 11)) (pW_st9 σ B ae M 0 (by decide)) rfl (by decide) rfl fl_X10_123 dX10_waitsFor_112 ?_
            refine g_aload_n hx 115 (i := 0) 1 dX10_waitsFor_115 rfl rfl ?_
            refine g_get hx 116 (C := RX10) (T := TX10) (N := 11) 6 (.ref (B + 332)) (pW σ B ae M 0 (by decide)) rfl (by decide) rfl fl_X10_50 dX10_waitsFor_116 ?_
            refine g_get hx 119 (C := RX8) (T := TX8) (N := 15) 13 (.ref (B + 332 + 24)) (pW_st9 σ B ae M 0 (by decide)) rfl (by decide) rfl fl_X10_148 dX10_waitsFor_119 ?_
            refine g_get hx 122 (C := RX7) (T := TX7) (N := 4) 0 (.ref (B + 332 + 25)) (pW_st9 σ B ae M 24 (by decide)) rfl (by decide) rfl fl_X10_203 dX10_waitsFor_122 ?_
            refine g_iload_n hx 125 (i := 1) 2 dX10_waitsFor_125 rfl rfl ?_
            refine g_callVr hx (k_get l g (st_l11 (pW_st9 σ B ae M)) (by decide) p1) lk_X10_165 ar_Ln_get (st_l11 (pW_st9 σ B ae M)).1 (T := TX2) (N := 2) rfl (As := [.int p1]) (rest := [.ref (B + 332 + 11)]) rfl (Nat.le_of_ble_eq_true rfl) ⟨Nat.le_of_ble_eq_true rfl, Nat.le_of_ble_eq_true rfl⟩ ⟨rfl, rfl⟩ ⟨Nat.zero_le _, Nat.zero_le _⟩ dX10_waitsFor_126 ?_
            refine g_callVr hx (k_get l g (st_l5 (pW_st9 σ B ae M)) (by decide) (lnget ((M.1 9).2 11) p1)) lk_X10_165 ar_Ln_get (st_l5 (pW_st9 σ B ae M)).1 (T := TX2) (N := 2) rfl (As := [.int (lnget ((M.1 9).2 11) p1)]) (rest := []) rfl (Nat.le_of_ble_eq_true rfl) ⟨Nat.le_of_ble_eq_true rfl, Nat.le_of_ble_eq_true rfl⟩ ⟨rfl, rfl⟩ ⟨Nat.zero_le _, Nat.zero_le _⟩ dX10_waitsFor_129 ?_
            exact g_iret hx hR 132 dX10_waitsFor_132 ⟨by rw [← hr] <;> rfl, rfl⟩
          · have hr := (if_neg hc_452).symm.trans hr
            refine g_tableOut hx 39 133 dX10_waitsFor_39 (sw_out (fun c h1 h2 hq => by have hc : c = 1 ∨ c = 2 ∨ c = 3 ∨ c = 4 := (by omega); rcases hc with rfl | rfl | rfl | rfl <;> first | exact lv_neT hc_449 rfl hq | exact lv_neT hc_450 rfl hq | exact lv_neT hc_451 rfl hq | exact lv_neT hc_452 rfl hq)) (by decide) ?_
            refine g_iconst hx 133 (-1) dX10_waitsFor_133 rfl ?_
            exact g_iret hx hR 134 dX10_waitsFor_134 ⟨by rw [← hr] <;> rfl, rfl⟩
  · have hr := (if_pos hc_447).symm.trans hr
    refine g_iconst hx 14 (-1) dX10_waitsFor_14 rfl ?_
    exact g_iret hx hR 15 dX10_waitsFor_15 ⟨by rw [← hr] <;> rfl, rfl⟩
def SA_servedIn_L60 : Nat → WM → Int32 → Int32 → Int32 → Int32 → Option (Int32 × WM)
  | 0, _, _, _, _, _ => none
  | n + 1, M, v1_457, v2_458, v3_459, v4_460 => if 60 < v4_460 then (some (((-1), M))) else (Option.bind (St_nextDay (M.1 10)) fun q_462 => Option.bind (Sl_placeFor q_462.2 v2_458 v3_459) fun q_463 => if q_463 = (-1) then (some ((v4_460, setS M 10 q_462.2))) else (SA_servedIn_L60 n (setS M 10 q_462.2) v1_457 v2_458 v3_459 (v4_460 + 1)))
def SA_servedIn (M : WM) (p1 : Int32) : Option (Int32 × WM) := if Sl_has (M.1 9) p1 = 0 then (some (((-1), M))) else (lt' (lnget ((M.1 9).2 11) p1) fun v2_454 => lt' (lnget ((M.1 9).2 12) p1) fun v3_455 => lt' (St_copyFrom (M.1 9) (M.1 10)) fun M_456 => SA_servedIn_L60 FU (setS M 10 M_456) p1 v2_454 v3_455 1)
set_option maxRecDepth 100000 in
set_option maxHeartbeats 4000000 in
theorem w_SA_servedIn_L60 {ad ae : Nat → Nat} {X : Cx} {l : Launch} {g : Gl} (hx : Ok X l g RX10 cX10_servedIn 5 md_SA_servedIn.rm) (hC : KAll g ad ae) {σ : Hp} {B : Nat} {r : Int32 × WM} (hR : Ret X (rs (some (.int r.1)) (putW σ B ae r.2)) 0 0 (some .int)) : ∀ (n : Nat) (M : WM) (v1_457 v2_458 v3_459 v4_460 : Int32), SA_servedIn_L60 n M v1_457 v2_458 v3_459 v4_460 = some r → G X (putW σ B ae M) 0 0 60 [(0, .ref B), (1, .int v1_457), (2, .int v2_458), (3, .int v3_459), (4, .int v4_460)] [] := by
  intro n
  induction n with
  | zero =>
    intro M v1_457 v2_458 v3_459 v4_460 hr
    rw [SA_servedIn_L60] at hr
    cases hr
  | succ n ih =>
    intro M v1_457 v2_458 v3_459 v4_460 hr
    rw [SA_servedIn_L60] at hr
    refine g_iload hx 60 (i := 4) 4 dX10_servedIn_60 rfl ?_
    refine g_bipush hx 62 (60) dX10_servedIn_62 rfl ?_
    refine g_icmp_gt hx 64 100 dX10_servedIn_64 (by decide) (fun hc_461 => ?_) (fun hc_461 => ?_)
    · have hr := (if_pos hc_461).symm.trans hr
      refine g_iconst hx 100 (-1) dX10_servedIn_100 rfl ?_
      exact g_iret hx hR 101 dX10_servedIn_101 ⟨by rw [← Option.some.inj hr] <;> rfl, by rw [← Option.some.inj hr] <;> rfl⟩
    · have hr := (if_neg hc_461).symm.trans hr
      refine g_aload_n hx 67 (i := 0) 0 dX10_servedIn_67 rfl rfl ?_
      refine g_get hx 68 (C := RX10) (T := TX10) (N := 11) 7 (.ref (B + 367)) (pW σ B ae M 0 (by decide)) rfl (by decide) rfl fl_X10_54 dX10_servedIn_68 ?_
      obtain ⟨q_462, eq_462, hr⟩ := bind_e hr
      refine g_callVr hx (MG.at10 (w := M) (c_St_nextDay l g (putW σ B ae M) (B + 367) (M.1 10) eq_462)) lk_X10_267 ar_St_nextDay (pW_st10 σ B ae M 0 (by decide)) (T := TX8) (N := 15) rfl (As := []) (rest := []) rfl (Nat.le_of_ble_eq_true rfl) ⟨Nat.le_of_ble_eq_true rfl, Nat.le_of_ble_eq_true rfl⟩ ⟨rfl, rfl⟩ ⟨Nat.zero_le _, Nat.zero_le _⟩ dX10_servedIn_71 ?_
      refine g_pop hx 74 dX10_servedIn_74 rfl ?_
      refine g_aload_n hx 75 (i := 0) 0 dX10_servedIn_75 rfl rfl ?_
      refine g_get hx 76 (C := RX10) (T := TX10) (N := 11) 7 (.ref (B + 367)) (pW σ B ae (setS M 10 q_462.2) 0 (by decide)) rfl (by decide) rfl fl_X10_54 dX10_servedIn_76 ?_
      refine g_get hx 79 (C := RX8) (T := TX8) (N := 15) 13 (.ref (B + 367 + 24)) (pW_st10 σ B ae (setS M 10 q_462.2) 0 (by decide)) rfl (by decide) rfl fl_X10_148 dX10_servedIn_79 ?_
      refine g_iload_n hx 82 (i := 2) 2 dX10_servedIn_82 rfl rfl ?_
      refine g_iload_n hx 83 (i := 3) 3 dX10_servedIn_83 rfl rfl ?_
      obtain ⟨q_463, eq_463, hr⟩ := bind_e hr
      refine g_callVr hx (MG.ar10 (w := setS M 10 q_462.2) (c_Sl_placeFor l g (putW σ B ae (setS M 10 q_462.2)) (B + 367) q_462.2 v2_458 v3_459 eq_463)) lk_X10_261 ar_Sl_placeFor (pW_st10 σ B ae (setS M 10 q_462.2) 24 (by decide)) (T := TX7) (N := 4) rfl (As := [.int v2_458, .int v3_459]) (rest := []) rfl (Nat.le_of_ble_eq_true rfl) ⟨Nat.le_of_ble_eq_true rfl, Nat.le_of_ble_eq_true rfl⟩ ⟨rfl, rfl⟩ ⟨Nat.zero_le _, Nat.zero_le _⟩ dX10_servedIn_84 ?_
      refine g_iconst hx 87 (-1) dX10_servedIn_87 rfl ?_
      refine g_icmp_ne hx 88 94 dX10_servedIn_88 (by decide) (fun hc_464 => ?_) (fun hc_464 => ?_)
      · have hr := (if_neg hc_464).symm.trans hr
        refine g_iinc hx 94 (i := 4) 4 (v4_460 + 1) [(4, .int (v4_460 + 1)), (0, .ref B), (1, .int v1_457), (2, .int v2_458), (3, .int v3_459)] dX10_servedIn_94 rfl rfl (by decide) rfl ?_
        refine g_goto hx 97 60 dX10_servedIn_97 (by decide) ?_
        refine g_ls [1, 2, 3, 4, 0] [(0, .ref B), (1, .int v1_457), (2, .int v2_458), (3, .int v3_459), (4, .int (v4_460 + 1))] rfl ?_
        exact ih (setS M 10 q_462.2) v1_457 v2_458 v3_459 (v4_460 + 1) hr
      · have hr := (if_pos hc_464).symm.trans hr
        refine g_iload hx 91 (i := 4) 4 dX10_servedIn_91 rfl ?_
        exact g_iret hx hR 93 dX10_servedIn_93 ⟨by rw [← Option.some.inj hr] <;> rfl, by rw [← Option.some.inj hr] <;> rfl⟩
set_option maxRecDepth 100000 in
set_option maxHeartbeats 4000000 in
theorem c_SA_servedIn {ad ae : Nat → Nat} (l : Launch) (g : Gl) (hC : KAll g ad ae) (σ : Hp) (B : Nat) (M : WM) (p1 : Int32) {r : Int32 × WM} (hr : SA_servedIn M p1 = some r) : MG l g md_SA_servedIn [.ref B, .int p1] (putW σ B ae M) (rs (some (.int r.1)) (putW σ B ae r.2)) := by
  refine MG.intro (by decide +kernel) (Nat.le_of_ble_eq_true rfl) (fun X hx hR _ => ?_)
  unfold SA_servedIn at hr
  refine g_ls [0, 1] [(0, .ref B), (1, .int p1)] rfl ?_
  refine g_aload_n hx 0 (i := 0) 0 dX10_servedIn_0 rfl rfl ?_
  refine g_get hx 1 (C := RX10) (T := TX10) (N := 11) 6 (.ref (B + 332)) (pW σ B ae M 0 (by decide)) rfl (by decide) rfl fl_X10_50 dX10_servedIn_1 ?_
  refine g_get hx 4 (C := RX8) (T := TX8) (N := 15) 13 (.ref (B + 332 + 24)) (pW_st9 σ B ae M 0 (by decide)) rfl (by decide) rfl fl_X10_148 dX10_servedIn_4 ?_
  refine g_iload_n hx 7 (i := 1) 1 dX10_servedIn_7 rfl rfl ?_
  refine g_callVr hx (MG.ar9 (w := M) (c_Sl_has l g (putW σ B ae M) (B + 332) (M.1 9) p1 rfl)) lk_X10_219 ar_Sl_has (pW_st9 σ B ae M 24 (by decide)) (T := TX7) (N := 4) rfl (As := [.int p1]) (rest := []) rfl (Nat.le_of_ble_eq_true rfl) ⟨Nat.le_of_ble_eq_true rfl, Nat.le_of_ble_eq_true rfl⟩ ⟨rfl, rfl⟩ ⟨Nat.zero_le _, Nat.zero_le _⟩ dX10_servedIn_8 ?_
  refine g_if_ne hx 11 16 dX10_servedIn_11 (by decide) (fun hc_453 => ?_) (fun hc_453 => ?_)
  · have hr := (if_neg hc_453).symm.trans hr
    refine g_aload_n hx 16 (i := 0) 0 dX10_servedIn_16 rfl rfl ?_
    refine g_get hx 17 (C := RX10) (T := TX10) (N := 11) 6 (.ref (B + 332)) (pW σ B ae M 0 (by decide)) rfl (by decide) rfl fl_X10_50 dX10_servedIn_17 ?_
    refine g_get hx 20 (C := RX8) (T := TX8) (N := 15) 13 (.ref (B + 332 + 24)) (pW_st9 σ B ae M 0 (by decide)) rfl (by decide) rfl fl_X10_148 dX10_servedIn_20 ?_
    refine g_get hx 23 (C := RX7) (T := TX7) (N := 4) 0 (.ref (B + 332 + 25)) (pW_st9 σ B ae M 24 (by decide)) rfl (by decide) rfl fl_X10_203 dX10_servedIn_23 ?_
    refine g_iload_n hx 26 (i := 1) 1 dX10_servedIn_26 rfl rfl ?_
    refine g_callVr hx (k_get l g (st_l11 (pW_st9 σ B ae M)) (by decide) p1) lk_X10_165 ar_Ln_get (st_l11 (pW_st9 σ B ae M)).1 (T := TX2) (N := 2) rfl (As := [.int p1]) (rest := []) rfl (Nat.le_of_ble_eq_true rfl) ⟨Nat.le_of_ble_eq_true rfl, Nat.le_of_ble_eq_true rfl⟩ ⟨rfl, rfl⟩ ⟨Nat.zero_le _, Nat.zero_le _⟩ dX10_servedIn_27 ?_
    obtain ⟨v2_454, ev2_454, hr⟩ := lt'_e hr
    refine g_nmi ev2_454 ?_
    refine g_istore_n hx 30 (i := 2) [(2, .int v2_454), (0, .ref B), (1, .int p1)] dX10_servedIn_30 rfl (by decide) rfl ?_
    refine g_aload_n hx 31 (i := 0) 1 dX10_servedIn_31 rfl rfl ?_
    refine g_get hx 32 (C := RX10) (T := TX10) (N := 11) 6 (.ref (B + 332)) (pW σ B ae M 0 (by decide)) rfl (by decide) rfl fl_X10_50 dX10_servedIn_32 ?_
    refine g_get hx 35 (C := RX8) (T := TX8) (N := 15) 13 (.ref (B + 332 + 24)) (pW_st9 σ B ae M 0 (by decide)) rfl (by decide) rfl fl_X10_148 dX10_servedIn_35 ?_
    refine g_get hx 38 (C := RX7) (T := TX7) (N := 4) 1 (.ref (B + 332 + 27)) (pW_st9 σ B ae M 24 (by decide)) rfl (by decide) rfl fl_X10_186 dX10_servedIn_38 ?_
    refine g_iload_n hx 41 (i := 1) 2 dX10_servedIn_41 rfl rfl ?_
    refine g_callVr hx (k_get l g (st_l12 (pW_st9 σ B ae M)) (by decide) p1) lk_X10_165 ar_Ln_get (st_l12 (pW_st9 σ B ae M)).1 (T := TX2) (N := 2) rfl (As := [.int p1]) (rest := []) rfl (Nat.le_of_ble_eq_true rfl) ⟨Nat.le_of_ble_eq_true rfl, Nat.le_of_ble_eq_true rfl⟩ ⟨rfl, rfl⟩ ⟨Nat.zero_le _, Nat.zero_le _⟩ dX10_servedIn_42 ?_
    obtain ⟨v3_455, ev3_455, hr⟩ := lt'_e hr
    refine g_nmi ev3_455 ?_
    refine g_istore_n hx 45 (i := 3) [(3, .int v3_455), (2, .int v2_454), (0, .ref B), (1, .int p1)] dX10_servedIn_45 rfl (by decide) rfl ?_
    refine g_aload_n hx 46 (i := 0) 2 dX10_servedIn_46 rfl rfl ?_
    refine g_get hx 47 (C := RX10) (T := TX10) (N := 11) 7 (.ref (B + 367)) (pW σ B ae M 0 (by decide)) rfl (by decide) rfl fl_X10_54 dX10_servedIn_47 ?_
    refine g_aload_n hx 50 (i := 0) 2 dX10_servedIn_50 rfl rfl ?_
    refine g_get hx 51 (C := RX10) (T := TX10) (N := 11) 6 (.ref (B + 332)) (pW σ B ae M 0 (by decide)) rfl (by decide) rfl fl_X10_50 dX10_servedIn_51 ?_
    obtain ⟨M_456, eM_456, hr⟩ := lt'_e hr
    refine g_callVv hx (MG.at10 (w := M) (c_St_copyFrom (pW_st9 σ B ae M) (by omega) l g (M.1 10) eM_456.symm)) lk_X10_106 ar_St_copyFrom (pW_st10 σ B ae M 0 (by decide)) (T := TX8) (N := 15) rfl (As := [.ref (B + 332)]) (rest := []) rfl (Nat.le_of_ble_eq_true rfl) ⟨Nat.le_of_ble_eq_true rfl, Nat.le_of_ble_eq_true rfl⟩ ⟨rfl, rfl⟩ ⟨Nat.zero_le _, Nat.zero_le _⟩ dX10_servedIn_54 ?_
    refine g_iconst hx 57 (1) dX10_servedIn_57 rfl ?_
    refine g_istore hx 58 (i := 4) [(4, .int 1), (3, .int v3_455), (2, .int v2_454), (0, .ref B), (1, .int p1)] dX10_servedIn_58 (by decide) rfl ?_
    refine g_ls [3, 4, 2, 1, 0] [(0, .ref B), (1, .int p1), (2, .int v2_454), (3, .int v3_455), (4, .int 1)] rfl ?_
    exact w_SA_servedIn_L60 hx hC hR FU (setS M 10 M_456) p1 v2_454 v3_455 1 hr
  · have hr := (if_pos hc_453).symm.trans hr
    refine g_iconst hx 14 (-1) dX10_servedIn_14 rfl ?_
    exact g_iret hx hR 15 dX10_servedIn_15 ⟨by rw [← Option.some.inj hr] <;> rfl, by rw [← Option.some.inj hr] <;> rfl⟩
def SA_servedBy (M : WM) (p1 : Int32) : Option (Int32 × WM) := if p1 < 0 then (none) else (if p1 ≤ 60 then (lt' (St_copyFrom (M.1 9) (M.1 10)) fun M_467 => Option.bind (St_passDays M_467 p1 1059) fun q_468 => some ((q_468.1, setS (setS M 10 M_467) 10 q_468.2))) else (none))
set_option maxRecDepth 100000 in
set_option maxHeartbeats 4000000 in
theorem c_SA_servedBy {ad ae : Nat → Nat} (l : Launch) (g : Gl) (hC : KAll g ad ae) (σ : Hp) (B : Nat) (M : WM) (p1 : Int32) {r : Int32 × WM} (hr : SA_servedBy M p1 = some r) : MG l g md_SA_servedBy [.ref B, .int p1] (putW σ B ae M) (rs (some (.int r.1)) (putW σ B ae r.2)) := by
  refine MG.intro (by decide +kernel) (Nat.le_of_ble_eq_true rfl) (fun X hx hR _ => ?_)
  unfold SA_servedBy at hr
  refine g_ls [0, 1] [(0, .ref B), (1, .int p1)] rfl ?_
  refine g_iload_n hx 0 (i := 1) 1 dX10_servedBy_0 rfl rfl ?_
  refine g_if_lt hx 1 10 dX10_servedBy_1 (by decide) (fun hc_465 => ?_) (fun hc_465 => ?_)
  · have hr := (if_pos hc_465).symm.trans hr
    cases hr
  · have hr := (if_neg hc_465).symm.trans hr
    refine g_iload_n hx 4 (i := 1) 1 dX10_servedBy_4 rfl rfl ?_
    refine g_bipush hx 5 (60) dX10_servedBy_5 rfl ?_
    refine g_icmp_le hx 7 21 dX10_servedBy_7 (by decide) (fun hc_466 => ?_) (fun hc_466 => ?_)
    · have hr := (if_pos hc_466).symm.trans hr
      refine g_aload_n hx 21 (i := 0) 0 dX10_servedBy_21 rfl rfl ?_
      refine g_get hx 22 (C := RX10) (T := TX10) (N := 11) 7 (.ref (B + 367)) (pW σ B ae M 0 (by decide)) rfl (by decide) rfl fl_X10_54 dX10_servedBy_22 ?_
      refine g_aload_n hx 25 (i := 0) 0 dX10_servedBy_25 rfl rfl ?_
      refine g_get hx 26 (C := RX10) (T := TX10) (N := 11) 6 (.ref (B + 332)) (pW σ B ae M 0 (by decide)) rfl (by decide) rfl fl_X10_50 dX10_servedBy_26 ?_
      obtain ⟨M_467, eM_467, hr⟩ := lt'_e hr
      refine g_callVv hx (MG.at10 (w := M) (c_St_copyFrom (pW_st9 σ B ae M) (by omega) l g (M.1 10) eM_467.symm)) lk_X10_106 ar_St_copyFrom (pW_st10 σ B ae M 0 (by decide)) (T := TX8) (N := 15) rfl (As := [.ref (B + 332)]) (rest := []) rfl (Nat.le_of_ble_eq_true rfl) ⟨Nat.le_of_ble_eq_true rfl, Nat.le_of_ble_eq_true rfl⟩ ⟨rfl, rfl⟩ ⟨Nat.zero_le _, Nat.zero_le _⟩ dX10_servedBy_29 ?_
      refine g_aload_n hx 32 (i := 0) 0 dX10_servedBy_32 rfl rfl ?_
      refine g_get hx 33 (C := RX10) (T := TX10) (N := 11) 7 (.ref (B + 367)) (pW σ B ae (setS M 10 M_467) 0 (by decide)) rfl (by decide) rfl fl_X10_54 dX10_servedBy_33 ?_
      refine g_iload_n hx 36 (i := 1) 1 dX10_servedBy_36 rfl rfl ?_
      refine g_sipush hx 37 (1059) dX10_servedBy_37 rfl ?_
      obtain ⟨q_468, eq_468, hr⟩ := bind_e hr
      refine g_callVr hx (MG.at10 (w := setS M 10 M_467) (c_St_passDays l g (putW σ B ae (setS M 10 M_467)) (B + 367) M_467 p1 1059 eq_468)) lk_X10_272 ar_St_passDays (pW_st10 σ B ae (setS M 10 M_467) 0 (by decide)) (T := TX8) (N := 15) rfl (As := [.int p1, .int 1059]) (rest := []) rfl (Nat.le_of_ble_eq_true rfl) ⟨Nat.le_of_ble_eq_true rfl, Nat.le_of_ble_eq_true rfl⟩ ⟨rfl, rfl⟩ ⟨Nat.zero_le _, Nat.zero_le _⟩ dX10_servedBy_40 ?_
      exact g_iret hx hR 43 dX10_servedBy_43 ⟨by rw [← Option.some.inj hr] <;> rfl, by rw [← Option.some.inj hr] <;> rfl⟩
    · have hr := (if_neg hc_466).symm.trans hr
      cases hr
def SA_waitingIn (M : WM) (p1 : Int32) : Option (Int32 × WM) := if p1 < 0 then (none) else (if p1 ≤ 60 then (lt' (St_copyFrom (M.1 9) (M.1 10)) fun M_471 => Option.bind (St_passDays M_471 p1 1059) fun q_472 => some ((Sl_count q_472.2, setS (setS M 10 M_471) 10 q_472.2))) else (none))
set_option maxRecDepth 100000 in
set_option maxHeartbeats 4000000 in
theorem c_SA_waitingIn {ad ae : Nat → Nat} (l : Launch) (g : Gl) (hC : KAll g ad ae) (σ : Hp) (B : Nat) (M : WM) (p1 : Int32) {r : Int32 × WM} (hr : SA_waitingIn M p1 = some r) : MG l g md_SA_waitingIn [.ref B, .int p1] (putW σ B ae M) (rs (some (.int r.1)) (putW σ B ae r.2)) := by
  refine MG.intro (by decide +kernel) (Nat.le_of_ble_eq_true rfl) (fun X hx hR _ => ?_)
  unfold SA_waitingIn at hr
  refine g_ls [0, 1] [(0, .ref B), (1, .int p1)] rfl ?_
  refine g_iload_n hx 0 (i := 1) 1 dX10_waitingIn_0 rfl rfl ?_
  refine g_if_lt hx 1 10 dX10_waitingIn_1 (by decide) (fun hc_469 => ?_) (fun hc_469 => ?_)
  · have hr := (if_pos hc_469).symm.trans hr
    cases hr
  · have hr := (if_neg hc_469).symm.trans hr
    refine g_iload_n hx 4 (i := 1) 1 dX10_waitingIn_4 rfl rfl ?_
    refine g_bipush hx 5 (60) dX10_waitingIn_5 rfl ?_
    refine g_icmp_le hx 7 21 dX10_waitingIn_7 (by decide) (fun hc_470 => ?_) (fun hc_470 => ?_)
    · have hr := (if_pos hc_470).symm.trans hr
      refine g_aload_n hx 21 (i := 0) 0 dX10_waitingIn_21 rfl rfl ?_
      refine g_get hx 22 (C := RX10) (T := TX10) (N := 11) 7 (.ref (B + 367)) (pW σ B ae M 0 (by decide)) rfl (by decide) rfl fl_X10_54 dX10_waitingIn_22 ?_
      refine g_aload_n hx 25 (i := 0) 0 dX10_waitingIn_25 rfl rfl ?_
      refine g_get hx 26 (C := RX10) (T := TX10) (N := 11) 6 (.ref (B + 332)) (pW σ B ae M 0 (by decide)) rfl (by decide) rfl fl_X10_50 dX10_waitingIn_26 ?_
      obtain ⟨M_471, eM_471, hr⟩ := lt'_e hr
      refine g_callVv hx (MG.at10 (w := M) (c_St_copyFrom (pW_st9 σ B ae M) (by omega) l g (M.1 10) eM_471.symm)) lk_X10_106 ar_St_copyFrom (pW_st10 σ B ae M 0 (by decide)) (T := TX8) (N := 15) rfl (As := [.ref (B + 332)]) (rest := []) rfl (Nat.le_of_ble_eq_true rfl) ⟨Nat.le_of_ble_eq_true rfl, Nat.le_of_ble_eq_true rfl⟩ ⟨rfl, rfl⟩ ⟨Nat.zero_le _, Nat.zero_le _⟩ dX10_waitingIn_29 ?_
      refine g_aload_n hx 32 (i := 0) 0 dX10_waitingIn_32 rfl rfl ?_
      refine g_get hx 33 (C := RX10) (T := TX10) (N := 11) 7 (.ref (B + 367)) (pW σ B ae (setS M 10 M_471) 0 (by decide)) rfl (by decide) rfl fl_X10_54 dX10_waitingIn_33 ?_
      refine g_iload_n hx 36 (i := 1) 1 dX10_waitingIn_36 rfl rfl ?_
      refine g_sipush hx 37 (1059) dX10_waitingIn_37 rfl ?_
      obtain ⟨q_472, eq_472, hr⟩ := bind_e hr
      refine g_callVr hx (MG.at10 (w := setS M 10 M_471) (c_St_passDays l g (putW σ B ae (setS M 10 M_471)) (B + 367) M_471 p1 1059 eq_472)) lk_X10_272 ar_St_passDays (pW_st10 σ B ae (setS M 10 M_471) 0 (by decide)) (T := TX8) (N := 15) rfl (As := [.int p1, .int 1059]) (rest := []) rfl (Nat.le_of_ble_eq_true rfl) ⟨Nat.le_of_ble_eq_true rfl, Nat.le_of_ble_eq_true rfl⟩ ⟨rfl, rfl⟩ ⟨Nat.zero_le _, Nat.zero_le _⟩ dX10_waitingIn_40 ?_
      refine g_pop hx 43 dX10_waitingIn_43 rfl ?_
      refine g_aload_n hx 44 (i := 0) 0 dX10_waitingIn_44 rfl rfl ?_
      refine g_get hx 45 (C := RX10) (T := TX10) (N := 11) 7 (.ref (B + 367)) (pW σ B ae (setS (setS M 10 M_471) 10 q_472.2) 0 (by decide)) rfl (by decide) rfl fl_X10_54 dX10_waitingIn_45 ?_
      refine g_get hx 48 (C := RX8) (T := TX8) (N := 15) 13 (.ref (B + 367 + 24)) (pW_st10 σ B ae (setS (setS M 10 M_471) 10 q_472.2) 0 (by decide)) rfl (by decide) rfl fl_X10_148 dX10_waitingIn_48 ?_
      refine g_callVr hx (MG.ar10 (w := setS (setS M 10 M_471) 10 q_472.2) (c_Sl_count l g (putW σ B ae (setS (setS M 10 M_471) 10 q_472.2)) (B + 367) q_472.2 rfl)) lk_X10_152 ar_Sl_count (pW_st10 σ B ae (setS (setS M 10 M_471) 10 q_472.2) 24 (by decide)) (T := TX7) (N := 4) rfl (As := []) (rest := []) rfl (Nat.le_of_ble_eq_true rfl) ⟨Nat.le_of_ble_eq_true rfl, Nat.le_of_ble_eq_true rfl⟩ ⟨rfl, rfl⟩ ⟨Nat.zero_le _, Nat.zero_le _⟩ dX10_waitingIn_51 ?_
      exact g_iret hx hR 54 dX10_waitingIn_54 ⟨by rw [← Option.some.inj hr] <;> rfl, by rw [← Option.some.inj hr] <;> rfl⟩
    · have hr := (if_neg hc_470).symm.trans hr
      cases hr
def SA_swapsLeft (M : WM) : Option (Int32) := Option.bind (Rw_pairsInWrongOrder (M.1 9)) fun q_473 => some (q_473)
set_option maxRecDepth 100000 in
set_option maxHeartbeats 4000000 in
theorem c_SA_swapsLeft {ad ae : Nat → Nat} (l : Launch) (g : Gl) (hC : KAll g ad ae) (σ : Hp) (B : Nat) (M : WM) {r : Int32} (hr : SA_swapsLeft M = some r) : MG l g md_SA_swapsLeft [.ref B] (putW σ B ae M) (rs (some (.int r)) (putW σ B ae M)) := by
  refine MG.intro (by decide +kernel) (Nat.le_of_ble_eq_true rfl) (fun X hx hR _ => ?_)
  unfold SA_swapsLeft at hr
  refine g_ls [0] [(0, .ref B)] rfl ?_
  refine g_aload_n hx 0 (i := 0) 0 dX10_swapsLeft_0 rfl rfl ?_
  refine g_get hx 1 (C := RX10) (T := TX10) (N := 11) 6 (.ref (B + 332)) (pW σ B ae M 0 (by decide)) rfl (by decide) rfl fl_X10_50 dX10_swapsLeft_1 ?_
  refine g_get hx 4 (C := RX8) (T := TX8) (N := 15) 11 (.ref (B + 332 + 15)) (pW_st9 σ B ae M 0 (by decide)) rfl (by decide) rfl fl_X10_129 dX10_swapsLeft_4 ?_
  obtain ⟨q_473, eq_473, hr⟩ := bind_e hr
  refine g_callVr hx (MG.ar9 (w := M) (c_Rw_pairsInWrongOrder l g (putW σ B ae M) (B + 332) (M.1 9) eq_473)) lk_X10_246 ar_Rw_pairsInWrongOrder (pW_st9 σ B ae M 15 (by decide)) (T := TX5) (N := 4) rfl (As := []) (rest := []) rfl (Nat.le_of_ble_eq_true rfl) ⟨Nat.le_of_ble_eq_true rfl, Nat.le_of_ble_eq_true rfl⟩ ⟨rfl, rfl⟩ ⟨Nat.zero_le _, Nat.zero_le _⟩ dX10_swapsLeft_7 ?_
  exact g_iret hx hR 10 dX10_swapsLeft_10 ⟨by rw [← Option.some.inj hr] <;> rfl, rfl⟩
def SA_missedAfter (M : WM) (p1 : Int32) : Option (Int32 × WM) := if p1 < 0 then (none) else (if p1 ≤ 99 then (lt' (St_copyFrom (M.1 9) (M.1 10)) fun M_476 => Option.bind (Rw_swapWrongPairs M_476 p1) fun q_477 => Option.bind (Rw_missedByHalving q_477.2) fun q_478 => some ((q_478.1, setS (setS (setS M 10 M_476) 10 q_477.2) 10 q_478.2))) else (none))
set_option maxRecDepth 100000 in
set_option maxHeartbeats 4000000 in
theorem c_SA_missedAfter {ad ae : Nat → Nat} (l : Launch) (g : Gl) (hC : KAll g ad ae) (σ : Hp) (B : Nat) (M : WM) (p1 : Int32) {r : Int32 × WM} (hr : SA_missedAfter M p1 = some r) : MG l g md_SA_missedAfter [.ref B, .int p1] (putW σ B ae M) (rs (some (.int r.1)) (putW σ B ae r.2)) := by
  refine MG.intro (by decide +kernel) (Nat.le_of_ble_eq_true rfl) (fun X hx hR _ => ?_)
  unfold SA_missedAfter at hr
  refine g_ls [0, 1] [(0, .ref B), (1, .int p1)] rfl ?_
  refine g_iload_n hx 0 (i := 1) 1 dX10_missedAfter_0 rfl rfl ?_
  refine g_if_lt hx 1 10 dX10_missedAfter_1 (by decide) (fun hc_474 => ?_) (fun hc_474 => ?_)
  · have hr := (if_pos hc_474).symm.trans hr
    cases hr
  · have hr := (if_neg hc_474).symm.trans hr
    refine g_iload_n hx 4 (i := 1) 1 dX10_missedAfter_4 rfl rfl ?_
    refine g_bipush hx 5 (99) dX10_missedAfter_5 rfl ?_
    refine g_icmp_le hx 7 21 dX10_missedAfter_7 (by decide) (fun hc_475 => ?_) (fun hc_475 => ?_)
    · have hr := (if_pos hc_475).symm.trans hr
      refine g_aload_n hx 21 (i := 0) 0 dX10_missedAfter_21 rfl rfl ?_
      refine g_get hx 22 (C := RX10) (T := TX10) (N := 11) 7 (.ref (B + 367)) (pW σ B ae M 0 (by decide)) rfl (by decide) rfl fl_X10_54 dX10_missedAfter_22 ?_
      refine g_aload_n hx 25 (i := 0) 0 dX10_missedAfter_25 rfl rfl ?_
      refine g_get hx 26 (C := RX10) (T := TX10) (N := 11) 6 (.ref (B + 332)) (pW σ B ae M 0 (by decide)) rfl (by decide) rfl fl_X10_50 dX10_missedAfter_26 ?_
      obtain ⟨M_476, eM_476, hr⟩ := lt'_e hr
      refine g_callVv hx (MG.at10 (w := M) (c_St_copyFrom (pW_st9 σ B ae M) (by omega) l g (M.1 10) eM_476.symm)) lk_X10_106 ar_St_copyFrom (pW_st10 σ B ae M 0 (by decide)) (T := TX8) (N := 15) rfl (As := [.ref (B + 332)]) (rest := []) rfl (Nat.le_of_ble_eq_true rfl) ⟨Nat.le_of_ble_eq_true rfl, Nat.le_of_ble_eq_true rfl⟩ ⟨rfl, rfl⟩ ⟨Nat.zero_le _, Nat.zero_le _⟩ dX10_missedAfter_29 ?_
      refine g_aload_n hx 32 (i := 0) 0 dX10_missedAfter_32 rfl rfl ?_
      refine g_get hx 33 (C := RX10) (T := TX10) (N := 11) 7 (.ref (B + 367)) (pW σ B ae (setS M 10 M_476) 0 (by decide)) rfl (by decide) rfl fl_X10_54 dX10_missedAfter_33 ?_
      refine g_get hx 36 (C := RX8) (T := TX8) (N := 15) 11 (.ref (B + 367 + 15)) (pW_st10 σ B ae (setS M 10 M_476) 0 (by decide)) rfl (by decide) rfl fl_X10_129 dX10_missedAfter_36 ?_
      refine g_iload_n hx 39 (i := 1) 1 dX10_missedAfter_39 rfl rfl ?_
      obtain ⟨q_477, eq_477, hr⟩ := bind_e hr
      refine g_callVr hx (MG.at10 (w := setS M 10 M_476) (c_Rw_swapWrongPairs l g (putW σ B ae (setS M 10 M_476)) (B + 367) M_476 p1 eq_477)) lk_X10_279 ar_Rw_swapWrongPairs (pW_st10 σ B ae (setS M 10 M_476) 15 (by decide)) (T := TX5) (N := 4) rfl (As := [.int p1]) (rest := []) rfl (Nat.le_of_ble_eq_true rfl) ⟨Nat.le_of_ble_eq_true rfl, Nat.le_of_ble_eq_true rfl⟩ ⟨rfl, rfl⟩ ⟨Nat.zero_le _, Nat.zero_le _⟩ dX10_missedAfter_40 ?_
      refine g_pop hx 43 dX10_missedAfter_43 rfl ?_
      refine g_aload_n hx 44 (i := 0) 0 dX10_missedAfter_44 rfl rfl ?_
      refine g_get hx 45 (C := RX10) (T := TX10) (N := 11) 7 (.ref (B + 367)) (pW σ B ae (setS (setS M 10 M_476) 10 q_477.2) 0 (by decide)) rfl (by decide) rfl fl_X10_54 dX10_missedAfter_45 ?_
      refine g_get hx 48 (C := RX8) (T := TX8) (N := 15) 11 (.ref (B + 367 + 15)) (pW_st10 σ B ae (setS (setS M 10 M_476) 10 q_477.2) 0 (by decide)) rfl (by decide) rfl fl_X10_129 dX10_missedAfter_48 ?_
      obtain ⟨q_478, eq_478, hr⟩ := bind_e hr
      refine g_callVr hx (MG.at10 (w := setS (setS M 10 M_476) 10 q_477.2) (c_Rw_missedByHalving l g (putW σ B ae (setS (setS M 10 M_476) 10 q_477.2)) (B + 367) q_477.2 eq_478)) lk_X10_240 ar_Rw_missedByHalving (pW_st10 σ B ae (setS (setS M 10 M_476) 10 q_477.2) 15 (by decide)) (T := TX5) (N := 4) rfl (As := []) (rest := []) rfl (Nat.le_of_ble_eq_true rfl) ⟨Nat.le_of_ble_eq_true rfl, Nat.le_of_ble_eq_true rfl⟩ ⟨rfl, rfl⟩ ⟨Nat.zero_le _, Nat.zero_le _⟩ dX10_missedAfter_51 ?_
      exact g_iret hx hR 54 dX10_missedAfter_54 ⟨by rw [← Option.some.inj hr] <;> rfl, by rw [← Option.some.inj hr] <;> rfl⟩
    · have hr := (if_neg hc_475).symm.trans hr
      cases hr
def SA_counted (M : WM) (p1 : Int32) : Int32 × WM := lt' (if p1 < 0 then (1) else (0)) fun b_480 => (p1, setWL M 2 (lnraise (M.2.1 2) b_480 1))
set_option maxRecDepth 100000 in
set_option maxHeartbeats 4000000 in
theorem c_SA_counted {ad ae : Nat → Nat} (l : Launch) (g : Gl) (hC : KAll g ad ae) (σ : Hp) (B : Nat) (M : WM) (p1 : Int32) {r : Int32 × WM} (hr : SA_counted M p1 = r) : MG l g md_SA_counted [.ref B, .int p1] (putW σ B ae M) (rs (some (.int r.1)) (putW σ B ae r.2)) := by
  refine MG.intro (by decide +kernel) (Nat.le_of_ble_eq_true rfl) (fun X hx hR _ => ?_)
  unfold SA_counted at hr
  refine g_ls [0, 1] [(0, .ref B), (1, .int p1)] rfl ?_
  refine g_aload_n hx 0 (i := 0) 0 dX10_counted_0 rfl rfl ?_
  refine g_get hx 1 (C := RX10) (T := TX10) (N := 11) 2 (.ref (B + 5)) (pW σ B ae M 0 (by decide)) rfl (by decide) rfl fl_X10_21 dX10_counted_1 ?_
  refine g_iload_n hx 4 (i := 1) 1 dX10_counted_4 rfl rfl ?_
  obtain ⟨b_480, eb_480, hr⟩ := lt'_e' hr
  have rest : G X (putW σ B ae M) 0 0 13 [(0, .ref B), (1, .int p1)] [.int b_480, .ref (B + 5)] := by
    refine g_iconst hx 13 (1) dX10_counted_13 rfl ?_
    refine g_callVv hx (k_raise l g (pW_l2 σ B ae M) (by decide) b_480 1) lk_X10_329 ar_Ln_raise (pW_l2 σ B ae M).1 (T := TX2) (N := 2) rfl (As := [.int b_480, .int 1]) (rest := []) rfl (Nat.le_of_ble_eq_true rfl) ⟨Nat.le_of_ble_eq_true rfl, Nat.le_of_ble_eq_true rfl⟩ ⟨rfl, rfl⟩ ⟨Nat.zero_le _, Nat.zero_le _⟩ dX10_counted_14 ?_
    refine G.heap (pW_p2 σ B ae M (lnraise (M.2.1 2) b_480 1)) ?_
    refine g_iload_n hx 17 (i := 1) 1 dX10_counted_17 rfl rfl ?_
    exact g_iret hx hR 18 dX10_counted_18 ⟨by rw [← hr] <;> rfl, by rw [← hr] <;> rfl⟩
  clear hr
  have hr := eb_480
  refine g_if_lt hx 5 12 dX10_counted_5 (by decide) (fun hc_479 => ?_) (fun hc_479 => ?_)
  · have hr := (if_pos hc_479).symm.trans hr
    refine g_iconst hx 12 (1) dX10_counted_12 rfl ?_
    exact g_nmi hr.symm rest
  · have hr := (if_neg hc_479).symm.trans hr
    refine g_iconst hx 8 (0) dX10_counted_8 rfl ?_
    refine g_goto hx 9 13 dX10_counted_9 (by decide) ?_
    exact g_nmi hr.symm rest
def SA_settled (M : WM) (p1 : Int32) : Option (Int32 × WM) := if p1 < 0 then (lt' (SA_counted M p1) fun q_482 => some ((q_482.1, q_482.2))) else (Option.bind (Hi_keep M) fun M_483 => lt' (SA_counted M_483 p1) fun q_484 => some ((q_484.1, q_484.2)))
set_option maxRecDepth 100000 in
set_option maxHeartbeats 4000000 in
theorem c_SA_settled {ad ae : Nat → Nat} (l : Launch) (g : Gl) (hC : KAll g ad ae) (σ : Hp) (B : Nat) (M : WM) (p1 : Int32) {r : Int32 × WM} (hr : SA_settled M p1 = some r) : MG l g md_SA_settled [.ref B, .int p1] (putW σ B ae M) (rs (some (.int r.1)) (putW σ B ae r.2)) := by
  refine MG.intro (by decide +kernel) (Nat.le_of_ble_eq_true rfl) (fun X hx hR _ => ?_)
  unfold SA_settled at hr
  refine g_ls [0, 1] [(0, .ref B), (1, .int p1)] rfl ?_
  refine g_iload_n hx 0 (i := 1) 1 dX10_settled_0 rfl rfl ?_
  refine g_if_lt hx 1 11 dX10_settled_1 (by decide) (fun hc_481 => ?_) (fun hc_481 => ?_)
  · have hr := (if_pos hc_481).symm.trans hr
    refine g_aload_n hx 11 (i := 0) 0 dX10_settled_11 rfl rfl ?_
    refine g_iload_n hx 12 (i := 1) 1 dX10_settled_12 rfl rfl ?_
    obtain ⟨q_482, eq_482, hr⟩ := lt'_e hr
    refine g_callVr hx (c_SA_counted l g hC σ B M p1 eq_482.symm) lk_X10_323 ar_SA_counted (pW σ B ae M 0 (by decide)) (T := TX10) (N := 11) rfl (As := [.int p1]) (rest := []) rfl (Nat.le_of_ble_eq_true rfl) ⟨Nat.le_of_ble_eq_true rfl, Nat.le_of_ble_eq_true rfl⟩ ⟨rfl, rfl⟩ ⟨Nat.zero_le _, Nat.zero_le _⟩ dX10_settled_13 ?_
    exact g_iret hx hR 16 dX10_settled_16 ⟨by rw [← Option.some.inj hr] <;> rfl, by rw [← Option.some.inj hr] <;> rfl⟩
  · have hr := (if_neg hc_481).symm.trans hr
    refine g_aload_n hx 4 (i := 0) 0 dX10_settled_4 rfl rfl ?_
    refine g_get hx 5 (C := RX10) (T := TX10) (N := 11) 5 (.ref (B + 15)) (pW σ B ae M 0 (by decide)) rfl (by decide) rfl fl_X10_43 dX10_settled_5 ?_
    obtain ⟨M_483, eM_483, hr⟩ := bind_e hr
    refine g_callVv hx (c_Hi_keep l g hC σ B M eM_483) lk_X10_326 ar_Hi_keep (pW σ B ae M 15 (by decide)) (T := TX1) (N := 3) rfl (As := []) (rest := []) rfl (Nat.le_of_ble_eq_true rfl) ⟨Nat.le_of_ble_eq_true rfl, Nat.le_of_ble_eq_true rfl⟩ ⟨rfl, rfl⟩ ⟨Nat.zero_le _, Nat.zero_le _⟩ dX10_settled_8 ?_
    refine g_aload_n hx 11 (i := 0) 0 dX10_settled_11 rfl rfl ?_
    refine g_iload_n hx 12 (i := 1) 1 dX10_settled_12 rfl rfl ?_
    obtain ⟨q_484, eq_484, hr⟩ := lt'_e hr
    refine g_callVr hx (c_SA_counted l g hC σ B M_483 p1 eq_484.symm) lk_X10_323 ar_SA_counted (pW σ B ae M_483 0 (by decide)) (T := TX10) (N := 11) rfl (As := [.int p1]) (rest := []) rfl (Nat.le_of_ble_eq_true rfl) ⟨Nat.le_of_ble_eq_true rfl, Nat.le_of_ble_eq_true rfl⟩ ⟨rfl, rfl⟩ ⟨Nat.zero_le _, Nat.zero_le _⟩ dX10_settled_13 ?_
    exact g_iret hx hR 16 dX10_settled_16 ⟨by rw [← Option.some.inj hr] <;> rfl, by rw [← Option.some.inj hr] <;> rfl⟩
def SA_slip (M : WM) (p1 p2 : Int32) : Option (Int32 × WM) := if St_hasReader (M.1 9) p1 = 0 then (none) else (if St_hasFolder (M.1 9) p2 = 0 then (none) else (Option.bind (Hi_prepare M) fun M_487 => Option.bind (St_handIn (M_487.1 9) p1 p2) fun q_488 => Option.bind (SA_settled (setS M_487 9 q_488.2) q_488.1) fun q_489 => some ((q_489.1, q_489.2))))
set_option maxRecDepth 100000 in
set_option maxHeartbeats 4000000 in
theorem c_SA_slip {ad ae : Nat → Nat} (l : Launch) (g : Gl) (hC : KAll g ad ae) (σ : Hp) (B : Nat) (M : WM) (p1 p2 : Int32) {r : Int32 × WM} (hr : SA_slip M p1 p2 = some r) : MG l g md_SA_slip [.ref B, .int p1, .int p2] (putW σ B ae M) (rs (some (.int r.1)) (putW σ B ae r.2)) := by
  refine MG.intro (by decide +kernel) (Nat.le_of_ble_eq_true rfl) (fun X hx hR _ => ?_)
  unfold SA_slip at hr
  refine g_ls [0, 1, 2] [(0, .ref B), (1, .int p1), (2, .int p2)] rfl ?_
  refine g_aload_n hx 0 (i := 0) 0 dX10_slip_0 rfl rfl ?_
  refine g_get hx 1 (C := RX10) (T := TX10) (N := 11) 6 (.ref (B + 332)) (pW σ B ae M 0 (by decide)) rfl (by decide) rfl fl_X10_50 dX10_slip_1 ?_
  refine g_iload_n hx 4 (i := 1) 1 dX10_slip_4 rfl rfl ?_
  refine g_callVr hx (MG.ar9 (w := M) (c_St_hasReader l g (putW σ B ae M) (B + 332) (M.1 9) p1 rfl)) lk_X10_198 ar_St_hasReader (pW_st9 σ B ae M 0 (by decide)) (T := TX8) (N := 15) rfl (As := [.int p1]) (rest := []) rfl (Nat.le_of_ble_eq_true rfl) ⟨Nat.le_of_ble_eq_true rfl, Nat.le_of_ble_eq_true rfl⟩ ⟨rfl, rfl⟩ ⟨Nat.zero_le _, Nat.zero_le _⟩ dX10_slip_5 ?_
  refine g_if_eq hx 8 22 dX10_slip_8 (by decide) (fun hc_485 => ?_) (fun hc_485 => ?_)
  · have hr := (if_pos hc_485).symm.trans hr
    cases hr
  · have hr := (if_neg hc_485).symm.trans hr
    refine g_aload_n hx 11 (i := 0) 0 dX10_slip_11 rfl rfl ?_
    refine g_get hx 12 (C := RX10) (T := TX10) (N := 11) 6 (.ref (B + 332)) (pW σ B ae M 0 (by decide)) rfl (by decide) rfl fl_X10_50 dX10_slip_12 ?_
    refine g_iload_n hx 15 (i := 2) 2 dX10_slip_15 rfl rfl ?_
    refine g_callVr hx (MG.ar9 (w := M) (c_St_hasFolder l g (putW σ B ae M) (B + 332) (M.1 9) p2 rfl)) lk_X10_171 ar_St_hasFolder (pW_st9 σ B ae M 0 (by decide)) (T := TX8) (N := 15) rfl (As := [.int p2]) (rest := []) rfl (Nat.le_of_ble_eq_true rfl) ⟨Nat.le_of_ble_eq_true rfl, Nat.le_of_ble_eq_true rfl⟩ ⟨rfl, rfl⟩ ⟨Nat.zero_le _, Nat.zero_le _⟩ dX10_slip_16 ?_
    refine g_if_ne hx 19 32 dX10_slip_19 (by decide) (fun hc_486 => ?_) (fun hc_486 => ?_)
    · have hr := (if_neg hc_486).symm.trans hr
      refine g_aload_n hx 32 (i := 0) 0 dX10_slip_32 rfl rfl ?_
      refine g_get hx 33 (C := RX10) (T := TX10) (N := 11) 5 (.ref (B + 15)) (pW σ B ae M 0 (by decide)) rfl (by decide) rfl fl_X10_43 dX10_slip_33 ?_
      refine g_aload_n hx 36 (i := 0) 0 dX10_slip_36 rfl rfl ?_
      refine g_get hx 37 (C := RX10) (T := TX10) (N := 11) 6 (.ref (B + 332)) (pW σ B ae M 0 (by decide)) rfl (by decide) rfl fl_X10_50 dX10_slip_37 ?_
      obtain ⟨M_487, eM_487, hr⟩ := bind_e hr
      refine g_callVv hx (c_Hi_prepare l g hC σ B M eM_487) lk_X10_282 ar_Hi_prepare (pW σ B ae M 15 (by decide)) (T := TX1) (N := 3) rfl (As := [.ref (B + 332)]) (rest := []) rfl (Nat.le_of_ble_eq_true rfl) ⟨Nat.le_of_ble_eq_true rfl, Nat.le_of_ble_eq_true rfl⟩ ⟨rfl, rfl⟩ ⟨Nat.zero_le _, Nat.zero_le _⟩ dX10_slip_40 ?_
      refine g_aload_n hx 43 (i := 0) 0 dX10_slip_43 rfl rfl ?_
      refine g_aload_n hx 44 (i := 0) 0 dX10_slip_44 rfl rfl ?_
      refine g_get hx 45 (C := RX10) (T := TX10) (N := 11) 6 (.ref (B + 332)) (pW σ B ae M_487 0 (by decide)) rfl (by decide) rfl fl_X10_50 dX10_slip_45 ?_
      refine g_iload_n hx 48 (i := 1) 1 dX10_slip_48 rfl rfl ?_
      refine g_iload_n hx 49 (i := 2) 2 dX10_slip_49 rfl rfl ?_
      obtain ⟨q_488, eq_488, hr⟩ := bind_e hr
      refine g_callVr hx (MG.at9 (w := M_487) (c_St_handIn l g (putW σ B ae M_487) (B + 332) (M_487.1 9) p1 p2 eq_488)) lk_X10_285 ar_St_handIn (pW_st9 σ B ae M_487 0 (by decide)) (T := TX8) (N := 15) rfl (As := [.int p1, .int p2]) (rest := [.ref B]) rfl (Nat.le_of_ble_eq_true rfl) ⟨Nat.le_of_ble_eq_true rfl, Nat.le_of_ble_eq_true rfl⟩ ⟨rfl, rfl⟩ ⟨Nat.zero_le _, Nat.zero_le _⟩ dX10_slip_50 ?_
      obtain ⟨q_489, eq_489, hr⟩ := bind_e hr
      refine g_callVr hx (c_SA_settled l g hC σ B (setS M_487 9 q_488.2) q_488.1 eq_489) lk_X10_288 ar_SA_settled (pW σ B ae (setS M_487 9 q_488.2) 0 (by decide)) (T := TX10) (N := 11) rfl (As := [.int q_488.1]) (rest := []) rfl (Nat.le_of_ble_eq_true rfl) ⟨Nat.le_of_ble_eq_true rfl, Nat.le_of_ble_eq_true rfl⟩ ⟨rfl, rfl⟩ ⟨Nat.zero_le _, Nat.zero_le _⟩ dX10_slip_53 ?_
      exact g_iret hx hR 56 dX10_slip_56 ⟨by rw [← Option.some.inj hr] <;> rfl, by rw [← Option.some.inj hr] <;> rfl⟩
    · have hr := (if_pos hc_486).symm.trans hr
      cases hr
def SA_dropSlip (M : WM) (p1 : Int32) : Option (Int32 × WM) := Option.bind (Hi_prepare M) fun M_490 => lt' (St_takeAway (M_490.1 9) p1) fun q_491 => Option.bind (SA_settled (setS M_490 9 q_491.2) q_491.1) fun q_492 => some ((q_492.1, q_492.2))
set_option maxRecDepth 100000 in
set_option maxHeartbeats 4000000 in
theorem c_SA_dropSlip {ad ae : Nat → Nat} (l : Launch) (g : Gl) (hC : KAll g ad ae) (σ : Hp) (B : Nat) (M : WM) (p1 : Int32) {r : Int32 × WM} (hr : SA_dropSlip M p1 = some r) : MG l g md_SA_dropSlip [.ref B, .int p1] (putW σ B ae M) (rs (some (.int r.1)) (putW σ B ae r.2)) := by
  refine MG.intro (by decide +kernel) (Nat.le_of_ble_eq_true rfl) (fun X hx hR _ => ?_)
  unfold SA_dropSlip at hr
  refine g_ls [0, 1] [(0, .ref B), (1, .int p1)] rfl ?_
  refine g_aload_n hx 0 (i := 0) 0 dX10_dropSlip_0 rfl rfl ?_
  refine g_get hx 1 (C := RX10) (T := TX10) (N := 11) 5 (.ref (B + 15)) (pW σ B ae M 0 (by decide)) rfl (by decide) rfl fl_X10_43 dX10_dropSlip_1 ?_
  refine g_aload_n hx 4 (i := 0) 0 dX10_dropSlip_4 rfl rfl ?_
  refine g_get hx 5 (C := RX10) (T := TX10) (N := 11) 6 (.ref (B + 332)) (pW σ B ae M 0 (by decide)) rfl (by decide) rfl fl_X10_50 dX10_dropSlip_5 ?_
  obtain ⟨M_490, eM_490, hr⟩ := bind_e hr
  refine g_callVv hx (c_Hi_prepare l g hC σ B M eM_490) lk_X10_282 ar_Hi_prepare (pW σ B ae M 15 (by decide)) (T := TX1) (N := 3) rfl (As := [.ref (B + 332)]) (rest := []) rfl (Nat.le_of_ble_eq_true rfl) ⟨Nat.le_of_ble_eq_true rfl, Nat.le_of_ble_eq_true rfl⟩ ⟨rfl, rfl⟩ ⟨Nat.zero_le _, Nat.zero_le _⟩ dX10_dropSlip_8 ?_
  refine g_aload_n hx 11 (i := 0) 0 dX10_dropSlip_11 rfl rfl ?_
  refine g_aload_n hx 12 (i := 0) 0 dX10_dropSlip_12 rfl rfl ?_
  refine g_get hx 13 (C := RX10) (T := TX10) (N := 11) 6 (.ref (B + 332)) (pW σ B ae M_490 0 (by decide)) rfl (by decide) rfl fl_X10_50 dX10_dropSlip_13 ?_
  refine g_iload_n hx 16 (i := 1) 1 dX10_dropSlip_16 rfl rfl ?_
  obtain ⟨q_491, eq_491, hr⟩ := lt'_e hr
  refine g_callVr hx (MG.at9 (w := M_490) (c_St_takeAway l g (putW σ B ae M_490) (B + 332) (M_490.1 9) p1 eq_491.symm)) lk_X10_291 ar_St_takeAway (pW_st9 σ B ae M_490 0 (by decide)) (T := TX8) (N := 15) rfl (As := [.int p1]) (rest := [.ref B]) rfl (Nat.le_of_ble_eq_true rfl) ⟨Nat.le_of_ble_eq_true rfl, Nat.le_of_ble_eq_true rfl⟩ ⟨rfl, rfl⟩ ⟨Nat.zero_le _, Nat.zero_le _⟩ dX10_dropSlip_17 ?_
  obtain ⟨q_492, eq_492, hr⟩ := bind_e hr
  refine g_callVr hx (c_SA_settled l g hC σ B (setS M_490 9 q_491.2) q_491.1 eq_492) lk_X10_288 ar_SA_settled (pW σ B ae (setS M_490 9 q_491.2) 0 (by decide)) (T := TX10) (N := 11) rfl (As := [.int q_491.1]) (rest := []) rfl (Nat.le_of_ble_eq_true rfl) ⟨Nat.le_of_ble_eq_true rfl, Nat.le_of_ble_eq_true rfl⟩ ⟨rfl, rfl⟩ ⟨Nat.zero_le _, Nat.zero_le _⟩ dX10_dropSlip_20 ?_
  exact g_iret hx hR 23 dX10_dropSlip_23 ⟨by rw [← Option.some.inj hr] <;> rfl, by rw [← Option.some.inj hr] <;> rfl⟩
def SA_giveBack (M : WM) (p1 : Int32) : Option (Int32 × WM) := if St_hasFolder (M.1 9) p1 = 0 then (none) else (Option.bind (Hi_prepare M) fun M_494 => lt' (St_bringBack (M_494.1 9) p1) fun q_495 => Option.bind (SA_settled (setS M_494 9 q_495.2) q_495.1) fun q_496 => some ((q_496.1, q_496.2)))
set_option maxRecDepth 100000 in
set_option maxHeartbeats 4000000 in
theorem c_SA_giveBack {ad ae : Nat → Nat} (l : Launch) (g : Gl) (hC : KAll g ad ae) (σ : Hp) (B : Nat) (M : WM) (p1 : Int32) {r : Int32 × WM} (hr : SA_giveBack M p1 = some r) : MG l g md_SA_giveBack [.ref B, .int p1] (putW σ B ae M) (rs (some (.int r.1)) (putW σ B ae r.2)) := by
  refine MG.intro (by decide +kernel) (Nat.le_of_ble_eq_true rfl) (fun X hx hR _ => ?_)
  unfold SA_giveBack at hr
  refine g_ls [0, 1] [(0, .ref B), (1, .int p1)] rfl ?_
  refine g_aload_n hx 0 (i := 0) 0 dX10_giveBack_0 rfl rfl ?_
  refine g_get hx 1 (C := RX10) (T := TX10) (N := 11) 6 (.ref (B + 332)) (pW σ B ae M 0 (by decide)) rfl (by decide) rfl fl_X10_50 dX10_giveBack_1 ?_
  refine g_iload_n hx 4 (i := 1) 1 dX10_giveBack_4 rfl rfl ?_
  refine g_callVr hx (MG.ar9 (w := M) (c_St_hasFolder l g (putW σ B ae M) (B + 332) (M.1 9) p1 rfl)) lk_X10_171 ar_St_hasFolder (pW_st9 σ B ae M 0 (by decide)) (T := TX8) (N := 15) rfl (As := [.int p1]) (rest := []) rfl (Nat.le_of_ble_eq_true rfl) ⟨Nat.le_of_ble_eq_true rfl, Nat.le_of_ble_eq_true rfl⟩ ⟨rfl, rfl⟩ ⟨Nat.zero_le _, Nat.zero_le _⟩ dX10_giveBack_5 ?_
  refine g_if_ne hx 8 21 dX10_giveBack_8 (by decide) (fun hc_493 => ?_) (fun hc_493 => ?_)
  · have hr := (if_neg hc_493).symm.trans hr
    refine g_aload_n hx 21 (i := 0) 0 dX10_giveBack_21 rfl rfl ?_
    refine g_get hx 22 (C := RX10) (T := TX10) (N := 11) 5 (.ref (B + 15)) (pW σ B ae M 0 (by decide)) rfl (by decide) rfl fl_X10_43 dX10_giveBack_22 ?_
    refine g_aload_n hx 25 (i := 0) 0 dX10_giveBack_25 rfl rfl ?_
    refine g_get hx 26 (C := RX10) (T := TX10) (N := 11) 6 (.ref (B + 332)) (pW σ B ae M 0 (by decide)) rfl (by decide) rfl fl_X10_50 dX10_giveBack_26 ?_
    obtain ⟨M_494, eM_494, hr⟩ := bind_e hr
    refine g_callVv hx (c_Hi_prepare l g hC σ B M eM_494) lk_X10_282 ar_Hi_prepare (pW σ B ae M 15 (by decide)) (T := TX1) (N := 3) rfl (As := [.ref (B + 332)]) (rest := []) rfl (Nat.le_of_ble_eq_true rfl) ⟨Nat.le_of_ble_eq_true rfl, Nat.le_of_ble_eq_true rfl⟩ ⟨rfl, rfl⟩ ⟨Nat.zero_le _, Nat.zero_le _⟩ dX10_giveBack_29 ?_
    refine g_aload_n hx 32 (i := 0) 0 dX10_giveBack_32 rfl rfl ?_
    refine g_aload_n hx 33 (i := 0) 0 dX10_giveBack_33 rfl rfl ?_
    refine g_get hx 34 (C := RX10) (T := TX10) (N := 11) 6 (.ref (B + 332)) (pW σ B ae M_494 0 (by decide)) rfl (by decide) rfl fl_X10_50 dX10_giveBack_34 ?_
    refine g_iload_n hx 37 (i := 1) 1 dX10_giveBack_37 rfl rfl ?_
    obtain ⟨q_495, eq_495, hr⟩ := lt'_e hr
    refine g_callVr hx (MG.at9 (w := M_494) (c_St_bringBack l g (putW σ B ae M_494) (B + 332) (M_494.1 9) p1 eq_495.symm)) lk_X10_294 ar_St_bringBack (pW_st9 σ B ae M_494 0 (by decide)) (T := TX8) (N := 15) rfl (As := [.int p1]) (rest := [.ref B]) rfl (Nat.le_of_ble_eq_true rfl) ⟨Nat.le_of_ble_eq_true rfl, Nat.le_of_ble_eq_true rfl⟩ ⟨rfl, rfl⟩ ⟨Nat.zero_le _, Nat.zero_le _⟩ dX10_giveBack_38 ?_
    obtain ⟨q_496, eq_496, hr⟩ := bind_e hr
    refine g_callVr hx (c_SA_settled l g hC σ B (setS M_494 9 q_495.2) q_495.1 eq_496) lk_X10_288 ar_SA_settled (pW σ B ae (setS M_494 9 q_495.2) 0 (by decide)) (T := TX10) (N := 11) rfl (As := [.int q_495.1]) (rest := []) rfl (Nat.le_of_ble_eq_true rfl) ⟨Nat.le_of_ble_eq_true rfl, Nat.le_of_ble_eq_true rfl⟩ ⟨rfl, rfl⟩ ⟨Nat.zero_le _, Nat.zero_le _⟩ dX10_giveBack_41 ?_
    exact g_iret hx hR 44 dX10_giveBack_44 ⟨by rw [← Option.some.inj hr] <;> rfl, by rw [← Option.some.inj hr] <;> rfl⟩
  · have hr := (if_pos hc_493).symm.trans hr
    cases hr
def SA_days (M : WM) (p1 : Int32) : Option (Int32 × WM) := if p1 < 1 then (none) else (if p1 ≤ 60 then (Option.bind (Hi_prepare M) fun M_499 => Option.bind (St_passDays (M_499.1 9) p1 999) fun q_500 => Option.bind (SA_settled (setS M_499 9 q_500.2) q_500.1) fun q_501 => some ((q_501.1, q_501.2))) else (none))
set_option maxRecDepth 100000 in
set_option maxHeartbeats 4000000 in
theorem c_SA_days {ad ae : Nat → Nat} (l : Launch) (g : Gl) (hC : KAll g ad ae) (σ : Hp) (B : Nat) (M : WM) (p1 : Int32) {r : Int32 × WM} (hr : SA_days M p1 = some r) : MG l g md_SA_days [.ref B, .int p1] (putW σ B ae M) (rs (some (.int r.1)) (putW σ B ae r.2)) := by
  refine MG.intro (by decide +kernel) (Nat.le_of_ble_eq_true rfl) (fun X hx hR _ => ?_)
  unfold SA_days at hr
  refine g_ls [0, 1] [(0, .ref B), (1, .int p1)] rfl ?_
  refine g_iload_n hx 0 (i := 1) 1 dX10_days_0 rfl rfl ?_
  refine g_iconst hx 1 (1) dX10_days_1 rfl ?_
  refine g_icmp_lt hx 2 11 dX10_days_2 (by decide) (fun hc_497 => ?_) (fun hc_497 => ?_)
  · have hr := (if_pos hc_497).symm.trans hr
    cases hr
  · have hr := (if_neg hc_497).symm.trans hr
    refine g_iload_n hx 5 (i := 1) 1 dX10_days_5 rfl rfl ?_
    refine g_bipush hx 6 (60) dX10_days_6 rfl ?_
    refine g_icmp_le hx 8 22 dX10_days_8 (by decide) (fun hc_498 => ?_) (fun hc_498 => ?_)
    · have hr := (if_pos hc_498).symm.trans hr
      refine g_aload_n hx 22 (i := 0) 0 dX10_days_22 rfl rfl ?_
      refine g_get hx 23 (C := RX10) (T := TX10) (N := 11) 5 (.ref (B + 15)) (pW σ B ae M 0 (by decide)) rfl (by decide) rfl fl_X10_43 dX10_days_23 ?_
      refine g_aload_n hx 26 (i := 0) 0 dX10_days_26 rfl rfl ?_
      refine g_get hx 27 (C := RX10) (T := TX10) (N := 11) 6 (.ref (B + 332)) (pW σ B ae M 0 (by decide)) rfl (by decide) rfl fl_X10_50 dX10_days_27 ?_
      obtain ⟨M_499, eM_499, hr⟩ := bind_e hr
      refine g_callVv hx (c_Hi_prepare l g hC σ B M eM_499) lk_X10_282 ar_Hi_prepare (pW σ B ae M 15 (by decide)) (T := TX1) (N := 3) rfl (As := [.ref (B + 332)]) (rest := []) rfl (Nat.le_of_ble_eq_true rfl) ⟨Nat.le_of_ble_eq_true rfl, Nat.le_of_ble_eq_true rfl⟩ ⟨rfl, rfl⟩ ⟨Nat.zero_le _, Nat.zero_le _⟩ dX10_days_30 ?_
      refine g_aload_n hx 33 (i := 0) 0 dX10_days_33 rfl rfl ?_
      refine g_aload_n hx 34 (i := 0) 0 dX10_days_34 rfl rfl ?_
      refine g_get hx 35 (C := RX10) (T := TX10) (N := 11) 6 (.ref (B + 332)) (pW σ B ae M_499 0 (by decide)) rfl (by decide) rfl fl_X10_50 dX10_days_35 ?_
      refine g_iload_n hx 38 (i := 1) 1 dX10_days_38 rfl rfl ?_
      refine g_sipush hx 39 (999) dX10_days_39 rfl ?_
      obtain ⟨q_500, eq_500, hr⟩ := bind_e hr
      refine g_callVr hx (MG.at9 (w := M_499) (c_St_passDays l g (putW σ B ae M_499) (B + 332) (M_499.1 9) p1 999 eq_500)) lk_X10_272 ar_St_passDays (pW_st9 σ B ae M_499 0 (by decide)) (T := TX8) (N := 15) rfl (As := [.int p1, .int 999]) (rest := [.ref B]) rfl (Nat.le_of_ble_eq_true rfl) ⟨Nat.le_of_ble_eq_true rfl, Nat.le_of_ble_eq_true rfl⟩ ⟨rfl, rfl⟩ ⟨Nat.zero_le _, Nat.zero_le _⟩ dX10_days_42 ?_
      obtain ⟨q_501, eq_501, hr⟩ := bind_e hr
      refine g_callVr hx (c_SA_settled l g hC σ B (setS M_499 9 q_500.2) q_500.1 eq_501) lk_X10_288 ar_SA_settled (pW σ B ae (setS M_499 9 q_500.2) 0 (by decide)) (T := TX10) (N := 11) rfl (As := [.int q_500.1]) (rest := []) rfl (Nat.le_of_ble_eq_true rfl) ⟨Nat.le_of_ble_eq_true rfl, Nat.le_of_ble_eq_true rfl⟩ ⟨rfl, rfl⟩ ⟨Nat.zero_le _, Nat.zero_le _⟩ dX10_days_45 ?_
      exact g_iret hx hR 48 dX10_days_48 ⟨by rw [← Option.some.inj hr] <;> rfl, by rw [← Option.some.inj hr] <;> rfl⟩
    · have hr := (if_neg hc_498).symm.trans hr
      cases hr
def SA_misfile (M : WM) (p1 p2 : Int32) : Option (Int32 × WM) := if St_hasFolder (M.1 9) p1 = 0 then (none) else (Option.bind (Hi_prepare M) fun M_503 => lt' (Rw_moveTo (M_503.1 9) p1 p2) fun q_504 => Option.bind (SA_settled (setS M_503 9 q_504.2) q_504.1) fun q_505 => some ((q_505.1, q_505.2)))
set_option maxRecDepth 100000 in
set_option maxHeartbeats 4000000 in
theorem c_SA_misfile {ad ae : Nat → Nat} (l : Launch) (g : Gl) (hC : KAll g ad ae) (σ : Hp) (B : Nat) (M : WM) (p1 p2 : Int32) {r : Int32 × WM} (hr : SA_misfile M p1 p2 = some r) : MG l g md_SA_misfile [.ref B, .int p1, .int p2] (putW σ B ae M) (rs (some (.int r.1)) (putW σ B ae r.2)) := by
  refine MG.intro (by decide +kernel) (Nat.le_of_ble_eq_true rfl) (fun X hx hR _ => ?_)
  unfold SA_misfile at hr
  refine g_ls [0, 1, 2] [(0, .ref B), (1, .int p1), (2, .int p2)] rfl ?_
  refine g_aload_n hx 0 (i := 0) 0 dX10_misfile_0 rfl rfl ?_
  refine g_get hx 1 (C := RX10) (T := TX10) (N := 11) 6 (.ref (B + 332)) (pW σ B ae M 0 (by decide)) rfl (by decide) rfl fl_X10_50 dX10_misfile_1 ?_
  refine g_iload_n hx 4 (i := 1) 1 dX10_misfile_4 rfl rfl ?_
  refine g_callVr hx (MG.ar9 (w := M) (c_St_hasFolder l g (putW σ B ae M) (B + 332) (M.1 9) p1 rfl)) lk_X10_171 ar_St_hasFolder (pW_st9 σ B ae M 0 (by decide)) (T := TX8) (N := 15) rfl (As := [.int p1]) (rest := []) rfl (Nat.le_of_ble_eq_true rfl) ⟨Nat.le_of_ble_eq_true rfl, Nat.le_of_ble_eq_true rfl⟩ ⟨rfl, rfl⟩ ⟨Nat.zero_le _, Nat.zero_le _⟩ dX10_misfile_5 ?_
  refine g_if_ne hx 8 21 dX10_misfile_8 (by decide) (fun hc_502 => ?_) (fun hc_502 => ?_)
  · have hr := (if_neg hc_502).symm.trans hr
    refine g_aload_n hx 21 (i := 0) 0 dX10_misfile_21 rfl rfl ?_
    refine g_get hx 22 (C := RX10) (T := TX10) (N := 11) 5 (.ref (B + 15)) (pW σ B ae M 0 (by decide)) rfl (by decide) rfl fl_X10_43 dX10_misfile_22 ?_
    refine g_aload_n hx 25 (i := 0) 0 dX10_misfile_25 rfl rfl ?_
    refine g_get hx 26 (C := RX10) (T := TX10) (N := 11) 6 (.ref (B + 332)) (pW σ B ae M 0 (by decide)) rfl (by decide) rfl fl_X10_50 dX10_misfile_26 ?_
    obtain ⟨M_503, eM_503, hr⟩ := bind_e hr
    refine g_callVv hx (c_Hi_prepare l g hC σ B M eM_503) lk_X10_282 ar_Hi_prepare (pW σ B ae M 15 (by decide)) (T := TX1) (N := 3) rfl (As := [.ref (B + 332)]) (rest := []) rfl (Nat.le_of_ble_eq_true rfl) ⟨Nat.le_of_ble_eq_true rfl, Nat.le_of_ble_eq_true rfl⟩ ⟨rfl, rfl⟩ ⟨Nat.zero_le _, Nat.zero_le _⟩ dX10_misfile_29 ?_
    refine g_aload_n hx 32 (i := 0) 0 dX10_misfile_32 rfl rfl ?_
    refine g_aload_n hx 33 (i := 0) 0 dX10_misfile_33 rfl rfl ?_
    refine g_get hx 34 (C := RX10) (T := TX10) (N := 11) 6 (.ref (B + 332)) (pW σ B ae M_503 0 (by decide)) rfl (by decide) rfl fl_X10_50 dX10_misfile_34 ?_
    refine g_get hx 37 (C := RX8) (T := TX8) (N := 15) 11 (.ref (B + 332 + 15)) (pW_st9 σ B ae M_503 0 (by decide)) rfl (by decide) rfl fl_X10_129 dX10_misfile_37 ?_
    refine g_iload_n hx 40 (i := 1) 1 dX10_misfile_40 rfl rfl ?_
    refine g_iload_n hx 41 (i := 2) 2 dX10_misfile_41 rfl rfl ?_
    obtain ⟨q_504, eq_504, hr⟩ := lt'_e hr
    refine g_callVr hx (MG.at9 (w := M_503) (c_Rw_moveTo l g (putW σ B ae M_503) (B + 332) (M_503.1 9) p1 p2 eq_504.symm)) lk_X10_299 ar_Rw_moveTo (pW_st9 σ B ae M_503 15 (by decide)) (T := TX5) (N := 4) rfl (As := [.int p1, .int p2]) (rest := [.ref B]) rfl (Nat.le_of_ble_eq_true rfl) ⟨Nat.le_of_ble_eq_true rfl, Nat.le_of_ble_eq_true rfl⟩ ⟨rfl, rfl⟩ ⟨Nat.zero_le _, Nat.zero_le _⟩ dX10_misfile_42 ?_
    obtain ⟨q_505, eq_505, hr⟩ := bind_e hr
    refine g_callVr hx (c_SA_settled l g hC σ B (setS M_503 9 q_504.2) q_504.1 eq_505) lk_X10_288 ar_SA_settled (pW σ B ae (setS M_503 9 q_504.2) 0 (by decide)) (T := TX10) (N := 11) rfl (As := [.int q_504.1]) (rest := []) rfl (Nat.le_of_ble_eq_true rfl) ⟨Nat.le_of_ble_eq_true rfl, Nat.le_of_ble_eq_true rfl⟩ ⟨rfl, rfl⟩ ⟨Nat.zero_le _, Nat.zero_le _⟩ dX10_misfile_45 ?_
    exact g_iret hx hR 48 dX10_misfile_48 ⟨by rw [← Option.some.inj hr] <;> rfl, by rw [← Option.some.inj hr] <;> rfl⟩
  · have hr := (if_pos hc_502).symm.trans hr
    cases hr
def SA_straighten (M : WM) (p1 : Int32) : Option (Int32 × WM) := if St_hasFolder (M.1 9) p1 = 0 then (none) else (Option.bind (Hi_prepare M) fun M_507 => Option.bind (Rw_moveToOrder (M_507.1 9) p1) fun q_508 => Option.bind (SA_settled (setS M_507 9 q_508.2) q_508.1) fun q_509 => some ((q_509.1, q_509.2)))
set_option maxRecDepth 100000 in
set_option maxHeartbeats 4000000 in
theorem c_SA_straighten {ad ae : Nat → Nat} (l : Launch) (g : Gl) (hC : KAll g ad ae) (σ : Hp) (B : Nat) (M : WM) (p1 : Int32) {r : Int32 × WM} (hr : SA_straighten M p1 = some r) : MG l g md_SA_straighten [.ref B, .int p1] (putW σ B ae M) (rs (some (.int r.1)) (putW σ B ae r.2)) := by
  refine MG.intro (by decide +kernel) (Nat.le_of_ble_eq_true rfl) (fun X hx hR _ => ?_)
  unfold SA_straighten at hr
  refine g_ls [0, 1] [(0, .ref B), (1, .int p1)] rfl ?_
  refine g_aload_n hx 0 (i := 0) 0 dX10_straighten_0 rfl rfl ?_
  refine g_get hx 1 (C := RX10) (T := TX10) (N := 11) 6 (.ref (B + 332)) (pW σ B ae M 0 (by decide)) rfl (by decide) rfl fl_X10_50 dX10_straighten_1 ?_
  refine g_iload_n hx 4 (i := 1) 1 dX10_straighten_4 rfl rfl ?_
  refine g_callVr hx (MG.ar9 (w := M) (c_St_hasFolder l g (putW σ B ae M) (B + 332) (M.1 9) p1 rfl)) lk_X10_171 ar_St_hasFolder (pW_st9 σ B ae M 0 (by decide)) (T := TX8) (N := 15) rfl (As := [.int p1]) (rest := []) rfl (Nat.le_of_ble_eq_true rfl) ⟨Nat.le_of_ble_eq_true rfl, Nat.le_of_ble_eq_true rfl⟩ ⟨rfl, rfl⟩ ⟨Nat.zero_le _, Nat.zero_le _⟩ dX10_straighten_5 ?_
  refine g_if_ne hx 8 21 dX10_straighten_8 (by decide) (fun hc_506 => ?_) (fun hc_506 => ?_)
  · have hr := (if_neg hc_506).symm.trans hr
    refine g_aload_n hx 21 (i := 0) 0 dX10_straighten_21 rfl rfl ?_
    refine g_get hx 22 (C := RX10) (T := TX10) (N := 11) 5 (.ref (B + 15)) (pW σ B ae M 0 (by decide)) rfl (by decide) rfl fl_X10_43 dX10_straighten_22 ?_
    refine g_aload_n hx 25 (i := 0) 0 dX10_straighten_25 rfl rfl ?_
    refine g_get hx 26 (C := RX10) (T := TX10) (N := 11) 6 (.ref (B + 332)) (pW σ B ae M 0 (by decide)) rfl (by decide) rfl fl_X10_50 dX10_straighten_26 ?_
    obtain ⟨M_507, eM_507, hr⟩ := bind_e hr
    refine g_callVv hx (c_Hi_prepare l g hC σ B M eM_507) lk_X10_282 ar_Hi_prepare (pW σ B ae M 15 (by decide)) (T := TX1) (N := 3) rfl (As := [.ref (B + 332)]) (rest := []) rfl (Nat.le_of_ble_eq_true rfl) ⟨Nat.le_of_ble_eq_true rfl, Nat.le_of_ble_eq_true rfl⟩ ⟨rfl, rfl⟩ ⟨Nat.zero_le _, Nat.zero_le _⟩ dX10_straighten_29 ?_
    refine g_aload_n hx 32 (i := 0) 0 dX10_straighten_32 rfl rfl ?_
    refine g_aload_n hx 33 (i := 0) 0 dX10_straighten_33 rfl rfl ?_
    refine g_get hx 34 (C := RX10) (T := TX10) (N := 11) 6 (.ref (B + 332)) (pW σ B ae M_507 0 (by decide)) rfl (by decide) rfl fl_X10_50 dX10_straighten_34 ?_
    refine g_get hx 37 (C := RX8) (T := TX8) (N := 15) 11 (.ref (B + 332 + 15)) (pW_st9 σ B ae M_507 0 (by decide)) rfl (by decide) rfl fl_X10_129 dX10_straighten_37 ?_
    refine g_iload_n hx 40 (i := 1) 1 dX10_straighten_40 rfl rfl ?_
    obtain ⟨q_508, eq_508, hr⟩ := bind_e hr
    refine g_callVr hx (MG.at9 (w := M_507) (c_Rw_moveToOrder l g (putW σ B ae M_507) (B + 332) (M_507.1 9) p1 eq_508)) lk_X10_302 ar_Rw_moveToOrder (pW_st9 σ B ae M_507 15 (by decide)) (T := TX5) (N := 4) rfl (As := [.int p1]) (rest := [.ref B]) rfl (Nat.le_of_ble_eq_true rfl) ⟨Nat.le_of_ble_eq_true rfl, Nat.le_of_ble_eq_true rfl⟩ ⟨rfl, rfl⟩ ⟨Nat.zero_le _, Nat.zero_le _⟩ dX10_straighten_41 ?_
    obtain ⟨q_509, eq_509, hr⟩ := bind_e hr
    refine g_callVr hx (c_SA_settled l g hC σ B (setS M_507 9 q_508.2) q_508.1 eq_509) lk_X10_288 ar_SA_settled (pW σ B ae (setS M_507 9 q_508.2) 0 (by decide)) (T := TX10) (N := 11) rfl (As := [.int q_508.1]) (rest := []) rfl (Nat.le_of_ble_eq_true rfl) ⟨Nat.le_of_ble_eq_true rfl, Nat.le_of_ble_eq_true rfl⟩ ⟨rfl, rfl⟩ ⟨Nat.zero_le _, Nat.zero_le _⟩ dX10_straighten_44 ?_
    exact g_iret hx hR 47 dX10_straighten_47 ⟨by rw [← Option.some.inj hr] <;> rfl, by rw [← Option.some.inj hr] <;> rfl⟩
  · have hr := (if_pos hc_506).symm.trans hr
    cases hr
def SA_check (M : WM) (p1 : Int32) : Option (Int32 × WM) := if p1 < 1 then (none) else (if p1 ≤ 99 then (Option.bind (Hi_prepare M) fun M_512 => Option.bind (St_swapNeighbours (M_512.1 9) p1) fun q_513 => Option.bind (SA_settled (setS M_512 9 q_513.2) q_513.1) fun q_514 => some ((q_514.1, q_514.2))) else (none))
set_option maxRecDepth 100000 in
set_option maxHeartbeats 4000000 in
theorem c_SA_check {ad ae : Nat → Nat} (l : Launch) (g : Gl) (hC : KAll g ad ae) (σ : Hp) (B : Nat) (M : WM) (p1 : Int32) {r : Int32 × WM} (hr : SA_check M p1 = some r) : MG l g md_SA_check [.ref B, .int p1] (putW σ B ae M) (rs (some (.int r.1)) (putW σ B ae r.2)) := by
  refine MG.intro (by decide +kernel) (Nat.le_of_ble_eq_true rfl) (fun X hx hR _ => ?_)
  unfold SA_check at hr
  refine g_ls [0, 1] [(0, .ref B), (1, .int p1)] rfl ?_
  refine g_iload_n hx 0 (i := 1) 1 dX10_check_0 rfl rfl ?_
  refine g_iconst hx 1 (1) dX10_check_1 rfl ?_
  refine g_icmp_lt hx 2 11 dX10_check_2 (by decide) (fun hc_510 => ?_) (fun hc_510 => ?_)
  · have hr := (if_pos hc_510).symm.trans hr
    cases hr
  · have hr := (if_neg hc_510).symm.trans hr
    refine g_iload_n hx 5 (i := 1) 1 dX10_check_5 rfl rfl ?_
    refine g_bipush hx 6 (99) dX10_check_6 rfl ?_
    refine g_icmp_le hx 8 22 dX10_check_8 (by decide) (fun hc_511 => ?_) (fun hc_511 => ?_)
    · have hr := (if_pos hc_511).symm.trans hr
      refine g_aload_n hx 22 (i := 0) 0 dX10_check_22 rfl rfl ?_
      refine g_get hx 23 (C := RX10) (T := TX10) (N := 11) 5 (.ref (B + 15)) (pW σ B ae M 0 (by decide)) rfl (by decide) rfl fl_X10_43 dX10_check_23 ?_
      refine g_aload_n hx 26 (i := 0) 0 dX10_check_26 rfl rfl ?_
      refine g_get hx 27 (C := RX10) (T := TX10) (N := 11) 6 (.ref (B + 332)) (pW σ B ae M 0 (by decide)) rfl (by decide) rfl fl_X10_50 dX10_check_27 ?_
      obtain ⟨M_512, eM_512, hr⟩ := bind_e hr
      refine g_callVv hx (c_Hi_prepare l g hC σ B M eM_512) lk_X10_282 ar_Hi_prepare (pW σ B ae M 15 (by decide)) (T := TX1) (N := 3) rfl (As := [.ref (B + 332)]) (rest := []) rfl (Nat.le_of_ble_eq_true rfl) ⟨Nat.le_of_ble_eq_true rfl, Nat.le_of_ble_eq_true rfl⟩ ⟨rfl, rfl⟩ ⟨Nat.zero_le _, Nat.zero_le _⟩ dX10_check_30 ?_
      refine g_aload_n hx 33 (i := 0) 0 dX10_check_33 rfl rfl ?_
      refine g_aload_n hx 34 (i := 0) 0 dX10_check_34 rfl rfl ?_
      refine g_get hx 35 (C := RX10) (T := TX10) (N := 11) 6 (.ref (B + 332)) (pW σ B ae M_512 0 (by decide)) rfl (by decide) rfl fl_X10_50 dX10_check_35 ?_
      refine g_iload_n hx 38 (i := 1) 1 dX10_check_38 rfl rfl ?_
      obtain ⟨q_513, eq_513, hr⟩ := bind_e hr
      refine g_callVr hx (MG.at9 (w := M_512) (c_St_swapNeighbours l g (putW σ B ae M_512) (B + 332) (M_512.1 9) p1 eq_513)) lk_X10_307 ar_St_swapNeighbours (pW_st9 σ B ae M_512 0 (by decide)) (T := TX8) (N := 15) rfl (As := [.int p1]) (rest := [.ref B]) rfl (Nat.le_of_ble_eq_true rfl) ⟨Nat.le_of_ble_eq_true rfl, Nat.le_of_ble_eq_true rfl⟩ ⟨rfl, rfl⟩ ⟨Nat.zero_le _, Nat.zero_le _⟩ dX10_check_39 ?_
      obtain ⟨q_514, eq_514, hr⟩ := bind_e hr
      refine g_callVr hx (c_SA_settled l g hC σ B (setS M_512 9 q_513.2) q_513.1 eq_514) lk_X10_288 ar_SA_settled (pW σ B ae (setS M_512 9 q_513.2) 0 (by decide)) (T := TX10) (N := 11) rfl (As := [.int q_513.1]) (rest := []) rfl (Nat.le_of_ble_eq_true rfl) ⟨Nat.le_of_ble_eq_true rfl, Nat.le_of_ble_eq_true rfl⟩ ⟨rfl, rfl⟩ ⟨Nat.zero_le _, Nat.zero_le _⟩ dX10_check_42 ?_
      exact g_iret hx hR 45 dX10_check_45 ⟨by rw [← Option.some.inj hr] <;> rfl, by rw [← Option.some.inj hr] <;> rfl⟩
    · have hr := (if_neg hc_511).symm.trans hr
      cases hr
def SA_setEmbargo (M : WM) (p1 p2 : Int32) : Option (Int32 × WM) := if St_hasFolder (M.1 9) p1 = 0 then (none) else (if p2 < 0 then (none) else (if p2 ≤ 999 then (Option.bind (Hi_prepare M) fun M_518 => lt' (St_closeUntil (M_518.1 9) p1 p2) fun q_519 => Option.bind (SA_settled (setS M_518 9 q_519.2) q_519.1) fun q_520 => some ((q_520.1, q_520.2))) else (none)))
set_option maxRecDepth 100000 in
set_option maxHeartbeats 4000000 in
theorem c_SA_setEmbargo {ad ae : Nat → Nat} (l : Launch) (g : Gl) (hC : KAll g ad ae) (σ : Hp) (B : Nat) (M : WM) (p1 p2 : Int32) {r : Int32 × WM} (hr : SA_setEmbargo M p1 p2 = some r) : MG l g md_SA_setEmbargo [.ref B, .int p1, .int p2] (putW σ B ae M) (rs (some (.int r.1)) (putW σ B ae r.2)) := by
  refine MG.intro (by decide +kernel) (Nat.le_of_ble_eq_true rfl) (fun X hx hR _ => ?_)
  unfold SA_setEmbargo at hr
  refine g_ls [0, 1, 2] [(0, .ref B), (1, .int p1), (2, .int p2)] rfl ?_
  refine g_aload_n hx 0 (i := 0) 0 dX10_setEmbargo_0 rfl rfl ?_
  refine g_get hx 1 (C := RX10) (T := TX10) (N := 11) 6 (.ref (B + 332)) (pW σ B ae M 0 (by decide)) rfl (by decide) rfl fl_X10_50 dX10_setEmbargo_1 ?_
  refine g_iload_n hx 4 (i := 1) 1 dX10_setEmbargo_4 rfl rfl ?_
  refine g_callVr hx (MG.ar9 (w := M) (c_St_hasFolder l g (putW σ B ae M) (B + 332) (M.1 9) p1 rfl)) lk_X10_171 ar_St_hasFolder (pW_st9 σ B ae M 0 (by decide)) (T := TX8) (N := 15) rfl (As := [.int p1]) (rest := []) rfl (Nat.le_of_ble_eq_true rfl) ⟨Nat.le_of_ble_eq_true rfl, Nat.le_of_ble_eq_true rfl⟩ ⟨rfl, rfl⟩ ⟨Nat.zero_le _, Nat.zero_le _⟩ dX10_setEmbargo_5 ?_
  refine g_if_ne hx 8 21 dX10_setEmbargo_8 (by decide) (fun hc_515 => ?_) (fun hc_515 => ?_)
  · have hr := (if_neg hc_515).symm.trans hr
    refine g_iload_n hx 21 (i := 2) 2 dX10_setEmbargo_21 rfl rfl ?_
    refine g_if_lt hx 22 32 dX10_setEmbargo_22 (by decide) (fun hc_516 => ?_) (fun hc_516 => ?_)
    · have hr := (if_pos hc_516).symm.trans hr
      cases hr
    · have hr := (if_neg hc_516).symm.trans hr
      refine g_iload_n hx 25 (i := 2) 2 dX10_setEmbargo_25 rfl rfl ?_
      refine g_sipush hx 26 (999) dX10_setEmbargo_26 rfl ?_
      refine g_icmp_le hx 29 43 dX10_setEmbargo_29 (by decide) (fun hc_517 => ?_) (fun hc_517 => ?_)
      · have hr := (if_pos hc_517).symm.trans hr
        refine g_aload_n hx 43 (i := 0) 0 dX10_setEmbargo_43 rfl rfl ?_
        refine g_get hx 44 (C := RX10) (T := TX10) (N := 11) 5 (.ref (B + 15)) (pW σ B ae M 0 (by decide)) rfl (by decide) rfl fl_X10_43 dX10_setEmbargo_44 ?_
        refine g_aload_n hx 47 (i := 0) 0 dX10_setEmbargo_47 rfl rfl ?_
        refine g_get hx 48 (C := RX10) (T := TX10) (N := 11) 6 (.ref (B + 332)) (pW σ B ae M 0 (by decide)) rfl (by decide) rfl fl_X10_50 dX10_setEmbargo_48 ?_
        obtain ⟨M_518, eM_518, hr⟩ := bind_e hr
        refine g_callVv hx (c_Hi_prepare l g hC σ B M eM_518) lk_X10_282 ar_Hi_prepare (pW σ B ae M 15 (by decide)) (T := TX1) (N := 3) rfl (As := [.ref (B + 332)]) (rest := []) rfl (Nat.le_of_ble_eq_true rfl) ⟨Nat.le_of_ble_eq_true rfl, Nat.le_of_ble_eq_true rfl⟩ ⟨rfl, rfl⟩ ⟨Nat.zero_le _, Nat.zero_le _⟩ dX10_setEmbargo_51 ?_
        refine g_aload_n hx 54 (i := 0) 0 dX10_setEmbargo_54 rfl rfl ?_
        refine g_aload_n hx 55 (i := 0) 0 dX10_setEmbargo_55 rfl rfl ?_
        refine g_get hx 56 (C := RX10) (T := TX10) (N := 11) 6 (.ref (B + 332)) (pW σ B ae M_518 0 (by decide)) rfl (by decide) rfl fl_X10_50 dX10_setEmbargo_56 ?_
        refine g_iload_n hx 59 (i := 1) 1 dX10_setEmbargo_59 rfl rfl ?_
        refine g_iload_n hx 60 (i := 2) 2 dX10_setEmbargo_60 rfl rfl ?_
        obtain ⟨q_519, eq_519, hr⟩ := lt'_e hr
        refine g_callVr hx (MG.at9 (w := M_518) (c_St_closeUntil l g (putW σ B ae M_518) (B + 332) (M_518.1 9) p1 p2 eq_519.symm)) lk_X10_312 ar_St_closeUntil (pW_st9 σ B ae M_518 0 (by decide)) (T := TX8) (N := 15) rfl (As := [.int p1, .int p2]) (rest := [.ref B]) rfl (Nat.le_of_ble_eq_true rfl) ⟨Nat.le_of_ble_eq_true rfl, Nat.le_of_ble_eq_true rfl⟩ ⟨rfl, rfl⟩ ⟨Nat.zero_le _, Nat.zero_le _⟩ dX10_setEmbargo_61 ?_
        obtain ⟨q_520, eq_520, hr⟩ := bind_e hr
        refine g_callVr hx (c_SA_settled l g hC σ B (setS M_518 9 q_519.2) q_519.1 eq_520) lk_X10_288 ar_SA_settled (pW σ B ae (setS M_518 9 q_519.2) 0 (by decide)) (T := TX10) (N := 11) rfl (As := [.int q_519.1]) (rest := []) rfl (Nat.le_of_ble_eq_true rfl) ⟨Nat.le_of_ble_eq_true rfl, Nat.le_of_ble_eq_true rfl⟩ ⟨rfl, rfl⟩ ⟨Nat.zero_le _, Nat.zero_le _⟩ dX10_setEmbargo_64 ?_
        exact g_iret hx hR 67 dX10_setEmbargo_67 ⟨by rw [← Option.some.inj hr] <;> rfl, by rw [← Option.some.inj hr] <;> rfl⟩
      · have hr := (if_neg hc_517).symm.trans hr
        cases hr
  · have hr := (if_pos hc_515).symm.trans hr
    cases hr
def SA_undoCount (M : WM) : Int32 := Hi_count M
set_option maxRecDepth 100000 in
set_option maxHeartbeats 4000000 in
theorem c_SA_undoCount {ad ae : Nat → Nat} (l : Launch) (g : Gl) (hC : KAll g ad ae) (σ : Hp) (B : Nat) (M : WM) {r : Int32} (hr : SA_undoCount M = r) : MG l g md_SA_undoCount [.ref B] (putW σ B ae M) (rs (some (.int r)) (putW σ B ae M)) := by
  refine MG.intro (by decide +kernel) (Nat.le_of_ble_eq_true rfl) (fun X hx hR _ => ?_)
  unfold SA_undoCount at hr
  refine g_ls [0] [(0, .ref B)] rfl ?_
  refine g_aload_n hx 0 (i := 0) 0 dX10_undoCount_0 rfl rfl ?_
  refine g_get hx 1 (C := RX10) (T := TX10) (N := 11) 5 (.ref (B + 15)) (pW σ B ae M 0 (by decide)) rfl (by decide) rfl fl_X10_43 dX10_undoCount_1 ?_
  refine g_callVr hx (c_Hi_count l g hC σ B M rfl) lk_X10_362 ar_Hi_count (pW σ B ae M 15 (by decide)) (T := TX1) (N := 3) rfl (As := []) (rest := []) rfl (Nat.le_of_ble_eq_true rfl) ⟨Nat.le_of_ble_eq_true rfl, Nat.le_of_ble_eq_true rfl⟩ ⟨rfl, rfl⟩ ⟨Nat.zero_le _, Nat.zero_le _⟩ dX10_undoCount_4 ?_
  exact g_iret hx hR 7 dX10_undoCount_7 ⟨by rw [← hr] <;> rfl, rfl⟩
def SA_undo (M : WM) : Option (Int32 × WM) := Option.bind (Hi_takeBack M) fun q_521 => if q_521.1 = 0 then (some (((-1), q_521.2))) else (some ((Hi_count (setWL q_521.2 2 (lnraise (q_521.2.2.1 2) 2 1)), setWL q_521.2 2 (lnraise (q_521.2.2.1 2) 2 1))))
set_option maxRecDepth 100000 in
set_option maxHeartbeats 4000000 in
theorem c_SA_undo {ad ae : Nat → Nat} (l : Launch) (g : Gl) (hC : KAll g ad ae) (σ : Hp) (B : Nat) (M : WM) {r : Int32 × WM} (hr : SA_undo M = some r) : MG l g md_SA_undo [.ref B] (putW σ B ae M) (rs (some (.int r.1)) (putW σ B ae r.2)) := by
  refine MG.intro (by decide +kernel) (Nat.le_of_ble_eq_true rfl) (fun X hx hR _ => ?_)
  unfold SA_undo at hr
  refine g_ls [0] [(0, .ref B)] rfl ?_
  refine g_aload_n hx 0 (i := 0) 0 dX10_undo_0 rfl rfl ?_
  refine g_get hx 1 (C := RX10) (T := TX10) (N := 11) 5 (.ref (B + 15)) (pW σ B ae M 0 (by decide)) rfl (by decide) rfl fl_X10_43 dX10_undo_1 ?_
  refine g_aload_n hx 4 (i := 0) 0 dX10_undo_4 rfl rfl ?_
  refine g_get hx 5 (C := RX10) (T := TX10) (N := 11) 6 (.ref (B + 332)) (pW σ B ae M 0 (by decide)) rfl (by decide) rfl fl_X10_50 dX10_undo_5 ?_
  obtain ⟨q_521, eq_521, hr⟩ := bind_e hr
  refine g_callVr hx (c_Hi_takeBack l g hC σ B M eq_521) lk_X10_363 ar_Hi_takeBack (pW σ B ae M 15 (by decide)) (T := TX1) (N := 3) rfl (As := [.ref (B + 332)]) (rest := []) rfl (Nat.le_of_ble_eq_true rfl) ⟨Nat.le_of_ble_eq_true rfl, Nat.le_of_ble_eq_true rfl⟩ ⟨rfl, rfl⟩ ⟨Nat.zero_le _, Nat.zero_le _⟩ dX10_undo_8 ?_
  refine g_if_ne hx 11 16 dX10_undo_11 (by decide) (fun hc_522 => ?_) (fun hc_522 => ?_)
  · have hr := (if_neg hc_522).symm.trans hr
    refine g_aload_n hx 16 (i := 0) 0 dX10_undo_16 rfl rfl ?_
    refine g_get hx 17 (C := RX10) (T := TX10) (N := 11) 2 (.ref (B + 5)) (pW σ B ae q_521.2 0 (by decide)) rfl (by decide) rfl fl_X10_21 dX10_undo_17 ?_
    refine g_iconst hx 20 (2) dX10_undo_20 rfl ?_
    refine g_iconst hx 21 (1) dX10_undo_21 rfl ?_
    refine g_callVv hx (k_raise l g (pW_l2 σ B ae q_521.2) (by decide) 2 1) lk_X10_329 ar_Ln_raise (pW_l2 σ B ae q_521.2).1 (T := TX2) (N := 2) rfl (As := [.int 2, .int 1]) (rest := []) rfl (Nat.le_of_ble_eq_true rfl) ⟨Nat.le_of_ble_eq_true rfl, Nat.le_of_ble_eq_true rfl⟩ ⟨rfl, rfl⟩ ⟨Nat.zero_le _, Nat.zero_le _⟩ dX10_undo_22 ?_
    refine G.heap (pW_p2 σ B ae q_521.2 (lnraise (q_521.2.2.1 2) 2 1)) ?_
    refine g_aload_n hx 25 (i := 0) 0 dX10_undo_25 rfl rfl ?_
    refine g_get hx 26 (C := RX10) (T := TX10) (N := 11) 5 (.ref (B + 15)) (pW σ B ae (setWL q_521.2 2 (lnraise (q_521.2.2.1 2) 2 1)) 0 (by decide)) rfl (by decide) rfl fl_X10_43 dX10_undo_26 ?_
    refine g_callVr hx (c_Hi_count l g hC σ B (setWL q_521.2 2 (lnraise (q_521.2.2.1 2) 2 1)) rfl) lk_X10_362 ar_Hi_count (pW σ B ae (setWL q_521.2 2 (lnraise (q_521.2.2.1 2) 2 1)) 15 (by decide)) (T := TX1) (N := 3) rfl (As := []) (rest := []) rfl (Nat.le_of_ble_eq_true rfl) ⟨Nat.le_of_ble_eq_true rfl, Nat.le_of_ble_eq_true rfl⟩ ⟨rfl, rfl⟩ ⟨Nat.zero_le _, Nat.zero_le _⟩ dX10_undo_29 ?_
    exact g_iret hx hR 32 dX10_undo_32 ⟨by rw [← Option.some.inj hr] <;> rfl, by rw [← Option.some.inj hr] <;> rfl⟩
  · have hr := (if_pos hc_522).symm.trans hr
    refine g_iconst hx 14 (-1) dX10_undo_14 rfl ?_
    exact g_iret hx hR 15 dX10_undo_15 ⟨by rw [← Option.some.inj hr] <;> rfl, by rw [← Option.some.inj hr] <;> rfl⟩
def SA_saveSnapshot (M : WM) : WM := lt' (St_copyFrom (M.1 9) (M.1 11)) fun M_523 => setWI (setS M 11 M_523) 9 1
set_option maxRecDepth 100000 in
set_option maxHeartbeats 4000000 in
theorem c_SA_saveSnapshot {ad ae : Nat → Nat} (l : Launch) (g : Gl) (hC : KAll g ad ae) (σ : Hp) (B : Nat) (M : WM) {r : WM} (hr : SA_saveSnapshot M = r) : MG l g md_SA_saveSnapshot [.ref B] (putW σ B ae M) (rs none (putW σ B ae r)) := by
  refine MG.intro (by decide +kernel) (Nat.le_of_ble_eq_true rfl) (fun X hx hR _ => ?_)
  unfold SA_saveSnapshot at hr
  refine g_ls [0] [(0, .ref B)] rfl ?_
  refine g_aload_n hx 0 (i := 0) 0 dX10_saveSnapshot_0 rfl rfl ?_
  refine g_get hx 1 (C := RX10) (T := TX10) (N := 11) 8 (.ref (B + 402)) (pW σ B ae M 0 (by decide)) rfl (by decide) rfl fl_X10_57 dX10_saveSnapshot_1 ?_
  refine g_aload_n hx 4 (i := 0) 0 dX10_saveSnapshot_4 rfl rfl ?_
  refine g_get hx 5 (C := RX10) (T := TX10) (N := 11) 6 (.ref (B + 332)) (pW σ B ae M 0 (by decide)) rfl (by decide) rfl fl_X10_50 dX10_saveSnapshot_5 ?_
  obtain ⟨M_523, eM_523, hr⟩ := lt'_e hr
  refine g_callVv hx (MG.at11 (w := M) (c_St_copyFrom (pW_st9 σ B ae M) (by omega) l g (M.1 11) eM_523.symm)) lk_X10_106 ar_St_copyFrom (pW_st11 σ B ae M 0 (by decide)) (T := TX8) (N := 15) rfl (As := [.ref (B + 332)]) (rest := []) rfl (Nat.le_of_ble_eq_true rfl) ⟨Nat.le_of_ble_eq_true rfl, Nat.le_of_ble_eq_true rfl⟩ ⟨rfl, rfl⟩ ⟨Nat.zero_le _, Nat.zero_le _⟩ dX10_saveSnapshot_8 ?_
  refine g_aload_n hx 11 (i := 0) 0 dX10_saveSnapshot_11 rfl rfl ?_
  refine g_iconst hx 12 (1) dX10_saveSnapshot_12 rfl ?_
  refine g_put hx 13 (C := RX10) (T := TX10) (N := 11) 9 .boolean _ (pW σ B ae (setS M 11 M_523) 0 (by decide)) rfl (by decide) fl_X10_60 rfl rfl rfl rfl (Nat.le_of_ble_eq_true rfl) rfl dX10_saveSnapshot_13 ?_
  refine G.heap (pW_i9 σ B ae (setS M 11 M_523) 1) ?_
  exact g_vret hx hR 16 dX10_saveSnapshot_16 ⟨rfl, by rw [← hr] <;> rfl⟩
def SA_restoreSnapshot (M : WM) : Int32 × WM := if M.2.2.1 9 = 0 then ((0, M)) else (lt' (St_copyFrom (M.1 11) (M.1 9)) fun M_525 => lt' (Hi_clear (setS M 9 M_525)) fun M_526 => (1, M_526))
set_option maxRecDepth 100000 in
set_option maxHeartbeats 4000000 in
theorem c_SA_restoreSnapshot {ad ae : Nat → Nat} (l : Launch) (g : Gl) (hC : KAll g ad ae) (σ : Hp) (B : Nat) (M : WM) {r : Int32 × WM} (hr : SA_restoreSnapshot M = r) : MG l g md_SA_restoreSnapshot [.ref B] (putW σ B ae M) (rs (some (.int r.1)) (putW σ B ae r.2)) := by
  refine MG.intro (by decide +kernel) (Nat.le_of_ble_eq_true rfl) (fun X hx hR _ => ?_)
  unfold SA_restoreSnapshot at hr
  refine g_ls [0] [(0, .ref B)] rfl ?_
  refine g_aload_n hx 0 (i := 0) 0 dX10_restoreSnapshot_0 rfl rfl ?_
  refine g_get hx 1 (C := RX10) (T := TX10) (N := 11) 9 (.int (M.2.2.1 9)) (pW σ B ae M 0 (by decide)) rfl (by decide) rfl fl_X10_60 dX10_restoreSnapshot_1 ?_
  refine g_if_ne hx 4 9 dX10_restoreSnapshot_4 (by decide) (fun hc_524 => ?_) (fun hc_524 => ?_)
  · have hr := (if_neg hc_524).symm.trans hr
    refine g_aload_n hx 9 (i := 0) 0 dX10_restoreSnapshot_9 rfl rfl ?_
    refine g_get hx 10 (C := RX10) (T := TX10) (N := 11) 6 (.ref (B + 332)) (pW σ B ae M 0 (by decide)) rfl (by decide) rfl fl_X10_50 dX10_restoreSnapshot_10 ?_
    refine g_aload_n hx 13 (i := 0) 0 dX10_restoreSnapshot_13 rfl rfl ?_
    refine g_get hx 14 (C := RX10) (T := TX10) (N := 11) 8 (.ref (B + 402)) (pW σ B ae M 0 (by decide)) rfl (by decide) rfl fl_X10_57 dX10_restoreSnapshot_14 ?_
    obtain ⟨M_525, eM_525, hr⟩ := lt'_e hr
    refine g_callVv hx (MG.at9 (w := M) (c_St_copyFrom (pW_st11 σ B ae M) (by omega) l g (M.1 9) eM_525.symm)) lk_X10_106 ar_St_copyFrom (pW_st9 σ B ae M 0 (by decide)) (T := TX8) (N := 15) rfl (As := [.ref (B + 402)]) (rest := []) rfl (Nat.le_of_ble_eq_true rfl) ⟨Nat.le_of_ble_eq_true rfl, Nat.le_of_ble_eq_true rfl⟩ ⟨rfl, rfl⟩ ⟨Nat.zero_le _, Nat.zero_le _⟩ dX10_restoreSnapshot_17 ?_
    refine g_aload_n hx 20 (i := 0) 0 dX10_restoreSnapshot_20 rfl rfl ?_
    refine g_get hx 21 (C := RX10) (T := TX10) (N := 11) 5 (.ref (B + 15)) (pW σ B ae (setS M 9 M_525) 0 (by decide)) rfl (by decide) rfl fl_X10_43 dX10_restoreSnapshot_21 ?_
    obtain ⟨M_526, eM_526, hr⟩ := lt'_e hr
    refine g_callVv hx (c_Hi_clear l g hC σ B (setS M 9 M_525) eM_526.symm) lk_X10_110 ar_Hi_clear (pW σ B ae (setS M 9 M_525) 15 (by decide)) (T := TX1) (N := 3) rfl (As := []) (rest := []) rfl (Nat.le_of_ble_eq_true rfl) ⟨Nat.le_of_ble_eq_true rfl, Nat.le_of_ble_eq_true rfl⟩ ⟨rfl, rfl⟩ ⟨Nat.zero_le _, Nat.zero_le _⟩ dX10_restoreSnapshot_24 ?_
    refine g_iconst hx 27 (1) dX10_restoreSnapshot_27 rfl ?_
    exact g_zret hx hR 28 (Or.inr rfl) dX10_restoreSnapshot_28 ⟨by rw [← hr] <;> rfl, by rw [← hr] <;> rfl⟩
  · have hr := (if_pos hc_524).symm.trans hr
    refine g_iconst hx 7 (0) dX10_restoreSnapshot_7 rfl ?_
    exact g_zret hx hR 8 (Or.inl rfl) dX10_restoreSnapshot_8 ⟨by rw [← hr] <;> rfl, by rw [← hr] <;> rfl⟩
