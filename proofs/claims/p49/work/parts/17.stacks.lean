def md_St_begin : Md := (yX8_begin, cX8_begin, 5, none, 2, 43, 0, 0)
def md_St_addFolder : Md := (yX8_addFolder, cX8_addFolder, 3, none, 1, 21, 0, 0)
def md_St_copyFrom : Md := (yX8_copyFrom, cX8_copyFrom, 2, none, 3, 103, 0, 0)
def md_St_hasFolder : Md := (yX8_hasFolder, cX8_hasFolder, 2, some .boolean, 1, 20, 0, 0)
def md_St_hasReader : Md := (yX8_hasReader, cX8_hasReader, 2, some .boolean, 1, 20, 0, 0)
def md_St_isClosed : Md := (yX8_isClosed, cX8_isClosed, 2, some .boolean, 1, 21, 0, 0)
def md_St_whereabouts : Md := (yX8_whereabouts, cX8_whereabouts, 2, some .int, 1, 22, 0, 0)
def md_St_isRefilingDay : Md := (yX8_isRefilingDay, cX8_isRefilingDay, 1, some .boolean, 0, 0, 0, 0)
def md_St_daysToRefiling : Md := (yX8_daysToRefiling, cX8_daysToRefiling, 1, some .int, 0, 0, 0, 0)
def md_St_idleness : Md := (yX8_idleness, cX8_idleness, 4, some .int, 2, 42, 0, 0)
def md_St_foldersAstray : Md := (yX8_foldersAstray, cX8_foldersAstray, 4, some .int, 1, 23, 0, 0)
def md_St_readersAboveLimit : Md := (yX8_readersAboveLimit, cX8_readersAboveLimit, 3, some .int, 1, 23, 0, 0)
def md_St_slipsForOwnFolders : Md := (yX8_slipsForOwnFolders, cX8_slipsForOwnFolders, 3, some .int, 2, 40, 0, 0)
def md_St_refusal : Md := (yX8_refusal, cX8_refusal, 3, some .int, 2, 44, 0, 0)
def md_St_handIn : Md := (yX8_handIn, cX8_handIn, 4, some .int, 3, 66, 0, 0)
def md_St_takeAway : Md := (yX8_takeAway, cX8_takeAway, 2, some .int, 2, 43, 0, 0)
def md_St_bringBack : Md := (yX8_bringBack, cX8_bringBack, 3, some .int, 2, 41, 0, 0)
def md_St_closeUntil : Md := (yX8_closeUntil, cX8_closeUntil, 4, some .int, 2, 41, 0, 0)
def md_St_swapNeighbours : Md := (yX8_swapNeighbours, cX8_swapNeighbours, 3, some .int, 4, 87, 0, 0)
def md_St_refileTrolley : Md := (yX8_refileTrolley, cX8_refileTrolley, 4, none, 2, 47, 0, 0)
def md_St_isFoundFor : Md := (yX8_isFoundFor, cX8_isFoundFor, 4, some .boolean, 2, 47, 0, 0)
def md_St_serve : Md := (yX8_serve, cX8_serve, 4, none, 2, 43, 0, 0)
def md_St_nextDay : Md := (yX8_nextDay, cX8_nextDay, 5, some .int, 3, 70, 0, 0)
def md_St_passDays : Md := (yX8_passDays, cX8_passDays, 5, some .int, 4, 94, 0, 0)
theorem fl_X8_60 : Cond.fieldLink RX8 60 (TX8 0).1 (TX8 0).2.1 (TX8 0).2.2.1 ∈ aw := aw1 (by decide +kernel)
theorem fl_X8_64 : Cond.fieldLink RX8 64 (TX8 1).1 (TX8 1).2.1 (TX8 1).2.2.1 ∈ aw := aw1 (by decide +kernel)
theorem fl_X8_67 : Cond.fieldLink RX8 67 (TX8 2).1 (TX8 2).2.1 (TX8 2).2.2.1 ∈ aw := aw1 (by decide +kernel)
theorem fl_X8_70 : Cond.fieldLink RX8 70 (TX8 3).1 (TX8 3).2.1 (TX8 3).2.2.1 ∈ aw := aw1 (by decide +kernel)
theorem fl_X8_14 : Cond.fieldLink RX8 14 (TX8 4).1 (TX8 4).2.1 (TX8 4).2.2.1 ∈ aw := aw1 (by decide +kernel)
theorem lk_X8_73 : Lk md_Ln_clear [.methodLink RX8 73 md_Ln_clear.y, .instanceMethod md_Ln_clear.y, .selects md_Ln_clear.y.cls md_Ln_clear.y md_Ln_clear.y] := lk_of (by decide +kernel)
theorem fl_X8_20 : Cond.fieldLink RX8 20 (TX8 5).1 (TX8 5).2.1 (TX8 5).2.2.1 ∈ aw := aw1 (by decide +kernel)
theorem fl_X8_23 : Cond.fieldLink RX8 23 (TX8 6).1 (TX8 6).2.1 (TX8 6).2.2.1 ∈ aw := aw1 (by decide +kernel)
theorem fl_X8_26 : Cond.fieldLink RX8 26 (TX8 7).1 (TX8 7).2.1 (TX8 7).2.2.1 ∈ aw := aw1 (by decide +kernel)
theorem fl_X8_29 : Cond.fieldLink RX8 29 (TX8 8).1 (TX8 8).2.1 (TX8 8).2.2.1 ∈ aw := aw1 (by decide +kernel)
theorem fl_X8_32 : Cond.fieldLink RX8 32 (TX8 9).1 (TX8 9).2.1 (TX8 9).2.2.1 ∈ aw := aw1 (by decide +kernel)
theorem lk_X8_76 : Lk md_Ln_fillWithZeros [.methodLink RX8 76 md_Ln_fillWithZeros.y, .instanceMethod md_Ln_fillWithZeros.y, .selects md_Ln_fillWithZeros.y.cls md_Ln_fillWithZeros.y md_Ln_fillWithZeros.y] := lk_of (by decide +kernel)
theorem ar_Ln_fillWithZeros : Arity md_Ln_fillWithZeros 1 := ⟨by decide +kernel, by decide +kernel, by decide +kernel⟩
theorem fl_X8_35 : Cond.fieldLink RX8 35 (TX8 10).1 (TX8 10).2.1 (TX8 10).2.2.1 ∈ aw := aw1 (by decide +kernel)
theorem fl_X8_43 : Cond.fieldLink RX8 43 (TX8 11).1 (TX8 11).2.1 (TX8 11).2.2.1 ∈ aw := aw1 (by decide +kernel)
theorem fl_X8_79 : Cond.fieldLink RX8 79 (TX5 0).1 (TX5 0).2.1 (TX5 0).2.2.1 ∈ aw := aw1 (by decide +kernel)
theorem fl_X8_47 : Cond.fieldLink RX8 47 (TX8 12).1 (TX8 12).2.1 (TX8 12).2.2.1 ∈ aw := aw1 (by decide +kernel)
theorem fl_X8_53 : Cond.fieldLink RX8 53 (TX8 13).1 (TX8 13).2.1 (TX8 13).2.2.1 ∈ aw := aw1 (by decide +kernel)
theorem lk_X8_82 : Lk md_Sl_clear [.methodLink RX8 82 md_Sl_clear.y, .instanceMethod md_Sl_clear.y, .selects md_Sl_clear.y.cls md_Sl_clear.y md_Sl_clear.y] := lk_of (by decide +kernel)
theorem ar_Sl_clear : Arity md_Sl_clear 0 := ⟨by decide +kernel, by decide +kernel, by decide +kernel⟩
theorem fl_X8_57 : Cond.fieldLink RX8 57 (TX8 14).1 (TX8 14).2.1 (TX8 14).2.2.1 ∈ aw := aw1 (by decide +kernel)
theorem lk_X8_83 : Lk md_Ln_count [.methodLink RX8 83 md_Ln_count.y, .instanceMethod md_Ln_count.y, .selects md_Ln_count.y.cls md_Ln_count.y md_Ln_count.y] := lk_of (by decide +kernel)
theorem lk_X8_87 : Lk md_Ln_add [.methodLink RX8 87 md_Ln_add.y, .instanceMethod md_Ln_add.y, .selects md_Ln_add.y.cls md_Ln_add.y md_Ln_add.y] := lk_of (by decide +kernel)
theorem lk_X8_90 : Lk md_Ln_copyFrom [.methodLink RX8 90 md_Ln_copyFrom.y, .instanceMethod md_Ln_copyFrom.y, .selects md_Ln_copyFrom.y.cls md_Ln_copyFrom.y md_Ln_copyFrom.y] := lk_of (by decide +kernel)
theorem lk_X8_93 : Lk md_Sl_copyFrom [.methodLink RX8 93 md_Sl_copyFrom.y, .instanceMethod md_Sl_copyFrom.y, .selects md_Sl_copyFrom.y.cls md_Sl_copyFrom.y md_Sl_copyFrom.y] := lk_of (by decide +kernel)
theorem ar_Sl_copyFrom : Arity md_Sl_copyFrom 1 := ⟨by decide +kernel, by decide +kernel, by decide +kernel⟩
theorem lk_X8_96 : Lk md_Ln_get [.methodLink RX8 96 md_Ln_get.y, .instanceMethod md_Ln_get.y, .selects md_Ln_get.y.cls md_Ln_get.y md_Ln_get.y] := lk_of (by decide +kernel)
theorem lk_X8_100 : Lk md_Ln_placeOf [.methodLink RX8 100 md_Ln_placeOf.y, .instanceMethod md_Ln_placeOf.y, .selects md_Ln_placeOf.y.cls md_Ln_placeOf.y md_Ln_placeOf.y] := lk_of (by decide +kernel)
theorem fl_X8_103 : Cond.fieldLink RX8 103 (TX7 1).1 (TX7 1).2.1 (TX7 1).2.2.1 ∈ aw := aw1 (by decide +kernel)
theorem lk_X8_104 : Lk md_St_isClosed [.methodLink RX8 104 md_St_isClosed.y, .instanceMethod md_St_isClosed.y, .selects md_St_isClosed.y.cls md_St_isClosed.y md_St_isClosed.y] := lk_of (by decide +kernel)
theorem ar_St_isClosed : Arity md_St_isClosed 1 := ⟨by decide +kernel, by decide +kernel, by decide +kernel⟩
theorem fl_X8_108 : Cond.fieldLink RX8 108 (TX7 0).1 (TX7 0).2.1 (TX7 0).2.2.1 ∈ aw := aw1 (by decide +kernel)
theorem lk_X8_111 : Lk md_Ln_countOf [.methodLink RX8 111 md_Ln_countOf.y, .instanceMethod md_Ln_countOf.y, .selects md_Ln_countOf.y.cls md_Ln_countOf.y md_Ln_countOf.y] := lk_of (by decide +kernel)
theorem ar_Ln_countOf : Arity md_Ln_countOf 1 := ⟨by decide +kernel, by decide +kernel, by decide +kernel⟩
theorem lk_X8_114 : Lk md_Sl_count [.methodLink RX8 114 md_Sl_count.y, .instanceMethod md_Sl_count.y, .selects md_Sl_count.y.cls md_Sl_count.y md_Sl_count.y] := lk_of (by decide +kernel)
theorem ar_Sl_count : Arity md_Sl_count 0 := ⟨by decide +kernel, by decide +kernel, by decide +kernel⟩
theorem lk_X8_115 : Lk md_St_hasReader [.methodLink RX8 115 md_St_hasReader.y, .instanceMethod md_St_hasReader.y, .selects md_St_hasReader.y.cls md_St_hasReader.y md_St_hasReader.y] := lk_of (by decide +kernel)
theorem ar_St_hasReader : Arity md_St_hasReader 1 := ⟨by decide +kernel, by decide +kernel, by decide +kernel⟩
theorem lk_X8_118 : Lk md_St_hasFolder [.methodLink RX8 118 md_St_hasFolder.y, .instanceMethod md_St_hasFolder.y, .selects md_St_hasFolder.y.cls md_St_hasFolder.y md_St_hasFolder.y] := lk_of (by decide +kernel)
theorem ar_St_hasFolder : Arity md_St_hasFolder 1 := ⟨by decide +kernel, by decide +kernel, by decide +kernel⟩
theorem lk_X8_121 : Lk md_Sl_placeFor [.methodLink RX8 121 md_Sl_placeFor.y, .instanceMethod md_Sl_placeFor.y, .selects md_Sl_placeFor.y.cls md_Sl_placeFor.y md_Sl_placeFor.y] := lk_of (by decide +kernel)
theorem ar_Sl_placeFor : Arity md_Sl_placeFor 2 := ⟨by decide +kernel, by decide +kernel, by decide +kernel⟩
theorem lk_X8_125 : Lk md_St_refusal [.methodLink RX8 125 md_St_refusal.y, .instanceMethod md_St_refusal.y, .selects md_St_refusal.y.cls md_St_refusal.y md_St_refusal.y] := lk_of (by decide +kernel)
theorem ar_St_refusal : Arity md_St_refusal 2 := ⟨by decide +kernel, by decide +kernel, by decide +kernel⟩
theorem lk_X8_128 : Lk md_Sl_add [.methodLink RX8 128 md_Sl_add.y, .instanceMethod md_Sl_add.y, .selects md_Sl_add.y.cls md_Sl_add.y md_Sl_add.y] := lk_of (by decide +kernel)
theorem ar_Sl_add : Arity md_Sl_add 3 := ⟨by decide +kernel, by decide +kernel, by decide +kernel⟩
theorem lk_X8_131 : Lk md_Ln_raise [.methodLink RX8 131 md_Ln_raise.y, .instanceMethod md_Ln_raise.y, .selects md_Ln_raise.y.cls md_Ln_raise.y md_Ln_raise.y] := lk_of (by decide +kernel)
theorem ar_Ln_raise : Arity md_Ln_raise 2 := ⟨by decide +kernel, by decide +kernel, by decide +kernel⟩
theorem lk_X8_135 : Lk md_Sl_has [.methodLink RX8 135 md_Sl_has.y, .instanceMethod md_Sl_has.y, .selects md_Sl_has.y.cls md_Sl_has.y md_Sl_has.y] := lk_of (by decide +kernel)
theorem ar_Sl_has : Arity md_Sl_has 1 := ⟨by decide +kernel, by decide +kernel, by decide +kernel⟩
theorem lk_X8_138 : Lk md_Sl_removeAt [.methodLink RX8 138 md_Sl_removeAt.y, .instanceMethod md_Sl_removeAt.y, .selects md_Sl_removeAt.y.cls md_Sl_removeAt.y md_Sl_removeAt.y] := lk_of (by decide +kernel)
theorem ar_Sl_removeAt : Arity md_Sl_removeAt 1 := ⟨by decide +kernel, by decide +kernel, by decide +kernel⟩
theorem lk_X8_141 : Lk md_Ln_set [.methodLink RX8 141 md_Ln_set.y, .instanceMethod md_Ln_set.y, .selects md_Ln_set.y.cls md_Ln_set.y md_Ln_set.y] := lk_of (by decide +kernel)
theorem lk_X8_144 : Lk md_Rw_swapWrongPairs [.methodLink RX8 144 md_Rw_swapWrongPairs.y, .instanceMethod md_Rw_swapWrongPairs.y, .selects md_Rw_swapWrongPairs.y.cls md_Rw_swapWrongPairs.y md_Rw_swapWrongPairs.y] := lk_of (by decide +kernel)
theorem ar_Rw_swapWrongPairs : Arity md_Rw_swapWrongPairs 1 := ⟨by decide +kernel, by decide +kernel, by decide +kernel⟩
theorem lk_X8_166 : Lk md_Rw_halve [.methodLink RX8 166 md_Rw_halve.y, .instanceMethod md_Rw_halve.y, .selects md_Rw_halve.y.cls md_Rw_halve.y md_Rw_halve.y] := lk_of (by decide +kernel)
theorem fl_X8_169 : Cond.fieldLink RX8 169 (TX5 1).1 (TX5 1).2.1 (TX5 1).2.2.1 ∈ aw := aw1 (by decide +kernel)
theorem lk_X8_172 : Lk md_Rw_placeBehindMiss [.methodLink RX8 172 md_Rw_placeBehindMiss.y, .instanceMethod md_Rw_placeBehindMiss.y, .selects md_Rw_placeBehindMiss.y.cls md_Rw_placeBehindMiss.y md_Rw_placeBehindMiss.y] := lk_of (by decide +kernel)
theorem ar_Rw_placeBehindMiss : Arity md_Rw_placeBehindMiss 1 := ⟨by decide +kernel, by decide +kernel, by decide +kernel⟩
theorem lk_X8_175 : Lk md_Ln_insert [.methodLink RX8 175 md_Ln_insert.y, .instanceMethod md_Ln_insert.y, .selects md_Ln_insert.y.cls md_Ln_insert.y md_Ln_insert.y] := lk_of (by decide +kernel)
theorem fl_X8_178 : Cond.fieldLink RX8 178 (TX7 3).1 (TX7 3).2.1 (TX7 3).2.2.1 ∈ aw := aw1 (by decide +kernel)
theorem lk_X8_181 : Lk md_Ln_removeAt [.methodLink RX8 181 md_Ln_removeAt.y, .instanceMethod md_Ln_removeAt.y, .selects md_Ln_removeAt.y.cls md_Ln_removeAt.y md_Ln_removeAt.y] := lk_of (by decide +kernel)
theorem fl_X8_182 : Cond.fieldLink RX8 182 (TX7 2).1 (TX7 2).2.1 (TX7 2).2.2.1 ∈ aw := aw1 (by decide +kernel)
theorem lk_X8_150 : Lk md_St_isRefilingDay [.methodLink RX8 150 md_St_isRefilingDay.y, .instanceMethod md_St_isRefilingDay.y, .selects md_St_isRefilingDay.y.cls md_St_isRefilingDay.y md_St_isRefilingDay.y] := lk_of (by decide +kernel)
theorem ar_St_isRefilingDay : Arity md_St_isRefilingDay 0 := ⟨by decide +kernel, by decide +kernel, by decide +kernel⟩
theorem lk_X8_157 : Lk md_St_idleness [.methodLink RX8 157 md_St_idleness.y, .instanceMethod md_St_idleness.y, .selects md_St_idleness.y.cls md_St_idleness.y md_St_idleness.y] := lk_of (by decide +kernel)
theorem ar_St_idleness : Arity md_St_idleness 1 := ⟨by decide +kernel, by decide +kernel, by decide +kernel⟩
theorem lk_X8_160 : Lk md_St_isFoundFor [.methodLink RX8 160 md_St_isFoundFor.y, .instanceMethod md_St_isFoundFor.y, .selects md_St_isFoundFor.y.cls md_St_isFoundFor.y md_St_isFoundFor.y] := lk_of (by decide +kernel)
theorem ar_St_isFoundFor : Arity md_St_isFoundFor 1 := ⟨by decide +kernel, by decide +kernel, by decide +kernel⟩
theorem lk_X8_163 : Lk md_St_serve [.methodLink RX8 163 md_St_serve.y, .instanceMethod md_St_serve.y, .selects md_St_serve.y.cls md_St_serve.y md_St_serve.y] := lk_of (by decide +kernel)
theorem ar_St_serve : Arity md_St_serve 1 := ⟨by decide +kernel, by decide +kernel, by decide +kernel⟩
theorem lk_X8_154 : Lk md_St_refileTrolley [.methodLink RX8 154 md_St_refileTrolley.y, .instanceMethod md_St_refileTrolley.y, .selects md_St_refileTrolley.y.cls md_St_refileTrolley.y md_St_refileTrolley.y] := lk_of (by decide +kernel)
theorem ar_St_refileTrolley : Arity md_St_refileTrolley 0 := ⟨by decide +kernel, by decide +kernel, by decide +kernel⟩
theorem lk_X8_147 : Lk md_St_nextDay [.methodLink RX8 147 md_St_nextDay.y, .instanceMethod md_St_nextDay.y, .selects md_St_nextDay.y.cls md_St_nextDay.y md_St_nextDay.y] := lk_of (by decide +kernel)
theorem ar_St_nextDay : Arity md_St_nextDay 0 := ⟨by decide +kernel, by decide +kernel, by decide +kernel⟩
def St_begin (M : StM) (p1 p2 p3 p4 : Int32) : Option (StM) := if (0 : Int32) ≤ p3 ∧ (p3 : Int32) ≤ 900 then (if (0 : Int32) ≤ p3 ∧ (p3 : Int32) ≤ 900 then (lt' (Sl_clear (setL (setL (setL (setL (setL (setL (setL (setL (setL (setI (setI (setI (setI M 0 0) 1 p1) 2 p2) 3 p4) 0 ([])) 1 ([])) 2 ([])) 3 ([])) 4 ([])) 5 (lnfill 8 p3)) 6 (lnfill 8 p3)) 7 ([])) 10 ([]))) fun M_159 => if (0 : Int32) ≤ 11 ∧ (11 : Int32) ≤ 900 then (some (setL M_159 15 (lnfill 11 11))) else none) else none) else none
set_option maxRecDepth 100000 in
set_option maxHeartbeats 4000000 in
theorem c_St_begin (l : Launch) (g : Gl) (σ : Hp) (S : Nat) (M : StM) (p1 p2 p3 p4 : Int32) {r : StM} (hr : St_begin M p1 p2 p3 p4 = some r) : MG l g md_St_begin [.ref S, .int p1, .int p2, .int p3, .int p4] (putSt σ S M) (rs none (putSt σ S r)) := by
  refine MG.intro (by decide +kernel) (Nat.le_of_ble_eq_true rfl) (fun X hx hR _ => ?_)
  unfold St_begin at hr
  refine g_ls [0, 1, 2, 3, 4] [(0, .ref S), (1, .int p1), (2, .int p2), (3, .int p3), (4, .int p4)] rfl ?_
  refine g_aload_n hx 0 (i := 0) 0 dX8_begin_0 rfl rfl ?_
  refine g_iconst hx 1 (0) dX8_begin_1 rfl ?_
  refine g_put hx 2 (C := RX8) (T := TX8) (N := 15) 0 .int _ (pS_o σ S M) rfl (by decide) fl_X8_60 rfl rfl rfl rfl (Nat.le_of_ble_eq_true rfl) rfl dX8_begin_2 ?_
  refine G.heap (pS_i0 σ S M 0) ?_
  refine g_aload_n hx 5 (i := 0) 0 dX8_begin_5 rfl rfl ?_
  refine g_iload_n hx 6 (i := 1) 1 dX8_begin_6 rfl rfl ?_
  refine g_put hx 7 (C := RX8) (T := TX8) (N := 15) 1 .int _ (pS_o σ S (setI M 0 0)) rfl (by decide) fl_X8_64 rfl rfl rfl rfl (Nat.le_of_ble_eq_true rfl) rfl dX8_begin_7 ?_
  refine G.heap (pS_i1 σ S (setI M 0 0) p1) ?_
  refine g_aload_n hx 10 (i := 0) 0 dX8_begin_10 rfl rfl ?_
  refine g_iload_n hx 11 (i := 2) 2 dX8_begin_11 rfl rfl ?_
  refine g_put hx 12 (C := RX8) (T := TX8) (N := 15) 2 .int _ (pS_o σ S (setI (setI M 0 0) 1 p1)) rfl (by decide) fl_X8_67 rfl rfl rfl rfl (Nat.le_of_ble_eq_true rfl) rfl dX8_begin_12 ?_
  refine G.heap (pS_i2 σ S (setI (setI M 0 0) 1 p1) p2) ?_
  refine g_aload_n hx 15 (i := 0) 0 dX8_begin_15 rfl rfl ?_
  refine g_iload hx 16 (i := 4) 4 dX8_begin_16 rfl ?_
  refine g_put hx 18 (C := RX8) (T := TX8) (N := 15) 3 .int _ (pS_o σ S (setI (setI (setI M 0 0) 1 p1) 2 p2)) rfl (by decide) fl_X8_70 rfl rfl rfl rfl (Nat.le_of_ble_eq_true rfl) rfl dX8_begin_18 ?_
  refine G.heap (pS_i3 σ S (setI (setI (setI M 0 0) 1 p1) 2 p2) p4) ?_
  refine g_aload_n hx 21 (i := 0) 0 dX8_begin_21 rfl rfl ?_
  refine g_get hx 22 (C := RX8) (T := TX8) (N := 15) 4 (.ref (S + 1)) (pS_o σ S (setI (setI (setI (setI M 0 0) 1 p1) 2 p2) 3 p4)) rfl (by decide) rfl fl_X8_14 dX8_begin_22 ?_
  refine g_callVv hx (k_clear l g (pS_l0 σ S (setI (setI (setI (setI M 0 0) 1 p1) 2 p2) 3 p4)) (by decide)) lk_X8_73 ar_Ln_clear (pS_l0 σ S (setI (setI (setI (setI M 0 0) 1 p1) 2 p2) 3 p4)).1 (T := TX2) (N := 2) rfl (As := []) (rest := []) rfl (Nat.le_of_ble_eq_true rfl) ⟨Nat.le_of_ble_eq_true rfl, Nat.le_of_ble_eq_true rfl⟩ ⟨rfl, rfl⟩ ⟨Nat.zero_le _, Nat.zero_le _⟩ dX8_begin_25 ?_
  refine G.heap (pS_p0 σ S (setI (setI (setI (setI M 0 0) 1 p1) 2 p2) 3 p4) ([])) ?_
  refine g_aload_n hx 28 (i := 0) 0 dX8_begin_28 rfl rfl ?_
  refine g_get hx 29 (C := RX8) (T := TX8) (N := 15) 5 (.ref (S + 3)) (pS_o σ S (setL (setI (setI (setI (setI M 0 0) 1 p1) 2 p2) 3 p4) 0 ([]))) rfl (by decide) rfl fl_X8_20 dX8_begin_29 ?_
  refine g_callVv hx (k_clear l g (pS_l1 σ S (setL (setI (setI (setI (setI M 0 0) 1 p1) 2 p2) 3 p4) 0 ([]))) (by decide)) lk_X8_73 ar_Ln_clear (pS_l1 σ S (setL (setI (setI (setI (setI M 0 0) 1 p1) 2 p2) 3 p4) 0 ([]))).1 (T := TX2) (N := 2) rfl (As := []) (rest := []) rfl (Nat.le_of_ble_eq_true rfl) ⟨Nat.le_of_ble_eq_true rfl, Nat.le_of_ble_eq_true rfl⟩ ⟨rfl, rfl⟩ ⟨Nat.zero_le _, Nat.zero_le _⟩ dX8_begin_32 ?_
  refine G.heap (pS_p1 σ S (setL (setI (setI (setI (setI M 0 0) 1 p1) 2 p2) 3 p4) 0 ([])) ([])) ?_
  refine g_aload_n hx 35 (i := 0) 0 dX8_begin_35 rfl rfl ?_
  refine g_get hx 36 (C := RX8) (T := TX8) (N := 15) 6 (.ref (S + 5)) (pS_o σ S (setL (setL (setI (setI (setI (setI M 0 0) 1 p1) 2 p2) 3 p4) 0 ([])) 1 ([]))) rfl (by decide) rfl fl_X8_23 dX8_begin_36 ?_
  refine g_callVv hx (k_clear l g (pS_l2 σ S (setL (setL (setI (setI (setI (setI M 0 0) 1 p1) 2 p2) 3 p4) 0 ([])) 1 ([]))) (by decide)) lk_X8_73 ar_Ln_clear (pS_l2 σ S (setL (setL (setI (setI (setI (setI M 0 0) 1 p1) 2 p2) 3 p4) 0 ([])) 1 ([]))).1 (T := TX2) (N := 2) rfl (As := []) (rest := []) rfl (Nat.le_of_ble_eq_true rfl) ⟨Nat.le_of_ble_eq_true rfl, Nat.le_of_ble_eq_true rfl⟩ ⟨rfl, rfl⟩ ⟨Nat.zero_le _, Nat.zero_le _⟩ dX8_begin_39 ?_
  refine G.heap (pS_p2 σ S (setL (setL (setI (setI (setI (setI M 0 0) 1 p1) 2 p2) 3 p4) 0 ([])) 1 ([])) ([])) ?_
  refine g_aload_n hx 42 (i := 0) 0 dX8_begin_42 rfl rfl ?_
  refine g_get hx 43 (C := RX8) (T := TX8) (N := 15) 7 (.ref (S + 7)) (pS_o σ S (setL (setL (setL (setI (setI (setI (setI M 0 0) 1 p1) 2 p2) 3 p4) 0 ([])) 1 ([])) 2 ([]))) rfl (by decide) rfl fl_X8_26 dX8_begin_43 ?_
  refine g_callVv hx (k_clear l g (pS_l3 σ S (setL (setL (setL (setI (setI (setI (setI M 0 0) 1 p1) 2 p2) 3 p4) 0 ([])) 1 ([])) 2 ([]))) (by decide)) lk_X8_73 ar_Ln_clear (pS_l3 σ S (setL (setL (setL (setI (setI (setI (setI M 0 0) 1 p1) 2 p2) 3 p4) 0 ([])) 1 ([])) 2 ([]))).1 (T := TX2) (N := 2) rfl (As := []) (rest := []) rfl (Nat.le_of_ble_eq_true rfl) ⟨Nat.le_of_ble_eq_true rfl, Nat.le_of_ble_eq_true rfl⟩ ⟨rfl, rfl⟩ ⟨Nat.zero_le _, Nat.zero_le _⟩ dX8_begin_46 ?_
  refine G.heap (pS_p3 σ S (setL (setL (setL (setI (setI (setI (setI M 0 0) 1 p1) 2 p2) 3 p4) 0 ([])) 1 ([])) 2 ([])) ([])) ?_
  refine g_aload_n hx 49 (i := 0) 0 dX8_begin_49 rfl rfl ?_
  refine g_get hx 50 (C := RX8) (T := TX8) (N := 15) 8 (.ref (S + 9)) (pS_o σ S (setL (setL (setL (setL (setI (setI (setI (setI M 0 0) 1 p1) 2 p2) 3 p4) 0 ([])) 1 ([])) 2 ([])) 3 ([]))) rfl (by decide) rfl fl_X8_29 dX8_begin_50 ?_
  refine g_callVv hx (k_clear l g (pS_l4 σ S (setL (setL (setL (setL (setI (setI (setI (setI M 0 0) 1 p1) 2 p2) 3 p4) 0 ([])) 1 ([])) 2 ([])) 3 ([]))) (by decide)) lk_X8_73 ar_Ln_clear (pS_l4 σ S (setL (setL (setL (setL (setI (setI (setI (setI M 0 0) 1 p1) 2 p2) 3 p4) 0 ([])) 1 ([])) 2 ([])) 3 ([]))).1 (T := TX2) (N := 2) rfl (As := []) (rest := []) rfl (Nat.le_of_ble_eq_true rfl) ⟨Nat.le_of_ble_eq_true rfl, Nat.le_of_ble_eq_true rfl⟩ ⟨rfl, rfl⟩ ⟨Nat.zero_le _, Nat.zero_le _⟩ dX8_begin_53 ?_
  refine G.heap (pS_p4 σ S (setL (setL (setL (setL (setI (setI (setI (setI M 0 0) 1 p1) 2 p2) 3 p4) 0 ([])) 1 ([])) 2 ([])) 3 ([])) ([])) ?_
  refine g_aload_n hx 56 (i := 0) 0 dX8_begin_56 rfl rfl ?_
  refine g_get hx 57 (C := RX8) (T := TX8) (N := 15) 9 (.ref (S + 11)) (pS_o σ S (setL (setL (setL (setL (setL (setI (setI (setI (setI M 0 0) 1 p1) 2 p2) 3 p4) 0 ([])) 1 ([])) 2 ([])) 3 ([])) 4 ([]))) rfl (by decide) rfl fl_X8_32 dX8_begin_57 ?_
  refine g_iload_n hx 60 (i := 3) 3 dX8_begin_60 rfl rfl ?_
  obtain ⟨hm_157, hr⟩ := ob hr
  refine g_callVv hx (k_fill l g (pS_l5 σ S (setL (setL (setL (setL (setL (setI (setI (setI (setI M 0 0) 1 p1) 2 p2) 3 p4) 0 ([])) 1 ([])) 2 ([])) 3 ([])) 4 ([]))) (by decide) p3 hm_157) lk_X8_76 ar_Ln_fillWithZeros (pS_l5 σ S (setL (setL (setL (setL (setL (setI (setI (setI (setI M 0 0) 1 p1) 2 p2) 3 p4) 0 ([])) 1 ([])) 2 ([])) 3 ([])) 4 ([]))).1 (T := TX2) (N := 2) rfl (As := [.int p3]) (rest := []) rfl (Nat.le_of_ble_eq_true rfl) ⟨Nat.le_of_ble_eq_true rfl, Nat.le_of_ble_eq_true rfl⟩ ⟨rfl, rfl⟩ ⟨Nat.zero_le _, Nat.zero_le _⟩ dX8_begin_61 ?_
  refine G.heap (pS_p5 σ S (setL (setL (setL (setL (setL (setI (setI (setI (setI M 0 0) 1 p1) 2 p2) 3 p4) 0 ([])) 1 ([])) 2 ([])) 3 ([])) 4 ([])) (lnfill 8 p3)) ?_
  refine g_aload_n hx 64 (i := 0) 0 dX8_begin_64 rfl rfl ?_
  refine g_get hx 65 (C := RX8) (T := TX8) (N := 15) 10 (.ref (S + 13)) (pS_o σ S (setL (setL (setL (setL (setL (setL (setI (setI (setI (setI M 0 0) 1 p1) 2 p2) 3 p4) 0 ([])) 1 ([])) 2 ([])) 3 ([])) 4 ([])) 5 (lnfill 8 p3))) rfl (by decide) rfl fl_X8_35 dX8_begin_65 ?_
  refine g_iload_n hx 68 (i := 3) 3 dX8_begin_68 rfl rfl ?_
  obtain ⟨hm_158, hr⟩ := ob hr
  refine g_callVv hx (k_fill l g (pS_l6 σ S (setL (setL (setL (setL (setL (setL (setI (setI (setI (setI M 0 0) 1 p1) 2 p2) 3 p4) 0 ([])) 1 ([])) 2 ([])) 3 ([])) 4 ([])) 5 (lnfill 8 p3))) (by decide) p3 hm_158) lk_X8_76 ar_Ln_fillWithZeros (pS_l6 σ S (setL (setL (setL (setL (setL (setL (setI (setI (setI (setI M 0 0) 1 p1) 2 p2) 3 p4) 0 ([])) 1 ([])) 2 ([])) 3 ([])) 4 ([])) 5 (lnfill 8 p3))).1 (T := TX2) (N := 2) rfl (As := [.int p3]) (rest := []) rfl (Nat.le_of_ble_eq_true rfl) ⟨Nat.le_of_ble_eq_true rfl, Nat.le_of_ble_eq_true rfl⟩ ⟨rfl, rfl⟩ ⟨Nat.zero_le _, Nat.zero_le _⟩ dX8_begin_69 ?_
  refine G.heap (pS_p6 σ S (setL (setL (setL (setL (setL (setL (setI (setI (setI (setI M 0 0) 1 p1) 2 p2) 3 p4) 0 ([])) 1 ([])) 2 ([])) 3 ([])) 4 ([])) 5 (lnfill 8 p3)) (lnfill 8 p3)) ?_
  refine g_aload_n hx 72 (i := 0) 0 dX8_begin_72 rfl rfl ?_
  refine g_get hx 73 (C := RX8) (T := TX8) (N := 15) 11 (.ref (S + 15)) (pS_o σ S (setL (setL (setL (setL (setL (setL (setL (setI (setI (setI (setI M 0 0) 1 p1) 2 p2) 3 p4) 0 ([])) 1 ([])) 2 ([])) 3 ([])) 4 ([])) 5 (lnfill 8 p3)) 6 (lnfill 8 p3))) rfl (by decide) rfl fl_X8_43 dX8_begin_73 ?_
  refine g_get hx 76 (C := RX5) (T := TX5) (N := 4) 0 (.ref (S + 16)) (pS σ S (setL (setL (setL (setL (setL (setL (setL (setI (setI (setI (setI M 0 0) 1 p1) 2 p2) 3 p4) 0 ([])) 1 ([])) 2 ([])) 3 ([])) 4 ([])) 5 (lnfill 8 p3)) 6 (lnfill 8 p3)) 15 (by decide)) rfl (by decide) rfl fl_X8_79 dX8_begin_76 ?_
  refine g_callVv hx (k_clear l g (pS_l7 σ S (setL (setL (setL (setL (setL (setL (setL (setI (setI (setI (setI M 0 0) 1 p1) 2 p2) 3 p4) 0 ([])) 1 ([])) 2 ([])) 3 ([])) 4 ([])) 5 (lnfill 8 p3)) 6 (lnfill 8 p3))) (by decide)) lk_X8_73 ar_Ln_clear (pS_l7 σ S (setL (setL (setL (setL (setL (setL (setL (setI (setI (setI (setI M 0 0) 1 p1) 2 p2) 3 p4) 0 ([])) 1 ([])) 2 ([])) 3 ([])) 4 ([])) 5 (lnfill 8 p3)) 6 (lnfill 8 p3))).1 (T := TX2) (N := 2) rfl (As := []) (rest := []) rfl (Nat.le_of_ble_eq_true rfl) ⟨Nat.le_of_ble_eq_true rfl, Nat.le_of_ble_eq_true rfl⟩ ⟨rfl, rfl⟩ ⟨Nat.zero_le _, Nat.zero_le _⟩ dX8_begin_79 ?_
  refine G.heap (pS_p7 σ S (setL (setL (setL (setL (setL (setL (setL (setI (setI (setI (setI M 0 0) 1 p1) 2 p2) 3 p4) 0 ([])) 1 ([])) 2 ([])) 3 ([])) 4 ([])) 5 (lnfill 8 p3)) 6 (lnfill 8 p3)) ([])) ?_
  refine g_aload_n hx 82 (i := 0) 0 dX8_begin_82 rfl rfl ?_
  refine g_get hx 83 (C := RX8) (T := TX8) (N := 15) 12 (.ref (S + 22)) (pS_o σ S (setL (setL (setL (setL (setL (setL (setL (setL (setI (setI (setI (setI M 0 0) 1 p1) 2 p2) 3 p4) 0 ([])) 1 ([])) 2 ([])) 3 ([])) 4 ([])) 5 (lnfill 8 p3)) 6 (lnfill 8 p3)) 7 ([]))) rfl (by decide) rfl fl_X8_47 dX8_begin_83 ?_
  refine g_callVv hx (k_clear l g (pS_l10 σ S (setL (setL (setL (setL (setL (setL (setL (setL (setI (setI (setI (setI M 0 0) 1 p1) 2 p2) 3 p4) 0 ([])) 1 ([])) 2 ([])) 3 ([])) 4 ([])) 5 (lnfill 8 p3)) 6 (lnfill 8 p3)) 7 ([]))) (by decide)) lk_X8_73 ar_Ln_clear (pS_l10 σ S (setL (setL (setL (setL (setL (setL (setL (setL (setI (setI (setI (setI M 0 0) 1 p1) 2 p2) 3 p4) 0 ([])) 1 ([])) 2 ([])) 3 ([])) 4 ([])) 5 (lnfill 8 p3)) 6 (lnfill 8 p3)) 7 ([]))).1 (T := TX2) (N := 2) rfl (As := []) (rest := []) rfl (Nat.le_of_ble_eq_true rfl) ⟨Nat.le_of_ble_eq_true rfl, Nat.le_of_ble_eq_true rfl⟩ ⟨rfl, rfl⟩ ⟨Nat.zero_le _, Nat.zero_le _⟩ dX8_begin_86 ?_
  refine G.heap (pS_p10 σ S (setL (setL (setL (setL (setL (setL (setL (setL (setI (setI (setI (setI M 0 0) 1 p1) 2 p2) 3 p4) 0 ([])) 1 ([])) 2 ([])) 3 ([])) 4 ([])) 5 (lnfill 8 p3)) 6 (lnfill 8 p3)) 7 ([])) ([])) ?_
  refine g_aload_n hx 89 (i := 0) 0 dX8_begin_89 rfl rfl ?_
  refine g_get hx 90 (C := RX8) (T := TX8) (N := 15) 13 (.ref (S + 24)) (pS_o σ S (setL (setL (setL (setL (setL (setL (setL (setL (setL (setI (setI (setI (setI M 0 0) 1 p1) 2 p2) 3 p4) 0 ([])) 1 ([])) 2 ([])) 3 ([])) 4 ([])) 5 (lnfill 8 p3)) 6 (lnfill 8 p3)) 7 ([])) 10 ([]))) rfl (by decide) rfl fl_X8_53 dX8_begin_90 ?_
  obtain ⟨M_159, eM_159, hr⟩ := lt'_e hr
  refine g_callVv hx (c_Sl_clear l g σ S (setL (setL (setL (setL (setL (setL (setL (setL (setL (setI (setI (setI (setI M 0 0) 1 p1) 2 p2) 3 p4) 0 ([])) 1 ([])) 2 ([])) 3 ([])) 4 ([])) 5 (lnfill 8 p3)) 6 (lnfill 8 p3)) 7 ([])) 10 ([])) eM_159.symm) lk_X8_82 ar_Sl_clear (pS σ S (setL (setL (setL (setL (setL (setL (setL (setL (setL (setI (setI (setI (setI M 0 0) 1 p1) 2 p2) 3 p4) 0 ([])) 1 ([])) 2 ([])) 3 ([])) 4 ([])) 5 (lnfill 8 p3)) 6 (lnfill 8 p3)) 7 ([])) 10 ([])) 24 (by decide)) (T := TX7) (N := 4) rfl (As := []) (rest := []) rfl (Nat.le_of_ble_eq_true rfl) ⟨Nat.le_of_ble_eq_true rfl, Nat.le_of_ble_eq_true rfl⟩ ⟨rfl, rfl⟩ ⟨Nat.zero_le _, Nat.zero_le _⟩ dX8_begin_93 ?_
  refine g_aload_n hx 96 (i := 0) 0 dX8_begin_96 rfl rfl ?_
  refine g_get hx 97 (C := RX8) (T := TX8) (N := 15) 14 (.ref (S + 33)) (pS_o σ S M_159) rfl (by decide) rfl fl_X8_57 dX8_begin_97 ?_
  refine g_bipush hx 100 (11) dX8_begin_100 rfl ?_
  obtain ⟨hm_160, hr⟩ := ob hr
  refine g_callVv hx (k_fill l g (pS_l15 σ S M_159) (by decide) 11 hm_160) lk_X8_76 ar_Ln_fillWithZeros (pS_l15 σ S M_159).1 (T := TX2) (N := 2) rfl (As := [.int 11]) (rest := []) rfl (Nat.le_of_ble_eq_true rfl) ⟨Nat.le_of_ble_eq_true rfl, Nat.le_of_ble_eq_true rfl⟩ ⟨rfl, rfl⟩ ⟨Nat.zero_le _, Nat.zero_le _⟩ dX8_begin_102 ?_
  refine G.heap (pS_p15 σ S M_159 (lnfill 11 11)) ?_
  exact g_vret hx hR 105 dX8_begin_105 ⟨rfl, by rw [← Option.some.inj hr] <;> rfl⟩
def St_addFolder (M : StM) (p1 p2 : Int32) : StM := setL (setL (setL (setL (setL (setL M 7 (lnadd 24 (M.2 7) (nI (M.2 0).length))) 0 (lnadd 24 (M.2 0) p1)) 1 (lnadd 24 (M.2 1) p2)) 2 (lnadd 24 (M.2 2) 0)) 3 (lnadd 24 (M.2 3) (-1))) 4 (lnadd 24 (M.2 4) 0)
set_option maxRecDepth 100000 in
set_option maxHeartbeats 4000000 in
theorem c_St_addFolder (l : Launch) (g : Gl) (σ : Hp) (S : Nat) (M : StM) (p1 p2 : Int32) {r : StM} (hr : St_addFolder M p1 p2 = r) : MG l g md_St_addFolder [.ref S, .int p1, .int p2] (putSt σ S M) (rs none (putSt σ S r)) := by
  refine MG.intro (by decide +kernel) (Nat.le_of_ble_eq_true rfl) (fun X hx hR _ => ?_)
  unfold St_addFolder at hr
  refine g_ls [0, 1, 2] [(0, .ref S), (1, .int p1), (2, .int p2)] rfl ?_
  refine g_aload_n hx 0 (i := 0) 0 dX8_addFolder_0 rfl rfl ?_
  refine g_get hx 1 (C := RX8) (T := TX8) (N := 15) 11 (.ref (S + 15)) (pS_o σ S M) rfl (by decide) rfl fl_X8_43 dX8_addFolder_1 ?_
  refine g_get hx 4 (C := RX5) (T := TX5) (N := 4) 0 (.ref (S + 16)) (pS σ S M 15 (by decide)) rfl (by decide) rfl fl_X8_79 dX8_addFolder_4 ?_
  refine g_aload_n hx 7 (i := 0) 0 dX8_addFolder_7 rfl rfl ?_
  refine g_get hx 8 (C := RX8) (T := TX8) (N := 15) 4 (.ref (S + 1)) (pS_o σ S M) rfl (by decide) rfl fl_X8_14 dX8_addFolder_8 ?_
  refine g_callVr hx (k_count l g (pS_l0 σ S M) (by decide) ) lk_X8_83 ar_Ln_count (pS_l0 σ S M).1 (T := TX2) (N := 2) rfl (As := []) (rest := [.ref (S + 16)]) rfl (Nat.le_of_ble_eq_true rfl) ⟨Nat.le_of_ble_eq_true rfl, Nat.le_of_ble_eq_true rfl⟩ ⟨rfl, rfl⟩ ⟨Nat.zero_le _, Nat.zero_le _⟩ dX8_addFolder_11 ?_
  refine g_callVv hx (k_add l g (pS_l7 σ S M) (by decide) (nI (M.2 0).length)) lk_X8_87 ar_Ln_add (pS_l7 σ S M).1 (T := TX2) (N := 2) rfl (As := [.int (nI (M.2 0).length)]) (rest := []) rfl (Nat.le_of_ble_eq_true rfl) ⟨Nat.le_of_ble_eq_true rfl, Nat.le_of_ble_eq_true rfl⟩ ⟨rfl, rfl⟩ ⟨Nat.zero_le _, Nat.zero_le _⟩ dX8_addFolder_14 ?_
  refine G.heap (pS_p7 σ S M (lnadd 24 (M.2 7) (nI (M.2 0).length))) ?_
  refine g_aload_n hx 17 (i := 0) 0 dX8_addFolder_17 rfl rfl ?_
  refine g_get hx 18 (C := RX8) (T := TX8) (N := 15) 4 (.ref (S + 1)) (pS_o σ S (setL M 7 (lnadd 24 (M.2 7) (nI (M.2 0).length)))) rfl (by decide) rfl fl_X8_14 dX8_addFolder_18 ?_
  refine g_iload_n hx 21 (i := 1) 1 dX8_addFolder_21 rfl rfl ?_
  refine g_callVv hx (k_add l g (pS_l0 σ S (setL M 7 (lnadd 24 (M.2 7) (nI (M.2 0).length)))) (by decide) p1) lk_X8_87 ar_Ln_add (pS_l0 σ S (setL M 7 (lnadd 24 (M.2 7) (nI (M.2 0).length)))).1 (T := TX2) (N := 2) rfl (As := [.int p1]) (rest := []) rfl (Nat.le_of_ble_eq_true rfl) ⟨Nat.le_of_ble_eq_true rfl, Nat.le_of_ble_eq_true rfl⟩ ⟨rfl, rfl⟩ ⟨Nat.zero_le _, Nat.zero_le _⟩ dX8_addFolder_22 ?_
  refine G.heap (pS_p0 σ S (setL M 7 (lnadd 24 (M.2 7) (nI (M.2 0).length))) (lnadd 24 (M.2 0) p1)) ?_
  refine g_aload_n hx 25 (i := 0) 0 dX8_addFolder_25 rfl rfl ?_
  refine g_get hx 26 (C := RX8) (T := TX8) (N := 15) 5 (.ref (S + 3)) (pS_o σ S (setL (setL M 7 (lnadd 24 (M.2 7) (nI (M.2 0).length))) 0 (lnadd 24 (M.2 0) p1))) rfl (by decide) rfl fl_X8_20 dX8_addFolder_26 ?_
  refine g_iload_n hx 29 (i := 2) 2 dX8_addFolder_29 rfl rfl ?_
  refine g_callVv hx (k_add l g (pS_l1 σ S (setL (setL M 7 (lnadd 24 (M.2 7) (nI (M.2 0).length))) 0 (lnadd 24 (M.2 0) p1))) (by decide) p2) lk_X8_87 ar_Ln_add (pS_l1 σ S (setL (setL M 7 (lnadd 24 (M.2 7) (nI (M.2 0).length))) 0 (lnadd 24 (M.2 0) p1))).1 (T := TX2) (N := 2) rfl (As := [.int p2]) (rest := []) rfl (Nat.le_of_ble_eq_true rfl) ⟨Nat.le_of_ble_eq_true rfl, Nat.le_of_ble_eq_true rfl⟩ ⟨rfl, rfl⟩ ⟨Nat.zero_le _, Nat.zero_le _⟩ dX8_addFolder_30 ?_
  refine G.heap (pS_p1 σ S (setL (setL M 7 (lnadd 24 (M.2 7) (nI (M.2 0).length))) 0 (lnadd 24 (M.2 0) p1)) (lnadd 24 (M.2 1) p2)) ?_
  refine g_aload_n hx 33 (i := 0) 0 dX8_addFolder_33 rfl rfl ?_
  refine g_get hx 34 (C := RX8) (T := TX8) (N := 15) 6 (.ref (S + 5)) (pS_o σ S (setL (setL (setL M 7 (lnadd 24 (M.2 7) (nI (M.2 0).length))) 0 (lnadd 24 (M.2 0) p1)) 1 (lnadd 24 (M.2 1) p2))) rfl (by decide) rfl fl_X8_23 dX8_addFolder_34 ?_
  refine g_iconst hx 37 (0) dX8_addFolder_37 rfl ?_
  refine g_callVv hx (k_add l g (pS_l2 σ S (setL (setL (setL M 7 (lnadd 24 (M.2 7) (nI (M.2 0).length))) 0 (lnadd 24 (M.2 0) p1)) 1 (lnadd 24 (M.2 1) p2))) (by decide) 0) lk_X8_87 ar_Ln_add (pS_l2 σ S (setL (setL (setL M 7 (lnadd 24 (M.2 7) (nI (M.2 0).length))) 0 (lnadd 24 (M.2 0) p1)) 1 (lnadd 24 (M.2 1) p2))).1 (T := TX2) (N := 2) rfl (As := [.int 0]) (rest := []) rfl (Nat.le_of_ble_eq_true rfl) ⟨Nat.le_of_ble_eq_true rfl, Nat.le_of_ble_eq_true rfl⟩ ⟨rfl, rfl⟩ ⟨Nat.zero_le _, Nat.zero_le _⟩ dX8_addFolder_38 ?_
  refine G.heap (pS_p2 σ S (setL (setL (setL M 7 (lnadd 24 (M.2 7) (nI (M.2 0).length))) 0 (lnadd 24 (M.2 0) p1)) 1 (lnadd 24 (M.2 1) p2)) (lnadd 24 (M.2 2) 0)) ?_
  refine g_aload_n hx 41 (i := 0) 0 dX8_addFolder_41 rfl rfl ?_
  refine g_get hx 42 (C := RX8) (T := TX8) (N := 15) 7 (.ref (S + 7)) (pS_o σ S (setL (setL (setL (setL M 7 (lnadd 24 (M.2 7) (nI (M.2 0).length))) 0 (lnadd 24 (M.2 0) p1)) 1 (lnadd 24 (M.2 1) p2)) 2 (lnadd 24 (M.2 2) 0))) rfl (by decide) rfl fl_X8_26 dX8_addFolder_42 ?_
  refine g_iconst hx 45 (-1) dX8_addFolder_45 rfl ?_
  refine g_callVv hx (k_add l g (pS_l3 σ S (setL (setL (setL (setL M 7 (lnadd 24 (M.2 7) (nI (M.2 0).length))) 0 (lnadd 24 (M.2 0) p1)) 1 (lnadd 24 (M.2 1) p2)) 2 (lnadd 24 (M.2 2) 0))) (by decide) (-1)) lk_X8_87 ar_Ln_add (pS_l3 σ S (setL (setL (setL (setL M 7 (lnadd 24 (M.2 7) (nI (M.2 0).length))) 0 (lnadd 24 (M.2 0) p1)) 1 (lnadd 24 (M.2 1) p2)) 2 (lnadd 24 (M.2 2) 0))).1 (T := TX2) (N := 2) rfl (As := [.int (-1)]) (rest := []) rfl (Nat.le_of_ble_eq_true rfl) ⟨Nat.le_of_ble_eq_true rfl, Nat.le_of_ble_eq_true rfl⟩ ⟨rfl, rfl⟩ ⟨Nat.zero_le _, Nat.zero_le _⟩ dX8_addFolder_46 ?_
  refine G.heap (pS_p3 σ S (setL (setL (setL (setL M 7 (lnadd 24 (M.2 7) (nI (M.2 0).length))) 0 (lnadd 24 (M.2 0) p1)) 1 (lnadd 24 (M.2 1) p2)) 2 (lnadd 24 (M.2 2) 0)) (lnadd 24 (M.2 3) (-1))) ?_
  refine g_aload_n hx 49 (i := 0) 0 dX8_addFolder_49 rfl rfl ?_
  refine g_get hx 50 (C := RX8) (T := TX8) (N := 15) 8 (.ref (S + 9)) (pS_o σ S (setL (setL (setL (setL (setL M 7 (lnadd 24 (M.2 7) (nI (M.2 0).length))) 0 (lnadd 24 (M.2 0) p1)) 1 (lnadd 24 (M.2 1) p2)) 2 (lnadd 24 (M.2 2) 0)) 3 (lnadd 24 (M.2 3) (-1)))) rfl (by decide) rfl fl_X8_29 dX8_addFolder_50 ?_
  refine g_iconst hx 53 (0) dX8_addFolder_53 rfl ?_
  refine g_callVv hx (k_add l g (pS_l4 σ S (setL (setL (setL (setL (setL M 7 (lnadd 24 (M.2 7) (nI (M.2 0).length))) 0 (lnadd 24 (M.2 0) p1)) 1 (lnadd 24 (M.2 1) p2)) 2 (lnadd 24 (M.2 2) 0)) 3 (lnadd 24 (M.2 3) (-1)))) (by decide) 0) lk_X8_87 ar_Ln_add (pS_l4 σ S (setL (setL (setL (setL (setL M 7 (lnadd 24 (M.2 7) (nI (M.2 0).length))) 0 (lnadd 24 (M.2 0) p1)) 1 (lnadd 24 (M.2 1) p2)) 2 (lnadd 24 (M.2 2) 0)) 3 (lnadd 24 (M.2 3) (-1)))).1 (T := TX2) (N := 2) rfl (As := [.int 0]) (rest := []) rfl (Nat.le_of_ble_eq_true rfl) ⟨Nat.le_of_ble_eq_true rfl, Nat.le_of_ble_eq_true rfl⟩ ⟨rfl, rfl⟩ ⟨Nat.zero_le _, Nat.zero_le _⟩ dX8_addFolder_54 ?_
  refine G.heap (pS_p4 σ S (setL (setL (setL (setL (setL M 7 (lnadd 24 (M.2 7) (nI (M.2 0).length))) 0 (lnadd 24 (M.2 0) p1)) 1 (lnadd 24 (M.2 1) p2)) 2 (lnadd 24 (M.2 2) 0)) 3 (lnadd 24 (M.2 3) (-1))) (lnadd 24 (M.2 4) 0)) ?_
  exact g_vret hx hR 57 dX8_addFolder_57 ⟨rfl, by rw [← hr] <;> rfl⟩
def St_copyFrom (M2 : StM) (M : StM) : StM := lt' (Sl_copyFrom M2 (setL (setL (setL (setL (setL (setL (setL (setL (setL (setI (setI (setI (setI M 0 (M2.1 0)) 1 (M2.1 1)) 2 (M2.1 2)) 3 (M2.1 3)) 0 ((M2.2 0).take 24)) 1 ((M2.2 1).take 24)) 2 ((M2.2 2).take 24)) 3 ((M2.2 3).take 24)) 4 ((M2.2 4).take 24)) 5 ((M2.2 5).take 8)) 6 ((M2.2 6).take 8)) 7 ((M2.2 7).take 24)) 10 ((M2.2 10).take 24))) fun M_161 => setL M_161 15 ((M2.2 15).take 11)
set_option maxRecDepth 100000 in
set_option maxHeartbeats 4000000 in
theorem c_St_copyFrom {S2 : Nat} {M2 : StM} {σ : Hp} {S : Nat} (h2 : isSt σ S2 M2) (hd : S2 + 35 ≤ S ∨ S + 35 ≤ S2) (l : Launch) (g : Gl) (M : StM) {r : StM} (hr : St_copyFrom M2 M = r) : MG l g md_St_copyFrom [.ref S, .ref S2] (putSt σ S M) (rs none (putSt σ S r)) := by
  refine MG.intro (by decide +kernel) (Nat.le_of_ble_eq_true rfl) (fun X hx hR _ => ?_)
  unfold St_copyFrom at hr
  refine g_ls [0, 1] [(0, .ref S), (1, .ref S2)] rfl ?_
  refine g_aload_n hx 0 (i := 0) 0 dX8_copyFrom_0 rfl rfl ?_
  refine g_aload_n hx 1 (i := 1) 1 dX8_copyFrom_1 rfl rfl ?_
  refine g_get hx 2 (C := RX8) (T := TX8) (N := 15) 0 (.int (M2.1 0)) (pO (M := M) h2 hd 0 (by decide)) rfl (by decide) rfl fl_X8_60 dX8_copyFrom_2 ?_
  refine g_put hx 5 (C := RX8) (T := TX8) (N := 15) 0 .int _ (pS_o σ S M) rfl (by decide) fl_X8_60 rfl rfl rfl rfl (Nat.le_of_ble_eq_true rfl) rfl dX8_copyFrom_5 ?_
  refine G.heap (pS_i0 σ S M (M2.1 0)) ?_
  refine g_aload_n hx 8 (i := 0) 0 dX8_copyFrom_8 rfl rfl ?_
  refine g_aload_n hx 9 (i := 1) 1 dX8_copyFrom_9 rfl rfl ?_
  refine g_get hx 10 (C := RX8) (T := TX8) (N := 15) 1 (.int (M2.1 1)) (pO (M := setI M 0 (M2.1 0)) h2 hd 0 (by decide)) rfl (by decide) rfl fl_X8_64 dX8_copyFrom_10 ?_
  refine g_put hx 13 (C := RX8) (T := TX8) (N := 15) 1 .int _ (pS_o σ S (setI M 0 (M2.1 0))) rfl (by decide) fl_X8_64 rfl rfl rfl rfl (Nat.le_of_ble_eq_true rfl) rfl dX8_copyFrom_13 ?_
  refine G.heap (pS_i1 σ S (setI M 0 (M2.1 0)) (M2.1 1)) ?_
  refine g_aload_n hx 16 (i := 0) 0 dX8_copyFrom_16 rfl rfl ?_
  refine g_aload_n hx 17 (i := 1) 1 dX8_copyFrom_17 rfl rfl ?_
  refine g_get hx 18 (C := RX8) (T := TX8) (N := 15) 2 (.int (M2.1 2)) (pO (M := setI (setI M 0 (M2.1 0)) 1 (M2.1 1)) h2 hd 0 (by decide)) rfl (by decide) rfl fl_X8_67 dX8_copyFrom_18 ?_
  refine g_put hx 21 (C := RX8) (T := TX8) (N := 15) 2 .int _ (pS_o σ S (setI (setI M 0 (M2.1 0)) 1 (M2.1 1))) rfl (by decide) fl_X8_67 rfl rfl rfl rfl (Nat.le_of_ble_eq_true rfl) rfl dX8_copyFrom_21 ?_
  refine G.heap (pS_i2 σ S (setI (setI M 0 (M2.1 0)) 1 (M2.1 1)) (M2.1 2)) ?_
  refine g_aload_n hx 24 (i := 0) 0 dX8_copyFrom_24 rfl rfl ?_
  refine g_aload_n hx 25 (i := 1) 1 dX8_copyFrom_25 rfl rfl ?_
  refine g_get hx 26 (C := RX8) (T := TX8) (N := 15) 3 (.int (M2.1 3)) (pO (M := setI (setI (setI M 0 (M2.1 0)) 1 (M2.1 1)) 2 (M2.1 2)) h2 hd 0 (by decide)) rfl (by decide) rfl fl_X8_70 dX8_copyFrom_26 ?_
  refine g_put hx 29 (C := RX8) (T := TX8) (N := 15) 3 .int _ (pS_o σ S (setI (setI (setI M 0 (M2.1 0)) 1 (M2.1 1)) 2 (M2.1 2))) rfl (by decide) fl_X8_70 rfl rfl rfl rfl (Nat.le_of_ble_eq_true rfl) rfl dX8_copyFrom_29 ?_
  refine G.heap (pS_i3 σ S (setI (setI (setI M 0 (M2.1 0)) 1 (M2.1 1)) 2 (M2.1 2)) (M2.1 3)) ?_
  refine g_aload_n hx 32 (i := 0) 0 dX8_copyFrom_32 rfl rfl ?_
  refine g_get hx 33 (C := RX8) (T := TX8) (N := 15) 4 (.ref (S + 1)) (pS_o σ S (setI (setI (setI (setI M 0 (M2.1 0)) 1 (M2.1 1)) 2 (M2.1 2)) 3 (M2.1 3))) rfl (by decide) rfl fl_X8_14 dX8_copyFrom_33 ?_
  refine g_aload_n hx 36 (i := 1) 1 dX8_copyFrom_36 rfl rfl ?_
  refine g_get hx 37 (C := RX8) (T := TX8) (N := 15) 4 (.ref (S2 + 1)) (pO (M := setI (setI (setI (setI M 0 (M2.1 0)) 1 (M2.1 1)) 2 (M2.1 2)) 3 (M2.1 3)) h2 hd 0 (by decide)) rfl (by decide) rfl fl_X8_14 dX8_copyFrom_37 ?_
  refine g_callVv hx (k_copyFrom l g (pS_l0 σ S (setI (setI (setI (setI M 0 (M2.1 0)) 1 (M2.1 1)) 2 (M2.1 2)) 3 (M2.1 3))) (pO_l0 (M := setI (setI (setI (setI M 0 (M2.1 0)) 1 (M2.1 1)) 2 (M2.1 2)) 3 (M2.1 3)) h2 hd) (by decide) (by decide) ⟨by omega, by omega, by omega, by omega⟩) lk_X8_90 ar_Ln_copyFrom (pS_l0 σ S (setI (setI (setI (setI M 0 (M2.1 0)) 1 (M2.1 1)) 2 (M2.1 2)) 3 (M2.1 3))).1 (T := TX2) (N := 2) rfl (As := [.ref (S2 + 1)]) (rest := []) rfl (Nat.le_of_ble_eq_true rfl) ⟨Nat.le_of_ble_eq_true rfl, Nat.le_of_ble_eq_true rfl⟩ ⟨rfl, rfl⟩ ⟨Nat.zero_le _, Nat.zero_le _⟩ dX8_copyFrom_40 ?_
  refine G.heap (pS_p0 σ S (setI (setI (setI (setI M 0 (M2.1 0)) 1 (M2.1 1)) 2 (M2.1 2)) 3 (M2.1 3)) ((M2.2 0).take 24)) ?_
  refine g_aload_n hx 43 (i := 0) 0 dX8_copyFrom_43 rfl rfl ?_
  refine g_get hx 44 (C := RX8) (T := TX8) (N := 15) 5 (.ref (S + 3)) (pS_o σ S (setL (setI (setI (setI (setI M 0 (M2.1 0)) 1 (M2.1 1)) 2 (M2.1 2)) 3 (M2.1 3)) 0 ((M2.2 0).take 24))) rfl (by decide) rfl fl_X8_20 dX8_copyFrom_44 ?_
  refine g_aload_n hx 47 (i := 1) 1 dX8_copyFrom_47 rfl rfl ?_
  refine g_get hx 48 (C := RX8) (T := TX8) (N := 15) 5 (.ref (S2 + 3)) (pO (M := setL (setI (setI (setI (setI M 0 (M2.1 0)) 1 (M2.1 1)) 2 (M2.1 2)) 3 (M2.1 3)) 0 ((M2.2 0).take 24)) h2 hd 0 (by decide)) rfl (by decide) rfl fl_X8_20 dX8_copyFrom_48 ?_
  refine g_callVv hx (k_copyFrom l g (pS_l1 σ S (setL (setI (setI (setI (setI M 0 (M2.1 0)) 1 (M2.1 1)) 2 (M2.1 2)) 3 (M2.1 3)) 0 ((M2.2 0).take 24))) (pO_l1 (M := setL (setI (setI (setI (setI M 0 (M2.1 0)) 1 (M2.1 1)) 2 (M2.1 2)) 3 (M2.1 3)) 0 ((M2.2 0).take 24)) h2 hd) (by decide) (by decide) ⟨by omega, by omega, by omega, by omega⟩) lk_X8_90 ar_Ln_copyFrom (pS_l1 σ S (setL (setI (setI (setI (setI M 0 (M2.1 0)) 1 (M2.1 1)) 2 (M2.1 2)) 3 (M2.1 3)) 0 ((M2.2 0).take 24))).1 (T := TX2) (N := 2) rfl (As := [.ref (S2 + 3)]) (rest := []) rfl (Nat.le_of_ble_eq_true rfl) ⟨Nat.le_of_ble_eq_true rfl, Nat.le_of_ble_eq_true rfl⟩ ⟨rfl, rfl⟩ ⟨Nat.zero_le _, Nat.zero_le _⟩ dX8_copyFrom_51 ?_
  refine G.heap (pS_p1 σ S (setL (setI (setI (setI (setI M 0 (M2.1 0)) 1 (M2.1 1)) 2 (M2.1 2)) 3 (M2.1 3)) 0 ((M2.2 0).take 24)) ((M2.2 1).take 24)) ?_
  refine g_aload_n hx 54 (i := 0) 0 dX8_copyFrom_54 rfl rfl ?_
  refine g_get hx 55 (C := RX8) (T := TX8) (N := 15) 6 (.ref (S + 5)) (pS_o σ S (setL (setL (setI (setI (setI (setI M 0 (M2.1 0)) 1 (M2.1 1)) 2 (M2.1 2)) 3 (M2.1 3)) 0 ((M2.2 0).take 24)) 1 ((M2.2 1).take 24))) rfl (by decide) rfl fl_X8_23 dX8_copyFrom_55 ?_
  refine g_aload_n hx 58 (i := 1) 1 dX8_copyFrom_58 rfl rfl ?_
  refine g_get hx 59 (C := RX8) (T := TX8) (N := 15) 6 (.ref (S2 + 5)) (pO (M := setL (setL (setI (setI (setI (setI M 0 (M2.1 0)) 1 (M2.1 1)) 2 (M2.1 2)) 3 (M2.1 3)) 0 ((M2.2 0).take 24)) 1 ((M2.2 1).take 24)) h2 hd 0 (by decide)) rfl (by decide) rfl fl_X8_23 dX8_copyFrom_59 ?_
  refine g_callVv hx (k_copyFrom l g (pS_l2 σ S (setL (setL (setI (setI (setI (setI M 0 (M2.1 0)) 1 (M2.1 1)) 2 (M2.1 2)) 3 (M2.1 3)) 0 ((M2.2 0).take 24)) 1 ((M2.2 1).take 24))) (pO_l2 (M := setL (setL (setI (setI (setI (setI M 0 (M2.1 0)) 1 (M2.1 1)) 2 (M2.1 2)) 3 (M2.1 3)) 0 ((M2.2 0).take 24)) 1 ((M2.2 1).take 24)) h2 hd) (by decide) (by decide) ⟨by omega, by omega, by omega, by omega⟩) lk_X8_90 ar_Ln_copyFrom (pS_l2 σ S (setL (setL (setI (setI (setI (setI M 0 (M2.1 0)) 1 (M2.1 1)) 2 (M2.1 2)) 3 (M2.1 3)) 0 ((M2.2 0).take 24)) 1 ((M2.2 1).take 24))).1 (T := TX2) (N := 2) rfl (As := [.ref (S2 + 5)]) (rest := []) rfl (Nat.le_of_ble_eq_true rfl) ⟨Nat.le_of_ble_eq_true rfl, Nat.le_of_ble_eq_true rfl⟩ ⟨rfl, rfl⟩ ⟨Nat.zero_le _, Nat.zero_le _⟩ dX8_copyFrom_62 ?_
  refine G.heap (pS_p2 σ S (setL (setL (setI (setI (setI (setI M 0 (M2.1 0)) 1 (M2.1 1)) 2 (M2.1 2)) 3 (M2.1 3)) 0 ((M2.2 0).take 24)) 1 ((M2.2 1).take 24)) ((M2.2 2).take 24)) ?_
  refine g_aload_n hx 65 (i := 0) 0 dX8_copyFrom_65 rfl rfl ?_
  refine g_get hx 66 (C := RX8) (T := TX8) (N := 15) 7 (.ref (S + 7)) (pS_o σ S (setL (setL (setL (setI (setI (setI (setI M 0 (M2.1 0)) 1 (M2.1 1)) 2 (M2.1 2)) 3 (M2.1 3)) 0 ((M2.2 0).take 24)) 1 ((M2.2 1).take 24)) 2 ((M2.2 2).take 24))) rfl (by decide) rfl fl_X8_26 dX8_copyFrom_66 ?_
  refine g_aload_n hx 69 (i := 1) 1 dX8_copyFrom_69 rfl rfl ?_
  refine g_get hx 70 (C := RX8) (T := TX8) (N := 15) 7 (.ref (S2 + 7)) (pO (M := setL (setL (setL (setI (setI (setI (setI M 0 (M2.1 0)) 1 (M2.1 1)) 2 (M2.1 2)) 3 (M2.1 3)) 0 ((M2.2 0).take 24)) 1 ((M2.2 1).take 24)) 2 ((M2.2 2).take 24)) h2 hd 0 (by decide)) rfl (by decide) rfl fl_X8_26 dX8_copyFrom_70 ?_
  refine g_callVv hx (k_copyFrom l g (pS_l3 σ S (setL (setL (setL (setI (setI (setI (setI M 0 (M2.1 0)) 1 (M2.1 1)) 2 (M2.1 2)) 3 (M2.1 3)) 0 ((M2.2 0).take 24)) 1 ((M2.2 1).take 24)) 2 ((M2.2 2).take 24))) (pO_l3 (M := setL (setL (setL (setI (setI (setI (setI M 0 (M2.1 0)) 1 (M2.1 1)) 2 (M2.1 2)) 3 (M2.1 3)) 0 ((M2.2 0).take 24)) 1 ((M2.2 1).take 24)) 2 ((M2.2 2).take 24)) h2 hd) (by decide) (by decide) ⟨by omega, by omega, by omega, by omega⟩) lk_X8_90 ar_Ln_copyFrom (pS_l3 σ S (setL (setL (setL (setI (setI (setI (setI M 0 (M2.1 0)) 1 (M2.1 1)) 2 (M2.1 2)) 3 (M2.1 3)) 0 ((M2.2 0).take 24)) 1 ((M2.2 1).take 24)) 2 ((M2.2 2).take 24))).1 (T := TX2) (N := 2) rfl (As := [.ref (S2 + 7)]) (rest := []) rfl (Nat.le_of_ble_eq_true rfl) ⟨Nat.le_of_ble_eq_true rfl, Nat.le_of_ble_eq_true rfl⟩ ⟨rfl, rfl⟩ ⟨Nat.zero_le _, Nat.zero_le _⟩ dX8_copyFrom_73 ?_
  refine G.heap (pS_p3 σ S (setL (setL (setL (setI (setI (setI (setI M 0 (M2.1 0)) 1 (M2.1 1)) 2 (M2.1 2)) 3 (M2.1 3)) 0 ((M2.2 0).take 24)) 1 ((M2.2 1).take 24)) 2 ((M2.2 2).take 24)) ((M2.2 3).take 24)) ?_
  refine g_aload_n hx 76 (i := 0) 0 dX8_copyFrom_76 rfl rfl ?_
  refine g_get hx 77 (C := RX8) (T := TX8) (N := 15) 8 (.ref (S + 9)) (pS_o σ S (setL (setL (setL (setL (setI (setI (setI (setI M 0 (M2.1 0)) 1 (M2.1 1)) 2 (M2.1 2)) 3 (M2.1 3)) 0 ((M2.2 0).take 24)) 1 ((M2.2 1).take 24)) 2 ((M2.2 2).take 24)) 3 ((M2.2 3).take 24))) rfl (by decide) rfl fl_X8_29 dX8_copyFrom_77 ?_
  refine g_aload_n hx 80 (i := 1) 1 dX8_copyFrom_80 rfl rfl ?_
  refine g_get hx 81 (C := RX8) (T := TX8) (N := 15) 8 (.ref (S2 + 9)) (pO (M := setL (setL (setL (setL (setI (setI (setI (setI M 0 (M2.1 0)) 1 (M2.1 1)) 2 (M2.1 2)) 3 (M2.1 3)) 0 ((M2.2 0).take 24)) 1 ((M2.2 1).take 24)) 2 ((M2.2 2).take 24)) 3 ((M2.2 3).take 24)) h2 hd 0 (by decide)) rfl (by decide) rfl fl_X8_29 dX8_copyFrom_81 ?_
  refine g_callVv hx (k_copyFrom l g (pS_l4 σ S (setL (setL (setL (setL (setI (setI (setI (setI M 0 (M2.1 0)) 1 (M2.1 1)) 2 (M2.1 2)) 3 (M2.1 3)) 0 ((M2.2 0).take 24)) 1 ((M2.2 1).take 24)) 2 ((M2.2 2).take 24)) 3 ((M2.2 3).take 24))) (pO_l4 (M := setL (setL (setL (setL (setI (setI (setI (setI M 0 (M2.1 0)) 1 (M2.1 1)) 2 (M2.1 2)) 3 (M2.1 3)) 0 ((M2.2 0).take 24)) 1 ((M2.2 1).take 24)) 2 ((M2.2 2).take 24)) 3 ((M2.2 3).take 24)) h2 hd) (by decide) (by decide) ⟨by omega, by omega, by omega, by omega⟩) lk_X8_90 ar_Ln_copyFrom (pS_l4 σ S (setL (setL (setL (setL (setI (setI (setI (setI M 0 (M2.1 0)) 1 (M2.1 1)) 2 (M2.1 2)) 3 (M2.1 3)) 0 ((M2.2 0).take 24)) 1 ((M2.2 1).take 24)) 2 ((M2.2 2).take 24)) 3 ((M2.2 3).take 24))).1 (T := TX2) (N := 2) rfl (As := [.ref (S2 + 9)]) (rest := []) rfl (Nat.le_of_ble_eq_true rfl) ⟨Nat.le_of_ble_eq_true rfl, Nat.le_of_ble_eq_true rfl⟩ ⟨rfl, rfl⟩ ⟨Nat.zero_le _, Nat.zero_le _⟩ dX8_copyFrom_84 ?_
  refine G.heap (pS_p4 σ S (setL (setL (setL (setL (setI (setI (setI (setI M 0 (M2.1 0)) 1 (M2.1 1)) 2 (M2.1 2)) 3 (M2.1 3)) 0 ((M2.2 0).take 24)) 1 ((M2.2 1).take 24)) 2 ((M2.2 2).take 24)) 3 ((M2.2 3).take 24)) ((M2.2 4).take 24)) ?_
  refine g_aload_n hx 87 (i := 0) 0 dX8_copyFrom_87 rfl rfl ?_
  refine g_get hx 88 (C := RX8) (T := TX8) (N := 15) 9 (.ref (S + 11)) (pS_o σ S (setL (setL (setL (setL (setL (setI (setI (setI (setI M 0 (M2.1 0)) 1 (M2.1 1)) 2 (M2.1 2)) 3 (M2.1 3)) 0 ((M2.2 0).take 24)) 1 ((M2.2 1).take 24)) 2 ((M2.2 2).take 24)) 3 ((M2.2 3).take 24)) 4 ((M2.2 4).take 24))) rfl (by decide) rfl fl_X8_32 dX8_copyFrom_88 ?_
  refine g_aload_n hx 91 (i := 1) 1 dX8_copyFrom_91 rfl rfl ?_
  refine g_get hx 92 (C := RX8) (T := TX8) (N := 15) 9 (.ref (S2 + 11)) (pO (M := setL (setL (setL (setL (setL (setI (setI (setI (setI M 0 (M2.1 0)) 1 (M2.1 1)) 2 (M2.1 2)) 3 (M2.1 3)) 0 ((M2.2 0).take 24)) 1 ((M2.2 1).take 24)) 2 ((M2.2 2).take 24)) 3 ((M2.2 3).take 24)) 4 ((M2.2 4).take 24)) h2 hd 0 (by decide)) rfl (by decide) rfl fl_X8_32 dX8_copyFrom_92 ?_
  refine g_callVv hx (k_copyFrom l g (pS_l5 σ S (setL (setL (setL (setL (setL (setI (setI (setI (setI M 0 (M2.1 0)) 1 (M2.1 1)) 2 (M2.1 2)) 3 (M2.1 3)) 0 ((M2.2 0).take 24)) 1 ((M2.2 1).take 24)) 2 ((M2.2 2).take 24)) 3 ((M2.2 3).take 24)) 4 ((M2.2 4).take 24))) (pO_l5 (M := setL (setL (setL (setL (setL (setI (setI (setI (setI M 0 (M2.1 0)) 1 (M2.1 1)) 2 (M2.1 2)) 3 (M2.1 3)) 0 ((M2.2 0).take 24)) 1 ((M2.2 1).take 24)) 2 ((M2.2 2).take 24)) 3 ((M2.2 3).take 24)) 4 ((M2.2 4).take 24)) h2 hd) (by decide) (by decide) ⟨by omega, by omega, by omega, by omega⟩) lk_X8_90 ar_Ln_copyFrom (pS_l5 σ S (setL (setL (setL (setL (setL (setI (setI (setI (setI M 0 (M2.1 0)) 1 (M2.1 1)) 2 (M2.1 2)) 3 (M2.1 3)) 0 ((M2.2 0).take 24)) 1 ((M2.2 1).take 24)) 2 ((M2.2 2).take 24)) 3 ((M2.2 3).take 24)) 4 ((M2.2 4).take 24))).1 (T := TX2) (N := 2) rfl (As := [.ref (S2 + 11)]) (rest := []) rfl (Nat.le_of_ble_eq_true rfl) ⟨Nat.le_of_ble_eq_true rfl, Nat.le_of_ble_eq_true rfl⟩ ⟨rfl, rfl⟩ ⟨Nat.zero_le _, Nat.zero_le _⟩ dX8_copyFrom_95 ?_
  refine G.heap (pS_p5 σ S (setL (setL (setL (setL (setL (setI (setI (setI (setI M 0 (M2.1 0)) 1 (M2.1 1)) 2 (M2.1 2)) 3 (M2.1 3)) 0 ((M2.2 0).take 24)) 1 ((M2.2 1).take 24)) 2 ((M2.2 2).take 24)) 3 ((M2.2 3).take 24)) 4 ((M2.2 4).take 24)) ((M2.2 5).take 8)) ?_
  refine g_aload_n hx 98 (i := 0) 0 dX8_copyFrom_98 rfl rfl ?_
  refine g_get hx 99 (C := RX8) (T := TX8) (N := 15) 10 (.ref (S + 13)) (pS_o σ S (setL (setL (setL (setL (setL (setL (setI (setI (setI (setI M 0 (M2.1 0)) 1 (M2.1 1)) 2 (M2.1 2)) 3 (M2.1 3)) 0 ((M2.2 0).take 24)) 1 ((M2.2 1).take 24)) 2 ((M2.2 2).take 24)) 3 ((M2.2 3).take 24)) 4 ((M2.2 4).take 24)) 5 ((M2.2 5).take 8))) rfl (by decide) rfl fl_X8_35 dX8_copyFrom_99 ?_
  refine g_aload_n hx 102 (i := 1) 1 dX8_copyFrom_102 rfl rfl ?_
  refine g_get hx 103 (C := RX8) (T := TX8) (N := 15) 10 (.ref (S2 + 13)) (pO (M := setL (setL (setL (setL (setL (setL (setI (setI (setI (setI M 0 (M2.1 0)) 1 (M2.1 1)) 2 (M2.1 2)) 3 (M2.1 3)) 0 ((M2.2 0).take 24)) 1 ((M2.2 1).take 24)) 2 ((M2.2 2).take 24)) 3 ((M2.2 3).take 24)) 4 ((M2.2 4).take 24)) 5 ((M2.2 5).take 8)) h2 hd 0 (by decide)) rfl (by decide) rfl fl_X8_35 dX8_copyFrom_103 ?_
  refine g_callVv hx (k_copyFrom l g (pS_l6 σ S (setL (setL (setL (setL (setL (setL (setI (setI (setI (setI M 0 (M2.1 0)) 1 (M2.1 1)) 2 (M2.1 2)) 3 (M2.1 3)) 0 ((M2.2 0).take 24)) 1 ((M2.2 1).take 24)) 2 ((M2.2 2).take 24)) 3 ((M2.2 3).take 24)) 4 ((M2.2 4).take 24)) 5 ((M2.2 5).take 8))) (pO_l6 (M := setL (setL (setL (setL (setL (setL (setI (setI (setI (setI M 0 (M2.1 0)) 1 (M2.1 1)) 2 (M2.1 2)) 3 (M2.1 3)) 0 ((M2.2 0).take 24)) 1 ((M2.2 1).take 24)) 2 ((M2.2 2).take 24)) 3 ((M2.2 3).take 24)) 4 ((M2.2 4).take 24)) 5 ((M2.2 5).take 8)) h2 hd) (by decide) (by decide) ⟨by omega, by omega, by omega, by omega⟩) lk_X8_90 ar_Ln_copyFrom (pS_l6 σ S (setL (setL (setL (setL (setL (setL (setI (setI (setI (setI M 0 (M2.1 0)) 1 (M2.1 1)) 2 (M2.1 2)) 3 (M2.1 3)) 0 ((M2.2 0).take 24)) 1 ((M2.2 1).take 24)) 2 ((M2.2 2).take 24)) 3 ((M2.2 3).take 24)) 4 ((M2.2 4).take 24)) 5 ((M2.2 5).take 8))).1 (T := TX2) (N := 2) rfl (As := [.ref (S2 + 13)]) (rest := []) rfl (Nat.le_of_ble_eq_true rfl) ⟨Nat.le_of_ble_eq_true rfl, Nat.le_of_ble_eq_true rfl⟩ ⟨rfl, rfl⟩ ⟨Nat.zero_le _, Nat.zero_le _⟩ dX8_copyFrom_106 ?_
  refine G.heap (pS_p6 σ S (setL (setL (setL (setL (setL (setL (setI (setI (setI (setI M 0 (M2.1 0)) 1 (M2.1 1)) 2 (M2.1 2)) 3 (M2.1 3)) 0 ((M2.2 0).take 24)) 1 ((M2.2 1).take 24)) 2 ((M2.2 2).take 24)) 3 ((M2.2 3).take 24)) 4 ((M2.2 4).take 24)) 5 ((M2.2 5).take 8)) ((M2.2 6).take 8)) ?_
  refine g_aload_n hx 109 (i := 0) 0 dX8_copyFrom_109 rfl rfl ?_
  refine g_get hx 110 (C := RX8) (T := TX8) (N := 15) 11 (.ref (S + 15)) (pS_o σ S (setL (setL (setL (setL (setL (setL (setL (setI (setI (setI (setI M 0 (M2.1 0)) 1 (M2.1 1)) 2 (M2.1 2)) 3 (M2.1 3)) 0 ((M2.2 0).take 24)) 1 ((M2.2 1).take 24)) 2 ((M2.2 2).take 24)) 3 ((M2.2 3).take 24)) 4 ((M2.2 4).take 24)) 5 ((M2.2 5).take 8)) 6 ((M2.2 6).take 8))) rfl (by decide) rfl fl_X8_43 dX8_copyFrom_110 ?_
  refine g_get hx 113 (C := RX5) (T := TX5) (N := 4) 0 (.ref (S + 16)) (pS σ S (setL (setL (setL (setL (setL (setL (setL (setI (setI (setI (setI M 0 (M2.1 0)) 1 (M2.1 1)) 2 (M2.1 2)) 3 (M2.1 3)) 0 ((M2.2 0).take 24)) 1 ((M2.2 1).take 24)) 2 ((M2.2 2).take 24)) 3 ((M2.2 3).take 24)) 4 ((M2.2 4).take 24)) 5 ((M2.2 5).take 8)) 6 ((M2.2 6).take 8)) 15 (by decide)) rfl (by decide) rfl fl_X8_79 dX8_copyFrom_113 ?_
  refine g_aload_n hx 116 (i := 1) 1 dX8_copyFrom_116 rfl rfl ?_
  refine g_get hx 117 (C := RX8) (T := TX8) (N := 15) 11 (.ref (S2 + 15)) (pO (M := setL (setL (setL (setL (setL (setL (setL (setI (setI (setI (setI M 0 (M2.1 0)) 1 (M2.1 1)) 2 (M2.1 2)) 3 (M2.1 3)) 0 ((M2.2 0).take 24)) 1 ((M2.2 1).take 24)) 2 ((M2.2 2).take 24)) 3 ((M2.2 3).take 24)) 4 ((M2.2 4).take 24)) 5 ((M2.2 5).take 8)) 6 ((M2.2 6).take 8)) h2 hd 0 (by decide)) rfl (by decide) rfl fl_X8_43 dX8_copyFrom_117 ?_
  refine g_get hx 120 (C := RX5) (T := TX5) (N := 4) 0 (.ref (S2 + 16)) (pO (M := setL (setL (setL (setL (setL (setL (setL (setI (setI (setI (setI M 0 (M2.1 0)) 1 (M2.1 1)) 2 (M2.1 2)) 3 (M2.1 3)) 0 ((M2.2 0).take 24)) 1 ((M2.2 1).take 24)) 2 ((M2.2 2).take 24)) 3 ((M2.2 3).take 24)) 4 ((M2.2 4).take 24)) 5 ((M2.2 5).take 8)) 6 ((M2.2 6).take 8)) h2 hd 15 (by decide)) rfl (by decide) rfl fl_X8_79 dX8_copyFrom_120 ?_
  refine g_callVv hx (k_copyFrom l g (pS_l7 σ S (setL (setL (setL (setL (setL (setL (setL (setI (setI (setI (setI M 0 (M2.1 0)) 1 (M2.1 1)) 2 (M2.1 2)) 3 (M2.1 3)) 0 ((M2.2 0).take 24)) 1 ((M2.2 1).take 24)) 2 ((M2.2 2).take 24)) 3 ((M2.2 3).take 24)) 4 ((M2.2 4).take 24)) 5 ((M2.2 5).take 8)) 6 ((M2.2 6).take 8))) (pO_l7 (M := setL (setL (setL (setL (setL (setL (setL (setI (setI (setI (setI M 0 (M2.1 0)) 1 (M2.1 1)) 2 (M2.1 2)) 3 (M2.1 3)) 0 ((M2.2 0).take 24)) 1 ((M2.2 1).take 24)) 2 ((M2.2 2).take 24)) 3 ((M2.2 3).take 24)) 4 ((M2.2 4).take 24)) 5 ((M2.2 5).take 8)) 6 ((M2.2 6).take 8)) h2 hd) (by decide) (by decide) ⟨by omega, by omega, by omega, by omega⟩) lk_X8_90 ar_Ln_copyFrom (pS_l7 σ S (setL (setL (setL (setL (setL (setL (setL (setI (setI (setI (setI M 0 (M2.1 0)) 1 (M2.1 1)) 2 (M2.1 2)) 3 (M2.1 3)) 0 ((M2.2 0).take 24)) 1 ((M2.2 1).take 24)) 2 ((M2.2 2).take 24)) 3 ((M2.2 3).take 24)) 4 ((M2.2 4).take 24)) 5 ((M2.2 5).take 8)) 6 ((M2.2 6).take 8))).1 (T := TX2) (N := 2) rfl (As := [.ref (S2 + 16)]) (rest := []) rfl (Nat.le_of_ble_eq_true rfl) ⟨Nat.le_of_ble_eq_true rfl, Nat.le_of_ble_eq_true rfl⟩ ⟨rfl, rfl⟩ ⟨Nat.zero_le _, Nat.zero_le _⟩ dX8_copyFrom_123 ?_
  refine G.heap (pS_p7 σ S (setL (setL (setL (setL (setL (setL (setL (setI (setI (setI (setI M 0 (M2.1 0)) 1 (M2.1 1)) 2 (M2.1 2)) 3 (M2.1 3)) 0 ((M2.2 0).take 24)) 1 ((M2.2 1).take 24)) 2 ((M2.2 2).take 24)) 3 ((M2.2 3).take 24)) 4 ((M2.2 4).take 24)) 5 ((M2.2 5).take 8)) 6 ((M2.2 6).take 8)) ((M2.2 7).take 24)) ?_
  refine g_aload_n hx 126 (i := 0) 0 dX8_copyFrom_126 rfl rfl ?_
  refine g_get hx 127 (C := RX8) (T := TX8) (N := 15) 12 (.ref (S + 22)) (pS_o σ S (setL (setL (setL (setL (setL (setL (setL (setL (setI (setI (setI (setI M 0 (M2.1 0)) 1 (M2.1 1)) 2 (M2.1 2)) 3 (M2.1 3)) 0 ((M2.2 0).take 24)) 1 ((M2.2 1).take 24)) 2 ((M2.2 2).take 24)) 3 ((M2.2 3).take 24)) 4 ((M2.2 4).take 24)) 5 ((M2.2 5).take 8)) 6 ((M2.2 6).take 8)) 7 ((M2.2 7).take 24))) rfl (by decide) rfl fl_X8_47 dX8_copyFrom_127 ?_
  refine g_aload_n hx 130 (i := 1) 1 dX8_copyFrom_130 rfl rfl ?_
  refine g_get hx 131 (C := RX8) (T := TX8) (N := 15) 12 (.ref (S2 + 22)) (pO (M := setL (setL (setL (setL (setL (setL (setL (setL (setI (setI (setI (setI M 0 (M2.1 0)) 1 (M2.1 1)) 2 (M2.1 2)) 3 (M2.1 3)) 0 ((M2.2 0).take 24)) 1 ((M2.2 1).take 24)) 2 ((M2.2 2).take 24)) 3 ((M2.2 3).take 24)) 4 ((M2.2 4).take 24)) 5 ((M2.2 5).take 8)) 6 ((M2.2 6).take 8)) 7 ((M2.2 7).take 24)) h2 hd 0 (by decide)) rfl (by decide) rfl fl_X8_47 dX8_copyFrom_131 ?_
  refine g_callVv hx (k_copyFrom l g (pS_l10 σ S (setL (setL (setL (setL (setL (setL (setL (setL (setI (setI (setI (setI M 0 (M2.1 0)) 1 (M2.1 1)) 2 (M2.1 2)) 3 (M2.1 3)) 0 ((M2.2 0).take 24)) 1 ((M2.2 1).take 24)) 2 ((M2.2 2).take 24)) 3 ((M2.2 3).take 24)) 4 ((M2.2 4).take 24)) 5 ((M2.2 5).take 8)) 6 ((M2.2 6).take 8)) 7 ((M2.2 7).take 24))) (pO_l10 (M := setL (setL (setL (setL (setL (setL (setL (setL (setI (setI (setI (setI M 0 (M2.1 0)) 1 (M2.1 1)) 2 (M2.1 2)) 3 (M2.1 3)) 0 ((M2.2 0).take 24)) 1 ((M2.2 1).take 24)) 2 ((M2.2 2).take 24)) 3 ((M2.2 3).take 24)) 4 ((M2.2 4).take 24)) 5 ((M2.2 5).take 8)) 6 ((M2.2 6).take 8)) 7 ((M2.2 7).take 24)) h2 hd) (by decide) (by decide) ⟨by omega, by omega, by omega, by omega⟩) lk_X8_90 ar_Ln_copyFrom (pS_l10 σ S (setL (setL (setL (setL (setL (setL (setL (setL (setI (setI (setI (setI M 0 (M2.1 0)) 1 (M2.1 1)) 2 (M2.1 2)) 3 (M2.1 3)) 0 ((M2.2 0).take 24)) 1 ((M2.2 1).take 24)) 2 ((M2.2 2).take 24)) 3 ((M2.2 3).take 24)) 4 ((M2.2 4).take 24)) 5 ((M2.2 5).take 8)) 6 ((M2.2 6).take 8)) 7 ((M2.2 7).take 24))).1 (T := TX2) (N := 2) rfl (As := [.ref (S2 + 22)]) (rest := []) rfl (Nat.le_of_ble_eq_true rfl) ⟨Nat.le_of_ble_eq_true rfl, Nat.le_of_ble_eq_true rfl⟩ ⟨rfl, rfl⟩ ⟨Nat.zero_le _, Nat.zero_le _⟩ dX8_copyFrom_134 ?_
  refine G.heap (pS_p10 σ S (setL (setL (setL (setL (setL (setL (setL (setL (setI (setI (setI (setI M 0 (M2.1 0)) 1 (M2.1 1)) 2 (M2.1 2)) 3 (M2.1 3)) 0 ((M2.2 0).take 24)) 1 ((M2.2 1).take 24)) 2 ((M2.2 2).take 24)) 3 ((M2.2 3).take 24)) 4 ((M2.2 4).take 24)) 5 ((M2.2 5).take 8)) 6 ((M2.2 6).take 8)) 7 ((M2.2 7).take 24)) ((M2.2 10).take 24)) ?_
  refine g_aload_n hx 137 (i := 0) 0 dX8_copyFrom_137 rfl rfl ?_
  refine g_get hx 138 (C := RX8) (T := TX8) (N := 15) 13 (.ref (S + 24)) (pS_o σ S (setL (setL (setL (setL (setL (setL (setL (setL (setL (setI (setI (setI (setI M 0 (M2.1 0)) 1 (M2.1 1)) 2 (M2.1 2)) 3 (M2.1 3)) 0 ((M2.2 0).take 24)) 1 ((M2.2 1).take 24)) 2 ((M2.2 2).take 24)) 3 ((M2.2 3).take 24)) 4 ((M2.2 4).take 24)) 5 ((M2.2 5).take 8)) 6 ((M2.2 6).take 8)) 7 ((M2.2 7).take 24)) 10 ((M2.2 10).take 24))) rfl (by decide) rfl fl_X8_53 dX8_copyFrom_138 ?_
  refine g_aload_n hx 141 (i := 1) 1 dX8_copyFrom_141 rfl rfl ?_
  refine g_get hx 142 (C := RX8) (T := TX8) (N := 15) 13 (.ref (S2 + 24)) (pO (M := setL (setL (setL (setL (setL (setL (setL (setL (setL (setI (setI (setI (setI M 0 (M2.1 0)) 1 (M2.1 1)) 2 (M2.1 2)) 3 (M2.1 3)) 0 ((M2.2 0).take 24)) 1 ((M2.2 1).take 24)) 2 ((M2.2 2).take 24)) 3 ((M2.2 3).take 24)) 4 ((M2.2 4).take 24)) 5 ((M2.2 5).take 8)) 6 ((M2.2 6).take 8)) 7 ((M2.2 7).take 24)) 10 ((M2.2 10).take 24)) h2 hd 0 (by decide)) rfl (by decide) rfl fl_X8_53 dX8_copyFrom_142 ?_
  obtain ⟨M_161, eM_161, hr⟩ := lt'_e hr
  refine g_callVv hx (c_Sl_copyFrom h2 hd l g (setL (setL (setL (setL (setL (setL (setL (setL (setL (setI (setI (setI (setI M 0 (M2.1 0)) 1 (M2.1 1)) 2 (M2.1 2)) 3 (M2.1 3)) 0 ((M2.2 0).take 24)) 1 ((M2.2 1).take 24)) 2 ((M2.2 2).take 24)) 3 ((M2.2 3).take 24)) 4 ((M2.2 4).take 24)) 5 ((M2.2 5).take 8)) 6 ((M2.2 6).take 8)) 7 ((M2.2 7).take 24)) 10 ((M2.2 10).take 24)) eM_161.symm) lk_X8_93 ar_Sl_copyFrom (pS σ S (setL (setL (setL (setL (setL (setL (setL (setL (setL (setI (setI (setI (setI M 0 (M2.1 0)) 1 (M2.1 1)) 2 (M2.1 2)) 3 (M2.1 3)) 0 ((M2.2 0).take 24)) 1 ((M2.2 1).take 24)) 2 ((M2.2 2).take 24)) 3 ((M2.2 3).take 24)) 4 ((M2.2 4).take 24)) 5 ((M2.2 5).take 8)) 6 ((M2.2 6).take 8)) 7 ((M2.2 7).take 24)) 10 ((M2.2 10).take 24)) 24 (by decide)) (T := TX7) (N := 4) rfl (As := [.ref (S2 + 24)]) (rest := []) rfl (Nat.le_of_ble_eq_true rfl) ⟨Nat.le_of_ble_eq_true rfl, Nat.le_of_ble_eq_true rfl⟩ ⟨rfl, rfl⟩ ⟨Nat.zero_le _, Nat.zero_le _⟩ dX8_copyFrom_145 ?_
  refine g_aload_n hx 148 (i := 0) 0 dX8_copyFrom_148 rfl rfl ?_
  refine g_get hx 149 (C := RX8) (T := TX8) (N := 15) 14 (.ref (S + 33)) (pS_o σ S M_161) rfl (by decide) rfl fl_X8_57 dX8_copyFrom_149 ?_
  refine g_aload_n hx 152 (i := 1) 1 dX8_copyFrom_152 rfl rfl ?_
  refine g_get hx 153 (C := RX8) (T := TX8) (N := 15) 14 (.ref (S2 + 33)) (pO (M := M_161) h2 hd 0 (by decide)) rfl (by decide) rfl fl_X8_57 dX8_copyFrom_153 ?_
  refine g_callVv hx (k_copyFrom l g (pS_l15 σ S M_161) (pO_l15 (M := M_161) h2 hd) (by decide) (by decide) ⟨by omega, by omega, by omega, by omega⟩) lk_X8_90 ar_Ln_copyFrom (pS_l15 σ S M_161).1 (T := TX2) (N := 2) rfl (As := [.ref (S2 + 33)]) (rest := []) rfl (Nat.le_of_ble_eq_true rfl) ⟨Nat.le_of_ble_eq_true rfl, Nat.le_of_ble_eq_true rfl⟩ ⟨rfl, rfl⟩ ⟨Nat.zero_le _, Nat.zero_le _⟩ dX8_copyFrom_156 ?_
  refine G.heap (pS_p15 σ S M_161 ((M2.2 15).take 11)) ?_
  exact g_vret hx hR 159 dX8_copyFrom_159 ⟨rfl, by rw [← hr] <;> rfl⟩
def St_hasFolder (M : StM) (p1 : Int32) : Int32 := if p1 < 0 then (0) else (if nI (M.2 0).length ≤ p1 then (0) else (1))
set_option maxRecDepth 100000 in
set_option maxHeartbeats 4000000 in
theorem c_St_hasFolder (l : Launch) (g : Gl) (σ : Hp) (S : Nat) (M : StM) (p1 : Int32) {r : Int32} (hr : St_hasFolder M p1 = r) : MG l g md_St_hasFolder [.ref S, .int p1] (putSt σ S M) (rs (some (.int r)) (putSt σ S M)) := by
  refine MG.intro (by decide +kernel) (Nat.le_of_ble_eq_true rfl) (fun X hx hR _ => ?_)
  unfold St_hasFolder at hr
  refine g_ls [0, 1] [(0, .ref S), (1, .int p1)] rfl ?_
  refine g_iload_n hx 0 (i := 1) 1 dX8_hasFolder_0 rfl rfl ?_
  refine g_if_lt hx 1 19 dX8_hasFolder_1 (by decide) (fun hc_162 => ?_) (fun hc_162 => ?_)
  · have hr := (if_pos hc_162).symm.trans hr
    refine g_iconst hx 19 (0) dX8_hasFolder_19 rfl ?_
    exact g_zret hx hR 20 (Or.inl rfl) dX8_hasFolder_20 ⟨by rw [← hr] <;> rfl, rfl⟩
  · have hr := (if_neg hc_162).symm.trans hr
    refine g_iload_n hx 4 (i := 1) 1 dX8_hasFolder_4 rfl rfl ?_
    refine g_aload_n hx 5 (i := 0) 0 dX8_hasFolder_5 rfl rfl ?_
    refine g_get hx 6 (C := RX8) (T := TX8) (N := 15) 4 (.ref (S + 1)) (pS_o σ S M) rfl (by decide) rfl fl_X8_14 dX8_hasFolder_6 ?_
    refine g_callVr hx (k_count l g (pS_l0 σ S M) (by decide) ) lk_X8_83 ar_Ln_count (pS_l0 σ S M).1 (T := TX2) (N := 2) rfl (As := []) (rest := [.int p1]) rfl (Nat.le_of_ble_eq_true rfl) ⟨Nat.le_of_ble_eq_true rfl, Nat.le_of_ble_eq_true rfl⟩ ⟨rfl, rfl⟩ ⟨Nat.zero_le _, Nat.zero_le _⟩ dX8_hasFolder_9 ?_
    refine g_icmp_ge hx 12 19 dX8_hasFolder_12 (by decide) (fun hc_163 => ?_) (fun hc_163 => ?_)
    · have hr := (if_pos hc_163).symm.trans hr
      refine g_iconst hx 19 (0) dX8_hasFolder_19 rfl ?_
      exact g_zret hx hR 20 (Or.inl rfl) dX8_hasFolder_20 ⟨by rw [← hr] <;> rfl, rfl⟩
    · have hr := (if_neg hc_163).symm.trans hr
      refine g_iconst hx 15 (1) dX8_hasFolder_15 rfl ?_
      refine g_goto hx 16 20 dX8_hasFolder_16 (by decide) ?_
      exact g_zret hx hR 20 (Or.inr rfl) dX8_hasFolder_20 ⟨by rw [← hr] <;> rfl, rfl⟩
theorem bo_St_hasFolder (M : StM) (p1 : Int32) : St_hasFolder M p1 = 0 ∨ St_hasFolder M p1 = 1 := by
  unfold St_hasFolder
  (repeat' split) <;> first | exact Or.inl rfl | exact Or.inr rfl | exact bo_Rw_isWrong .. | exact bo_Sl_has ..
def St_hasReader (M : StM) (p1 : Int32) : Int32 := if p1 < 0 then (0) else (if nI (M.2 5).length ≤ p1 then (0) else (1))
set_option maxRecDepth 100000 in
set_option maxHeartbeats 4000000 in
theorem c_St_hasReader (l : Launch) (g : Gl) (σ : Hp) (S : Nat) (M : StM) (p1 : Int32) {r : Int32} (hr : St_hasReader M p1 = r) : MG l g md_St_hasReader [.ref S, .int p1] (putSt σ S M) (rs (some (.int r)) (putSt σ S M)) := by
  refine MG.intro (by decide +kernel) (Nat.le_of_ble_eq_true rfl) (fun X hx hR _ => ?_)
  unfold St_hasReader at hr
  refine g_ls [0, 1] [(0, .ref S), (1, .int p1)] rfl ?_
  refine g_iload_n hx 0 (i := 1) 1 dX8_hasReader_0 rfl rfl ?_
  refine g_if_lt hx 1 19 dX8_hasReader_1 (by decide) (fun hc_164 => ?_) (fun hc_164 => ?_)
  · have hr := (if_pos hc_164).symm.trans hr
    refine g_iconst hx 19 (0) dX8_hasReader_19 rfl ?_
    exact g_zret hx hR 20 (Or.inl rfl) dX8_hasReader_20 ⟨by rw [← hr] <;> rfl, rfl⟩
  · have hr := (if_neg hc_164).symm.trans hr
    refine g_iload_n hx 4 (i := 1) 1 dX8_hasReader_4 rfl rfl ?_
    refine g_aload_n hx 5 (i := 0) 0 dX8_hasReader_5 rfl rfl ?_
    refine g_get hx 6 (C := RX8) (T := TX8) (N := 15) 9 (.ref (S + 11)) (pS_o σ S M) rfl (by decide) rfl fl_X8_32 dX8_hasReader_6 ?_
    refine g_callVr hx (k_count l g (pS_l5 σ S M) (by decide) ) lk_X8_83 ar_Ln_count (pS_l5 σ S M).1 (T := TX2) (N := 2) rfl (As := []) (rest := [.int p1]) rfl (Nat.le_of_ble_eq_true rfl) ⟨Nat.le_of_ble_eq_true rfl, Nat.le_of_ble_eq_true rfl⟩ ⟨rfl, rfl⟩ ⟨Nat.zero_le _, Nat.zero_le _⟩ dX8_hasReader_9 ?_
    refine g_icmp_ge hx 12 19 dX8_hasReader_12 (by decide) (fun hc_165 => ?_) (fun hc_165 => ?_)
    · have hr := (if_pos hc_165).symm.trans hr
      refine g_iconst hx 19 (0) dX8_hasReader_19 rfl ?_
      exact g_zret hx hR 20 (Or.inl rfl) dX8_hasReader_20 ⟨by rw [← hr] <;> rfl, rfl⟩
    · have hr := (if_neg hc_165).symm.trans hr
      refine g_iconst hx 15 (1) dX8_hasReader_15 rfl ?_
      refine g_goto hx 16 20 dX8_hasReader_16 (by decide) ?_
      exact g_zret hx hR 20 (Or.inr rfl) dX8_hasReader_20 ⟨by rw [← hr] <;> rfl, rfl⟩
theorem bo_St_hasReader (M : StM) (p1 : Int32) : St_hasReader M p1 = 0 ∨ St_hasReader M p1 = 1 := by
  unfold St_hasReader
  (repeat' split) <;> first | exact Or.inl rfl | exact Or.inr rfl | exact bo_Rw_isWrong .. | exact bo_Sl_has .. | exact bo_St_hasFolder ..
def St_isClosed (M : StM) (p1 : Int32) : Int32 := if lnget (M.2 1) p1 ≤ M.1 0 then (0) else (1)
set_option maxRecDepth 100000 in
set_option maxHeartbeats 4000000 in
theorem c_St_isClosed (l : Launch) (g : Gl) (σ : Hp) (S : Nat) (M : StM) (p1 : Int32) {r : Int32} (hr : St_isClosed M p1 = r) : MG l g md_St_isClosed [.ref S, .int p1] (putSt σ S M) (rs (some (.int r)) (putSt σ S M)) := by
  refine MG.intro (by decide +kernel) (Nat.le_of_ble_eq_true rfl) (fun X hx hR _ => ?_)
  unfold St_isClosed at hr
  refine g_ls [0, 1] [(0, .ref S), (1, .int p1)] rfl ?_
  refine g_aload_n hx 0 (i := 0) 0 dX8_isClosed_0 rfl rfl ?_
  refine g_get hx 1 (C := RX8) (T := TX8) (N := 15) 0 (.int (M.1 0)) (pS_o σ S M) rfl (by decide) rfl fl_X8_60 dX8_isClosed_1 ?_
  refine g_aload_n hx 4 (i := 0) 0 dX8_isClosed_4 rfl rfl ?_
  refine g_get hx 5 (C := RX8) (T := TX8) (N := 15) 5 (.ref (S + 3)) (pS_o σ S M) rfl (by decide) rfl fl_X8_20 dX8_isClosed_5 ?_
  refine g_iload_n hx 8 (i := 1) 1 dX8_isClosed_8 rfl rfl ?_
  refine g_callVr hx (k_get l g (pS_l1 σ S M) (by decide) p1) lk_X8_96 ar_Ln_get (pS_l1 σ S M).1 (T := TX2) (N := 2) rfl (As := [.int p1]) (rest := [.int (M.1 0)]) rfl (Nat.le_of_ble_eq_true rfl) ⟨Nat.le_of_ble_eq_true rfl, Nat.le_of_ble_eq_true rfl⟩ ⟨rfl, rfl⟩ ⟨Nat.zero_le _, Nat.zero_le _⟩ dX8_isClosed_9 ?_
  refine g_icmp_ge hx 12 19 dX8_isClosed_12 (by decide) (fun hc_166 => ?_) (fun hc_166 => ?_)
  · have hr := (if_pos hc_166).symm.trans hr
    refine g_iconst hx 19 (0) dX8_isClosed_19 rfl ?_
    exact g_zret hx hR 20 (Or.inl rfl) dX8_isClosed_20 ⟨by rw [← hr] <;> rfl, rfl⟩
  · have hr := (if_neg hc_166).symm.trans hr
    refine g_iconst hx 15 (1) dX8_isClosed_15 rfl ?_
    refine g_goto hx 16 20 dX8_isClosed_16 (by decide) ?_
    exact g_zret hx hR 20 (Or.inr rfl) dX8_isClosed_20 ⟨by rw [← hr] <;> rfl, rfl⟩
theorem bo_St_isClosed (M : StM) (p1 : Int32) : St_isClosed M p1 = 0 ∨ St_isClosed M p1 = 1 := by
  unfold St_isClosed
  (repeat' split) <;> first | exact Or.inl rfl | exact Or.inr rfl | exact bo_Rw_isWrong .. | exact bo_Sl_has .. | exact bo_St_hasFolder .. | exact bo_St_hasReader ..
def St_whereabouts (M : StM) (p1 : Int32) : Int32 := if lnget (M.2 2) p1 = 0 then (lnpl (M.2 7) p1) else (if lnget (M.2 2) p1 = 2 then (lnpl (M.2 10) p1) else (lnget (M.2 3) p1))
set_option maxRecDepth 100000 in
set_option maxHeartbeats 4000000 in
theorem c_St_whereabouts (l : Launch) (g : Gl) (σ : Hp) (S : Nat) (M : StM) (p1 : Int32) {r : Int32} (hr : St_whereabouts M p1 = r) : MG l g md_St_whereabouts [.ref S, .int p1] (putSt σ S M) (rs (some (.int r)) (putSt σ S M)) := by
  refine MG.intro (by decide +kernel) (Nat.le_of_ble_eq_true rfl) (fun X hx hR _ => ?_)
  unfold St_whereabouts at hr
  refine g_ls [0, 1] [(0, .ref S), (1, .int p1)] rfl ?_
  refine g_aload_n hx 0 (i := 0) 0 dX8_whereabouts_0 rfl rfl ?_
  refine g_get hx 1 (C := RX8) (T := TX8) (N := 15) 6 (.ref (S + 5)) (pS_o σ S M) rfl (by decide) rfl fl_X8_23 dX8_whereabouts_1 ?_
  refine g_iload_n hx 4 (i := 1) 1 dX8_whereabouts_4 rfl rfl ?_
  refine g_callVr hx (k_get l g (pS_l2 σ S M) (by decide) p1) lk_X8_96 ar_Ln_get (pS_l2 σ S M).1 (T := TX2) (N := 2) rfl (As := [.int p1]) (rest := []) rfl (Nat.le_of_ble_eq_true rfl) ⟨Nat.le_of_ble_eq_true rfl, Nat.le_of_ble_eq_true rfl⟩ ⟨rfl, rfl⟩ ⟨Nat.zero_le _, Nat.zero_le _⟩ dX8_whereabouts_5 ?_
  by_cases hc_167 : lnget (M.2 2) p1 = 0
  · have hr := (if_pos hc_167).symm.trans hr
    refine g_lookup (off := 28) hx 8 36 dX8_whereabouts_8 (by decide) (by rw [hc_167] <;> rfl) (by decide) ?_
    refine g_aload_n hx 36 (i := 0) 0 dX8_whereabouts_36 rfl rfl ?_
    refine g_get hx 37 (C := RX8) (T := TX8) (N := 15) 11 (.ref (S + 15)) (pS_o σ S M) rfl (by decide) rfl fl_X8_43 dX8_whereabouts_37 ?_
    refine g_get hx 40 (C := RX5) (T := TX5) (N := 4) 0 (.ref (S + 16)) (pS σ S M 15 (by decide)) rfl (by decide) rfl fl_X8_79 dX8_whereabouts_40 ?_
    refine g_iload_n hx 43 (i := 1) 1 dX8_whereabouts_43 rfl rfl ?_
    refine g_callVr hx (k_placeOf l g (pS_l7 σ S M) (by decide) p1) lk_X8_100 ar_Ln_placeOf (pS_l7 σ S M).1 (T := TX2) (N := 2) rfl (As := [.int p1]) (rest := []) rfl (Nat.le_of_ble_eq_true rfl) ⟨Nat.le_of_ble_eq_true rfl, Nat.le_of_ble_eq_true rfl⟩ ⟨rfl, rfl⟩ ⟨Nat.zero_le _, Nat.zero_le _⟩ dX8_whereabouts_44 ?_
    exact g_iret hx hR 47 dX8_whereabouts_47 ⟨by rw [← hr] <;> rfl, rfl⟩
  · have hr := (if_neg hc_167).symm.trans hr
    by_cases hc_168 : lnget (M.2 2) p1 = 2
    · have hr := (if_pos hc_168).symm.trans hr
      refine g_lookup (off := 40) hx 8 48 dX8_whereabouts_8 (by decide) (by rw [hc_168] <;> rfl) (by decide) ?_
      refine g_aload_n hx 48 (i := 0) 0 dX8_whereabouts_48 rfl rfl ?_
      refine g_get hx 49 (C := RX8) (T := TX8) (N := 15) 12 (.ref (S + 22)) (pS_o σ S M) rfl (by decide) rfl fl_X8_47 dX8_whereabouts_49 ?_
      refine g_iload_n hx 52 (i := 1) 1 dX8_whereabouts_52 rfl rfl ?_
      refine g_callVr hx (k_placeOf l g (pS_l10 σ S M) (by decide) p1) lk_X8_100 ar_Ln_placeOf (pS_l10 σ S M).1 (T := TX2) (N := 2) rfl (As := [.int p1]) (rest := []) rfl (Nat.le_of_ble_eq_true rfl) ⟨Nat.le_of_ble_eq_true rfl, Nat.le_of_ble_eq_true rfl⟩ ⟨rfl, rfl⟩ ⟨Nat.zero_le _, Nat.zero_le _⟩ dX8_whereabouts_53 ?_
      exact g_iret hx hR 56 dX8_whereabouts_56 ⟨by rw [← hr] <;> rfl, rfl⟩
    · have hr := (if_neg hc_168).symm.trans hr
      refine g_lookup (off := 49) hx 8 57 dX8_whereabouts_8 (by decide) (by show Op.lookupswitch.offset [(0, 28), (2, 40)] 49 _ = _; rw [lv_osw (a := 0) hc_167 rfl, lv_osw (a := 2) hc_168 rfl] <;> rfl) (by decide) ?_
      refine g_aload_n hx 57 (i := 0) 0 dX8_whereabouts_57 rfl rfl ?_
      refine g_get hx 58 (C := RX8) (T := TX8) (N := 15) 7 (.ref (S + 7)) (pS_o σ S M) rfl (by decide) rfl fl_X8_26 dX8_whereabouts_58 ?_
      refine g_iload_n hx 61 (i := 1) 1 dX8_whereabouts_61 rfl rfl ?_
      refine g_callVr hx (k_get l g (pS_l3 σ S M) (by decide) p1) lk_X8_96 ar_Ln_get (pS_l3 σ S M).1 (T := TX2) (N := 2) rfl (As := [.int p1]) (rest := []) rfl (Nat.le_of_ble_eq_true rfl) ⟨Nat.le_of_ble_eq_true rfl, Nat.le_of_ble_eq_true rfl⟩ ⟨rfl, rfl⟩ ⟨Nat.zero_le _, Nat.zero_le _⟩ dX8_whereabouts_62 ?_
      exact g_iret hx hR 65 dX8_whereabouts_65 ⟨by rw [← hr] <;> rfl, rfl⟩
def St_isRefilingDay (M : StM) : Int32 := if M.1 1 ≤ 0 then (0) else (if (M.1 0) - (M.1 0) / (M.1 1) * (M.1 1) = 0 then (1) else (0))
set_option maxRecDepth 100000 in
set_option maxHeartbeats 4000000 in
theorem c_St_isRefilingDay (l : Launch) (g : Gl) (σ : Hp) (S : Nat) (M : StM) {r : Int32} (hr : St_isRefilingDay M = r) : MG l g md_St_isRefilingDay [.ref S] (putSt σ S M) (rs (some (.int r)) (putSt σ S M)) := by
  refine MG.intro (by decide +kernel) (Nat.le_of_ble_eq_true rfl) (fun X hx hR _ => ?_)
  unfold St_isRefilingDay at hr
  refine g_ls [0] [(0, .ref S)] rfl ?_
  refine g_aload_n hx 0 (i := 0) 0 dX8_isRefilingDay_0 rfl rfl ?_
  refine g_get hx 1 (C := RX8) (T := TX8) (N := 15) 1 (.int (M.1 1)) (pS_o σ S M) rfl (by decide) rfl fl_X8_64 dX8_isRefilingDay_1 ?_
  refine g_if_le hx 4 23 dX8_isRefilingDay_4 (by decide) (fun hc_169 => ?_) (fun hc_169 => ?_)
  · have hr := (if_pos hc_169).symm.trans hr
    refine g_iconst hx 23 (0) dX8_isRefilingDay_23 rfl ?_
    exact g_zret hx hR 24 (Or.inl rfl) dX8_isRefilingDay_24 ⟨by rw [← hr] <;> rfl, rfl⟩
  · have hr := (if_neg hc_169).symm.trans hr
    refine g_aload_n hx 7 (i := 0) 0 dX8_isRefilingDay_7 rfl rfl ?_
    refine g_get hx 8 (C := RX8) (T := TX8) (N := 15) 0 (.int (M.1 0)) (pS_o σ S M) rfl (by decide) rfl fl_X8_60 dX8_isRefilingDay_8 ?_
    refine g_aload_n hx 11 (i := 0) 0 dX8_isRefilingDay_11 rfl rfl ?_
    refine g_get hx 12 (C := RX8) (T := TX8) (N := 15) 1 (.int (M.1 1)) (pS_o σ S M) rfl (by decide) rfl fl_X8_64 dX8_isRefilingDay_12 ?_
    refine g_irem hx 15 dX8_isRefilingDay_15 (fun h0 => hc_169 (by rw [h0]; decide)) ?_
    refine g_if_ne hx 16 23 dX8_isRefilingDay_16 (by decide) (fun hc_170 => ?_) (fun hc_170 => ?_)
    · have hr := (if_neg hc_170).symm.trans hr
      refine g_iconst hx 23 (0) dX8_isRefilingDay_23 rfl ?_
      exact g_zret hx hR 24 (Or.inl rfl) dX8_isRefilingDay_24 ⟨by rw [← hr] <;> rfl, rfl⟩
    · have hr := (if_pos hc_170).symm.trans hr
      refine g_iconst hx 19 (1) dX8_isRefilingDay_19 rfl ?_
      refine g_goto hx 20 24 dX8_isRefilingDay_20 (by decide) ?_
      exact g_zret hx hR 24 (Or.inr rfl) dX8_isRefilingDay_24 ⟨by rw [← hr] <;> rfl, rfl⟩
theorem bo_St_isRefilingDay (M : StM) : St_isRefilingDay M = 0 ∨ St_isRefilingDay M = 1 := by
  unfold St_isRefilingDay
  (repeat' split) <;> first | exact Or.inl rfl | exact Or.inr rfl | exact bo_Rw_isWrong .. | exact bo_Sl_has .. | exact bo_St_hasFolder .. | exact bo_St_hasReader .. | exact bo_St_isClosed ..
def St_daysToRefiling (M : StM) : Int32 := if M.1 1 ≤ 0 then ((-1)) else ((M.1 1) - ((M.1 0) - (M.1 0) / (M.1 1) * (M.1 1)))
set_option maxRecDepth 100000 in
set_option maxHeartbeats 4000000 in
theorem c_St_daysToRefiling (l : Launch) (g : Gl) (σ : Hp) (S : Nat) (M : StM) {r : Int32} (hr : St_daysToRefiling M = r) : MG l g md_St_daysToRefiling [.ref S] (putSt σ S M) (rs (some (.int r)) (putSt σ S M)) := by
  refine MG.intro (by decide +kernel) (Nat.le_of_ble_eq_true rfl) (fun X hx hR _ => ?_)
  unfold St_daysToRefiling at hr
  refine g_ls [0] [(0, .ref S)] rfl ?_
  refine g_aload_n hx 0 (i := 0) 0 dX8_daysToRefiling_0 rfl rfl ?_
  refine g_get hx 1 (C := RX8) (T := TX8) (N := 15) 1 (.int (M.1 1)) (pS_o σ S M) rfl (by decide) rfl fl_X8_64 dX8_daysToRefiling_1 ?_
  refine g_if_le hx 4 24 dX8_daysToRefiling_4 (by decide) (fun hc_171 => ?_) (fun hc_171 => ?_)
  · have hr := (if_pos hc_171).symm.trans hr
    refine g_iconst hx 24 (-1) dX8_daysToRefiling_24 rfl ?_
    exact g_iret hx hR 25 dX8_daysToRefiling_25 ⟨by rw [← hr] <;> rfl, rfl⟩
  · have hr := (if_neg hc_171).symm.trans hr
    refine g_aload_n hx 7 (i := 0) 0 dX8_daysToRefiling_7 rfl rfl ?_
    refine g_get hx 8 (C := RX8) (T := TX8) (N := 15) 1 (.int (M.1 1)) (pS_o σ S M) rfl (by decide) rfl fl_X8_64 dX8_daysToRefiling_8 ?_
    refine g_aload_n hx 11 (i := 0) 0 dX8_daysToRefiling_11 rfl rfl ?_
    refine g_get hx 12 (C := RX8) (T := TX8) (N := 15) 0 (.int (M.1 0)) (pS_o σ S M) rfl (by decide) rfl fl_X8_60 dX8_daysToRefiling_12 ?_
    refine g_aload_n hx 15 (i := 0) 0 dX8_daysToRefiling_15 rfl rfl ?_
    refine g_get hx 16 (C := RX8) (T := TX8) (N := 15) 1 (.int (M.1 1)) (pS_o σ S M) rfl (by decide) rfl fl_X8_64 dX8_daysToRefiling_16 ?_
    refine g_irem hx 19 dX8_daysToRefiling_19 (fun h0 => hc_171 (by rw [h0]; decide)) ?_
    refine g_isub hx 20 dX8_daysToRefiling_20 ?_
    refine g_goto hx 21 25 dX8_daysToRefiling_21 (by decide) ?_
    exact g_iret hx hR 25 dX8_daysToRefiling_25 ⟨by rw [← hr] <;> rfl, rfl⟩
def St_idleness (M : StM) (p1 : Int32) : Int32 := lt' (lnget (M.2 12) p1) fun v2_172 => lt' (lnget (M.2 2) v2_172) fun v3_173 => if v3_173 = 1 then (1) else (if v3_173 = 2 then (2) else (if St_isClosed M v2_172 = 0 then (if lnget (M.2 5) (lnget (M.2 11) p1) < M.1 3 then (0) else (4)) else (3)))
set_option maxRecDepth 100000 in
set_option maxHeartbeats 4000000 in
theorem c_St_idleness (l : Launch) (g : Gl) (σ : Hp) (S : Nat) (M : StM) (p1 : Int32) {r : Int32} (hr : St_idleness M p1 = r) : MG l g md_St_idleness [.ref S, .int p1] (putSt σ S M) (rs (some (.int r)) (putSt σ S M)) := by
  refine MG.intro (by decide +kernel) (Nat.le_of_ble_eq_true rfl) (fun X hx hR _ => ?_)
  unfold St_idleness at hr
  refine g_ls [0, 1] [(0, .ref S), (1, .int p1)] rfl ?_
  refine g_aload_n hx 0 (i := 0) 0 dX8_idleness_0 rfl rfl ?_
  refine g_get hx 1 (C := RX8) (T := TX8) (N := 15) 13 (.ref (S + 24)) (pS_o σ S M) rfl (by decide) rfl fl_X8_53 dX8_idleness_1 ?_
  refine g_get hx 4 (C := RX7) (T := TX7) (N := 4) 1 (.ref (S + 27)) (pS σ S M 24 (by decide)) rfl (by decide) rfl fl_X8_103 dX8_idleness_4 ?_
  refine g_iload_n hx 7 (i := 1) 1 dX8_idleness_7 rfl rfl ?_
  refine g_callVr hx (k_get l g (pS_l12 σ S M) (by decide) p1) lk_X8_96 ar_Ln_get (pS_l12 σ S M).1 (T := TX2) (N := 2) rfl (As := [.int p1]) (rest := []) rfl (Nat.le_of_ble_eq_true rfl) ⟨Nat.le_of_ble_eq_true rfl, Nat.le_of_ble_eq_true rfl⟩ ⟨rfl, rfl⟩ ⟨Nat.zero_le _, Nat.zero_le _⟩ dX8_idleness_8 ?_
  obtain ⟨v2_172, ev2_172, hr⟩ := lt'_e hr
  refine g_nmi ev2_172 ?_
  refine g_istore_n hx 11 (i := 2) [(2, .int v2_172), (0, .ref S), (1, .int p1)] dX8_idleness_11 rfl (by decide) rfl ?_
  refine g_aload_n hx 12 (i := 0) 1 dX8_idleness_12 rfl rfl ?_
  refine g_get hx 13 (C := RX8) (T := TX8) (N := 15) 6 (.ref (S + 5)) (pS_o σ S M) rfl (by decide) rfl fl_X8_23 dX8_idleness_13 ?_
  refine g_iload_n hx 16 (i := 2) 0 dX8_idleness_16 rfl rfl ?_
  refine g_callVr hx (k_get l g (pS_l2 σ S M) (by decide) v2_172) lk_X8_96 ar_Ln_get (pS_l2 σ S M).1 (T := TX2) (N := 2) rfl (As := [.int v2_172]) (rest := []) rfl (Nat.le_of_ble_eq_true rfl) ⟨Nat.le_of_ble_eq_true rfl, Nat.le_of_ble_eq_true rfl⟩ ⟨rfl, rfl⟩ ⟨Nat.zero_le _, Nat.zero_le _⟩ dX8_idleness_17 ?_
  obtain ⟨v3_173, ev3_173, hr⟩ := lt'_e hr
  refine g_nmi ev3_173 ?_
  refine g_istore_n hx 20 (i := 3) [(3, .int v3_173), (2, .int v2_172), (0, .ref S), (1, .int p1)] dX8_idleness_20 rfl (by decide) rfl ?_
  refine g_iload_n hx 21 (i := 3) 0 dX8_idleness_21 rfl rfl ?_
  refine g_iconst hx 22 (1) dX8_idleness_22 rfl ?_
  refine g_icmp_ne hx 23 28 dX8_idleness_23 (by decide) (fun hc_174 => ?_) (fun hc_174 => ?_)
  · have hr := (if_neg hc_174).symm.trans hr
    refine g_iload_n hx 28 (i := 3) 0 dX8_idleness_28 rfl rfl ?_
    refine g_iconst hx 29 (2) dX8_idleness_29 rfl ?_
    refine g_icmp_ne hx 30 35 dX8_idleness_30 (by decide) (fun hc_175 => ?_) (fun hc_175 => ?_)
    · have hr := (if_neg hc_175).symm.trans hr
      refine g_aload_n hx 35 (i := 0) 2 dX8_idleness_35 rfl rfl ?_
      refine g_iload_n hx 36 (i := 2) 1 dX8_idleness_36 rfl rfl ?_
      refine g_callVr hx (c_St_isClosed l g σ S M v2_172 rfl) lk_X8_104 ar_St_isClosed (pS_o σ S M) (T := TX8) (N := 15) rfl (As := [.int v2_172]) (rest := []) rfl (Nat.le_of_ble_eq_true rfl) ⟨Nat.le_of_ble_eq_true rfl, Nat.le_of_ble_eq_true rfl⟩ ⟨rfl, rfl⟩ ⟨Nat.zero_le _, Nat.zero_le _⟩ dX8_idleness_37 ?_
      refine g_if_eq hx 40 45 dX8_idleness_40 (by decide) (fun hc_176 => ?_) (fun hc_176 => ?_)
      · have hr := (if_pos hc_176).symm.trans hr
        refine g_aload_n hx 45 (i := 0) 2 dX8_idleness_45 rfl rfl ?_
        refine g_get hx 46 (C := RX8) (T := TX8) (N := 15) 9 (.ref (S + 11)) (pS_o σ S M) rfl (by decide) rfl fl_X8_32 dX8_idleness_46 ?_
        refine g_aload_n hx 49 (i := 0) 2 dX8_idleness_49 rfl rfl ?_
        refine g_get hx 50 (C := RX8) (T := TX8) (N := 15) 13 (.ref (S + 24)) (pS_o σ S M) rfl (by decide) rfl fl_X8_53 dX8_idleness_50 ?_
        refine g_get hx 53 (C := RX7) (T := TX7) (N := 4) 0 (.ref (S + 25)) (pS σ S M 24 (by decide)) rfl (by decide) rfl fl_X8_108 dX8_idleness_53 ?_
        refine g_iload_n hx 56 (i := 1) 3 dX8_idleness_56 rfl rfl ?_
        refine g_callVr hx (k_get l g (pS_l11 σ S M) (by decide) p1) lk_X8_96 ar_Ln_get (pS_l11 σ S M).1 (T := TX2) (N := 2) rfl (As := [.int p1]) (rest := [.ref (S + 11)]) rfl (Nat.le_of_ble_eq_true rfl) ⟨Nat.le_of_ble_eq_true rfl, Nat.le_of_ble_eq_true rfl⟩ ⟨rfl, rfl⟩ ⟨Nat.zero_le _, Nat.zero_le _⟩ dX8_idleness_57 ?_
        refine g_callVr hx (k_get l g (pS_l5 σ S M) (by decide) (lnget (M.2 11) p1)) lk_X8_96 ar_Ln_get (pS_l5 σ S M).1 (T := TX2) (N := 2) rfl (As := [.int (lnget (M.2 11) p1)]) (rest := []) rfl (Nat.le_of_ble_eq_true rfl) ⟨Nat.le_of_ble_eq_true rfl, Nat.le_of_ble_eq_true rfl⟩ ⟨rfl, rfl⟩ ⟨Nat.zero_le _, Nat.zero_le _⟩ dX8_idleness_60 ?_
        refine g_aload_n hx 63 (i := 0) 2 dX8_idleness_63 rfl rfl ?_
        refine g_get hx 64 (C := RX8) (T := TX8) (N := 15) 3 (.int (M.1 3)) (pS_o σ S M) rfl (by decide) rfl fl_X8_70 dX8_idleness_64 ?_
        refine g_icmp_lt hx 67 74 dX8_idleness_67 (by decide) (fun hc_177 => ?_) (fun hc_177 => ?_)
        · have hr := (if_pos hc_177).symm.trans hr
          refine g_iconst hx 74 (0) dX8_idleness_74 rfl ?_
          exact g_iret hx hR 75 dX8_idleness_75 ⟨by rw [← hr] <;> rfl, rfl⟩
        · have hr := (if_neg hc_177).symm.trans hr
          refine g_iconst hx 70 (4) dX8_idleness_70 rfl ?_
          refine g_goto hx 71 75 dX8_idleness_71 (by decide) ?_
          exact g_iret hx hR 75 dX8_idleness_75 ⟨by rw [← hr] <;> rfl, rfl⟩
      · have hr := (if_neg hc_176).symm.trans hr
        refine g_iconst hx 43 (3) dX8_idleness_43 rfl ?_
        exact g_iret hx hR 44 dX8_idleness_44 ⟨by rw [← hr] <;> rfl, rfl⟩
    · have hr := (if_pos hc_175).symm.trans hr
      refine g_iconst hx 33 (2) dX8_idleness_33 rfl ?_
      exact g_iret hx hR 34 dX8_idleness_34 ⟨by rw [← hr] <;> rfl, rfl⟩
  · have hr := (if_pos hc_174).symm.trans hr
    refine g_iconst hx 26 (1) dX8_idleness_26 rfl ?_
    exact g_iret hx hR 27 dX8_idleness_27 ⟨by rw [← hr] <;> rfl, rfl⟩
def St_foldersAstray_L4 (M : StM) : Nat → Int32 → Int32 → Option (Int32)
  | 0, _, _ => none
  | n + 1, v1_178, v2_179 => if nI (M.2 0).length ≤ v2_179 then (some (v1_178)) else (lt' ((lncnt (M.2 7) v2_179) + (lncnt (M.2 10) v2_179)) fun v3_181 => if lnget (M.2 3) v2_179 = (-1) then (if v3_181 = 1 then (St_foldersAstray_L4 M n v1_178 (v2_179 + 1)) else (St_foldersAstray_L4 M n (v1_178 + 1) (v2_179 + 1))) else (if v3_181 + 1 = 1 then (St_foldersAstray_L4 M n v1_178 (v2_179 + 1)) else (St_foldersAstray_L4 M n (v1_178 + 1) (v2_179 + 1))))
def St_foldersAstray (M : StM) : Option (Int32) := St_foldersAstray_L4 M FU 0 0
set_option maxRecDepth 100000 in
set_option maxHeartbeats 4000000 in
theorem w_St_foldersAstray_L4 {X : Cx} {l : Launch} {g : Gl} (hx : Ok X l g RX8 cX8_foldersAstray 4 md_St_foldersAstray.rm) {σ : Hp} {S : Nat} {M : StM} {r : Int32} (hR : Ret X (rs (some (.int r)) (putSt σ S M)) 0 0 (some .int)) : ∀ (n : Nat) (v1_178 v2_179 : Int32), St_foldersAstray_L4 M n v1_178 v2_179 = some r → G X (putSt σ S M) 0 0 4 [(0, .ref S), (1, .int v1_178), (2, .int v2_179)] [] := by
  intro n
  induction n with
  | zero =>
    intro v1_178 v2_179 hr
    rw [St_foldersAstray_L4] at hr
    cases hr
  | succ n ih =>
    intro v1_178 v2_179 hr
    rw [St_foldersAstray_L4] at hr
    refine g_iload_n hx 4 (i := 2) 2 dX8_foldersAstray_4 rfl rfl ?_
    refine g_aload_n hx 5 (i := 0) 0 dX8_foldersAstray_5 rfl rfl ?_
    refine g_get hx 6 (C := RX8) (T := TX8) (N := 15) 4 (.ref (S + 1)) (pS_o σ S M) rfl (by decide) rfl fl_X8_14 dX8_foldersAstray_6 ?_
    refine g_callVr hx (k_count l g (pS_l0 σ S M) (by decide) ) lk_X8_83 ar_Ln_count (pS_l0 σ S M).1 (T := TX2) (N := 2) rfl (As := []) (rest := [.int v2_179]) rfl (Nat.le_of_ble_eq_true rfl) ⟨Nat.le_of_ble_eq_true rfl, Nat.le_of_ble_eq_true rfl⟩ ⟨rfl, rfl⟩ ⟨Nat.zero_le _, Nat.zero_le _⟩ dX8_foldersAstray_9 ?_
    refine g_icmp_ge hx 12 65 dX8_foldersAstray_12 (by decide) (fun hc_180 => ?_) (fun hc_180 => ?_)
    · have hr := (if_pos hc_180).symm.trans hr
      refine g_iload_n hx 65 (i := 1) 1 dX8_foldersAstray_65 rfl rfl ?_
      exact g_iret hx hR 66 dX8_foldersAstray_66 ⟨by rw [← Option.some.inj hr] <;> rfl, rfl⟩
    · have hr := (if_neg hc_180).symm.trans hr
      refine g_aload_n hx 15 (i := 0) 0 dX8_foldersAstray_15 rfl rfl ?_
      refine g_get hx 16 (C := RX8) (T := TX8) (N := 15) 11 (.ref (S + 15)) (pS_o σ S M) rfl (by decide) rfl fl_X8_43 dX8_foldersAstray_16 ?_
      refine g_get hx 19 (C := RX5) (T := TX5) (N := 4) 0 (.ref (S + 16)) (pS σ S M 15 (by decide)) rfl (by decide) rfl fl_X8_79 dX8_foldersAstray_19 ?_
      refine g_iload_n hx 22 (i := 2) 2 dX8_foldersAstray_22 rfl rfl ?_
      refine g_callVr hx (k_countOf l g (pS_l7 σ S M) (by decide) v2_179) lk_X8_111 ar_Ln_countOf (pS_l7 σ S M).1 (T := TX2) (N := 2) rfl (As := [.int v2_179]) (rest := []) rfl (Nat.le_of_ble_eq_true rfl) ⟨Nat.le_of_ble_eq_true rfl, Nat.le_of_ble_eq_true rfl⟩ ⟨rfl, rfl⟩ ⟨Nat.zero_le _, Nat.zero_le _⟩ dX8_foldersAstray_23 ?_
      refine g_aload_n hx 26 (i := 0) 0 dX8_foldersAstray_26 rfl rfl ?_
      refine g_get hx 27 (C := RX8) (T := TX8) (N := 15) 12 (.ref (S + 22)) (pS_o σ S M) rfl (by decide) rfl fl_X8_47 dX8_foldersAstray_27 ?_
      refine g_iload_n hx 30 (i := 2) 2 dX8_foldersAstray_30 rfl rfl ?_
      refine g_callVr hx (k_countOf l g (pS_l10 σ S M) (by decide) v2_179) lk_X8_111 ar_Ln_countOf (pS_l10 σ S M).1 (T := TX2) (N := 2) rfl (As := [.int v2_179]) (rest := [.int (lncnt (M.2 7) v2_179)]) rfl (Nat.le_of_ble_eq_true rfl) ⟨Nat.le_of_ble_eq_true rfl, Nat.le_of_ble_eq_true rfl⟩ ⟨rfl, rfl⟩ ⟨Nat.zero_le _, Nat.zero_le _⟩ dX8_foldersAstray_31 ?_
      refine g_iadd hx 34 dX8_foldersAstray_34 ?_
      obtain ⟨v3_181, ev3_181, hr⟩ := lt'_e hr
      refine g_nmi ev3_181 ?_
      refine g_istore_n hx 35 (i := 3) [(3, .int v3_181), (0, .ref S), (1, .int v1_178), (2, .int v2_179)] dX8_foldersAstray_35 rfl (by decide) rfl ?_
      refine g_aload_n hx 36 (i := 0) 1 dX8_foldersAstray_36 rfl rfl ?_
      refine g_get hx 37 (C := RX8) (T := TX8) (N := 15) 7 (.ref (S + 7)) (pS_o σ S M) rfl (by decide) rfl fl_X8_26 dX8_foldersAstray_37 ?_
      refine g_iload_n hx 40 (i := 2) 3 dX8_foldersAstray_40 rfl rfl ?_
      refine g_callVr hx (k_get l g (pS_l3 σ S M) (by decide) v2_179) lk_X8_96 ar_Ln_get (pS_l3 σ S M).1 (T := TX2) (N := 2) rfl (As := [.int v2_179]) (rest := []) rfl (Nat.le_of_ble_eq_true rfl) ⟨Nat.le_of_ble_eq_true rfl, Nat.le_of_ble_eq_true rfl⟩ ⟨rfl, rfl⟩ ⟨Nat.zero_le _, Nat.zero_le _⟩ dX8_foldersAstray_41 ?_
      refine g_iconst hx 44 (-1) dX8_foldersAstray_44 rfl ?_
      refine g_icmp_eq hx 45 51 dX8_foldersAstray_45 (by decide) (fun hc_182 => ?_) (fun hc_182 => ?_)
      · have hr := (if_pos hc_182).symm.trans hr
        refine g_iload_n hx 51 (i := 3) 0 dX8_foldersAstray_51 rfl rfl ?_
        refine g_iconst hx 52 (1) dX8_foldersAstray_52 rfl ?_
        refine g_icmp_eq hx 53 59 dX8_foldersAstray_53 (by decide) (fun hc_183 => ?_) (fun hc_183 => ?_)
        · have hr := (if_pos hc_183).symm.trans hr
          refine g_iinc hx 59 (i := 2) 3 (v2_179 + 1) [(2, .int (v2_179 + 1)), (3, .int v3_181), (0, .ref S), (1, .int v1_178)] dX8_foldersAstray_59 rfl rfl (by decide) rfl ?_
          refine g_goto hx 62 4 dX8_foldersAstray_62 (by decide) ?_
          refine g_ls [2, 3, 0] [(0, .ref S), (1, .int v1_178), (2, .int (v2_179 + 1))] rfl ?_
          exact ih v1_178 (v2_179 + 1) hr
        · have hr := (if_neg hc_183).symm.trans hr
          refine g_iinc hx 56 (i := 1) 2 (v1_178 + 1) [(1, .int (v1_178 + 1)), (3, .int v3_181), (0, .ref S), (2, .int v2_179)] dX8_foldersAstray_56 rfl rfl (by decide) rfl ?_
          refine g_iinc hx 59 (i := 2) 3 (v2_179 + 1) [(2, .int (v2_179 + 1)), (1, .int (v1_178 + 1)), (3, .int v3_181), (0, .ref S)] dX8_foldersAstray_59 rfl rfl (by decide) rfl ?_
          refine g_goto hx 62 4 dX8_foldersAstray_62 (by decide) ?_
          refine g_ls [3, 1, 0] [(0, .ref S), (1, .int (v1_178 + 1)), (2, .int (v2_179 + 1))] rfl ?_
          exact ih (v1_178 + 1) (v2_179 + 1) hr
      · have hr := (if_neg hc_182).symm.trans hr
        refine g_iinc hx 48 (i := 3) 0 (v3_181 + 1) [(3, .int (v3_181 + 1)), (0, .ref S), (1, .int v1_178), (2, .int v2_179)] dX8_foldersAstray_48 rfl rfl (by decide) rfl ?_
        refine g_iload_n hx 51 (i := 3) 0 dX8_foldersAstray_51 rfl rfl ?_
        refine g_iconst hx 52 (1) dX8_foldersAstray_52 rfl ?_
        refine g_icmp_eq hx 53 59 dX8_foldersAstray_53 (by decide) (fun hc_184 => ?_) (fun hc_184 => ?_)
        · have hr := (if_pos hc_184).symm.trans hr
          refine g_iinc hx 59 (i := 2) 3 (v2_179 + 1) [(2, .int (v2_179 + 1)), (3, .int (v3_181 + 1)), (0, .ref S), (1, .int v1_178)] dX8_foldersAstray_59 rfl rfl (by decide) rfl ?_
          refine g_goto hx 62 4 dX8_foldersAstray_62 (by decide) ?_
          refine g_ls [2, 3, 0] [(0, .ref S), (1, .int v1_178), (2, .int (v2_179 + 1))] rfl ?_
          exact ih v1_178 (v2_179 + 1) hr
        · have hr := (if_neg hc_184).symm.trans hr
          refine g_iinc hx 56 (i := 1) 2 (v1_178 + 1) [(1, .int (v1_178 + 1)), (3, .int (v3_181 + 1)), (0, .ref S), (2, .int v2_179)] dX8_foldersAstray_56 rfl rfl (by decide) rfl ?_
          refine g_iinc hx 59 (i := 2) 3 (v2_179 + 1) [(2, .int (v2_179 + 1)), (1, .int (v1_178 + 1)), (3, .int (v3_181 + 1)), (0, .ref S)] dX8_foldersAstray_59 rfl rfl (by decide) rfl ?_
          refine g_goto hx 62 4 dX8_foldersAstray_62 (by decide) ?_
          refine g_ls [3, 1, 0] [(0, .ref S), (1, .int (v1_178 + 1)), (2, .int (v2_179 + 1))] rfl ?_
          exact ih (v1_178 + 1) (v2_179 + 1) hr
set_option maxRecDepth 100000 in
set_option maxHeartbeats 4000000 in
theorem c_St_foldersAstray (l : Launch) (g : Gl) (σ : Hp) (S : Nat) (M : StM) {r : Int32} (hr : St_foldersAstray M = some r) : MG l g md_St_foldersAstray [.ref S] (putSt σ S M) (rs (some (.int r)) (putSt σ S M)) := by
  refine MG.intro (by decide +kernel) (Nat.le_of_ble_eq_true rfl) (fun X hx hR _ => ?_)
  unfold St_foldersAstray at hr
  refine g_ls [0] [(0, .ref S)] rfl ?_
  refine g_iconst hx 0 (0) dX8_foldersAstray_0 rfl ?_
  refine g_istore_n hx 1 (i := 1) [(1, .int 0), (0, .ref S)] dX8_foldersAstray_1 rfl (by decide) rfl ?_
  refine g_iconst hx 2 (0) dX8_foldersAstray_2 rfl ?_
  refine g_istore_n hx 3 (i := 2) [(2, .int 0), (1, .int 0), (0, .ref S)] dX8_foldersAstray_3 rfl (by decide) rfl ?_
  refine g_ls [2, 1, 0] [(0, .ref S), (1, .int 0), (2, .int 0)] rfl ?_
  exact w_St_foldersAstray_L4 hx hR FU 0 0 hr
def St_readersAboveLimit_L4 (M : StM) : Nat → Int32 → Int32 → Option (Int32)
  | 0, _, _ => none
  | n + 1, v1_185, v2_186 => if nI (M.2 5).length ≤ v2_186 then (some (v1_185)) else (if lncnt (M.2 3) v2_186 ≤ M.1 3 then (St_readersAboveLimit_L4 M n v1_185 (v2_186 + 1)) else (St_readersAboveLimit_L4 M n (v1_185 + 1) (v2_186 + 1)))
def St_readersAboveLimit (M : StM) : Option (Int32) := St_readersAboveLimit_L4 M FU 0 0
set_option maxRecDepth 100000 in
set_option maxHeartbeats 4000000 in
theorem w_St_readersAboveLimit_L4 {X : Cx} {l : Launch} {g : Gl} (hx : Ok X l g RX8 cX8_readersAboveLimit 3 md_St_readersAboveLimit.rm) {σ : Hp} {S : Nat} {M : StM} {r : Int32} (hR : Ret X (rs (some (.int r)) (putSt σ S M)) 0 0 (some .int)) : ∀ (n : Nat) (v1_185 v2_186 : Int32), St_readersAboveLimit_L4 M n v1_185 v2_186 = some r → G X (putSt σ S M) 0 0 4 [(0, .ref S), (1, .int v1_185), (2, .int v2_186)] [] := by
  intro n
  induction n with
  | zero =>
    intro v1_185 v2_186 hr
    rw [St_readersAboveLimit_L4] at hr
    cases hr
  | succ n ih =>
    intro v1_185 v2_186 hr
    rw [St_readersAboveLimit_L4] at hr
    refine g_iload_n hx 4 (i := 2) 2 dX8_readersAboveLimit_4 rfl rfl ?_
    refine g_aload_n hx 5 (i := 0) 0 dX8_readersAboveLimit_5 rfl rfl ?_
    refine g_get hx 6 (C := RX8) (T := TX8) (N := 15) 9 (.ref (S + 11)) (pS_o σ S M) rfl (by decide) rfl fl_X8_32 dX8_readersAboveLimit_6 ?_
    refine g_callVr hx (k_count l g (pS_l5 σ S M) (by decide) ) lk_X8_83 ar_Ln_count (pS_l5 σ S M).1 (T := TX2) (N := 2) rfl (As := []) (rest := [.int v2_186]) rfl (Nat.le_of_ble_eq_true rfl) ⟨Nat.le_of_ble_eq_true rfl, Nat.le_of_ble_eq_true rfl⟩ ⟨rfl, rfl⟩ ⟨Nat.zero_le _, Nat.zero_le _⟩ dX8_readersAboveLimit_9 ?_
    refine g_icmp_ge hx 12 39 dX8_readersAboveLimit_12 (by decide) (fun hc_187 => ?_) (fun hc_187 => ?_)
    · have hr := (if_pos hc_187).symm.trans hr
      refine g_iload_n hx 39 (i := 1) 1 dX8_readersAboveLimit_39 rfl rfl ?_
      exact g_iret hx hR 40 dX8_readersAboveLimit_40 ⟨by rw [← Option.some.inj hr] <;> rfl, rfl⟩
    · have hr := (if_neg hc_187).symm.trans hr
      refine g_aload_n hx 15 (i := 0) 0 dX8_readersAboveLimit_15 rfl rfl ?_
      refine g_get hx 16 (C := RX8) (T := TX8) (N := 15) 7 (.ref (S + 7)) (pS_o σ S M) rfl (by decide) rfl fl_X8_26 dX8_readersAboveLimit_16 ?_
      refine g_iload_n hx 19 (i := 2) 2 dX8_readersAboveLimit_19 rfl rfl ?_
      refine g_callVr hx (k_countOf l g (pS_l3 σ S M) (by decide) v2_186) lk_X8_111 ar_Ln_countOf (pS_l3 σ S M).1 (T := TX2) (N := 2) rfl (As := [.int v2_186]) (rest := []) rfl (Nat.le_of_ble_eq_true rfl) ⟨Nat.le_of_ble_eq_true rfl, Nat.le_of_ble_eq_true rfl⟩ ⟨rfl, rfl⟩ ⟨Nat.zero_le _, Nat.zero_le _⟩ dX8_readersAboveLimit_20 ?_
      refine g_aload_n hx 23 (i := 0) 0 dX8_readersAboveLimit_23 rfl rfl ?_
      refine g_get hx 24 (C := RX8) (T := TX8) (N := 15) 3 (.int (M.1 3)) (pS_o σ S M) rfl (by decide) rfl fl_X8_70 dX8_readersAboveLimit_24 ?_
      refine g_icmp_le hx 27 33 dX8_readersAboveLimit_27 (by decide) (fun hc_188 => ?_) (fun hc_188 => ?_)
      · have hr := (if_pos hc_188).symm.trans hr
        refine g_iinc hx 33 (i := 2) 2 (v2_186 + 1) [(2, .int (v2_186 + 1)), (0, .ref S), (1, .int v1_185)] dX8_readersAboveLimit_33 rfl rfl (by decide) rfl ?_
        refine g_goto hx 36 4 dX8_readersAboveLimit_36 (by decide) ?_
        refine g_ls [1, 2, 0] [(0, .ref S), (1, .int v1_185), (2, .int (v2_186 + 1))] rfl ?_
        exact ih v1_185 (v2_186 + 1) hr
      · have hr := (if_neg hc_188).symm.trans hr
        refine g_iinc hx 30 (i := 1) 1 (v1_185 + 1) [(1, .int (v1_185 + 1)), (0, .ref S), (2, .int v2_186)] dX8_readersAboveLimit_30 rfl rfl (by decide) rfl ?_
        refine g_iinc hx 33 (i := 2) 2 (v2_186 + 1) [(2, .int (v2_186 + 1)), (1, .int (v1_185 + 1)), (0, .ref S)] dX8_readersAboveLimit_33 rfl rfl (by decide) rfl ?_
        refine g_goto hx 36 4 dX8_readersAboveLimit_36 (by decide) ?_
        refine g_ls [2, 1, 0] [(0, .ref S), (1, .int (v1_185 + 1)), (2, .int (v2_186 + 1))] rfl ?_
        exact ih (v1_185 + 1) (v2_186 + 1) hr
set_option maxRecDepth 100000 in
set_option maxHeartbeats 4000000 in
theorem c_St_readersAboveLimit (l : Launch) (g : Gl) (σ : Hp) (S : Nat) (M : StM) {r : Int32} (hr : St_readersAboveLimit M = some r) : MG l g md_St_readersAboveLimit [.ref S] (putSt σ S M) (rs (some (.int r)) (putSt σ S M)) := by
  refine MG.intro (by decide +kernel) (Nat.le_of_ble_eq_true rfl) (fun X hx hR _ => ?_)
  unfold St_readersAboveLimit at hr
  refine g_ls [0] [(0, .ref S)] rfl ?_
  refine g_iconst hx 0 (0) dX8_readersAboveLimit_0 rfl ?_
  refine g_istore_n hx 1 (i := 1) [(1, .int 0), (0, .ref S)] dX8_readersAboveLimit_1 rfl (by decide) rfl ?_
  refine g_iconst hx 2 (0) dX8_readersAboveLimit_2 rfl ?_
  refine g_istore_n hx 3 (i := 2) [(2, .int 0), (1, .int 0), (0, .ref S)] dX8_readersAboveLimit_3 rfl (by decide) rfl ?_
  refine g_ls [2, 1, 0] [(0, .ref S), (1, .int 0), (2, .int 0)] rfl ?_
  exact w_St_readersAboveLimit_L4 hx hR FU 0 0 hr
def St_slipsForOwnFolders_L4 (M : StM) : Nat → Int32 → Int32 → Option (Int32)
  | 0, _, _ => none
  | n + 1, v1_189, v2_190 => if Sl_count M ≤ v2_190 then (some (v1_189)) else (if lnget (M.2 3) (lnget (M.2 12) v2_190) = lnget (M.2 11) v2_190 then (St_slipsForOwnFolders_L4 M n (v1_189 + 1) (v2_190 + 1)) else (St_slipsForOwnFolders_L4 M n v1_189 (v2_190 + 1)))
def St_slipsForOwnFolders (M : StM) : Option (Int32) := St_slipsForOwnFolders_L4 M FU 0 0
set_option maxRecDepth 100000 in
set_option maxHeartbeats 4000000 in
theorem w_St_slipsForOwnFolders_L4 {X : Cx} {l : Launch} {g : Gl} (hx : Ok X l g RX8 cX8_slipsForOwnFolders 3 md_St_slipsForOwnFolders.rm) {σ : Hp} {S : Nat} {M : StM} {r : Int32} (hR : Ret X (rs (some (.int r)) (putSt σ S M)) 0 0 (some .int)) : ∀ (n : Nat) (v1_189 v2_190 : Int32), St_slipsForOwnFolders_L4 M n v1_189 v2_190 = some r → G X (putSt σ S M) 0 0 4 [(0, .ref S), (1, .int v1_189), (2, .int v2_190)] [] := by
  intro n
  induction n with
  | zero =>
    intro v1_189 v2_190 hr
    rw [St_slipsForOwnFolders_L4] at hr
    cases hr
  | succ n ih =>
    intro v1_189 v2_190 hr
    rw [St_slipsForOwnFolders_L4] at hr
    refine g_iload_n hx 4 (i := 2) 2 dX8_slipsForOwnFolders_4 rfl rfl ?_
    refine g_aload_n hx 5 (i := 0) 0 dX8_slipsForOwnFolders_5 rfl rfl ?_
    refine g_get hx 6 (C := RX8) (T := TX8) (N := 15) 13 (.ref (S + 24)) (pS_o σ S M) rfl (by decide) rfl fl_X8_53 dX8_slipsForOwnFolders_6 ?_
    refine g_callVr hx (c_Sl_count l g σ S M rfl) lk_X8_114 ar_Sl_count (pS σ S M 24 (by decide)) (T := TX7) (N := 4) rfl (As := []) (rest := [.int v2_190]) rfl (Nat.le_of_ble_eq_true rfl) ⟨Nat.le_of_ble_eq_true rfl, Nat.le_of_ble_eq_true rfl⟩ ⟨rfl, rfl⟩ ⟨Nat.zero_le _, Nat.zero_le _⟩ dX8_slipsForOwnFolders_9 ?_
    refine g_icmp_ge hx 12 56 dX8_slipsForOwnFolders_12 (by decide) (fun hc_191 => ?_) (fun hc_191 => ?_)
    · have hr := (if_pos hc_191).symm.trans hr
      refine g_iload_n hx 56 (i := 1) 1 dX8_slipsForOwnFolders_56 rfl rfl ?_
      exact g_iret hx hR 57 dX8_slipsForOwnFolders_57 ⟨by rw [← Option.some.inj hr] <;> rfl, rfl⟩
    · have hr := (if_neg hc_191).symm.trans hr
      refine g_aload_n hx 15 (i := 0) 0 dX8_slipsForOwnFolders_15 rfl rfl ?_
      refine g_get hx 16 (C := RX8) (T := TX8) (N := 15) 7 (.ref (S + 7)) (pS_o σ S M) rfl (by decide) rfl fl_X8_26 dX8_slipsForOwnFolders_16 ?_
      refine g_aload_n hx 19 (i := 0) 0 dX8_slipsForOwnFolders_19 rfl rfl ?_
      refine g_get hx 20 (C := RX8) (T := TX8) (N := 15) 13 (.ref (S + 24)) (pS_o σ S M) rfl (by decide) rfl fl_X8_53 dX8_slipsForOwnFolders_20 ?_
      refine g_get hx 23 (C := RX7) (T := TX7) (N := 4) 1 (.ref (S + 27)) (pS σ S M 24 (by decide)) rfl (by decide) rfl fl_X8_103 dX8_slipsForOwnFolders_23 ?_
      refine g_iload_n hx 26 (i := 2) 2 dX8_slipsForOwnFolders_26 rfl rfl ?_
      refine g_callVr hx (k_get l g (pS_l12 σ S M) (by decide) v2_190) lk_X8_96 ar_Ln_get (pS_l12 σ S M).1 (T := TX2) (N := 2) rfl (As := [.int v2_190]) (rest := [.ref (S + 7)]) rfl (Nat.le_of_ble_eq_true rfl) ⟨Nat.le_of_ble_eq_true rfl, Nat.le_of_ble_eq_true rfl⟩ ⟨rfl, rfl⟩ ⟨Nat.zero_le _, Nat.zero_le _⟩ dX8_slipsForOwnFolders_27 ?_
      refine g_callVr hx (k_get l g (pS_l3 σ S M) (by decide) (lnget (M.2 12) v2_190)) lk_X8_96 ar_Ln_get (pS_l3 σ S M).1 (T := TX2) (N := 2) rfl (As := [.int (lnget (M.2 12) v2_190)]) (rest := []) rfl (Nat.le_of_ble_eq_true rfl) ⟨Nat.le_of_ble_eq_true rfl, Nat.le_of_ble_eq_true rfl⟩ ⟨rfl, rfl⟩ ⟨Nat.zero_le _, Nat.zero_le _⟩ dX8_slipsForOwnFolders_30 ?_
      refine g_aload_n hx 33 (i := 0) 0 dX8_slipsForOwnFolders_33 rfl rfl ?_
      refine g_get hx 34 (C := RX8) (T := TX8) (N := 15) 13 (.ref (S + 24)) (pS_o σ S M) rfl (by decide) rfl fl_X8_53 dX8_slipsForOwnFolders_34 ?_
      refine g_get hx 37 (C := RX7) (T := TX7) (N := 4) 0 (.ref (S + 25)) (pS σ S M 24 (by decide)) rfl (by decide) rfl fl_X8_108 dX8_slipsForOwnFolders_37 ?_
      refine g_iload_n hx 40 (i := 2) 2 dX8_slipsForOwnFolders_40 rfl rfl ?_
      refine g_callVr hx (k_get l g (pS_l11 σ S M) (by decide) v2_190) lk_X8_96 ar_Ln_get (pS_l11 σ S M).1 (T := TX2) (N := 2) rfl (As := [.int v2_190]) (rest := [.int (lnget (M.2 3) (lnget (M.2 12) v2_190))]) rfl (Nat.le_of_ble_eq_true rfl) ⟨Nat.le_of_ble_eq_true rfl, Nat.le_of_ble_eq_true rfl⟩ ⟨rfl, rfl⟩ ⟨Nat.zero_le _, Nat.zero_le _⟩ dX8_slipsForOwnFolders_41 ?_
      refine g_icmp_ne hx 44 50 dX8_slipsForOwnFolders_44 (by decide) (fun hc_192 => ?_) (fun hc_192 => ?_)
      · have hr := (if_neg hc_192).symm.trans hr
        refine g_iinc hx 50 (i := 2) 2 (v2_190 + 1) [(2, .int (v2_190 + 1)), (0, .ref S), (1, .int v1_189)] dX8_slipsForOwnFolders_50 rfl rfl (by decide) rfl ?_
        refine g_goto hx 53 4 dX8_slipsForOwnFolders_53 (by decide) ?_
        refine g_ls [1, 2, 0] [(0, .ref S), (1, .int v1_189), (2, .int (v2_190 + 1))] rfl ?_
        exact ih v1_189 (v2_190 + 1) hr
      · have hr := (if_pos hc_192).symm.trans hr
        refine g_iinc hx 47 (i := 1) 1 (v1_189 + 1) [(1, .int (v1_189 + 1)), (0, .ref S), (2, .int v2_190)] dX8_slipsForOwnFolders_47 rfl rfl (by decide) rfl ?_
        refine g_iinc hx 50 (i := 2) 2 (v2_190 + 1) [(2, .int (v2_190 + 1)), (1, .int (v1_189 + 1)), (0, .ref S)] dX8_slipsForOwnFolders_50 rfl rfl (by decide) rfl ?_
        refine g_goto hx 53 4 dX8_slipsForOwnFolders_53 (by decide) ?_
        refine g_ls [2, 1, 0] [(0, .ref S), (1, .int (v1_189 + 1)), (2, .int (v2_190 + 1))] rfl ?_
        exact ih (v1_189 + 1) (v2_190 + 1) hr
set_option maxRecDepth 100000 in
set_option maxHeartbeats 4000000 in
theorem c_St_slipsForOwnFolders (l : Launch) (g : Gl) (σ : Hp) (S : Nat) (M : StM) {r : Int32} (hr : St_slipsForOwnFolders M = some r) : MG l g md_St_slipsForOwnFolders [.ref S] (putSt σ S M) (rs (some (.int r)) (putSt σ S M)) := by
  refine MG.intro (by decide +kernel) (Nat.le_of_ble_eq_true rfl) (fun X hx hR _ => ?_)
  unfold St_slipsForOwnFolders at hr
  refine g_ls [0] [(0, .ref S)] rfl ?_
  refine g_iconst hx 0 (0) dX8_slipsForOwnFolders_0 rfl ?_
  refine g_istore_n hx 1 (i := 1) [(1, .int 0), (0, .ref S)] dX8_slipsForOwnFolders_1 rfl (by decide) rfl ?_
  refine g_iconst hx 2 (0) dX8_slipsForOwnFolders_2 rfl ?_
  refine g_istore_n hx 3 (i := 2) [(2, .int 0), (1, .int 0), (0, .ref S)] dX8_slipsForOwnFolders_3 rfl (by decide) rfl ?_
  refine g_ls [2, 1, 0] [(0, .ref S), (1, .int 0), (2, .int 0)] rfl ?_
  exact w_St_slipsForOwnFolders_L4 hx hR FU 0 0 hr
def St_refusal (M : StM) (p1 p2 : Int32) : Option (Int32) := if St_hasReader M p1 = 0 then (some ((-1))) else (if St_hasFolder M p2 = 0 then (some ((-1))) else (if lnget (M.2 3) p2 = p1 then (some ((-2))) else (Option.bind (Sl_placeFor M p1 p2) fun q_196 => if q_196 = (-1) then (if Sl_count M < 16 then (some (0)) else (some ((-4)))) else (some ((-3))))))
set_option maxRecDepth 100000 in
set_option maxHeartbeats 4000000 in
theorem c_St_refusal (l : Launch) (g : Gl) (σ : Hp) (S : Nat) (M : StM) (p1 p2 : Int32) {r : Int32} (hr : St_refusal M p1 p2 = some r) : MG l g md_St_refusal [.ref S, .int p1, .int p2] (putSt σ S M) (rs (some (.int r)) (putSt σ S M)) := by
  refine MG.intro (by decide +kernel) (Nat.le_of_ble_eq_true rfl) (fun X hx hR _ => ?_)
  unfold St_refusal at hr
  refine g_ls [0, 1, 2] [(0, .ref S), (1, .int p1), (2, .int p2)] rfl ?_
  refine g_aload_n hx 0 (i := 0) 0 dX8_refusal_0 rfl rfl ?_
  refine g_iload_n hx 1 (i := 1) 1 dX8_refusal_1 rfl rfl ?_
  refine g_callVr hx (c_St_hasReader l g σ S M p1 rfl) lk_X8_115 ar_St_hasReader (pS_o σ S M) (T := TX8) (N := 15) rfl (As := [.int p1]) (rest := []) rfl (Nat.le_of_ble_eq_true rfl) ⟨Nat.le_of_ble_eq_true rfl, Nat.le_of_ble_eq_true rfl⟩ ⟨rfl, rfl⟩ ⟨Nat.zero_le _, Nat.zero_le _⟩ dX8_refusal_2 ?_
  refine g_if_eq hx 5 16 dX8_refusal_5 (by decide) (fun hc_193 => ?_) (fun hc_193 => ?_)
  · have hr := (if_pos hc_193).symm.trans hr
    refine g_iconst hx 16 (-1) dX8_refusal_16 rfl ?_
    exact g_iret hx hR 17 dX8_refusal_17 ⟨by rw [← Option.some.inj hr] <;> rfl, rfl⟩
  · have hr := (if_neg hc_193).symm.trans hr
    refine g_aload_n hx 8 (i := 0) 0 dX8_refusal_8 rfl rfl ?_
    refine g_iload_n hx 9 (i := 2) 2 dX8_refusal_9 rfl rfl ?_
    refine g_callVr hx (c_St_hasFolder l g σ S M p2 rfl) lk_X8_118 ar_St_hasFolder (pS_o σ S M) (T := TX8) (N := 15) rfl (As := [.int p2]) (rest := []) rfl (Nat.le_of_ble_eq_true rfl) ⟨Nat.le_of_ble_eq_true rfl, Nat.le_of_ble_eq_true rfl⟩ ⟨rfl, rfl⟩ ⟨Nat.zero_le _, Nat.zero_le _⟩ dX8_refusal_10 ?_
    refine g_if_ne hx 13 18 dX8_refusal_13 (by decide) (fun hc_194 => ?_) (fun hc_194 => ?_)
    · have hr := (if_neg hc_194).symm.trans hr
      refine g_aload_n hx 18 (i := 0) 0 dX8_refusal_18 rfl rfl ?_
      refine g_get hx 19 (C := RX8) (T := TX8) (N := 15) 7 (.ref (S + 7)) (pS_o σ S M) rfl (by decide) rfl fl_X8_26 dX8_refusal_19 ?_
      refine g_iload_n hx 22 (i := 2) 2 dX8_refusal_22 rfl rfl ?_
      refine g_callVr hx (k_get l g (pS_l3 σ S M) (by decide) p2) lk_X8_96 ar_Ln_get (pS_l3 σ S M).1 (T := TX2) (N := 2) rfl (As := [.int p2]) (rest := []) rfl (Nat.le_of_ble_eq_true rfl) ⟨Nat.le_of_ble_eq_true rfl, Nat.le_of_ble_eq_true rfl⟩ ⟨rfl, rfl⟩ ⟨Nat.zero_le _, Nat.zero_le _⟩ dX8_refusal_23 ?_
      refine g_iload_n hx 26 (i := 1) 1 dX8_refusal_26 rfl rfl ?_
      refine g_icmp_ne hx 27 33 dX8_refusal_27 (by decide) (fun hc_195 => ?_) (fun hc_195 => ?_)
      · have hr := (if_neg hc_195).symm.trans hr
        refine g_aload_n hx 33 (i := 0) 0 dX8_refusal_33 rfl rfl ?_
        refine g_get hx 34 (C := RX8) (T := TX8) (N := 15) 13 (.ref (S + 24)) (pS_o σ S M) rfl (by decide) rfl fl_X8_53 dX8_refusal_34 ?_
        refine g_iload_n hx 37 (i := 1) 1 dX8_refusal_37 rfl rfl ?_
        refine g_iload_n hx 38 (i := 2) 2 dX8_refusal_38 rfl rfl ?_
        obtain ⟨q_196, eq_196, hr⟩ := bind_e hr
        refine g_callVr hx (c_Sl_placeFor l g σ S M p1 p2 eq_196) lk_X8_121 ar_Sl_placeFor (pS σ S M 24 (by decide)) (T := TX7) (N := 4) rfl (As := [.int p1, .int p2]) (rest := []) rfl (Nat.le_of_ble_eq_true rfl) ⟨Nat.le_of_ble_eq_true rfl, Nat.le_of_ble_eq_true rfl⟩ ⟨rfl, rfl⟩ ⟨Nat.zero_le _, Nat.zero_le _⟩ dX8_refusal_39 ?_
        refine g_iconst hx 42 (-1) dX8_refusal_42 rfl ?_
        refine g_icmp_eq hx 43 49 dX8_refusal_43 (by decide) (fun hc_197 => ?_) (fun hc_197 => ?_)
        · have hr := (if_pos hc_197).symm.trans hr
          refine g_aload_n hx 49 (i := 0) 0 dX8_refusal_49 rfl rfl ?_
          refine g_get hx 50 (C := RX8) (T := TX8) (N := 15) 13 (.ref (S + 24)) (pS_o σ S M) rfl (by decide) rfl fl_X8_53 dX8_refusal_50 ?_
          refine g_callVr hx (c_Sl_count l g σ S M rfl) lk_X8_114 ar_Sl_count (pS σ S M 24 (by decide)) (T := TX7) (N := 4) rfl (As := []) (rest := []) rfl (Nat.le_of_ble_eq_true rfl) ⟨Nat.le_of_ble_eq_true rfl, Nat.le_of_ble_eq_true rfl⟩ ⟨rfl, rfl⟩ ⟨Nat.zero_le _, Nat.zero_le _⟩ dX8_refusal_53 ?_
          refine g_bipush hx 56 (16) dX8_refusal_56 rfl ?_
          refine g_icmp_lt hx 58 66 dX8_refusal_58 (by decide) (fun hc_198 => ?_) (fun hc_198 => ?_)
          · have hr := (if_pos hc_198).symm.trans hr
            refine g_iconst hx 66 (0) dX8_refusal_66 rfl ?_
            exact g_iret hx hR 67 dX8_refusal_67 ⟨by rw [← Option.some.inj hr] <;> rfl, rfl⟩
          · have hr := (if_neg hc_198).symm.trans hr
            refine g_bipush hx 61 (-4) dX8_refusal_61 rfl ?_
            refine g_goto hx 63 67 dX8_refusal_63 (by decide) ?_
            exact g_iret hx hR 67 dX8_refusal_67 ⟨by rw [← Option.some.inj hr] <;> rfl, rfl⟩
        · have hr := (if_neg hc_197).symm.trans hr
          refine g_bipush hx 46 (-3) dX8_refusal_46 rfl ?_
          exact g_iret hx hR 48 dX8_refusal_48 ⟨by rw [← Option.some.inj hr] <;> rfl, rfl⟩
      · have hr := (if_pos hc_195).symm.trans hr
        refine g_bipush hx 30 (-2) dX8_refusal_30 rfl ?_
        exact g_iret hx hR 32 dX8_refusal_32 ⟨by rw [← Option.some.inj hr] <;> rfl, rfl⟩
    · have hr := (if_pos hc_194).symm.trans hr
      refine g_iconst hx 16 (-1) dX8_refusal_16 rfl ?_
      exact g_iret hx hR 17 dX8_refusal_17 ⟨by rw [← Option.some.inj hr] <;> rfl, rfl⟩
def St_handIn (M : StM) (p1 p2 : Int32) : Option (Int32 × StM) := Option.bind (St_refusal M p1 p2) fun q_199 => if q_199 = 0 then (lt' (Sl_add M p1 p2 (M.1 0)) fun M_201 => some (((Sl_count (setL M_201 15 (lnraise (M_201.2 15) 3 1))) - 1, setL M_201 15 (lnraise (M_201.2 15) 3 1)))) else (some ((q_199, M)))
set_option maxRecDepth 100000 in
set_option maxHeartbeats 4000000 in
theorem c_St_handIn (l : Launch) (g : Gl) (σ : Hp) (S : Nat) (M : StM) (p1 p2 : Int32) {r : Int32 × StM} (hr : St_handIn M p1 p2 = some r) : MG l g md_St_handIn [.ref S, .int p1, .int p2] (putSt σ S M) (rs (some (.int r.1)) (putSt σ S r.2)) := by
  refine MG.intro (by decide +kernel) (Nat.le_of_ble_eq_true rfl) (fun X hx hR _ => ?_)
  unfold St_handIn at hr
  refine g_ls [0, 1, 2] [(0, .ref S), (1, .int p1), (2, .int p2)] rfl ?_
  refine g_aload_n hx 0 (i := 0) 0 dX8_handIn_0 rfl rfl ?_
  refine g_iload_n hx 1 (i := 1) 1 dX8_handIn_1 rfl rfl ?_
  refine g_iload_n hx 2 (i := 2) 2 dX8_handIn_2 rfl rfl ?_
  obtain ⟨q_199, eq_199, hr⟩ := bind_e hr
  refine g_callVr hx (c_St_refusal l g σ S M p1 p2 eq_199) lk_X8_125 ar_St_refusal (pS_o σ S M) (T := TX8) (N := 15) rfl (As := [.int p1, .int p2]) (rest := []) rfl (Nat.le_of_ble_eq_true rfl) ⟨Nat.le_of_ble_eq_true rfl, Nat.le_of_ble_eq_true rfl⟩ ⟨rfl, rfl⟩ ⟨Nat.zero_le _, Nat.zero_le _⟩ dX8_handIn_3 ?_
  refine g_istore_n hx 6 (i := 3) [(3, .int q_199), (0, .ref S), (1, .int p1), (2, .int p2)] dX8_handIn_6 rfl (by decide) rfl ?_
  refine g_iload_n hx 7 (i := 3) 0 dX8_handIn_7 rfl rfl ?_
  refine g_if_eq hx 8 13 dX8_handIn_8 (by decide) (fun hc_200 => ?_) (fun hc_200 => ?_)
  · have hr := (if_pos hc_200).symm.trans hr
    refine g_aload_n hx 13 (i := 0) 1 dX8_handIn_13 rfl rfl ?_
    refine g_get hx 14 (C := RX8) (T := TX8) (N := 15) 13 (.ref (S + 24)) (pS_o σ S M) rfl (by decide) rfl fl_X8_53 dX8_handIn_14 ?_
    refine g_iload_n hx 17 (i := 1) 2 dX8_handIn_17 rfl rfl ?_
    refine g_iload_n hx 18 (i := 2) 3 dX8_handIn_18 rfl rfl ?_
    refine g_aload_n hx 19 (i := 0) 1 dX8_handIn_19 rfl rfl ?_
    refine g_get hx 20 (C := RX8) (T := TX8) (N := 15) 0 (.int (M.1 0)) (pS_o σ S M) rfl (by decide) rfl fl_X8_60 dX8_handIn_20 ?_
    obtain ⟨M_201, eM_201, hr⟩ := lt'_e hr
    refine g_callVv hx (c_Sl_add l g σ S M p1 p2 (M.1 0) eM_201.symm) lk_X8_128 ar_Sl_add (pS σ S M 24 (by decide)) (T := TX7) (N := 4) rfl (As := [.int p1, .int p2, .int (M.1 0)]) (rest := []) rfl (Nat.le_of_ble_eq_true rfl) ⟨Nat.le_of_ble_eq_true rfl, Nat.le_of_ble_eq_true rfl⟩ ⟨rfl, rfl⟩ ⟨Nat.zero_le _, Nat.zero_le _⟩ dX8_handIn_23 ?_
    refine g_aload_n hx 26 (i := 0) 1 dX8_handIn_26 rfl rfl ?_
    refine g_get hx 27 (C := RX8) (T := TX8) (N := 15) 14 (.ref (S + 33)) (pS_o σ S M_201) rfl (by decide) rfl fl_X8_57 dX8_handIn_27 ?_
    refine g_iconst hx 30 (3) dX8_handIn_30 rfl ?_
    refine g_iconst hx 31 (1) dX8_handIn_31 rfl ?_
    refine g_callVv hx (k_raise l g (pS_l15 σ S M_201) (by decide) 3 1) lk_X8_131 ar_Ln_raise (pS_l15 σ S M_201).1 (T := TX2) (N := 2) rfl (As := [.int 3, .int 1]) (rest := []) rfl (Nat.le_of_ble_eq_true rfl) ⟨Nat.le_of_ble_eq_true rfl, Nat.le_of_ble_eq_true rfl⟩ ⟨rfl, rfl⟩ ⟨Nat.zero_le _, Nat.zero_le _⟩ dX8_handIn_32 ?_
    refine G.heap (pS_p15 σ S M_201 (lnraise (M_201.2 15) 3 1)) ?_
    refine g_aload_n hx 35 (i := 0) 1 dX8_handIn_35 rfl rfl ?_
    refine g_get hx 36 (C := RX8) (T := TX8) (N := 15) 13 (.ref (S + 24)) (pS_o σ S (setL M_201 15 (lnraise (M_201.2 15) 3 1))) rfl (by decide) rfl fl_X8_53 dX8_handIn_36 ?_
    refine g_callVr hx (c_Sl_count l g σ S (setL M_201 15 (lnraise (M_201.2 15) 3 1)) rfl) lk_X8_114 ar_Sl_count (pS σ S (setL M_201 15 (lnraise (M_201.2 15) 3 1)) 24 (by decide)) (T := TX7) (N := 4) rfl (As := []) (rest := []) rfl (Nat.le_of_ble_eq_true rfl) ⟨Nat.le_of_ble_eq_true rfl, Nat.le_of_ble_eq_true rfl⟩ ⟨rfl, rfl⟩ ⟨Nat.zero_le _, Nat.zero_le _⟩ dX8_handIn_39 ?_
    refine g_iconst hx 42 (1) dX8_handIn_42 rfl ?_
    refine g_isub hx 43 dX8_handIn_43 ?_
    exact g_iret hx hR 44 dX8_handIn_44 ⟨by rw [← Option.some.inj hr] <;> rfl, by rw [← Option.some.inj hr] <;> rfl⟩
  · have hr := (if_neg hc_200).symm.trans hr
    refine g_iload_n hx 11 (i := 3) 0 dX8_handIn_11 rfl rfl ?_
    exact g_iret hx hR 12 dX8_handIn_12 ⟨by rw [← Option.some.inj hr] <;> rfl, by rw [← Option.some.inj hr] <;> rfl⟩
def St_takeAway (M : StM) (p1 : Int32) : Int32 × StM := if Sl_has M p1 = 0 then (((-2), M)) else (lt' (Sl_removeAt M p1) fun M_203 => (Sl_count M_203, M_203))
set_option maxRecDepth 100000 in
set_option maxHeartbeats 4000000 in
theorem c_St_takeAway (l : Launch) (g : Gl) (σ : Hp) (S : Nat) (M : StM) (p1 : Int32) {r : Int32 × StM} (hr : St_takeAway M p1 = r) : MG l g md_St_takeAway [.ref S, .int p1] (putSt σ S M) (rs (some (.int r.1)) (putSt σ S r.2)) := by
  refine MG.intro (by decide +kernel) (Nat.le_of_ble_eq_true rfl) (fun X hx hR _ => ?_)
  unfold St_takeAway at hr
  refine g_ls [0, 1] [(0, .ref S), (1, .int p1)] rfl ?_
  refine g_aload_n hx 0 (i := 0) 0 dX8_takeAway_0 rfl rfl ?_
  refine g_get hx 1 (C := RX8) (T := TX8) (N := 15) 13 (.ref (S + 24)) (pS_o σ S M) rfl (by decide) rfl fl_X8_53 dX8_takeAway_1 ?_
  refine g_iload_n hx 4 (i := 1) 1 dX8_takeAway_4 rfl rfl ?_
  refine g_callVr hx (c_Sl_has l g σ S M p1 rfl) lk_X8_135 ar_Sl_has (pS σ S M 24 (by decide)) (T := TX7) (N := 4) rfl (As := [.int p1]) (rest := []) rfl (Nat.le_of_ble_eq_true rfl) ⟨Nat.le_of_ble_eq_true rfl, Nat.le_of_ble_eq_true rfl⟩ ⟨rfl, rfl⟩ ⟨Nat.zero_le _, Nat.zero_le _⟩ dX8_takeAway_5 ?_
  refine g_if_ne hx 8 14 dX8_takeAway_8 (by decide) (fun hc_202 => ?_) (fun hc_202 => ?_)
  · have hr := (if_neg hc_202).symm.trans hr
    refine g_aload_n hx 14 (i := 0) 0 dX8_takeAway_14 rfl rfl ?_
    refine g_get hx 15 (C := RX8) (T := TX8) (N := 15) 13 (.ref (S + 24)) (pS_o σ S M) rfl (by decide) rfl fl_X8_53 dX8_takeAway_15 ?_
    refine g_iload_n hx 18 (i := 1) 1 dX8_takeAway_18 rfl rfl ?_
    obtain ⟨M_203, eM_203, hr⟩ := lt'_e hr
    refine g_callVv hx (c_Sl_removeAt l g σ S M p1 eM_203.symm) lk_X8_138 ar_Sl_removeAt (pS σ S M 24 (by decide)) (T := TX7) (N := 4) rfl (As := [.int p1]) (rest := []) rfl (Nat.le_of_ble_eq_true rfl) ⟨Nat.le_of_ble_eq_true rfl, Nat.le_of_ble_eq_true rfl⟩ ⟨rfl, rfl⟩ ⟨Nat.zero_le _, Nat.zero_le _⟩ dX8_takeAway_19 ?_
    refine g_aload_n hx 22 (i := 0) 0 dX8_takeAway_22 rfl rfl ?_
    refine g_get hx 23 (C := RX8) (T := TX8) (N := 15) 13 (.ref (S + 24)) (pS_o σ S M_203) rfl (by decide) rfl fl_X8_53 dX8_takeAway_23 ?_
    refine g_callVr hx (c_Sl_count l g σ S M_203 rfl) lk_X8_114 ar_Sl_count (pS σ S M_203 24 (by decide)) (T := TX7) (N := 4) rfl (As := []) (rest := []) rfl (Nat.le_of_ble_eq_true rfl) ⟨Nat.le_of_ble_eq_true rfl, Nat.le_of_ble_eq_true rfl⟩ ⟨rfl, rfl⟩ ⟨Nat.zero_le _, Nat.zero_le _⟩ dX8_takeAway_26 ?_
    exact g_iret hx hR 29 dX8_takeAway_29 ⟨by rw [← hr] <;> rfl, by rw [← hr] <;> rfl⟩
  · have hr := (if_pos hc_202).symm.trans hr
    refine g_bipush hx 11 (-2) dX8_takeAway_11 rfl ?_
    exact g_iret hx hR 13 dX8_takeAway_13 ⟨by rw [← hr] <;> rfl, by rw [← hr] <;> rfl⟩
def St_bringBack (M : StM) (p1 : Int32) : Int32 × StM := if St_hasFolder M p1 = 0 then (((-1), M)) else (lt' (lnget (M.2 3) p1) fun v2_205 => if v2_205 = (-1) then (((-2), M)) else ((v2_205, setL (setL (setL (setL M 3 (lnset (M.2 3) p1 (-1))) 5 (lnraise (M.2 5) v2_205 (-1))) 2 (lnset (M.2 2) p1 2)) 10 (lnadd 24 (M.2 10) p1))))
set_option maxRecDepth 100000 in
set_option maxHeartbeats 4000000 in
theorem c_St_bringBack (l : Launch) (g : Gl) (σ : Hp) (S : Nat) (M : StM) (p1 : Int32) {r : Int32 × StM} (hr : St_bringBack M p1 = r) : MG l g md_St_bringBack [.ref S, .int p1] (putSt σ S M) (rs (some (.int r.1)) (putSt σ S r.2)) := by
  refine MG.intro (by decide +kernel) (Nat.le_of_ble_eq_true rfl) (fun X hx hR _ => ?_)
  unfold St_bringBack at hr
  refine g_ls [0, 1] [(0, .ref S), (1, .int p1)] rfl ?_
  refine g_aload_n hx 0 (i := 0) 0 dX8_bringBack_0 rfl rfl ?_
  refine g_iload_n hx 1 (i := 1) 1 dX8_bringBack_1 rfl rfl ?_
  refine g_callVr hx (c_St_hasFolder l g σ S M p1 rfl) lk_X8_118 ar_St_hasFolder (pS_o σ S M) (T := TX8) (N := 15) rfl (As := [.int p1]) (rest := []) rfl (Nat.le_of_ble_eq_true rfl) ⟨Nat.le_of_ble_eq_true rfl, Nat.le_of_ble_eq_true rfl⟩ ⟨rfl, rfl⟩ ⟨Nat.zero_le _, Nat.zero_le _⟩ dX8_bringBack_2 ?_
  refine g_if_ne hx 5 10 dX8_bringBack_5 (by decide) (fun hc_204 => ?_) (fun hc_204 => ?_)
  · have hr := (if_neg hc_204).symm.trans hr
    refine g_aload_n hx 10 (i := 0) 0 dX8_bringBack_10 rfl rfl ?_
    refine g_get hx 11 (C := RX8) (T := TX8) (N := 15) 7 (.ref (S + 7)) (pS_o σ S M) rfl (by decide) rfl fl_X8_26 dX8_bringBack_11 ?_
    refine g_iload_n hx 14 (i := 1) 1 dX8_bringBack_14 rfl rfl ?_
    refine g_callVr hx (k_get l g (pS_l3 σ S M) (by decide) p1) lk_X8_96 ar_Ln_get (pS_l3 σ S M).1 (T := TX2) (N := 2) rfl (As := [.int p1]) (rest := []) rfl (Nat.le_of_ble_eq_true rfl) ⟨Nat.le_of_ble_eq_true rfl, Nat.le_of_ble_eq_true rfl⟩ ⟨rfl, rfl⟩ ⟨Nat.zero_le _, Nat.zero_le _⟩ dX8_bringBack_15 ?_
    obtain ⟨v2_205, ev2_205, hr⟩ := lt'_e hr
    refine g_nmi ev2_205 ?_
    refine g_istore_n hx 18 (i := 2) [(2, .int v2_205), (0, .ref S), (1, .int p1)] dX8_bringBack_18 rfl (by decide) rfl ?_
    refine g_iload_n hx 19 (i := 2) 0 dX8_bringBack_19 rfl rfl ?_
    refine g_iconst hx 20 (-1) dX8_bringBack_20 rfl ?_
    refine g_icmp_ne hx 21 27 dX8_bringBack_21 (by decide) (fun hc_206 => ?_) (fun hc_206 => ?_)
    · have hr := (if_neg hc_206).symm.trans hr
      refine g_aload_n hx 27 (i := 0) 1 dX8_bringBack_27 rfl rfl ?_
      refine g_get hx 28 (C := RX8) (T := TX8) (N := 15) 7 (.ref (S + 7)) (pS_o σ S M) rfl (by decide) rfl fl_X8_26 dX8_bringBack_28 ?_
      refine g_iload_n hx 31 (i := 1) 2 dX8_bringBack_31 rfl rfl ?_
      refine g_iconst hx 32 (-1) dX8_bringBack_32 rfl ?_
      refine g_callVv hx (k_set l g (pS_l3 σ S M) (by decide) p1 (-1)) lk_X8_141 ar_Ln_set (pS_l3 σ S M).1 (T := TX2) (N := 2) rfl (As := [.int p1, .int (-1)]) (rest := []) rfl (Nat.le_of_ble_eq_true rfl) ⟨Nat.le_of_ble_eq_true rfl, Nat.le_of_ble_eq_true rfl⟩ ⟨rfl, rfl⟩ ⟨Nat.zero_le _, Nat.zero_le _⟩ dX8_bringBack_33 ?_
      refine G.heap (pS_p3 σ S M (lnset (M.2 3) p1 (-1))) ?_
      refine g_aload_n hx 36 (i := 0) 1 dX8_bringBack_36 rfl rfl ?_
      refine g_get hx 37 (C := RX8) (T := TX8) (N := 15) 9 (.ref (S + 11)) (pS_o σ S (setL M 3 (lnset (M.2 3) p1 (-1)))) rfl (by decide) rfl fl_X8_32 dX8_bringBack_37 ?_
      refine g_iload_n hx 40 (i := 2) 0 dX8_bringBack_40 rfl rfl ?_
      refine g_iconst hx 41 (-1) dX8_bringBack_41 rfl ?_
      refine g_callVv hx (k_raise l g (pS_l5 σ S (setL M 3 (lnset (M.2 3) p1 (-1)))) (by decide) v2_205 (-1)) lk_X8_131 ar_Ln_raise (pS_l5 σ S (setL M 3 (lnset (M.2 3) p1 (-1)))).1 (T := TX2) (N := 2) rfl (As := [.int v2_205, .int (-1)]) (rest := []) rfl (Nat.le_of_ble_eq_true rfl) ⟨Nat.le_of_ble_eq_true rfl, Nat.le_of_ble_eq_true rfl⟩ ⟨rfl, rfl⟩ ⟨Nat.zero_le _, Nat.zero_le _⟩ dX8_bringBack_42 ?_
      refine G.heap (pS_p5 σ S (setL M 3 (lnset (M.2 3) p1 (-1))) (lnraise (M.2 5) v2_205 (-1))) ?_
      refine g_aload_n hx 45 (i := 0) 1 dX8_bringBack_45 rfl rfl ?_
      refine g_get hx 46 (C := RX8) (T := TX8) (N := 15) 6 (.ref (S + 5)) (pS_o σ S (setL (setL M 3 (lnset (M.2 3) p1 (-1))) 5 (lnraise (M.2 5) v2_205 (-1)))) rfl (by decide) rfl fl_X8_23 dX8_bringBack_46 ?_
      refine g_iload_n hx 49 (i := 1) 2 dX8_bringBack_49 rfl rfl ?_
      refine g_iconst hx 50 (2) dX8_bringBack_50 rfl ?_
      refine g_callVv hx (k_set l g (pS_l2 σ S (setL (setL M 3 (lnset (M.2 3) p1 (-1))) 5 (lnraise (M.2 5) v2_205 (-1)))) (by decide) p1 2) lk_X8_141 ar_Ln_set (pS_l2 σ S (setL (setL M 3 (lnset (M.2 3) p1 (-1))) 5 (lnraise (M.2 5) v2_205 (-1)))).1 (T := TX2) (N := 2) rfl (As := [.int p1, .int 2]) (rest := []) rfl (Nat.le_of_ble_eq_true rfl) ⟨Nat.le_of_ble_eq_true rfl, Nat.le_of_ble_eq_true rfl⟩ ⟨rfl, rfl⟩ ⟨Nat.zero_le _, Nat.zero_le _⟩ dX8_bringBack_51 ?_
      refine G.heap (pS_p2 σ S (setL (setL M 3 (lnset (M.2 3) p1 (-1))) 5 (lnraise (M.2 5) v2_205 (-1))) (lnset (M.2 2) p1 2)) ?_
      refine g_aload_n hx 54 (i := 0) 1 dX8_bringBack_54 rfl rfl ?_
      refine g_get hx 55 (C := RX8) (T := TX8) (N := 15) 12 (.ref (S + 22)) (pS_o σ S (setL (setL (setL M 3 (lnset (M.2 3) p1 (-1))) 5 (lnraise (M.2 5) v2_205 (-1))) 2 (lnset (M.2 2) p1 2))) rfl (by decide) rfl fl_X8_47 dX8_bringBack_55 ?_
      refine g_iload_n hx 58 (i := 1) 2 dX8_bringBack_58 rfl rfl ?_
      refine g_callVv hx (k_add l g (pS_l10 σ S (setL (setL (setL M 3 (lnset (M.2 3) p1 (-1))) 5 (lnraise (M.2 5) v2_205 (-1))) 2 (lnset (M.2 2) p1 2))) (by decide) p1) lk_X8_87 ar_Ln_add (pS_l10 σ S (setL (setL (setL M 3 (lnset (M.2 3) p1 (-1))) 5 (lnraise (M.2 5) v2_205 (-1))) 2 (lnset (M.2 2) p1 2))).1 (T := TX2) (N := 2) rfl (As := [.int p1]) (rest := []) rfl (Nat.le_of_ble_eq_true rfl) ⟨Nat.le_of_ble_eq_true rfl, Nat.le_of_ble_eq_true rfl⟩ ⟨rfl, rfl⟩ ⟨Nat.zero_le _, Nat.zero_le _⟩ dX8_bringBack_59 ?_
      refine G.heap (pS_p10 σ S (setL (setL (setL M 3 (lnset (M.2 3) p1 (-1))) 5 (lnraise (M.2 5) v2_205 (-1))) 2 (lnset (M.2 2) p1 2)) (lnadd 24 (M.2 10) p1)) ?_
      refine g_iload_n hx 62 (i := 2) 0 dX8_bringBack_62 rfl rfl ?_
      exact g_iret hx hR 63 dX8_bringBack_63 ⟨by rw [← hr] <;> rfl, by rw [← hr] <;> rfl⟩
    · have hr := (if_pos hc_206).symm.trans hr
      refine g_bipush hx 24 (-2) dX8_bringBack_24 rfl ?_
      exact g_iret hx hR 26 dX8_bringBack_26 ⟨by rw [← hr] <;> rfl, by rw [← hr] <;> rfl⟩
  · have hr := (if_pos hc_204).symm.trans hr
    refine g_iconst hx 8 (-1) dX8_bringBack_8 rfl ?_
    exact g_iret hx hR 9 dX8_bringBack_9 ⟨by rw [← hr] <;> rfl, by rw [← hr] <;> rfl⟩
def St_closeUntil (M : StM) (p1 p2 : Int32) : Int32 × StM := if St_hasFolder M p1 = 0 then (((-1), M)) else (lt' (lnget (M.2 1) p1) fun v3_208 => (v3_208, setL M 1 (lnset (M.2 1) p1 p2)))
set_option maxRecDepth 100000 in
set_option maxHeartbeats 4000000 in
theorem c_St_closeUntil (l : Launch) (g : Gl) (σ : Hp) (S : Nat) (M : StM) (p1 p2 : Int32) {r : Int32 × StM} (hr : St_closeUntil M p1 p2 = r) : MG l g md_St_closeUntil [.ref S, .int p1, .int p2] (putSt σ S M) (rs (some (.int r.1)) (putSt σ S r.2)) := by
  refine MG.intro (by decide +kernel) (Nat.le_of_ble_eq_true rfl) (fun X hx hR _ => ?_)
  unfold St_closeUntil at hr
  refine g_ls [0, 1, 2] [(0, .ref S), (1, .int p1), (2, .int p2)] rfl ?_
  refine g_aload_n hx 0 (i := 0) 0 dX8_closeUntil_0 rfl rfl ?_
  refine g_iload_n hx 1 (i := 1) 1 dX8_closeUntil_1 rfl rfl ?_
  refine g_callVr hx (c_St_hasFolder l g σ S M p1 rfl) lk_X8_118 ar_St_hasFolder (pS_o σ S M) (T := TX8) (N := 15) rfl (As := [.int p1]) (rest := []) rfl (Nat.le_of_ble_eq_true rfl) ⟨Nat.le_of_ble_eq_true rfl, Nat.le_of_ble_eq_true rfl⟩ ⟨rfl, rfl⟩ ⟨Nat.zero_le _, Nat.zero_le _⟩ dX8_closeUntil_2 ?_
  refine g_if_ne hx 5 10 dX8_closeUntil_5 (by decide) (fun hc_207 => ?_) (fun hc_207 => ?_)
  · have hr := (if_neg hc_207).symm.trans hr
    refine g_aload_n hx 10 (i := 0) 0 dX8_closeUntil_10 rfl rfl ?_
    refine g_get hx 11 (C := RX8) (T := TX8) (N := 15) 5 (.ref (S + 3)) (pS_o σ S M) rfl (by decide) rfl fl_X8_20 dX8_closeUntil_11 ?_
    refine g_iload_n hx 14 (i := 1) 1 dX8_closeUntil_14 rfl rfl ?_
    refine g_callVr hx (k_get l g (pS_l1 σ S M) (by decide) p1) lk_X8_96 ar_Ln_get (pS_l1 σ S M).1 (T := TX2) (N := 2) rfl (As := [.int p1]) (rest := []) rfl (Nat.le_of_ble_eq_true rfl) ⟨Nat.le_of_ble_eq_true rfl, Nat.le_of_ble_eq_true rfl⟩ ⟨rfl, rfl⟩ ⟨Nat.zero_le _, Nat.zero_le _⟩ dX8_closeUntil_15 ?_
    obtain ⟨v3_208, ev3_208, hr⟩ := lt'_e hr
    refine g_nmi ev3_208 ?_
    refine g_istore_n hx 18 (i := 3) [(3, .int v3_208), (0, .ref S), (1, .int p1), (2, .int p2)] dX8_closeUntil_18 rfl (by decide) rfl ?_
    refine g_aload_n hx 19 (i := 0) 1 dX8_closeUntil_19 rfl rfl ?_
    refine g_get hx 20 (C := RX8) (T := TX8) (N := 15) 5 (.ref (S + 3)) (pS_o σ S M) rfl (by decide) rfl fl_X8_20 dX8_closeUntil_20 ?_
    refine g_iload_n hx 23 (i := 1) 2 dX8_closeUntil_23 rfl rfl ?_
    refine g_iload_n hx 24 (i := 2) 3 dX8_closeUntil_24 rfl rfl ?_
    refine g_callVv hx (k_set l g (pS_l1 σ S M) (by decide) p1 p2) lk_X8_141 ar_Ln_set (pS_l1 σ S M).1 (T := TX2) (N := 2) rfl (As := [.int p1, .int p2]) (rest := []) rfl (Nat.le_of_ble_eq_true rfl) ⟨Nat.le_of_ble_eq_true rfl, Nat.le_of_ble_eq_true rfl⟩ ⟨rfl, rfl⟩ ⟨Nat.zero_le _, Nat.zero_le _⟩ dX8_closeUntil_25 ?_
    refine G.heap (pS_p1 σ S M (lnset (M.2 1) p1 p2)) ?_
    refine g_iload_n hx 28 (i := 3) 0 dX8_closeUntil_28 rfl rfl ?_
    exact g_iret hx hR 29 dX8_closeUntil_29 ⟨by rw [← hr] <;> rfl, by rw [← hr] <;> rfl⟩
  · have hr := (if_pos hc_207).symm.trans hr
    refine g_iconst hx 8 (-1) dX8_closeUntil_8 rfl ?_
    exact g_iret hx hR 9 dX8_closeUntil_9 ⟨by rw [← hr] <;> rfl, by rw [← hr] <;> rfl⟩
def St_swapNeighbours (M : StM) (p1 : Int32) : Option (Int32 × StM) := Option.bind (Rw_swapWrongPairs M p1) fun q_209 => lt' (q_209.1) fun v2_210 => some ((v2_210, setL q_209.2 15 (lnraise (q_209.2.2 15) 9 v2_210)))
set_option maxRecDepth 100000 in
set_option maxHeartbeats 4000000 in
theorem c_St_swapNeighbours (l : Launch) (g : Gl) (σ : Hp) (S : Nat) (M : StM) (p1 : Int32) {r : Int32 × StM} (hr : St_swapNeighbours M p1 = some r) : MG l g md_St_swapNeighbours [.ref S, .int p1] (putSt σ S M) (rs (some (.int r.1)) (putSt σ S r.2)) := by
  refine MG.intro (by decide +kernel) (Nat.le_of_ble_eq_true rfl) (fun X hx hR _ => ?_)
  unfold St_swapNeighbours at hr
  refine g_ls [0, 1] [(0, .ref S), (1, .int p1)] rfl ?_
  refine g_aload_n hx 0 (i := 0) 0 dX8_swapNeighbours_0 rfl rfl ?_
  refine g_get hx 1 (C := RX8) (T := TX8) (N := 15) 11 (.ref (S + 15)) (pS_o σ S M) rfl (by decide) rfl fl_X8_43 dX8_swapNeighbours_1 ?_
  refine g_iload_n hx 4 (i := 1) 1 dX8_swapNeighbours_4 rfl rfl ?_
  obtain ⟨q_209, eq_209, hr⟩ := bind_e hr
  refine g_callVr hx (c_Rw_swapWrongPairs l g σ S M p1 eq_209) lk_X8_144 ar_Rw_swapWrongPairs (pS σ S M 15 (by decide)) (T := TX5) (N := 4) rfl (As := [.int p1]) (rest := []) rfl (Nat.le_of_ble_eq_true rfl) ⟨Nat.le_of_ble_eq_true rfl, Nat.le_of_ble_eq_true rfl⟩ ⟨rfl, rfl⟩ ⟨Nat.zero_le _, Nat.zero_le _⟩ dX8_swapNeighbours_5 ?_
  obtain ⟨v2_210, ev2_210, hr⟩ := lt'_e hr
  refine g_nmi ev2_210 ?_
  refine g_istore_n hx 8 (i := 2) [(2, .int v2_210), (0, .ref S), (1, .int p1)] dX8_swapNeighbours_8 rfl (by decide) rfl ?_
  refine g_aload_n hx 9 (i := 0) 1 dX8_swapNeighbours_9 rfl rfl ?_
  refine g_get hx 10 (C := RX8) (T := TX8) (N := 15) 14 (.ref (S + 33)) (pS_o σ S q_209.2) rfl (by decide) rfl fl_X8_57 dX8_swapNeighbours_10 ?_
  refine g_bipush hx 13 (9) dX8_swapNeighbours_13 rfl ?_
  refine g_iload_n hx 15 (i := 2) 0 dX8_swapNeighbours_15 rfl rfl ?_
  refine g_callVv hx (k_raise l g (pS_l15 σ S q_209.2) (by decide) 9 v2_210) lk_X8_131 ar_Ln_raise (pS_l15 σ S q_209.2).1 (T := TX2) (N := 2) rfl (As := [.int 9, .int v2_210]) (rest := []) rfl (Nat.le_of_ble_eq_true rfl) ⟨Nat.le_of_ble_eq_true rfl, Nat.le_of_ble_eq_true rfl⟩ ⟨rfl, rfl⟩ ⟨Nat.zero_le _, Nat.zero_le _⟩ dX8_swapNeighbours_16 ?_
  refine G.heap (pS_p15 σ S q_209.2 (lnraise (q_209.2.2 15) 9 v2_210)) ?_
  refine g_iload_n hx 19 (i := 2) 0 dX8_swapNeighbours_19 rfl rfl ?_
  exact g_iret hx hR 20 dX8_swapNeighbours_20 ⟨by rw [← Option.some.inj hr] <;> rfl, by rw [← Option.some.inj hr] <;> rfl⟩
def St_refileTrolley_L2 : Nat → StM → Int32 → Option (StM)
  | 0, _, _ => none
  | n + 1, M, v1_211 => if nI (M.2 10).length ≤ v1_211 then (some (setL (setL M 15 (lnraise (M.2 15) 8 (nI (M.2 10).length))) 10 ([]))) else (lt' (lnget (M.2 10) v1_211) fun v2_213 => lt' (lnget (M.2 0) v2_213) fun v3_214 => Option.bind (Rw_halve M v3_214) fun q_215 => St_refileTrolley_L2 n (setL (setL (setL q_215.2 15 (lnraise (q_215.2.2 15) 7 (nI (q_215.2.2 8).length))) 7 (lnins 24 (q_215.2.2 7) (Rw_placeBehindMiss (setL q_215.2 15 (lnraise (q_215.2.2 15) 7 (nI (q_215.2.2 8).length))) v3_214) v2_213)) 2 (lnset (q_215.2.2 2) v2_213 0)) (v1_211 + 1))
def St_refileTrolley (M : StM) : Option (StM) := St_refileTrolley_L2 FU M 0
set_option maxRecDepth 100000 in
set_option maxHeartbeats 4000000 in
theorem w_St_refileTrolley_L2 {X : Cx} {l : Launch} {g : Gl} (hx : Ok X l g RX8 cX8_refileTrolley 4 md_St_refileTrolley.rm) {σ : Hp} {S : Nat} {r : StM} (hR : Ret X (rs none (putSt σ S r)) 0 0 (none)) : ∀ (n : Nat) (M : StM) (v1_211 : Int32), St_refileTrolley_L2 n M v1_211 = some r → G X (putSt σ S M) 0 0 2 [(0, .ref S), (1, .int v1_211)] [] := by
  intro n
  induction n with
  | zero =>
    intro M v1_211 hr
    rw [St_refileTrolley_L2] at hr
    cases hr
  | succ n ih =>
    intro M v1_211 hr
    rw [St_refileTrolley_L2] at hr
    refine g_iload_n hx 2 (i := 1) 1 dX8_refileTrolley_2 rfl rfl ?_
    refine g_aload_n hx 3 (i := 0) 0 dX8_refileTrolley_3 rfl rfl ?_
    refine g_get hx 4 (C := RX8) (T := TX8) (N := 15) 12 (.ref (S + 22)) (pS_o σ S M) rfl (by decide) rfl fl_X8_47 dX8_refileTrolley_4 ?_
    refine g_callVr hx (k_count l g (pS_l10 σ S M) (by decide) ) lk_X8_83 ar_Ln_count (pS_l10 σ S M).1 (T := TX2) (N := 2) rfl (As := []) (rest := [.int v1_211]) rfl (Nat.le_of_ble_eq_true rfl) ⟨Nat.le_of_ble_eq_true rfl, Nat.le_of_ble_eq_true rfl⟩ ⟨rfl, rfl⟩ ⟨Nat.zero_le _, Nat.zero_le _⟩ dX8_refileTrolley_7 ?_
    refine g_icmp_ge hx 10 93 dX8_refileTrolley_10 (by decide) (fun hc_212 => ?_) (fun hc_212 => ?_)
    · have hr := (if_pos hc_212).symm.trans hr
      refine g_aload_n hx 93 (i := 0) 0 dX8_refileTrolley_93 rfl rfl ?_
      refine g_get hx 94 (C := RX8) (T := TX8) (N := 15) 14 (.ref (S + 33)) (pS_o σ S M) rfl (by decide) rfl fl_X8_57 dX8_refileTrolley_94 ?_
      refine g_bipush hx 97 (8) dX8_refileTrolley_97 rfl ?_
      refine g_aload_n hx 99 (i := 0) 0 dX8_refileTrolley_99 rfl rfl ?_
      refine g_get hx 100 (C := RX8) (T := TX8) (N := 15) 12 (.ref (S + 22)) (pS_o σ S M) rfl (by decide) rfl fl_X8_47 dX8_refileTrolley_100 ?_
      refine g_callVr hx (k_count l g (pS_l10 σ S M) (by decide) ) lk_X8_83 ar_Ln_count (pS_l10 σ S M).1 (T := TX2) (N := 2) rfl (As := []) (rest := [.int 8, .ref (S + 33)]) rfl (Nat.le_of_ble_eq_true rfl) ⟨Nat.le_of_ble_eq_true rfl, Nat.le_of_ble_eq_true rfl⟩ ⟨rfl, rfl⟩ ⟨Nat.zero_le _, Nat.zero_le _⟩ dX8_refileTrolley_103 ?_
      refine g_callVv hx (k_raise l g (pS_l15 σ S M) (by decide) 8 (nI (M.2 10).length)) lk_X8_131 ar_Ln_raise (pS_l15 σ S M).1 (T := TX2) (N := 2) rfl (As := [.int 8, .int (nI (M.2 10).length)]) (rest := []) rfl (Nat.le_of_ble_eq_true rfl) ⟨Nat.le_of_ble_eq_true rfl, Nat.le_of_ble_eq_true rfl⟩ ⟨rfl, rfl⟩ ⟨Nat.zero_le _, Nat.zero_le _⟩ dX8_refileTrolley_106 ?_
      refine G.heap (pS_p15 σ S M (lnraise (M.2 15) 8 (nI (M.2 10).length))) ?_
      refine g_aload_n hx 109 (i := 0) 0 dX8_refileTrolley_109 rfl rfl ?_
      refine g_get hx 110 (C := RX8) (T := TX8) (N := 15) 12 (.ref (S + 22)) (pS_o σ S (setL M 15 (lnraise (M.2 15) 8 (nI (M.2 10).length)))) rfl (by decide) rfl fl_X8_47 dX8_refileTrolley_110 ?_
      refine g_callVv hx (k_clear l g (pS_l10 σ S (setL M 15 (lnraise (M.2 15) 8 (nI (M.2 10).length)))) (by decide)) lk_X8_73 ar_Ln_clear (pS_l10 σ S (setL M 15 (lnraise (M.2 15) 8 (nI (M.2 10).length)))).1 (T := TX2) (N := 2) rfl (As := []) (rest := []) rfl (Nat.le_of_ble_eq_true rfl) ⟨Nat.le_of_ble_eq_true rfl, Nat.le_of_ble_eq_true rfl⟩ ⟨rfl, rfl⟩ ⟨Nat.zero_le _, Nat.zero_le _⟩ dX8_refileTrolley_113 ?_
      refine G.heap (pS_p10 σ S (setL M 15 (lnraise (M.2 15) 8 (nI (M.2 10).length))) ([])) ?_
      exact g_vret hx hR 116 dX8_refileTrolley_116 ⟨rfl, by rw [← Option.some.inj hr] <;> rfl⟩
    · have hr := (if_neg hc_212).symm.trans hr
      refine g_aload_n hx 13 (i := 0) 0 dX8_refileTrolley_13 rfl rfl ?_
      refine g_get hx 14 (C := RX8) (T := TX8) (N := 15) 12 (.ref (S + 22)) (pS_o σ S M) rfl (by decide) rfl fl_X8_47 dX8_refileTrolley_14 ?_
      refine g_iload_n hx 17 (i := 1) 1 dX8_refileTrolley_17 rfl rfl ?_
      refine g_callVr hx (k_get l g (pS_l10 σ S M) (by decide) v1_211) lk_X8_96 ar_Ln_get (pS_l10 σ S M).1 (T := TX2) (N := 2) rfl (As := [.int v1_211]) (rest := []) rfl (Nat.le_of_ble_eq_true rfl) ⟨Nat.le_of_ble_eq_true rfl, Nat.le_of_ble_eq_true rfl⟩ ⟨rfl, rfl⟩ ⟨Nat.zero_le _, Nat.zero_le _⟩ dX8_refileTrolley_18 ?_
      obtain ⟨v2_213, ev2_213, hr⟩ := lt'_e hr
      refine g_nmi ev2_213 ?_
      refine g_istore_n hx 21 (i := 2) [(2, .int v2_213), (0, .ref S), (1, .int v1_211)] dX8_refileTrolley_21 rfl (by decide) rfl ?_
      refine g_aload_n hx 22 (i := 0) 1 dX8_refileTrolley_22 rfl rfl ?_
      refine g_get hx 23 (C := RX8) (T := TX8) (N := 15) 4 (.ref (S + 1)) (pS_o σ S M) rfl (by decide) rfl fl_X8_14 dX8_refileTrolley_23 ?_
      refine g_iload_n hx 26 (i := 2) 0 dX8_refileTrolley_26 rfl rfl ?_
      refine g_callVr hx (k_get l g (pS_l0 σ S M) (by decide) v2_213) lk_X8_96 ar_Ln_get (pS_l0 σ S M).1 (T := TX2) (N := 2) rfl (As := [.int v2_213]) (rest := []) rfl (Nat.le_of_ble_eq_true rfl) ⟨Nat.le_of_ble_eq_true rfl, Nat.le_of_ble_eq_true rfl⟩ ⟨rfl, rfl⟩ ⟨Nat.zero_le _, Nat.zero_le _⟩ dX8_refileTrolley_27 ?_
      obtain ⟨v3_214, ev3_214, hr⟩ := lt'_e hr
      refine g_nmi ev3_214 ?_
      refine g_istore_n hx 30 (i := 3) [(3, .int v3_214), (2, .int v2_213), (0, .ref S), (1, .int v1_211)] dX8_refileTrolley_30 rfl (by decide) rfl ?_
      refine g_aload_n hx 31 (i := 0) 2 dX8_refileTrolley_31 rfl rfl ?_
      refine g_get hx 32 (C := RX8) (T := TX8) (N := 15) 11 (.ref (S + 15)) (pS_o σ S M) rfl (by decide) rfl fl_X8_43 dX8_refileTrolley_32 ?_
      refine g_iload_n hx 35 (i := 3) 0 dX8_refileTrolley_35 rfl rfl ?_
      obtain ⟨q_215, eq_215, hr⟩ := bind_e hr
      refine g_callVr hx (c_Rw_halve l g σ S M v3_214 eq_215) lk_X8_166 ar_Rw_halve (pS σ S M 15 (by decide)) (T := TX5) (N := 4) rfl (As := [.int v3_214]) (rest := []) rfl (Nat.le_of_ble_eq_true rfl) ⟨Nat.le_of_ble_eq_true rfl, Nat.le_of_ble_eq_true rfl⟩ ⟨rfl, rfl⟩ ⟨Nat.zero_le _, Nat.zero_le _⟩ dX8_refileTrolley_36 ?_
      refine g_pop hx 39 dX8_refileTrolley_39 rfl ?_
      refine g_aload_n hx 40 (i := 0) 2 dX8_refileTrolley_40 rfl rfl ?_
      refine g_get hx 41 (C := RX8) (T := TX8) (N := 15) 14 (.ref (S + 33)) (pS_o σ S q_215.2) rfl (by decide) rfl fl_X8_57 dX8_refileTrolley_41 ?_
      refine g_bipush hx 44 (7) dX8_refileTrolley_44 rfl ?_
      refine g_aload_n hx 46 (i := 0) 2 dX8_refileTrolley_46 rfl rfl ?_
      refine g_get hx 47 (C := RX8) (T := TX8) (N := 15) 11 (.ref (S + 15)) (pS_o σ S q_215.2) rfl (by decide) rfl fl_X8_43 dX8_refileTrolley_47 ?_
      refine g_get hx 50 (C := RX5) (T := TX5) (N := 4) 1 (.ref (S + 18)) (pS σ S q_215.2 15 (by decide)) rfl (by decide) rfl fl_X8_169 dX8_refileTrolley_50 ?_
      refine g_callVr hx (k_count l g (pS_l8 σ S q_215.2) (by decide) ) lk_X8_83 ar_Ln_count (pS_l8 σ S q_215.2).1 (T := TX2) (N := 2) rfl (As := []) (rest := [.int 7, .ref (S + 33)]) rfl (Nat.le_of_ble_eq_true rfl) ⟨Nat.le_of_ble_eq_true rfl, Nat.le_of_ble_eq_true rfl⟩ ⟨rfl, rfl⟩ ⟨Nat.zero_le _, Nat.zero_le _⟩ dX8_refileTrolley_53 ?_
      refine g_callVv hx (k_raise l g (pS_l15 σ S q_215.2) (by decide) 7 (nI (q_215.2.2 8).length)) lk_X8_131 ar_Ln_raise (pS_l15 σ S q_215.2).1 (T := TX2) (N := 2) rfl (As := [.int 7, .int (nI (q_215.2.2 8).length)]) (rest := []) rfl (Nat.le_of_ble_eq_true rfl) ⟨Nat.le_of_ble_eq_true rfl, Nat.le_of_ble_eq_true rfl⟩ ⟨rfl, rfl⟩ ⟨Nat.zero_le _, Nat.zero_le _⟩ dX8_refileTrolley_56 ?_
      refine G.heap (pS_p15 σ S q_215.2 (lnraise (q_215.2.2 15) 7 (nI (q_215.2.2 8).length))) ?_
      refine g_aload_n hx 59 (i := 0) 2 dX8_refileTrolley_59 rfl rfl ?_
      refine g_get hx 60 (C := RX8) (T := TX8) (N := 15) 11 (.ref (S + 15)) (pS_o σ S (setL q_215.2 15 (lnraise (q_215.2.2 15) 7 (nI (q_215.2.2 8).length)))) rfl (by decide) rfl fl_X8_43 dX8_refileTrolley_60 ?_
      refine g_get hx 63 (C := RX5) (T := TX5) (N := 4) 0 (.ref (S + 16)) (pS σ S (setL q_215.2 15 (lnraise (q_215.2.2 15) 7 (nI (q_215.2.2 8).length))) 15 (by decide)) rfl (by decide) rfl fl_X8_79 dX8_refileTrolley_63 ?_
      refine g_aload_n hx 66 (i := 0) 2 dX8_refileTrolley_66 rfl rfl ?_
      refine g_get hx 67 (C := RX8) (T := TX8) (N := 15) 11 (.ref (S + 15)) (pS_o σ S (setL q_215.2 15 (lnraise (q_215.2.2 15) 7 (nI (q_215.2.2 8).length)))) rfl (by decide) rfl fl_X8_43 dX8_refileTrolley_67 ?_
      refine g_iload_n hx 70 (i := 3) 0 dX8_refileTrolley_70 rfl rfl ?_
      refine g_callVr hx (c_Rw_placeBehindMiss l g σ S (setL q_215.2 15 (lnraise (q_215.2.2 15) 7 (nI (q_215.2.2 8).length))) v3_214 rfl) lk_X8_172 ar_Rw_placeBehindMiss (pS σ S (setL q_215.2 15 (lnraise (q_215.2.2 15) 7 (nI (q_215.2.2 8).length))) 15 (by decide)) (T := TX5) (N := 4) rfl (As := [.int v3_214]) (rest := [.ref (S + 16)]) rfl (Nat.le_of_ble_eq_true rfl) ⟨Nat.le_of_ble_eq_true rfl, Nat.le_of_ble_eq_true rfl⟩ ⟨rfl, rfl⟩ ⟨Nat.zero_le _, Nat.zero_le _⟩ dX8_refileTrolley_71 ?_
      refine g_iload_n hx 74 (i := 2) 1 dX8_refileTrolley_74 rfl rfl ?_
      refine g_callVv hx (k_insert l g (pS_l7 σ S (setL q_215.2 15 (lnraise (q_215.2.2 15) 7 (nI (q_215.2.2 8).length)))) (by decide) (Rw_placeBehindMiss (setL q_215.2 15 (lnraise (q_215.2.2 15) 7 (nI (q_215.2.2 8).length))) v3_214) v2_213) lk_X8_175 ar_Ln_insert (pS_l7 σ S (setL q_215.2 15 (lnraise (q_215.2.2 15) 7 (nI (q_215.2.2 8).length)))).1 (T := TX2) (N := 2) rfl (As := [.int (Rw_placeBehindMiss (setL q_215.2 15 (lnraise (q_215.2.2 15) 7 (nI (q_215.2.2 8).length))) v3_214), .int v2_213]) (rest := []) rfl (Nat.le_of_ble_eq_true rfl) ⟨Nat.le_of_ble_eq_true rfl, Nat.le_of_ble_eq_true rfl⟩ ⟨rfl, rfl⟩ ⟨Nat.zero_le _, Nat.zero_le _⟩ dX8_refileTrolley_75 ?_
      refine G.heap (pS_p7 σ S (setL q_215.2 15 (lnraise (q_215.2.2 15) 7 (nI (q_215.2.2 8).length))) (lnins 24 (q_215.2.2 7) (Rw_placeBehindMiss (setL q_215.2 15 (lnraise (q_215.2.2 15) 7 (nI (q_215.2.2 8).length))) v3_214) v2_213)) ?_
      refine g_aload_n hx 78 (i := 0) 2 dX8_refileTrolley_78 rfl rfl ?_
      refine g_get hx 79 (C := RX8) (T := TX8) (N := 15) 6 (.ref (S + 5)) (pS_o σ S (setL (setL q_215.2 15 (lnraise (q_215.2.2 15) 7 (nI (q_215.2.2 8).length))) 7 (lnins 24 (q_215.2.2 7) (Rw_placeBehindMiss (setL q_215.2 15 (lnraise (q_215.2.2 15) 7 (nI (q_215.2.2 8).length))) v3_214) v2_213))) rfl (by decide) rfl fl_X8_23 dX8_refileTrolley_79 ?_
      refine g_iload_n hx 82 (i := 2) 1 dX8_refileTrolley_82 rfl rfl ?_
      refine g_iconst hx 83 (0) dX8_refileTrolley_83 rfl ?_
      refine g_callVv hx (k_set l g (pS_l2 σ S (setL (setL q_215.2 15 (lnraise (q_215.2.2 15) 7 (nI (q_215.2.2 8).length))) 7 (lnins 24 (q_215.2.2 7) (Rw_placeBehindMiss (setL q_215.2 15 (lnraise (q_215.2.2 15) 7 (nI (q_215.2.2 8).length))) v3_214) v2_213))) (by decide) v2_213 0) lk_X8_141 ar_Ln_set (pS_l2 σ S (setL (setL q_215.2 15 (lnraise (q_215.2.2 15) 7 (nI (q_215.2.2 8).length))) 7 (lnins 24 (q_215.2.2 7) (Rw_placeBehindMiss (setL q_215.2 15 (lnraise (q_215.2.2 15) 7 (nI (q_215.2.2 8).length))) v3_214) v2_213))).1 (T := TX2) (N := 2) rfl (As := [.int v2_213, .int 0]) (rest := []) rfl (Nat.le_of_ble_eq_true rfl) ⟨Nat.le_of_ble_eq_true rfl, Nat.le_of_ble_eq_true rfl⟩ ⟨rfl, rfl⟩ ⟨Nat.zero_le _, Nat.zero_le _⟩ dX8_refileTrolley_84 ?_
      refine G.heap (pS_p2 σ S (setL (setL q_215.2 15 (lnraise (q_215.2.2 15) 7 (nI (q_215.2.2 8).length))) 7 (lnins 24 (q_215.2.2 7) (Rw_placeBehindMiss (setL q_215.2 15 (lnraise (q_215.2.2 15) 7 (nI (q_215.2.2 8).length))) v3_214) v2_213)) (lnset (q_215.2.2 2) v2_213 0)) ?_
      refine g_iinc hx 87 (i := 1) 3 (v1_211 + 1) [(1, .int (v1_211 + 1)), (3, .int v3_214), (2, .int v2_213), (0, .ref S)] dX8_refileTrolley_87 rfl rfl (by decide) rfl ?_
      refine g_goto hx 90 2 dX8_refileTrolley_90 (by decide) ?_
      refine g_ls [3, 0] [(0, .ref S), (1, .int (v1_211 + 1))] rfl ?_
      exact ih (setL (setL (setL q_215.2 15 (lnraise (q_215.2.2 15) 7 (nI (q_215.2.2 8).length))) 7 (lnins 24 (q_215.2.2 7) (Rw_placeBehindMiss (setL q_215.2 15 (lnraise (q_215.2.2 15) 7 (nI (q_215.2.2 8).length))) v3_214) v2_213)) 2 (lnset (q_215.2.2 2) v2_213 0)) (v1_211 + 1) hr
set_option maxRecDepth 100000 in
set_option maxHeartbeats 4000000 in
theorem c_St_refileTrolley (l : Launch) (g : Gl) (σ : Hp) (S : Nat) (M : StM) {r : StM} (hr : St_refileTrolley M = some r) : MG l g md_St_refileTrolley [.ref S] (putSt σ S M) (rs none (putSt σ S r)) := by
  refine MG.intro (by decide +kernel) (Nat.le_of_ble_eq_true rfl) (fun X hx hR _ => ?_)
  unfold St_refileTrolley at hr
  refine g_ls [0] [(0, .ref S)] rfl ?_
  refine g_iconst hx 0 (0) dX8_refileTrolley_0 rfl ?_
  refine g_istore_n hx 1 (i := 1) [(1, .int 0), (0, .ref S)] dX8_refileTrolley_1 rfl (by decide) rfl ?_
  refine g_ls [1, 0] [(0, .ref S), (1, .int 0)] rfl ?_
  exact w_St_refileTrolley_L2 hx hR FU M 0 hr
def St_isFoundFor (M : StM) (p1 : Int32) : Option (Int32 × StM) := lt' (lnget (M.2 12) p1) fun v2_216 => if lnget (M.2 14) p1 < 2 then (Option.bind (Rw_halve M (lnget (M.2 0) v2_216)) fun q_218 => if q_218.1 = (-1) then (some ((0, setL (setL (setL q_218.2 15 (lnraise (q_218.2.2 15) 7 (nI (q_218.2.2 8).length))) 14 (lnraise (q_218.2.2 14) p1 1)) 15 (lnraise (lnraise (q_218.2.2 15) 7 (nI (q_218.2.2 8).length)) 5 1)))) else (some ((1, setL q_218.2 15 (lnraise (q_218.2.2 15) 7 (nI (q_218.2.2 8).length)))))) else (if lnpl (M.2 7) v2_216 = (-1) then (some ((0, setL M 15 (lnraise (M.2 15) 6 1)))) else (some ((1, setL M 15 (lnraise (M.2 15) 6 1)))))
set_option maxRecDepth 100000 in
set_option maxHeartbeats 4000000 in
theorem c_St_isFoundFor (l : Launch) (g : Gl) (σ : Hp) (S : Nat) (M : StM) (p1 : Int32) {r : Int32 × StM} (hr : St_isFoundFor M p1 = some r) : MG l g md_St_isFoundFor [.ref S, .int p1] (putSt σ S M) (rs (some (.int r.1)) (putSt σ S r.2)) := by
  refine MG.intro (by decide +kernel) (Nat.le_of_ble_eq_true rfl) (fun X hx hR _ => ?_)
  unfold St_isFoundFor at hr
  refine g_ls [0, 1] [(0, .ref S), (1, .int p1)] rfl ?_
  refine g_aload_n hx 0 (i := 0) 0 dX8_isFoundFor_0 rfl rfl ?_
  refine g_get hx 1 (C := RX8) (T := TX8) (N := 15) 13 (.ref (S + 24)) (pS_o σ S M) rfl (by decide) rfl fl_X8_53 dX8_isFoundFor_1 ?_
  refine g_get hx 4 (C := RX7) (T := TX7) (N := 4) 1 (.ref (S + 27)) (pS σ S M 24 (by decide)) rfl (by decide) rfl fl_X8_103 dX8_isFoundFor_4 ?_
  refine g_iload_n hx 7 (i := 1) 1 dX8_isFoundFor_7 rfl rfl ?_
  refine g_callVr hx (k_get l g (pS_l12 σ S M) (by decide) p1) lk_X8_96 ar_Ln_get (pS_l12 σ S M).1 (T := TX2) (N := 2) rfl (As := [.int p1]) (rest := []) rfl (Nat.le_of_ble_eq_true rfl) ⟨Nat.le_of_ble_eq_true rfl, Nat.le_of_ble_eq_true rfl⟩ ⟨rfl, rfl⟩ ⟨Nat.zero_le _, Nat.zero_le _⟩ dX8_isFoundFor_8 ?_
  obtain ⟨v2_216, ev2_216, hr⟩ := lt'_e hr
  refine g_nmi ev2_216 ?_
  refine g_istore_n hx 11 (i := 2) [(2, .int v2_216), (0, .ref S), (1, .int p1)] dX8_isFoundFor_11 rfl (by decide) rfl ?_
  refine g_aload_n hx 12 (i := 0) 1 dX8_isFoundFor_12 rfl rfl ?_
  refine g_get hx 13 (C := RX8) (T := TX8) (N := 15) 13 (.ref (S + 24)) (pS_o σ S M) rfl (by decide) rfl fl_X8_53 dX8_isFoundFor_13 ?_
  refine g_get hx 16 (C := RX7) (T := TX7) (N := 4) 3 (.ref (S + 31)) (pS σ S M 24 (by decide)) rfl (by decide) rfl fl_X8_178 dX8_isFoundFor_16 ?_
  refine g_iload_n hx 19 (i := 1) 2 dX8_isFoundFor_19 rfl rfl ?_
  refine g_callVr hx (k_get l g (pS_l14 σ S M) (by decide) p1) lk_X8_96 ar_Ln_get (pS_l14 σ S M).1 (T := TX2) (N := 2) rfl (As := [.int p1]) (rest := []) rfl (Nat.le_of_ble_eq_true rfl) ⟨Nat.le_of_ble_eq_true rfl, Nat.le_of_ble_eq_true rfl⟩ ⟨rfl, rfl⟩ ⟨Nat.zero_le _, Nat.zero_le _⟩ dX8_isFoundFor_20 ?_
  refine g_iconst hx 23 (2) dX8_isFoundFor_23 rfl ?_
  refine g_icmp_lt hx 24 58 dX8_isFoundFor_24 (by decide) (fun hc_217 => ?_) (fun hc_217 => ?_)
  · have hr := (if_pos hc_217).symm.trans hr
    refine g_aload_n hx 58 (i := 0) 1 dX8_isFoundFor_58 rfl rfl ?_
    refine g_get hx 59 (C := RX8) (T := TX8) (N := 15) 11 (.ref (S + 15)) (pS_o σ S M) rfl (by decide) rfl fl_X8_43 dX8_isFoundFor_59 ?_
    refine g_aload_n hx 62 (i := 0) 1 dX8_isFoundFor_62 rfl rfl ?_
    refine g_get hx 63 (C := RX8) (T := TX8) (N := 15) 4 (.ref (S + 1)) (pS_o σ S M) rfl (by decide) rfl fl_X8_14 dX8_isFoundFor_63 ?_
    refine g_iload_n hx 66 (i := 2) 0 dX8_isFoundFor_66 rfl rfl ?_
    refine g_callVr hx (k_get l g (pS_l0 σ S M) (by decide) v2_216) lk_X8_96 ar_Ln_get (pS_l0 σ S M).1 (T := TX2) (N := 2) rfl (As := [.int v2_216]) (rest := [.ref (S + 15)]) rfl (Nat.le_of_ble_eq_true rfl) ⟨Nat.le_of_ble_eq_true rfl, Nat.le_of_ble_eq_true rfl⟩ ⟨rfl, rfl⟩ ⟨Nat.zero_le _, Nat.zero_le _⟩ dX8_isFoundFor_67 ?_
    obtain ⟨q_218, eq_218, hr⟩ := bind_e hr
    refine g_callVr hx (c_Rw_halve l g σ S M (lnget (M.2 0) v2_216) eq_218) lk_X8_166 ar_Rw_halve (pS σ S M 15 (by decide)) (T := TX5) (N := 4) rfl (As := [.int (lnget (M.2 0) v2_216)]) (rest := []) rfl (Nat.le_of_ble_eq_true rfl) ⟨Nat.le_of_ble_eq_true rfl, Nat.le_of_ble_eq_true rfl⟩ ⟨rfl, rfl⟩ ⟨Nat.zero_le _, Nat.zero_le _⟩ dX8_isFoundFor_70 ?_
    refine g_iconst hx 73 (-1) dX8_isFoundFor_73 rfl ?_
    refine g_icmp_eq hx 74 81 dX8_isFoundFor_74 (by decide) (fun hc_219 => ?_) (fun hc_219 => ?_)
    · have hr := (if_pos hc_219).symm.trans hr
      refine g_iconst hx 81 (0) dX8_isFoundFor_81 rfl ?_
      refine g_istore_n hx 82 (i := 3) [(3, .int 0), (2, .int v2_216), (0, .ref S), (1, .int p1)] dX8_isFoundFor_82 rfl (by decide) rfl ?_
      refine g_aload_n hx 83 (i := 0) 2 dX8_isFoundFor_83 rfl rfl ?_
      refine g_get hx 84 (C := RX8) (T := TX8) (N := 15) 14 (.ref (S + 33)) (pS_o σ S q_218.2) rfl (by decide) rfl fl_X8_57 dX8_isFoundFor_84 ?_
      refine g_bipush hx 87 (7) dX8_isFoundFor_87 rfl ?_
      refine g_aload_n hx 89 (i := 0) 2 dX8_isFoundFor_89 rfl rfl ?_
      refine g_get hx 90 (C := RX8) (T := TX8) (N := 15) 11 (.ref (S + 15)) (pS_o σ S q_218.2) rfl (by decide) rfl fl_X8_43 dX8_isFoundFor_90 ?_
      refine g_get hx 93 (C := RX5) (T := TX5) (N := 4) 1 (.ref (S + 18)) (pS σ S q_218.2 15 (by decide)) rfl (by decide) rfl fl_X8_169 dX8_isFoundFor_93 ?_
      refine g_callVr hx (k_count l g (pS_l8 σ S q_218.2) (by decide) ) lk_X8_83 ar_Ln_count (pS_l8 σ S q_218.2).1 (T := TX2) (N := 2) rfl (As := []) (rest := [.int 7, .ref (S + 33)]) rfl (Nat.le_of_ble_eq_true rfl) ⟨Nat.le_of_ble_eq_true rfl, Nat.le_of_ble_eq_true rfl⟩ ⟨rfl, rfl⟩ ⟨Nat.zero_le _, Nat.zero_le _⟩ dX8_isFoundFor_96 ?_
      refine g_callVv hx (k_raise l g (pS_l15 σ S q_218.2) (by decide) 7 (nI (q_218.2.2 8).length)) lk_X8_131 ar_Ln_raise (pS_l15 σ S q_218.2).1 (T := TX2) (N := 2) rfl (As := [.int 7, .int (nI (q_218.2.2 8).length)]) (rest := []) rfl (Nat.le_of_ble_eq_true rfl) ⟨Nat.le_of_ble_eq_true rfl, Nat.le_of_ble_eq_true rfl⟩ ⟨rfl, rfl⟩ ⟨Nat.zero_le _, Nat.zero_le _⟩ dX8_isFoundFor_99 ?_
      refine G.heap (pS_p15 σ S q_218.2 (lnraise (q_218.2.2 15) 7 (nI (q_218.2.2 8).length))) ?_
      refine g_iload_n hx 102 (i := 3) 0 dX8_isFoundFor_102 rfl rfl ?_
      refine g_if_ne hx 103 127 dX8_isFoundFor_103 (by decide) (fun hc_220 => ?_) (fun hc_220 => ?_)
      · exact absurd (by decide) hc_220
      · refine g_aload_n hx 106 (i := 0) 2 dX8_isFoundFor_106 rfl rfl ?_
        refine g_get hx 107 (C := RX8) (T := TX8) (N := 15) 13 (.ref (S + 24)) (pS_o σ S (setL q_218.2 15 (lnraise (q_218.2.2 15) 7 (nI (q_218.2.2 8).length)))) rfl (by decide) rfl fl_X8_53 dX8_isFoundFor_107 ?_
        refine g_get hx 110 (C := RX7) (T := TX7) (N := 4) 3 (.ref (S + 31)) (pS σ S (setL q_218.2 15 (lnraise (q_218.2.2 15) 7 (nI (q_218.2.2 8).length))) 24 (by decide)) rfl (by decide) rfl fl_X8_178 dX8_isFoundFor_110 ?_
        refine g_iload_n hx 113 (i := 1) 3 dX8_isFoundFor_113 rfl rfl ?_
        refine g_iconst hx 114 (1) dX8_isFoundFor_114 rfl ?_
        refine g_callVv hx (k_raise l g (pS_l14 σ S (setL q_218.2 15 (lnraise (q_218.2.2 15) 7 (nI (q_218.2.2 8).length)))) (by decide) p1 1) lk_X8_131 ar_Ln_raise (pS_l14 σ S (setL q_218.2 15 (lnraise (q_218.2.2 15) 7 (nI (q_218.2.2 8).length)))).1 (T := TX2) (N := 2) rfl (As := [.int p1, .int 1]) (rest := []) rfl (Nat.le_of_ble_eq_true rfl) ⟨Nat.le_of_ble_eq_true rfl, Nat.le_of_ble_eq_true rfl⟩ ⟨rfl, rfl⟩ ⟨Nat.zero_le _, Nat.zero_le _⟩ dX8_isFoundFor_115 ?_
        refine G.heap (pS_p14 σ S (setL q_218.2 15 (lnraise (q_218.2.2 15) 7 (nI (q_218.2.2 8).length))) (lnraise (q_218.2.2 14) p1 1)) ?_
        refine g_aload_n hx 118 (i := 0) 2 dX8_isFoundFor_118 rfl rfl ?_
        refine g_get hx 119 (C := RX8) (T := TX8) (N := 15) 14 (.ref (S + 33)) (pS_o σ S (setL (setL q_218.2 15 (lnraise (q_218.2.2 15) 7 (nI (q_218.2.2 8).length))) 14 (lnraise (q_218.2.2 14) p1 1))) rfl (by decide) rfl fl_X8_57 dX8_isFoundFor_119 ?_
        refine g_iconst hx 122 (5) dX8_isFoundFor_122 rfl ?_
        refine g_iconst hx 123 (1) dX8_isFoundFor_123 rfl ?_
        refine g_callVv hx (k_raise l g (pS_l15 σ S (setL (setL q_218.2 15 (lnraise (q_218.2.2 15) 7 (nI (q_218.2.2 8).length))) 14 (lnraise (q_218.2.2 14) p1 1))) (by decide) 5 1) lk_X8_131 ar_Ln_raise (pS_l15 σ S (setL (setL q_218.2 15 (lnraise (q_218.2.2 15) 7 (nI (q_218.2.2 8).length))) 14 (lnraise (q_218.2.2 14) p1 1))).1 (T := TX2) (N := 2) rfl (As := [.int 5, .int 1]) (rest := []) rfl (Nat.le_of_ble_eq_true rfl) ⟨Nat.le_of_ble_eq_true rfl, Nat.le_of_ble_eq_true rfl⟩ ⟨rfl, rfl⟩ ⟨Nat.zero_le _, Nat.zero_le _⟩ dX8_isFoundFor_124 ?_
        refine G.heap (pS_p15 σ S (setL (setL q_218.2 15 (lnraise (q_218.2.2 15) 7 (nI (q_218.2.2 8).length))) 14 (lnraise (q_218.2.2 14) p1 1)) (lnraise (lnraise (q_218.2.2 15) 7 (nI (q_218.2.2 8).length)) 5 1)) ?_
        refine g_iload_n hx 127 (i := 3) 0 dX8_isFoundFor_127 rfl rfl ?_
        exact g_zret hx hR 128 (Or.inl rfl) dX8_isFoundFor_128 ⟨by rw [← Option.some.inj hr] <;> rfl, by rw [← Option.some.inj hr] <;> rfl⟩
    · have hr := (if_neg hc_219).symm.trans hr
      refine g_iconst hx 77 (1) dX8_isFoundFor_77 rfl ?_
      refine g_goto hx 78 82 dX8_isFoundFor_78 (by decide) ?_
      refine g_istore_n hx 82 (i := 3) [(3, .int 1), (2, .int v2_216), (0, .ref S), (1, .int p1)] dX8_isFoundFor_82 rfl (by decide) rfl ?_
      refine g_aload_n hx 83 (i := 0) 2 dX8_isFoundFor_83 rfl rfl ?_
      refine g_get hx 84 (C := RX8) (T := TX8) (N := 15) 14 (.ref (S + 33)) (pS_o σ S q_218.2) rfl (by decide) rfl fl_X8_57 dX8_isFoundFor_84 ?_
      refine g_bipush hx 87 (7) dX8_isFoundFor_87 rfl ?_
      refine g_aload_n hx 89 (i := 0) 2 dX8_isFoundFor_89 rfl rfl ?_
      refine g_get hx 90 (C := RX8) (T := TX8) (N := 15) 11 (.ref (S + 15)) (pS_o σ S q_218.2) rfl (by decide) rfl fl_X8_43 dX8_isFoundFor_90 ?_
      refine g_get hx 93 (C := RX5) (T := TX5) (N := 4) 1 (.ref (S + 18)) (pS σ S q_218.2 15 (by decide)) rfl (by decide) rfl fl_X8_169 dX8_isFoundFor_93 ?_
      refine g_callVr hx (k_count l g (pS_l8 σ S q_218.2) (by decide) ) lk_X8_83 ar_Ln_count (pS_l8 σ S q_218.2).1 (T := TX2) (N := 2) rfl (As := []) (rest := [.int 7, .ref (S + 33)]) rfl (Nat.le_of_ble_eq_true rfl) ⟨Nat.le_of_ble_eq_true rfl, Nat.le_of_ble_eq_true rfl⟩ ⟨rfl, rfl⟩ ⟨Nat.zero_le _, Nat.zero_le _⟩ dX8_isFoundFor_96 ?_
      refine g_callVv hx (k_raise l g (pS_l15 σ S q_218.2) (by decide) 7 (nI (q_218.2.2 8).length)) lk_X8_131 ar_Ln_raise (pS_l15 σ S q_218.2).1 (T := TX2) (N := 2) rfl (As := [.int 7, .int (nI (q_218.2.2 8).length)]) (rest := []) rfl (Nat.le_of_ble_eq_true rfl) ⟨Nat.le_of_ble_eq_true rfl, Nat.le_of_ble_eq_true rfl⟩ ⟨rfl, rfl⟩ ⟨Nat.zero_le _, Nat.zero_le _⟩ dX8_isFoundFor_99 ?_
      refine G.heap (pS_p15 σ S q_218.2 (lnraise (q_218.2.2 15) 7 (nI (q_218.2.2 8).length))) ?_
      refine g_iload_n hx 102 (i := 3) 0 dX8_isFoundFor_102 rfl rfl ?_
      refine g_if_ne hx 103 127 dX8_isFoundFor_103 (by decide) (fun hc_221 => ?_) (fun hc_221 => ?_)
      · refine g_iload_n hx 127 (i := 3) 0 dX8_isFoundFor_127 rfl rfl ?_
        exact g_zret hx hR 128 (Or.inr rfl) dX8_isFoundFor_128 ⟨by rw [← Option.some.inj hr] <;> rfl, by rw [← Option.some.inj hr] <;> rfl⟩
      · exact absurd hc_221 (by decide)
  · have hr := (if_neg hc_217).symm.trans hr
    refine g_aload_n hx 27 (i := 0) 1 dX8_isFoundFor_27 rfl rfl ?_
    refine g_get hx 28 (C := RX8) (T := TX8) (N := 15) 14 (.ref (S + 33)) (pS_o σ S M) rfl (by decide) rfl fl_X8_57 dX8_isFoundFor_28 ?_
    refine g_bipush hx 31 (6) dX8_isFoundFor_31 rfl ?_
    refine g_iconst hx 33 (1) dX8_isFoundFor_33 rfl ?_
    refine g_callVv hx (k_raise l g (pS_l15 σ S M) (by decide) 6 1) lk_X8_131 ar_Ln_raise (pS_l15 σ S M).1 (T := TX2) (N := 2) rfl (As := [.int 6, .int 1]) (rest := []) rfl (Nat.le_of_ble_eq_true rfl) ⟨Nat.le_of_ble_eq_true rfl, Nat.le_of_ble_eq_true rfl⟩ ⟨rfl, rfl⟩ ⟨Nat.zero_le _, Nat.zero_le _⟩ dX8_isFoundFor_34 ?_
    refine G.heap (pS_p15 σ S M (lnraise (M.2 15) 6 1)) ?_
    refine g_aload_n hx 37 (i := 0) 1 dX8_isFoundFor_37 rfl rfl ?_
    refine g_get hx 38 (C := RX8) (T := TX8) (N := 15) 11 (.ref (S + 15)) (pS_o σ S (setL M 15 (lnraise (M.2 15) 6 1))) rfl (by decide) rfl fl_X8_43 dX8_isFoundFor_38 ?_
    refine g_get hx 41 (C := RX5) (T := TX5) (N := 4) 0 (.ref (S + 16)) (pS σ S (setL M 15 (lnraise (M.2 15) 6 1)) 15 (by decide)) rfl (by decide) rfl fl_X8_79 dX8_isFoundFor_41 ?_
    refine g_iload_n hx 44 (i := 2) 0 dX8_isFoundFor_44 rfl rfl ?_
    refine g_callVr hx (k_placeOf l g (pS_l7 σ S (setL M 15 (lnraise (M.2 15) 6 1))) (by decide) v2_216) lk_X8_100 ar_Ln_placeOf (pS_l7 σ S (setL M 15 (lnraise (M.2 15) 6 1))).1 (T := TX2) (N := 2) rfl (As := [.int v2_216]) (rest := []) rfl (Nat.le_of_ble_eq_true rfl) ⟨Nat.le_of_ble_eq_true rfl, Nat.le_of_ble_eq_true rfl⟩ ⟨rfl, rfl⟩ ⟨Nat.zero_le _, Nat.zero_le _⟩ dX8_isFoundFor_45 ?_
    refine g_iconst hx 48 (-1) dX8_isFoundFor_48 rfl ?_
    refine g_icmp_eq hx 49 56 dX8_isFoundFor_49 (by decide) (fun hc_222 => ?_) (fun hc_222 => ?_)
    · have hr := (if_pos hc_222).symm.trans hr
      refine g_iconst hx 56 (0) dX8_isFoundFor_56 rfl ?_
      exact g_zret hx hR 57 (Or.inl rfl) dX8_isFoundFor_57 ⟨by rw [← Option.some.inj hr] <;> rfl, by rw [← Option.some.inj hr] <;> rfl⟩
    · have hr := (if_neg hc_222).symm.trans hr
      refine g_iconst hx 52 (1) dX8_isFoundFor_52 rfl ?_
      refine g_goto hx 53 57 dX8_isFoundFor_53 (by decide) ?_
      exact g_zret hx hR 57 (Or.inr rfl) dX8_isFoundFor_57 ⟨by rw [← Option.some.inj hr] <;> rfl, by rw [← Option.some.inj hr] <;> rfl⟩
def St_serve (M : StM) (p1 : Int32) : StM := lt' (lnget (M.2 12) p1) fun v2_223 => lt' (lnget (M.2 11) p1) fun v3_224 => lt' (Sl_removeAt (setL (setL (setL (setL (setL (setL (setL (setL M 7 (lnrem (M.2 7) (lnpl (M.2 7) v2_223))) 2 (lnset (M.2 2) v2_223 1)) 3 (lnset (M.2 3) v2_223 v3_224)) 4 (lnraise (M.2 4) v2_223 1)) 5 (lnraise (M.2 5) v3_224 1)) 6 (lnraise (M.2 6) v3_224 1)) 15 (lnraise (M.2 15) 4 1)) 15 (lnraise (lnraise (M.2 15) 4 1) 10 ((M.1 0) - (lnget (M.2 13) p1)))) p1) fun M_225 => M_225
set_option maxRecDepth 100000 in
set_option maxHeartbeats 4000000 in
theorem c_St_serve (l : Launch) (g : Gl) (σ : Hp) (S : Nat) (M : StM) (p1 : Int32) {r : StM} (hr : St_serve M p1 = r) : MG l g md_St_serve [.ref S, .int p1] (putSt σ S M) (rs none (putSt σ S r)) := by
  refine MG.intro (by decide +kernel) (Nat.le_of_ble_eq_true rfl) (fun X hx hR _ => ?_)
  unfold St_serve at hr
  refine g_ls [0, 1] [(0, .ref S), (1, .int p1)] rfl ?_
  refine g_aload_n hx 0 (i := 0) 0 dX8_serve_0 rfl rfl ?_
  refine g_get hx 1 (C := RX8) (T := TX8) (N := 15) 13 (.ref (S + 24)) (pS_o σ S M) rfl (by decide) rfl fl_X8_53 dX8_serve_1 ?_
  refine g_get hx 4 (C := RX7) (T := TX7) (N := 4) 1 (.ref (S + 27)) (pS σ S M 24 (by decide)) rfl (by decide) rfl fl_X8_103 dX8_serve_4 ?_
  refine g_iload_n hx 7 (i := 1) 1 dX8_serve_7 rfl rfl ?_
  refine g_callVr hx (k_get l g (pS_l12 σ S M) (by decide) p1) lk_X8_96 ar_Ln_get (pS_l12 σ S M).1 (T := TX2) (N := 2) rfl (As := [.int p1]) (rest := []) rfl (Nat.le_of_ble_eq_true rfl) ⟨Nat.le_of_ble_eq_true rfl, Nat.le_of_ble_eq_true rfl⟩ ⟨rfl, rfl⟩ ⟨Nat.zero_le _, Nat.zero_le _⟩ dX8_serve_8 ?_
  obtain ⟨v2_223, ev2_223, hr⟩ := lt'_e hr
  refine g_nmi ev2_223 ?_
  refine g_istore_n hx 11 (i := 2) [(2, .int v2_223), (0, .ref S), (1, .int p1)] dX8_serve_11 rfl (by decide) rfl ?_
  refine g_aload_n hx 12 (i := 0) 1 dX8_serve_12 rfl rfl ?_
  refine g_get hx 13 (C := RX8) (T := TX8) (N := 15) 13 (.ref (S + 24)) (pS_o σ S M) rfl (by decide) rfl fl_X8_53 dX8_serve_13 ?_
  refine g_get hx 16 (C := RX7) (T := TX7) (N := 4) 0 (.ref (S + 25)) (pS σ S M 24 (by decide)) rfl (by decide) rfl fl_X8_108 dX8_serve_16 ?_
  refine g_iload_n hx 19 (i := 1) 2 dX8_serve_19 rfl rfl ?_
  refine g_callVr hx (k_get l g (pS_l11 σ S M) (by decide) p1) lk_X8_96 ar_Ln_get (pS_l11 σ S M).1 (T := TX2) (N := 2) rfl (As := [.int p1]) (rest := []) rfl (Nat.le_of_ble_eq_true rfl) ⟨Nat.le_of_ble_eq_true rfl, Nat.le_of_ble_eq_true rfl⟩ ⟨rfl, rfl⟩ ⟨Nat.zero_le _, Nat.zero_le _⟩ dX8_serve_20 ?_
  obtain ⟨v3_224, ev3_224, hr⟩ := lt'_e hr
  refine g_nmi ev3_224 ?_
  refine g_istore_n hx 23 (i := 3) [(3, .int v3_224), (2, .int v2_223), (0, .ref S), (1, .int p1)] dX8_serve_23 rfl (by decide) rfl ?_
  refine g_aload_n hx 24 (i := 0) 2 dX8_serve_24 rfl rfl ?_
  refine g_get hx 25 (C := RX8) (T := TX8) (N := 15) 11 (.ref (S + 15)) (pS_o σ S M) rfl (by decide) rfl fl_X8_43 dX8_serve_25 ?_
  refine g_get hx 28 (C := RX5) (T := TX5) (N := 4) 0 (.ref (S + 16)) (pS σ S M 15 (by decide)) rfl (by decide) rfl fl_X8_79 dX8_serve_28 ?_
  refine g_aload_n hx 31 (i := 0) 2 dX8_serve_31 rfl rfl ?_
  refine g_get hx 32 (C := RX8) (T := TX8) (N := 15) 11 (.ref (S + 15)) (pS_o σ S M) rfl (by decide) rfl fl_X8_43 dX8_serve_32 ?_
  refine g_get hx 35 (C := RX5) (T := TX5) (N := 4) 0 (.ref (S + 16)) (pS σ S M 15 (by decide)) rfl (by decide) rfl fl_X8_79 dX8_serve_35 ?_
  refine g_iload_n hx 38 (i := 2) 1 dX8_serve_38 rfl rfl ?_
  refine g_callVr hx (k_placeOf l g (pS_l7 σ S M) (by decide) v2_223) lk_X8_100 ar_Ln_placeOf (pS_l7 σ S M).1 (T := TX2) (N := 2) rfl (As := [.int v2_223]) (rest := [.ref (S + 16)]) rfl (Nat.le_of_ble_eq_true rfl) ⟨Nat.le_of_ble_eq_true rfl, Nat.le_of_ble_eq_true rfl⟩ ⟨rfl, rfl⟩ ⟨Nat.zero_le _, Nat.zero_le _⟩ dX8_serve_39 ?_
  refine g_callVv hx (k_removeAt l g (pS_l7 σ S M) (by decide) (lnpl (M.2 7) v2_223)) lk_X8_181 ar_Ln_removeAt (pS_l7 σ S M).1 (T := TX2) (N := 2) rfl (As := [.int (lnpl (M.2 7) v2_223)]) (rest := []) rfl (Nat.le_of_ble_eq_true rfl) ⟨Nat.le_of_ble_eq_true rfl, Nat.le_of_ble_eq_true rfl⟩ ⟨rfl, rfl⟩ ⟨Nat.zero_le _, Nat.zero_le _⟩ dX8_serve_42 ?_
  refine G.heap (pS_p7 σ S M (lnrem (M.2 7) (lnpl (M.2 7) v2_223))) ?_
  refine g_aload_n hx 45 (i := 0) 2 dX8_serve_45 rfl rfl ?_
  refine g_get hx 46 (C := RX8) (T := TX8) (N := 15) 6 (.ref (S + 5)) (pS_o σ S (setL M 7 (lnrem (M.2 7) (lnpl (M.2 7) v2_223)))) rfl (by decide) rfl fl_X8_23 dX8_serve_46 ?_
  refine g_iload_n hx 49 (i := 2) 1 dX8_serve_49 rfl rfl ?_
  refine g_iconst hx 50 (1) dX8_serve_50 rfl ?_
  refine g_callVv hx (k_set l g (pS_l2 σ S (setL M 7 (lnrem (M.2 7) (lnpl (M.2 7) v2_223)))) (by decide) v2_223 1) lk_X8_141 ar_Ln_set (pS_l2 σ S (setL M 7 (lnrem (M.2 7) (lnpl (M.2 7) v2_223)))).1 (T := TX2) (N := 2) rfl (As := [.int v2_223, .int 1]) (rest := []) rfl (Nat.le_of_ble_eq_true rfl) ⟨Nat.le_of_ble_eq_true rfl, Nat.le_of_ble_eq_true rfl⟩ ⟨rfl, rfl⟩ ⟨Nat.zero_le _, Nat.zero_le _⟩ dX8_serve_51 ?_
  refine G.heap (pS_p2 σ S (setL M 7 (lnrem (M.2 7) (lnpl (M.2 7) v2_223))) (lnset (M.2 2) v2_223 1)) ?_
  refine g_aload_n hx 54 (i := 0) 2 dX8_serve_54 rfl rfl ?_
  refine g_get hx 55 (C := RX8) (T := TX8) (N := 15) 7 (.ref (S + 7)) (pS_o σ S (setL (setL M 7 (lnrem (M.2 7) (lnpl (M.2 7) v2_223))) 2 (lnset (M.2 2) v2_223 1))) rfl (by decide) rfl fl_X8_26 dX8_serve_55 ?_
  refine g_iload_n hx 58 (i := 2) 1 dX8_serve_58 rfl rfl ?_
  refine g_iload_n hx 59 (i := 3) 0 dX8_serve_59 rfl rfl ?_
  refine g_callVv hx (k_set l g (pS_l3 σ S (setL (setL M 7 (lnrem (M.2 7) (lnpl (M.2 7) v2_223))) 2 (lnset (M.2 2) v2_223 1))) (by decide) v2_223 v3_224) lk_X8_141 ar_Ln_set (pS_l3 σ S (setL (setL M 7 (lnrem (M.2 7) (lnpl (M.2 7) v2_223))) 2 (lnset (M.2 2) v2_223 1))).1 (T := TX2) (N := 2) rfl (As := [.int v2_223, .int v3_224]) (rest := []) rfl (Nat.le_of_ble_eq_true rfl) ⟨Nat.le_of_ble_eq_true rfl, Nat.le_of_ble_eq_true rfl⟩ ⟨rfl, rfl⟩ ⟨Nat.zero_le _, Nat.zero_le _⟩ dX8_serve_60 ?_
  refine G.heap (pS_p3 σ S (setL (setL M 7 (lnrem (M.2 7) (lnpl (M.2 7) v2_223))) 2 (lnset (M.2 2) v2_223 1)) (lnset (M.2 3) v2_223 v3_224)) ?_
  refine g_aload_n hx 63 (i := 0) 2 dX8_serve_63 rfl rfl ?_
  refine g_get hx 64 (C := RX8) (T := TX8) (N := 15) 8 (.ref (S + 9)) (pS_o σ S (setL (setL (setL M 7 (lnrem (M.2 7) (lnpl (M.2 7) v2_223))) 2 (lnset (M.2 2) v2_223 1)) 3 (lnset (M.2 3) v2_223 v3_224))) rfl (by decide) rfl fl_X8_29 dX8_serve_64 ?_
  refine g_iload_n hx 67 (i := 2) 1 dX8_serve_67 rfl rfl ?_
  refine g_iconst hx 68 (1) dX8_serve_68 rfl ?_
  refine g_callVv hx (k_raise l g (pS_l4 σ S (setL (setL (setL M 7 (lnrem (M.2 7) (lnpl (M.2 7) v2_223))) 2 (lnset (M.2 2) v2_223 1)) 3 (lnset (M.2 3) v2_223 v3_224))) (by decide) v2_223 1) lk_X8_131 ar_Ln_raise (pS_l4 σ S (setL (setL (setL M 7 (lnrem (M.2 7) (lnpl (M.2 7) v2_223))) 2 (lnset (M.2 2) v2_223 1)) 3 (lnset (M.2 3) v2_223 v3_224))).1 (T := TX2) (N := 2) rfl (As := [.int v2_223, .int 1]) (rest := []) rfl (Nat.le_of_ble_eq_true rfl) ⟨Nat.le_of_ble_eq_true rfl, Nat.le_of_ble_eq_true rfl⟩ ⟨rfl, rfl⟩ ⟨Nat.zero_le _, Nat.zero_le _⟩ dX8_serve_69 ?_
  refine G.heap (pS_p4 σ S (setL (setL (setL M 7 (lnrem (M.2 7) (lnpl (M.2 7) v2_223))) 2 (lnset (M.2 2) v2_223 1)) 3 (lnset (M.2 3) v2_223 v3_224)) (lnraise (M.2 4) v2_223 1)) ?_
  refine g_aload_n hx 72 (i := 0) 2 dX8_serve_72 rfl rfl ?_
  refine g_get hx 73 (C := RX8) (T := TX8) (N := 15) 9 (.ref (S + 11)) (pS_o σ S (setL (setL (setL (setL M 7 (lnrem (M.2 7) (lnpl (M.2 7) v2_223))) 2 (lnset (M.2 2) v2_223 1)) 3 (lnset (M.2 3) v2_223 v3_224)) 4 (lnraise (M.2 4) v2_223 1))) rfl (by decide) rfl fl_X8_32 dX8_serve_73 ?_
  refine g_iload_n hx 76 (i := 3) 0 dX8_serve_76 rfl rfl ?_
  refine g_iconst hx 77 (1) dX8_serve_77 rfl ?_
  refine g_callVv hx (k_raise l g (pS_l5 σ S (setL (setL (setL (setL M 7 (lnrem (M.2 7) (lnpl (M.2 7) v2_223))) 2 (lnset (M.2 2) v2_223 1)) 3 (lnset (M.2 3) v2_223 v3_224)) 4 (lnraise (M.2 4) v2_223 1))) (by decide) v3_224 1) lk_X8_131 ar_Ln_raise (pS_l5 σ S (setL (setL (setL (setL M 7 (lnrem (M.2 7) (lnpl (M.2 7) v2_223))) 2 (lnset (M.2 2) v2_223 1)) 3 (lnset (M.2 3) v2_223 v3_224)) 4 (lnraise (M.2 4) v2_223 1))).1 (T := TX2) (N := 2) rfl (As := [.int v3_224, .int 1]) (rest := []) rfl (Nat.le_of_ble_eq_true rfl) ⟨Nat.le_of_ble_eq_true rfl, Nat.le_of_ble_eq_true rfl⟩ ⟨rfl, rfl⟩ ⟨Nat.zero_le _, Nat.zero_le _⟩ dX8_serve_78 ?_
  refine G.heap (pS_p5 σ S (setL (setL (setL (setL M 7 (lnrem (M.2 7) (lnpl (M.2 7) v2_223))) 2 (lnset (M.2 2) v2_223 1)) 3 (lnset (M.2 3) v2_223 v3_224)) 4 (lnraise (M.2 4) v2_223 1)) (lnraise (M.2 5) v3_224 1)) ?_
  refine g_aload_n hx 81 (i := 0) 2 dX8_serve_81 rfl rfl ?_
  refine g_get hx 82 (C := RX8) (T := TX8) (N := 15) 10 (.ref (S + 13)) (pS_o σ S (setL (setL (setL (setL (setL M 7 (lnrem (M.2 7) (lnpl (M.2 7) v2_223))) 2 (lnset (M.2 2) v2_223 1)) 3 (lnset (M.2 3) v2_223 v3_224)) 4 (lnraise (M.2 4) v2_223 1)) 5 (lnraise (M.2 5) v3_224 1))) rfl (by decide) rfl fl_X8_35 dX8_serve_82 ?_
  refine g_iload_n hx 85 (i := 3) 0 dX8_serve_85 rfl rfl ?_
  refine g_iconst hx 86 (1) dX8_serve_86 rfl ?_
  refine g_callVv hx (k_raise l g (pS_l6 σ S (setL (setL (setL (setL (setL M 7 (lnrem (M.2 7) (lnpl (M.2 7) v2_223))) 2 (lnset (M.2 2) v2_223 1)) 3 (lnset (M.2 3) v2_223 v3_224)) 4 (lnraise (M.2 4) v2_223 1)) 5 (lnraise (M.2 5) v3_224 1))) (by decide) v3_224 1) lk_X8_131 ar_Ln_raise (pS_l6 σ S (setL (setL (setL (setL (setL M 7 (lnrem (M.2 7) (lnpl (M.2 7) v2_223))) 2 (lnset (M.2 2) v2_223 1)) 3 (lnset (M.2 3) v2_223 v3_224)) 4 (lnraise (M.2 4) v2_223 1)) 5 (lnraise (M.2 5) v3_224 1))).1 (T := TX2) (N := 2) rfl (As := [.int v3_224, .int 1]) (rest := []) rfl (Nat.le_of_ble_eq_true rfl) ⟨Nat.le_of_ble_eq_true rfl, Nat.le_of_ble_eq_true rfl⟩ ⟨rfl, rfl⟩ ⟨Nat.zero_le _, Nat.zero_le _⟩ dX8_serve_87 ?_
  refine G.heap (pS_p6 σ S (setL (setL (setL (setL (setL M 7 (lnrem (M.2 7) (lnpl (M.2 7) v2_223))) 2 (lnset (M.2 2) v2_223 1)) 3 (lnset (M.2 3) v2_223 v3_224)) 4 (lnraise (M.2 4) v2_223 1)) 5 (lnraise (M.2 5) v3_224 1)) (lnraise (M.2 6) v3_224 1)) ?_
  refine g_aload_n hx 90 (i := 0) 2 dX8_serve_90 rfl rfl ?_
  refine g_get hx 91 (C := RX8) (T := TX8) (N := 15) 14 (.ref (S + 33)) (pS_o σ S (setL (setL (setL (setL (setL (setL M 7 (lnrem (M.2 7) (lnpl (M.2 7) v2_223))) 2 (lnset (M.2 2) v2_223 1)) 3 (lnset (M.2 3) v2_223 v3_224)) 4 (lnraise (M.2 4) v2_223 1)) 5 (lnraise (M.2 5) v3_224 1)) 6 (lnraise (M.2 6) v3_224 1))) rfl (by decide) rfl fl_X8_57 dX8_serve_91 ?_
  refine g_iconst hx 94 (4) dX8_serve_94 rfl ?_
  refine g_iconst hx 95 (1) dX8_serve_95 rfl ?_
  refine g_callVv hx (k_raise l g (pS_l15 σ S (setL (setL (setL (setL (setL (setL M 7 (lnrem (M.2 7) (lnpl (M.2 7) v2_223))) 2 (lnset (M.2 2) v2_223 1)) 3 (lnset (M.2 3) v2_223 v3_224)) 4 (lnraise (M.2 4) v2_223 1)) 5 (lnraise (M.2 5) v3_224 1)) 6 (lnraise (M.2 6) v3_224 1))) (by decide) 4 1) lk_X8_131 ar_Ln_raise (pS_l15 σ S (setL (setL (setL (setL (setL (setL M 7 (lnrem (M.2 7) (lnpl (M.2 7) v2_223))) 2 (lnset (M.2 2) v2_223 1)) 3 (lnset (M.2 3) v2_223 v3_224)) 4 (lnraise (M.2 4) v2_223 1)) 5 (lnraise (M.2 5) v3_224 1)) 6 (lnraise (M.2 6) v3_224 1))).1 (T := TX2) (N := 2) rfl (As := [.int 4, .int 1]) (rest := []) rfl (Nat.le_of_ble_eq_true rfl) ⟨Nat.le_of_ble_eq_true rfl, Nat.le_of_ble_eq_true rfl⟩ ⟨rfl, rfl⟩ ⟨Nat.zero_le _, Nat.zero_le _⟩ dX8_serve_96 ?_
  refine G.heap (pS_p15 σ S (setL (setL (setL (setL (setL (setL M 7 (lnrem (M.2 7) (lnpl (M.2 7) v2_223))) 2 (lnset (M.2 2) v2_223 1)) 3 (lnset (M.2 3) v2_223 v3_224)) 4 (lnraise (M.2 4) v2_223 1)) 5 (lnraise (M.2 5) v3_224 1)) 6 (lnraise (M.2 6) v3_224 1)) (lnraise (M.2 15) 4 1)) ?_
  refine g_aload_n hx 99 (i := 0) 2 dX8_serve_99 rfl rfl ?_
  refine g_get hx 100 (C := RX8) (T := TX8) (N := 15) 14 (.ref (S + 33)) (pS_o σ S (setL (setL (setL (setL (setL (setL (setL M 7 (lnrem (M.2 7) (lnpl (M.2 7) v2_223))) 2 (lnset (M.2 2) v2_223 1)) 3 (lnset (M.2 3) v2_223 v3_224)) 4 (lnraise (M.2 4) v2_223 1)) 5 (lnraise (M.2 5) v3_224 1)) 6 (lnraise (M.2 6) v3_224 1)) 15 (lnraise (M.2 15) 4 1))) rfl (by decide) rfl fl_X8_57 dX8_serve_100 ?_
  refine g_bipush hx 103 (10) dX8_serve_103 rfl ?_
  refine g_aload_n hx 105 (i := 0) 2 dX8_serve_105 rfl rfl ?_
  refine g_get hx 106 (C := RX8) (T := TX8) (N := 15) 0 (.int (M.1 0)) (pS_o σ S (setL (setL (setL (setL (setL (setL (setL M 7 (lnrem (M.2 7) (lnpl (M.2 7) v2_223))) 2 (lnset (M.2 2) v2_223 1)) 3 (lnset (M.2 3) v2_223 v3_224)) 4 (lnraise (M.2 4) v2_223 1)) 5 (lnraise (M.2 5) v3_224 1)) 6 (lnraise (M.2 6) v3_224 1)) 15 (lnraise (M.2 15) 4 1))) rfl (by decide) rfl fl_X8_60 dX8_serve_106 ?_
  refine g_aload_n hx 109 (i := 0) 2 dX8_serve_109 rfl rfl ?_
  refine g_get hx 110 (C := RX8) (T := TX8) (N := 15) 13 (.ref (S + 24)) (pS_o σ S (setL (setL (setL (setL (setL (setL (setL M 7 (lnrem (M.2 7) (lnpl (M.2 7) v2_223))) 2 (lnset (M.2 2) v2_223 1)) 3 (lnset (M.2 3) v2_223 v3_224)) 4 (lnraise (M.2 4) v2_223 1)) 5 (lnraise (M.2 5) v3_224 1)) 6 (lnraise (M.2 6) v3_224 1)) 15 (lnraise (M.2 15) 4 1))) rfl (by decide) rfl fl_X8_53 dX8_serve_110 ?_
  refine g_get hx 113 (C := RX7) (T := TX7) (N := 4) 2 (.ref (S + 29)) (pS σ S (setL (setL (setL (setL (setL (setL (setL M 7 (lnrem (M.2 7) (lnpl (M.2 7) v2_223))) 2 (lnset (M.2 2) v2_223 1)) 3 (lnset (M.2 3) v2_223 v3_224)) 4 (lnraise (M.2 4) v2_223 1)) 5 (lnraise (M.2 5) v3_224 1)) 6 (lnraise (M.2 6) v3_224 1)) 15 (lnraise (M.2 15) 4 1)) 24 (by decide)) rfl (by decide) rfl fl_X8_182 dX8_serve_113 ?_
  refine g_iload_n hx 116 (i := 1) 3 dX8_serve_116 rfl rfl ?_
  refine g_callVr hx (k_get l g (pS_l13 σ S (setL (setL (setL (setL (setL (setL (setL M 7 (lnrem (M.2 7) (lnpl (M.2 7) v2_223))) 2 (lnset (M.2 2) v2_223 1)) 3 (lnset (M.2 3) v2_223 v3_224)) 4 (lnraise (M.2 4) v2_223 1)) 5 (lnraise (M.2 5) v3_224 1)) 6 (lnraise (M.2 6) v3_224 1)) 15 (lnraise (M.2 15) 4 1))) (by decide) p1) lk_X8_96 ar_Ln_get (pS_l13 σ S (setL (setL (setL (setL (setL (setL (setL M 7 (lnrem (M.2 7) (lnpl (M.2 7) v2_223))) 2 (lnset (M.2 2) v2_223 1)) 3 (lnset (M.2 3) v2_223 v3_224)) 4 (lnraise (M.2 4) v2_223 1)) 5 (lnraise (M.2 5) v3_224 1)) 6 (lnraise (M.2 6) v3_224 1)) 15 (lnraise (M.2 15) 4 1))).1 (T := TX2) (N := 2) rfl (As := [.int p1]) (rest := [.int (M.1 0), .int 10, .ref (S + 33)]) rfl (Nat.le_of_ble_eq_true rfl) ⟨Nat.le_of_ble_eq_true rfl, Nat.le_of_ble_eq_true rfl⟩ ⟨rfl, rfl⟩ ⟨Nat.zero_le _, Nat.zero_le _⟩ dX8_serve_117 ?_
  refine g_isub hx 120 dX8_serve_120 ?_
  refine g_callVv hx (k_raise l g (pS_l15 σ S (setL (setL (setL (setL (setL (setL (setL M 7 (lnrem (M.2 7) (lnpl (M.2 7) v2_223))) 2 (lnset (M.2 2) v2_223 1)) 3 (lnset (M.2 3) v2_223 v3_224)) 4 (lnraise (M.2 4) v2_223 1)) 5 (lnraise (M.2 5) v3_224 1)) 6 (lnraise (M.2 6) v3_224 1)) 15 (lnraise (M.2 15) 4 1))) (by decide) 10 ((M.1 0) - (lnget (M.2 13) p1))) lk_X8_131 ar_Ln_raise (pS_l15 σ S (setL (setL (setL (setL (setL (setL (setL M 7 (lnrem (M.2 7) (lnpl (M.2 7) v2_223))) 2 (lnset (M.2 2) v2_223 1)) 3 (lnset (M.2 3) v2_223 v3_224)) 4 (lnraise (M.2 4) v2_223 1)) 5 (lnraise (M.2 5) v3_224 1)) 6 (lnraise (M.2 6) v3_224 1)) 15 (lnraise (M.2 15) 4 1))).1 (T := TX2) (N := 2) rfl (As := [.int 10, .int ((M.1 0) - (lnget (M.2 13) p1))]) (rest := []) rfl (Nat.le_of_ble_eq_true rfl) ⟨Nat.le_of_ble_eq_true rfl, Nat.le_of_ble_eq_true rfl⟩ ⟨rfl, rfl⟩ ⟨Nat.zero_le _, Nat.zero_le _⟩ dX8_serve_121 ?_
  refine G.heap (pS_p15 σ S (setL (setL (setL (setL (setL (setL (setL M 7 (lnrem (M.2 7) (lnpl (M.2 7) v2_223))) 2 (lnset (M.2 2) v2_223 1)) 3 (lnset (M.2 3) v2_223 v3_224)) 4 (lnraise (M.2 4) v2_223 1)) 5 (lnraise (M.2 5) v3_224 1)) 6 (lnraise (M.2 6) v3_224 1)) 15 (lnraise (M.2 15) 4 1)) (lnraise (lnraise (M.2 15) 4 1) 10 ((M.1 0) - (lnget (M.2 13) p1)))) ?_
  refine g_aload_n hx 124 (i := 0) 2 dX8_serve_124 rfl rfl ?_
  refine g_get hx 125 (C := RX8) (T := TX8) (N := 15) 13 (.ref (S + 24)) (pS_o σ S (setL (setL (setL (setL (setL (setL (setL (setL M 7 (lnrem (M.2 7) (lnpl (M.2 7) v2_223))) 2 (lnset (M.2 2) v2_223 1)) 3 (lnset (M.2 3) v2_223 v3_224)) 4 (lnraise (M.2 4) v2_223 1)) 5 (lnraise (M.2 5) v3_224 1)) 6 (lnraise (M.2 6) v3_224 1)) 15 (lnraise (M.2 15) 4 1)) 15 (lnraise (lnraise (M.2 15) 4 1) 10 ((M.1 0) - (lnget (M.2 13) p1))))) rfl (by decide) rfl fl_X8_53 dX8_serve_125 ?_
  refine g_iload_n hx 128 (i := 1) 3 dX8_serve_128 rfl rfl ?_
  obtain ⟨M_225, eM_225, hr⟩ := lt'_e hr
  refine g_callVv hx (c_Sl_removeAt l g σ S (setL (setL (setL (setL (setL (setL (setL (setL M 7 (lnrem (M.2 7) (lnpl (M.2 7) v2_223))) 2 (lnset (M.2 2) v2_223 1)) 3 (lnset (M.2 3) v2_223 v3_224)) 4 (lnraise (M.2 4) v2_223 1)) 5 (lnraise (M.2 5) v3_224 1)) 6 (lnraise (M.2 6) v3_224 1)) 15 (lnraise (M.2 15) 4 1)) 15 (lnraise (lnraise (M.2 15) 4 1) 10 ((M.1 0) - (lnget (M.2 13) p1)))) p1 eM_225.symm) lk_X8_138 ar_Sl_removeAt (pS σ S (setL (setL (setL (setL (setL (setL (setL (setL M 7 (lnrem (M.2 7) (lnpl (M.2 7) v2_223))) 2 (lnset (M.2 2) v2_223 1)) 3 (lnset (M.2 3) v2_223 v3_224)) 4 (lnraise (M.2 4) v2_223 1)) 5 (lnraise (M.2 5) v3_224 1)) 6 (lnraise (M.2 6) v3_224 1)) 15 (lnraise (M.2 15) 4 1)) 15 (lnraise (lnraise (M.2 15) 4 1) 10 ((M.1 0) - (lnget (M.2 13) p1)))) 24 (by decide)) (T := TX7) (N := 4) rfl (As := [.int p1]) (rest := []) rfl (Nat.le_of_ble_eq_true rfl) ⟨Nat.le_of_ble_eq_true rfl, Nat.le_of_ble_eq_true rfl⟩ ⟨rfl, rfl⟩ ⟨Nat.zero_le _, Nat.zero_le _⟩ dX8_serve_129 ?_
  exact g_vret hx hR 132 dX8_serve_132 ⟨rfl, by rw [← hr] <;> rfl⟩
def St_nextDay_L36 : Nat → StM → Int32 → Int32 → Int32 → Int32 → Option (Int32 × StM)
  | 0, _, _, _, _, _ => none
  | n + 1, M, v1_228, v2_229, v3_230, v4_231 => if v4_231 ≤ 0 then (some ((v1_228, M))) else (if M.1 2 ≤ v2_229 then (some ((v1_228, M))) else (if St_idleness M v3_230 = 0 then (Option.bind (St_isFoundFor M v3_230) fun q_235 => if q_235.1 = 0 then (St_nextDay_L36 n q_235.2 v1_228 (v2_229 + 1) (v3_230 + 1) (v4_231 + (-1))) else (lt' (St_serve q_235.2 v3_230) fun M_237 => St_nextDay_L36 n M_237 (v1_228 + 1) (v2_229 + 1) v3_230 (v4_231 + (-1)))) else (St_nextDay_L36 n M v1_228 v2_229 (v3_230 + 1) (v4_231 + (-1)))))
def St_nextDay (M : StM) : Option (Int32 × StM) := if St_isRefilingDay (setI M 0 ((M.1 0) + 1)) = 0 then (lt' (Sl_count (setI M 0 ((M.1 0) + 1))) fun v4_227 => St_nextDay_L36 FU (setI M 0 ((M.1 0) + 1)) 0 0 0 v4_227) else (Option.bind (St_refileTrolley (setI M 0 ((M.1 0) + 1))) fun M_238 => lt' (Sl_count M_238) fun v4_239 => St_nextDay_L36 FU M_238 0 0 0 v4_239)
set_option maxRecDepth 100000 in
set_option maxHeartbeats 4000000 in
theorem w_St_nextDay_L36 {X : Cx} {l : Launch} {g : Gl} (hx : Ok X l g RX8 cX8_nextDay 5 md_St_nextDay.rm) {σ : Hp} {S : Nat} {r : Int32 × StM} (hR : Ret X (rs (some (.int r.1)) (putSt σ S r.2)) 0 0 (some .int)) : ∀ (n : Nat) (M : StM) (v1_228 v2_229 v3_230 v4_231 : Int32), St_nextDay_L36 n M v1_228 v2_229 v3_230 v4_231 = some r → G X (putSt σ S M) 0 0 36 [(0, .ref S), (1, .int v1_228), (2, .int v2_229), (3, .int v3_230), (4, .int v4_231)] [] := by
  intro n
  induction n with
  | zero =>
    intro M v1_228 v2_229 v3_230 v4_231 hr
    rw [St_nextDay_L36] at hr
    cases hr
  | succ n ih =>
    intro M v1_228 v2_229 v3_230 v4_231 hr
    rw [St_nextDay_L36] at hr
    refine g_iload hx 36 (i := 4) 4 dX8_nextDay_36 rfl ?_
    refine g_if_le hx 38 94 dX8_nextDay_38 (by decide) (fun hc_232 => ?_) (fun hc_232 => ?_)
    · have hr := (if_pos hc_232).symm.trans hr
      refine g_iload_n hx 94 (i := 1) 1 dX8_nextDay_94 rfl rfl ?_
      exact g_iret hx hR 95 dX8_nextDay_95 ⟨by rw [← Option.some.inj hr] <;> rfl, by rw [← Option.some.inj hr] <;> rfl⟩
    · have hr := (if_neg hc_232).symm.trans hr
      refine g_iload_n hx 41 (i := 2) 2 dX8_nextDay_41 rfl rfl ?_
      refine g_aload_n hx 42 (i := 0) 0 dX8_nextDay_42 rfl rfl ?_
      refine g_get hx 43 (C := RX8) (T := TX8) (N := 15) 2 (.int (M.1 2)) (pS_o σ S M) rfl (by decide) rfl fl_X8_67 dX8_nextDay_43 ?_
      refine g_icmp_ge hx 46 94 dX8_nextDay_46 (by decide) (fun hc_233 => ?_) (fun hc_233 => ?_)
      · have hr := (if_pos hc_233).symm.trans hr
        refine g_iload_n hx 94 (i := 1) 1 dX8_nextDay_94 rfl rfl ?_
        exact g_iret hx hR 95 dX8_nextDay_95 ⟨by rw [← Option.some.inj hr] <;> rfl, by rw [← Option.some.inj hr] <;> rfl⟩
      · have hr := (if_neg hc_233).symm.trans hr
        refine g_aload_n hx 49 (i := 0) 0 dX8_nextDay_49 rfl rfl ?_
        refine g_iload_n hx 50 (i := 3) 3 dX8_nextDay_50 rfl rfl ?_
        refine g_callVr hx (c_St_idleness l g σ S M v3_230 rfl) lk_X8_157 ar_St_idleness (pS_o σ S M) (T := TX8) (N := 15) rfl (As := [.int v3_230]) (rest := []) rfl (Nat.le_of_ble_eq_true rfl) ⟨Nat.le_of_ble_eq_true rfl, Nat.le_of_ble_eq_true rfl⟩ ⟨rfl, rfl⟩ ⟨Nat.zero_le _, Nat.zero_le _⟩ dX8_nextDay_51 ?_
        refine g_if_eq hx 54 63 dX8_nextDay_54 (by decide) (fun hc_234 => ?_) (fun hc_234 => ?_)
        · have hr := (if_pos hc_234).symm.trans hr
          refine g_iinc hx 63 (i := 2) 2 (v2_229 + 1) [(2, .int (v2_229 + 1)), (0, .ref S), (1, .int v1_228), (3, .int v3_230), (4, .int v4_231)] dX8_nextDay_63 rfl rfl (by decide) rfl ?_
          refine g_aload_n hx 66 (i := 0) 1 dX8_nextDay_66 rfl rfl ?_
          refine g_iload_n hx 67 (i := 3) 3 dX8_nextDay_67 rfl rfl ?_
          obtain ⟨q_235, eq_235, hr⟩ := bind_e hr
          refine g_callVr hx (c_St_isFoundFor l g σ S M v3_230 eq_235) lk_X8_160 ar_St_isFoundFor (pS_o σ S M) (T := TX8) (N := 15) rfl (As := [.int v3_230]) (rest := []) rfl (Nat.le_of_ble_eq_true rfl) ⟨Nat.le_of_ble_eq_true rfl, Nat.le_of_ble_eq_true rfl⟩ ⟨rfl, rfl⟩ ⟨Nat.zero_le _, Nat.zero_le _⟩ dX8_nextDay_68 ?_
          refine g_if_eq hx 71 85 dX8_nextDay_71 (by decide) (fun hc_236 => ?_) (fun hc_236 => ?_)
          · have hr := (if_pos hc_236).symm.trans hr
            refine g_iinc hx 85 (i := 3) 3 (v3_230 + 1) [(3, .int (v3_230 + 1)), (2, .int (v2_229 + 1)), (0, .ref S), (1, .int v1_228), (4, .int v4_231)] dX8_nextDay_85 rfl rfl (by decide) rfl ?_
            refine g_iinc hx 88 (i := 4) 4 (v4_231 + (-1)) [(4, .int (v4_231 + (-1))), (3, .int (v3_230 + 1)), (2, .int (v2_229 + 1)), (0, .ref S), (1, .int v1_228)] dX8_nextDay_88 rfl rfl (by decide) rfl ?_
            refine g_goto hx 91 36 dX8_nextDay_91 (by decide) ?_
            refine g_ls [3, 4, 2, 1, 0] [(0, .ref S), (1, .int v1_228), (2, .int (v2_229 + 1)), (3, .int (v3_230 + 1)), (4, .int (v4_231 + (-1)))] rfl ?_
            exact ih q_235.2 v1_228 (v2_229 + 1) (v3_230 + 1) (v4_231 + (-1)) hr
          · have hr := (if_neg hc_236).symm.trans hr
            refine g_aload_n hx 74 (i := 0) 1 dX8_nextDay_74 rfl rfl ?_
            refine g_iload_n hx 75 (i := 3) 3 dX8_nextDay_75 rfl rfl ?_
            obtain ⟨M_237, eM_237, hr⟩ := lt'_e hr
            refine g_callVv hx (c_St_serve l g σ S q_235.2 v3_230 eM_237.symm) lk_X8_163 ar_St_serve (pS_o σ S q_235.2) (T := TX8) (N := 15) rfl (As := [.int v3_230]) (rest := []) rfl (Nat.le_of_ble_eq_true rfl) ⟨Nat.le_of_ble_eq_true rfl, Nat.le_of_ble_eq_true rfl⟩ ⟨rfl, rfl⟩ ⟨Nat.zero_le _, Nat.zero_le _⟩ dX8_nextDay_76 ?_
            refine g_iinc hx 79 (i := 1) 2 (v1_228 + 1) [(1, .int (v1_228 + 1)), (2, .int (v2_229 + 1)), (0, .ref S), (3, .int v3_230), (4, .int v4_231)] dX8_nextDay_79 rfl rfl (by decide) rfl ?_
            refine g_goto hx 82 88 dX8_nextDay_82 (by decide) ?_
            refine g_iinc hx 88 (i := 4) 4 (v4_231 + (-1)) [(4, .int (v4_231 + (-1))), (1, .int (v1_228 + 1)), (2, .int (v2_229 + 1)), (0, .ref S), (3, .int v3_230)] dX8_nextDay_88 rfl rfl (by decide) rfl ?_
            refine g_goto hx 91 36 dX8_nextDay_91 (by decide) ?_
            refine g_ls [3, 1, 2, 4, 0] [(0, .ref S), (1, .int (v1_228 + 1)), (2, .int (v2_229 + 1)), (3, .int v3_230), (4, .int (v4_231 + (-1)))] rfl ?_
            exact ih M_237 (v1_228 + 1) (v2_229 + 1) v3_230 (v4_231 + (-1)) hr
        · have hr := (if_neg hc_234).symm.trans hr
          refine g_iinc hx 57 (i := 3) 3 (v3_230 + 1) [(3, .int (v3_230 + 1)), (0, .ref S), (1, .int v1_228), (2, .int v2_229), (4, .int v4_231)] dX8_nextDay_57 rfl rfl (by decide) rfl ?_
          refine g_goto hx 60 88 dX8_nextDay_60 (by decide) ?_
          refine g_iinc hx 88 (i := 4) 4 (v4_231 + (-1)) [(4, .int (v4_231 + (-1))), (3, .int (v3_230 + 1)), (0, .ref S), (1, .int v1_228), (2, .int v2_229)] dX8_nextDay_88 rfl rfl (by decide) rfl ?_
          refine g_goto hx 91 36 dX8_nextDay_91 (by decide) ?_
          refine g_ls [2, 3, 4, 1, 0] [(0, .ref S), (1, .int v1_228), (2, .int v2_229), (3, .int (v3_230 + 1)), (4, .int (v4_231 + (-1)))] rfl ?_
          exact ih M v1_228 v2_229 (v3_230 + 1) (v4_231 + (-1)) hr
set_option maxRecDepth 100000 in
set_option maxHeartbeats 4000000 in
theorem c_St_nextDay (l : Launch) (g : Gl) (σ : Hp) (S : Nat) (M : StM) {r : Int32 × StM} (hr : St_nextDay M = some r) : MG l g md_St_nextDay [.ref S] (putSt σ S M) (rs (some (.int r.1)) (putSt σ S r.2)) := by
  refine MG.intro (by decide +kernel) (Nat.le_of_ble_eq_true rfl) (fun X hx hR _ => ?_)
  unfold St_nextDay at hr
  refine g_ls [0] [(0, .ref S)] rfl ?_
  refine g_aload_n hx 0 (i := 0) 0 dX8_nextDay_0 rfl rfl ?_
  refine g_dup hx 1 dX8_nextDay_1 rfl ?_
  refine g_get hx 2 (C := RX8) (T := TX8) (N := 15) 0 (.int (M.1 0)) (pS_o σ S M) rfl (by decide) rfl fl_X8_60 dX8_nextDay_2 ?_
  refine g_iconst hx 5 (1) dX8_nextDay_5 rfl ?_
  refine g_iadd hx 6 dX8_nextDay_6 ?_
  refine g_put hx 7 (C := RX8) (T := TX8) (N := 15) 0 .int _ (pS_o σ S M) rfl (by decide) fl_X8_60 rfl rfl rfl rfl (Nat.le_of_ble_eq_true rfl) rfl dX8_nextDay_7 ?_
  refine G.heap (pS_i0 σ S M ((M.1 0) + 1)) ?_
  refine g_aload_n hx 10 (i := 0) 0 dX8_nextDay_10 rfl rfl ?_
  refine g_callVr hx (c_St_isRefilingDay l g σ S (setI M 0 ((M.1 0) + 1)) rfl) lk_X8_150 ar_St_isRefilingDay (pS_o σ S (setI M 0 ((M.1 0) + 1))) (T := TX8) (N := 15) rfl (As := []) (rest := []) rfl (Nat.le_of_ble_eq_true rfl) ⟨Nat.le_of_ble_eq_true rfl, Nat.le_of_ble_eq_true rfl⟩ ⟨rfl, rfl⟩ ⟨Nat.zero_le _, Nat.zero_le _⟩ dX8_nextDay_11 ?_
  refine g_if_eq hx 14 21 dX8_nextDay_14 (by decide) (fun hc_226 => ?_) (fun hc_226 => ?_)
  · have hr := (if_pos hc_226).symm.trans hr
    refine g_iconst hx 21 (0) dX8_nextDay_21 rfl ?_
    refine g_istore_n hx 22 (i := 1) [(1, .int 0), (0, .ref S)] dX8_nextDay_22 rfl (by decide) rfl ?_
    refine g_iconst hx 23 (0) dX8_nextDay_23 rfl ?_
    refine g_istore_n hx 24 (i := 2) [(2, .int 0), (1, .int 0), (0, .ref S)] dX8_nextDay_24 rfl (by decide) rfl ?_
    refine g_iconst hx 25 (0) dX8_nextDay_25 rfl ?_
    refine g_istore_n hx 26 (i := 3) [(3, .int 0), (2, .int 0), (1, .int 0), (0, .ref S)] dX8_nextDay_26 rfl (by decide) rfl ?_
    refine g_aload_n hx 27 (i := 0) 3 dX8_nextDay_27 rfl rfl ?_
    refine g_get hx 28 (C := RX8) (T := TX8) (N := 15) 13 (.ref (S + 24)) (pS_o σ S (setI M 0 ((M.1 0) + 1))) rfl (by decide) rfl fl_X8_53 dX8_nextDay_28 ?_
    refine g_callVr hx (c_Sl_count l g σ S (setI M 0 ((M.1 0) + 1)) rfl) lk_X8_114 ar_Sl_count (pS σ S (setI M 0 ((M.1 0) + 1)) 24 (by decide)) (T := TX7) (N := 4) rfl (As := []) (rest := []) rfl (Nat.le_of_ble_eq_true rfl) ⟨Nat.le_of_ble_eq_true rfl, Nat.le_of_ble_eq_true rfl⟩ ⟨rfl, rfl⟩ ⟨Nat.zero_le _, Nat.zero_le _⟩ dX8_nextDay_31 ?_
    obtain ⟨v4_227, ev4_227, hr⟩ := lt'_e hr
    refine g_nmi ev4_227 ?_
    refine g_istore hx 34 (i := 4) [(4, .int v4_227), (3, .int 0), (2, .int 0), (1, .int 0), (0, .ref S)] dX8_nextDay_34 (by decide) rfl ?_
    refine g_ls [4, 3, 2, 1, 0] [(0, .ref S), (1, .int 0), (2, .int 0), (3, .int 0), (4, .int v4_227)] rfl ?_
    exact w_St_nextDay_L36 hx hR FU (setI M 0 ((M.1 0) + 1)) 0 0 0 v4_227 hr
  · have hr := (if_neg hc_226).symm.trans hr
    refine g_aload_n hx 17 (i := 0) 0 dX8_nextDay_17 rfl rfl ?_
    obtain ⟨M_238, eM_238, hr⟩ := bind_e hr
    refine g_callVv hx (c_St_refileTrolley l g σ S (setI M 0 ((M.1 0) + 1)) eM_238) lk_X8_154 ar_St_refileTrolley (pS_o σ S (setI M 0 ((M.1 0) + 1))) (T := TX8) (N := 15) rfl (As := []) (rest := []) rfl (Nat.le_of_ble_eq_true rfl) ⟨Nat.le_of_ble_eq_true rfl, Nat.le_of_ble_eq_true rfl⟩ ⟨rfl, rfl⟩ ⟨Nat.zero_le _, Nat.zero_le _⟩ dX8_nextDay_18 ?_
    refine g_iconst hx 21 (0) dX8_nextDay_21 rfl ?_
    refine g_istore_n hx 22 (i := 1) [(1, .int 0), (0, .ref S)] dX8_nextDay_22 rfl (by decide) rfl ?_
    refine g_iconst hx 23 (0) dX8_nextDay_23 rfl ?_
    refine g_istore_n hx 24 (i := 2) [(2, .int 0), (1, .int 0), (0, .ref S)] dX8_nextDay_24 rfl (by decide) rfl ?_
    refine g_iconst hx 25 (0) dX8_nextDay_25 rfl ?_
    refine g_istore_n hx 26 (i := 3) [(3, .int 0), (2, .int 0), (1, .int 0), (0, .ref S)] dX8_nextDay_26 rfl (by decide) rfl ?_
    refine g_aload_n hx 27 (i := 0) 3 dX8_nextDay_27 rfl rfl ?_
    refine g_get hx 28 (C := RX8) (T := TX8) (N := 15) 13 (.ref (S + 24)) (pS_o σ S M_238) rfl (by decide) rfl fl_X8_53 dX8_nextDay_28 ?_
    refine g_callVr hx (c_Sl_count l g σ S M_238 rfl) lk_X8_114 ar_Sl_count (pS σ S M_238 24 (by decide)) (T := TX7) (N := 4) rfl (As := []) (rest := []) rfl (Nat.le_of_ble_eq_true rfl) ⟨Nat.le_of_ble_eq_true rfl, Nat.le_of_ble_eq_true rfl⟩ ⟨rfl, rfl⟩ ⟨Nat.zero_le _, Nat.zero_le _⟩ dX8_nextDay_31 ?_
    obtain ⟨v4_239, ev4_239, hr⟩ := lt'_e hr
    refine g_nmi ev4_239 ?_
    refine g_istore hx 34 (i := 4) [(4, .int v4_239), (3, .int 0), (2, .int 0), (1, .int 0), (0, .ref S)] dX8_nextDay_34 (by decide) rfl ?_
    refine g_ls [4, 3, 2, 1, 0] [(0, .ref S), (1, .int 0), (2, .int 0), (3, .int 0), (4, .int v4_239)] rfl ?_
    exact w_St_nextDay_L36 hx hR FU M_238 0 0 0 v4_239 hr
def St_passDays_L18 : Nat → StM → Int32 → Int32 → Int32 → Int32 → Option (Int32 × StM)
  | 0, _, _, _, _, _ => none
  | n + 1, M, v1_241, v2_242, v3_243, v4_244 => if v1_241 ≤ v4_244 then (some ((v3_243, M))) else (Option.bind (St_nextDay M) fun q_246 => lt' (v3_243 + q_246.1) fun v3_247 => St_passDays_L18 n q_246.2 v1_241 v2_242 v3_247 (v4_244 + 1))
def St_passDays (M : StM) (p1 p2 : Int32) : Option (Int32 × StM) := if (M.1 0) + p1 ≤ p2 then (St_passDays_L18 FU M p1 p2 0 0) else (some (((-2), M)))
set_option maxRecDepth 100000 in
set_option maxHeartbeats 4000000 in
theorem w_St_passDays_L18 {X : Cx} {l : Launch} {g : Gl} (hx : Ok X l g RX8 cX8_passDays 5 md_St_passDays.rm) {σ : Hp} {S : Nat} {r : Int32 × StM} (hR : Ret X (rs (some (.int r.1)) (putSt σ S r.2)) 0 0 (some .int)) : ∀ (n : Nat) (M : StM) (v1_241 v2_242 v3_243 v4_244 : Int32), St_passDays_L18 n M v1_241 v2_242 v3_243 v4_244 = some r → G X (putSt σ S M) 0 0 18 [(0, .ref S), (1, .int v1_241), (2, .int v2_242), (3, .int v3_243), (4, .int v4_244)] [] := by
  intro n
  induction n with
  | zero =>
    intro M v1_241 v2_242 v3_243 v4_244 hr
    rw [St_passDays_L18] at hr
    cases hr
  | succ n ih =>
    intro M v1_241 v2_242 v3_243 v4_244 hr
    rw [St_passDays_L18] at hr
    refine g_iload hx 18 (i := 4) 4 dX8_passDays_18 rfl ?_
    refine g_iload_n hx 20 (i := 1) 1 dX8_passDays_20 rfl rfl ?_
    refine g_icmp_ge hx 21 37 dX8_passDays_21 (by decide) (fun hc_245 => ?_) (fun hc_245 => ?_)
    · have hr := (if_pos hc_245).symm.trans hr
      refine g_iload_n hx 37 (i := 3) 3 dX8_passDays_37 rfl rfl ?_
      exact g_iret hx hR 38 dX8_passDays_38 ⟨by rw [← Option.some.inj hr] <;> rfl, by rw [← Option.some.inj hr] <;> rfl⟩
    · have hr := (if_neg hc_245).symm.trans hr
      refine g_iload_n hx 24 (i := 3) 3 dX8_passDays_24 rfl rfl ?_
      refine g_aload_n hx 25 (i := 0) 0 dX8_passDays_25 rfl rfl ?_
      obtain ⟨q_246, eq_246, hr⟩ := bind_e hr
      refine g_callVr hx (c_St_nextDay l g σ S M eq_246) lk_X8_147 ar_St_nextDay (pS_o σ S M) (T := TX8) (N := 15) rfl (As := []) (rest := [.int v3_243]) rfl (Nat.le_of_ble_eq_true rfl) ⟨Nat.le_of_ble_eq_true rfl, Nat.le_of_ble_eq_true rfl⟩ ⟨rfl, rfl⟩ ⟨Nat.zero_le _, Nat.zero_le _⟩ dX8_passDays_26 ?_
      refine g_iadd hx 29 dX8_passDays_29 ?_
      obtain ⟨v3_247, ev3_247, hr⟩ := lt'_e hr
      refine g_nmi ev3_247 ?_
      refine g_istore_n hx 30 (i := 3) [(3, .int v3_247), (0, .ref S), (1, .int v1_241), (2, .int v2_242), (4, .int v4_244)] dX8_passDays_30 rfl (by decide) rfl ?_
      refine g_iinc hx 31 (i := 4) 4 (v4_244 + 1) [(4, .int (v4_244 + 1)), (3, .int v3_247), (0, .ref S), (1, .int v1_241), (2, .int v2_242)] dX8_passDays_31 rfl rfl (by decide) rfl ?_
      refine g_goto hx 34 18 dX8_passDays_34 (by decide) ?_
      refine g_ls [2, 3, 4, 1, 0] [(0, .ref S), (1, .int v1_241), (2, .int v2_242), (3, .int v3_247), (4, .int (v4_244 + 1))] rfl ?_
      exact ih q_246.2 v1_241 v2_242 v3_247 (v4_244 + 1) hr
set_option maxRecDepth 100000 in
set_option maxHeartbeats 4000000 in
theorem c_St_passDays (l : Launch) (g : Gl) (σ : Hp) (S : Nat) (M : StM) (p1 p2 : Int32) {r : Int32 × StM} (hr : St_passDays M p1 p2 = some r) : MG l g md_St_passDays [.ref S, .int p1, .int p2] (putSt σ S M) (rs (some (.int r.1)) (putSt σ S r.2)) := by
  refine MG.intro (by decide +kernel) (Nat.le_of_ble_eq_true rfl) (fun X hx hR _ => ?_)
  unfold St_passDays at hr
  refine g_ls [0, 1, 2] [(0, .ref S), (1, .int p1), (2, .int p2)] rfl ?_
  refine g_aload_n hx 0 (i := 0) 0 dX8_passDays_0 rfl rfl ?_
  refine g_get hx 1 (C := RX8) (T := TX8) (N := 15) 0 (.int (M.1 0)) (pS_o σ S M) rfl (by decide) rfl fl_X8_60 dX8_passDays_1 ?_
  refine g_iload_n hx 4 (i := 1) 1 dX8_passDays_4 rfl rfl ?_
  refine g_iadd hx 5 dX8_passDays_5 ?_
  refine g_iload_n hx 6 (i := 2) 2 dX8_passDays_6 rfl rfl ?_
  refine g_icmp_le hx 7 13 dX8_passDays_7 (by decide) (fun hc_240 => ?_) (fun hc_240 => ?_)
  · have hr := (if_pos hc_240).symm.trans hr
    refine g_iconst hx 13 (0) dX8_passDays_13 rfl ?_
    refine g_istore_n hx 14 (i := 3) [(3, .int 0), (0, .ref S), (1, .int p1), (2, .int p2)] dX8_passDays_14 rfl (by decide) rfl ?_
    refine g_iconst hx 15 (0) dX8_passDays_15 rfl ?_
    refine g_istore hx 16 (i := 4) [(4, .int 0), (3, .int 0), (0, .ref S), (1, .int p1), (2, .int p2)] dX8_passDays_16 (by decide) rfl ?_
    refine g_ls [2, 3, 4, 1, 0] [(0, .ref S), (1, .int p1), (2, .int p2), (3, .int 0), (4, .int 0)] rfl ?_
    exact w_St_passDays_L18 hx hR FU M p1 p2 0 0 hr
  · have hr := (if_neg hc_240).symm.trans hr
    refine g_bipush hx 10 (-2) dX8_passDays_10 rfl ?_
    exact g_iret hx hR 12 dX8_passDays_12 ⟨by rw [← Option.some.inj hr] <;> rfl, by rw [← Option.some.inj hr] <;> rfl⟩
