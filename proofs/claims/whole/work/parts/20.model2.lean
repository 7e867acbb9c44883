def md_Md_longestOrdered : Md := (yX11_longestOrdered, cX11_longestOrdered, 5, some .int, 2, 43, 0, 0)
def md_Md_refusal : Md := (yX11_refusal, cX11_refusal, 3, some .int, 2, 45, 0, 0)
def md_Md_areThere : Md := (yX11_areThere, cX11_areThere, 3, some .boolean, 2, 43, 0, 0)
def md_Md_why : Md := (yX11_why, cX11_why, 3, some .int, 3, 67, 0, 0)
def md_Md_cause : Md := (yX11_cause, cX11_cause, 3, some .int, 3, 67, 0, 0)
def md_Md_waitsFor : Md := (yX11_waitsFor, cX11_waitsFor, 3, some .int, 4, 89, 0, 0)
def md_Md_goAside : Md := (yX11_goAside, cX11_goAside, 1, none, 2, 83, 0, 0)
def md_Md_laidBack : Md := (yX11_laidBack, cX11_laidBack, 2, some .int, 2, 83, 0, 0)
def md_Md_servedIn : Md := (yX11_servedIn, cX11_servedIn, 5, some .int, 6, 134, 0, 0)
def md_Md_areDays : Md := (yX11_areDays, cX11_areDays, 1, some .boolean, 1, 22, 0, 0)
def md_Md_servedBy : Md := (yX11_servedBy, cX11_servedBy, 2, some .int, 7, 158, 0, 0)
def md_Md_waitingIn : Md := (yX11_waitingIn, cX11_waitingIn, 3, some .int, 7, 158, 0, 0)
def md_Md_servedWith : Md := (yX11_servedWith, cX11_servedWith, 2, some .int, 7, 158, 0, 0)
def md_Md_swapsLeft : Md := (yX11_swapsLeft, cX11_swapsLeft, 1, some .int, 3, 66, 0, 0)
def md_Md_missedAfter : Md := (yX11_missedAfter, cX11_missedAfter, 3, some .int, 5, 109, 0, 0)
def md_Md_ends : Md := (yX11_ends, cX11_ends, 2, some .int, 0, 0, 0, 0)
def md_Md_doSlip : Md := (yX11_doSlip, cX11_doSlip, 4, some .int, 3, 67, 0, 0)
def md_Md_doDrop : Md := (yX11_doDrop, cX11_doDrop, 2, some .int, 2, 43, 0, 0)
def md_Md_doReturn : Md := (yX11_doReturn, cX11_doReturn, 2, some .int, 2, 44, 0, 0)
def md_Md_doDays : Md := (yX11_doDays, cX11_doDays, 2, some .int, 7, 158, 0, 0)
def md_Md_doMisfile : Md := (yX11_doMisfile, cX11_doMisfile, 4, some .int, 3, 66, 0, 0)
def md_Md_doStraighten : Md := (yX11_doStraighten, cX11_doStraighten, 4, some .int, 3, 66, 0, 0)
def md_Md_doCheck : Md := (yX11_doCheck, cX11_doCheck, 3, some .int, 5, 109, 0, 0)
def md_Md_doEmbargo : Md := (yX11_doEmbargo, cX11_doEmbargo, 4, some .int, 1, 23, 0, 0)
def md_Md_keep : Md := (yX11_keep, cX11_keep, 1, none, 2, 83, 0, 0)
def md_Md_record : Md := (yX11_record, cX11_record, 2, none, 2, 83, 0, 0)
def md_Md_recorded : Md := (yX11_recorded, cX11_recorded, 2, some .int, 3, 104, 0, 0)
def md_Md_slip : Md := (yX11_slip, cX11_slip, 3, some .int, 4, 125, 0, 0)
def md_Md_dropSlip : Md := (yX11_dropSlip, cX11_dropSlip, 2, some .int, 4, 125, 0, 0)
def md_Md_giveBack : Md := (yX11_giveBack, cX11_giveBack, 2, some .int, 4, 125, 0, 0)
def md_Md_days : Md := (yX11_days, cX11_days, 2, some .int, 8, 179, 0, 0)
def md_Md_misfile : Md := (yX11_misfile, cX11_misfile, 3, some .int, 4, 125, 0, 0)
def md_Md_straighten : Md := (yX11_straighten, cX11_straighten, 2, some .int, 4, 125, 0, 0)
def md_Md_check : Md := (yX11_check, cX11_check, 2, some .int, 6, 131, 0, 0)
def md_Md_setEmbargo : Md := (yX11_setEmbargo, cX11_setEmbargo, 3, some .int, 4, 125, 0, 0)
def md_Md_write : Md := (yX11_write, cX11_write, 2, none, 0, 0, 0, 0)
def md_Md_writeNumber : Md := (yX11_writeNumber, cX11_writeNumber, 4, none, 1, 21, 0, 0)
def md_Md_format : Md := (yX11_format, cX11_format, 2, some .int, 3, 64, 0, 0)
def md_Md_formattedByte : Md := (yX11_formattedByte, cX11_formattedByte, 2, some .int, 1, 22, 0, 0)
def md_Md_undoCount : Md := (yX11_undoCount, cX11_undoCount, 1, some .int, 0, 0, 0, 0)
def md_Md_undo : Md := (yX11_undo, cX11_undo, 1, some .int, 2, 83, 0, 0)
def md_Md_saveSnapshot : Md := (yX11_saveSnapshot, cX11_saveSnapshot, 1, none, 2, 83, 0, 0)
def md_Md_restoreSnapshot : Md := (yX11_restoreSnapshot, cX11_restoreSnapshot, 1, some .boolean, 2, 83, 0, 0)
def md_Md_feed : Md := (yX11_feed, cX11_feed, 8, some .int, 0, 0, 0, 0)
def md_Md_errorPosition : Md := (yX11_errorPosition, cX11_errorPosition, 1, some .int, 0, 0, 0, 0)
def md_Md_byteAt : Md := (yX11_byteAt, cX11_byteAt, 2, some .int, 0, 0, 0, 0)
def md_Md_isLetter : Md := (yX11_isLetter, cX11_isLetter, 2, some .boolean, 1, 21, 0, 0)
def md_Md_isDigit : Md := (yX11_isDigit, cX11_isDigit, 2, some .boolean, 1, 21, 0, 0)
def md_Md_scan : Md := (yX11_scan, cX11_scan, 1, none, 2, 42, 0, 0)
def md_Md_startText : Md := (yX11_startText, cX11_startText, 2, none, 3, 62, 0, 0)
def md_Md_finish : Md := (yX11_finish, cX11_finish, 1, some .int, 0, 0, 0, 0)
def md_Md_demand : Md := (yX11_demand, cX11_demand, 3, none, 0, 0, 0, 0)
def md_Md_advance : Md := (yX11_advance, cX11_advance, 1, none, 3, 62, 0, 0)
def md_Md_isSymbol : Md := (yX11_isSymbol, cX11_isSymbol, 2, some .boolean, 0, 0, 0, 0)
def md_Md_expect : Md := (yX11_expect, cX11_expect, 2, none, 4, 82, 0, 0)
def md_Md_value : Md := (yX11_value, cX11_value, 3, some .int, 0, 0, 0, 0)
def md_Md_look : Md := (yX11_look, cX11_look, 4, some .int, 1, 22, 0, 0)
def md_Md_readNumber : Md := (yX11_readNumber, cX11_readNumber, 4, some .int, 4, 82, 0, 0)
def md_Md_readNewMark : Md := (yX11_readNewMark, cX11_readNewMark, 2, some .int, 4, 82, 0, 0)
def md_Md_readFirst : Md := (yX11_readFirst, cX11_readFirst, 2, some .int, 5, 105, 0, 0)
def md_Md_readSecond : Md := (yX11_readSecond, cX11_readSecond, 2, some .int, 5, 105, 0, 0)
def md_Md_doesFolder : Md := (yX11_doesFolder, cX11_doesFolder, 4, some .int, 4, 89, 0, 0)
def md_Md_doesSlip : Md := (yX11_doesSlip, cX11_doesSlip, 3, some .int, 4, 90, 0, 0)
def md_Md_does : Md := (yX11_does, cX11_does, 4, some .int, 8, 179, 0, 0)
theorem fl_X11_37 : Cond.fieldLink RX11 37 (TX11 14).1 (TX11 14).2.1 (TX11 14).2.2.1 ∈ aw := aw1 (by decide +kernel)
theorem lk_X11_223 : Lk md_Md_slipOf [.methodLink RX11 223 md_Md_slipOf.y, .instanceMethod md_Md_slipOf.y, .selects md_Md_slipOf.y.cls md_Md_slipOf.y md_Md_slipOf.y] := lk_of (by decide +kernel)
theorem ar_Md_slipOf : Arity md_Md_slipOf 2 := ⟨by decide +kernel, by decide +kernel, by decide +kernel⟩
theorem lk_X11_226 : Lk md_Md_areThere [.methodLink RX11 226 md_Md_areThere.y, .instanceMethod md_Md_areThere.y, .selects md_Md_areThere.y.cls md_Md_areThere.y md_Md_areThere.y] := lk_of (by decide +kernel)
theorem ar_Md_areThere : Arity md_Md_areThere 2 := ⟨by decide +kernel, by decide +kernel, by decide +kernel⟩
theorem lk_X11_229 : Lk md_Md_refusal [.methodLink RX11 229 md_Md_refusal.y, .instanceMethod md_Md_refusal.y, .selects md_Md_refusal.y.cls md_Md_refusal.y md_Md_refusal.y] := lk_of (by decide +kernel)
theorem ar_Md_refusal : Arity md_Md_refusal 2 := ⟨by decide +kernel, by decide +kernel, by decide +kernel⟩
theorem fl_X11_16 : Cond.fieldLink RX11 16 (TX11 2).1 (TX11 2).2.1 (TX11 2).2.2.1 ∈ aw := aw1 (by decide +kernel)
theorem lk_X11_238 : Lk md_Md_copy [.methodLink RX11 238 md_Md_copy.y, .static md_Md_copy.y] := lk_of (by decide +kernel)
theorem ar_Md_copy : Arity md_Md_copy 4 := ⟨by decide +kernel, by decide +kernel, by decide +kernel⟩
theorem lk_X11_242 : Lk md_Md_goAside [.methodLink RX11 242 md_Md_goAside.y, .instanceMethod md_Md_goAside.y, .selects md_Md_goAside.y.cls md_Md_goAside.y md_Md_goAside.y] := lk_of (by decide +kernel)
theorem ar_Md_goAside : Arity md_Md_goAside 0 := ⟨by decide +kernel, by decide +kernel, by decide +kernel⟩
theorem lk_X11_245 : Lk md_Md_laidBack [.methodLink RX11 245 md_Md_laidBack.y, .instanceMethod md_Md_laidBack.y, .selects md_Md_laidBack.y.cls md_Md_laidBack.y md_Md_laidBack.y] := lk_of (by decide +kernel)
theorem ar_Md_laidBack : Arity md_Md_laidBack 1 := ⟨by decide +kernel, by decide +kernel, by decide +kernel⟩
theorem lk_X11_248 : Lk md_Md_areDays [.methodLink RX11 248 md_Md_areDays.y, .static md_Md_areDays.y] := lk_of (by decide +kernel)
theorem ar_Md_areDays : Arity md_Md_areDays 1 := ⟨by decide +kernel, by decide +kernel, by decide +kernel⟩
theorem lk_X11_251 : Lk md_Md_passOn [.methodLink RX11 251 md_Md_passOn.y, .instanceMethod md_Md_passOn.y, .selects md_Md_passOn.y.cls md_Md_passOn.y md_Md_passOn.y] := lk_of (by decide +kernel)
theorem ar_Md_passOn : Arity md_Md_passOn 2 := ⟨by decide +kernel, by decide +kernel, by decide +kernel⟩
theorem lk_X11_254 : Lk md_Md_swapOn [.methodLink RX11 254 md_Md_swapOn.y, .instanceMethod md_Md_swapOn.y, .selects md_Md_swapOn.y.cls md_Md_swapOn.y md_Md_swapOn.y] := lk_of (by decide +kernel)
theorem ar_Md_swapOn : Arity md_Md_swapOn 1 := ⟨by decide +kernel, by decide +kernel, by decide +kernel⟩
theorem lk_X11_260 : Lk md_Md_addSlip [.methodLink RX11 260 md_Md_addSlip.y, .instanceMethod md_Md_addSlip.y, .selects md_Md_addSlip.y.cls md_Md_addSlip.y md_Md_addSlip.y] := lk_of (by decide +kernel)
theorem ar_Md_addSlip : Arity md_Md_addSlip 2 := ⟨by decide +kernel, by decide +kernel, by decide +kernel⟩
theorem lk_X11_257 : Lk md_Md_ends [.methodLink RX11 257 md_Md_ends.y, .instanceMethod md_Md_ends.y, .selects md_Md_ends.y.cls md_Md_ends.y md_Md_ends.y] := lk_of (by decide +kernel)
theorem ar_Md_ends : Arity md_Md_ends 1 := ⟨by decide +kernel, by decide +kernel, by decide +kernel⟩
theorem fl_X11_9 : Cond.fieldLink RX11 9 (TX11 0).1 (TX11 0).2.1 (TX11 0).2.2.1 ∈ aw := aw1 (by decide +kernel)
theorem fl_X11_19 : Cond.fieldLink RX11 19 (TX11 3).1 (TX11 3).2.1 (TX11 3).2.2.1 ∈ aw := aw1 (by decide +kernel)
theorem fl_X11_263 : Cond.fieldLink RX11 263 (TX11 8).1 (TX11 8).2.1 (TX11 8).2.2.1 ∈ aw := aw1 (by decide +kernel)
theorem fl_X11_25 : Cond.fieldLink RX11 25 (TX11 5).1 (TX11 5).2.1 (TX11 5).2.2.1 ∈ aw := aw1 (by decide +kernel)
theorem lk_X11_266 : Lk md_Md_record [.methodLink RX11 266 md_Md_record.y, .instanceMethod md_Md_record.y, .selects md_Md_record.y.cls md_Md_record.y md_Md_record.y] := lk_of (by decide +kernel)
theorem ar_Md_record : Arity md_Md_record 0 := ⟨by decide +kernel, by decide +kernel, by decide +kernel⟩
theorem lk_X11_269 : Lk md_Md_keep [.methodLink RX11 269 md_Md_keep.y, .instanceMethod md_Md_keep.y, .selects md_Md_keep.y.cls md_Md_keep.y md_Md_keep.y] := lk_of (by decide +kernel)
theorem ar_Md_keep : Arity md_Md_keep 0 := ⟨by decide +kernel, by decide +kernel, by decide +kernel⟩
theorem lk_X11_272 : Lk md_Md_doSlip [.methodLink RX11 272 md_Md_doSlip.y, .instanceMethod md_Md_doSlip.y, .selects md_Md_doSlip.y.cls md_Md_doSlip.y md_Md_doSlip.y] := lk_of (by decide +kernel)
theorem ar_Md_doSlip : Arity md_Md_doSlip 2 := ⟨by decide +kernel, by decide +kernel, by decide +kernel⟩
theorem lk_X11_275 : Lk md_Md_recorded [.methodLink RX11 275 md_Md_recorded.y, .instanceMethod md_Md_recorded.y, .selects md_Md_recorded.y.cls md_Md_recorded.y md_Md_recorded.y] := lk_of (by decide +kernel)
theorem ar_Md_recorded : Arity md_Md_recorded 1 := ⟨by decide +kernel, by decide +kernel, by decide +kernel⟩
theorem lk_X11_278 : Lk md_Md_doDrop [.methodLink RX11 278 md_Md_doDrop.y, .instanceMethod md_Md_doDrop.y, .selects md_Md_doDrop.y.cls md_Md_doDrop.y md_Md_doDrop.y] := lk_of (by decide +kernel)
theorem ar_Md_doDrop : Arity md_Md_doDrop 1 := ⟨by decide +kernel, by decide +kernel, by decide +kernel⟩
theorem lk_X11_281 : Lk md_Md_doReturn [.methodLink RX11 281 md_Md_doReturn.y, .instanceMethod md_Md_doReturn.y, .selects md_Md_doReturn.y.cls md_Md_doReturn.y md_Md_doReturn.y] := lk_of (by decide +kernel)
theorem ar_Md_doReturn : Arity md_Md_doReturn 1 := ⟨by decide +kernel, by decide +kernel, by decide +kernel⟩
theorem lk_X11_284 : Lk md_Md_doDays [.methodLink RX11 284 md_Md_doDays.y, .instanceMethod md_Md_doDays.y, .selects md_Md_doDays.y.cls md_Md_doDays.y md_Md_doDays.y] := lk_of (by decide +kernel)
theorem ar_Md_doDays : Arity md_Md_doDays 1 := ⟨by decide +kernel, by decide +kernel, by decide +kernel⟩
theorem lk_X11_287 : Lk md_Md_doMisfile [.methodLink RX11 287 md_Md_doMisfile.y, .instanceMethod md_Md_doMisfile.y, .selects md_Md_doMisfile.y.cls md_Md_doMisfile.y md_Md_doMisfile.y] := lk_of (by decide +kernel)
theorem ar_Md_doMisfile : Arity md_Md_doMisfile 2 := ⟨by decide +kernel, by decide +kernel, by decide +kernel⟩
theorem lk_X11_290 : Lk md_Md_doStraighten [.methodLink RX11 290 md_Md_doStraighten.y, .instanceMethod md_Md_doStraighten.y, .selects md_Md_doStraighten.y.cls md_Md_doStraighten.y md_Md_doStraighten.y] := lk_of (by decide +kernel)
theorem ar_Md_doStraighten : Arity md_Md_doStraighten 1 := ⟨by decide +kernel, by decide +kernel, by decide +kernel⟩
theorem lk_X11_293 : Lk md_Md_doCheck [.methodLink RX11 293 md_Md_doCheck.y, .instanceMethod md_Md_doCheck.y, .selects md_Md_doCheck.y.cls md_Md_doCheck.y md_Md_doCheck.y] := lk_of (by decide +kernel)
theorem ar_Md_doCheck : Arity md_Md_doCheck 1 := ⟨by decide +kernel, by decide +kernel, by decide +kernel⟩
theorem lk_X11_296 : Lk md_Md_doEmbargo [.methodLink RX11 296 md_Md_doEmbargo.y, .instanceMethod md_Md_doEmbargo.y, .selects md_Md_doEmbargo.y.cls md_Md_doEmbargo.y md_Md_doEmbargo.y] := lk_of (by decide +kernel)
theorem ar_Md_doEmbargo : Arity md_Md_doEmbargo 2 := ⟨by decide +kernel, by decide +kernel, by decide +kernel⟩
theorem fl_X11_40 : Cond.fieldLink RX11 40 (TX11 15).1 (TX11 15).2.1 (TX11 15).2.2.1 ∈ aw := aw1 (by decide +kernel)
theorem fl_X11_299 : Cond.fieldLink RX11 299 (TX11 16).1 (TX11 16).2.1 (TX11 16).2.2.1 ∈ aw := aw1 (by decide +kernel)
theorem lk_X11_302 : Lk md_Md_write [.methodLink RX11 302 md_Md_write.y, .instanceMethod md_Md_write.y, .selects md_Md_write.y.cls md_Md_write.y md_Md_write.y] := lk_of (by decide +kernel)
theorem ar_Md_write : Arity md_Md_write 1 := ⟨by decide +kernel, by decide +kernel, by decide +kernel⟩
theorem lk_X11_305 : Lk md_Md_writeNumber [.methodLink RX11 305 md_Md_writeNumber.y, .instanceMethod md_Md_writeNumber.y, .selects md_Md_writeNumber.y.cls md_Md_writeNumber.y md_Md_writeNumber.y] := lk_of (by decide +kernel)
theorem ar_Md_writeNumber : Arity md_Md_writeNumber 1 := ⟨by decide +kernel, by decide +kernel, by decide +kernel⟩
theorem fl_X11_22 : Cond.fieldLink RX11 22 (TX11 4).1 (TX11 4).2.1 (TX11 4).2.2.1 ∈ aw := aw1 (by decide +kernel)
theorem fl_X11_308 : Cond.fieldLink RX11 308 (TX11 10).1 (TX11 10).2.1 (TX11 10).2.2.1 ∈ aw := aw1 (by decide +kernel)
theorem fl_X11_312 : Cond.fieldLink RX11 312 (TX11 18).1 (TX11 18).2.1 (TX11 18).2.2.1 ∈ aw := aw1 (by decide +kernel)
theorem fl_X11_43 : Cond.fieldLink RX11 43 (TX11 17).1 (TX11 17).2.1 (TX11 17).2.2.1 ∈ aw := aw1 (by decide +kernel)
theorem fl_X11_46 : Cond.fieldLink RX11 46 (TX11 25).1 (TX11 25).2.1 (TX11 25).2.2.1 ∈ aw := aw1 (by decide +kernel)
theorem fl_X11_315 : Cond.fieldLink RX11 315 (TX11 19).1 (TX11 19).2.1 (TX11 19).2.2.1 ∈ aw := aw1 (by decide +kernel)
theorem lk_X11_318 : Lk md_Md_byteAt [.methodLink RX11 318 md_Md_byteAt.y, .instanceMethod md_Md_byteAt.y, .selects md_Md_byteAt.y.cls md_Md_byteAt.y md_Md_byteAt.y] := lk_of (by decide +kernel)
theorem ar_Md_byteAt : Arity md_Md_byteAt 1 := ⟨by decide +kernel, by decide +kernel, by decide +kernel⟩
theorem fl_X11_321 : Cond.fieldLink RX11 321 (TX11 20).1 (TX11 20).2.1 (TX11 20).2.2.1 ∈ aw := aw1 (by decide +kernel)
theorem fl_X11_324 : Cond.fieldLink RX11 324 (TX11 21).1 (TX11 21).2.1 (TX11 21).2.2.1 ∈ aw := aw1 (by decide +kernel)
theorem lk_X11_330 : Lk md_Md_isLetter [.methodLink RX11 330 md_Md_isLetter.y, .instanceMethod md_Md_isLetter.y, .selects md_Md_isLetter.y.cls md_Md_isLetter.y md_Md_isLetter.y] := lk_of (by decide +kernel)
theorem ar_Md_isLetter : Arity md_Md_isLetter 1 := ⟨by decide +kernel, by decide +kernel, by decide +kernel⟩
theorem lk_X11_333 : Lk md_Md_isDigit [.methodLink RX11 333 md_Md_isDigit.y, .instanceMethod md_Md_isDigit.y, .selects md_Md_isDigit.y.cls md_Md_isDigit.y md_Md_isDigit.y] := lk_of (by decide +kernel)
theorem ar_Md_isDigit : Arity md_Md_isDigit 1 := ⟨by decide +kernel, by decide +kernel, by decide +kernel⟩
theorem fl_X11_327 : Cond.fieldLink RX11 327 (TX11 22).1 (TX11 22).2.1 (TX11 22).2.2.1 ∈ aw := aw1 (by decide +kernel)
theorem fl_X11_336 : Cond.fieldLink RX11 336 (TX11 23).1 (TX11 23).2.1 (TX11 23).2.2.1 ∈ aw := aw1 (by decide +kernel)
theorem fl_X11_339 : Cond.fieldLink RX11 339 (TX11 26).1 (TX11 26).2.1 (TX11 26).2.2.1 ∈ aw := aw1 (by decide +kernel)
theorem lk_X11_342 : Lk md_Md_scan [.methodLink RX11 342 md_Md_scan.y, .instanceMethod md_Md_scan.y, .selects md_Md_scan.y.cls md_Md_scan.y md_Md_scan.y] := lk_of (by decide +kernel)
theorem ar_Md_scan : Arity md_Md_scan 0 := ⟨by decide +kernel, by decide +kernel, by decide +kernel⟩
theorem fl_X11_345 : Cond.fieldLink RX11 345 (TX11 24).1 (TX11 24).2.1 (TX11 24).2.2.1 ∈ aw := aw1 (by decide +kernel)
theorem lk_X11_359 : Lk md_Md_isSymbol [.methodLink RX11 359 md_Md_isSymbol.y, .instanceMethod md_Md_isSymbol.y, .selects md_Md_isSymbol.y.cls md_Md_isSymbol.y md_Md_isSymbol.y] := lk_of (by decide +kernel)
theorem ar_Md_isSymbol : Arity md_Md_isSymbol 1 := ⟨by decide +kernel, by decide +kernel, by decide +kernel⟩
theorem lk_X11_362 : Lk md_Md_demand [.methodLink RX11 362 md_Md_demand.y, .instanceMethod md_Md_demand.y, .selects md_Md_demand.y.cls md_Md_demand.y md_Md_demand.y] := lk_of (by decide +kernel)
theorem ar_Md_demand : Arity md_Md_demand 2 := ⟨by decide +kernel, by decide +kernel, by decide +kernel⟩
theorem lk_X11_366 : Lk md_Md_advance [.methodLink RX11 366 md_Md_advance.y, .instanceMethod md_Md_advance.y, .selects md_Md_advance.y.cls md_Md_advance.y md_Md_advance.y] := lk_of (by decide +kernel)
theorem ar_Md_advance : Arity md_Md_advance 0 := ⟨by decide +kernel, by decide +kernel, by decide +kernel⟩
theorem cn_X11_369 : Cond.constant RX11 369 9999999 ∈ aw := aw1 (by decide +kernel)
theorem lk_X11_370 : Lk md_Md_value [.methodLink RX11 370 md_Md_value.y, .instanceMethod md_Md_value.y, .selects md_Md_value.y.cls md_Md_value.y md_Md_value.y] := lk_of (by decide +kernel)
theorem ar_Md_value : Arity md_Md_value 0 := ⟨by decide +kernel, by decide +kernel, by decide +kernel⟩
theorem lk_X11_373 : Lk md_Md_look [.methodLink RX11 373 md_Md_look.y, .instanceMethod md_Md_look.y, .selects md_Md_look.y.cls md_Md_look.y md_Md_look.y] := lk_of (by decide +kernel)
theorem ar_Md_look : Arity md_Md_look 2 := ⟨by decide +kernel, by decide +kernel, by decide +kernel⟩
theorem lk_X11_384 : Lk md_Md_readNumber [.methodLink RX11 384 md_Md_readNumber.y, .instanceMethod md_Md_readNumber.y, .selects md_Md_readNumber.y.cls md_Md_readNumber.y md_Md_readNumber.y] := lk_of (by decide +kernel)
theorem ar_Md_readNumber : Arity md_Md_readNumber 2 := ⟨by decide +kernel, by decide +kernel, by decide +kernel⟩
theorem fl_X11_50 : Cond.fieldLink RX11 50 (TX11 27).1 (TX11 27).2.1 (TX11 27).2.2.1 ∈ aw := aw1 (by decide +kernel)
theorem lk_X11_416 : Lk md_Md_doesSlip [.methodLink RX11 416 md_Md_doesSlip.y, .instanceMethod md_Md_doesSlip.y, .selects md_Md_doesSlip.y.cls md_Md_doesSlip.y md_Md_doesSlip.y] := lk_of (by decide +kernel)
theorem ar_Md_doesSlip : Arity md_Md_doesSlip 2 := ⟨by decide +kernel, by decide +kernel, by decide +kernel⟩
theorem lk_X11_419 : Lk md_Md_doesFolder [.methodLink RX11 419 md_Md_doesFolder.y, .instanceMethod md_Md_doesFolder.y, .selects md_Md_doesFolder.y.cls md_Md_doesFolder.y md_Md_doesFolder.y] := lk_of (by decide +kernel)
theorem ar_Md_doesFolder : Arity md_Md_doesFolder 3 := ⟨by decide +kernel, by decide +kernel, by decide +kernel⟩
def Md_longestOrdered_L29 (ρ : Nat) (k : MdM → Int32 → Int32 → Int32 → Option (Int32 × MdM)) : Nat → MdM → Int32 → Int32 → Int32 → Option (Int32 × MdM)
  | 0, _, _, _, _ => none
  | n + 1, M, v1_700, v2_701, v3_702 => if v2_701 ≤ v3_702 then (k M v1_700 v2_701 v3_702) else (Option.bind (Md_markAt ρ M v3_702) fun q_704 => Option.bind (Md_markAt ρ M v2_701) fun q_705 => if q_705 ≤ q_704 then (if inB v2_701 24 then (if inB v2_701 24 then (Md_longestOrdered_L29 ρ k n (setA M 8 (upd (M.2 8) v2_701.toNatClampNeg ((M.2 8) v2_701.toNatClampNeg))) v1_700 v2_701 (v3_702 + 1)) else none) else none) else (if inB v3_702 24 then (if inB v2_701 24 then (if (M.2 8) v3_702.toNatClampNeg < (M.2 8) v2_701.toNatClampNeg then (if inB v2_701 24 then (if inB v2_701 24 then (Md_longestOrdered_L29 ρ k n (setA M 8 (upd (M.2 8) v2_701.toNatClampNeg ((M.2 8) v2_701.toNatClampNeg))) v1_700 v2_701 (v3_702 + 1)) else none) else none) else (if inB v3_702 24 then (if inB v2_701 24 then (Md_longestOrdered_L29 ρ k n (setA M 8 (upd (M.2 8) v2_701.toNatClampNeg (((M.2 8) v3_702.toNatClampNeg) + 1))) v1_700 v2_701 (v3_702 + 1)) else none) else none)) else none) else none))
def Md_longestOrdered_L9 (ρ : Nat) : Nat → MdM → Int32 → Int32 → Option (Int32 × MdM)
  | 0, _, _, _ => none
  | n + 1, M, v1_695, v2_696 => if (M.2 ρ) (6 : Int32).toNatClampNeg ≤ v2_696 then (some ((v1_695, M))) else (if inB v2_696 24 then (Md_longestOrdered_L29 ρ (fun M_725 v1_722 v2_723 v3_724 => if inB v2_723 24 then (if (M_725.2 8) v2_723.toNatClampNeg ≤ v1_722 then (Md_longestOrdered_L9 ρ n M_725 v1_722 (v2_723 + 1)) else (if inB v2_723 24 then (lt' ((M_725.2 8) v2_723.toNatClampNeg) fun v1_729 => Md_longestOrdered_L9 ρ n M_725 v1_729 (v2_723 + 1)) else none)) else none) FU (setA M 8 (upd (M.2 8) v2_696.toNatClampNeg 1)) v1_695 v2_696 0) else none)
def Md_longestOrdered (ρ : Nat) (M : MdM) : Option (Int32 × MdM) := Md_longestOrdered_L9 ρ FU (setF M 9 0) 0 0
set_option maxRecDepth 100000 in
set_option maxHeartbeats 4000000 in
theorem w_Md_longestOrdered_L29 {ρ : Nat} (hρ : ρ < 2) {X : Cx} {l : Launch} {g : Gl} (hx : Ok X l g RX11 cX11_longestOrdered 5 md_Md_longestOrdered.rm) {σ : Hp} {T : Nat} {ow : Nat → Option Nat} {r : Int32 × MdM} (hR : Ret X (rs (some (.int r.1)) (putMd σ T ow ρ r.2)) 0 0 (some .int)) (k : MdM → Int32 → Int32 → Int32 → Option (Int32 × MdM)) (hk : ∀ (M : MdM) (w1_719 w2_720 w3_721 : Int32), k M w1_719 w2_720 w3_721 = some r → G X (putMd σ T ow ρ M) 0 0 103 [(0, .ref T), (1, .int w1_719), (2, .int w2_720), (3, .int w3_721)] []) : ∀ (n : Nat) (M : MdM) (v1_700 v2_701 v3_702 : Int32), Md_longestOrdered_L29 ρ k n M v1_700 v2_701 v3_702 = some r → G X (putMd σ T ow ρ M) 0 0 29 [(0, .ref T), (1, .int v1_700), (2, .int v2_701), (3, .int v3_702)] [] := by
  intro n
  induction n with
  | zero =>
    intro M v1_700 v2_701 v3_702 hr
    rw [Md_longestOrdered_L29] at hr
    cases hr
  | succ n ih =>
    intro M v1_700 v2_701 v3_702 hr
    rw [Md_longestOrdered_L29] at hr
    refine g_iload_n hx 29 (i := 3) 3 dX11_longestOrdered_29 rfl rfl ?_
    refine g_iload_n hx 30 (i := 2) 2 dX11_longestOrdered_30 rfl rfl ?_
    refine g_icmp_ge hx 31 103 dX11_longestOrdered_31 (by decide) (fun hc_703 => ?_) (fun hc_703 => ?_)
    · have hr := (if_pos hc_703).symm.trans hr
      refine g_ls [0, 1, 2, 3] [(0, .ref T), (1, .int v1_700), (2, .int v2_701), (3, .int v3_702)] rfl ?_
      exact hk M v1_700 v2_701 v3_702 hr
    · have hr := (if_neg hc_703).symm.trans hr
      refine g_aload_n hx 34 (i := 0) 0 dX11_longestOrdered_34 rfl rfl ?_
      refine g_iload_n hx 35 (i := 3) 3 dX11_longestOrdered_35 rfl rfl ?_
      obtain ⟨q_704, eq_704, hr⟩ := bind_e hr
      refine g_callVr hx (c_Md_markAt hρ l g σ T ow M v3_702 eq_704) lk_X11_106 ar_Md_markAt (pM_o σ T ow ρ M) (T := TX11) (N := 30) rfl (As := [.int v3_702]) (rest := []) rfl (Nat.le_of_ble_eq_true rfl) ⟨Nat.le_of_ble_eq_true rfl, Nat.le_of_ble_eq_true rfl⟩ ⟨rfl, rfl⟩ ⟨Nat.zero_le _, Nat.zero_le _⟩ dX11_longestOrdered_36 ?_
      refine g_aload_n hx 39 (i := 0) 0 dX11_longestOrdered_39 rfl rfl ?_
      refine g_iload_n hx 40 (i := 2) 2 dX11_longestOrdered_40 rfl rfl ?_
      obtain ⟨q_705, eq_705, hr⟩ := bind_e hr
      refine g_callVr hx (c_Md_markAt hρ l g σ T ow M v2_701 eq_705) lk_X11_106 ar_Md_markAt (pM_o σ T ow ρ M) (T := TX11) (N := 30) rfl (As := [.int v2_701]) (rest := [.int q_704]) rfl (Nat.le_of_ble_eq_true rfl) ⟨Nat.le_of_ble_eq_true rfl, Nat.le_of_ble_eq_true rfl⟩ ⟨rfl, rfl⟩ ⟨Nat.zero_le _, Nat.zero_le _⟩ dX11_longestOrdered_41 ?_
      refine g_icmp_ge hx 44 66 dX11_longestOrdered_44 (by decide) (fun hc_706 => ?_) (fun hc_706 => ?_)
      · have hr := (if_pos hc_706).symm.trans hr
        refine g_iconst hx 66 (0) dX11_longestOrdered_66 rfl ?_
        refine g_istore hx 67 (i := 4) [(4, .int 0), (0, .ref T), (1, .int v1_700), (2, .int v2_701), (3, .int v3_702)] dX11_longestOrdered_67 (by decide) rfl ?_
        refine g_aload_n hx 69 (i := 0) 1 dX11_longestOrdered_69 rfl rfl ?_
        refine g_get hx 70 (C := RX11) (T := TX11) (N := 30) 14 (.ref (T + 9)) (pM_o σ T ow ρ M) rfl (by decide) rfl fl_X11_37 dX11_longestOrdered_70 ?_
        refine g_iload_n hx 73 (i := 2) 3 dX11_longestOrdered_73 rfl rfl ?_
        refine g_iload hx 74 (i := 4) 0 dX11_longestOrdered_74 rfl ?_
        refine g_if_eq hx 76 90 dX11_longestOrdered_76 (by decide) (fun hc_707 => ?_) (fun hc_707 => ?_)
        · refine g_aload_n hx 90 (i := 0) 1 dX11_longestOrdered_90 rfl rfl ?_
          refine g_get hx 91 (C := RX11) (T := TX11) (N := 30) 14 (.ref (T + 9)) (pM_o σ T ow ρ M) rfl (by decide) rfl fl_X11_37 dX11_longestOrdered_91 ?_
          refine g_iload_n hx 94 (i := 2) 3 dX11_longestOrdered_94 rfl rfl ?_
          obtain ⟨hb_708, hr⟩ := ob hr
          refine g_iald hx 95 (pM_a σ T ow ρ M 8 (by decide)) hb_708 dX11_longestOrdered_95 ?_
          obtain ⟨hb_709, hr⟩ := ob hr
          refine g_iast hx 96 (pM_a σ T ow ρ M 8 (by decide)) hb_709 dX11_longestOrdered_96 ?_
          refine G.heap (pM_s σ T ow ρ M 8 (by decide) (upd (M.2 8) v2_701.toNatClampNeg ((M.2 8) v2_701.toNatClampNeg))) ?_
          refine g_iinc hx 97 (i := 3) 4 (v3_702 + 1) [(3, .int (v3_702 + 1)), (4, .int 0), (0, .ref T), (1, .int v1_700), (2, .int v2_701)] dX11_longestOrdered_97 rfl rfl (by decide) rfl ?_
          refine g_goto hx 100 29 dX11_longestOrdered_100 (by decide) ?_
          refine g_ls [2, 3, 4, 0] [(0, .ref T), (1, .int v1_700), (2, .int v2_701), (3, .int (v3_702 + 1))] rfl ?_
          exact ih (setA M 8 (upd (M.2 8) v2_701.toNatClampNeg ((M.2 8) v2_701.toNatClampNeg))) v1_700 v2_701 (v3_702 + 1) hr
        · exact absurd (by decide) hc_707
      · have hr := (if_neg hc_706).symm.trans hr
        refine g_aload_n hx 47 (i := 0) 0 dX11_longestOrdered_47 rfl rfl ?_
        refine g_get hx 48 (C := RX11) (T := TX11) (N := 30) 14 (.ref (T + 9)) (pM_o σ T ow ρ M) rfl (by decide) rfl fl_X11_37 dX11_longestOrdered_48 ?_
        refine g_iload_n hx 51 (i := 3) 3 dX11_longestOrdered_51 rfl rfl ?_
        obtain ⟨hb_710, hr⟩ := ob hr
        refine g_iald hx 52 (pM_a σ T ow ρ M 8 (by decide)) hb_710 dX11_longestOrdered_52 ?_
        refine g_aload_n hx 53 (i := 0) 0 dX11_longestOrdered_53 rfl rfl ?_
        refine g_get hx 54 (C := RX11) (T := TX11) (N := 30) 14 (.ref (T + 9)) (pM_o σ T ow ρ M) rfl (by decide) rfl fl_X11_37 dX11_longestOrdered_54 ?_
        refine g_iload_n hx 57 (i := 2) 2 dX11_longestOrdered_57 rfl rfl ?_
        obtain ⟨hb_711, hr⟩ := ob hr
        refine g_iald hx 58 (pM_a σ T ow ρ M 8 (by decide)) hb_711 dX11_longestOrdered_58 ?_
        refine g_icmp_lt hx 59 66 dX11_longestOrdered_59 (by decide) (fun hc_712 => ?_) (fun hc_712 => ?_)
        · have hr := (if_pos hc_712).symm.trans hr
          refine g_iconst hx 66 (0) dX11_longestOrdered_66 rfl ?_
          refine g_istore hx 67 (i := 4) [(4, .int 0), (0, .ref T), (1, .int v1_700), (2, .int v2_701), (3, .int v3_702)] dX11_longestOrdered_67 (by decide) rfl ?_
          refine g_aload_n hx 69 (i := 0) 1 dX11_longestOrdered_69 rfl rfl ?_
          refine g_get hx 70 (C := RX11) (T := TX11) (N := 30) 14 (.ref (T + 9)) (pM_o σ T ow ρ M) rfl (by decide) rfl fl_X11_37 dX11_longestOrdered_70 ?_
          refine g_iload_n hx 73 (i := 2) 3 dX11_longestOrdered_73 rfl rfl ?_
          refine g_iload hx 74 (i := 4) 0 dX11_longestOrdered_74 rfl ?_
          refine g_if_eq hx 76 90 dX11_longestOrdered_76 (by decide) (fun hc_713 => ?_) (fun hc_713 => ?_)
          · refine g_aload_n hx 90 (i := 0) 1 dX11_longestOrdered_90 rfl rfl ?_
            refine g_get hx 91 (C := RX11) (T := TX11) (N := 30) 14 (.ref (T + 9)) (pM_o σ T ow ρ M) rfl (by decide) rfl fl_X11_37 dX11_longestOrdered_91 ?_
            refine g_iload_n hx 94 (i := 2) 3 dX11_longestOrdered_94 rfl rfl ?_
            obtain ⟨hb_714, hr⟩ := ob hr
            refine g_iald hx 95 (pM_a σ T ow ρ M 8 (by decide)) hb_714 dX11_longestOrdered_95 ?_
            obtain ⟨hb_715, hr⟩ := ob hr
            refine g_iast hx 96 (pM_a σ T ow ρ M 8 (by decide)) hb_715 dX11_longestOrdered_96 ?_
            refine G.heap (pM_s σ T ow ρ M 8 (by decide) (upd (M.2 8) v2_701.toNatClampNeg ((M.2 8) v2_701.toNatClampNeg))) ?_
            refine g_iinc hx 97 (i := 3) 4 (v3_702 + 1) [(3, .int (v3_702 + 1)), (4, .int 0), (0, .ref T), (1, .int v1_700), (2, .int v2_701)] dX11_longestOrdered_97 rfl rfl (by decide) rfl ?_
            refine g_goto hx 100 29 dX11_longestOrdered_100 (by decide) ?_
            refine g_ls [2, 3, 4, 0] [(0, .ref T), (1, .int v1_700), (2, .int v2_701), (3, .int (v3_702 + 1))] rfl ?_
            exact ih (setA M 8 (upd (M.2 8) v2_701.toNatClampNeg ((M.2 8) v2_701.toNatClampNeg))) v1_700 v2_701 (v3_702 + 1) hr
          · exact absurd (by decide) hc_713
        · have hr := (if_neg hc_712).symm.trans hr
          refine g_iconst hx 62 (1) dX11_longestOrdered_62 rfl ?_
          refine g_goto hx 63 67 dX11_longestOrdered_63 (by decide) ?_
          refine g_istore hx 67 (i := 4) [(4, .int 1), (0, .ref T), (1, .int v1_700), (2, .int v2_701), (3, .int v3_702)] dX11_longestOrdered_67 (by decide) rfl ?_
          refine g_aload_n hx 69 (i := 0) 1 dX11_longestOrdered_69 rfl rfl ?_
          refine g_get hx 70 (C := RX11) (T := TX11) (N := 30) 14 (.ref (T + 9)) (pM_o σ T ow ρ M) rfl (by decide) rfl fl_X11_37 dX11_longestOrdered_70 ?_
          refine g_iload_n hx 73 (i := 2) 3 dX11_longestOrdered_73 rfl rfl ?_
          refine g_iload hx 74 (i := 4) 0 dX11_longestOrdered_74 rfl ?_
          refine g_if_eq hx 76 90 dX11_longestOrdered_76 (by decide) (fun hc_716 => ?_) (fun hc_716 => ?_)
          · exact absurd hc_716 (by decide)
          · refine g_aload_n hx 79 (i := 0) 1 dX11_longestOrdered_79 rfl rfl ?_
            refine g_get hx 80 (C := RX11) (T := TX11) (N := 30) 14 (.ref (T + 9)) (pM_o σ T ow ρ M) rfl (by decide) rfl fl_X11_37 dX11_longestOrdered_80 ?_
            refine g_iload_n hx 83 (i := 3) 4 dX11_longestOrdered_83 rfl rfl ?_
            obtain ⟨hb_717, hr⟩ := ob hr
            refine g_iald hx 84 (pM_a σ T ow ρ M 8 (by decide)) hb_717 dX11_longestOrdered_84 ?_
            refine g_iconst hx 85 (1) dX11_longestOrdered_85 rfl ?_
            refine g_iadd hx 86 dX11_longestOrdered_86 ?_
            refine g_goto hx 87 96 dX11_longestOrdered_87 (by decide) ?_
            obtain ⟨hb_718, hr⟩ := ob hr
            refine g_iast hx 96 (pM_a σ T ow ρ M 8 (by decide)) hb_718 dX11_longestOrdered_96 ?_
            refine G.heap (pM_s σ T ow ρ M 8 (by decide) (upd (M.2 8) v2_701.toNatClampNeg (((M.2 8) v3_702.toNatClampNeg) + 1))) ?_
            refine g_iinc hx 97 (i := 3) 4 (v3_702 + 1) [(3, .int (v3_702 + 1)), (4, .int 1), (0, .ref T), (1, .int v1_700), (2, .int v2_701)] dX11_longestOrdered_97 rfl rfl (by decide) rfl ?_
            refine g_goto hx 100 29 dX11_longestOrdered_100 (by decide) ?_
            refine g_ls [2, 3, 4, 0] [(0, .ref T), (1, .int v1_700), (2, .int v2_701), (3, .int (v3_702 + 1))] rfl ?_
            exact ih (setA M 8 (upd (M.2 8) v2_701.toNatClampNeg (((M.2 8) v3_702.toNatClampNeg) + 1))) v1_700 v2_701 (v3_702 + 1) hr
set_option maxRecDepth 100000 in
set_option maxHeartbeats 4000000 in
theorem w_Md_longestOrdered_L9 {ρ : Nat} (hρ : ρ < 2) {X : Cx} {l : Launch} {g : Gl} (hx : Ok X l g RX11 cX11_longestOrdered 5 md_Md_longestOrdered.rm) {σ : Hp} {T : Nat} {ow : Nat → Option Nat} {r : Int32 × MdM} (hR : Ret X (rs (some (.int r.1)) (putMd σ T ow ρ r.2)) 0 0 (some .int)) : ∀ (n : Nat) (M : MdM) (v1_695 v2_696 : Int32), Md_longestOrdered_L9 ρ n M v1_695 v2_696 = some r → G X (putMd σ T ow ρ M) 0 0 9 [(0, .ref T), (1, .int v1_695), (2, .int v2_696)] [] := by
  intro n
  induction n with
  | zero =>
    intro M v1_695 v2_696 hr
    rw [Md_longestOrdered_L9] at hr
    cases hr
  | succ n ih =>
    intro M v1_695 v2_696 hr
    rw [Md_longestOrdered_L9] at hr
    refine g_iload_n hx 9 (i := 2) 2 dX11_longestOrdered_9 rfl rfl ?_
    refine g_aload_n hx 10 (i := 0) 0 dX11_longestOrdered_10 rfl rfl ?_
    refine g_get hx 11 (C := RX11) (T := TX11) (N := 30) 7 (.ref (T + 1 + ρ)) (pM_o σ T ow ρ M) rfl (by decide) rfl fl_X11_31 dX11_longestOrdered_11 ?_
    refine g_bipush hx 14 (6) dX11_longestOrdered_14 rfl ?_
    refine g_iald hx 16 (pM_row hρ σ T ow M) (by decide : inB 6 257) dX11_longestOrdered_16 ?_
    refine g_icmp_ge hx 17 130 dX11_longestOrdered_17 (by decide) (fun hc_698 => ?_) (fun hc_698 => ?_)
    · have hr := (if_pos hc_698).symm.trans hr
      refine g_iload_n hx 130 (i := 1) 1 dX11_longestOrdered_130 rfl rfl ?_
      exact g_iret hx hR 131 dX11_longestOrdered_131 ⟨by rw [← Option.some.inj hr] <;> rfl, by rw [← Option.some.inj hr] <;> rfl⟩
    · have hr := (if_neg hc_698).symm.trans hr
      refine g_aload_n hx 20 (i := 0) 0 dX11_longestOrdered_20 rfl rfl ?_
      refine g_get hx 21 (C := RX11) (T := TX11) (N := 30) 14 (.ref (T + 9)) (pM_o σ T ow ρ M) rfl (by decide) rfl fl_X11_37 dX11_longestOrdered_21 ?_
      refine g_iload_n hx 24 (i := 2) 2 dX11_longestOrdered_24 rfl rfl ?_
      refine g_iconst hx 25 (1) dX11_longestOrdered_25 rfl ?_
      obtain ⟨hb_699, hr⟩ := ob hr
      refine g_iast hx 26 (pM_a σ T ow ρ M 8 (by decide)) hb_699 dX11_longestOrdered_26 ?_
      refine G.heap (pM_s σ T ow ρ M 8 (by decide) (upd (M.2 8) v2_696.toNatClampNeg 1)) ?_
      refine g_iconst hx 27 (0) dX11_longestOrdered_27 rfl ?_
      refine g_istore_n hx 28 (i := 3) [(3, .int 0), (0, .ref T), (1, .int v1_695), (2, .int v2_696)] dX11_longestOrdered_28 rfl (by decide) rfl ?_
      refine g_ls [1, 2, 3, 0] [(0, .ref T), (1, .int v1_695), (2, .int v2_696), (3, .int 0)] rfl ?_
      refine w_Md_longestOrdered_L29 hρ hx hR _ (fun M_725 v1_722 v2_723 v3_724 hr => ?_) FU (setA M 8 (upd (M.2 8) v2_696.toNatClampNeg 1)) v1_695 v2_696 0 hr
      refine g_aload_n hx 103 (i := 0) 0 dX11_longestOrdered_103 rfl rfl ?_
      refine g_get hx 104 (C := RX11) (T := TX11) (N := 30) 14 (.ref (T + 9)) (pM_o σ T ow ρ M_725) rfl (by decide) rfl fl_X11_37 dX11_longestOrdered_104 ?_
      refine g_iload_n hx 107 (i := 2) 2 dX11_longestOrdered_107 rfl rfl ?_
      obtain ⟨hb_726, hr⟩ := ob hr
      refine g_iald hx 108 (pM_a σ T ow ρ M_725 8 (by decide)) hb_726 dX11_longestOrdered_108 ?_
      refine g_iload_n hx 109 (i := 1) 1 dX11_longestOrdered_109 rfl rfl ?_
      refine g_icmp_le hx 110 122 dX11_longestOrdered_110 (by decide) (fun hc_727 => ?_) (fun hc_727 => ?_)
      · have hr := (if_pos hc_727).symm.trans hr
        refine g_iload_n hx 122 (i := 1) 1 dX11_longestOrdered_122 rfl rfl ?_
        refine g_istore_n hx 123 (i := 1) [(1, .int v1_722), (0, .ref T), (2, .int v2_723), (3, .int v3_724)] dX11_longestOrdered_123 rfl (by decide) rfl ?_
        refine g_iinc hx 124 (i := 2) 2 (v2_723 + 1) [(2, .int (v2_723 + 1)), (1, .int v1_722), (0, .ref T), (3, .int v3_724)] dX11_longestOrdered_124 rfl rfl (by decide) rfl ?_
        refine g_goto hx 127 9 dX11_longestOrdered_127 (by decide) ?_
        refine g_ls [2, 1, 0] [(0, .ref T), (1, .int v1_722), (2, .int (v2_723 + 1))] rfl ?_
        exact ih M_725 v1_722 (v2_723 + 1) hr
      · have hr := (if_neg hc_727).symm.trans hr
        refine g_aload_n hx 113 (i := 0) 0 dX11_longestOrdered_113 rfl rfl ?_
        refine g_get hx 114 (C := RX11) (T := TX11) (N := 30) 14 (.ref (T + 9)) (pM_o σ T ow ρ M_725) rfl (by decide) rfl fl_X11_37 dX11_longestOrdered_114 ?_
        refine g_iload_n hx 117 (i := 2) 2 dX11_longestOrdered_117 rfl rfl ?_
        obtain ⟨hb_728, hr⟩ := ob hr
        refine g_iald hx 118 (pM_a σ T ow ρ M_725 8 (by decide)) hb_728 dX11_longestOrdered_118 ?_
        refine g_goto hx 119 123 dX11_longestOrdered_119 (by decide) ?_
        obtain ⟨v1_729, ev1_729, hr⟩ := lt'_e hr
        refine g_nmi ev1_729 ?_
        refine g_istore_n hx 123 (i := 1) [(1, .int v1_729), (0, .ref T), (2, .int v2_723), (3, .int v3_724)] dX11_longestOrdered_123 rfl (by decide) rfl ?_
        refine g_iinc hx 124 (i := 2) 2 (v2_723 + 1) [(2, .int (v2_723 + 1)), (1, .int v1_729), (0, .ref T), (3, .int v3_724)] dX11_longestOrdered_124 rfl rfl (by decide) rfl ?_
        refine g_goto hx 127 9 dX11_longestOrdered_127 (by decide) ?_
        refine g_ls [2, 1, 0] [(0, .ref T), (1, .int v1_729), (2, .int (v2_723 + 1))] rfl ?_
        exact ih M_725 v1_729 (v2_723 + 1) hr
set_option maxRecDepth 100000 in
set_option maxHeartbeats 4000000 in
theorem c_Md_longestOrdered {ρ : Nat} (hρ : ρ < 2) (l : Launch) (g : Gl) (σ : Hp) (T : Nat) (ow : Nat → Option Nat) (M : MdM) {r : Int32 × MdM} (hr : Md_longestOrdered ρ M = some r) : MG l g md_Md_longestOrdered [.ref T] (putMd σ T ow ρ M) (rs (some (.int r.1)) (putMd σ T ow ρ r.2)) := by
  refine MG.intro (by decide +kernel) (Nat.le_of_ble_eq_true rfl) (fun X hx hR _ => ?_)
  unfold Md_longestOrdered at hr
  refine g_ls [0] [(0, .ref T)] rfl ?_
  refine g_aload_n hx 0 (i := 0) 0 dX11_longestOrdered_0 rfl rfl ?_
  refine g_iconst hx 1 (0) dX11_longestOrdered_1 rfl ?_
  refine g_put hx 2 (C := RX11) (T := TX11) (N := 30) 9 .int _ (pM_o σ T ow ρ M) rfl (by decide) fl_X11_81 rfl rfl rfl rfl (Nat.le_of_ble_eq_true rfl) rfl dX11_longestOrdered_2 ?_
  refine G.heap (pM_f σ T ow ρ M 9 0) ?_
  refine g_iconst hx 5 (0) dX11_longestOrdered_5 rfl ?_
  refine g_istore_n hx 6 (i := 1) [(1, .int 0), (0, .ref T)] dX11_longestOrdered_6 rfl (by decide) rfl ?_
  refine g_iconst hx 7 (0) dX11_longestOrdered_7 rfl ?_
  refine g_istore_n hx 8 (i := 2) [(2, .int 0), (1, .int 0), (0, .ref T)] dX11_longestOrdered_8 rfl (by decide) rfl ?_
  refine g_ls [2, 1, 0] [(0, .ref T), (1, .int 0), (2, .int 0)] rfl ?_
  exact w_Md_longestOrdered_L9 hρ hx hR FU (setF M 9 0) 0 0 hr
def Md_refusal (ρ : Nat) (M : MdM) (p1 p2 : Int32) : Option (Int32) := Option.bind (Md_isIn ρ M p2 1) fun q_730 => if q_730 = 0 then (Option.bind (Md_slipOf ρ M p1 p2) fun q_732 => if q_732 = (-1) then (if (M.2 ρ) (8 : Int32).toNatClampNeg = 16 then (some ((-4))) else (some (0))) else (some ((-3)))) else (Option.bind (Md_of ρ M p2 3) fun q_736 => if q_736 = p1 then (some ((-2))) else (Option.bind (Md_slipOf ρ M p1 p2) fun q_738 => if q_738 = (-1) then (if (M.2 ρ) (8 : Int32).toNatClampNeg = 16 then (some ((-4))) else (some (0))) else (some ((-3)))))
set_option maxRecDepth 100000 in
set_option maxHeartbeats 4000000 in
theorem c_Md_refusal {ρ : Nat} (hρ : ρ < 2) (l : Launch) (g : Gl) (σ : Hp) (T : Nat) (ow : Nat → Option Nat) (M : MdM) (p1 p2 : Int32) {r : Int32} (hr : Md_refusal ρ M p1 p2 = some r) : MG l g md_Md_refusal [.ref T, .int p1, .int p2] (putMd σ T ow ρ M) (rs (some (.int r)) (putMd σ T ow ρ M)) := by
  refine MG.intro (by decide +kernel) (Nat.le_of_ble_eq_true rfl) (fun X hx hR _ => ?_)
  unfold Md_refusal at hr
  refine g_ls [0, 1, 2] [(0, .ref T), (1, .int p1), (2, .int p2)] rfl ?_
  refine g_aload_n hx 0 (i := 0) 0 dX11_refusal_0 rfl rfl ?_
  refine g_iload_n hx 1 (i := 2) 2 dX11_refusal_1 rfl rfl ?_
  refine g_iconst hx 2 (1) dX11_refusal_2 rfl ?_
  obtain ⟨q_730, eq_730, hr⟩ := bind_e hr
  refine g_callVr hx (c_Md_isIn hρ l g σ T ow M p2 1 eq_730) lk_X11_126 ar_Md_isIn (pM_o σ T ow ρ M) (T := TX11) (N := 30) rfl (As := [.int p2, .int 1]) (rest := []) rfl (Nat.le_of_ble_eq_true rfl) ⟨Nat.le_of_ble_eq_true rfl, Nat.le_of_ble_eq_true rfl⟩ ⟨rfl, rfl⟩ ⟨Nat.zero_le _, Nat.zero_le _⟩ dX11_refusal_3 ?_
  refine g_if_eq hx 6 22 dX11_refusal_6 (by decide) (fun hc_731 => ?_) (fun hc_731 => ?_)
  · have hr := (if_pos hc_731).symm.trans hr
    refine g_aload_n hx 22 (i := 0) 0 dX11_refusal_22 rfl rfl ?_
    refine g_iload_n hx 23 (i := 1) 1 dX11_refusal_23 rfl rfl ?_
    refine g_iload_n hx 24 (i := 2) 2 dX11_refusal_24 rfl rfl ?_
    obtain ⟨q_732, eq_732, hr⟩ := bind_e hr
    refine g_callVr hx (c_Md_slipOf hρ l g σ T ow M p1 p2 eq_732) lk_X11_223 ar_Md_slipOf (pM_o σ T ow ρ M) (T := TX11) (N := 30) rfl (As := [.int p1, .int p2]) (rest := []) rfl (Nat.le_of_ble_eq_true rfl) ⟨Nat.le_of_ble_eq_true rfl, Nat.le_of_ble_eq_true rfl⟩ ⟨rfl, rfl⟩ ⟨Nat.zero_le _, Nat.zero_le _⟩ dX11_refusal_25 ?_
    refine g_iconst hx 28 (-1) dX11_refusal_28 rfl ?_
    refine g_icmp_eq hx 29 35 dX11_refusal_29 (by decide) (fun hc_733 => ?_) (fun hc_733 => ?_)
    · have hr := (if_pos hc_733).symm.trans hr
      refine g_aload_n hx 35 (i := 0) 0 dX11_refusal_35 rfl rfl ?_
      refine g_get hx 36 (C := RX11) (T := TX11) (N := 30) 7 (.ref (T + 1 + ρ)) (pM_o σ T ow ρ M) rfl (by decide) rfl fl_X11_31 dX11_refusal_36 ?_
      refine g_bipush hx 39 (8) dX11_refusal_39 rfl ?_
      refine g_iald hx 41 (pM_row hρ σ T ow M) (by decide : inB 8 257) dX11_refusal_41 ?_
      refine g_bipush hx 42 (16) dX11_refusal_42 rfl ?_
      refine g_icmp_ne hx 44 52 dX11_refusal_44 (by decide) (fun hc_735 => ?_) (fun hc_735 => ?_)
      · have hr := (if_neg hc_735).symm.trans hr
        refine g_iconst hx 52 (0) dX11_refusal_52 rfl ?_
        exact g_iret hx hR 53 dX11_refusal_53 ⟨by rw [← Option.some.inj hr] <;> rfl, rfl⟩
      · have hr := (if_pos hc_735).symm.trans hr
        refine g_bipush hx 47 (-4) dX11_refusal_47 rfl ?_
        refine g_goto hx 49 53 dX11_refusal_49 (by decide) ?_
        exact g_iret hx hR 53 dX11_refusal_53 ⟨by rw [← Option.some.inj hr] <;> rfl, rfl⟩
    · have hr := (if_neg hc_733).symm.trans hr
      refine g_bipush hx 32 (-3) dX11_refusal_32 rfl ?_
      exact g_iret hx hR 34 dX11_refusal_34 ⟨by rw [← Option.some.inj hr] <;> rfl, rfl⟩
  · have hr := (if_neg hc_731).symm.trans hr
    refine g_aload_n hx 9 (i := 0) 0 dX11_refusal_9 rfl rfl ?_
    refine g_iload_n hx 10 (i := 2) 2 dX11_refusal_10 rfl rfl ?_
    refine g_iconst hx 11 (3) dX11_refusal_11 rfl ?_
    obtain ⟨q_736, eq_736, hr⟩ := bind_e hr
    refine g_callVr hx (c_Md_of hρ l g σ T ow M p2 3 eq_736) lk_X11_95 ar_Md_of (pM_o σ T ow ρ M) (T := TX11) (N := 30) rfl (As := [.int p2, .int 3]) (rest := []) rfl (Nat.le_of_ble_eq_true rfl) ⟨Nat.le_of_ble_eq_true rfl, Nat.le_of_ble_eq_true rfl⟩ ⟨rfl, rfl⟩ ⟨Nat.zero_le _, Nat.zero_le _⟩ dX11_refusal_12 ?_
    refine g_iload_n hx 15 (i := 1) 1 dX11_refusal_15 rfl rfl ?_
    refine g_icmp_ne hx 16 22 dX11_refusal_16 (by decide) (fun hc_737 => ?_) (fun hc_737 => ?_)
    · have hr := (if_neg hc_737).symm.trans hr
      refine g_aload_n hx 22 (i := 0) 0 dX11_refusal_22 rfl rfl ?_
      refine g_iload_n hx 23 (i := 1) 1 dX11_refusal_23 rfl rfl ?_
      refine g_iload_n hx 24 (i := 2) 2 dX11_refusal_24 rfl rfl ?_
      obtain ⟨q_738, eq_738, hr⟩ := bind_e hr
      refine g_callVr hx (c_Md_slipOf hρ l g σ T ow M p1 p2 eq_738) lk_X11_223 ar_Md_slipOf (pM_o σ T ow ρ M) (T := TX11) (N := 30) rfl (As := [.int p1, .int p2]) (rest := []) rfl (Nat.le_of_ble_eq_true rfl) ⟨Nat.le_of_ble_eq_true rfl, Nat.le_of_ble_eq_true rfl⟩ ⟨rfl, rfl⟩ ⟨Nat.zero_le _, Nat.zero_le _⟩ dX11_refusal_25 ?_
      refine g_iconst hx 28 (-1) dX11_refusal_28 rfl ?_
      refine g_icmp_eq hx 29 35 dX11_refusal_29 (by decide) (fun hc_739 => ?_) (fun hc_739 => ?_)
      · have hr := (if_pos hc_739).symm.trans hr
        refine g_aload_n hx 35 (i := 0) 0 dX11_refusal_35 rfl rfl ?_
        refine g_get hx 36 (C := RX11) (T := TX11) (N := 30) 7 (.ref (T + 1 + ρ)) (pM_o σ T ow ρ M) rfl (by decide) rfl fl_X11_31 dX11_refusal_36 ?_
        refine g_bipush hx 39 (8) dX11_refusal_39 rfl ?_
        refine g_iald hx 41 (pM_row hρ σ T ow M) (by decide : inB 8 257) dX11_refusal_41 ?_
        refine g_bipush hx 42 (16) dX11_refusal_42 rfl ?_
        refine g_icmp_ne hx 44 52 dX11_refusal_44 (by decide) (fun hc_741 => ?_) (fun hc_741 => ?_)
        · have hr := (if_neg hc_741).symm.trans hr
          refine g_iconst hx 52 (0) dX11_refusal_52 rfl ?_
          exact g_iret hx hR 53 dX11_refusal_53 ⟨by rw [← Option.some.inj hr] <;> rfl, rfl⟩
        · have hr := (if_pos hc_741).symm.trans hr
          refine g_bipush hx 47 (-4) dX11_refusal_47 rfl ?_
          refine g_goto hx 49 53 dX11_refusal_49 (by decide) ?_
          exact g_iret hx hR 53 dX11_refusal_53 ⟨by rw [← Option.some.inj hr] <;> rfl, rfl⟩
      · have hr := (if_neg hc_739).symm.trans hr
        refine g_bipush hx 32 (-3) dX11_refusal_32 rfl ?_
        exact g_iret hx hR 34 dX11_refusal_34 ⟨by rw [← Option.some.inj hr] <;> rfl, rfl⟩
    · have hr := (if_pos hc_737).symm.trans hr
      refine g_bipush hx 19 (-2) dX11_refusal_19 rfl ?_
      exact g_iret hx hR 21 dX11_refusal_21 ⟨by rw [← Option.some.inj hr] <;> rfl, rfl⟩
def Md_areThere (ρ : Nat) (M : MdM) (p1 p2 : Int32) : Option (Int32) := Option.bind (Md_isReader ρ M p1) fun q_742 => if q_742 = 0 then (some (0)) else (Option.bind (Md_isFolder ρ M p2) fun q_744 => if q_744 = 0 then (some (0)) else (some (1)))
set_option maxRecDepth 100000 in
set_option maxHeartbeats 4000000 in
theorem c_Md_areThere {ρ : Nat} (hρ : ρ < 2) (l : Launch) (g : Gl) (σ : Hp) (T : Nat) (ow : Nat → Option Nat) (M : MdM) (p1 p2 : Int32) {r : Int32} (hr : Md_areThere ρ M p1 p2 = some r) : MG l g md_Md_areThere [.ref T, .int p1, .int p2] (putMd σ T ow ρ M) (rs (some (.int r)) (putMd σ T ow ρ M)) := by
  refine MG.intro (by decide +kernel) (Nat.le_of_ble_eq_true rfl) (fun X hx hR _ => ?_)
  unfold Md_areThere at hr
  refine g_ls [0, 1, 2] [(0, .ref T), (1, .int p1), (2, .int p2)] rfl ?_
  refine g_aload_n hx 0 (i := 0) 0 dX11_areThere_0 rfl rfl ?_
  refine g_iload_n hx 1 (i := 1) 1 dX11_areThere_1 rfl rfl ?_
  obtain ⟨q_742, eq_742, hr⟩ := bind_e hr
  refine g_callVr hx (c_Md_isReader hρ l g σ T ow M p1 eq_742) lk_X11_201 ar_Md_isReader (pM_o σ T ow ρ M) (T := TX11) (N := 30) rfl (As := [.int p1]) (rest := []) rfl (Nat.le_of_ble_eq_true rfl) ⟨Nat.le_of_ble_eq_true rfl, Nat.le_of_ble_eq_true rfl⟩ ⟨rfl, rfl⟩ ⟨Nat.zero_le _, Nat.zero_le _⟩ dX11_areThere_2 ?_
  refine g_if_eq hx 5 20 dX11_areThere_5 (by decide) (fun hc_743 => ?_) (fun hc_743 => ?_)
  · have hr := (if_pos hc_743).symm.trans hr
    refine g_iconst hx 20 (0) dX11_areThere_20 rfl ?_
    exact g_zret hx hR 21 (Or.inl rfl) dX11_areThere_21 ⟨by rw [← Option.some.inj hr] <;> rfl, rfl⟩
  · have hr := (if_neg hc_743).symm.trans hr
    refine g_aload_n hx 8 (i := 0) 0 dX11_areThere_8 rfl rfl ?_
    refine g_iload_n hx 9 (i := 2) 2 dX11_areThere_9 rfl rfl ?_
    obtain ⟨q_744, eq_744, hr⟩ := bind_e hr
    refine g_callVr hx (c_Md_isFolder hρ l g σ T ow M p2 eq_744) lk_X11_186 ar_Md_isFolder (pM_o σ T ow ρ M) (T := TX11) (N := 30) rfl (As := [.int p2]) (rest := []) rfl (Nat.le_of_ble_eq_true rfl) ⟨Nat.le_of_ble_eq_true rfl, Nat.le_of_ble_eq_true rfl⟩ ⟨rfl, rfl⟩ ⟨Nat.zero_le _, Nat.zero_le _⟩ dX11_areThere_10 ?_
    refine g_if_eq hx 13 20 dX11_areThere_13 (by decide) (fun hc_745 => ?_) (fun hc_745 => ?_)
    · have hr := (if_pos hc_745).symm.trans hr
      refine g_iconst hx 20 (0) dX11_areThere_20 rfl ?_
      exact g_zret hx hR 21 (Or.inl rfl) dX11_areThere_21 ⟨by rw [← Option.some.inj hr] <;> rfl, rfl⟩
    · have hr := (if_neg hc_745).symm.trans hr
      refine g_iconst hx 16 (1) dX11_areThere_16 rfl ?_
      refine g_goto hx 17 21 dX11_areThere_17 (by decide) ?_
      exact g_zret hx hR 21 (Or.inr rfl) dX11_areThere_21 ⟨by rw [← Option.some.inj hr] <;> rfl, rfl⟩
def Md_why (ρ : Nat) (M : MdM) (p1 p2 : Int32) : Option (Int32 × MdM) := Option.bind (Md_areThere ρ M p1 p2) fun q_746 => lt' (Md_lacks ρ M q_746) fun q_747 => if q_747.1 = 0 then (Option.bind (Md_refusal ρ q_747.2 p1 p2) fun q_749 => some ((q_749, q_747.2))) else (some ((0, q_747.2)))
set_option maxRecDepth 100000 in
set_option maxHeartbeats 4000000 in
theorem c_Md_why {ρ : Nat} (hρ : ρ < 2) (l : Launch) (g : Gl) (σ : Hp) (T : Nat) (ow : Nat → Option Nat) (M : MdM) (p1 p2 : Int32) {r : Int32 × MdM} (hr : Md_why ρ M p1 p2 = some r) : MG l g md_Md_why [.ref T, .int p1, .int p2] (putMd σ T ow ρ M) (rs (some (.int r.1)) (putMd σ T ow ρ r.2)) := by
  refine MG.intro (by decide +kernel) (Nat.le_of_ble_eq_true rfl) (fun X hx hR _ => ?_)
  unfold Md_why at hr
  refine g_ls [0, 1, 2] [(0, .ref T), (1, .int p1), (2, .int p2)] rfl ?_
  refine g_aload_n hx 0 (i := 0) 0 dX11_why_0 rfl rfl ?_
  refine g_aload_n hx 1 (i := 0) 0 dX11_why_1 rfl rfl ?_
  refine g_iload_n hx 2 (i := 1) 1 dX11_why_2 rfl rfl ?_
  refine g_iload_n hx 3 (i := 2) 2 dX11_why_3 rfl rfl ?_
  obtain ⟨q_746, eq_746, hr⟩ := bind_e hr
  refine g_callVr hx (c_Md_areThere hρ l g σ T ow M p1 p2 eq_746) lk_X11_226 ar_Md_areThere (pM_o σ T ow ρ M) (T := TX11) (N := 30) rfl (As := [.int p1, .int p2]) (rest := [.ref T]) rfl (Nat.le_of_ble_eq_true rfl) ⟨Nat.le_of_ble_eq_true rfl, Nat.le_of_ble_eq_true rfl⟩ ⟨rfl, rfl⟩ ⟨Nat.zero_le _, Nat.zero_le _⟩ dX11_why_4 ?_
  obtain ⟨q_747, eq_747, hr⟩ := lt'_e hr
  refine g_callVr hx (c_Md_lacks hρ l g σ T ow M q_746 eq_747.symm) lk_X11_170 ar_Md_lacks (pM_o σ T ow ρ M) (T := TX11) (N := 30) rfl (As := [.int q_746]) (rest := []) rfl (Nat.le_of_ble_eq_true rfl) ⟨Nat.le_of_ble_eq_true rfl, Nat.le_of_ble_eq_true rfl⟩ ⟨rfl, rfl⟩ ⟨Nat.zero_le _, Nat.zero_le _⟩ dX11_why_7 ?_
  refine g_if_eq hx 10 17 dX11_why_10 (by decide) (fun hc_748 => ?_) (fun hc_748 => ?_)
  · have hr := (if_pos hc_748).symm.trans hr
    refine g_aload_n hx 17 (i := 0) 0 dX11_why_17 rfl rfl ?_
    refine g_iload_n hx 18 (i := 1) 1 dX11_why_18 rfl rfl ?_
    refine g_iload_n hx 19 (i := 2) 2 dX11_why_19 rfl rfl ?_
    obtain ⟨q_749, eq_749, hr⟩ := bind_e hr
    refine g_callVr hx (c_Md_refusal hρ l g σ T ow q_747.2 p1 p2 eq_749) lk_X11_229 ar_Md_refusal (pM_o σ T ow ρ q_747.2) (T := TX11) (N := 30) rfl (As := [.int p1, .int p2]) (rest := []) rfl (Nat.le_of_ble_eq_true rfl) ⟨Nat.le_of_ble_eq_true rfl, Nat.le_of_ble_eq_true rfl⟩ ⟨rfl, rfl⟩ ⟨Nat.zero_le _, Nat.zero_le _⟩ dX11_why_20 ?_
    exact g_iret hx hR 23 dX11_why_23 ⟨by rw [← Option.some.inj hr] <;> rfl, by rw [← Option.some.inj hr] <;> rfl⟩
  · have hr := (if_neg hc_748).symm.trans hr
    refine g_iconst hx 13 (0) dX11_why_13 rfl ?_
    refine g_goto hx 14 23 dX11_why_14 (by decide) ?_
    exact g_iret hx hR 23 dX11_why_23 ⟨by rw [← Option.some.inj hr] <;> rfl, by rw [← Option.some.inj hr] <;> rfl⟩
def Md_cause (ρ : Nat) (M : MdM) (p1 p2 : Int32) : Option (Int32 × MdM) := Option.bind (Md_areThere ρ M p1 p2) fun q_750 => lt' (Md_lacks ρ M q_750) fun q_751 => if q_751.1 = 0 then (Option.bind (Md_refusal ρ q_751.2 p1 p2) fun q_753 => if q_753 = (-3) then (Option.bind (Md_slipOf ρ q_751.2 p1 p2) fun q_755 => some ((q_755, q_751.2))) else (some (((-1), q_751.2)))) else (some ((0, q_751.2)))
set_option maxRecDepth 100000 in
set_option maxHeartbeats 4000000 in
theorem c_Md_cause {ρ : Nat} (hρ : ρ < 2) (l : Launch) (g : Gl) (σ : Hp) (T : Nat) (ow : Nat → Option Nat) (M : MdM) (p1 p2 : Int32) {r : Int32 × MdM} (hr : Md_cause ρ M p1 p2 = some r) : MG l g md_Md_cause [.ref T, .int p1, .int p2] (putMd σ T ow ρ M) (rs (some (.int r.1)) (putMd σ T ow ρ r.2)) := by
  refine MG.intro (by decide +kernel) (Nat.le_of_ble_eq_true rfl) (fun X hx hR _ => ?_)
  unfold Md_cause at hr
  refine g_ls [0, 1, 2] [(0, .ref T), (1, .int p1), (2, .int p2)] rfl ?_
  refine g_aload_n hx 0 (i := 0) 0 dX11_cause_0 rfl rfl ?_
  refine g_aload_n hx 1 (i := 0) 0 dX11_cause_1 rfl rfl ?_
  refine g_iload_n hx 2 (i := 1) 1 dX11_cause_2 rfl rfl ?_
  refine g_iload_n hx 3 (i := 2) 2 dX11_cause_3 rfl rfl ?_
  obtain ⟨q_750, eq_750, hr⟩ := bind_e hr
  refine g_callVr hx (c_Md_areThere hρ l g σ T ow M p1 p2 eq_750) lk_X11_226 ar_Md_areThere (pM_o σ T ow ρ M) (T := TX11) (N := 30) rfl (As := [.int p1, .int p2]) (rest := [.ref T]) rfl (Nat.le_of_ble_eq_true rfl) ⟨Nat.le_of_ble_eq_true rfl, Nat.le_of_ble_eq_true rfl⟩ ⟨rfl, rfl⟩ ⟨Nat.zero_le _, Nat.zero_le _⟩ dX11_cause_4 ?_
  obtain ⟨q_751, eq_751, hr⟩ := lt'_e hr
  refine g_callVr hx (c_Md_lacks hρ l g σ T ow M q_750 eq_751.symm) lk_X11_170 ar_Md_lacks (pM_o σ T ow ρ M) (T := TX11) (N := 30) rfl (As := [.int q_750]) (rest := []) rfl (Nat.le_of_ble_eq_true rfl) ⟨Nat.le_of_ble_eq_true rfl, Nat.le_of_ble_eq_true rfl⟩ ⟨rfl, rfl⟩ ⟨Nat.zero_le _, Nat.zero_le _⟩ dX11_cause_7 ?_
  refine g_if_eq hx 10 15 dX11_cause_10 (by decide) (fun hc_752 => ?_) (fun hc_752 => ?_)
  · have hr := (if_pos hc_752).symm.trans hr
    refine g_aload_n hx 15 (i := 0) 0 dX11_cause_15 rfl rfl ?_
    refine g_iload_n hx 16 (i := 1) 1 dX11_cause_16 rfl rfl ?_
    refine g_iload_n hx 17 (i := 2) 2 dX11_cause_17 rfl rfl ?_
    obtain ⟨q_753, eq_753, hr⟩ := bind_e hr
    refine g_callVr hx (c_Md_refusal hρ l g σ T ow q_751.2 p1 p2 eq_753) lk_X11_229 ar_Md_refusal (pM_o σ T ow ρ q_751.2) (T := TX11) (N := 30) rfl (As := [.int p1, .int p2]) (rest := []) rfl (Nat.le_of_ble_eq_true rfl) ⟨Nat.le_of_ble_eq_true rfl, Nat.le_of_ble_eq_true rfl⟩ ⟨rfl, rfl⟩ ⟨Nat.zero_le _, Nat.zero_le _⟩ dX11_cause_18 ?_
    refine g_bipush hx 21 (-3) dX11_cause_21 rfl ?_
    refine g_icmp_ne hx 23 35 dX11_cause_23 (by decide) (fun hc_754 => ?_) (fun hc_754 => ?_)
    · have hr := (if_neg hc_754).symm.trans hr
      refine g_iconst hx 35 (-1) dX11_cause_35 rfl ?_
      exact g_iret hx hR 36 dX11_cause_36 ⟨by rw [← Option.some.inj hr] <;> rfl, by rw [← Option.some.inj hr] <;> rfl⟩
    · have hr := (if_pos hc_754).symm.trans hr
      refine g_aload_n hx 26 (i := 0) 0 dX11_cause_26 rfl rfl ?_
      refine g_iload_n hx 27 (i := 1) 1 dX11_cause_27 rfl rfl ?_
      refine g_iload_n hx 28 (i := 2) 2 dX11_cause_28 rfl rfl ?_
      obtain ⟨q_755, eq_755, hr⟩ := bind_e hr
      refine g_callVr hx (c_Md_slipOf hρ l g σ T ow q_751.2 p1 p2 eq_755) lk_X11_223 ar_Md_slipOf (pM_o σ T ow ρ q_751.2) (T := TX11) (N := 30) rfl (As := [.int p1, .int p2]) (rest := []) rfl (Nat.le_of_ble_eq_true rfl) ⟨Nat.le_of_ble_eq_true rfl, Nat.le_of_ble_eq_true rfl⟩ ⟨rfl, rfl⟩ ⟨Nat.zero_le _, Nat.zero_le _⟩ dX11_cause_29 ?_
      refine g_goto hx 32 36 dX11_cause_32 (by decide) ?_
      exact g_iret hx hR 36 dX11_cause_36 ⟨by rw [← Option.some.inj hr] <;> rfl, by rw [← Option.some.inj hr] <;> rfl⟩
  · have hr := (if_neg hc_752).symm.trans hr
    refine g_iconst hx 13 (0) dX11_cause_13 rfl ?_
    exact g_iret hx hR 14 dX11_cause_14 ⟨by rw [← Option.some.inj hr] <;> rfl, by rw [← Option.some.inj hr] <;> rfl⟩
def Md_waitsFor (ρ : Nat) (M : MdM) (p1 : Int32) : Option (Int32 × MdM) := Option.bind (Md_isSlip ρ (setF M 9 0) p1) fun q_756 => if q_756 = 0 then (some (((-1), setF M 9 0))) else (Option.bind (Md_ofSlip ρ (setF M 9 0) p1 1) fun q_758 => Option.bind (Md_idleness ρ (setF M 9 0) p1) fun q_759 => if q_759 = 1 then (Option.bind (Md_of ρ (setF M 9 0) q_758 3) fun q_761 => some ((q_761, setF M 9 0))) else (if q_759 = 2 then (Option.bind (Md_daysToRefiling ρ (setF M 9 0)) fun q_763 => some ((q_763, setF M 9 0))) else (if q_759 = 3 then (Option.bind (Md_of ρ (setF M 9 0) q_758 1) fun q_765 => some ((q_765 - ((M.2 ρ) (0 : Int32).toNatClampNeg), setF M 9 0))) else (if q_759 = 4 then (Option.bind (Md_ofSlip ρ (setF M 9 0) p1 0) fun q_768 => Option.bind (Md_foldersOf ρ (setF M 9 0) q_768) fun q_769 => some ((q_769, setF M 9 0))) else (some (((-1), setF M 9 0)))))))
set_option maxRecDepth 100000 in
set_option maxHeartbeats 4000000 in
theorem c_Md_waitsFor {ρ : Nat} (hρ : ρ < 2) (l : Launch) (g : Gl) (σ : Hp) (T : Nat) (ow : Nat → Option Nat) (M : MdM) (p1 : Int32) {r : Int32 × MdM} (hr : Md_waitsFor ρ M p1 = some r) : MG l g md_Md_waitsFor [.ref T, .int p1] (putMd σ T ow ρ M) (rs (some (.int r.1)) (putMd σ T ow ρ r.2)) := by
  refine MG.intro (by decide +kernel) (Nat.le_of_ble_eq_true rfl) (fun X hx hR _ => ?_)
  unfold Md_waitsFor at hr
  refine g_ls [0, 1] [(0, .ref T), (1, .int p1)] rfl ?_
  refine g_aload_n hx 0 (i := 0) 0 dX11_waitsFor_0 rfl rfl ?_
  refine g_iconst hx 1 (0) dX11_waitsFor_1 rfl ?_
  refine g_put hx 2 (C := RX11) (T := TX11) (N := 30) 9 .int _ (pM_o σ T ow ρ M) rfl (by decide) fl_X11_81 rfl rfl rfl rfl (Nat.le_of_ble_eq_true rfl) rfl dX11_waitsFor_2 ?_
  refine G.heap (pM_f σ T ow ρ M 9 0) ?_
  refine g_aload_n hx 5 (i := 0) 0 dX11_waitsFor_5 rfl rfl ?_
  refine g_iload_n hx 6 (i := 1) 1 dX11_waitsFor_6 rfl rfl ?_
  obtain ⟨q_756, eq_756, hr⟩ := bind_e hr
  refine g_callVr hx (c_Md_isSlip hρ l g σ T ow (setF M 9 0) p1 eq_756) lk_X11_204 ar_Md_isSlip (pM_o σ T ow ρ (setF M 9 0)) (T := TX11) (N := 30) rfl (As := [.int p1]) (rest := []) rfl (Nat.le_of_ble_eq_true rfl) ⟨Nat.le_of_ble_eq_true rfl, Nat.le_of_ble_eq_true rfl⟩ ⟨rfl, rfl⟩ ⟨Nat.zero_le _, Nat.zero_le _⟩ dX11_waitsFor_7 ?_
  refine g_if_ne hx 10 15 dX11_waitsFor_10 (by decide) (fun hc_757 => ?_) (fun hc_757 => ?_)
  · have hr := (if_neg hc_757).symm.trans hr
    refine g_aload_n hx 15 (i := 0) 0 dX11_waitsFor_15 rfl rfl ?_
    refine g_iload_n hx 16 (i := 1) 1 dX11_waitsFor_16 rfl rfl ?_
    refine g_iconst hx 17 (1) dX11_waitsFor_17 rfl ?_
    obtain ⟨q_758, eq_758, hr⟩ := bind_e hr
    refine g_callVr hx (c_Md_ofSlip hρ l g σ T ow (setF M 9 0) p1 1 eq_758) lk_X11_130 ar_Md_ofSlip (pM_o σ T ow ρ (setF M 9 0)) (T := TX11) (N := 30) rfl (As := [.int p1, .int 1]) (rest := []) rfl (Nat.le_of_ble_eq_true rfl) ⟨Nat.le_of_ble_eq_true rfl, Nat.le_of_ble_eq_true rfl⟩ ⟨rfl, rfl⟩ ⟨Nat.zero_le _, Nat.zero_le _⟩ dX11_waitsFor_18 ?_
    refine g_istore_n hx 21 (i := 2) [(2, .int q_758), (0, .ref T), (1, .int p1)] dX11_waitsFor_21 rfl (by decide) rfl ?_
    refine g_aload_n hx 22 (i := 0) 1 dX11_waitsFor_22 rfl rfl ?_
    refine g_iload_n hx 23 (i := 1) 2 dX11_waitsFor_23 rfl rfl ?_
    obtain ⟨q_759, eq_759, hr⟩ := bind_e hr
    refine g_callVr hx (c_Md_idleness hρ l g σ T ow (setF M 9 0) p1 eq_759) lk_X11_149 ar_Md_idleness (pM_o σ T ow ρ (setF M 9 0)) (T := TX11) (N := 30) rfl (As := [.int p1]) (rest := []) rfl (Nat.le_of_ble_eq_true rfl) ⟨Nat.le_of_ble_eq_true rfl, Nat.le_of_ble_eq_true rfl⟩ ⟨rfl, rfl⟩ ⟨Nat.zero_le _, Nat.zero_le _⟩ dX11_waitsFor_24 ?_
    by_cases hc_760 : q_759 = 1
    · have hr := (if_pos hc_760).symm.trans hr
      refine g_tableIn hx 27 56 dX11_waitsFor_27 (by rw [hc_760]; decide) (by rw [hc_760]; decide) (by rw [hc_760]; rfl) (by decide) ?_
      refine g_aload_n hx 56 (i := 0) 1 dX11_waitsFor_56 rfl rfl ?_
      refine g_iload_n hx 57 (i := 2) 0 dX11_waitsFor_57 rfl rfl ?_
      refine g_iconst hx 58 (3) dX11_waitsFor_58 rfl ?_
      obtain ⟨q_761, eq_761, hr⟩ := bind_e hr
      refine g_callVr hx (c_Md_of hρ l g σ T ow (setF M 9 0) q_758 3 eq_761) lk_X11_95 ar_Md_of (pM_o σ T ow ρ (setF M 9 0)) (T := TX11) (N := 30) rfl (As := [.int q_758, .int 3]) (rest := []) rfl (Nat.le_of_ble_eq_true rfl) ⟨Nat.le_of_ble_eq_true rfl, Nat.le_of_ble_eq_true rfl⟩ ⟨rfl, rfl⟩ ⟨Nat.zero_le _, Nat.zero_le _⟩ dX11_waitsFor_59 ?_
      exact g_iret hx hR 62 dX11_waitsFor_62 ⟨by rw [← Option.some.inj hr] <;> rfl, by rw [← Option.some.inj hr] <;> rfl⟩
    · have hr := (if_neg hc_760).symm.trans hr
      by_cases hc_762 : q_759 = 2
      · have hr := (if_pos hc_762).symm.trans hr
        refine g_tableIn hx 27 63 dX11_waitsFor_27 (by rw [hc_762]; decide) (by rw [hc_762]; decide) (by rw [hc_762]; rfl) (by decide) ?_
        refine g_aload_n hx 63 (i := 0) 1 dX11_waitsFor_63 rfl rfl ?_
        obtain ⟨q_763, eq_763, hr⟩ := bind_e hr
        refine g_callVr hx (c_Md_daysToRefiling hρ l g σ T ow (setF M 9 0) eq_763) lk_X11_180 ar_Md_daysToRefiling (pM_o σ T ow ρ (setF M 9 0)) (T := TX11) (N := 30) rfl (As := []) (rest := []) rfl (Nat.le_of_ble_eq_true rfl) ⟨Nat.le_of_ble_eq_true rfl, Nat.le_of_ble_eq_true rfl⟩ ⟨rfl, rfl⟩ ⟨Nat.zero_le _, Nat.zero_le _⟩ dX11_waitsFor_64 ?_
        exact g_iret hx hR 67 dX11_waitsFor_67 ⟨by rw [← Option.some.inj hr] <;> rfl, by rw [← Option.some.inj hr] <;> rfl⟩
      · have hr := (if_neg hc_762).symm.trans hr
        by_cases hc_764 : q_759 = 3
        · have hr := (if_pos hc_764).symm.trans hr
          refine g_tableIn hx 27 68 dX11_waitsFor_27 (by rw [hc_764]; decide) (by rw [hc_764]; decide) (by rw [hc_764]; rfl) (by decide) ?_
          refine g_aload_n hx 68 (i := 0) 1 dX11_waitsFor_68 rfl rfl ?_
          refine g_iload_n hx 69 (i := 2) 0 dX11_waitsFor_69 rfl rfl ?_
          refine g_iconst hx 70 (1) dX11_waitsFor_70 rfl ?_
          obtain ⟨q_765, eq_765, hr⟩ := bind_e hr
          refine g_callVr hx (c_Md_of hρ l g σ T ow (setF M 9 0) q_758 1 eq_765) lk_X11_95 ar_Md_of (pM_o σ T ow ρ (setF M 9 0)) (T := TX11) (N := 30) rfl (As := [.int q_758, .int 1]) (rest := []) rfl (Nat.le_of_ble_eq_true rfl) ⟨Nat.le_of_ble_eq_true rfl, Nat.le_of_ble_eq_true rfl⟩ ⟨rfl, rfl⟩ ⟨Nat.zero_le _, Nat.zero_le _⟩ dX11_waitsFor_71 ?_
          refine g_aload_n hx 74 (i := 0) 1 dX11_waitsFor_74 rfl rfl ?_
          refine g_get hx 75 (C := RX11) (T := TX11) (N := 30) 7 (.ref (T + 1 + ρ)) (pM_o σ T ow ρ (setF M 9 0)) rfl (by decide) rfl fl_X11_31 dX11_waitsFor_75 ?_
          refine g_iconst hx 78 (0) dX11_waitsFor_78 rfl ?_
          refine g_iald hx 79 (pM_row hρ σ T ow (setF M 9 0)) (by decide : inB 0 257) dX11_waitsFor_79 ?_
          refine g_isub hx 80 dX11_waitsFor_80 ?_
          exact g_iret hx hR 81 dX11_waitsFor_81 ⟨by rw [← Option.some.inj hr] <;> rfl, by rw [← Option.some.inj hr] <;> rfl⟩
        · have hr := (if_neg hc_764).symm.trans hr
          by_cases hc_767 : q_759 = 4
          · have hr := (if_pos hc_767).symm.trans hr
            refine g_tableIn hx 27 82 dX11_waitsFor_27 (by rw [hc_767]; decide) (by rw [hc_767]; decide) (by rw [hc_767]; rfl) (by decide) ?_
            refine g_aload_n hx 82 (i := 0) 1 dX11_waitsFor_82 rfl rfl ?_
            refine g_aload_n hx 83 (i := 0) 1 dX11_waitsFor_83 rfl rfl ?_
            refine g_iload_n hx 84 (i := 1) 2 dX11_waitsFor_84 rfl rfl ?_
            refine g_iconst hx 85 (0) dX11_waitsFor_85 rfl ?_
            obtain ⟨q_768, eq_768, hr⟩ := bind_e hr
            refine g_callVr hx (c_Md_ofSlip hρ l g σ T ow (setF M 9 0) p1 0 eq_768) lk_X11_130 ar_Md_ofSlip (pM_o σ T ow ρ (setF M 9 0)) (T := TX11) (N := 30) rfl (As := [.int p1, .int 0]) (rest := [.ref T]) rfl (Nat.le_of_ble_eq_true rfl) ⟨Nat.le_of_ble_eq_true rfl, Nat.le_of_ble_eq_true rfl⟩ ⟨rfl, rfl⟩ ⟨Nat.zero_le _, Nat.zero_le _⟩ dX11_waitsFor_86 ?_
            obtain ⟨q_769, eq_769, hr⟩ := bind_e hr
            refine g_callVr hx (c_Md_foldersOf hρ l g σ T ow (setF M 9 0) q_768 eq_769) lk_X11_136 ar_Md_foldersOf (pM_o σ T ow ρ (setF M 9 0)) (T := TX11) (N := 30) rfl (As := [.int q_768]) (rest := []) rfl (Nat.le_of_ble_eq_true rfl) ⟨Nat.le_of_ble_eq_true rfl, Nat.le_of_ble_eq_true rfl⟩ ⟨rfl, rfl⟩ ⟨Nat.zero_le _, Nat.zero_le _⟩ dX11_waitsFor_89 ?_
            exact g_iret hx hR 92 dX11_waitsFor_92 ⟨by rw [← Option.some.inj hr] <;> rfl, by rw [← Option.some.inj hr] <;> rfl⟩
          · have hr := (if_neg hc_767).symm.trans hr
            refine g_tableOut hx 27 93 dX11_waitsFor_27 (sw_out (fun c h1 h2 hq => by have hc : c = 1 ∨ c = 2 ∨ c = 3 ∨ c = 4 := (by omega); rcases hc with rfl | rfl | rfl | rfl <;> first | exact lv_neT hc_760 rfl hq | exact lv_neT hc_762 rfl hq | exact lv_neT hc_764 rfl hq | exact lv_neT hc_767 rfl hq)) (by decide) ?_
            refine g_iconst hx 93 (-1) dX11_waitsFor_93 rfl ?_
            exact g_iret hx hR 94 dX11_waitsFor_94 ⟨by rw [← Option.some.inj hr] <;> rfl, by rw [← Option.some.inj hr] <;> rfl⟩
  · have hr := (if_pos hc_757).symm.trans hr
    refine g_iconst hx 13 (-1) dX11_waitsFor_13 rfl ?_
    exact g_iret hx hR 14 dX11_waitsFor_14 ⟨by rw [← Option.some.inj hr] <;> rfl, by rw [← Option.some.inj hr] <;> rfl⟩
def Md_goAside (ρ : Nat) (M : MdM) : Option (MdM) := Option.bind (Md_copy M ρ 0 2 0) fun M_770 => some (M_770)
set_option maxRecDepth 100000 in
set_option maxHeartbeats 4000000 in
theorem c_Md_goAside {ρ : Nat} (hρ : ρ < 2) (l : Launch) (g : Gl) (σ : Hp) (T : Nat) (ow : Nat → Option Nat) (M : MdM) {r : MdM} (hr : Md_goAside ρ M = some r) : MG l g md_Md_goAside [.ref T] (putMd σ T ow ρ M) (rs none (putMd σ T ow ρ r)) := by
  refine MG.intro (by decide +kernel) (Nat.le_of_ble_eq_true rfl) (fun X hx hR _ => ?_)
  unfold Md_goAside at hr
  refine g_ls [0] [(0, .ref T)] rfl ?_
  refine g_aload_n hx 0 (i := 0) 0 dX11_goAside_0 rfl rfl ?_
  refine g_get hx 1 (C := RX11) (T := TX11) (N := 30) 7 (.ref (T + 1 + ρ)) (pM_o σ T ow ρ M) rfl (by decide) rfl fl_X11_31 dX11_goAside_1 ?_
  refine g_iconst hx 4 (0) dX11_goAside_4 rfl ?_
  refine g_aload_n hx 5 (i := 0) 0 dX11_goAside_5 rfl rfl ?_
  refine g_get hx 6 (C := RX11) (T := TX11) (N := 30) 2 (.ref (T + 3)) (pM_o σ T ow ρ M) rfl (by decide) rfl fl_X11_16 dX11_goAside_6 ?_
  refine g_iconst hx 9 (0) dX11_goAside_9 rfl ?_
  obtain ⟨M_770, eM_770, hr⟩ := bind_e hr
  refine g_callSv hx (c_Md_copy l g σ T ow ρ M ρ 2 (by omega) (by decide) 0 0 eM_770) lk_X11_238 ar_Md_copy (As := [.ref (T + 1 + ρ), .int 0, .ref (T + 3), .int 0]) (rest := []) rfl (Nat.le_of_ble_eq_true rfl) ⟨Nat.le_of_ble_eq_true rfl, Nat.le_of_ble_eq_true rfl⟩ ⟨rfl, rfl⟩ ⟨Nat.zero_le _, Nat.zero_le _⟩ dX11_goAside_10 ?_
  exact g_vret hx hR 13 dX11_goAside_13 ⟨rfl, by rw [← Option.some.inj hr] <;> rfl⟩
def Md_laidBack (ρ : Nat) (M : MdM) (p1 : Int32) : Option (Int32 × MdM) := Option.bind (Md_copy M 2 0 ρ 0) fun M_771 => some ((p1, M_771))
set_option maxRecDepth 100000 in
set_option maxHeartbeats 4000000 in
theorem c_Md_laidBack {ρ : Nat} (hρ : ρ < 2) (l : Launch) (g : Gl) (σ : Hp) (T : Nat) (ow : Nat → Option Nat) (M : MdM) (p1 : Int32) {r : Int32 × MdM} (hr : Md_laidBack ρ M p1 = some r) : MG l g md_Md_laidBack [.ref T, .int p1] (putMd σ T ow ρ M) (rs (some (.int r.1)) (putMd σ T ow ρ r.2)) := by
  refine MG.intro (by decide +kernel) (Nat.le_of_ble_eq_true rfl) (fun X hx hR _ => ?_)
  unfold Md_laidBack at hr
  refine g_ls [0, 1] [(0, .ref T), (1, .int p1)] rfl ?_
  refine g_aload_n hx 0 (i := 0) 0 dX11_laidBack_0 rfl rfl ?_
  refine g_get hx 1 (C := RX11) (T := TX11) (N := 30) 2 (.ref (T + 3)) (pM_o σ T ow ρ M) rfl (by decide) rfl fl_X11_16 dX11_laidBack_1 ?_
  refine g_iconst hx 4 (0) dX11_laidBack_4 rfl ?_
  refine g_aload_n hx 5 (i := 0) 0 dX11_laidBack_5 rfl rfl ?_
  refine g_get hx 6 (C := RX11) (T := TX11) (N := 30) 7 (.ref (T + 1 + ρ)) (pM_o σ T ow ρ M) rfl (by decide) rfl fl_X11_31 dX11_laidBack_6 ?_
  refine g_iconst hx 9 (0) dX11_laidBack_9 rfl ?_
  obtain ⟨M_771, eM_771, hr⟩ := bind_e hr
  refine g_callSv hx (c_Md_copy l g σ T ow ρ M 2 ρ (by decide) (by omega) 0 0 eM_771) lk_X11_238 ar_Md_copy (As := [.ref (T + 3), .int 0, .ref (T + 1 + ρ), .int 0]) (rest := []) rfl (Nat.le_of_ble_eq_true rfl) ⟨Nat.le_of_ble_eq_true rfl, Nat.le_of_ble_eq_true rfl⟩ ⟨rfl, rfl⟩ ⟨Nat.zero_le _, Nat.zero_le _⟩ dX11_laidBack_10 ?_
  refine g_iload_n hx 13 (i := 1) 1 dX11_laidBack_13 rfl rfl ?_
  exact g_iret hx hR 14 dX11_laidBack_14 ⟨by rw [← Option.some.inj hr] <;> rfl, by rw [← Option.some.inj hr] <;> rfl⟩
def Md_servedIn_L36 (ρ : Nat) : Nat → MdM → Int32 → Int32 → Int32 → Int32 → Option (Int32 × MdM)
  | 0, _, _, _, _, _ => none
  | n + 1, M, v1_777, v2_778, v3_779, v4_780 => if 60 < v4_780 then (Option.bind (Md_laidBack ρ M (-1)) fun q_782 => some ((q_782.1, q_782.2))) else (Option.bind (Md_pass ρ M ((M.2 ρ) (2 : Int32).toNatClampNeg)) fun M_784 => Option.bind (Md_slipOf ρ M_784 v2_778 v3_779) fun q_785 => if q_785 = (-1) then (Option.bind (Md_laidBack ρ M_784 v4_780) fun q_787 => some ((q_787.1, q_787.2))) else (Md_servedIn_L36 ρ n M_784 v1_777 v2_778 v3_779 (v4_780 + 1)))
def Md_servedIn (ρ : Nat) (M : MdM) (p1 : Int32) : Option (Int32 × MdM) := Option.bind (Md_isSlip ρ (setF M 9 0) p1) fun q_772 => if q_772 = 0 then (some (((-1), setF M 9 0))) else (Option.bind (Md_goAside ρ (setF M 9 0)) fun M_774 => Option.bind (Md_ofSlip ρ M_774 p1 0) fun q_775 => Option.bind (Md_ofSlip ρ M_774 p1 1) fun q_776 => Md_servedIn_L36 ρ FU M_774 p1 q_775 q_776 1)
set_option maxRecDepth 100000 in
set_option maxHeartbeats 4000000 in
theorem w_Md_servedIn_L36 {ρ : Nat} (hρ : ρ < 2) {X : Cx} {l : Launch} {g : Gl} (hx : Ok X l g RX11 cX11_servedIn 5 md_Md_servedIn.rm) {σ : Hp} {T : Nat} {ow : Nat → Option Nat} {r : Int32 × MdM} (hR : Ret X (rs (some (.int r.1)) (putMd σ T ow ρ r.2)) 0 0 (some .int)) : ∀ (n : Nat) (M : MdM) (v1_777 v2_778 v3_779 v4_780 : Int32), Md_servedIn_L36 ρ n M v1_777 v2_778 v3_779 v4_780 = some r → G X (putMd σ T ow ρ M) 0 0 36 [(0, .ref T), (1, .int v1_777), (2, .int v2_778), (3, .int v3_779), (4, .int v4_780)] [] := by
  intro n
  induction n with
  | zero =>
    intro M v1_777 v2_778 v3_779 v4_780 hr
    rw [Md_servedIn_L36] at hr
    cases hr
  | succ n ih =>
    intro M v1_777 v2_778 v3_779 v4_780 hr
    rw [Md_servedIn_L36] at hr
    refine g_iload hx 36 (i := 4) 4 dX11_servedIn_36 rfl ?_
    refine g_bipush hx 38 (60) dX11_servedIn_38 rfl ?_
    refine g_icmp_gt hx 40 76 dX11_servedIn_40 (by decide) (fun hc_781 => ?_) (fun hc_781 => ?_)
    · have hr := (if_pos hc_781).symm.trans hr
      refine g_aload_n hx 76 (i := 0) 0 dX11_servedIn_76 rfl rfl ?_
      refine g_iconst hx 77 (-1) dX11_servedIn_77 rfl ?_
      obtain ⟨q_782, eq_782, hr⟩ := bind_e hr
      refine g_callVr hx (c_Md_laidBack hρ l g σ T ow M (-1) eq_782) lk_X11_245 ar_Md_laidBack (pM_o σ T ow ρ M) (T := TX11) (N := 30) rfl (As := [.int (-1)]) (rest := []) rfl (Nat.le_of_ble_eq_true rfl) ⟨Nat.le_of_ble_eq_true rfl, Nat.le_of_ble_eq_true rfl⟩ ⟨rfl, rfl⟩ ⟨Nat.zero_le _, Nat.zero_le _⟩ dX11_servedIn_78 ?_
      exact g_iret hx hR 81 dX11_servedIn_81 ⟨by rw [← Option.some.inj hr] <;> rfl, by rw [← Option.some.inj hr] <;> rfl⟩
    · have hr := (if_neg hc_781).symm.trans hr
      refine g_aload_n hx 43 (i := 0) 0 dX11_servedIn_43 rfl rfl ?_
      refine g_aload_n hx 44 (i := 0) 0 dX11_servedIn_44 rfl rfl ?_
      refine g_get hx 45 (C := RX11) (T := TX11) (N := 30) 7 (.ref (T + 1 + ρ)) (pM_o σ T ow ρ M) rfl (by decide) rfl fl_X11_31 dX11_servedIn_45 ?_
      refine g_iconst hx 48 (2) dX11_servedIn_48 rfl ?_
      refine g_iald hx 49 (pM_row hρ σ T ow M) (by decide : inB 2 257) dX11_servedIn_49 ?_
      obtain ⟨M_784, eM_784, hr⟩ := bind_e hr
      refine g_callVv hx (c_Md_pass hρ l g σ T ow M ((M.2 ρ) (2 : Int32).toNatClampNeg) eM_784) lk_X11_167 ar_Md_pass (pM_o σ T ow ρ M) (T := TX11) (N := 30) rfl (As := [.int ((M.2 ρ) (2 : Int32).toNatClampNeg)]) (rest := []) rfl (Nat.le_of_ble_eq_true rfl) ⟨Nat.le_of_ble_eq_true rfl, Nat.le_of_ble_eq_true rfl⟩ ⟨rfl, rfl⟩ ⟨Nat.zero_le _, Nat.zero_le _⟩ dX11_servedIn_50 ?_
      refine g_aload_n hx 53 (i := 0) 0 dX11_servedIn_53 rfl rfl ?_
      refine g_iload_n hx 54 (i := 2) 2 dX11_servedIn_54 rfl rfl ?_
      refine g_iload_n hx 55 (i := 3) 3 dX11_servedIn_55 rfl rfl ?_
      obtain ⟨q_785, eq_785, hr⟩ := bind_e hr
      refine g_callVr hx (c_Md_slipOf hρ l g σ T ow M_784 v2_778 v3_779 eq_785) lk_X11_223 ar_Md_slipOf (pM_o σ T ow ρ M_784) (T := TX11) (N := 30) rfl (As := [.int v2_778, .int v3_779]) (rest := []) rfl (Nat.le_of_ble_eq_true rfl) ⟨Nat.le_of_ble_eq_true rfl, Nat.le_of_ble_eq_true rfl⟩ ⟨rfl, rfl⟩ ⟨Nat.zero_le _, Nat.zero_le _⟩ dX11_servedIn_56 ?_
      refine g_iconst hx 59 (-1) dX11_servedIn_59 rfl ?_
      refine g_icmp_ne hx 60 70 dX11_servedIn_60 (by decide) (fun hc_786 => ?_) (fun hc_786 => ?_)
      · have hr := (if_neg hc_786).symm.trans hr
        refine g_iinc hx 70 (i := 4) 4 (v4_780 + 1) [(4, .int (v4_780 + 1)), (0, .ref T), (1, .int v1_777), (2, .int v2_778), (3, .int v3_779)] dX11_servedIn_70 rfl rfl (by decide) rfl ?_
        refine g_goto hx 73 36 dX11_servedIn_73 (by decide) ?_
        refine g_ls [1, 2, 3, 4, 0] [(0, .ref T), (1, .int v1_777), (2, .int v2_778), (3, .int v3_779), (4, .int (v4_780 + 1))] rfl ?_
        exact ih M_784 v1_777 v2_778 v3_779 (v4_780 + 1) hr
      · have hr := (if_pos hc_786).symm.trans hr
        refine g_aload_n hx 63 (i := 0) 0 dX11_servedIn_63 rfl rfl ?_
        refine g_iload hx 64 (i := 4) 4 dX11_servedIn_64 rfl ?_
        obtain ⟨q_787, eq_787, hr⟩ := bind_e hr
        refine g_callVr hx (c_Md_laidBack hρ l g σ T ow M_784 v4_780 eq_787) lk_X11_245 ar_Md_laidBack (pM_o σ T ow ρ M_784) (T := TX11) (N := 30) rfl (As := [.int v4_780]) (rest := []) rfl (Nat.le_of_ble_eq_true rfl) ⟨Nat.le_of_ble_eq_true rfl, Nat.le_of_ble_eq_true rfl⟩ ⟨rfl, rfl⟩ ⟨Nat.zero_le _, Nat.zero_le _⟩ dX11_servedIn_66 ?_
        exact g_iret hx hR 69 dX11_servedIn_69 ⟨by rw [← Option.some.inj hr] <;> rfl, by rw [← Option.some.inj hr] <;> rfl⟩
set_option maxRecDepth 100000 in
set_option maxHeartbeats 4000000 in
theorem c_Md_servedIn {ρ : Nat} (hρ : ρ < 2) (l : Launch) (g : Gl) (σ : Hp) (T : Nat) (ow : Nat → Option Nat) (M : MdM) (p1 : Int32) {r : Int32 × MdM} (hr : Md_servedIn ρ M p1 = some r) : MG l g md_Md_servedIn [.ref T, .int p1] (putMd σ T ow ρ M) (rs (some (.int r.1)) (putMd σ T ow ρ r.2)) := by
  refine MG.intro (by decide +kernel) (Nat.le_of_ble_eq_true rfl) (fun X hx hR _ => ?_)
  unfold Md_servedIn at hr
  refine g_ls [0, 1] [(0, .ref T), (1, .int p1)] rfl ?_
  refine g_aload_n hx 0 (i := 0) 0 dX11_servedIn_0 rfl rfl ?_
  refine g_iconst hx 1 (0) dX11_servedIn_1 rfl ?_
  refine g_put hx 2 (C := RX11) (T := TX11) (N := 30) 9 .int _ (pM_o σ T ow ρ M) rfl (by decide) fl_X11_81 rfl rfl rfl rfl (Nat.le_of_ble_eq_true rfl) rfl dX11_servedIn_2 ?_
  refine G.heap (pM_f σ T ow ρ M 9 0) ?_
  refine g_aload_n hx 5 (i := 0) 0 dX11_servedIn_5 rfl rfl ?_
  refine g_iload_n hx 6 (i := 1) 1 dX11_servedIn_6 rfl rfl ?_
  obtain ⟨q_772, eq_772, hr⟩ := bind_e hr
  refine g_callVr hx (c_Md_isSlip hρ l g σ T ow (setF M 9 0) p1 eq_772) lk_X11_204 ar_Md_isSlip (pM_o σ T ow ρ (setF M 9 0)) (T := TX11) (N := 30) rfl (As := [.int p1]) (rest := []) rfl (Nat.le_of_ble_eq_true rfl) ⟨Nat.le_of_ble_eq_true rfl, Nat.le_of_ble_eq_true rfl⟩ ⟨rfl, rfl⟩ ⟨Nat.zero_le _, Nat.zero_le _⟩ dX11_servedIn_7 ?_
  refine g_if_ne hx 10 15 dX11_servedIn_10 (by decide) (fun hc_773 => ?_) (fun hc_773 => ?_)
  · have hr := (if_neg hc_773).symm.trans hr
    refine g_aload_n hx 15 (i := 0) 0 dX11_servedIn_15 rfl rfl ?_
    obtain ⟨M_774, eM_774, hr⟩ := bind_e hr
    refine g_callVv hx (c_Md_goAside hρ l g σ T ow (setF M 9 0) eM_774) lk_X11_242 ar_Md_goAside (pM_o σ T ow ρ (setF M 9 0)) (T := TX11) (N := 30) rfl (As := []) (rest := []) rfl (Nat.le_of_ble_eq_true rfl) ⟨Nat.le_of_ble_eq_true rfl, Nat.le_of_ble_eq_true rfl⟩ ⟨rfl, rfl⟩ ⟨Nat.zero_le _, Nat.zero_le _⟩ dX11_servedIn_16 ?_
    refine g_aload_n hx 19 (i := 0) 0 dX11_servedIn_19 rfl rfl ?_
    refine g_iload_n hx 20 (i := 1) 1 dX11_servedIn_20 rfl rfl ?_
    refine g_iconst hx 21 (0) dX11_servedIn_21 rfl ?_
    obtain ⟨q_775, eq_775, hr⟩ := bind_e hr
    refine g_callVr hx (c_Md_ofSlip hρ l g σ T ow M_774 p1 0 eq_775) lk_X11_130 ar_Md_ofSlip (pM_o σ T ow ρ M_774) (T := TX11) (N := 30) rfl (As := [.int p1, .int 0]) (rest := []) rfl (Nat.le_of_ble_eq_true rfl) ⟨Nat.le_of_ble_eq_true rfl, Nat.le_of_ble_eq_true rfl⟩ ⟨rfl, rfl⟩ ⟨Nat.zero_le _, Nat.zero_le _⟩ dX11_servedIn_22 ?_
    refine g_istore_n hx 25 (i := 2) [(2, .int q_775), (0, .ref T), (1, .int p1)] dX11_servedIn_25 rfl (by decide) rfl ?_
    refine g_aload_n hx 26 (i := 0) 1 dX11_servedIn_26 rfl rfl ?_
    refine g_iload_n hx 27 (i := 1) 2 dX11_servedIn_27 rfl rfl ?_
    refine g_iconst hx 28 (1) dX11_servedIn_28 rfl ?_
    obtain ⟨q_776, eq_776, hr⟩ := bind_e hr
    refine g_callVr hx (c_Md_ofSlip hρ l g σ T ow M_774 p1 1 eq_776) lk_X11_130 ar_Md_ofSlip (pM_o σ T ow ρ M_774) (T := TX11) (N := 30) rfl (As := [.int p1, .int 1]) (rest := []) rfl (Nat.le_of_ble_eq_true rfl) ⟨Nat.le_of_ble_eq_true rfl, Nat.le_of_ble_eq_true rfl⟩ ⟨rfl, rfl⟩ ⟨Nat.zero_le _, Nat.zero_le _⟩ dX11_servedIn_29 ?_
    refine g_istore_n hx 32 (i := 3) [(3, .int q_776), (2, .int q_775), (0, .ref T), (1, .int p1)] dX11_servedIn_32 rfl (by decide) rfl ?_
    refine g_iconst hx 33 (1) dX11_servedIn_33 rfl ?_
    refine g_istore hx 34 (i := 4) [(4, .int 1), (3, .int q_776), (2, .int q_775), (0, .ref T), (1, .int p1)] dX11_servedIn_34 (by decide) rfl ?_
    refine g_ls [3, 4, 2, 1, 0] [(0, .ref T), (1, .int p1), (2, .int q_775), (3, .int q_776), (4, .int 1)] rfl ?_
    exact w_Md_servedIn_L36 hρ hx hR FU M_774 p1 q_775 q_776 1 hr
  · have hr := (if_pos hc_773).symm.trans hr
    refine g_iconst hx 13 (-1) dX11_servedIn_13 rfl ?_
    exact g_iret hx hR 14 dX11_servedIn_14 ⟨by rw [← Option.some.inj hr] <;> rfl, by rw [← Option.some.inj hr] <;> rfl⟩
def Md_areDays (p1 : Int32) : Int32 := Md_inRange p1 0 60
set_option maxRecDepth 100000 in
set_option maxHeartbeats 4000000 in
theorem c_Md_areDays (l : Launch) (g : Gl) (σ : Hp) (p1 : Int32) {r : Int32} (hr : Md_areDays p1 = r) : MG l g md_Md_areDays [.int p1] σ (rs (some (.int r)) σ) := by
  refine MG.intro (by decide +kernel) (Nat.le_of_ble_eq_true rfl) (fun X hx hR _ => ?_)
  unfold Md_areDays at hr
  refine g_ls [0] [(0, .int p1)] rfl ?_
  refine g_iload_n hx 0 (i := 0) 0 dX11_areDays_0 rfl rfl ?_
  refine g_iconst hx 1 (0) dX11_areDays_1 rfl ?_
  refine g_bipush hx 2 (60) dX11_areDays_2 rfl ?_
  refine g_callSr hx (c_Md_inRange l g _ p1 0 60 rfl) lk_X11_91 ar_Md_inRange (As := [.int p1, .int 0, .int 60]) (rest := []) rfl (Nat.le_of_ble_eq_true rfl) ⟨Nat.le_of_ble_eq_true rfl, Nat.le_of_ble_eq_true rfl⟩ ⟨rfl, rfl⟩ ⟨Nat.zero_le _, Nat.zero_le _⟩ dX11_areDays_4 ?_
  exact g_zret hx hR 7 (bo_Md_inRange ..) dX11_areDays_7 ⟨by rw [← hr] <;> rfl, rfl⟩
theorem bo_Md_areDays (p1 : Int32) : Md_areDays p1 = 0 ∨ Md_areDays p1 = 1 := by
  unfold Md_areDays
  (repeat' split) <;> first | exact Or.inl rfl | exact Or.inr rfl | exact bo_Rw_isWrong .. | exact bo_Sl_has .. | exact bo_St_hasFolder .. | exact bo_St_hasReader .. | exact bo_St_isClosed .. | exact bo_St_isRefilingDay .. | exact bo_Md_inRange ..
def Md_servedBy (ρ : Nat) (M : MdM) (p1 : Int32) : Option (Int32 × MdM) := lt' (Md_lacks ρ M (Md_areDays p1)) fun q_788 => if q_788.1 = 0 then (Option.bind (Md_goAside ρ q_788.2) fun M_790 => Option.bind (Md_passOn ρ M_790 p1 ((M_790.2 ρ) (2 : Int32).toNatClampNeg)) fun q_792 => Option.bind (Md_laidBack ρ q_792.2 q_792.1) fun q_793 => some ((q_793.1, q_793.2))) else (some ((0, q_788.2)))
set_option maxRecDepth 100000 in
set_option maxHeartbeats 4000000 in
theorem c_Md_servedBy {ρ : Nat} (hρ : ρ < 2) (l : Launch) (g : Gl) (σ : Hp) (T : Nat) (ow : Nat → Option Nat) (M : MdM) (p1 : Int32) {r : Int32 × MdM} (hr : Md_servedBy ρ M p1 = some r) : MG l g md_Md_servedBy [.ref T, .int p1] (putMd σ T ow ρ M) (rs (some (.int r.1)) (putMd σ T ow ρ r.2)) := by
  refine MG.intro (by decide +kernel) (Nat.le_of_ble_eq_true rfl) (fun X hx hR _ => ?_)
  unfold Md_servedBy at hr
  refine g_ls [0, 1] [(0, .ref T), (1, .int p1)] rfl ?_
  refine g_aload_n hx 0 (i := 0) 0 dX11_servedBy_0 rfl rfl ?_
  refine g_iload_n hx 1 (i := 1) 1 dX11_servedBy_1 rfl rfl ?_
  refine g_callSr hx (c_Md_areDays l g _ p1 rfl) lk_X11_248 ar_Md_areDays (As := [.int p1]) (rest := [.ref T]) rfl (Nat.le_of_ble_eq_true rfl) ⟨Nat.le_of_ble_eq_true rfl, Nat.le_of_ble_eq_true rfl⟩ ⟨rfl, rfl⟩ ⟨Nat.zero_le _, Nat.zero_le _⟩ dX11_servedBy_2 ?_
  obtain ⟨q_788, eq_788, hr⟩ := lt'_e hr
  refine g_callVr hx (c_Md_lacks hρ l g σ T ow M (Md_areDays p1) eq_788.symm) lk_X11_170 ar_Md_lacks (pM_o σ T ow ρ M) (T := TX11) (N := 30) rfl (As := [.int (Md_areDays p1)]) (rest := []) rfl (Nat.le_of_ble_eq_true rfl) ⟨Nat.le_of_ble_eq_true rfl, Nat.le_of_ble_eq_true rfl⟩ ⟨rfl, rfl⟩ ⟨Nat.zero_le _, Nat.zero_le _⟩ dX11_servedBy_5 ?_
  refine g_if_eq hx 8 13 dX11_servedBy_8 (by decide) (fun hc_789 => ?_) (fun hc_789 => ?_)
  · have hr := (if_pos hc_789).symm.trans hr
    refine g_aload_n hx 13 (i := 0) 0 dX11_servedBy_13 rfl rfl ?_
    obtain ⟨M_790, eM_790, hr⟩ := bind_e hr
    refine g_callVv hx (c_Md_goAside hρ l g σ T ow q_788.2 eM_790) lk_X11_242 ar_Md_goAside (pM_o σ T ow ρ q_788.2) (T := TX11) (N := 30) rfl (As := []) (rest := []) rfl (Nat.le_of_ble_eq_true rfl) ⟨Nat.le_of_ble_eq_true rfl, Nat.le_of_ble_eq_true rfl⟩ ⟨rfl, rfl⟩ ⟨Nat.zero_le _, Nat.zero_le _⟩ dX11_servedBy_14 ?_
    refine g_aload_n hx 17 (i := 0) 0 dX11_servedBy_17 rfl rfl ?_
    refine g_aload_n hx 18 (i := 0) 0 dX11_servedBy_18 rfl rfl ?_
    refine g_iload_n hx 19 (i := 1) 1 dX11_servedBy_19 rfl rfl ?_
    refine g_aload_n hx 20 (i := 0) 0 dX11_servedBy_20 rfl rfl ?_
    refine g_get hx 21 (C := RX11) (T := TX11) (N := 30) 7 (.ref (T + 1 + ρ)) (pM_o σ T ow ρ M_790) rfl (by decide) rfl fl_X11_31 dX11_servedBy_21 ?_
    refine g_iconst hx 24 (2) dX11_servedBy_24 rfl ?_
    refine g_iald hx 25 (pM_row hρ σ T ow M_790) (by decide : inB 2 257) dX11_servedBy_25 ?_
    obtain ⟨q_792, eq_792, hr⟩ := bind_e hr
    refine g_callVr hx (c_Md_passOn hρ l g σ T ow M_790 p1 ((M_790.2 ρ) (2 : Int32).toNatClampNeg) eq_792) lk_X11_251 ar_Md_passOn (pM_o σ T ow ρ M_790) (T := TX11) (N := 30) rfl (As := [.int p1, .int ((M_790.2 ρ) (2 : Int32).toNatClampNeg)]) (rest := [.ref T]) rfl (Nat.le_of_ble_eq_true rfl) ⟨Nat.le_of_ble_eq_true rfl, Nat.le_of_ble_eq_true rfl⟩ ⟨rfl, rfl⟩ ⟨Nat.zero_le _, Nat.zero_le _⟩ dX11_servedBy_26 ?_
    obtain ⟨q_793, eq_793, hr⟩ := bind_e hr
    refine g_callVr hx (c_Md_laidBack hρ l g σ T ow q_792.2 q_792.1 eq_793) lk_X11_245 ar_Md_laidBack (pM_o σ T ow ρ q_792.2) (T := TX11) (N := 30) rfl (As := [.int q_792.1]) (rest := []) rfl (Nat.le_of_ble_eq_true rfl) ⟨Nat.le_of_ble_eq_true rfl, Nat.le_of_ble_eq_true rfl⟩ ⟨rfl, rfl⟩ ⟨Nat.zero_le _, Nat.zero_le _⟩ dX11_servedBy_29 ?_
    exact g_iret hx hR 32 dX11_servedBy_32 ⟨by rw [← Option.some.inj hr] <;> rfl, by rw [← Option.some.inj hr] <;> rfl⟩
  · have hr := (if_neg hc_789).symm.trans hr
    refine g_iconst hx 11 (0) dX11_servedBy_11 rfl ?_
    exact g_iret hx hR 12 dX11_servedBy_12 ⟨by rw [← Option.some.inj hr] <;> rfl, by rw [← Option.some.inj hr] <;> rfl⟩
def Md_waitingIn (ρ : Nat) (M : MdM) (p1 : Int32) : Option (Int32 × MdM) := lt' (Md_lacks ρ M (Md_areDays p1)) fun q_794 => if q_794.1 = 0 then (Option.bind (Md_goAside ρ q_794.2) fun M_796 => Option.bind (Md_passOn ρ M_796 p1 ((M_796.2 ρ) (2 : Int32).toNatClampNeg)) fun q_798 => lt' (q_798.1) fun v2_799 => Option.bind (Md_laidBack ρ q_798.2 ((q_798.2.2 ρ) (8 : Int32).toNatClampNeg)) fun q_801 => some ((q_801.1, q_801.2))) else (some ((0, q_794.2)))
set_option maxRecDepth 100000 in
set_option maxHeartbeats 4000000 in
theorem c_Md_waitingIn {ρ : Nat} (hρ : ρ < 2) (l : Launch) (g : Gl) (σ : Hp) (T : Nat) (ow : Nat → Option Nat) (M : MdM) (p1 : Int32) {r : Int32 × MdM} (hr : Md_waitingIn ρ M p1 = some r) : MG l g md_Md_waitingIn [.ref T, .int p1] (putMd σ T ow ρ M) (rs (some (.int r.1)) (putMd σ T ow ρ r.2)) := by
  refine MG.intro (by decide +kernel) (Nat.le_of_ble_eq_true rfl) (fun X hx hR _ => ?_)
  unfold Md_waitingIn at hr
  refine g_ls [0, 1] [(0, .ref T), (1, .int p1)] rfl ?_
  refine g_aload_n hx 0 (i := 0) 0 dX11_waitingIn_0 rfl rfl ?_
  refine g_iload_n hx 1 (i := 1) 1 dX11_waitingIn_1 rfl rfl ?_
  refine g_callSr hx (c_Md_areDays l g _ p1 rfl) lk_X11_248 ar_Md_areDays (As := [.int p1]) (rest := [.ref T]) rfl (Nat.le_of_ble_eq_true rfl) ⟨Nat.le_of_ble_eq_true rfl, Nat.le_of_ble_eq_true rfl⟩ ⟨rfl, rfl⟩ ⟨Nat.zero_le _, Nat.zero_le _⟩ dX11_waitingIn_2 ?_
  obtain ⟨q_794, eq_794, hr⟩ := lt'_e hr
  refine g_callVr hx (c_Md_lacks hρ l g σ T ow M (Md_areDays p1) eq_794.symm) lk_X11_170 ar_Md_lacks (pM_o σ T ow ρ M) (T := TX11) (N := 30) rfl (As := [.int (Md_areDays p1)]) (rest := []) rfl (Nat.le_of_ble_eq_true rfl) ⟨Nat.le_of_ble_eq_true rfl, Nat.le_of_ble_eq_true rfl⟩ ⟨rfl, rfl⟩ ⟨Nat.zero_le _, Nat.zero_le _⟩ dX11_waitingIn_5 ?_
  refine g_if_eq hx 8 13 dX11_waitingIn_8 (by decide) (fun hc_795 => ?_) (fun hc_795 => ?_)
  · have hr := (if_pos hc_795).symm.trans hr
    refine g_aload_n hx 13 (i := 0) 0 dX11_waitingIn_13 rfl rfl ?_
    obtain ⟨M_796, eM_796, hr⟩ := bind_e hr
    refine g_callVv hx (c_Md_goAside hρ l g σ T ow q_794.2 eM_796) lk_X11_242 ar_Md_goAside (pM_o σ T ow ρ q_794.2) (T := TX11) (N := 30) rfl (As := []) (rest := []) rfl (Nat.le_of_ble_eq_true rfl) ⟨Nat.le_of_ble_eq_true rfl, Nat.le_of_ble_eq_true rfl⟩ ⟨rfl, rfl⟩ ⟨Nat.zero_le _, Nat.zero_le _⟩ dX11_waitingIn_14 ?_
    refine g_aload_n hx 17 (i := 0) 0 dX11_waitingIn_17 rfl rfl ?_
    refine g_iload_n hx 18 (i := 1) 1 dX11_waitingIn_18 rfl rfl ?_
    refine g_aload_n hx 19 (i := 0) 0 dX11_waitingIn_19 rfl rfl ?_
    refine g_get hx 20 (C := RX11) (T := TX11) (N := 30) 7 (.ref (T + 1 + ρ)) (pM_o σ T ow ρ M_796) rfl (by decide) rfl fl_X11_31 dX11_waitingIn_20 ?_
    refine g_iconst hx 23 (2) dX11_waitingIn_23 rfl ?_
    refine g_iald hx 24 (pM_row hρ σ T ow M_796) (by decide : inB 2 257) dX11_waitingIn_24 ?_
    obtain ⟨q_798, eq_798, hr⟩ := bind_e hr
    refine g_callVr hx (c_Md_passOn hρ l g σ T ow M_796 p1 ((M_796.2 ρ) (2 : Int32).toNatClampNeg) eq_798) lk_X11_251 ar_Md_passOn (pM_o σ T ow ρ M_796) (T := TX11) (N := 30) rfl (As := [.int p1, .int ((M_796.2 ρ) (2 : Int32).toNatClampNeg)]) (rest := []) rfl (Nat.le_of_ble_eq_true rfl) ⟨Nat.le_of_ble_eq_true rfl, Nat.le_of_ble_eq_true rfl⟩ ⟨rfl, rfl⟩ ⟨Nat.zero_le _, Nat.zero_le _⟩ dX11_waitingIn_25 ?_
    obtain ⟨v2_799, ev2_799, hr⟩ := lt'_e hr
    refine g_nmi ev2_799 ?_
    refine g_istore_n hx 28 (i := 2) [(2, .int v2_799), (0, .ref T), (1, .int p1)] dX11_waitingIn_28 rfl (by decide) rfl ?_
    refine g_aload_n hx 29 (i := 0) 1 dX11_waitingIn_29 rfl rfl ?_
    refine g_aload_n hx 30 (i := 0) 1 dX11_waitingIn_30 rfl rfl ?_
    refine g_get hx 31 (C := RX11) (T := TX11) (N := 30) 7 (.ref (T + 1 + ρ)) (pM_o σ T ow ρ q_798.2) rfl (by decide) rfl fl_X11_31 dX11_waitingIn_31 ?_
    refine g_bipush hx 34 (8) dX11_waitingIn_34 rfl ?_
    refine g_iald hx 36 (pM_row hρ σ T ow q_798.2) (by decide : inB 8 257) dX11_waitingIn_36 ?_
    obtain ⟨q_801, eq_801, hr⟩ := bind_e hr
    refine g_callVr hx (c_Md_laidBack hρ l g σ T ow q_798.2 ((q_798.2.2 ρ) (8 : Int32).toNatClampNeg) eq_801) lk_X11_245 ar_Md_laidBack (pM_o σ T ow ρ q_798.2) (T := TX11) (N := 30) rfl (As := [.int ((q_798.2.2 ρ) (8 : Int32).toNatClampNeg)]) (rest := []) rfl (Nat.le_of_ble_eq_true rfl) ⟨Nat.le_of_ble_eq_true rfl, Nat.le_of_ble_eq_true rfl⟩ ⟨rfl, rfl⟩ ⟨Nat.zero_le _, Nat.zero_le _⟩ dX11_waitingIn_37 ?_
    exact g_iret hx hR 40 dX11_waitingIn_40 ⟨by rw [← Option.some.inj hr] <;> rfl, by rw [← Option.some.inj hr] <;> rfl⟩
  · have hr := (if_neg hc_795).symm.trans hr
    refine g_iconst hx 11 (0) dX11_waitingIn_11 rfl ?_
    exact g_iret hx hR 12 dX11_waitingIn_12 ⟨by rw [← Option.some.inj hr] <;> rfl, by rw [← Option.some.inj hr] <;> rfl⟩
def Md_servedWith (ρ : Nat) (M : MdM) (p1 : Int32) : Option (Int32 × MdM) := lt' (Md_lacks ρ M (Md_inRange p1 1 6)) fun q_802 => if q_802.1 = 0 then (Option.bind (Md_goAside ρ q_802.2) fun M_804 => Option.bind (Md_passOn ρ M_804 10 p1) fun q_805 => Option.bind (Md_laidBack ρ q_805.2 q_805.1) fun q_806 => some ((q_806.1, q_806.2))) else (some ((0, q_802.2)))
set_option maxRecDepth 100000 in
set_option maxHeartbeats 4000000 in
theorem c_Md_servedWith {ρ : Nat} (hρ : ρ < 2) (l : Launch) (g : Gl) (σ : Hp) (T : Nat) (ow : Nat → Option Nat) (M : MdM) (p1 : Int32) {r : Int32 × MdM} (hr : Md_servedWith ρ M p1 = some r) : MG l g md_Md_servedWith [.ref T, .int p1] (putMd σ T ow ρ M) (rs (some (.int r.1)) (putMd σ T ow ρ r.2)) := by
  refine MG.intro (by decide +kernel) (Nat.le_of_ble_eq_true rfl) (fun X hx hR _ => ?_)
  unfold Md_servedWith at hr
  refine g_ls [0, 1] [(0, .ref T), (1, .int p1)] rfl ?_
  refine g_aload_n hx 0 (i := 0) 0 dX11_servedWith_0 rfl rfl ?_
  refine g_iload_n hx 1 (i := 1) 1 dX11_servedWith_1 rfl rfl ?_
  refine g_iconst hx 2 (1) dX11_servedWith_2 rfl ?_
  refine g_bipush hx 3 (6) dX11_servedWith_3 rfl ?_
  refine g_callSr hx (c_Md_inRange l g _ p1 1 6 rfl) lk_X11_91 ar_Md_inRange (As := [.int p1, .int 1, .int 6]) (rest := [.ref T]) rfl (Nat.le_of_ble_eq_true rfl) ⟨Nat.le_of_ble_eq_true rfl, Nat.le_of_ble_eq_true rfl⟩ ⟨rfl, rfl⟩ ⟨Nat.zero_le _, Nat.zero_le _⟩ dX11_servedWith_5 ?_
  obtain ⟨q_802, eq_802, hr⟩ := lt'_e hr
  refine g_callVr hx (c_Md_lacks hρ l g σ T ow M (Md_inRange p1 1 6) eq_802.symm) lk_X11_170 ar_Md_lacks (pM_o σ T ow ρ M) (T := TX11) (N := 30) rfl (As := [.int (Md_inRange p1 1 6)]) (rest := []) rfl (Nat.le_of_ble_eq_true rfl) ⟨Nat.le_of_ble_eq_true rfl, Nat.le_of_ble_eq_true rfl⟩ ⟨rfl, rfl⟩ ⟨Nat.zero_le _, Nat.zero_le _⟩ dX11_servedWith_8 ?_
  refine g_if_eq hx 11 16 dX11_servedWith_11 (by decide) (fun hc_803 => ?_) (fun hc_803 => ?_)
  · have hr := (if_pos hc_803).symm.trans hr
    refine g_aload_n hx 16 (i := 0) 0 dX11_servedWith_16 rfl rfl ?_
    obtain ⟨M_804, eM_804, hr⟩ := bind_e hr
    refine g_callVv hx (c_Md_goAside hρ l g σ T ow q_802.2 eM_804) lk_X11_242 ar_Md_goAside (pM_o σ T ow ρ q_802.2) (T := TX11) (N := 30) rfl (As := []) (rest := []) rfl (Nat.le_of_ble_eq_true rfl) ⟨Nat.le_of_ble_eq_true rfl, Nat.le_of_ble_eq_true rfl⟩ ⟨rfl, rfl⟩ ⟨Nat.zero_le _, Nat.zero_le _⟩ dX11_servedWith_17 ?_
    refine g_aload_n hx 20 (i := 0) 0 dX11_servedWith_20 rfl rfl ?_
    refine g_aload_n hx 21 (i := 0) 0 dX11_servedWith_21 rfl rfl ?_
    refine g_bipush hx 22 (10) dX11_servedWith_22 rfl ?_
    refine g_iload_n hx 24 (i := 1) 1 dX11_servedWith_24 rfl rfl ?_
    obtain ⟨q_805, eq_805, hr⟩ := bind_e hr
    refine g_callVr hx (c_Md_passOn hρ l g σ T ow M_804 10 p1 eq_805) lk_X11_251 ar_Md_passOn (pM_o σ T ow ρ M_804) (T := TX11) (N := 30) rfl (As := [.int 10, .int p1]) (rest := [.ref T]) rfl (Nat.le_of_ble_eq_true rfl) ⟨Nat.le_of_ble_eq_true rfl, Nat.le_of_ble_eq_true rfl⟩ ⟨rfl, rfl⟩ ⟨Nat.zero_le _, Nat.zero_le _⟩ dX11_servedWith_25 ?_
    obtain ⟨q_806, eq_806, hr⟩ := bind_e hr
    refine g_callVr hx (c_Md_laidBack hρ l g σ T ow q_805.2 q_805.1 eq_806) lk_X11_245 ar_Md_laidBack (pM_o σ T ow ρ q_805.2) (T := TX11) (N := 30) rfl (As := [.int q_805.1]) (rest := []) rfl (Nat.le_of_ble_eq_true rfl) ⟨Nat.le_of_ble_eq_true rfl, Nat.le_of_ble_eq_true rfl⟩ ⟨rfl, rfl⟩ ⟨Nat.zero_le _, Nat.zero_le _⟩ dX11_servedWith_28 ?_
    exact g_iret hx hR 31 dX11_servedWith_31 ⟨by rw [← Option.some.inj hr] <;> rfl, by rw [← Option.some.inj hr] <;> rfl⟩
  · have hr := (if_neg hc_803).symm.trans hr
    refine g_iconst hx 14 (0) dX11_servedWith_14 rfl ?_
    exact g_iret hx hR 15 dX11_servedWith_15 ⟨by rw [← Option.some.inj hr] <;> rfl, by rw [← Option.some.inj hr] <;> rfl⟩
def Md_swapsLeft (ρ : Nat) (M : MdM) : Option (Int32 × MdM) := Option.bind (Md_countInversions ρ (setF M 9 0)) fun q_807 => some ((q_807, setF M 9 0))
set_option maxRecDepth 100000 in
set_option maxHeartbeats 4000000 in
theorem c_Md_swapsLeft {ρ : Nat} (hρ : ρ < 2) (l : Launch) (g : Gl) (σ : Hp) (T : Nat) (ow : Nat → Option Nat) (M : MdM) {r : Int32 × MdM} (hr : Md_swapsLeft ρ M = some r) : MG l g md_Md_swapsLeft [.ref T] (putMd σ T ow ρ M) (rs (some (.int r.1)) (putMd σ T ow ρ r.2)) := by
  refine MG.intro (by decide +kernel) (Nat.le_of_ble_eq_true rfl) (fun X hx hR _ => ?_)
  unfold Md_swapsLeft at hr
  refine g_ls [0] [(0, .ref T)] rfl ?_
  refine g_aload_n hx 0 (i := 0) 0 dX11_swapsLeft_0 rfl rfl ?_
  refine g_iconst hx 1 (0) dX11_swapsLeft_1 rfl ?_
  refine g_put hx 2 (C := RX11) (T := TX11) (N := 30) 9 .int _ (pM_o σ T ow ρ M) rfl (by decide) fl_X11_81 rfl rfl rfl rfl (Nat.le_of_ble_eq_true rfl) rfl dX11_swapsLeft_2 ?_
  refine G.heap (pM_f σ T ow ρ M 9 0) ?_
  refine g_aload_n hx 5 (i := 0) 0 dX11_swapsLeft_5 rfl rfl ?_
  obtain ⟨q_807, eq_807, hr⟩ := bind_e hr
  refine g_callVr hx (c_Md_countInversions hρ l g σ T ow (setF M 9 0) eq_807) lk_X11_220 ar_Md_countInversions (pM_o σ T ow ρ (setF M 9 0)) (T := TX11) (N := 30) rfl (As := []) (rest := []) rfl (Nat.le_of_ble_eq_true rfl) ⟨Nat.le_of_ble_eq_true rfl, Nat.le_of_ble_eq_true rfl⟩ ⟨rfl, rfl⟩ ⟨Nat.zero_le _, Nat.zero_le _⟩ dX11_swapsLeft_6 ?_
  exact g_iret hx hR 9 dX11_swapsLeft_9 ⟨by rw [← Option.some.inj hr] <;> rfl, by rw [← Option.some.inj hr] <;> rfl⟩
def Md_missedAfter (ρ : Nat) (M : MdM) (p1 : Int32) : Option (Int32 × MdM) := lt' (Md_lacks ρ M (Md_inRange p1 0 99)) fun q_808 => if q_808.1 = 0 then (Option.bind (Md_goAside ρ q_808.2) fun M_810 => Option.bind (Md_swapOn ρ M_810 p1) fun q_811 => lt' (q_811.1) fun v2_812 => Option.bind (Md_countMissed ρ q_811.2) fun q_813 => Option.bind (Md_laidBack ρ q_813.2 q_813.1) fun q_814 => some ((q_814.1, q_814.2))) else (some ((0, q_808.2)))
set_option maxRecDepth 100000 in
set_option maxHeartbeats 4000000 in
theorem c_Md_missedAfter {ρ : Nat} (hρ : ρ < 2) (l : Launch) (g : Gl) (σ : Hp) (T : Nat) (ow : Nat → Option Nat) (M : MdM) (p1 : Int32) {r : Int32 × MdM} (hr : Md_missedAfter ρ M p1 = some r) : MG l g md_Md_missedAfter [.ref T, .int p1] (putMd σ T ow ρ M) (rs (some (.int r.1)) (putMd σ T ow ρ r.2)) := by
  refine MG.intro (by decide +kernel) (Nat.le_of_ble_eq_true rfl) (fun X hx hR _ => ?_)
  unfold Md_missedAfter at hr
  refine g_ls [0, 1] [(0, .ref T), (1, .int p1)] rfl ?_
  refine g_aload_n hx 0 (i := 0) 0 dX11_missedAfter_0 rfl rfl ?_
  refine g_iload_n hx 1 (i := 1) 1 dX11_missedAfter_1 rfl rfl ?_
  refine g_iconst hx 2 (0) dX11_missedAfter_2 rfl ?_
  refine g_bipush hx 3 (99) dX11_missedAfter_3 rfl ?_
  refine g_callSr hx (c_Md_inRange l g _ p1 0 99 rfl) lk_X11_91 ar_Md_inRange (As := [.int p1, .int 0, .int 99]) (rest := [.ref T]) rfl (Nat.le_of_ble_eq_true rfl) ⟨Nat.le_of_ble_eq_true rfl, Nat.le_of_ble_eq_true rfl⟩ ⟨rfl, rfl⟩ ⟨Nat.zero_le _, Nat.zero_le _⟩ dX11_missedAfter_5 ?_
  obtain ⟨q_808, eq_808, hr⟩ := lt'_e hr
  refine g_callVr hx (c_Md_lacks hρ l g σ T ow M (Md_inRange p1 0 99) eq_808.symm) lk_X11_170 ar_Md_lacks (pM_o σ T ow ρ M) (T := TX11) (N := 30) rfl (As := [.int (Md_inRange p1 0 99)]) (rest := []) rfl (Nat.le_of_ble_eq_true rfl) ⟨Nat.le_of_ble_eq_true rfl, Nat.le_of_ble_eq_true rfl⟩ ⟨rfl, rfl⟩ ⟨Nat.zero_le _, Nat.zero_le _⟩ dX11_missedAfter_8 ?_
  refine g_if_eq hx 11 16 dX11_missedAfter_11 (by decide) (fun hc_809 => ?_) (fun hc_809 => ?_)
  · have hr := (if_pos hc_809).symm.trans hr
    refine g_aload_n hx 16 (i := 0) 0 dX11_missedAfter_16 rfl rfl ?_
    obtain ⟨M_810, eM_810, hr⟩ := bind_e hr
    refine g_callVv hx (c_Md_goAside hρ l g σ T ow q_808.2 eM_810) lk_X11_242 ar_Md_goAside (pM_o σ T ow ρ q_808.2) (T := TX11) (N := 30) rfl (As := []) (rest := []) rfl (Nat.le_of_ble_eq_true rfl) ⟨Nat.le_of_ble_eq_true rfl, Nat.le_of_ble_eq_true rfl⟩ ⟨rfl, rfl⟩ ⟨Nat.zero_le _, Nat.zero_le _⟩ dX11_missedAfter_17 ?_
    refine g_aload_n hx 20 (i := 0) 0 dX11_missedAfter_20 rfl rfl ?_
    refine g_iload_n hx 21 (i := 1) 1 dX11_missedAfter_21 rfl rfl ?_
    obtain ⟨q_811, eq_811, hr⟩ := bind_e hr
    refine g_callVr hx (c_Md_swapOn hρ l g σ T ow M_810 p1 eq_811) lk_X11_254 ar_Md_swapOn (pM_o σ T ow ρ M_810) (T := TX11) (N := 30) rfl (As := [.int p1]) (rest := []) rfl (Nat.le_of_ble_eq_true rfl) ⟨Nat.le_of_ble_eq_true rfl, Nat.le_of_ble_eq_true rfl⟩ ⟨rfl, rfl⟩ ⟨Nat.zero_le _, Nat.zero_le _⟩ dX11_missedAfter_22 ?_
    obtain ⟨v2_812, ev2_812, hr⟩ := lt'_e hr
    refine g_nmi ev2_812 ?_
    refine g_istore_n hx 25 (i := 2) [(2, .int v2_812), (0, .ref T), (1, .int p1)] dX11_missedAfter_25 rfl (by decide) rfl ?_
    refine g_aload_n hx 26 (i := 0) 1 dX11_missedAfter_26 rfl rfl ?_
    refine g_aload_n hx 27 (i := 0) 1 dX11_missedAfter_27 rfl rfl ?_
    obtain ⟨q_813, eq_813, hr⟩ := bind_e hr
    refine g_callVr hx (c_Md_countMissed hρ l g σ T ow q_811.2 eq_813) lk_X11_211 ar_Md_countMissed (pM_o σ T ow ρ q_811.2) (T := TX11) (N := 30) rfl (As := []) (rest := [.ref T]) rfl (Nat.le_of_ble_eq_true rfl) ⟨Nat.le_of_ble_eq_true rfl, Nat.le_of_ble_eq_true rfl⟩ ⟨rfl, rfl⟩ ⟨Nat.zero_le _, Nat.zero_le _⟩ dX11_missedAfter_28 ?_
    obtain ⟨q_814, eq_814, hr⟩ := bind_e hr
    refine g_callVr hx (c_Md_laidBack hρ l g σ T ow q_813.2 q_813.1 eq_814) lk_X11_245 ar_Md_laidBack (pM_o σ T ow ρ q_813.2) (T := TX11) (N := 30) rfl (As := [.int q_813.1]) (rest := []) rfl (Nat.le_of_ble_eq_true rfl) ⟨Nat.le_of_ble_eq_true rfl, Nat.le_of_ble_eq_true rfl⟩ ⟨rfl, rfl⟩ ⟨Nat.zero_le _, Nat.zero_le _⟩ dX11_missedAfter_31 ?_
    exact g_iret hx hR 34 dX11_missedAfter_34 ⟨by rw [← Option.some.inj hr] <;> rfl, by rw [← Option.some.inj hr] <;> rfl⟩
  · have hr := (if_neg hc_809).symm.trans hr
    refine g_iconst hx 14 (0) dX11_missedAfter_14 rfl ?_
    exact g_iret hx hR 15 dX11_missedAfter_15 ⟨by rw [← Option.some.inj hr] <;> rfl, by rw [← Option.some.inj hr] <;> rfl⟩
def Md_ends (ρ : Nat) (M : MdM) (p1 : Int32) : Option (Int32 × MdM) := if 0 ≤ p1 then (some ((p1, setA M 6 (upd (M.2 6) (0 : Int32).toNatClampNeg (((M.2 6) (0 : Int32).toNatClampNeg) + 1))))) else (some ((p1, setA M 6 (upd (M.2 6) (1 : Int32).toNatClampNeg (((M.2 6) (1 : Int32).toNatClampNeg) + 1)))))
set_option maxRecDepth 100000 in
set_option maxHeartbeats 4000000 in
theorem c_Md_ends {ρ : Nat} (hρ : ρ < 2) (l : Launch) (g : Gl) (σ : Hp) (T : Nat) (ow : Nat → Option Nat) (M : MdM) (p1 : Int32) {r : Int32 × MdM} (hr : Md_ends ρ M p1 = some r) : MG l g md_Md_ends [.ref T, .int p1] (putMd σ T ow ρ M) (rs (some (.int r.1)) (putMd σ T ow ρ r.2)) := by
  refine MG.intro (by decide +kernel) (Nat.le_of_ble_eq_true rfl) (fun X hx hR _ => ?_)
  unfold Md_ends at hr
  refine g_ls [0, 1] [(0, .ref T), (1, .int p1)] rfl ?_
  refine g_aload_n hx 0 (i := 0) 0 dX11_ends_0 rfl rfl ?_
  refine g_get hx 1 (C := RX11) (T := TX11) (N := 30) 6 (.ref (T + 7)) (pM_o σ T ow ρ M) rfl (by decide) rfl fl_X11_28 dX11_ends_1 ?_
  refine g_iload_n hx 4 (i := 1) 1 dX11_ends_4 rfl rfl ?_
  refine g_if_ge hx 5 12 dX11_ends_5 (by decide) (fun hc_815 => ?_) (fun hc_815 => ?_)
  · have hr := (if_pos hc_815).symm.trans hr
    refine g_iconst hx 12 (0) dX11_ends_12 rfl ?_
    refine g_dup2 hx 13 dX11_ends_13 rfl rfl ?_
    refine g_iald hx 14 (pM_a σ T ow ρ M 6 (by decide)) (by decide : inB 0 3) dX11_ends_14 ?_
    refine g_iconst hx 15 (1) dX11_ends_15 rfl ?_
    refine g_iadd hx 16 dX11_ends_16 ?_
    refine g_iast hx 17 (pM_a σ T ow ρ M 6 (by decide)) (by decide : inB 0 3) dX11_ends_17 ?_
    refine G.heap (pM_s σ T ow ρ M 6 (by decide) (upd (M.2 6) (0 : Int32).toNatClampNeg (((M.2 6) (0 : Int32).toNatClampNeg) + 1))) ?_
    refine g_iload_n hx 18 (i := 1) 1 dX11_ends_18 rfl rfl ?_
    exact g_iret hx hR 19 dX11_ends_19 ⟨by rw [← Option.some.inj hr] <;> rfl, by rw [← Option.some.inj hr] <;> rfl⟩
  · have hr := (if_neg hc_815).symm.trans hr
    refine g_iconst hx 8 (1) dX11_ends_8 rfl ?_
    refine g_goto hx 9 13 dX11_ends_9 (by decide) ?_
    refine g_dup2 hx 13 dX11_ends_13 rfl rfl ?_
    refine g_iald hx 14 (pM_a σ T ow ρ M 6 (by decide)) (by decide : inB 1 3) dX11_ends_14 ?_
    refine g_iconst hx 15 (1) dX11_ends_15 rfl ?_
    refine g_iadd hx 16 dX11_ends_16 ?_
    refine g_iast hx 17 (pM_a σ T ow ρ M 6 (by decide)) (by decide : inB 1 3) dX11_ends_17 ?_
    refine G.heap (pM_s σ T ow ρ M 6 (by decide) (upd (M.2 6) (1 : Int32).toNatClampNeg (((M.2 6) (1 : Int32).toNatClampNeg) + 1))) ?_
    refine g_iload_n hx 18 (i := 1) 1 dX11_ends_18 rfl rfl ?_
    exact g_iret hx hR 19 dX11_ends_19 ⟨by rw [← Option.some.inj hr] <;> rfl, by rw [← Option.some.inj hr] <;> rfl⟩
def Md_doSlip (ρ : Nat) (M : MdM) (p1 p2 : Int32) : Option (Int32 × MdM) := Option.bind (Md_refusal ρ M p1 p2) fun q_820 => if q_820 = 0 then (Option.bind (Md_addSlip ρ M p1 p2) fun M_822 => Option.bind (Md_tally ρ M_822 3 1) fun M_823 => Option.bind (Md_ends ρ M_823 (((M_823.2 ρ) (8 : Int32).toNatClampNeg) - 1)) fun q_825 => some ((q_825.1, q_825.2))) else (Option.bind (Md_ends ρ M q_820) fun q_826 => some ((q_826.1, q_826.2)))
set_option maxRecDepth 100000 in
set_option maxHeartbeats 4000000 in
theorem c_Md_doSlip {ρ : Nat} (hρ : ρ < 2) (l : Launch) (g : Gl) (σ : Hp) (T : Nat) (ow : Nat → Option Nat) (M : MdM) (p1 p2 : Int32) {r : Int32 × MdM} (hr : Md_doSlip ρ M p1 p2 = some r) : MG l g md_Md_doSlip [.ref T, .int p1, .int p2] (putMd σ T ow ρ M) (rs (some (.int r.1)) (putMd σ T ow ρ r.2)) := by
  refine MG.intro (by decide +kernel) (Nat.le_of_ble_eq_true rfl) (fun X hx hR _ => ?_)
  unfold Md_doSlip at hr
  refine g_ls [0, 1, 2] [(0, .ref T), (1, .int p1), (2, .int p2)] rfl ?_
  refine g_aload_n hx 0 (i := 0) 0 dX11_doSlip_0 rfl rfl ?_
  refine g_iload_n hx 1 (i := 1) 1 dX11_doSlip_1 rfl rfl ?_
  refine g_iload_n hx 2 (i := 2) 2 dX11_doSlip_2 rfl rfl ?_
  obtain ⟨q_820, eq_820, hr⟩ := bind_e hr
  refine g_callVr hx (c_Md_refusal hρ l g σ T ow M p1 p2 eq_820) lk_X11_229 ar_Md_refusal (pM_o σ T ow ρ M) (T := TX11) (N := 30) rfl (As := [.int p1, .int p2]) (rest := []) rfl (Nat.le_of_ble_eq_true rfl) ⟨Nat.le_of_ble_eq_true rfl, Nat.le_of_ble_eq_true rfl⟩ ⟨rfl, rfl⟩ ⟨Nat.zero_le _, Nat.zero_le _⟩ dX11_doSlip_3 ?_
  refine g_istore_n hx 6 (i := 3) [(3, .int q_820), (0, .ref T), (1, .int p1), (2, .int p2)] dX11_doSlip_6 rfl (by decide) rfl ?_
  refine g_iload_n hx 7 (i := 3) 0 dX11_doSlip_7 rfl rfl ?_
  refine g_if_eq hx 8 17 dX11_doSlip_8 (by decide) (fun hc_821 => ?_) (fun hc_821 => ?_)
  · have hr := (if_pos hc_821).symm.trans hr
    refine g_aload_n hx 17 (i := 0) 1 dX11_doSlip_17 rfl rfl ?_
    refine g_iload_n hx 18 (i := 1) 2 dX11_doSlip_18 rfl rfl ?_
    refine g_iload_n hx 19 (i := 2) 3 dX11_doSlip_19 rfl rfl ?_
    obtain ⟨M_822, eM_822, hr⟩ := bind_e hr
    refine g_callVv hx (c_Md_addSlip hρ l g σ T ow M p1 p2 eM_822) lk_X11_260 ar_Md_addSlip (pM_o σ T ow ρ M) (T := TX11) (N := 30) rfl (As := [.int p1, .int p2]) (rest := []) rfl (Nat.le_of_ble_eq_true rfl) ⟨Nat.le_of_ble_eq_true rfl, Nat.le_of_ble_eq_true rfl⟩ ⟨rfl, rfl⟩ ⟨Nat.zero_le _, Nat.zero_le _⟩ dX11_doSlip_20 ?_
    refine g_aload_n hx 23 (i := 0) 1 dX11_doSlip_23 rfl rfl ?_
    refine g_iconst hx 24 (3) dX11_doSlip_24 rfl ?_
    refine g_iconst hx 25 (1) dX11_doSlip_25 rfl ?_
    obtain ⟨M_823, eM_823, hr⟩ := bind_e hr
    refine g_callVv hx (c_Md_tally hρ l g σ T ow M_822 3 1 eM_823) lk_X11_139 ar_Md_tally (pM_o σ T ow ρ M_822) (T := TX11) (N := 30) rfl (As := [.int 3, .int 1]) (rest := []) rfl (Nat.le_of_ble_eq_true rfl) ⟨Nat.le_of_ble_eq_true rfl, Nat.le_of_ble_eq_true rfl⟩ ⟨rfl, rfl⟩ ⟨Nat.zero_le _, Nat.zero_le _⟩ dX11_doSlip_26 ?_
    refine g_aload_n hx 29 (i := 0) 1 dX11_doSlip_29 rfl rfl ?_
    refine g_aload_n hx 30 (i := 0) 1 dX11_doSlip_30 rfl rfl ?_
    refine g_get hx 31 (C := RX11) (T := TX11) (N := 30) 7 (.ref (T + 1 + ρ)) (pM_o σ T ow ρ M_823) rfl (by decide) rfl fl_X11_31 dX11_doSlip_31 ?_
    refine g_bipush hx 34 (8) dX11_doSlip_34 rfl ?_
    refine g_iald hx 36 (pM_row hρ σ T ow M_823) (by decide : inB 8 257) dX11_doSlip_36 ?_
    refine g_iconst hx 37 (1) dX11_doSlip_37 rfl ?_
    refine g_isub hx 38 dX11_doSlip_38 ?_
    obtain ⟨q_825, eq_825, hr⟩ := bind_e hr
    refine g_callVr hx (c_Md_ends hρ l g σ T ow M_823 (((M_823.2 ρ) (8 : Int32).toNatClampNeg) - 1) eq_825) lk_X11_257 ar_Md_ends (pM_o σ T ow ρ M_823) (T := TX11) (N := 30) rfl (As := [.int (((M_823.2 ρ) (8 : Int32).toNatClampNeg) - 1)]) (rest := []) rfl (Nat.le_of_ble_eq_true rfl) ⟨Nat.le_of_ble_eq_true rfl, Nat.le_of_ble_eq_true rfl⟩ ⟨rfl, rfl⟩ ⟨Nat.zero_le _, Nat.zero_le _⟩ dX11_doSlip_39 ?_
    exact g_iret hx hR 42 dX11_doSlip_42 ⟨by rw [← Option.some.inj hr] <;> rfl, by rw [← Option.some.inj hr] <;> rfl⟩
  · have hr := (if_neg hc_821).symm.trans hr
    refine g_aload_n hx 11 (i := 0) 1 dX11_doSlip_11 rfl rfl ?_
    refine g_iload_n hx 12 (i := 3) 0 dX11_doSlip_12 rfl rfl ?_
    obtain ⟨q_826, eq_826, hr⟩ := bind_e hr
    refine g_callVr hx (c_Md_ends hρ l g σ T ow M q_820 eq_826) lk_X11_257 ar_Md_ends (pM_o σ T ow ρ M) (T := TX11) (N := 30) rfl (As := [.int q_820]) (rest := []) rfl (Nat.le_of_ble_eq_true rfl) ⟨Nat.le_of_ble_eq_true rfl, Nat.le_of_ble_eq_true rfl⟩ ⟨rfl, rfl⟩ ⟨Nat.zero_le _, Nat.zero_le _⟩ dX11_doSlip_13 ?_
    exact g_iret hx hR 16 dX11_doSlip_16 ⟨by rw [← Option.some.inj hr] <;> rfl, by rw [← Option.some.inj hr] <;> rfl⟩
def Md_doDrop (ρ : Nat) (M : MdM) (p1 : Int32) : Option (Int32 × MdM) := Option.bind (Md_isSlip ρ M p1) fun q_827 => if q_827 = 0 then (Option.bind (Md_ends ρ M (-2)) fun q_829 => some ((q_829.1, q_829.2))) else (Option.bind (Md_removeSlip ρ M p1) fun M_830 => Option.bind (Md_ends ρ M_830 ((M_830.2 ρ) (8 : Int32).toNatClampNeg)) fun q_832 => some ((q_832.1, q_832.2)))
set_option maxRecDepth 100000 in
set_option maxHeartbeats 4000000 in
theorem c_Md_doDrop {ρ : Nat} (hρ : ρ < 2) (l : Launch) (g : Gl) (σ : Hp) (T : Nat) (ow : Nat → Option Nat) (M : MdM) (p1 : Int32) {r : Int32 × MdM} (hr : Md_doDrop ρ M p1 = some r) : MG l g md_Md_doDrop [.ref T, .int p1] (putMd σ T ow ρ M) (rs (some (.int r.1)) (putMd σ T ow ρ r.2)) := by
  refine MG.intro (by decide +kernel) (Nat.le_of_ble_eq_true rfl) (fun X hx hR _ => ?_)
  unfold Md_doDrop at hr
  refine g_ls [0, 1] [(0, .ref T), (1, .int p1)] rfl ?_
  refine g_aload_n hx 0 (i := 0) 0 dX11_doDrop_0 rfl rfl ?_
  refine g_iload_n hx 1 (i := 1) 1 dX11_doDrop_1 rfl rfl ?_
  obtain ⟨q_827, eq_827, hr⟩ := bind_e hr
  refine g_callVr hx (c_Md_isSlip hρ l g σ T ow M p1 eq_827) lk_X11_204 ar_Md_isSlip (pM_o σ T ow ρ M) (T := TX11) (N := 30) rfl (As := [.int p1]) (rest := []) rfl (Nat.le_of_ble_eq_true rfl) ⟨Nat.le_of_ble_eq_true rfl, Nat.le_of_ble_eq_true rfl⟩ ⟨rfl, rfl⟩ ⟨Nat.zero_le _, Nat.zero_le _⟩ dX11_doDrop_2 ?_
  refine g_if_ne hx 5 15 dX11_doDrop_5 (by decide) (fun hc_828 => ?_) (fun hc_828 => ?_)
  · have hr := (if_neg hc_828).symm.trans hr
    refine g_aload_n hx 15 (i := 0) 0 dX11_doDrop_15 rfl rfl ?_
    refine g_iload_n hx 16 (i := 1) 1 dX11_doDrop_16 rfl rfl ?_
    obtain ⟨M_830, eM_830, hr⟩ := bind_e hr
    refine g_callVv hx (c_Md_removeSlip hρ l g σ T ow M p1 eM_830) lk_X11_145 ar_Md_removeSlip (pM_o σ T ow ρ M) (T := TX11) (N := 30) rfl (As := [.int p1]) (rest := []) rfl (Nat.le_of_ble_eq_true rfl) ⟨Nat.le_of_ble_eq_true rfl, Nat.le_of_ble_eq_true rfl⟩ ⟨rfl, rfl⟩ ⟨Nat.zero_le _, Nat.zero_le _⟩ dX11_doDrop_17 ?_
    refine g_aload_n hx 20 (i := 0) 0 dX11_doDrop_20 rfl rfl ?_
    refine g_aload_n hx 21 (i := 0) 0 dX11_doDrop_21 rfl rfl ?_
    refine g_get hx 22 (C := RX11) (T := TX11) (N := 30) 7 (.ref (T + 1 + ρ)) (pM_o σ T ow ρ M_830) rfl (by decide) rfl fl_X11_31 dX11_doDrop_22 ?_
    refine g_bipush hx 25 (8) dX11_doDrop_25 rfl ?_
    refine g_iald hx 27 (pM_row hρ σ T ow M_830) (by decide : inB 8 257) dX11_doDrop_27 ?_
    obtain ⟨q_832, eq_832, hr⟩ := bind_e hr
    refine g_callVr hx (c_Md_ends hρ l g σ T ow M_830 ((M_830.2 ρ) (8 : Int32).toNatClampNeg) eq_832) lk_X11_257 ar_Md_ends (pM_o σ T ow ρ M_830) (T := TX11) (N := 30) rfl (As := [.int ((M_830.2 ρ) (8 : Int32).toNatClampNeg)]) (rest := []) rfl (Nat.le_of_ble_eq_true rfl) ⟨Nat.le_of_ble_eq_true rfl, Nat.le_of_ble_eq_true rfl⟩ ⟨rfl, rfl⟩ ⟨Nat.zero_le _, Nat.zero_le _⟩ dX11_doDrop_28 ?_
    exact g_iret hx hR 31 dX11_doDrop_31 ⟨by rw [← Option.some.inj hr] <;> rfl, by rw [← Option.some.inj hr] <;> rfl⟩
  · have hr := (if_pos hc_828).symm.trans hr
    refine g_aload_n hx 8 (i := 0) 0 dX11_doDrop_8 rfl rfl ?_
    refine g_bipush hx 9 (-2) dX11_doDrop_9 rfl ?_
    obtain ⟨q_829, eq_829, hr⟩ := bind_e hr
    refine g_callVr hx (c_Md_ends hρ l g σ T ow M (-2) eq_829) lk_X11_257 ar_Md_ends (pM_o σ T ow ρ M) (T := TX11) (N := 30) rfl (As := [.int (-2)]) (rest := []) rfl (Nat.le_of_ble_eq_true rfl) ⟨Nat.le_of_ble_eq_true rfl, Nat.le_of_ble_eq_true rfl⟩ ⟨rfl, rfl⟩ ⟨Nat.zero_le _, Nat.zero_le _⟩ dX11_doDrop_11 ?_
    exact g_iret hx hR 14 dX11_doDrop_14 ⟨by rw [← Option.some.inj hr] <;> rfl, by rw [← Option.some.inj hr] <;> rfl⟩
def Md_doReturn (ρ : Nat) (M : MdM) (p1 : Int32) : Option (Int32 × MdM) := Option.bind (Md_isIn ρ M p1 1) fun q_833 => if q_833 = 0 then (Option.bind (Md_ends ρ M (-2)) fun q_835 => some ((q_835.1, q_835.2))) else (Option.bind (Md_lay ρ M p1 2 2) fun M_836 => if inB (169 + ((M_836.2 ρ) (7 : Int32).toNatClampNeg)) 257 then (Option.bind (Md_of ρ (setA M_836 ρ (upd (upd (M_836.2 ρ) (169 + ((M_836.2 ρ) (7 : Int32).toNatClampNeg)).toNatClampNeg p1) (7 : Int32).toNatClampNeg (((upd (M_836.2 ρ) (169 + ((M_836.2 ρ) (7 : Int32).toNatClampNeg)).toNatClampNeg p1) (7 : Int32).toNatClampNeg) + 1))) p1 3) fun q_841 => Option.bind (Md_ends ρ (setA M_836 ρ (upd (upd (M_836.2 ρ) (169 + ((M_836.2 ρ) (7 : Int32).toNatClampNeg)).toNatClampNeg p1) (7 : Int32).toNatClampNeg (((upd (M_836.2 ρ) (169 + ((M_836.2 ρ) (7 : Int32).toNatClampNeg)).toNatClampNeg p1) (7 : Int32).toNatClampNeg) + 1))) q_841) fun q_842 => some ((q_842.1, q_842.2))) else none)
set_option maxRecDepth 100000 in
set_option maxHeartbeats 4000000 in
theorem c_Md_doReturn {ρ : Nat} (hρ : ρ < 2) (l : Launch) (g : Gl) (σ : Hp) (T : Nat) (ow : Nat → Option Nat) (M : MdM) (p1 : Int32) {r : Int32 × MdM} (hr : Md_doReturn ρ M p1 = some r) : MG l g md_Md_doReturn [.ref T, .int p1] (putMd σ T ow ρ M) (rs (some (.int r.1)) (putMd σ T ow ρ r.2)) := by
  refine MG.intro (by decide +kernel) (Nat.le_of_ble_eq_true rfl) (fun X hx hR _ => ?_)
  unfold Md_doReturn at hr
  refine g_ls [0, 1] [(0, .ref T), (1, .int p1)] rfl ?_
  refine g_aload_n hx 0 (i := 0) 0 dX11_doReturn_0 rfl rfl ?_
  refine g_iload_n hx 1 (i := 1) 1 dX11_doReturn_1 rfl rfl ?_
  refine g_iconst hx 2 (1) dX11_doReturn_2 rfl ?_
  obtain ⟨q_833, eq_833, hr⟩ := bind_e hr
  refine g_callVr hx (c_Md_isIn hρ l g σ T ow M p1 1 eq_833) lk_X11_126 ar_Md_isIn (pM_o σ T ow ρ M) (T := TX11) (N := 30) rfl (As := [.int p1, .int 1]) (rest := []) rfl (Nat.le_of_ble_eq_true rfl) ⟨Nat.le_of_ble_eq_true rfl, Nat.le_of_ble_eq_true rfl⟩ ⟨rfl, rfl⟩ ⟨Nat.zero_le _, Nat.zero_le _⟩ dX11_doReturn_3 ?_
  refine g_if_ne hx 6 16 dX11_doReturn_6 (by decide) (fun hc_834 => ?_) (fun hc_834 => ?_)
  · have hr := (if_neg hc_834).symm.trans hr
    refine g_aload_n hx 16 (i := 0) 0 dX11_doReturn_16 rfl rfl ?_
    refine g_iload_n hx 17 (i := 1) 1 dX11_doReturn_17 rfl rfl ?_
    refine g_iconst hx 18 (2) dX11_doReturn_18 rfl ?_
    refine g_iconst hx 19 (2) dX11_doReturn_19 rfl ?_
    obtain ⟨M_836, eM_836, hr⟩ := bind_e hr
    refine g_callVv hx (c_Md_lay hρ l g σ T ow M p1 2 2 eM_836) lk_X11_84 ar_Md_lay (pM_o σ T ow ρ M) (T := TX11) (N := 30) rfl (As := [.int p1, .int 2, .int 2]) (rest := []) rfl (Nat.le_of_ble_eq_true rfl) ⟨Nat.le_of_ble_eq_true rfl, Nat.le_of_ble_eq_true rfl⟩ ⟨rfl, rfl⟩ ⟨Nat.zero_le _, Nat.zero_le _⟩ dX11_doReturn_20 ?_
    refine g_aload_n hx 23 (i := 0) 0 dX11_doReturn_23 rfl rfl ?_
    refine g_get hx 24 (C := RX11) (T := TX11) (N := 30) 7 (.ref (T + 1 + ρ)) (pM_o σ T ow ρ M_836) rfl (by decide) rfl fl_X11_31 dX11_doReturn_24 ?_
    refine g_sipush hx 27 (169) dX11_doReturn_27 rfl ?_
    refine g_aload_n hx 30 (i := 0) 0 dX11_doReturn_30 rfl rfl ?_
    refine g_get hx 31 (C := RX11) (T := TX11) (N := 30) 7 (.ref (T + 1 + ρ)) (pM_o σ T ow ρ M_836) rfl (by decide) rfl fl_X11_31 dX11_doReturn_31 ?_
    refine g_bipush hx 34 (7) dX11_doReturn_34 rfl ?_
    refine g_iald hx 36 (pM_row hρ σ T ow M_836) (by decide : inB 7 257) dX11_doReturn_36 ?_
    refine g_iadd hx 37 dX11_doReturn_37 ?_
    refine g_iload_n hx 38 (i := 1) 1 dX11_doReturn_38 rfl rfl ?_
    obtain ⟨hb_838, hr⟩ := ob hr
    refine g_iast hx 39 (pM_row hρ σ T ow M_836) hb_838 dX11_doReturn_39 ?_
    refine G.heap (pM_rs hρ σ T ow M_836 (upd (M_836.2 ρ) (169 + ((M_836.2 ρ) (7 : Int32).toNatClampNeg)).toNatClampNeg p1)) ?_
    refine g_aload_n hx 40 (i := 0) 0 dX11_doReturn_40 rfl rfl ?_
    refine g_get hx 41 (C := RX11) (T := TX11) (N := 30) 7 (.ref (T + 1 + ρ)) (pM_o σ T ow ρ (setA M_836 ρ (upd (M_836.2 ρ) (169 + ((M_836.2 ρ) (7 : Int32).toNatClampNeg)).toNatClampNeg p1))) rfl (by decide) rfl fl_X11_31 dX11_doReturn_41 ?_
    refine g_bipush hx 44 (7) dX11_doReturn_44 rfl ?_
    refine g_dup2 hx 46 dX11_doReturn_46 rfl rfl ?_
    refine g_iald hx 47 (pM_row' hρ σ T ow (setA M_836 ρ (upd (M_836.2 ρ) (169 + ((M_836.2 ρ) (7 : Int32).toNatClampNeg)).toNatClampNeg p1)) (upd (M_836.2 ρ) (169 + ((M_836.2 ρ) (7 : Int32).toNatClampNeg)).toNatClampNeg p1) (setA_s M_836 ρ _)) (by decide : inB 7 257) dX11_doReturn_47 ?_
    refine g_iconst hx 48 (1) dX11_doReturn_48 rfl ?_
    refine g_iadd hx 49 dX11_doReturn_49 ?_
    refine g_iast hx 50 (pM_row' hρ σ T ow (setA M_836 ρ (upd (M_836.2 ρ) (169 + ((M_836.2 ρ) (7 : Int32).toNatClampNeg)).toNatClampNeg p1)) (upd (M_836.2 ρ) (169 + ((M_836.2 ρ) (7 : Int32).toNatClampNeg)).toNatClampNeg p1) (setA_s M_836 ρ _)) (by decide : inB 7 257) dX11_doReturn_50 ?_
    refine G.heap (pM_rs hρ σ T ow (setA M_836 ρ (upd (M_836.2 ρ) (169 + ((M_836.2 ρ) (7 : Int32).toNatClampNeg)).toNatClampNeg p1)) (upd (upd (M_836.2 ρ) (169 + ((M_836.2 ρ) (7 : Int32).toNatClampNeg)).toNatClampNeg p1) (7 : Int32).toNatClampNeg (((upd (M_836.2 ρ) (169 + ((M_836.2 ρ) (7 : Int32).toNatClampNeg)).toNatClampNeg p1) (7 : Int32).toNatClampNeg) + 1))) ?_
    refine G.heap (congrArg (putMd σ T ow ρ) (setA_A M_836 ρ _ _)) ?_
    refine g_aload_n hx 51 (i := 0) 0 dX11_doReturn_51 rfl rfl ?_
    refine g_aload_n hx 52 (i := 0) 0 dX11_doReturn_52 rfl rfl ?_
    refine g_iload_n hx 53 (i := 1) 1 dX11_doReturn_53 rfl rfl ?_
    refine g_iconst hx 54 (3) dX11_doReturn_54 rfl ?_
    obtain ⟨q_841, eq_841, hr⟩ := bind_e hr
    refine g_callVr hx (c_Md_of hρ l g σ T ow (setA M_836 ρ (upd (upd (M_836.2 ρ) (169 + ((M_836.2 ρ) (7 : Int32).toNatClampNeg)).toNatClampNeg p1) (7 : Int32).toNatClampNeg (((upd (M_836.2 ρ) (169 + ((M_836.2 ρ) (7 : Int32).toNatClampNeg)).toNatClampNeg p1) (7 : Int32).toNatClampNeg) + 1))) p1 3 eq_841) lk_X11_95 ar_Md_of (pM_o σ T ow ρ (setA M_836 ρ (upd (upd (M_836.2 ρ) (169 + ((M_836.2 ρ) (7 : Int32).toNatClampNeg)).toNatClampNeg p1) (7 : Int32).toNatClampNeg (((upd (M_836.2 ρ) (169 + ((M_836.2 ρ) (7 : Int32).toNatClampNeg)).toNatClampNeg p1) (7 : Int32).toNatClampNeg) + 1)))) (T := TX11) (N := 30) rfl (As := [.int p1, .int 3]) (rest := [.ref T]) rfl (Nat.le_of_ble_eq_true rfl) ⟨Nat.le_of_ble_eq_true rfl, Nat.le_of_ble_eq_true rfl⟩ ⟨rfl, rfl⟩ ⟨Nat.zero_le _, Nat.zero_le _⟩ dX11_doReturn_55 ?_
    obtain ⟨q_842, eq_842, hr⟩ := bind_e hr
    refine g_callVr hx (c_Md_ends hρ l g σ T ow (setA M_836 ρ (upd (upd (M_836.2 ρ) (169 + ((M_836.2 ρ) (7 : Int32).toNatClampNeg)).toNatClampNeg p1) (7 : Int32).toNatClampNeg (((upd (M_836.2 ρ) (169 + ((M_836.2 ρ) (7 : Int32).toNatClampNeg)).toNatClampNeg p1) (7 : Int32).toNatClampNeg) + 1))) q_841 eq_842) lk_X11_257 ar_Md_ends (pM_o σ T ow ρ (setA M_836 ρ (upd (upd (M_836.2 ρ) (169 + ((M_836.2 ρ) (7 : Int32).toNatClampNeg)).toNatClampNeg p1) (7 : Int32).toNatClampNeg (((upd (M_836.2 ρ) (169 + ((M_836.2 ρ) (7 : Int32).toNatClampNeg)).toNatClampNeg p1) (7 : Int32).toNatClampNeg) + 1)))) (T := TX11) (N := 30) rfl (As := [.int q_841]) (rest := []) rfl (Nat.le_of_ble_eq_true rfl) ⟨Nat.le_of_ble_eq_true rfl, Nat.le_of_ble_eq_true rfl⟩ ⟨rfl, rfl⟩ ⟨Nat.zero_le _, Nat.zero_le _⟩ dX11_doReturn_58 ?_
    exact g_iret hx hR 61 dX11_doReturn_61 ⟨by rw [← Option.some.inj hr] <;> rfl, by rw [← Option.some.inj hr] <;> rfl⟩
  · have hr := (if_pos hc_834).symm.trans hr
    refine g_aload_n hx 9 (i := 0) 0 dX11_doReturn_9 rfl rfl ?_
    refine g_bipush hx 10 (-2) dX11_doReturn_10 rfl ?_
    obtain ⟨q_835, eq_835, hr⟩ := bind_e hr
    refine g_callVr hx (c_Md_ends hρ l g σ T ow M (-2) eq_835) lk_X11_257 ar_Md_ends (pM_o σ T ow ρ M) (T := TX11) (N := 30) rfl (As := [.int (-2)]) (rest := []) rfl (Nat.le_of_ble_eq_true rfl) ⟨Nat.le_of_ble_eq_true rfl, Nat.le_of_ble_eq_true rfl⟩ ⟨rfl, rfl⟩ ⟨Nat.zero_le _, Nat.zero_le _⟩ dX11_doReturn_12 ?_
    exact g_iret hx hR 15 dX11_doReturn_15 ⟨by rw [← Option.some.inj hr] <;> rfl, by rw [← Option.some.inj hr] <;> rfl⟩
def Md_doDays (ρ : Nat) (M : MdM) (p1 : Int32) : Option (Int32 × MdM) := if ((M.2 ρ) (0 : Int32).toNatClampNeg) + p1 ≤ 999 then (Option.bind (Md_passOn ρ M p1 ((M.2 ρ) (2 : Int32).toNatClampNeg)) fun q_846 => Option.bind (Md_ends ρ q_846.2 q_846.1) fun q_847 => some ((q_847.1, q_847.2))) else (Option.bind (Md_ends ρ M (-2)) fun q_848 => some ((q_848.1, q_848.2)))
set_option maxRecDepth 100000 in
set_option maxHeartbeats 4000000 in
theorem c_Md_doDays {ρ : Nat} (hρ : ρ < 2) (l : Launch) (g : Gl) (σ : Hp) (T : Nat) (ow : Nat → Option Nat) (M : MdM) (p1 : Int32) {r : Int32 × MdM} (hr : Md_doDays ρ M p1 = some r) : MG l g md_Md_doDays [.ref T, .int p1] (putMd σ T ow ρ M) (rs (some (.int r.1)) (putMd σ T ow ρ r.2)) := by
  refine MG.intro (by decide +kernel) (Nat.le_of_ble_eq_true rfl) (fun X hx hR _ => ?_)
  unfold Md_doDays at hr
  refine g_ls [0, 1] [(0, .ref T), (1, .int p1)] rfl ?_
  refine g_aload_n hx 0 (i := 0) 0 dX11_doDays_0 rfl rfl ?_
  refine g_aload_n hx 1 (i := 0) 0 dX11_doDays_1 rfl rfl ?_
  refine g_get hx 2 (C := RX11) (T := TX11) (N := 30) 7 (.ref (T + 1 + ρ)) (pM_o σ T ow ρ M) rfl (by decide) rfl fl_X11_31 dX11_doDays_2 ?_
  refine g_iconst hx 5 (0) dX11_doDays_5 rfl ?_
  refine g_iald hx 6 (pM_row hρ σ T ow M) (by decide : inB 0 257) dX11_doDays_6 ?_
  refine g_iload_n hx 7 (i := 1) 1 dX11_doDays_7 rfl rfl ?_
  refine g_iadd hx 8 dX11_doDays_8 ?_
  refine g_sipush hx 9 (999) dX11_doDays_9 rfl ?_
  refine g_icmp_le hx 12 20 dX11_doDays_12 (by decide) (fun hc_844 => ?_) (fun hc_844 => ?_)
  · have hr := (if_pos hc_844).symm.trans hr
    refine g_aload_n hx 20 (i := 0) 0 dX11_doDays_20 rfl rfl ?_
    refine g_iload_n hx 21 (i := 1) 1 dX11_doDays_21 rfl rfl ?_
    refine g_aload_n hx 22 (i := 0) 0 dX11_doDays_22 rfl rfl ?_
    refine g_get hx 23 (C := RX11) (T := TX11) (N := 30) 7 (.ref (T + 1 + ρ)) (pM_o σ T ow ρ M) rfl (by decide) rfl fl_X11_31 dX11_doDays_23 ?_
    refine g_iconst hx 26 (2) dX11_doDays_26 rfl ?_
    refine g_iald hx 27 (pM_row hρ σ T ow M) (by decide : inB 2 257) dX11_doDays_27 ?_
    obtain ⟨q_846, eq_846, hr⟩ := bind_e hr
    refine g_callVr hx (c_Md_passOn hρ l g σ T ow M p1 ((M.2 ρ) (2 : Int32).toNatClampNeg) eq_846) lk_X11_251 ar_Md_passOn (pM_o σ T ow ρ M) (T := TX11) (N := 30) rfl (As := [.int p1, .int ((M.2 ρ) (2 : Int32).toNatClampNeg)]) (rest := [.ref T]) rfl (Nat.le_of_ble_eq_true rfl) ⟨Nat.le_of_ble_eq_true rfl, Nat.le_of_ble_eq_true rfl⟩ ⟨rfl, rfl⟩ ⟨Nat.zero_le _, Nat.zero_le _⟩ dX11_doDays_28 ?_
    obtain ⟨q_847, eq_847, hr⟩ := bind_e hr
    refine g_callVr hx (c_Md_ends hρ l g σ T ow q_846.2 q_846.1 eq_847) lk_X11_257 ar_Md_ends (pM_o σ T ow ρ q_846.2) (T := TX11) (N := 30) rfl (As := [.int q_846.1]) (rest := []) rfl (Nat.le_of_ble_eq_true rfl) ⟨Nat.le_of_ble_eq_true rfl, Nat.le_of_ble_eq_true rfl⟩ ⟨rfl, rfl⟩ ⟨Nat.zero_le _, Nat.zero_le _⟩ dX11_doDays_31 ?_
    exact g_iret hx hR 34 dX11_doDays_34 ⟨by rw [← Option.some.inj hr] <;> rfl, by rw [← Option.some.inj hr] <;> rfl⟩
  · have hr := (if_neg hc_844).symm.trans hr
    refine g_bipush hx 15 (-2) dX11_doDays_15 rfl ?_
    refine g_goto hx 17 31 dX11_doDays_17 (by decide) ?_
    obtain ⟨q_848, eq_848, hr⟩ := bind_e hr
    refine g_callVr hx (c_Md_ends hρ l g σ T ow M (-2) eq_848) lk_X11_257 ar_Md_ends (pM_o σ T ow ρ M) (T := TX11) (N := 30) rfl (As := [.int (-2)]) (rest := []) rfl (Nat.le_of_ble_eq_true rfl) ⟨Nat.le_of_ble_eq_true rfl, Nat.le_of_ble_eq_true rfl⟩ ⟨rfl, rfl⟩ ⟨Nat.zero_le _, Nat.zero_le _⟩ dX11_doDays_31 ?_
    exact g_iret hx hR 34 dX11_doDays_34 ⟨by rw [← Option.some.inj hr] <;> rfl, by rw [← Option.some.inj hr] <;> rfl⟩
def Md_doMisfile (ρ : Nat) (M : MdM) (p1 p2 : Int32) : Option (Int32 × MdM) := Option.bind (Md_isIn ρ M p1 0) fun q_849 => if q_849 = 0 then (Option.bind (Md_ends ρ M (-2)) fun q_851 => some ((q_851.1, q_851.2))) else (if Md_inRange p2 0 (((M.2 ρ) (6 : Int32).toNatClampNeg) - 1) = 0 then (Option.bind (Md_ends ρ M (-3)) fun q_854 => some ((q_854.1, q_854.2))) else (Option.bind (Md_remove ρ M p1) fun q_855 => lt' (q_855.1) fun v3_856 => Option.bind (Md_insert ρ q_855.2 p1 p2) fun M_857 => Option.bind (Md_ends ρ M_857 v3_856) fun q_858 => some ((q_858.1, q_858.2))))
set_option maxRecDepth 100000 in
set_option maxHeartbeats 4000000 in
theorem c_Md_doMisfile {ρ : Nat} (hρ : ρ < 2) (l : Launch) (g : Gl) (σ : Hp) (T : Nat) (ow : Nat → Option Nat) (M : MdM) (p1 p2 : Int32) {r : Int32 × MdM} (hr : Md_doMisfile ρ M p1 p2 = some r) : MG l g md_Md_doMisfile [.ref T, .int p1, .int p2] (putMd σ T ow ρ M) (rs (some (.int r.1)) (putMd σ T ow ρ r.2)) := by
  refine MG.intro (by decide +kernel) (Nat.le_of_ble_eq_true rfl) (fun X hx hR _ => ?_)
  unfold Md_doMisfile at hr
  refine g_ls [0, 1, 2] [(0, .ref T), (1, .int p1), (2, .int p2)] rfl ?_
  refine g_aload_n hx 0 (i := 0) 0 dX11_doMisfile_0 rfl rfl ?_
  refine g_iload_n hx 1 (i := 1) 1 dX11_doMisfile_1 rfl rfl ?_
  refine g_iconst hx 2 (0) dX11_doMisfile_2 rfl ?_
  obtain ⟨q_849, eq_849, hr⟩ := bind_e hr
  refine g_callVr hx (c_Md_isIn hρ l g σ T ow M p1 0 eq_849) lk_X11_126 ar_Md_isIn (pM_o σ T ow ρ M) (T := TX11) (N := 30) rfl (As := [.int p1, .int 0]) (rest := []) rfl (Nat.le_of_ble_eq_true rfl) ⟨Nat.le_of_ble_eq_true rfl, Nat.le_of_ble_eq_true rfl⟩ ⟨rfl, rfl⟩ ⟨Nat.zero_le _, Nat.zero_le _⟩ dX11_doMisfile_3 ?_
  refine g_if_ne hx 6 16 dX11_doMisfile_6 (by decide) (fun hc_850 => ?_) (fun hc_850 => ?_)
  · have hr := (if_neg hc_850).symm.trans hr
    refine g_iload_n hx 16 (i := 2) 2 dX11_doMisfile_16 rfl rfl ?_
    refine g_iconst hx 17 (0) dX11_doMisfile_17 rfl ?_
    refine g_aload_n hx 18 (i := 0) 0 dX11_doMisfile_18 rfl rfl ?_
    refine g_get hx 19 (C := RX11) (T := TX11) (N := 30) 7 (.ref (T + 1 + ρ)) (pM_o σ T ow ρ M) rfl (by decide) rfl fl_X11_31 dX11_doMisfile_19 ?_
    refine g_bipush hx 22 (6) dX11_doMisfile_22 rfl ?_
    refine g_iald hx 24 (pM_row hρ σ T ow M) (by decide : inB 6 257) dX11_doMisfile_24 ?_
    refine g_iconst hx 25 (1) dX11_doMisfile_25 rfl ?_
    refine g_isub hx 26 dX11_doMisfile_26 ?_
    refine g_callSr hx (c_Md_inRange l g _ p2 0 (((M.2 ρ) (6 : Int32).toNatClampNeg) - 1) rfl) lk_X11_91 ar_Md_inRange (As := [.int p2, .int 0, .int (((M.2 ρ) (6 : Int32).toNatClampNeg) - 1)]) (rest := []) rfl (Nat.le_of_ble_eq_true rfl) ⟨Nat.le_of_ble_eq_true rfl, Nat.le_of_ble_eq_true rfl⟩ ⟨rfl, rfl⟩ ⟨Nat.zero_le _, Nat.zero_le _⟩ dX11_doMisfile_27 ?_
    refine g_if_ne hx 30 40 dX11_doMisfile_30 (by decide) (fun hc_853 => ?_) (fun hc_853 => ?_)
    · have hr := (if_neg hc_853).symm.trans hr
      refine g_aload_n hx 40 (i := 0) 0 dX11_doMisfile_40 rfl rfl ?_
      refine g_iload_n hx 41 (i := 1) 1 dX11_doMisfile_41 rfl rfl ?_
      obtain ⟨q_855, eq_855, hr⟩ := bind_e hr
      refine g_callVr hx (c_Md_remove hρ l g σ T ow M p1 eq_855) lk_X11_142 ar_Md_remove (pM_o σ T ow ρ M) (T := TX11) (N := 30) rfl (As := [.int p1]) (rest := []) rfl (Nat.le_of_ble_eq_true rfl) ⟨Nat.le_of_ble_eq_true rfl, Nat.le_of_ble_eq_true rfl⟩ ⟨rfl, rfl⟩ ⟨Nat.zero_le _, Nat.zero_le _⟩ dX11_doMisfile_42 ?_
      obtain ⟨v3_856, ev3_856, hr⟩ := lt'_e hr
      refine g_nmi ev3_856 ?_
      refine g_istore_n hx 45 (i := 3) [(3, .int v3_856), (0, .ref T), (1, .int p1), (2, .int p2)] dX11_doMisfile_45 rfl (by decide) rfl ?_
      refine g_aload_n hx 46 (i := 0) 1 dX11_doMisfile_46 rfl rfl ?_
      refine g_iload_n hx 47 (i := 1) 2 dX11_doMisfile_47 rfl rfl ?_
      refine g_iload_n hx 48 (i := 2) 3 dX11_doMisfile_48 rfl rfl ?_
      obtain ⟨M_857, eM_857, hr⟩ := bind_e hr
      refine g_callVv hx (c_Md_insert hρ l g σ T ow q_855.2 p1 p2 eM_857) lk_X11_88 ar_Md_insert (pM_o σ T ow ρ q_855.2) (T := TX11) (N := 30) rfl (As := [.int p1, .int p2]) (rest := []) rfl (Nat.le_of_ble_eq_true rfl) ⟨Nat.le_of_ble_eq_true rfl, Nat.le_of_ble_eq_true rfl⟩ ⟨rfl, rfl⟩ ⟨Nat.zero_le _, Nat.zero_le _⟩ dX11_doMisfile_49 ?_
      refine g_aload_n hx 52 (i := 0) 1 dX11_doMisfile_52 rfl rfl ?_
      refine g_iload_n hx 53 (i := 3) 0 dX11_doMisfile_53 rfl rfl ?_
      obtain ⟨q_858, eq_858, hr⟩ := bind_e hr
      refine g_callVr hx (c_Md_ends hρ l g σ T ow M_857 v3_856 eq_858) lk_X11_257 ar_Md_ends (pM_o σ T ow ρ M_857) (T := TX11) (N := 30) rfl (As := [.int v3_856]) (rest := []) rfl (Nat.le_of_ble_eq_true rfl) ⟨Nat.le_of_ble_eq_true rfl, Nat.le_of_ble_eq_true rfl⟩ ⟨rfl, rfl⟩ ⟨Nat.zero_le _, Nat.zero_le _⟩ dX11_doMisfile_54 ?_
      exact g_iret hx hR 57 dX11_doMisfile_57 ⟨by rw [← Option.some.inj hr] <;> rfl, by rw [← Option.some.inj hr] <;> rfl⟩
    · have hr := (if_pos hc_853).symm.trans hr
      refine g_aload_n hx 33 (i := 0) 0 dX11_doMisfile_33 rfl rfl ?_
      refine g_bipush hx 34 (-3) dX11_doMisfile_34 rfl ?_
      obtain ⟨q_854, eq_854, hr⟩ := bind_e hr
      refine g_callVr hx (c_Md_ends hρ l g σ T ow M (-3) eq_854) lk_X11_257 ar_Md_ends (pM_o σ T ow ρ M) (T := TX11) (N := 30) rfl (As := [.int (-3)]) (rest := []) rfl (Nat.le_of_ble_eq_true rfl) ⟨Nat.le_of_ble_eq_true rfl, Nat.le_of_ble_eq_true rfl⟩ ⟨rfl, rfl⟩ ⟨Nat.zero_le _, Nat.zero_le _⟩ dX11_doMisfile_36 ?_
      exact g_iret hx hR 39 dX11_doMisfile_39 ⟨by rw [← Option.some.inj hr] <;> rfl, by rw [← Option.some.inj hr] <;> rfl⟩
  · have hr := (if_pos hc_850).symm.trans hr
    refine g_aload_n hx 9 (i := 0) 0 dX11_doMisfile_9 rfl rfl ?_
    refine g_bipush hx 10 (-2) dX11_doMisfile_10 rfl ?_
    obtain ⟨q_851, eq_851, hr⟩ := bind_e hr
    refine g_callVr hx (c_Md_ends hρ l g σ T ow M (-2) eq_851) lk_X11_257 ar_Md_ends (pM_o σ T ow ρ M) (T := TX11) (N := 30) rfl (As := [.int (-2)]) (rest := []) rfl (Nat.le_of_ble_eq_true rfl) ⟨Nat.le_of_ble_eq_true rfl, Nat.le_of_ble_eq_true rfl⟩ ⟨rfl, rfl⟩ ⟨Nat.zero_le _, Nat.zero_le _⟩ dX11_doMisfile_12 ?_
    exact g_iret hx hR 15 dX11_doMisfile_15 ⟨by rw [← Option.some.inj hr] <;> rfl, by rw [← Option.some.inj hr] <;> rfl⟩
def Md_doStraighten (ρ : Nat) (M : MdM) (p1 : Int32) : Option (Int32 × MdM) := Option.bind (Md_isIn ρ M p1 0) fun q_859 => if q_859 = 0 then (Option.bind (Md_ends ρ M (-2)) fun q_861 => some ((q_861.1, q_861.2))) else (Option.bind (Md_orderPlace ρ M p1) fun q_862 => Option.bind (Md_remove ρ M p1) fun q_863 => lt' (q_863.1) fun v3_864 => Option.bind (Md_insert ρ q_863.2 p1 q_862) fun M_865 => Option.bind (Md_ends ρ M_865 q_862) fun q_866 => some ((q_866.1, q_866.2)))
set_option maxRecDepth 100000 in
set_option maxHeartbeats 4000000 in
theorem c_Md_doStraighten {ρ : Nat} (hρ : ρ < 2) (l : Launch) (g : Gl) (σ : Hp) (T : Nat) (ow : Nat → Option Nat) (M : MdM) (p1 : Int32) {r : Int32 × MdM} (hr : Md_doStraighten ρ M p1 = some r) : MG l g md_Md_doStraighten [.ref T, .int p1] (putMd σ T ow ρ M) (rs (some (.int r.1)) (putMd σ T ow ρ r.2)) := by
  refine MG.intro (by decide +kernel) (Nat.le_of_ble_eq_true rfl) (fun X hx hR _ => ?_)
  unfold Md_doStraighten at hr
  refine g_ls [0, 1] [(0, .ref T), (1, .int p1)] rfl ?_
  refine g_aload_n hx 0 (i := 0) 0 dX11_doStraighten_0 rfl rfl ?_
  refine g_iload_n hx 1 (i := 1) 1 dX11_doStraighten_1 rfl rfl ?_
  refine g_iconst hx 2 (0) dX11_doStraighten_2 rfl ?_
  obtain ⟨q_859, eq_859, hr⟩ := bind_e hr
  refine g_callVr hx (c_Md_isIn hρ l g σ T ow M p1 0 eq_859) lk_X11_126 ar_Md_isIn (pM_o σ T ow ρ M) (T := TX11) (N := 30) rfl (As := [.int p1, .int 0]) (rest := []) rfl (Nat.le_of_ble_eq_true rfl) ⟨Nat.le_of_ble_eq_true rfl, Nat.le_of_ble_eq_true rfl⟩ ⟨rfl, rfl⟩ ⟨Nat.zero_le _, Nat.zero_le _⟩ dX11_doStraighten_3 ?_
  refine g_if_ne hx 6 16 dX11_doStraighten_6 (by decide) (fun hc_860 => ?_) (fun hc_860 => ?_)
  · have hr := (if_neg hc_860).symm.trans hr
    refine g_aload_n hx 16 (i := 0) 0 dX11_doStraighten_16 rfl rfl ?_
    refine g_iload_n hx 17 (i := 1) 1 dX11_doStraighten_17 rfl rfl ?_
    obtain ⟨q_862, eq_862, hr⟩ := bind_e hr
    refine g_callVr hx (c_Md_orderPlace hρ l g σ T ow M p1 eq_862) lk_X11_214 ar_Md_orderPlace (pM_o σ T ow ρ M) (T := TX11) (N := 30) rfl (As := [.int p1]) (rest := []) rfl (Nat.le_of_ble_eq_true rfl) ⟨Nat.le_of_ble_eq_true rfl, Nat.le_of_ble_eq_true rfl⟩ ⟨rfl, rfl⟩ ⟨Nat.zero_le _, Nat.zero_le _⟩ dX11_doStraighten_18 ?_
    refine g_istore_n hx 21 (i := 2) [(2, .int q_862), (0, .ref T), (1, .int p1)] dX11_doStraighten_21 rfl (by decide) rfl ?_
    refine g_aload_n hx 22 (i := 0) 1 dX11_doStraighten_22 rfl rfl ?_
    refine g_iload_n hx 23 (i := 1) 2 dX11_doStraighten_23 rfl rfl ?_
    obtain ⟨q_863, eq_863, hr⟩ := bind_e hr
    refine g_callVr hx (c_Md_remove hρ l g σ T ow M p1 eq_863) lk_X11_142 ar_Md_remove (pM_o σ T ow ρ M) (T := TX11) (N := 30) rfl (As := [.int p1]) (rest := []) rfl (Nat.le_of_ble_eq_true rfl) ⟨Nat.le_of_ble_eq_true rfl, Nat.le_of_ble_eq_true rfl⟩ ⟨rfl, rfl⟩ ⟨Nat.zero_le _, Nat.zero_le _⟩ dX11_doStraighten_24 ?_
    obtain ⟨v3_864, ev3_864, hr⟩ := lt'_e hr
    refine g_nmi ev3_864 ?_
    refine g_istore_n hx 27 (i := 3) [(3, .int v3_864), (2, .int q_862), (0, .ref T), (1, .int p1)] dX11_doStraighten_27 rfl (by decide) rfl ?_
    refine g_aload_n hx 28 (i := 0) 2 dX11_doStraighten_28 rfl rfl ?_
    refine g_iload_n hx 29 (i := 1) 3 dX11_doStraighten_29 rfl rfl ?_
    refine g_iload_n hx 30 (i := 2) 1 dX11_doStraighten_30 rfl rfl ?_
    obtain ⟨M_865, eM_865, hr⟩ := bind_e hr
    refine g_callVv hx (c_Md_insert hρ l g σ T ow q_863.2 p1 q_862 eM_865) lk_X11_88 ar_Md_insert (pM_o σ T ow ρ q_863.2) (T := TX11) (N := 30) rfl (As := [.int p1, .int q_862]) (rest := []) rfl (Nat.le_of_ble_eq_true rfl) ⟨Nat.le_of_ble_eq_true rfl, Nat.le_of_ble_eq_true rfl⟩ ⟨rfl, rfl⟩ ⟨Nat.zero_le _, Nat.zero_le _⟩ dX11_doStraighten_31 ?_
    refine g_aload_n hx 34 (i := 0) 2 dX11_doStraighten_34 rfl rfl ?_
    refine g_iload_n hx 35 (i := 2) 1 dX11_doStraighten_35 rfl rfl ?_
    obtain ⟨q_866, eq_866, hr⟩ := bind_e hr
    refine g_callVr hx (c_Md_ends hρ l g σ T ow M_865 q_862 eq_866) lk_X11_257 ar_Md_ends (pM_o σ T ow ρ M_865) (T := TX11) (N := 30) rfl (As := [.int q_862]) (rest := []) rfl (Nat.le_of_ble_eq_true rfl) ⟨Nat.le_of_ble_eq_true rfl, Nat.le_of_ble_eq_true rfl⟩ ⟨rfl, rfl⟩ ⟨Nat.zero_le _, Nat.zero_le _⟩ dX11_doStraighten_36 ?_
    exact g_iret hx hR 39 dX11_doStraighten_39 ⟨by rw [← Option.some.inj hr] <;> rfl, by rw [← Option.some.inj hr] <;> rfl⟩
  · have hr := (if_pos hc_860).symm.trans hr
    refine g_aload_n hx 9 (i := 0) 0 dX11_doStraighten_9 rfl rfl ?_
    refine g_bipush hx 10 (-2) dX11_doStraighten_10 rfl ?_
    obtain ⟨q_861, eq_861, hr⟩ := bind_e hr
    refine g_callVr hx (c_Md_ends hρ l g σ T ow M (-2) eq_861) lk_X11_257 ar_Md_ends (pM_o σ T ow ρ M) (T := TX11) (N := 30) rfl (As := [.int (-2)]) (rest := []) rfl (Nat.le_of_ble_eq_true rfl) ⟨Nat.le_of_ble_eq_true rfl, Nat.le_of_ble_eq_true rfl⟩ ⟨rfl, rfl⟩ ⟨Nat.zero_le _, Nat.zero_le _⟩ dX11_doStraighten_12 ?_
    exact g_iret hx hR 15 dX11_doStraighten_15 ⟨by rw [← Option.some.inj hr] <;> rfl, by rw [← Option.some.inj hr] <;> rfl⟩
def Md_doCheck (ρ : Nat) (M : MdM) (p1 : Int32) : Option (Int32 × MdM) := Option.bind (Md_swapOn ρ M p1) fun q_867 => lt' (q_867.1) fun v2_868 => Option.bind (Md_tally ρ q_867.2 9 v2_868) fun M_869 => Option.bind (Md_ends ρ M_869 v2_868) fun q_870 => some ((q_870.1, q_870.2))
set_option maxRecDepth 100000 in
set_option maxHeartbeats 4000000 in
theorem c_Md_doCheck {ρ : Nat} (hρ : ρ < 2) (l : Launch) (g : Gl) (σ : Hp) (T : Nat) (ow : Nat → Option Nat) (M : MdM) (p1 : Int32) {r : Int32 × MdM} (hr : Md_doCheck ρ M p1 = some r) : MG l g md_Md_doCheck [.ref T, .int p1] (putMd σ T ow ρ M) (rs (some (.int r.1)) (putMd σ T ow ρ r.2)) := by
  refine MG.intro (by decide +kernel) (Nat.le_of_ble_eq_true rfl) (fun X hx hR _ => ?_)
  unfold Md_doCheck at hr
  refine g_ls [0, 1] [(0, .ref T), (1, .int p1)] rfl ?_
  refine g_aload_n hx 0 (i := 0) 0 dX11_doCheck_0 rfl rfl ?_
  refine g_iload_n hx 1 (i := 1) 1 dX11_doCheck_1 rfl rfl ?_
  obtain ⟨q_867, eq_867, hr⟩ := bind_e hr
  refine g_callVr hx (c_Md_swapOn hρ l g σ T ow M p1 eq_867) lk_X11_254 ar_Md_swapOn (pM_o σ T ow ρ M) (T := TX11) (N := 30) rfl (As := [.int p1]) (rest := []) rfl (Nat.le_of_ble_eq_true rfl) ⟨Nat.le_of_ble_eq_true rfl, Nat.le_of_ble_eq_true rfl⟩ ⟨rfl, rfl⟩ ⟨Nat.zero_le _, Nat.zero_le _⟩ dX11_doCheck_2 ?_
  obtain ⟨v2_868, ev2_868, hr⟩ := lt'_e hr
  refine g_nmi ev2_868 ?_
  refine g_istore_n hx 5 (i := 2) [(2, .int v2_868), (0, .ref T), (1, .int p1)] dX11_doCheck_5 rfl (by decide) rfl ?_
  refine g_aload_n hx 6 (i := 0) 1 dX11_doCheck_6 rfl rfl ?_
  refine g_bipush hx 7 (9) dX11_doCheck_7 rfl ?_
  refine g_iload_n hx 9 (i := 2) 0 dX11_doCheck_9 rfl rfl ?_
  obtain ⟨M_869, eM_869, hr⟩ := bind_e hr
  refine g_callVv hx (c_Md_tally hρ l g σ T ow q_867.2 9 v2_868 eM_869) lk_X11_139 ar_Md_tally (pM_o σ T ow ρ q_867.2) (T := TX11) (N := 30) rfl (As := [.int 9, .int v2_868]) (rest := []) rfl (Nat.le_of_ble_eq_true rfl) ⟨Nat.le_of_ble_eq_true rfl, Nat.le_of_ble_eq_true rfl⟩ ⟨rfl, rfl⟩ ⟨Nat.zero_le _, Nat.zero_le _⟩ dX11_doCheck_10 ?_
  refine g_aload_n hx 13 (i := 0) 1 dX11_doCheck_13 rfl rfl ?_
  refine g_iload_n hx 14 (i := 2) 0 dX11_doCheck_14 rfl rfl ?_
  obtain ⟨q_870, eq_870, hr⟩ := bind_e hr
  refine g_callVr hx (c_Md_ends hρ l g σ T ow M_869 v2_868 eq_870) lk_X11_257 ar_Md_ends (pM_o σ T ow ρ M_869) (T := TX11) (N := 30) rfl (As := [.int v2_868]) (rest := []) rfl (Nat.le_of_ble_eq_true rfl) ⟨Nat.le_of_ble_eq_true rfl, Nat.le_of_ble_eq_true rfl⟩ ⟨rfl, rfl⟩ ⟨Nat.zero_le _, Nat.zero_le _⟩ dX11_doCheck_15 ?_
  exact g_iret hx hR 18 dX11_doCheck_18 ⟨by rw [← Option.some.inj hr] <;> rfl, by rw [← Option.some.inj hr] <;> rfl⟩
def Md_doEmbargo (ρ : Nat) (M : MdM) (p1 p2 : Int32) : Option (Int32 × MdM) := Option.bind (Md_of ρ M p1 1) fun q_871 => Option.bind (Md_lay ρ M p1 1 p2) fun M_872 => Option.bind (Md_ends ρ M_872 q_871) fun q_873 => some ((q_873.1, q_873.2))
set_option maxRecDepth 100000 in
set_option maxHeartbeats 4000000 in
theorem c_Md_doEmbargo {ρ : Nat} (hρ : ρ < 2) (l : Launch) (g : Gl) (σ : Hp) (T : Nat) (ow : Nat → Option Nat) (M : MdM) (p1 p2 : Int32) {r : Int32 × MdM} (hr : Md_doEmbargo ρ M p1 p2 = some r) : MG l g md_Md_doEmbargo [.ref T, .int p1, .int p2] (putMd σ T ow ρ M) (rs (some (.int r.1)) (putMd σ T ow ρ r.2)) := by
  refine MG.intro (by decide +kernel) (Nat.le_of_ble_eq_true rfl) (fun X hx hR _ => ?_)
  unfold Md_doEmbargo at hr
  refine g_ls [0, 1, 2] [(0, .ref T), (1, .int p1), (2, .int p2)] rfl ?_
  refine g_aload_n hx 0 (i := 0) 0 dX11_doEmbargo_0 rfl rfl ?_
  refine g_iload_n hx 1 (i := 1) 1 dX11_doEmbargo_1 rfl rfl ?_
  refine g_iconst hx 2 (1) dX11_doEmbargo_2 rfl ?_
  obtain ⟨q_871, eq_871, hr⟩ := bind_e hr
  refine g_callVr hx (c_Md_of hρ l g σ T ow M p1 1 eq_871) lk_X11_95 ar_Md_of (pM_o σ T ow ρ M) (T := TX11) (N := 30) rfl (As := [.int p1, .int 1]) (rest := []) rfl (Nat.le_of_ble_eq_true rfl) ⟨Nat.le_of_ble_eq_true rfl, Nat.le_of_ble_eq_true rfl⟩ ⟨rfl, rfl⟩ ⟨Nat.zero_le _, Nat.zero_le _⟩ dX11_doEmbargo_3 ?_
  refine g_istore_n hx 6 (i := 3) [(3, .int q_871), (0, .ref T), (1, .int p1), (2, .int p2)] dX11_doEmbargo_6 rfl (by decide) rfl ?_
  refine g_aload_n hx 7 (i := 0) 1 dX11_doEmbargo_7 rfl rfl ?_
  refine g_iload_n hx 8 (i := 1) 2 dX11_doEmbargo_8 rfl rfl ?_
  refine g_iconst hx 9 (1) dX11_doEmbargo_9 rfl ?_
  refine g_iload_n hx 10 (i := 2) 3 dX11_doEmbargo_10 rfl rfl ?_
  obtain ⟨M_872, eM_872, hr⟩ := bind_e hr
  refine g_callVv hx (c_Md_lay hρ l g σ T ow M p1 1 p2 eM_872) lk_X11_84 ar_Md_lay (pM_o σ T ow ρ M) (T := TX11) (N := 30) rfl (As := [.int p1, .int 1, .int p2]) (rest := []) rfl (Nat.le_of_ble_eq_true rfl) ⟨Nat.le_of_ble_eq_true rfl, Nat.le_of_ble_eq_true rfl⟩ ⟨rfl, rfl⟩ ⟨Nat.zero_le _, Nat.zero_le _⟩ dX11_doEmbargo_11 ?_
  refine g_aload_n hx 14 (i := 0) 1 dX11_doEmbargo_14 rfl rfl ?_
  refine g_iload_n hx 15 (i := 3) 0 dX11_doEmbargo_15 rfl rfl ?_
  obtain ⟨q_873, eq_873, hr⟩ := bind_e hr
  refine g_callVr hx (c_Md_ends hρ l g σ T ow M_872 q_871 eq_873) lk_X11_257 ar_Md_ends (pM_o σ T ow ρ M_872) (T := TX11) (N := 30) rfl (As := [.int q_871]) (rest := []) rfl (Nat.le_of_ble_eq_true rfl) ⟨Nat.le_of_ble_eq_true rfl, Nat.le_of_ble_eq_true rfl⟩ ⟨rfl, rfl⟩ ⟨Nat.zero_le _, Nat.zero_le _⟩ dX11_doEmbargo_16 ?_
  exact g_iret hx hR 19 dX11_doEmbargo_19 ⟨by rw [← Option.some.inj hr] <;> rfl, by rw [← Option.some.inj hr] <;> rfl⟩
def Md_keep (ρ : Nat) (M : MdM) : Option (MdM) := Option.bind (Md_copy M 0 0 3 0) fun M_874 => some (M_874)
set_option maxRecDepth 100000 in
set_option maxHeartbeats 4000000 in
theorem c_Md_keep {ρ : Nat} (hρ : ρ < 2) (l : Launch) (g : Gl) (σ : Hp) (T : Nat) (ow : Nat → Option Nat) (M : MdM) {r : MdM} (hr : Md_keep ρ M = some r) : MG l g md_Md_keep [.ref T] (putMd σ T ow ρ M) (rs none (putMd σ T ow ρ r)) := by
  refine MG.intro (by decide +kernel) (Nat.le_of_ble_eq_true rfl) (fun X hx hR _ => ?_)
  unfold Md_keep at hr
  refine g_ls [0] [(0, .ref T)] rfl ?_
  refine g_aload_n hx 0 (i := 0) 0 dX11_keep_0 rfl rfl ?_
  refine g_get hx 1 (C := RX11) (T := TX11) (N := 30) 0 (.ref (T + 1)) (pM_o σ T ow ρ M) rfl (by decide) rfl fl_X11_9 dX11_keep_1 ?_
  refine g_iconst hx 4 (0) dX11_keep_4 rfl ?_
  refine g_aload_n hx 5 (i := 0) 0 dX11_keep_5 rfl rfl ?_
  refine g_get hx 6 (C := RX11) (T := TX11) (N := 30) 3 (.ref (T + 4)) (pM_o σ T ow ρ M) rfl (by decide) rfl fl_X11_19 dX11_keep_6 ?_
  refine g_iconst hx 9 (0) dX11_keep_9 rfl ?_
  obtain ⟨M_874, eM_874, hr⟩ := bind_e hr
  refine g_callSv hx (c_Md_copy l g σ T ow ρ M 0 3 (by decide) (by decide) 0 0 eM_874) lk_X11_238 ar_Md_copy (As := [.ref (T + 1), .int 0, .ref (T + 4), .int 0]) (rest := []) rfl (Nat.le_of_ble_eq_true rfl) ⟨Nat.le_of_ble_eq_true rfl, Nat.le_of_ble_eq_true rfl⟩ ⟨rfl, rfl⟩ ⟨Nat.zero_le _, Nat.zero_le _⟩ dX11_keep_10 ?_
  exact g_vret hx hR 13 dX11_keep_13 ⟨rfl, by rw [← Option.some.inj hr] <;> rfl⟩
def Md_record_L11 (ρ : Nat) : Nat → MdM → Int32 → Option (MdM)
  | 0, _, _ => none
  | n + 1, M, v1_876 => if 8 ≤ v1_876 then (Option.bind (Md_copy (setF M 8 ((M.1 8) - 1)) 3 0 5 ((M.1 8) - 1)) fun M_878 => some (setF M_878 8 ((M_878.1 8) + 1))) else (Option.bind (Md_copy M 5 v1_876 5 (v1_876 - 1)) fun M_879 => Md_record_L11 ρ n M_879 (v1_876 + 1))
def Md_record (ρ : Nat) (M : MdM) : Option (MdM) := if M.1 8 = 8 then (Md_record_L11 ρ FU M 1) else (Option.bind (Md_copy M 3 0 5 (M.1 8)) fun M_880 => some (setF M_880 8 ((M_880.1 8) + 1)))
set_option maxRecDepth 100000 in
set_option maxHeartbeats 4000000 in
theorem w_Md_record_L11 {ρ : Nat} (hρ : ρ < 2) {X : Cx} {l : Launch} {g : Gl} (hx : Ok X l g RX11 cX11_record 2 md_Md_record.rm) {σ : Hp} {T : Nat} {ow : Nat → Option Nat} {r : MdM} (hR : Ret X (rs none (putMd σ T ow ρ r)) 0 0 (none)) : ∀ (n : Nat) (M : MdM) (v1_876 : Int32), Md_record_L11 ρ n M v1_876 = some r → G X (putMd σ T ow ρ M) 0 0 11 [(0, .ref T), (1, .int v1_876)] [] := by
  intro n
  induction n with
  | zero =>
    intro M v1_876 hr
    rw [Md_record_L11] at hr
    cases hr
  | succ n ih =>
    intro M v1_876 hr
    rw [Md_record_L11] at hr
    refine g_iload_n hx 11 (i := 1) 1 dX11_record_11 rfl rfl ?_
    refine g_bipush hx 12 (8) dX11_record_12 rfl ?_
    refine g_icmp_ge hx 14 38 dX11_record_14 (by decide) (fun hc_877 => ?_) (fun hc_877 => ?_)
    · have hr := (if_pos hc_877).symm.trans hr
      refine g_aload_n hx 38 (i := 0) 0 dX11_record_38 rfl rfl ?_
      refine g_dup hx 39 dX11_record_39 rfl ?_
      refine g_get hx 40 (C := RX11) (T := TX11) (N := 30) 8 (.int (M.1 8)) (pM_o σ T ow ρ M) rfl (by decide) rfl fl_X11_263 dX11_record_40 ?_
      refine g_iconst hx 43 (1) dX11_record_43 rfl ?_
      refine g_isub hx 44 dX11_record_44 ?_
      refine g_put hx 45 (C := RX11) (T := TX11) (N := 30) 8 .int _ (pM_o σ T ow ρ M) rfl (by decide) fl_X11_263 rfl rfl rfl rfl (Nat.le_of_ble_eq_true rfl) rfl dX11_record_45 ?_
      refine G.heap (pM_f σ T ow ρ M 8 ((M.1 8) - 1)) ?_
      refine g_aload_n hx 48 (i := 0) 0 dX11_record_48 rfl rfl ?_
      refine g_get hx 49 (C := RX11) (T := TX11) (N := 30) 3 (.ref (T + 4)) (pM_o σ T ow ρ (setF M 8 ((M.1 8) - 1))) rfl (by decide) rfl fl_X11_19 dX11_record_49 ?_
      refine g_iconst hx 52 (0) dX11_record_52 rfl ?_
      refine g_aload_n hx 53 (i := 0) 0 dX11_record_53 rfl rfl ?_
      refine g_get hx 54 (C := RX11) (T := TX11) (N := 30) 5 (.ref (T + 6)) (pM_o σ T ow ρ (setF M 8 ((M.1 8) - 1))) rfl (by decide) rfl fl_X11_25 dX11_record_54 ?_
      refine g_aload_n hx 57 (i := 0) 0 dX11_record_57 rfl rfl ?_
      refine g_get hx 58 (C := RX11) (T := TX11) (N := 30) 8 (.int ((M.1 8) - 1)) (pM_o σ T ow ρ (setF M 8 ((M.1 8) - 1))) rfl (by decide) rfl fl_X11_263 dX11_record_58 ?_
      obtain ⟨M_878, eM_878, hr⟩ := bind_e hr
      refine g_callSv hx (c_Md_copy l g σ T ow ρ (setF M 8 ((M.1 8) - 1)) 3 5 (by decide) (by decide) 0 ((M.1 8) - 1) eM_878) lk_X11_238 ar_Md_copy (As := [.ref (T + 4), .int 0, .ref (T + 6), .int ((M.1 8) - 1)]) (rest := []) rfl (Nat.le_of_ble_eq_true rfl) ⟨Nat.le_of_ble_eq_true rfl, Nat.le_of_ble_eq_true rfl⟩ ⟨rfl, rfl⟩ ⟨Nat.zero_le _, Nat.zero_le _⟩ dX11_record_61 ?_
      refine g_aload_n hx 64 (i := 0) 0 dX11_record_64 rfl rfl ?_
      refine g_dup hx 65 dX11_record_65 rfl ?_
      refine g_get hx 66 (C := RX11) (T := TX11) (N := 30) 8 (.int (M_878.1 8)) (pM_o σ T ow ρ M_878) rfl (by decide) rfl fl_X11_263 dX11_record_66 ?_
      refine g_iconst hx 69 (1) dX11_record_69 rfl ?_
      refine g_iadd hx 70 dX11_record_70 ?_
      refine g_put hx 71 (C := RX11) (T := TX11) (N := 30) 8 .int _ (pM_o σ T ow ρ M_878) rfl (by decide) fl_X11_263 rfl rfl rfl rfl (Nat.le_of_ble_eq_true rfl) rfl dX11_record_71 ?_
      refine G.heap (pM_f σ T ow ρ M_878 8 ((M_878.1 8) + 1)) ?_
      exact g_vret hx hR 74 dX11_record_74 ⟨rfl, by rw [← Option.some.inj hr] <;> rfl⟩
    · have hr := (if_neg hc_877).symm.trans hr
      refine g_aload_n hx 17 (i := 0) 0 dX11_record_17 rfl rfl ?_
      refine g_get hx 18 (C := RX11) (T := TX11) (N := 30) 5 (.ref (T + 6)) (pM_o σ T ow ρ M) rfl (by decide) rfl fl_X11_25 dX11_record_18 ?_
      refine g_iload_n hx 21 (i := 1) 1 dX11_record_21 rfl rfl ?_
      refine g_aload_n hx 22 (i := 0) 0 dX11_record_22 rfl rfl ?_
      refine g_get hx 23 (C := RX11) (T := TX11) (N := 30) 5 (.ref (T + 6)) (pM_o σ T ow ρ M) rfl (by decide) rfl fl_X11_25 dX11_record_23 ?_
      refine g_iload_n hx 26 (i := 1) 1 dX11_record_26 rfl rfl ?_
      refine g_iconst hx 27 (1) dX11_record_27 rfl ?_
      refine g_isub hx 28 dX11_record_28 ?_
      obtain ⟨M_879, eM_879, hr⟩ := bind_e hr
      refine g_callSv hx (c_Md_copy l g σ T ow ρ M 5 5 (by decide) (by decide) v1_876 (v1_876 - 1) eM_879) lk_X11_238 ar_Md_copy (As := [.ref (T + 6), .int v1_876, .ref (T + 6), .int (v1_876 - 1)]) (rest := []) rfl (Nat.le_of_ble_eq_true rfl) ⟨Nat.le_of_ble_eq_true rfl, Nat.le_of_ble_eq_true rfl⟩ ⟨rfl, rfl⟩ ⟨Nat.zero_le _, Nat.zero_le _⟩ dX11_record_29 ?_
      refine g_iinc hx 32 (i := 1) 1 (v1_876 + 1) [(1, .int (v1_876 + 1)), (0, .ref T)] dX11_record_32 rfl rfl (by decide) rfl ?_
      refine g_goto hx 35 11 dX11_record_35 (by decide) ?_
      refine g_ls [1, 0] [(0, .ref T), (1, .int (v1_876 + 1))] rfl ?_
      exact ih M_879 (v1_876 + 1) hr
set_option maxRecDepth 100000 in
set_option maxHeartbeats 4000000 in
theorem c_Md_record {ρ : Nat} (hρ : ρ < 2) (l : Launch) (g : Gl) (σ : Hp) (T : Nat) (ow : Nat → Option Nat) (M : MdM) {r : MdM} (hr : Md_record ρ M = some r) : MG l g md_Md_record [.ref T] (putMd σ T ow ρ M) (rs none (putMd σ T ow ρ r)) := by
  refine MG.intro (by decide +kernel) (Nat.le_of_ble_eq_true rfl) (fun X hx hR _ => ?_)
  unfold Md_record at hr
  refine g_ls [0] [(0, .ref T)] rfl ?_
  refine g_aload_n hx 0 (i := 0) 0 dX11_record_0 rfl rfl ?_
  refine g_get hx 1 (C := RX11) (T := TX11) (N := 30) 8 (.int (M.1 8)) (pM_o σ T ow ρ M) rfl (by decide) rfl fl_X11_263 dX11_record_1 ?_
  refine g_bipush hx 4 (8) dX11_record_4 rfl ?_
  refine g_icmp_ne hx 6 48 dX11_record_6 (by decide) (fun hc_875 => ?_) (fun hc_875 => ?_)
  · have hr := (if_neg hc_875).symm.trans hr
    refine g_aload_n hx 48 (i := 0) 0 dX11_record_48 rfl rfl ?_
    refine g_get hx 49 (C := RX11) (T := TX11) (N := 30) 3 (.ref (T + 4)) (pM_o σ T ow ρ M) rfl (by decide) rfl fl_X11_19 dX11_record_49 ?_
    refine g_iconst hx 52 (0) dX11_record_52 rfl ?_
    refine g_aload_n hx 53 (i := 0) 0 dX11_record_53 rfl rfl ?_
    refine g_get hx 54 (C := RX11) (T := TX11) (N := 30) 5 (.ref (T + 6)) (pM_o σ T ow ρ M) rfl (by decide) rfl fl_X11_25 dX11_record_54 ?_
    refine g_aload_n hx 57 (i := 0) 0 dX11_record_57 rfl rfl ?_
    refine g_get hx 58 (C := RX11) (T := TX11) (N := 30) 8 (.int (M.1 8)) (pM_o σ T ow ρ M) rfl (by decide) rfl fl_X11_263 dX11_record_58 ?_
    obtain ⟨M_880, eM_880, hr⟩ := bind_e hr
    refine g_callSv hx (c_Md_copy l g σ T ow ρ M 3 5 (by decide) (by decide) 0 (M.1 8) eM_880) lk_X11_238 ar_Md_copy (As := [.ref (T + 4), .int 0, .ref (T + 6), .int (M.1 8)]) (rest := []) rfl (Nat.le_of_ble_eq_true rfl) ⟨Nat.le_of_ble_eq_true rfl, Nat.le_of_ble_eq_true rfl⟩ ⟨rfl, rfl⟩ ⟨Nat.zero_le _, Nat.zero_le _⟩ dX11_record_61 ?_
    refine g_aload_n hx 64 (i := 0) 0 dX11_record_64 rfl rfl ?_
    refine g_dup hx 65 dX11_record_65 rfl ?_
    refine g_get hx 66 (C := RX11) (T := TX11) (N := 30) 8 (.int (M_880.1 8)) (pM_o σ T ow ρ M_880) rfl (by decide) rfl fl_X11_263 dX11_record_66 ?_
    refine g_iconst hx 69 (1) dX11_record_69 rfl ?_
    refine g_iadd hx 70 dX11_record_70 ?_
    refine g_put hx 71 (C := RX11) (T := TX11) (N := 30) 8 .int _ (pM_o σ T ow ρ M_880) rfl (by decide) fl_X11_263 rfl rfl rfl rfl (Nat.le_of_ble_eq_true rfl) rfl dX11_record_71 ?_
    refine G.heap (pM_f σ T ow ρ M_880 8 ((M_880.1 8) + 1)) ?_
    exact g_vret hx hR 74 dX11_record_74 ⟨rfl, by rw [← Option.some.inj hr] <;> rfl⟩
  · have hr := (if_pos hc_875).symm.trans hr
    refine g_iconst hx 9 (1) dX11_record_9 rfl ?_
    refine g_istore_n hx 10 (i := 1) [(1, .int 1), (0, .ref T)] dX11_record_10 rfl (by decide) rfl ?_
    refine g_ls [1, 0] [(0, .ref T), (1, .int 1)] rfl ?_
    exact w_Md_record_L11 hρ hx hR FU M 1 hr
def Md_recorded (ρ : Nat) (M : MdM) (p1 : Int32) : Option (Int32 × MdM) := if p1 < 0 then (some ((p1, M))) else (Option.bind (Md_record ρ M) fun M_882 => some ((p1, M_882)))
set_option maxRecDepth 100000 in
set_option maxHeartbeats 4000000 in
theorem c_Md_recorded {ρ : Nat} (hρ : ρ < 2) (l : Launch) (g : Gl) (σ : Hp) (T : Nat) (ow : Nat → Option Nat) (M : MdM) (p1 : Int32) {r : Int32 × MdM} (hr : Md_recorded ρ M p1 = some r) : MG l g md_Md_recorded [.ref T, .int p1] (putMd σ T ow ρ M) (rs (some (.int r.1)) (putMd σ T ow ρ r.2)) := by
  refine MG.intro (by decide +kernel) (Nat.le_of_ble_eq_true rfl) (fun X hx hR _ => ?_)
  unfold Md_recorded at hr
  refine g_ls [0, 1] [(0, .ref T), (1, .int p1)] rfl ?_
  refine g_iload_n hx 0 (i := 1) 1 dX11_recorded_0 rfl rfl ?_
  refine g_if_lt hx 1 8 dX11_recorded_1 (by decide) (fun hc_881 => ?_) (fun hc_881 => ?_)
  · have hr := (if_pos hc_881).symm.trans hr
    refine g_iload_n hx 8 (i := 1) 1 dX11_recorded_8 rfl rfl ?_
    exact g_iret hx hR 9 dX11_recorded_9 ⟨by rw [← Option.some.inj hr] <;> rfl, by rw [← Option.some.inj hr] <;> rfl⟩
  · have hr := (if_neg hc_881).symm.trans hr
    refine g_aload_n hx 4 (i := 0) 0 dX11_recorded_4 rfl rfl ?_
    obtain ⟨M_882, eM_882, hr⟩ := bind_e hr
    refine g_callVv hx (c_Md_record hρ l g σ T ow M eM_882) lk_X11_266 ar_Md_record (pM_o σ T ow ρ M) (T := TX11) (N := 30) rfl (As := []) (rest := []) rfl (Nat.le_of_ble_eq_true rfl) ⟨Nat.le_of_ble_eq_true rfl, Nat.le_of_ble_eq_true rfl⟩ ⟨rfl, rfl⟩ ⟨Nat.zero_le _, Nat.zero_le _⟩ dX11_recorded_5 ?_
    refine g_iload_n hx 8 (i := 1) 1 dX11_recorded_8 rfl rfl ?_
    exact g_iret hx hR 9 dX11_recorded_9 ⟨by rw [← Option.some.inj hr] <;> rfl, by rw [← Option.some.inj hr] <;> rfl⟩
def Md_slip (ρ : Nat) (M : MdM) (p1 p2 : Int32) : Option (Int32 × MdM) := Option.bind (Md_areThere ρ M p1 p2) fun q_883 => lt' (Md_lacks ρ M q_883) fun q_884 => if q_884.1 = 0 then (Option.bind (Md_keep ρ q_884.2) fun M_886 => Option.bind (Md_doSlip ρ M_886 p1 p2) fun q_887 => Option.bind (Md_recorded ρ q_887.2 q_887.1) fun q_888 => some ((q_888.1, q_888.2))) else (some ((0, q_884.2)))
set_option maxRecDepth 100000 in
set_option maxHeartbeats 4000000 in
theorem c_Md_slip {ρ : Nat} (hρ : ρ < 2) (l : Launch) (g : Gl) (σ : Hp) (T : Nat) (ow : Nat → Option Nat) (M : MdM) (p1 p2 : Int32) {r : Int32 × MdM} (hr : Md_slip ρ M p1 p2 = some r) : MG l g md_Md_slip [.ref T, .int p1, .int p2] (putMd σ T ow ρ M) (rs (some (.int r.1)) (putMd σ T ow ρ r.2)) := by
  refine MG.intro (by decide +kernel) (Nat.le_of_ble_eq_true rfl) (fun X hx hR _ => ?_)
  unfold Md_slip at hr
  refine g_ls [0, 1, 2] [(0, .ref T), (1, .int p1), (2, .int p2)] rfl ?_
  refine g_aload_n hx 0 (i := 0) 0 dX11_slip_0 rfl rfl ?_
  refine g_aload_n hx 1 (i := 0) 0 dX11_slip_1 rfl rfl ?_
  refine g_iload_n hx 2 (i := 1) 1 dX11_slip_2 rfl rfl ?_
  refine g_iload_n hx 3 (i := 2) 2 dX11_slip_3 rfl rfl ?_
  obtain ⟨q_883, eq_883, hr⟩ := bind_e hr
  refine g_callVr hx (c_Md_areThere hρ l g σ T ow M p1 p2 eq_883) lk_X11_226 ar_Md_areThere (pM_o σ T ow ρ M) (T := TX11) (N := 30) rfl (As := [.int p1, .int p2]) (rest := [.ref T]) rfl (Nat.le_of_ble_eq_true rfl) ⟨Nat.le_of_ble_eq_true rfl, Nat.le_of_ble_eq_true rfl⟩ ⟨rfl, rfl⟩ ⟨Nat.zero_le _, Nat.zero_le _⟩ dX11_slip_4 ?_
  obtain ⟨q_884, eq_884, hr⟩ := lt'_e hr
  refine g_callVr hx (c_Md_lacks hρ l g σ T ow M q_883 eq_884.symm) lk_X11_170 ar_Md_lacks (pM_o σ T ow ρ M) (T := TX11) (N := 30) rfl (As := [.int q_883]) (rest := []) rfl (Nat.le_of_ble_eq_true rfl) ⟨Nat.le_of_ble_eq_true rfl, Nat.le_of_ble_eq_true rfl⟩ ⟨rfl, rfl⟩ ⟨Nat.zero_le _, Nat.zero_le _⟩ dX11_slip_7 ?_
  refine g_if_eq hx 10 15 dX11_slip_10 (by decide) (fun hc_885 => ?_) (fun hc_885 => ?_)
  · have hr := (if_pos hc_885).symm.trans hr
    refine g_aload_n hx 15 (i := 0) 0 dX11_slip_15 rfl rfl ?_
    obtain ⟨M_886, eM_886, hr⟩ := bind_e hr
    refine g_callVv hx (c_Md_keep hρ l g σ T ow q_884.2 eM_886) lk_X11_269 ar_Md_keep (pM_o σ T ow ρ q_884.2) (T := TX11) (N := 30) rfl (As := []) (rest := []) rfl (Nat.le_of_ble_eq_true rfl) ⟨Nat.le_of_ble_eq_true rfl, Nat.le_of_ble_eq_true rfl⟩ ⟨rfl, rfl⟩ ⟨Nat.zero_le _, Nat.zero_le _⟩ dX11_slip_16 ?_
    refine g_aload_n hx 19 (i := 0) 0 dX11_slip_19 rfl rfl ?_
    refine g_aload_n hx 20 (i := 0) 0 dX11_slip_20 rfl rfl ?_
    refine g_iload_n hx 21 (i := 1) 1 dX11_slip_21 rfl rfl ?_
    refine g_iload_n hx 22 (i := 2) 2 dX11_slip_22 rfl rfl ?_
    obtain ⟨q_887, eq_887, hr⟩ := bind_e hr
    refine g_callVr hx (c_Md_doSlip hρ l g σ T ow M_886 p1 p2 eq_887) lk_X11_272 ar_Md_doSlip (pM_o σ T ow ρ M_886) (T := TX11) (N := 30) rfl (As := [.int p1, .int p2]) (rest := [.ref T]) rfl (Nat.le_of_ble_eq_true rfl) ⟨Nat.le_of_ble_eq_true rfl, Nat.le_of_ble_eq_true rfl⟩ ⟨rfl, rfl⟩ ⟨Nat.zero_le _, Nat.zero_le _⟩ dX11_slip_23 ?_
    obtain ⟨q_888, eq_888, hr⟩ := bind_e hr
    refine g_callVr hx (c_Md_recorded hρ l g σ T ow q_887.2 q_887.1 eq_888) lk_X11_275 ar_Md_recorded (pM_o σ T ow ρ q_887.2) (T := TX11) (N := 30) rfl (As := [.int q_887.1]) (rest := []) rfl (Nat.le_of_ble_eq_true rfl) ⟨Nat.le_of_ble_eq_true rfl, Nat.le_of_ble_eq_true rfl⟩ ⟨rfl, rfl⟩ ⟨Nat.zero_le _, Nat.zero_le _⟩ dX11_slip_26 ?_
    exact g_iret hx hR 29 dX11_slip_29 ⟨by rw [← Option.some.inj hr] <;> rfl, by rw [← Option.some.inj hr] <;> rfl⟩
  · have hr := (if_neg hc_885).symm.trans hr
    refine g_iconst hx 13 (0) dX11_slip_13 rfl ?_
    exact g_iret hx hR 14 dX11_slip_14 ⟨by rw [← Option.some.inj hr] <;> rfl, by rw [← Option.some.inj hr] <;> rfl⟩
def Md_dropSlip (ρ : Nat) (M : MdM) (p1 : Int32) : Option (Int32 × MdM) := Option.bind (Md_keep ρ (setF M 9 0)) fun M_889 => Option.bind (Md_doDrop ρ M_889 p1) fun q_890 => Option.bind (Md_recorded ρ q_890.2 q_890.1) fun q_891 => some ((q_891.1, q_891.2))
set_option maxRecDepth 100000 in
set_option maxHeartbeats 4000000 in
theorem c_Md_dropSlip {ρ : Nat} (hρ : ρ < 2) (l : Launch) (g : Gl) (σ : Hp) (T : Nat) (ow : Nat → Option Nat) (M : MdM) (p1 : Int32) {r : Int32 × MdM} (hr : Md_dropSlip ρ M p1 = some r) : MG l g md_Md_dropSlip [.ref T, .int p1] (putMd σ T ow ρ M) (rs (some (.int r.1)) (putMd σ T ow ρ r.2)) := by
  refine MG.intro (by decide +kernel) (Nat.le_of_ble_eq_true rfl) (fun X hx hR _ => ?_)
  unfold Md_dropSlip at hr
  refine g_ls [0, 1] [(0, .ref T), (1, .int p1)] rfl ?_
  refine g_aload_n hx 0 (i := 0) 0 dX11_dropSlip_0 rfl rfl ?_
  refine g_iconst hx 1 (0) dX11_dropSlip_1 rfl ?_
  refine g_put hx 2 (C := RX11) (T := TX11) (N := 30) 9 .int _ (pM_o σ T ow ρ M) rfl (by decide) fl_X11_81 rfl rfl rfl rfl (Nat.le_of_ble_eq_true rfl) rfl dX11_dropSlip_2 ?_
  refine G.heap (pM_f σ T ow ρ M 9 0) ?_
  refine g_aload_n hx 5 (i := 0) 0 dX11_dropSlip_5 rfl rfl ?_
  obtain ⟨M_889, eM_889, hr⟩ := bind_e hr
  refine g_callVv hx (c_Md_keep hρ l g σ T ow (setF M 9 0) eM_889) lk_X11_269 ar_Md_keep (pM_o σ T ow ρ (setF M 9 0)) (T := TX11) (N := 30) rfl (As := []) (rest := []) rfl (Nat.le_of_ble_eq_true rfl) ⟨Nat.le_of_ble_eq_true rfl, Nat.le_of_ble_eq_true rfl⟩ ⟨rfl, rfl⟩ ⟨Nat.zero_le _, Nat.zero_le _⟩ dX11_dropSlip_6 ?_
  refine g_aload_n hx 9 (i := 0) 0 dX11_dropSlip_9 rfl rfl ?_
  refine g_aload_n hx 10 (i := 0) 0 dX11_dropSlip_10 rfl rfl ?_
  refine g_iload_n hx 11 (i := 1) 1 dX11_dropSlip_11 rfl rfl ?_
  obtain ⟨q_890, eq_890, hr⟩ := bind_e hr
  refine g_callVr hx (c_Md_doDrop hρ l g σ T ow M_889 p1 eq_890) lk_X11_278 ar_Md_doDrop (pM_o σ T ow ρ M_889) (T := TX11) (N := 30) rfl (As := [.int p1]) (rest := [.ref T]) rfl (Nat.le_of_ble_eq_true rfl) ⟨Nat.le_of_ble_eq_true rfl, Nat.le_of_ble_eq_true rfl⟩ ⟨rfl, rfl⟩ ⟨Nat.zero_le _, Nat.zero_le _⟩ dX11_dropSlip_12 ?_
  obtain ⟨q_891, eq_891, hr⟩ := bind_e hr
  refine g_callVr hx (c_Md_recorded hρ l g σ T ow q_890.2 q_890.1 eq_891) lk_X11_275 ar_Md_recorded (pM_o σ T ow ρ q_890.2) (T := TX11) (N := 30) rfl (As := [.int q_890.1]) (rest := []) rfl (Nat.le_of_ble_eq_true rfl) ⟨Nat.le_of_ble_eq_true rfl, Nat.le_of_ble_eq_true rfl⟩ ⟨rfl, rfl⟩ ⟨Nat.zero_le _, Nat.zero_le _⟩ dX11_dropSlip_15 ?_
  exact g_iret hx hR 18 dX11_dropSlip_18 ⟨by rw [← Option.some.inj hr] <;> rfl, by rw [← Option.some.inj hr] <;> rfl⟩
def Md_giveBack (ρ : Nat) (M : MdM) (p1 : Int32) : Option (Int32 × MdM) := Option.bind (Md_isFolder ρ M p1) fun q_892 => lt' (Md_lacks ρ M q_892) fun q_893 => if q_893.1 = 0 then (Option.bind (Md_keep ρ q_893.2) fun M_895 => Option.bind (Md_doReturn ρ M_895 p1) fun q_896 => Option.bind (Md_recorded ρ q_896.2 q_896.1) fun q_897 => some ((q_897.1, q_897.2))) else (some ((0, q_893.2)))
set_option maxRecDepth 100000 in
set_option maxHeartbeats 4000000 in
theorem c_Md_giveBack {ρ : Nat} (hρ : ρ < 2) (l : Launch) (g : Gl) (σ : Hp) (T : Nat) (ow : Nat → Option Nat) (M : MdM) (p1 : Int32) {r : Int32 × MdM} (hr : Md_giveBack ρ M p1 = some r) : MG l g md_Md_giveBack [.ref T, .int p1] (putMd σ T ow ρ M) (rs (some (.int r.1)) (putMd σ T ow ρ r.2)) := by
  refine MG.intro (by decide +kernel) (Nat.le_of_ble_eq_true rfl) (fun X hx hR _ => ?_)
  unfold Md_giveBack at hr
  refine g_ls [0, 1] [(0, .ref T), (1, .int p1)] rfl ?_
  refine g_aload_n hx 0 (i := 0) 0 dX11_giveBack_0 rfl rfl ?_
  refine g_aload_n hx 1 (i := 0) 0 dX11_giveBack_1 rfl rfl ?_
  refine g_iload_n hx 2 (i := 1) 1 dX11_giveBack_2 rfl rfl ?_
  obtain ⟨q_892, eq_892, hr⟩ := bind_e hr
  refine g_callVr hx (c_Md_isFolder hρ l g σ T ow M p1 eq_892) lk_X11_186 ar_Md_isFolder (pM_o σ T ow ρ M) (T := TX11) (N := 30) rfl (As := [.int p1]) (rest := [.ref T]) rfl (Nat.le_of_ble_eq_true rfl) ⟨Nat.le_of_ble_eq_true rfl, Nat.le_of_ble_eq_true rfl⟩ ⟨rfl, rfl⟩ ⟨Nat.zero_le _, Nat.zero_le _⟩ dX11_giveBack_3 ?_
  obtain ⟨q_893, eq_893, hr⟩ := lt'_e hr
  refine g_callVr hx (c_Md_lacks hρ l g σ T ow M q_892 eq_893.symm) lk_X11_170 ar_Md_lacks (pM_o σ T ow ρ M) (T := TX11) (N := 30) rfl (As := [.int q_892]) (rest := []) rfl (Nat.le_of_ble_eq_true rfl) ⟨Nat.le_of_ble_eq_true rfl, Nat.le_of_ble_eq_true rfl⟩ ⟨rfl, rfl⟩ ⟨Nat.zero_le _, Nat.zero_le _⟩ dX11_giveBack_6 ?_
  refine g_if_eq hx 9 14 dX11_giveBack_9 (by decide) (fun hc_894 => ?_) (fun hc_894 => ?_)
  · have hr := (if_pos hc_894).symm.trans hr
    refine g_aload_n hx 14 (i := 0) 0 dX11_giveBack_14 rfl rfl ?_
    obtain ⟨M_895, eM_895, hr⟩ := bind_e hr
    refine g_callVv hx (c_Md_keep hρ l g σ T ow q_893.2 eM_895) lk_X11_269 ar_Md_keep (pM_o σ T ow ρ q_893.2) (T := TX11) (N := 30) rfl (As := []) (rest := []) rfl (Nat.le_of_ble_eq_true rfl) ⟨Nat.le_of_ble_eq_true rfl, Nat.le_of_ble_eq_true rfl⟩ ⟨rfl, rfl⟩ ⟨Nat.zero_le _, Nat.zero_le _⟩ dX11_giveBack_15 ?_
    refine g_aload_n hx 18 (i := 0) 0 dX11_giveBack_18 rfl rfl ?_
    refine g_aload_n hx 19 (i := 0) 0 dX11_giveBack_19 rfl rfl ?_
    refine g_iload_n hx 20 (i := 1) 1 dX11_giveBack_20 rfl rfl ?_
    obtain ⟨q_896, eq_896, hr⟩ := bind_e hr
    refine g_callVr hx (c_Md_doReturn hρ l g σ T ow M_895 p1 eq_896) lk_X11_281 ar_Md_doReturn (pM_o σ T ow ρ M_895) (T := TX11) (N := 30) rfl (As := [.int p1]) (rest := [.ref T]) rfl (Nat.le_of_ble_eq_true rfl) ⟨Nat.le_of_ble_eq_true rfl, Nat.le_of_ble_eq_true rfl⟩ ⟨rfl, rfl⟩ ⟨Nat.zero_le _, Nat.zero_le _⟩ dX11_giveBack_21 ?_
    obtain ⟨q_897, eq_897, hr⟩ := bind_e hr
    refine g_callVr hx (c_Md_recorded hρ l g σ T ow q_896.2 q_896.1 eq_897) lk_X11_275 ar_Md_recorded (pM_o σ T ow ρ q_896.2) (T := TX11) (N := 30) rfl (As := [.int q_896.1]) (rest := []) rfl (Nat.le_of_ble_eq_true rfl) ⟨Nat.le_of_ble_eq_true rfl, Nat.le_of_ble_eq_true rfl⟩ ⟨rfl, rfl⟩ ⟨Nat.zero_le _, Nat.zero_le _⟩ dX11_giveBack_24 ?_
    exact g_iret hx hR 27 dX11_giveBack_27 ⟨by rw [← Option.some.inj hr] <;> rfl, by rw [← Option.some.inj hr] <;> rfl⟩
  · have hr := (if_neg hc_894).symm.trans hr
    refine g_iconst hx 12 (0) dX11_giveBack_12 rfl ?_
    exact g_iret hx hR 13 dX11_giveBack_13 ⟨by rw [← Option.some.inj hr] <;> rfl, by rw [← Option.some.inj hr] <;> rfl⟩
def Md_days (ρ : Nat) (M : MdM) (p1 : Int32) : Option (Int32 × MdM) := lt' (Md_lacks ρ M (Md_inRange p1 1 60)) fun q_898 => if q_898.1 = 0 then (Option.bind (Md_keep ρ q_898.2) fun M_900 => Option.bind (Md_doDays ρ M_900 p1) fun q_901 => Option.bind (Md_recorded ρ q_901.2 q_901.1) fun q_902 => some ((q_902.1, q_902.2))) else (some ((0, q_898.2)))
set_option maxRecDepth 100000 in
set_option maxHeartbeats 4000000 in
theorem c_Md_days {ρ : Nat} (hρ : ρ < 2) (l : Launch) (g : Gl) (σ : Hp) (T : Nat) (ow : Nat → Option Nat) (M : MdM) (p1 : Int32) {r : Int32 × MdM} (hr : Md_days ρ M p1 = some r) : MG l g md_Md_days [.ref T, .int p1] (putMd σ T ow ρ M) (rs (some (.int r.1)) (putMd σ T ow ρ r.2)) := by
  refine MG.intro (by decide +kernel) (Nat.le_of_ble_eq_true rfl) (fun X hx hR _ => ?_)
  unfold Md_days at hr
  refine g_ls [0, 1] [(0, .ref T), (1, .int p1)] rfl ?_
  refine g_aload_n hx 0 (i := 0) 0 dX11_days_0 rfl rfl ?_
  refine g_iload_n hx 1 (i := 1) 1 dX11_days_1 rfl rfl ?_
  refine g_iconst hx 2 (1) dX11_days_2 rfl ?_
  refine g_bipush hx 3 (60) dX11_days_3 rfl ?_
  refine g_callSr hx (c_Md_inRange l g _ p1 1 60 rfl) lk_X11_91 ar_Md_inRange (As := [.int p1, .int 1, .int 60]) (rest := [.ref T]) rfl (Nat.le_of_ble_eq_true rfl) ⟨Nat.le_of_ble_eq_true rfl, Nat.le_of_ble_eq_true rfl⟩ ⟨rfl, rfl⟩ ⟨Nat.zero_le _, Nat.zero_le _⟩ dX11_days_5 ?_
  obtain ⟨q_898, eq_898, hr⟩ := lt'_e hr
  refine g_callVr hx (c_Md_lacks hρ l g σ T ow M (Md_inRange p1 1 60) eq_898.symm) lk_X11_170 ar_Md_lacks (pM_o σ T ow ρ M) (T := TX11) (N := 30) rfl (As := [.int (Md_inRange p1 1 60)]) (rest := []) rfl (Nat.le_of_ble_eq_true rfl) ⟨Nat.le_of_ble_eq_true rfl, Nat.le_of_ble_eq_true rfl⟩ ⟨rfl, rfl⟩ ⟨Nat.zero_le _, Nat.zero_le _⟩ dX11_days_8 ?_
  refine g_if_eq hx 11 16 dX11_days_11 (by decide) (fun hc_899 => ?_) (fun hc_899 => ?_)
  · have hr := (if_pos hc_899).symm.trans hr
    refine g_aload_n hx 16 (i := 0) 0 dX11_days_16 rfl rfl ?_
    obtain ⟨M_900, eM_900, hr⟩ := bind_e hr
    refine g_callVv hx (c_Md_keep hρ l g σ T ow q_898.2 eM_900) lk_X11_269 ar_Md_keep (pM_o σ T ow ρ q_898.2) (T := TX11) (N := 30) rfl (As := []) (rest := []) rfl (Nat.le_of_ble_eq_true rfl) ⟨Nat.le_of_ble_eq_true rfl, Nat.le_of_ble_eq_true rfl⟩ ⟨rfl, rfl⟩ ⟨Nat.zero_le _, Nat.zero_le _⟩ dX11_days_17 ?_
    refine g_aload_n hx 20 (i := 0) 0 dX11_days_20 rfl rfl ?_
    refine g_aload_n hx 21 (i := 0) 0 dX11_days_21 rfl rfl ?_
    refine g_iload_n hx 22 (i := 1) 1 dX11_days_22 rfl rfl ?_
    obtain ⟨q_901, eq_901, hr⟩ := bind_e hr
    refine g_callVr hx (c_Md_doDays hρ l g σ T ow M_900 p1 eq_901) lk_X11_284 ar_Md_doDays (pM_o σ T ow ρ M_900) (T := TX11) (N := 30) rfl (As := [.int p1]) (rest := [.ref T]) rfl (Nat.le_of_ble_eq_true rfl) ⟨Nat.le_of_ble_eq_true rfl, Nat.le_of_ble_eq_true rfl⟩ ⟨rfl, rfl⟩ ⟨Nat.zero_le _, Nat.zero_le _⟩ dX11_days_23 ?_
    obtain ⟨q_902, eq_902, hr⟩ := bind_e hr
    refine g_callVr hx (c_Md_recorded hρ l g σ T ow q_901.2 q_901.1 eq_902) lk_X11_275 ar_Md_recorded (pM_o σ T ow ρ q_901.2) (T := TX11) (N := 30) rfl (As := [.int q_901.1]) (rest := []) rfl (Nat.le_of_ble_eq_true rfl) ⟨Nat.le_of_ble_eq_true rfl, Nat.le_of_ble_eq_true rfl⟩ ⟨rfl, rfl⟩ ⟨Nat.zero_le _, Nat.zero_le _⟩ dX11_days_26 ?_
    exact g_iret hx hR 29 dX11_days_29 ⟨by rw [← Option.some.inj hr] <;> rfl, by rw [← Option.some.inj hr] <;> rfl⟩
  · have hr := (if_neg hc_899).symm.trans hr
    refine g_iconst hx 14 (0) dX11_days_14 rfl ?_
    exact g_iret hx hR 15 dX11_days_15 ⟨by rw [← Option.some.inj hr] <;> rfl, by rw [← Option.some.inj hr] <;> rfl⟩
def Md_misfile (ρ : Nat) (M : MdM) (p1 p2 : Int32) : Option (Int32 × MdM) := Option.bind (Md_isFolder ρ M p1) fun q_903 => lt' (Md_lacks ρ M q_903) fun q_904 => if q_904.1 = 0 then (Option.bind (Md_keep ρ q_904.2) fun M_906 => Option.bind (Md_doMisfile ρ M_906 p1 p2) fun q_907 => Option.bind (Md_recorded ρ q_907.2 q_907.1) fun q_908 => some ((q_908.1, q_908.2))) else (some ((0, q_904.2)))
set_option maxRecDepth 100000 in
set_option maxHeartbeats 4000000 in
theorem c_Md_misfile {ρ : Nat} (hρ : ρ < 2) (l : Launch) (g : Gl) (σ : Hp) (T : Nat) (ow : Nat → Option Nat) (M : MdM) (p1 p2 : Int32) {r : Int32 × MdM} (hr : Md_misfile ρ M p1 p2 = some r) : MG l g md_Md_misfile [.ref T, .int p1, .int p2] (putMd σ T ow ρ M) (rs (some (.int r.1)) (putMd σ T ow ρ r.2)) := by
  refine MG.intro (by decide +kernel) (Nat.le_of_ble_eq_true rfl) (fun X hx hR _ => ?_)
  unfold Md_misfile at hr
  refine g_ls [0, 1, 2] [(0, .ref T), (1, .int p1), (2, .int p2)] rfl ?_
  refine g_aload_n hx 0 (i := 0) 0 dX11_misfile_0 rfl rfl ?_
  refine g_aload_n hx 1 (i := 0) 0 dX11_misfile_1 rfl rfl ?_
  refine g_iload_n hx 2 (i := 1) 1 dX11_misfile_2 rfl rfl ?_
  obtain ⟨q_903, eq_903, hr⟩ := bind_e hr
  refine g_callVr hx (c_Md_isFolder hρ l g σ T ow M p1 eq_903) lk_X11_186 ar_Md_isFolder (pM_o σ T ow ρ M) (T := TX11) (N := 30) rfl (As := [.int p1]) (rest := [.ref T]) rfl (Nat.le_of_ble_eq_true rfl) ⟨Nat.le_of_ble_eq_true rfl, Nat.le_of_ble_eq_true rfl⟩ ⟨rfl, rfl⟩ ⟨Nat.zero_le _, Nat.zero_le _⟩ dX11_misfile_3 ?_
  obtain ⟨q_904, eq_904, hr⟩ := lt'_e hr
  refine g_callVr hx (c_Md_lacks hρ l g σ T ow M q_903 eq_904.symm) lk_X11_170 ar_Md_lacks (pM_o σ T ow ρ M) (T := TX11) (N := 30) rfl (As := [.int q_903]) (rest := []) rfl (Nat.le_of_ble_eq_true rfl) ⟨Nat.le_of_ble_eq_true rfl, Nat.le_of_ble_eq_true rfl⟩ ⟨rfl, rfl⟩ ⟨Nat.zero_le _, Nat.zero_le _⟩ dX11_misfile_6 ?_
  refine g_if_eq hx 9 14 dX11_misfile_9 (by decide) (fun hc_905 => ?_) (fun hc_905 => ?_)
  · have hr := (if_pos hc_905).symm.trans hr
    refine g_aload_n hx 14 (i := 0) 0 dX11_misfile_14 rfl rfl ?_
    obtain ⟨M_906, eM_906, hr⟩ := bind_e hr
    refine g_callVv hx (c_Md_keep hρ l g σ T ow q_904.2 eM_906) lk_X11_269 ar_Md_keep (pM_o σ T ow ρ q_904.2) (T := TX11) (N := 30) rfl (As := []) (rest := []) rfl (Nat.le_of_ble_eq_true rfl) ⟨Nat.le_of_ble_eq_true rfl, Nat.le_of_ble_eq_true rfl⟩ ⟨rfl, rfl⟩ ⟨Nat.zero_le _, Nat.zero_le _⟩ dX11_misfile_15 ?_
    refine g_aload_n hx 18 (i := 0) 0 dX11_misfile_18 rfl rfl ?_
    refine g_aload_n hx 19 (i := 0) 0 dX11_misfile_19 rfl rfl ?_
    refine g_iload_n hx 20 (i := 1) 1 dX11_misfile_20 rfl rfl ?_
    refine g_iload_n hx 21 (i := 2) 2 dX11_misfile_21 rfl rfl ?_
    obtain ⟨q_907, eq_907, hr⟩ := bind_e hr
    refine g_callVr hx (c_Md_doMisfile hρ l g σ T ow M_906 p1 p2 eq_907) lk_X11_287 ar_Md_doMisfile (pM_o σ T ow ρ M_906) (T := TX11) (N := 30) rfl (As := [.int p1, .int p2]) (rest := [.ref T]) rfl (Nat.le_of_ble_eq_true rfl) ⟨Nat.le_of_ble_eq_true rfl, Nat.le_of_ble_eq_true rfl⟩ ⟨rfl, rfl⟩ ⟨Nat.zero_le _, Nat.zero_le _⟩ dX11_misfile_22 ?_
    obtain ⟨q_908, eq_908, hr⟩ := bind_e hr
    refine g_callVr hx (c_Md_recorded hρ l g σ T ow q_907.2 q_907.1 eq_908) lk_X11_275 ar_Md_recorded (pM_o σ T ow ρ q_907.2) (T := TX11) (N := 30) rfl (As := [.int q_907.1]) (rest := []) rfl (Nat.le_of_ble_eq_true rfl) ⟨Nat.le_of_ble_eq_true rfl, Nat.le_of_ble_eq_true rfl⟩ ⟨rfl, rfl⟩ ⟨Nat.zero_le _, Nat.zero_le _⟩ dX11_misfile_25 ?_
    exact g_iret hx hR 28 dX11_misfile_28 ⟨by rw [← Option.some.inj hr] <;> rfl, by rw [← Option.some.inj hr] <;> rfl⟩
  · have hr := (if_neg hc_905).symm.trans hr
    refine g_iconst hx 12 (0) dX11_misfile_12 rfl ?_
    exact g_iret hx hR 13 dX11_misfile_13 ⟨by rw [← Option.some.inj hr] <;> rfl, by rw [← Option.some.inj hr] <;> rfl⟩
def Md_straighten (ρ : Nat) (M : MdM) (p1 : Int32) : Option (Int32 × MdM) := Option.bind (Md_isFolder ρ M p1) fun q_909 => lt' (Md_lacks ρ M q_909) fun q_910 => if q_910.1 = 0 then (Option.bind (Md_keep ρ q_910.2) fun M_912 => Option.bind (Md_doStraighten ρ M_912 p1) fun q_913 => Option.bind (Md_recorded ρ q_913.2 q_913.1) fun q_914 => some ((q_914.1, q_914.2))) else (some ((0, q_910.2)))
set_option maxRecDepth 100000 in
set_option maxHeartbeats 4000000 in
theorem c_Md_straighten {ρ : Nat} (hρ : ρ < 2) (l : Launch) (g : Gl) (σ : Hp) (T : Nat) (ow : Nat → Option Nat) (M : MdM) (p1 : Int32) {r : Int32 × MdM} (hr : Md_straighten ρ M p1 = some r) : MG l g md_Md_straighten [.ref T, .int p1] (putMd σ T ow ρ M) (rs (some (.int r.1)) (putMd σ T ow ρ r.2)) := by
  refine MG.intro (by decide +kernel) (Nat.le_of_ble_eq_true rfl) (fun X hx hR _ => ?_)
  unfold Md_straighten at hr
  refine g_ls [0, 1] [(0, .ref T), (1, .int p1)] rfl ?_
  refine g_aload_n hx 0 (i := 0) 0 dX11_straighten_0 rfl rfl ?_
  refine g_aload_n hx 1 (i := 0) 0 dX11_straighten_1 rfl rfl ?_
  refine g_iload_n hx 2 (i := 1) 1 dX11_straighten_2 rfl rfl ?_
  obtain ⟨q_909, eq_909, hr⟩ := bind_e hr
  refine g_callVr hx (c_Md_isFolder hρ l g σ T ow M p1 eq_909) lk_X11_186 ar_Md_isFolder (pM_o σ T ow ρ M) (T := TX11) (N := 30) rfl (As := [.int p1]) (rest := [.ref T]) rfl (Nat.le_of_ble_eq_true rfl) ⟨Nat.le_of_ble_eq_true rfl, Nat.le_of_ble_eq_true rfl⟩ ⟨rfl, rfl⟩ ⟨Nat.zero_le _, Nat.zero_le _⟩ dX11_straighten_3 ?_
  obtain ⟨q_910, eq_910, hr⟩ := lt'_e hr
  refine g_callVr hx (c_Md_lacks hρ l g σ T ow M q_909 eq_910.symm) lk_X11_170 ar_Md_lacks (pM_o σ T ow ρ M) (T := TX11) (N := 30) rfl (As := [.int q_909]) (rest := []) rfl (Nat.le_of_ble_eq_true rfl) ⟨Nat.le_of_ble_eq_true rfl, Nat.le_of_ble_eq_true rfl⟩ ⟨rfl, rfl⟩ ⟨Nat.zero_le _, Nat.zero_le _⟩ dX11_straighten_6 ?_
  refine g_if_eq hx 9 14 dX11_straighten_9 (by decide) (fun hc_911 => ?_) (fun hc_911 => ?_)
  · have hr := (if_pos hc_911).symm.trans hr
    refine g_aload_n hx 14 (i := 0) 0 dX11_straighten_14 rfl rfl ?_
    obtain ⟨M_912, eM_912, hr⟩ := bind_e hr
    refine g_callVv hx (c_Md_keep hρ l g σ T ow q_910.2 eM_912) lk_X11_269 ar_Md_keep (pM_o σ T ow ρ q_910.2) (T := TX11) (N := 30) rfl (As := []) (rest := []) rfl (Nat.le_of_ble_eq_true rfl) ⟨Nat.le_of_ble_eq_true rfl, Nat.le_of_ble_eq_true rfl⟩ ⟨rfl, rfl⟩ ⟨Nat.zero_le _, Nat.zero_le _⟩ dX11_straighten_15 ?_
    refine g_aload_n hx 18 (i := 0) 0 dX11_straighten_18 rfl rfl ?_
    refine g_aload_n hx 19 (i := 0) 0 dX11_straighten_19 rfl rfl ?_
    refine g_iload_n hx 20 (i := 1) 1 dX11_straighten_20 rfl rfl ?_
    obtain ⟨q_913, eq_913, hr⟩ := bind_e hr
    refine g_callVr hx (c_Md_doStraighten hρ l g σ T ow M_912 p1 eq_913) lk_X11_290 ar_Md_doStraighten (pM_o σ T ow ρ M_912) (T := TX11) (N := 30) rfl (As := [.int p1]) (rest := [.ref T]) rfl (Nat.le_of_ble_eq_true rfl) ⟨Nat.le_of_ble_eq_true rfl, Nat.le_of_ble_eq_true rfl⟩ ⟨rfl, rfl⟩ ⟨Nat.zero_le _, Nat.zero_le _⟩ dX11_straighten_21 ?_
    obtain ⟨q_914, eq_914, hr⟩ := bind_e hr
    refine g_callVr hx (c_Md_recorded hρ l g σ T ow q_913.2 q_913.1 eq_914) lk_X11_275 ar_Md_recorded (pM_o σ T ow ρ q_913.2) (T := TX11) (N := 30) rfl (As := [.int q_913.1]) (rest := []) rfl (Nat.le_of_ble_eq_true rfl) ⟨Nat.le_of_ble_eq_true rfl, Nat.le_of_ble_eq_true rfl⟩ ⟨rfl, rfl⟩ ⟨Nat.zero_le _, Nat.zero_le _⟩ dX11_straighten_24 ?_
    exact g_iret hx hR 27 dX11_straighten_27 ⟨by rw [← Option.some.inj hr] <;> rfl, by rw [← Option.some.inj hr] <;> rfl⟩
  · have hr := (if_neg hc_911).symm.trans hr
    refine g_iconst hx 12 (0) dX11_straighten_12 rfl ?_
    exact g_iret hx hR 13 dX11_straighten_13 ⟨by rw [← Option.some.inj hr] <;> rfl, by rw [← Option.some.inj hr] <;> rfl⟩
def Md_check (ρ : Nat) (M : MdM) (p1 : Int32) : Option (Int32 × MdM) := lt' (Md_lacks ρ M (Md_inRange p1 1 99)) fun q_915 => if q_915.1 = 0 then (Option.bind (Md_keep ρ q_915.2) fun M_917 => Option.bind (Md_doCheck ρ M_917 p1) fun q_918 => Option.bind (Md_recorded ρ q_918.2 q_918.1) fun q_919 => some ((q_919.1, q_919.2))) else (some ((0, q_915.2)))
set_option maxRecDepth 100000 in
set_option maxHeartbeats 4000000 in
theorem c_Md_check {ρ : Nat} (hρ : ρ < 2) (l : Launch) (g : Gl) (σ : Hp) (T : Nat) (ow : Nat → Option Nat) (M : MdM) (p1 : Int32) {r : Int32 × MdM} (hr : Md_check ρ M p1 = some r) : MG l g md_Md_check [.ref T, .int p1] (putMd σ T ow ρ M) (rs (some (.int r.1)) (putMd σ T ow ρ r.2)) := by
  refine MG.intro (by decide +kernel) (Nat.le_of_ble_eq_true rfl) (fun X hx hR _ => ?_)
  unfold Md_check at hr
  refine g_ls [0, 1] [(0, .ref T), (1, .int p1)] rfl ?_
  refine g_aload_n hx 0 (i := 0) 0 dX11_check_0 rfl rfl ?_
  refine g_iload_n hx 1 (i := 1) 1 dX11_check_1 rfl rfl ?_
  refine g_iconst hx 2 (1) dX11_check_2 rfl ?_
  refine g_bipush hx 3 (99) dX11_check_3 rfl ?_
  refine g_callSr hx (c_Md_inRange l g _ p1 1 99 rfl) lk_X11_91 ar_Md_inRange (As := [.int p1, .int 1, .int 99]) (rest := [.ref T]) rfl (Nat.le_of_ble_eq_true rfl) ⟨Nat.le_of_ble_eq_true rfl, Nat.le_of_ble_eq_true rfl⟩ ⟨rfl, rfl⟩ ⟨Nat.zero_le _, Nat.zero_le _⟩ dX11_check_5 ?_
  obtain ⟨q_915, eq_915, hr⟩ := lt'_e hr
  refine g_callVr hx (c_Md_lacks hρ l g σ T ow M (Md_inRange p1 1 99) eq_915.symm) lk_X11_170 ar_Md_lacks (pM_o σ T ow ρ M) (T := TX11) (N := 30) rfl (As := [.int (Md_inRange p1 1 99)]) (rest := []) rfl (Nat.le_of_ble_eq_true rfl) ⟨Nat.le_of_ble_eq_true rfl, Nat.le_of_ble_eq_true rfl⟩ ⟨rfl, rfl⟩ ⟨Nat.zero_le _, Nat.zero_le _⟩ dX11_check_8 ?_
  refine g_if_eq hx 11 16 dX11_check_11 (by decide) (fun hc_916 => ?_) (fun hc_916 => ?_)
  · have hr := (if_pos hc_916).symm.trans hr
    refine g_aload_n hx 16 (i := 0) 0 dX11_check_16 rfl rfl ?_
    obtain ⟨M_917, eM_917, hr⟩ := bind_e hr
    refine g_callVv hx (c_Md_keep hρ l g σ T ow q_915.2 eM_917) lk_X11_269 ar_Md_keep (pM_o σ T ow ρ q_915.2) (T := TX11) (N := 30) rfl (As := []) (rest := []) rfl (Nat.le_of_ble_eq_true rfl) ⟨Nat.le_of_ble_eq_true rfl, Nat.le_of_ble_eq_true rfl⟩ ⟨rfl, rfl⟩ ⟨Nat.zero_le _, Nat.zero_le _⟩ dX11_check_17 ?_
    refine g_aload_n hx 20 (i := 0) 0 dX11_check_20 rfl rfl ?_
    refine g_aload_n hx 21 (i := 0) 0 dX11_check_21 rfl rfl ?_
    refine g_iload_n hx 22 (i := 1) 1 dX11_check_22 rfl rfl ?_
    obtain ⟨q_918, eq_918, hr⟩ := bind_e hr
    refine g_callVr hx (c_Md_doCheck hρ l g σ T ow M_917 p1 eq_918) lk_X11_293 ar_Md_doCheck (pM_o σ T ow ρ M_917) (T := TX11) (N := 30) rfl (As := [.int p1]) (rest := [.ref T]) rfl (Nat.le_of_ble_eq_true rfl) ⟨Nat.le_of_ble_eq_true rfl, Nat.le_of_ble_eq_true rfl⟩ ⟨rfl, rfl⟩ ⟨Nat.zero_le _, Nat.zero_le _⟩ dX11_check_23 ?_
    obtain ⟨q_919, eq_919, hr⟩ := bind_e hr
    refine g_callVr hx (c_Md_recorded hρ l g σ T ow q_918.2 q_918.1 eq_919) lk_X11_275 ar_Md_recorded (pM_o σ T ow ρ q_918.2) (T := TX11) (N := 30) rfl (As := [.int q_918.1]) (rest := []) rfl (Nat.le_of_ble_eq_true rfl) ⟨Nat.le_of_ble_eq_true rfl, Nat.le_of_ble_eq_true rfl⟩ ⟨rfl, rfl⟩ ⟨Nat.zero_le _, Nat.zero_le _⟩ dX11_check_26 ?_
    exact g_iret hx hR 29 dX11_check_29 ⟨by rw [← Option.some.inj hr] <;> rfl, by rw [← Option.some.inj hr] <;> rfl⟩
  · have hr := (if_neg hc_916).symm.trans hr
    refine g_iconst hx 14 (0) dX11_check_14 rfl ?_
    exact g_iret hx hR 15 dX11_check_15 ⟨by rw [← Option.some.inj hr] <;> rfl, by rw [← Option.some.inj hr] <;> rfl⟩
def Md_setEmbargo (ρ : Nat) (M : MdM) (p1 p2 : Int32) : Option (Int32 × MdM) := Option.bind (Md_isFolder ρ M p1) fun q_920 => lt' (Md_lacks ρ M q_920) fun q_921 => if q_921.1 = 0 then (if Md_inRange p2 0 999 = 0 then (lt' (Md_raise ρ q_921.2 2) fun q_924 => some ((q_924.1, q_924.2))) else (Option.bind (Md_keep ρ q_921.2) fun M_925 => Option.bind (Md_doEmbargo ρ M_925 p1 p2) fun q_926 => Option.bind (Md_recorded ρ q_926.2 q_926.1) fun q_927 => some ((q_927.1, q_927.2)))) else (some ((0, q_921.2)))
set_option maxRecDepth 100000 in
set_option maxHeartbeats 4000000 in
theorem c_Md_setEmbargo {ρ : Nat} (hρ : ρ < 2) (l : Launch) (g : Gl) (σ : Hp) (T : Nat) (ow : Nat → Option Nat) (M : MdM) (p1 p2 : Int32) {r : Int32 × MdM} (hr : Md_setEmbargo ρ M p1 p2 = some r) : MG l g md_Md_setEmbargo [.ref T, .int p1, .int p2] (putMd σ T ow ρ M) (rs (some (.int r.1)) (putMd σ T ow ρ r.2)) := by
  refine MG.intro (by decide +kernel) (Nat.le_of_ble_eq_true rfl) (fun X hx hR _ => ?_)
  unfold Md_setEmbargo at hr
  refine g_ls [0, 1, 2] [(0, .ref T), (1, .int p1), (2, .int p2)] rfl ?_
  refine g_aload_n hx 0 (i := 0) 0 dX11_setEmbargo_0 rfl rfl ?_
  refine g_aload_n hx 1 (i := 0) 0 dX11_setEmbargo_1 rfl rfl ?_
  refine g_iload_n hx 2 (i := 1) 1 dX11_setEmbargo_2 rfl rfl ?_
  obtain ⟨q_920, eq_920, hr⟩ := bind_e hr
  refine g_callVr hx (c_Md_isFolder hρ l g σ T ow M p1 eq_920) lk_X11_186 ar_Md_isFolder (pM_o σ T ow ρ M) (T := TX11) (N := 30) rfl (As := [.int p1]) (rest := [.ref T]) rfl (Nat.le_of_ble_eq_true rfl) ⟨Nat.le_of_ble_eq_true rfl, Nat.le_of_ble_eq_true rfl⟩ ⟨rfl, rfl⟩ ⟨Nat.zero_le _, Nat.zero_le _⟩ dX11_setEmbargo_3 ?_
  obtain ⟨q_921, eq_921, hr⟩ := lt'_e hr
  refine g_callVr hx (c_Md_lacks hρ l g σ T ow M q_920 eq_921.symm) lk_X11_170 ar_Md_lacks (pM_o σ T ow ρ M) (T := TX11) (N := 30) rfl (As := [.int q_920]) (rest := []) rfl (Nat.le_of_ble_eq_true rfl) ⟨Nat.le_of_ble_eq_true rfl, Nat.le_of_ble_eq_true rfl⟩ ⟨rfl, rfl⟩ ⟨Nat.zero_le _, Nat.zero_le _⟩ dX11_setEmbargo_6 ?_
  refine g_if_eq hx 9 14 dX11_setEmbargo_9 (by decide) (fun hc_922 => ?_) (fun hc_922 => ?_)
  · have hr := (if_pos hc_922).symm.trans hr
    refine g_iload_n hx 14 (i := 2) 2 dX11_setEmbargo_14 rfl rfl ?_
    refine g_iconst hx 15 (0) dX11_setEmbargo_15 rfl ?_
    refine g_sipush hx 16 (999) dX11_setEmbargo_16 rfl ?_
    refine g_callSr hx (c_Md_inRange l g _ p2 0 999 rfl) lk_X11_91 ar_Md_inRange (As := [.int p2, .int 0, .int 999]) (rest := []) rfl (Nat.le_of_ble_eq_true rfl) ⟨Nat.le_of_ble_eq_true rfl, Nat.le_of_ble_eq_true rfl⟩ ⟨rfl, rfl⟩ ⟨Nat.zero_le _, Nat.zero_le _⟩ dX11_setEmbargo_19 ?_
    refine g_if_ne hx 22 31 dX11_setEmbargo_22 (by decide) (fun hc_923 => ?_) (fun hc_923 => ?_)
    · have hr := (if_neg hc_923).symm.trans hr
      refine g_aload_n hx 31 (i := 0) 0 dX11_setEmbargo_31 rfl rfl ?_
      obtain ⟨M_925, eM_925, hr⟩ := bind_e hr
      refine g_callVv hx (c_Md_keep hρ l g σ T ow q_921.2 eM_925) lk_X11_269 ar_Md_keep (pM_o σ T ow ρ q_921.2) (T := TX11) (N := 30) rfl (As := []) (rest := []) rfl (Nat.le_of_ble_eq_true rfl) ⟨Nat.le_of_ble_eq_true rfl, Nat.le_of_ble_eq_true rfl⟩ ⟨rfl, rfl⟩ ⟨Nat.zero_le _, Nat.zero_le _⟩ dX11_setEmbargo_32 ?_
      refine g_aload_n hx 35 (i := 0) 0 dX11_setEmbargo_35 rfl rfl ?_
      refine g_aload_n hx 36 (i := 0) 0 dX11_setEmbargo_36 rfl rfl ?_
      refine g_iload_n hx 37 (i := 1) 1 dX11_setEmbargo_37 rfl rfl ?_
      refine g_iload_n hx 38 (i := 2) 2 dX11_setEmbargo_38 rfl rfl ?_
      obtain ⟨q_926, eq_926, hr⟩ := bind_e hr
      refine g_callVr hx (c_Md_doEmbargo hρ l g σ T ow M_925 p1 p2 eq_926) lk_X11_296 ar_Md_doEmbargo (pM_o σ T ow ρ M_925) (T := TX11) (N := 30) rfl (As := [.int p1, .int p2]) (rest := [.ref T]) rfl (Nat.le_of_ble_eq_true rfl) ⟨Nat.le_of_ble_eq_true rfl, Nat.le_of_ble_eq_true rfl⟩ ⟨rfl, rfl⟩ ⟨Nat.zero_le _, Nat.zero_le _⟩ dX11_setEmbargo_39 ?_
      obtain ⟨q_927, eq_927, hr⟩ := bind_e hr
      refine g_callVr hx (c_Md_recorded hρ l g σ T ow q_926.2 q_926.1 eq_927) lk_X11_275 ar_Md_recorded (pM_o σ T ow ρ q_926.2) (T := TX11) (N := 30) rfl (As := [.int q_926.1]) (rest := []) rfl (Nat.le_of_ble_eq_true rfl) ⟨Nat.le_of_ble_eq_true rfl, Nat.le_of_ble_eq_true rfl⟩ ⟨rfl, rfl⟩ ⟨Nat.zero_le _, Nat.zero_le _⟩ dX11_setEmbargo_42 ?_
      exact g_iret hx hR 45 dX11_setEmbargo_45 ⟨by rw [← Option.some.inj hr] <;> rfl, by rw [← Option.some.inj hr] <;> rfl⟩
    · have hr := (if_pos hc_923).symm.trans hr
      refine g_aload_n hx 25 (i := 0) 0 dX11_setEmbargo_25 rfl rfl ?_
      refine g_iconst hx 26 (2) dX11_setEmbargo_26 rfl ?_
      obtain ⟨q_924, eq_924, hr⟩ := lt'_e hr
      refine g_callVr hx (c_Md_raise hρ l g σ T ow q_921.2 2 eq_924.symm) lk_X11_195 ar_Md_raise (pM_o σ T ow ρ q_921.2) (T := TX11) (N := 30) rfl (As := [.int 2]) (rest := []) rfl (Nat.le_of_ble_eq_true rfl) ⟨Nat.le_of_ble_eq_true rfl, Nat.le_of_ble_eq_true rfl⟩ ⟨rfl, rfl⟩ ⟨Nat.zero_le _, Nat.zero_le _⟩ dX11_setEmbargo_27 ?_
      exact g_iret hx hR 30 dX11_setEmbargo_30 ⟨by rw [← Option.some.inj hr] <;> rfl, by rw [← Option.some.inj hr] <;> rfl⟩
  · have hr := (if_neg hc_922).symm.trans hr
    refine g_iconst hx 12 (0) dX11_setEmbargo_12 rfl ?_
    exact g_iret hx hR 13 dX11_setEmbargo_13 ⟨by rw [← Option.some.inj hr] <;> rfl, by rw [← Option.some.inj hr] <;> rfl⟩
def Md_write (ρ : Nat) (M : MdM) (p1 : Int32) : Option (MdM) := if inB (M.1 16) 200 then (some (setF (setA M 9 (upd (M.2 9) (M.1 16).toNatClampNeg p1)) 16 ((M.1 16) + 1))) else none
set_option maxRecDepth 100000 in
set_option maxHeartbeats 4000000 in
theorem c_Md_write {ρ : Nat} (hρ : ρ < 2) (l : Launch) (g : Gl) (σ : Hp) (T : Nat) (ow : Nat → Option Nat) (M : MdM) (p1 : Int32) {r : MdM} (hr : Md_write ρ M p1 = some r) : MG l g md_Md_write [.ref T, .int p1] (putMd σ T ow ρ M) (rs none (putMd σ T ow ρ r)) := by
  refine MG.intro (by decide +kernel) (Nat.le_of_ble_eq_true rfl) (fun X hx hR _ => ?_)
  unfold Md_write at hr
  refine g_ls [0, 1] [(0, .ref T), (1, .int p1)] rfl ?_
  refine g_aload_n hx 0 (i := 0) 0 dX11_write_0 rfl rfl ?_
  refine g_get hx 1 (C := RX11) (T := TX11) (N := 30) 15 (.ref (T + 10)) (pM_o σ T ow ρ M) rfl (by decide) rfl fl_X11_40 dX11_write_1 ?_
  refine g_aload_n hx 4 (i := 0) 0 dX11_write_4 rfl rfl ?_
  refine g_get hx 5 (C := RX11) (T := TX11) (N := 30) 16 (.int (M.1 16)) (pM_o σ T ow ρ M) rfl (by decide) rfl fl_X11_299 dX11_write_5 ?_
  refine g_iload_n hx 8 (i := 1) 1 dX11_write_8 rfl rfl ?_
  obtain ⟨hb_928, hr⟩ := ob hr
  refine g_iast hx 9 (pM_a σ T ow ρ M 9 (by decide)) hb_928 dX11_write_9 ?_
  refine G.heap (pM_s σ T ow ρ M 9 (by decide) (upd (M.2 9) (M.1 16).toNatClampNeg p1)) ?_
  refine g_aload_n hx 10 (i := 0) 0 dX11_write_10 rfl rfl ?_
  refine g_dup hx 11 dX11_write_11 rfl ?_
  refine g_get hx 12 (C := RX11) (T := TX11) (N := 30) 16 (.int (M.1 16)) (pM_o σ T ow ρ (setA M 9 (upd (M.2 9) (M.1 16).toNatClampNeg p1))) rfl (by decide) rfl fl_X11_299 dX11_write_12 ?_
  refine g_iconst hx 15 (1) dX11_write_15 rfl ?_
  refine g_iadd hx 16 dX11_write_16 ?_
  refine g_put hx 17 (C := RX11) (T := TX11) (N := 30) 16 .int _ (pM_o σ T ow ρ (setA M 9 (upd (M.2 9) (M.1 16).toNatClampNeg p1))) rfl (by decide) fl_X11_299 rfl rfl rfl rfl (Nat.le_of_ble_eq_true rfl) rfl dX11_write_17 ?_
  refine G.heap (pM_f σ T ow ρ (setA M 9 (upd (M.2 9) (M.1 16).toNatClampNeg p1)) 16 ((M.1 16) + 1)) ?_
  exact g_vret hx hR 20 dX11_write_20 ⟨rfl, by rw [← Option.some.inj hr] <;> rfl⟩
def Md_writeNumber_L20 (ρ : Nat) : Nat → MdM → Int32 → Int32 → Int32 → Option (MdM)
  | 0, _, _, _, _ => none
  | n + 1, M, v1_933, v2_934, v3_935 => if v3_935 ≤ 0 then (some (M)) else (Option.bind (Md_write ρ M (48 + ((v1_933 / v3_935) - (v1_933 / v3_935) / 10 * 10))) fun M_937 => lt' (v3_935 / 10) fun v3_938 => Md_writeNumber_L20 ρ n M_937 v1_933 v2_934 v3_938)
def Md_writeNumber_L2 (ρ : Nat) : Nat → MdM → Int32 → Int32 → Option (MdM)
  | 0, _, _, _ => none
  | n + 1, M, v1_929, v2_930 => if ¬ v2_930 = 0 then (if v1_929 / v2_930 ≤ 9 then (Md_writeNumber_L20 ρ FU M v1_929 v2_930 v2_930) else (lt' (v2_930 * 10) fun v2_939 => Md_writeNumber_L2 ρ n M v1_929 v2_939)) else none
def Md_writeNumber (ρ : Nat) (M : MdM) (p1 : Int32) : Option (MdM) := Md_writeNumber_L2 ρ FU M p1 1
set_option maxRecDepth 100000 in
set_option maxHeartbeats 4000000 in
theorem w_Md_writeNumber_L20 {ρ : Nat} (hρ : ρ < 2) {X : Cx} {l : Launch} {g : Gl} (hx : Ok X l g RX11 cX11_writeNumber 4 md_Md_writeNumber.rm) {σ : Hp} {T : Nat} {ow : Nat → Option Nat} {r : MdM} (hR : Ret X (rs none (putMd σ T ow ρ r)) 0 0 (none)) : ∀ (n : Nat) (M : MdM) (v1_933 v2_934 v3_935 : Int32), Md_writeNumber_L20 ρ n M v1_933 v2_934 v3_935 = some r → G X (putMd σ T ow ρ M) 0 0 20 [(0, .ref T), (1, .int v1_933), (2, .int v2_934), (3, .int v3_935)] [] := by
  intro n
  induction n with
  | zero =>
    intro M v1_933 v2_934 v3_935 hr
    rw [Md_writeNumber_L20] at hr
    cases hr
  | succ n ih =>
    intro M v1_933 v2_934 v3_935 hr
    rw [Md_writeNumber_L20] at hr
    refine g_iload_n hx 20 (i := 3) 3 dX11_writeNumber_20 rfl rfl ?_
    refine g_if_le hx 21 45 dX11_writeNumber_21 (by decide) (fun hc_936 => ?_) (fun hc_936 => ?_)
    · have hr := (if_pos hc_936).symm.trans hr
      exact g_vret hx hR 45 dX11_writeNumber_45 ⟨rfl, by rw [← Option.some.inj hr] <;> rfl⟩
    · have hr := (if_neg hc_936).symm.trans hr
      refine g_aload_n hx 24 (i := 0) 0 dX11_writeNumber_24 rfl rfl ?_
      refine g_bipush hx 25 (48) dX11_writeNumber_25 rfl ?_
      refine g_iload_n hx 27 (i := 1) 1 dX11_writeNumber_27 rfl rfl ?_
      refine g_iload_n hx 28 (i := 3) 3 dX11_writeNumber_28 rfl rfl ?_
      refine g_idiv hx 29 dX11_writeNumber_29 (fun h0 => hc_936 (by rw [h0]; decide)) ?_
      refine g_bipush hx 30 (10) dX11_writeNumber_30 rfl ?_
      refine g_irem hx 32 dX11_writeNumber_32 (by decide) ?_
      refine g_iadd hx 33 dX11_writeNumber_33 ?_
      obtain ⟨M_937, eM_937, hr⟩ := bind_e hr
      refine g_callVv hx (c_Md_write hρ l g σ T ow M (48 + ((v1_933 / v3_935) - (v1_933 / v3_935) / 10 * 10)) eM_937) lk_X11_302 ar_Md_write (pM_o σ T ow ρ M) (T := TX11) (N := 30) rfl (As := [.int (48 + ((v1_933 / v3_935) - (v1_933 / v3_935) / 10 * 10))]) (rest := []) rfl (Nat.le_of_ble_eq_true rfl) ⟨Nat.le_of_ble_eq_true rfl, Nat.le_of_ble_eq_true rfl⟩ ⟨rfl, rfl⟩ ⟨Nat.zero_le _, Nat.zero_le _⟩ dX11_writeNumber_34 ?_
      refine g_iload_n hx 37 (i := 3) 3 dX11_writeNumber_37 rfl rfl ?_
      refine g_bipush hx 38 (10) dX11_writeNumber_38 rfl ?_
      refine g_idiv hx 40 dX11_writeNumber_40 (by decide) ?_
      obtain ⟨v3_938, ev3_938, hr⟩ := lt'_e hr
      refine g_nmi ev3_938 ?_
      refine g_istore_n hx 41 (i := 3) [(3, .int v3_938), (0, .ref T), (1, .int v1_933), (2, .int v2_934)] dX11_writeNumber_41 rfl (by decide) rfl ?_
      refine g_goto hx 42 20 dX11_writeNumber_42 (by decide) ?_
      refine g_ls [1, 2, 3, 0] [(0, .ref T), (1, .int v1_933), (2, .int v2_934), (3, .int v3_938)] rfl ?_
      exact ih M_937 v1_933 v2_934 v3_938 hr
set_option maxRecDepth 100000 in
set_option maxHeartbeats 4000000 in
theorem w_Md_writeNumber_L2 {ρ : Nat} (hρ : ρ < 2) {X : Cx} {l : Launch} {g : Gl} (hx : Ok X l g RX11 cX11_writeNumber 4 md_Md_writeNumber.rm) {σ : Hp} {T : Nat} {ow : Nat → Option Nat} {r : MdM} (hR : Ret X (rs none (putMd σ T ow ρ r)) 0 0 (none)) : ∀ (n : Nat) (M : MdM) (v1_929 v2_930 : Int32), Md_writeNumber_L2 ρ n M v1_929 v2_930 = some r → G X (putMd σ T ow ρ M) 0 0 2 [(0, .ref T), (1, .int v1_929), (2, .int v2_930)] [] := by
  intro n
  induction n with
  | zero =>
    intro M v1_929 v2_930 hr
    rw [Md_writeNumber_L2] at hr
    cases hr
  | succ n ih =>
    intro M v1_929 v2_930 hr
    rw [Md_writeNumber_L2] at hr
    refine g_iload_n hx 2 (i := 1) 1 dX11_writeNumber_2 rfl rfl ?_
    refine g_iload_n hx 3 (i := 2) 2 dX11_writeNumber_3 rfl rfl ?_
    obtain ⟨hz_931, hr⟩ := ob hr
    refine g_idiv hx 4 dX11_writeNumber_4 hz_931 ?_
    refine g_bipush hx 5 (9) dX11_writeNumber_5 rfl ?_
    refine g_icmp_le hx 7 18 dX11_writeNumber_7 (by decide) (fun hc_932 => ?_) (fun hc_932 => ?_)
    · have hr := (if_pos hc_932).symm.trans hr
      refine g_iload_n hx 18 (i := 2) 2 dX11_writeNumber_18 rfl rfl ?_
      refine g_istore_n hx 19 (i := 3) [(3, .int v2_930), (0, .ref T), (1, .int v1_929), (2, .int v2_930)] dX11_writeNumber_19 rfl (by decide) rfl ?_
      refine g_ls [1, 2, 3, 0] [(0, .ref T), (1, .int v1_929), (2, .int v2_930), (3, .int v2_930)] rfl ?_
      exact w_Md_writeNumber_L20 hρ hx hR FU M v1_929 v2_930 v2_930 hr
    · have hr := (if_neg hc_932).symm.trans hr
      refine g_iload_n hx 10 (i := 2) 2 dX11_writeNumber_10 rfl rfl ?_
      refine g_bipush hx 11 (10) dX11_writeNumber_11 rfl ?_
      refine g_imul hx 13 dX11_writeNumber_13 ?_
      obtain ⟨v2_939, ev2_939, hr⟩ := lt'_e hr
      refine g_nmi ev2_939 ?_
      refine g_istore_n hx 14 (i := 2) [(2, .int v2_939), (0, .ref T), (1, .int v1_929)] dX11_writeNumber_14 rfl (by decide) rfl ?_
      refine g_goto hx 15 2 dX11_writeNumber_15 (by decide) ?_
      refine g_ls [1, 2, 0] [(0, .ref T), (1, .int v1_929), (2, .int v2_939)] rfl ?_
      exact ih M v1_929 v2_939 hr
set_option maxRecDepth 100000 in
set_option maxHeartbeats 4000000 in
theorem c_Md_writeNumber {ρ : Nat} (hρ : ρ < 2) (l : Launch) (g : Gl) (σ : Hp) (T : Nat) (ow : Nat → Option Nat) (M : MdM) (p1 : Int32) {r : MdM} (hr : Md_writeNumber ρ M p1 = some r) : MG l g md_Md_writeNumber [.ref T, .int p1] (putMd σ T ow ρ M) (rs none (putMd σ T ow ρ r)) := by
  refine MG.intro (by decide +kernel) (Nat.le_of_ble_eq_true rfl) (fun X hx hR _ => ?_)
  unfold Md_writeNumber at hr
  refine g_ls [0, 1] [(0, .ref T), (1, .int p1)] rfl ?_
  refine g_iconst hx 0 (1) dX11_writeNumber_0 rfl ?_
  refine g_istore_n hx 1 (i := 2) [(2, .int 1), (0, .ref T), (1, .int p1)] dX11_writeNumber_1 rfl (by decide) rfl ?_
  refine g_ls [1, 2, 0] [(0, .ref T), (1, .int p1), (2, .int 1)] rfl ?_
  exact w_Md_writeNumber_L2 hρ hx hR FU M p1 1 hr
def Md_format_L71 (ρ : Nat) : Nat → MdM → Int32 → Option (Int32 × MdM)
  | 0, _, _ => none
  | n + 1, M, v1_944 => if (M.2 ρ) (7 : Int32).toNatClampNeg ≤ v1_944 then (some ((M.1 16, M))) else (if v1_944 ≤ 0 then (if inB (169 + v1_944) 257 then (Option.bind (Md_of ρ M ((M.2 ρ) (169 + v1_944).toNatClampNeg) 0) fun q_949 => Option.bind (Md_writeNumber ρ M q_949) fun M_950 => Md_format_L71 ρ n M_950 (v1_944 + 1)) else none) else (Option.bind (Md_write ρ M 32) fun M_951 => if inB (169 + v1_944) 257 then (Option.bind (Md_of ρ M_951 ((M_951.2 ρ) (169 + v1_944).toNatClampNeg) 0) fun q_953 => Option.bind (Md_writeNumber ρ M_951 q_953) fun M_954 => Md_format_L71 ρ n M_954 (v1_944 + 1)) else none))
def Md_format_L12 (ρ : Nat) : Nat → MdM → Int32 → Option (Int32 × MdM)
  | 0, _, _ => none
  | n + 1, M, v1_940 => if (M.2 ρ) (6 : Int32).toNatClampNeg ≤ v1_940 then (Option.bind (Md_write ρ M 124) fun M_943 => Md_format_L71 ρ FU M_943 0) else (if v1_940 ≤ 0 then (Option.bind (Md_markAt ρ M v1_940) fun q_956 => Option.bind (Md_writeNumber ρ M q_956) fun M_957 => Md_format_L12 ρ n M_957 (v1_940 + 1)) else (Option.bind (Md_isWrong ρ M (v1_940 - 1)) fun q_958 => if q_958 = 0 then (Option.bind (Md_write ρ M 32) fun M_960 => Option.bind (Md_markAt ρ M_960 v1_940) fun q_961 => Option.bind (Md_writeNumber ρ M_960 q_961) fun M_962 => Md_format_L12 ρ n M_962 (v1_940 + 1)) else (Option.bind (Md_write ρ M 33) fun M_963 => Option.bind (Md_markAt ρ M_963 v1_940) fun q_964 => Option.bind (Md_writeNumber ρ M_963 q_964) fun M_965 => Md_format_L12 ρ n M_965 (v1_940 + 1))))
def Md_format (ρ : Nat) (M : MdM) : Option (Int32 × MdM) := Md_format_L12 ρ FU (setF (setF M 9 0) 16 0) 0
set_option maxRecDepth 100000 in
set_option maxHeartbeats 4000000 in
theorem w_Md_format_L71 {ρ : Nat} (hρ : ρ < 2) {X : Cx} {l : Launch} {g : Gl} (hx : Ok X l g RX11 cX11_format 2 md_Md_format.rm) {σ : Hp} {T : Nat} {ow : Nat → Option Nat} {r : Int32 × MdM} (hR : Ret X (rs (some (.int r.1)) (putMd σ T ow ρ r.2)) 0 0 (some .int)) : ∀ (n : Nat) (M : MdM) (v1_944 : Int32), Md_format_L71 ρ n M v1_944 = some r → G X (putMd σ T ow ρ M) 0 0 71 [(0, .ref T), (1, .int v1_944)] [] := by
  intro n
  induction n with
  | zero =>
    intro M v1_944 hr
    rw [Md_format_L71] at hr
    cases hr
  | succ n ih =>
    intro M v1_944 hr
    rw [Md_format_L71] at hr
    refine g_iload_n hx 71 (i := 1) 1 dX11_format_71 rfl rfl ?_
    refine g_aload_n hx 72 (i := 0) 0 dX11_format_72 rfl rfl ?_
    refine g_get hx 73 (C := RX11) (T := TX11) (N := 30) 7 (.ref (T + 1 + ρ)) (pM_o σ T ow ρ M) rfl (by decide) rfl fl_X11_31 dX11_format_73 ?_
    refine g_bipush hx 76 (7) dX11_format_76 rfl ?_
    refine g_iald hx 78 (pM_row hρ σ T ow M) (by decide : inB 7 257) dX11_format_78 ?_
    refine g_icmp_ge hx 79 117 dX11_format_79 (by decide) (fun hc_946 => ?_) (fun hc_946 => ?_)
    · have hr := (if_pos hc_946).symm.trans hr
      refine g_aload_n hx 117 (i := 0) 0 dX11_format_117 rfl rfl ?_
      refine g_get hx 118 (C := RX11) (T := TX11) (N := 30) 16 (.int (M.1 16)) (pM_o σ T ow ρ M) rfl (by decide) rfl fl_X11_299 dX11_format_118 ?_
      exact g_iret hx hR 121 dX11_format_121 ⟨by rw [← Option.some.inj hr] <;> rfl, by rw [← Option.some.inj hr] <;> rfl⟩
    · have hr := (if_neg hc_946).symm.trans hr
      refine g_iload_n hx 82 (i := 1) 1 dX11_format_82 rfl rfl ?_
      refine g_if_le hx 83 92 dX11_format_83 (by decide) (fun hc_947 => ?_) (fun hc_947 => ?_)
      · have hr := (if_pos hc_947).symm.trans hr
        refine g_aload_n hx 92 (i := 0) 0 dX11_format_92 rfl rfl ?_
        refine g_aload_n hx 93 (i := 0) 0 dX11_format_93 rfl rfl ?_
        refine g_aload_n hx 94 (i := 0) 0 dX11_format_94 rfl rfl ?_
        refine g_get hx 95 (C := RX11) (T := TX11) (N := 30) 7 (.ref (T + 1 + ρ)) (pM_o σ T ow ρ M) rfl (by decide) rfl fl_X11_31 dX11_format_95 ?_
        refine g_sipush hx 98 (169) dX11_format_98 rfl ?_
        refine g_iload_n hx 101 (i := 1) 1 dX11_format_101 rfl rfl ?_
        refine g_iadd hx 102 dX11_format_102 ?_
        obtain ⟨hb_948, hr⟩ := ob hr
        refine g_iald hx 103 (pM_row hρ σ T ow M) hb_948 dX11_format_103 ?_
        refine g_iconst hx 104 (0) dX11_format_104 rfl ?_
        obtain ⟨q_949, eq_949, hr⟩ := bind_e hr
        refine g_callVr hx (c_Md_of hρ l g σ T ow M ((M.2 ρ) (169 + v1_944).toNatClampNeg) 0 eq_949) lk_X11_95 ar_Md_of (pM_o σ T ow ρ M) (T := TX11) (N := 30) rfl (As := [.int ((M.2 ρ) (169 + v1_944).toNatClampNeg), .int 0]) (rest := [.ref T]) rfl (Nat.le_of_ble_eq_true rfl) ⟨Nat.le_of_ble_eq_true rfl, Nat.le_of_ble_eq_true rfl⟩ ⟨rfl, rfl⟩ ⟨Nat.zero_le _, Nat.zero_le _⟩ dX11_format_105 ?_
        obtain ⟨M_950, eM_950, hr⟩ := bind_e hr
        refine g_callVv hx (c_Md_writeNumber hρ l g σ T ow M q_949 eM_950) lk_X11_305 ar_Md_writeNumber (pM_o σ T ow ρ M) (T := TX11) (N := 30) rfl (As := [.int q_949]) (rest := []) rfl (Nat.le_of_ble_eq_true rfl) ⟨Nat.le_of_ble_eq_true rfl, Nat.le_of_ble_eq_true rfl⟩ ⟨rfl, rfl⟩ ⟨Nat.zero_le _, Nat.zero_le _⟩ dX11_format_108 ?_
        refine g_iinc hx 111 (i := 1) 1 (v1_944 + 1) [(1, .int (v1_944 + 1)), (0, .ref T)] dX11_format_111 rfl rfl (by decide) rfl ?_
        refine g_goto hx 114 71 dX11_format_114 (by decide) ?_
        refine g_ls [1, 0] [(0, .ref T), (1, .int (v1_944 + 1))] rfl ?_
        exact ih M_950 (v1_944 + 1) hr
      · have hr := (if_neg hc_947).symm.trans hr
        refine g_aload_n hx 86 (i := 0) 0 dX11_format_86 rfl rfl ?_
        refine g_bipush hx 87 (32) dX11_format_87 rfl ?_
        obtain ⟨M_951, eM_951, hr⟩ := bind_e hr
        refine g_callVv hx (c_Md_write hρ l g σ T ow M 32 eM_951) lk_X11_302 ar_Md_write (pM_o σ T ow ρ M) (T := TX11) (N := 30) rfl (As := [.int 32]) (rest := []) rfl (Nat.le_of_ble_eq_true rfl) ⟨Nat.le_of_ble_eq_true rfl, Nat.le_of_ble_eq_true rfl⟩ ⟨rfl, rfl⟩ ⟨Nat.zero_le _, Nat.zero_le _⟩ dX11_format_89 ?_
        refine g_aload_n hx 92 (i := 0) 0 dX11_format_92 rfl rfl ?_
        refine g_aload_n hx 93 (i := 0) 0 dX11_format_93 rfl rfl ?_
        refine g_aload_n hx 94 (i := 0) 0 dX11_format_94 rfl rfl ?_
        refine g_get hx 95 (C := RX11) (T := TX11) (N := 30) 7 (.ref (T + 1 + ρ)) (pM_o σ T ow ρ M_951) rfl (by decide) rfl fl_X11_31 dX11_format_95 ?_
        refine g_sipush hx 98 (169) dX11_format_98 rfl ?_
        refine g_iload_n hx 101 (i := 1) 1 dX11_format_101 rfl rfl ?_
        refine g_iadd hx 102 dX11_format_102 ?_
        obtain ⟨hb_952, hr⟩ := ob hr
        refine g_iald hx 103 (pM_row hρ σ T ow M_951) hb_952 dX11_format_103 ?_
        refine g_iconst hx 104 (0) dX11_format_104 rfl ?_
        obtain ⟨q_953, eq_953, hr⟩ := bind_e hr
        refine g_callVr hx (c_Md_of hρ l g σ T ow M_951 ((M_951.2 ρ) (169 + v1_944).toNatClampNeg) 0 eq_953) lk_X11_95 ar_Md_of (pM_o σ T ow ρ M_951) (T := TX11) (N := 30) rfl (As := [.int ((M_951.2 ρ) (169 + v1_944).toNatClampNeg), .int 0]) (rest := [.ref T]) rfl (Nat.le_of_ble_eq_true rfl) ⟨Nat.le_of_ble_eq_true rfl, Nat.le_of_ble_eq_true rfl⟩ ⟨rfl, rfl⟩ ⟨Nat.zero_le _, Nat.zero_le _⟩ dX11_format_105 ?_
        obtain ⟨M_954, eM_954, hr⟩ := bind_e hr
        refine g_callVv hx (c_Md_writeNumber hρ l g σ T ow M_951 q_953 eM_954) lk_X11_305 ar_Md_writeNumber (pM_o σ T ow ρ M_951) (T := TX11) (N := 30) rfl (As := [.int q_953]) (rest := []) rfl (Nat.le_of_ble_eq_true rfl) ⟨Nat.le_of_ble_eq_true rfl, Nat.le_of_ble_eq_true rfl⟩ ⟨rfl, rfl⟩ ⟨Nat.zero_le _, Nat.zero_le _⟩ dX11_format_108 ?_
        refine g_iinc hx 111 (i := 1) 1 (v1_944 + 1) [(1, .int (v1_944 + 1)), (0, .ref T)] dX11_format_111 rfl rfl (by decide) rfl ?_
        refine g_goto hx 114 71 dX11_format_114 (by decide) ?_
        refine g_ls [1, 0] [(0, .ref T), (1, .int (v1_944 + 1))] rfl ?_
        exact ih M_954 (v1_944 + 1) hr
set_option maxRecDepth 100000 in
set_option maxHeartbeats 4000000 in
theorem w_Md_format_L12 {ρ : Nat} (hρ : ρ < 2) {X : Cx} {l : Launch} {g : Gl} (hx : Ok X l g RX11 cX11_format 2 md_Md_format.rm) {σ : Hp} {T : Nat} {ow : Nat → Option Nat} {r : Int32 × MdM} (hR : Ret X (rs (some (.int r.1)) (putMd σ T ow ρ r.2)) 0 0 (some .int)) : ∀ (n : Nat) (M : MdM) (v1_940 : Int32), Md_format_L12 ρ n M v1_940 = some r → G X (putMd σ T ow ρ M) 0 0 12 [(0, .ref T), (1, .int v1_940)] [] := by
  intro n
  induction n with
  | zero =>
    intro M v1_940 hr
    rw [Md_format_L12] at hr
    cases hr
  | succ n ih =>
    intro M v1_940 hr
    rw [Md_format_L12] at hr
    refine g_iload_n hx 12 (i := 1) 1 dX11_format_12 rfl rfl ?_
    refine g_aload_n hx 13 (i := 0) 0 dX11_format_13 rfl rfl ?_
    refine g_get hx 14 (C := RX11) (T := TX11) (N := 30) 7 (.ref (T + 1 + ρ)) (pM_o σ T ow ρ M) rfl (by decide) rfl fl_X11_31 dX11_format_14 ?_
    refine g_bipush hx 17 (6) dX11_format_17 rfl ?_
    refine g_iald hx 19 (pM_row hρ σ T ow M) (by decide : inB 6 257) dX11_format_19 ?_
    refine g_icmp_ge hx 20 63 dX11_format_20 (by decide) (fun hc_942 => ?_) (fun hc_942 => ?_)
    · have hr := (if_pos hc_942).symm.trans hr
      refine g_aload_n hx 63 (i := 0) 0 dX11_format_63 rfl rfl ?_
      refine g_bipush hx 64 (124) dX11_format_64 rfl ?_
      obtain ⟨M_943, eM_943, hr⟩ := bind_e hr
      refine g_callVv hx (c_Md_write hρ l g σ T ow M 124 eM_943) lk_X11_302 ar_Md_write (pM_o σ T ow ρ M) (T := TX11) (N := 30) rfl (As := [.int 124]) (rest := []) rfl (Nat.le_of_ble_eq_true rfl) ⟨Nat.le_of_ble_eq_true rfl, Nat.le_of_ble_eq_true rfl⟩ ⟨rfl, rfl⟩ ⟨Nat.zero_le _, Nat.zero_le _⟩ dX11_format_66 ?_
      refine g_iconst hx 69 (0) dX11_format_69 rfl ?_
      refine g_istore_n hx 70 (i := 1) [(1, .int 0), (0, .ref T)] dX11_format_70 rfl (by decide) rfl ?_
      refine g_ls [1, 0] [(0, .ref T), (1, .int 0)] rfl ?_
      exact w_Md_format_L71 hρ hx hR FU M_943 0 hr
    · have hr := (if_neg hc_942).symm.trans hr
      refine g_iload_n hx 23 (i := 1) 1 dX11_format_23 rfl rfl ?_
      refine g_if_le hx 24 48 dX11_format_24 (by decide) (fun hc_955 => ?_) (fun hc_955 => ?_)
      · have hr := (if_pos hc_955).symm.trans hr
        refine g_aload_n hx 48 (i := 0) 0 dX11_format_48 rfl rfl ?_
        refine g_aload_n hx 49 (i := 0) 0 dX11_format_49 rfl rfl ?_
        refine g_iload_n hx 50 (i := 1) 1 dX11_format_50 rfl rfl ?_
        obtain ⟨q_956, eq_956, hr⟩ := bind_e hr
        refine g_callVr hx (c_Md_markAt hρ l g σ T ow M v1_940 eq_956) lk_X11_106 ar_Md_markAt (pM_o σ T ow ρ M) (T := TX11) (N := 30) rfl (As := [.int v1_940]) (rest := [.ref T]) rfl (Nat.le_of_ble_eq_true rfl) ⟨Nat.le_of_ble_eq_true rfl, Nat.le_of_ble_eq_true rfl⟩ ⟨rfl, rfl⟩ ⟨Nat.zero_le _, Nat.zero_le _⟩ dX11_format_51 ?_
        obtain ⟨M_957, eM_957, hr⟩ := bind_e hr
        refine g_callVv hx (c_Md_writeNumber hρ l g σ T ow M q_956 eM_957) lk_X11_305 ar_Md_writeNumber (pM_o σ T ow ρ M) (T := TX11) (N := 30) rfl (As := [.int q_956]) (rest := []) rfl (Nat.le_of_ble_eq_true rfl) ⟨Nat.le_of_ble_eq_true rfl, Nat.le_of_ble_eq_true rfl⟩ ⟨rfl, rfl⟩ ⟨Nat.zero_le _, Nat.zero_le _⟩ dX11_format_54 ?_
        refine g_iinc hx 57 (i := 1) 1 (v1_940 + 1) [(1, .int (v1_940 + 1)), (0, .ref T)] dX11_format_57 rfl rfl (by decide) rfl ?_
        refine g_goto hx 60 12 dX11_format_60 (by decide) ?_
        refine g_ls [1, 0] [(0, .ref T), (1, .int (v1_940 + 1))] rfl ?_
        exact ih M_957 (v1_940 + 1) hr
      · have hr := (if_neg hc_955).symm.trans hr
        refine g_aload_n hx 27 (i := 0) 0 dX11_format_27 rfl rfl ?_
        refine g_aload_n hx 28 (i := 0) 0 dX11_format_28 rfl rfl ?_
        refine g_iload_n hx 29 (i := 1) 1 dX11_format_29 rfl rfl ?_
        refine g_iconst hx 30 (1) dX11_format_30 rfl ?_
        refine g_isub hx 31 dX11_format_31 ?_
        obtain ⟨q_958, eq_958, hr⟩ := bind_e hr
        refine g_callVr hx (c_Md_isWrong hρ l g σ T ow M (v1_940 - 1) eq_958) lk_X11_109 ar_Md_isWrong (pM_o σ T ow ρ M) (T := TX11) (N := 30) rfl (As := [.int (v1_940 - 1)]) (rest := [.ref T]) rfl (Nat.le_of_ble_eq_true rfl) ⟨Nat.le_of_ble_eq_true rfl, Nat.le_of_ble_eq_true rfl⟩ ⟨rfl, rfl⟩ ⟨Nat.zero_le _, Nat.zero_le _⟩ dX11_format_32 ?_
        refine g_if_eq hx 35 43 dX11_format_35 (by decide) (fun hc_959 => ?_) (fun hc_959 => ?_)
        · have hr := (if_pos hc_959).symm.trans hr
          refine g_bipush hx 43 (32) dX11_format_43 rfl ?_
          obtain ⟨M_960, eM_960, hr⟩ := bind_e hr
          refine g_callVv hx (c_Md_write hρ l g σ T ow M 32 eM_960) lk_X11_302 ar_Md_write (pM_o σ T ow ρ M) (T := TX11) (N := 30) rfl (As := [.int 32]) (rest := []) rfl (Nat.le_of_ble_eq_true rfl) ⟨Nat.le_of_ble_eq_true rfl, Nat.le_of_ble_eq_true rfl⟩ ⟨rfl, rfl⟩ ⟨Nat.zero_le _, Nat.zero_le _⟩ dX11_format_45 ?_
          refine g_aload_n hx 48 (i := 0) 0 dX11_format_48 rfl rfl ?_
          refine g_aload_n hx 49 (i := 0) 0 dX11_format_49 rfl rfl ?_
          refine g_iload_n hx 50 (i := 1) 1 dX11_format_50 rfl rfl ?_
          obtain ⟨q_961, eq_961, hr⟩ := bind_e hr
          refine g_callVr hx (c_Md_markAt hρ l g σ T ow M_960 v1_940 eq_961) lk_X11_106 ar_Md_markAt (pM_o σ T ow ρ M_960) (T := TX11) (N := 30) rfl (As := [.int v1_940]) (rest := [.ref T]) rfl (Nat.le_of_ble_eq_true rfl) ⟨Nat.le_of_ble_eq_true rfl, Nat.le_of_ble_eq_true rfl⟩ ⟨rfl, rfl⟩ ⟨Nat.zero_le _, Nat.zero_le _⟩ dX11_format_51 ?_
          obtain ⟨M_962, eM_962, hr⟩ := bind_e hr
          refine g_callVv hx (c_Md_writeNumber hρ l g σ T ow M_960 q_961 eM_962) lk_X11_305 ar_Md_writeNumber (pM_o σ T ow ρ M_960) (T := TX11) (N := 30) rfl (As := [.int q_961]) (rest := []) rfl (Nat.le_of_ble_eq_true rfl) ⟨Nat.le_of_ble_eq_true rfl, Nat.le_of_ble_eq_true rfl⟩ ⟨rfl, rfl⟩ ⟨Nat.zero_le _, Nat.zero_le _⟩ dX11_format_54 ?_
          refine g_iinc hx 57 (i := 1) 1 (v1_940 + 1) [(1, .int (v1_940 + 1)), (0, .ref T)] dX11_format_57 rfl rfl (by decide) rfl ?_
          refine g_goto hx 60 12 dX11_format_60 (by decide) ?_
          refine g_ls [1, 0] [(0, .ref T), (1, .int (v1_940 + 1))] rfl ?_
          exact ih M_962 (v1_940 + 1) hr
        · have hr := (if_neg hc_959).symm.trans hr
          refine g_bipush hx 38 (33) dX11_format_38 rfl ?_
          refine g_goto hx 40 45 dX11_format_40 (by decide) ?_
          obtain ⟨M_963, eM_963, hr⟩ := bind_e hr
          refine g_callVv hx (c_Md_write hρ l g σ T ow M 33 eM_963) lk_X11_302 ar_Md_write (pM_o σ T ow ρ M) (T := TX11) (N := 30) rfl (As := [.int 33]) (rest := []) rfl (Nat.le_of_ble_eq_true rfl) ⟨Nat.le_of_ble_eq_true rfl, Nat.le_of_ble_eq_true rfl⟩ ⟨rfl, rfl⟩ ⟨Nat.zero_le _, Nat.zero_le _⟩ dX11_format_45 ?_
          refine g_aload_n hx 48 (i := 0) 0 dX11_format_48 rfl rfl ?_
          refine g_aload_n hx 49 (i := 0) 0 dX11_format_49 rfl rfl ?_
          refine g_iload_n hx 50 (i := 1) 1 dX11_format_50 rfl rfl ?_
          obtain ⟨q_964, eq_964, hr⟩ := bind_e hr
          refine g_callVr hx (c_Md_markAt hρ l g σ T ow M_963 v1_940 eq_964) lk_X11_106 ar_Md_markAt (pM_o σ T ow ρ M_963) (T := TX11) (N := 30) rfl (As := [.int v1_940]) (rest := [.ref T]) rfl (Nat.le_of_ble_eq_true rfl) ⟨Nat.le_of_ble_eq_true rfl, Nat.le_of_ble_eq_true rfl⟩ ⟨rfl, rfl⟩ ⟨Nat.zero_le _, Nat.zero_le _⟩ dX11_format_51 ?_
          obtain ⟨M_965, eM_965, hr⟩ := bind_e hr
          refine g_callVv hx (c_Md_writeNumber hρ l g σ T ow M_963 q_964 eM_965) lk_X11_305 ar_Md_writeNumber (pM_o σ T ow ρ M_963) (T := TX11) (N := 30) rfl (As := [.int q_964]) (rest := []) rfl (Nat.le_of_ble_eq_true rfl) ⟨Nat.le_of_ble_eq_true rfl, Nat.le_of_ble_eq_true rfl⟩ ⟨rfl, rfl⟩ ⟨Nat.zero_le _, Nat.zero_le _⟩ dX11_format_54 ?_
          refine g_iinc hx 57 (i := 1) 1 (v1_940 + 1) [(1, .int (v1_940 + 1)), (0, .ref T)] dX11_format_57 rfl rfl (by decide) rfl ?_
          refine g_goto hx 60 12 dX11_format_60 (by decide) ?_
          refine g_ls [1, 0] [(0, .ref T), (1, .int (v1_940 + 1))] rfl ?_
          exact ih M_965 (v1_940 + 1) hr
set_option maxRecDepth 100000 in
set_option maxHeartbeats 4000000 in
theorem c_Md_format {ρ : Nat} (hρ : ρ < 2) (l : Launch) (g : Gl) (σ : Hp) (T : Nat) (ow : Nat → Option Nat) (M : MdM) {r : Int32 × MdM} (hr : Md_format ρ M = some r) : MG l g md_Md_format [.ref T] (putMd σ T ow ρ M) (rs (some (.int r.1)) (putMd σ T ow ρ r.2)) := by
  refine MG.intro (by decide +kernel) (Nat.le_of_ble_eq_true rfl) (fun X hx hR _ => ?_)
  unfold Md_format at hr
  refine g_ls [0] [(0, .ref T)] rfl ?_
  refine g_aload_n hx 0 (i := 0) 0 dX11_format_0 rfl rfl ?_
  refine g_iconst hx 1 (0) dX11_format_1 rfl ?_
  refine g_put hx 2 (C := RX11) (T := TX11) (N := 30) 9 .int _ (pM_o σ T ow ρ M) rfl (by decide) fl_X11_81 rfl rfl rfl rfl (Nat.le_of_ble_eq_true rfl) rfl dX11_format_2 ?_
  refine G.heap (pM_f σ T ow ρ M 9 0) ?_
  refine g_aload_n hx 5 (i := 0) 0 dX11_format_5 rfl rfl ?_
  refine g_iconst hx 6 (0) dX11_format_6 rfl ?_
  refine g_put hx 7 (C := RX11) (T := TX11) (N := 30) 16 .int _ (pM_o σ T ow ρ (setF M 9 0)) rfl (by decide) fl_X11_299 rfl rfl rfl rfl (Nat.le_of_ble_eq_true rfl) rfl dX11_format_7 ?_
  refine G.heap (pM_f σ T ow ρ (setF M 9 0) 16 0) ?_
  refine g_iconst hx 10 (0) dX11_format_10 rfl ?_
  refine g_istore_n hx 11 (i := 1) [(1, .int 0), (0, .ref T)] dX11_format_11 rfl (by decide) rfl ?_
  refine g_ls [1, 0] [(0, .ref T), (1, .int 0)] rfl ?_
  exact w_Md_format_L12 hρ hx hR FU (setF (setF M 9 0) 16 0) 0 hr
def Md_formattedByte (ρ : Nat) (M : MdM) (p1 : Int32) : Option (Int32 × MdM) := if Md_inRange p1 0 ((M.1 16) - 1) = 0 then (some (((-1), setF M 9 0))) else (if inB p1 200 then (some (((M.2 9) p1.toNatClampNeg, setF M 9 0))) else none)
set_option maxRecDepth 100000 in
set_option maxHeartbeats 4000000 in
theorem c_Md_formattedByte {ρ : Nat} (hρ : ρ < 2) (l : Launch) (g : Gl) (σ : Hp) (T : Nat) (ow : Nat → Option Nat) (M : MdM) (p1 : Int32) {r : Int32 × MdM} (hr : Md_formattedByte ρ M p1 = some r) : MG l g md_Md_formattedByte [.ref T, .int p1] (putMd σ T ow ρ M) (rs (some (.int r.1)) (putMd σ T ow ρ r.2)) := by
  refine MG.intro (by decide +kernel) (Nat.le_of_ble_eq_true rfl) (fun X hx hR _ => ?_)
  unfold Md_formattedByte at hr
  refine g_ls [0, 1] [(0, .ref T), (1, .int p1)] rfl ?_
  refine g_aload_n hx 0 (i := 0) 0 dX11_formattedByte_0 rfl rfl ?_
  refine g_iconst hx 1 (0) dX11_formattedByte_1 rfl ?_
  refine g_put hx 2 (C := RX11) (T := TX11) (N := 30) 9 .int _ (pM_o σ T ow ρ M) rfl (by decide) fl_X11_81 rfl rfl rfl rfl (Nat.le_of_ble_eq_true rfl) rfl dX11_formattedByte_2 ?_
  refine G.heap (pM_f σ T ow ρ M 9 0) ?_
  refine g_iload_n hx 5 (i := 1) 1 dX11_formattedByte_5 rfl rfl ?_
  refine g_iconst hx 6 (0) dX11_formattedByte_6 rfl ?_
  refine g_aload_n hx 7 (i := 0) 0 dX11_formattedByte_7 rfl rfl ?_
  refine g_get hx 8 (C := RX11) (T := TX11) (N := 30) 16 (.int (M.1 16)) (pM_o σ T ow ρ (setF M 9 0)) rfl (by decide) rfl fl_X11_299 dX11_formattedByte_8 ?_
  refine g_iconst hx 11 (1) dX11_formattedByte_11 rfl ?_
  refine g_isub hx 12 dX11_formattedByte_12 ?_
  refine g_callSr hx (c_Md_inRange l g _ p1 0 ((M.1 16) - 1) rfl) lk_X11_91 ar_Md_inRange (As := [.int p1, .int 0, .int ((M.1 16) - 1)]) (rest := []) rfl (Nat.le_of_ble_eq_true rfl) ⟨Nat.le_of_ble_eq_true rfl, Nat.le_of_ble_eq_true rfl⟩ ⟨rfl, rfl⟩ ⟨Nat.zero_le _, Nat.zero_le _⟩ dX11_formattedByte_13 ?_
  refine g_if_eq hx 16 28 dX11_formattedByte_16 (by decide) (fun hc_966 => ?_) (fun hc_966 => ?_)
  · have hr := (if_pos hc_966).symm.trans hr
    refine g_iconst hx 28 (-1) dX11_formattedByte_28 rfl ?_
    exact g_iret hx hR 29 dX11_formattedByte_29 ⟨by rw [← Option.some.inj hr] <;> rfl, by rw [← Option.some.inj hr] <;> rfl⟩
  · have hr := (if_neg hc_966).symm.trans hr
    refine g_aload_n hx 19 (i := 0) 0 dX11_formattedByte_19 rfl rfl ?_
    refine g_get hx 20 (C := RX11) (T := TX11) (N := 30) 15 (.ref (T + 10)) (pM_o σ T ow ρ (setF M 9 0)) rfl (by decide) rfl fl_X11_40 dX11_formattedByte_20 ?_
    refine g_iload_n hx 23 (i := 1) 1 dX11_formattedByte_23 rfl rfl ?_
    obtain ⟨hb_967, hr⟩ := ob hr
    refine g_iald hx 24 (pM_a σ T ow ρ (setF M 9 0) 9 (by decide)) hb_967 dX11_formattedByte_24 ?_
    refine g_goto hx 25 29 dX11_formattedByte_25 (by decide) ?_
    exact g_iret hx hR 29 dX11_formattedByte_29 ⟨by rw [← Option.some.inj hr] <;> rfl, by rw [← Option.some.inj hr] <;> rfl⟩
def Md_undoCount (ρ : Nat) (M : MdM) : Int32 × MdM := (M.1 8, setF M 9 0)
set_option maxRecDepth 100000 in
set_option maxHeartbeats 4000000 in
theorem c_Md_undoCount {ρ : Nat} (hρ : ρ < 2) (l : Launch) (g : Gl) (σ : Hp) (T : Nat) (ow : Nat → Option Nat) (M : MdM) {r : Int32 × MdM} (hr : Md_undoCount ρ M = r) : MG l g md_Md_undoCount [.ref T] (putMd σ T ow ρ M) (rs (some (.int r.1)) (putMd σ T ow ρ r.2)) := by
  refine MG.intro (by decide +kernel) (Nat.le_of_ble_eq_true rfl) (fun X hx hR _ => ?_)
  unfold Md_undoCount at hr
  refine g_ls [0] [(0, .ref T)] rfl ?_
  refine g_aload_n hx 0 (i := 0) 0 dX11_undoCount_0 rfl rfl ?_
  refine g_iconst hx 1 (0) dX11_undoCount_1 rfl ?_
  refine g_put hx 2 (C := RX11) (T := TX11) (N := 30) 9 .int _ (pM_o σ T ow ρ M) rfl (by decide) fl_X11_81 rfl rfl rfl rfl (Nat.le_of_ble_eq_true rfl) rfl dX11_undoCount_2 ?_
  refine G.heap (pM_f σ T ow ρ M 9 0) ?_
  refine g_aload_n hx 5 (i := 0) 0 dX11_undoCount_5 rfl rfl ?_
  refine g_get hx 6 (C := RX11) (T := TX11) (N := 30) 8 (.int (M.1 8)) (pM_o σ T ow ρ (setF M 9 0)) rfl (by decide) rfl fl_X11_263 dX11_undoCount_6 ?_
  exact g_iret hx hR 9 dX11_undoCount_9 ⟨by rw [← hr] <;> rfl, by rw [← hr] <;> rfl⟩
def Md_undo (ρ : Nat) (M : MdM) : Option (Int32 × MdM) := if M.1 8 = 0 then (some (((-1), setF M 9 0))) else (Option.bind (Md_copy (setA (setF (setF M 9 0) 8 ((M.1 8) - 1)) 6 (upd (M.2 6) (2 : Int32).toNatClampNeg (((M.2 6) (2 : Int32).toNatClampNeg) + 1))) 5 ((M.1 8) - 1) 0 0) fun M_971 => some ((M_971.1 8, M_971)))
set_option maxRecDepth 100000 in
set_option maxHeartbeats 4000000 in
theorem c_Md_undo {ρ : Nat} (hρ : ρ < 2) (l : Launch) (g : Gl) (σ : Hp) (T : Nat) (ow : Nat → Option Nat) (M : MdM) {r : Int32 × MdM} (hr : Md_undo ρ M = some r) : MG l g md_Md_undo [.ref T] (putMd σ T ow ρ M) (rs (some (.int r.1)) (putMd σ T ow ρ r.2)) := by
  refine MG.intro (by decide +kernel) (Nat.le_of_ble_eq_true rfl) (fun X hx hR _ => ?_)
  unfold Md_undo at hr
  refine g_ls [0] [(0, .ref T)] rfl ?_
  refine g_aload_n hx 0 (i := 0) 0 dX11_undo_0 rfl rfl ?_
  refine g_iconst hx 1 (0) dX11_undo_1 rfl ?_
  refine g_put hx 2 (C := RX11) (T := TX11) (N := 30) 9 .int _ (pM_o σ T ow ρ M) rfl (by decide) fl_X11_81 rfl rfl rfl rfl (Nat.le_of_ble_eq_true rfl) rfl dX11_undo_2 ?_
  refine G.heap (pM_f σ T ow ρ M 9 0) ?_
  refine g_aload_n hx 5 (i := 0) 0 dX11_undo_5 rfl rfl ?_
  refine g_get hx 6 (C := RX11) (T := TX11) (N := 30) 8 (.int (M.1 8)) (pM_o σ T ow ρ (setF M 9 0)) rfl (by decide) rfl fl_X11_263 dX11_undo_6 ?_
  refine g_if_ne hx 9 14 dX11_undo_9 (by decide) (fun hc_968 => ?_) (fun hc_968 => ?_)
  · have hr := (if_neg hc_968).symm.trans hr
    refine g_aload_n hx 14 (i := 0) 0 dX11_undo_14 rfl rfl ?_
    refine g_dup hx 15 dX11_undo_15 rfl ?_
    refine g_get hx 16 (C := RX11) (T := TX11) (N := 30) 8 (.int (M.1 8)) (pM_o σ T ow ρ (setF M 9 0)) rfl (by decide) rfl fl_X11_263 dX11_undo_16 ?_
    refine g_iconst hx 19 (1) dX11_undo_19 rfl ?_
    refine g_isub hx 20 dX11_undo_20 ?_
    refine g_put hx 21 (C := RX11) (T := TX11) (N := 30) 8 .int _ (pM_o σ T ow ρ (setF M 9 0)) rfl (by decide) fl_X11_263 rfl rfl rfl rfl (Nat.le_of_ble_eq_true rfl) rfl dX11_undo_21 ?_
    refine G.heap (pM_f σ T ow ρ (setF M 9 0) 8 ((M.1 8) - 1)) ?_
    refine g_aload_n hx 24 (i := 0) 0 dX11_undo_24 rfl rfl ?_
    refine g_get hx 25 (C := RX11) (T := TX11) (N := 30) 6 (.ref (T + 7)) (pM_o σ T ow ρ (setF (setF M 9 0) 8 ((M.1 8) - 1))) rfl (by decide) rfl fl_X11_28 dX11_undo_25 ?_
    refine g_iconst hx 28 (2) dX11_undo_28 rfl ?_
    refine g_dup2 hx 29 dX11_undo_29 rfl rfl ?_
    refine g_iald hx 30 (pM_a σ T ow ρ (setF (setF M 9 0) 8 ((M.1 8) - 1)) 6 (by decide)) (by decide : inB 2 3) dX11_undo_30 ?_
    refine g_iconst hx 31 (1) dX11_undo_31 rfl ?_
    refine g_iadd hx 32 dX11_undo_32 ?_
    refine g_iast hx 33 (pM_a σ T ow ρ (setF (setF M 9 0) 8 ((M.1 8) - 1)) 6 (by decide)) (by decide : inB 2 3) dX11_undo_33 ?_
    refine G.heap (pM_s σ T ow ρ (setF (setF M 9 0) 8 ((M.1 8) - 1)) 6 (by decide) (upd (M.2 6) (2 : Int32).toNatClampNeg (((M.2 6) (2 : Int32).toNatClampNeg) + 1))) ?_
    refine g_aload_n hx 34 (i := 0) 0 dX11_undo_34 rfl rfl ?_
    refine g_get hx 35 (C := RX11) (T := TX11) (N := 30) 5 (.ref (T + 6)) (pM_o σ T ow ρ (setA (setF (setF M 9 0) 8 ((M.1 8) - 1)) 6 (upd (M.2 6) (2 : Int32).toNatClampNeg (((M.2 6) (2 : Int32).toNatClampNeg) + 1)))) rfl (by decide) rfl fl_X11_25 dX11_undo_35 ?_
    refine g_aload_n hx 38 (i := 0) 0 dX11_undo_38 rfl rfl ?_
    refine g_get hx 39 (C := RX11) (T := TX11) (N := 30) 8 (.int ((M.1 8) - 1)) (pM_o σ T ow ρ (setA (setF (setF M 9 0) 8 ((M.1 8) - 1)) 6 (upd (M.2 6) (2 : Int32).toNatClampNeg (((M.2 6) (2 : Int32).toNatClampNeg) + 1)))) rfl (by decide) rfl fl_X11_263 dX11_undo_39 ?_
    refine g_aload_n hx 42 (i := 0) 0 dX11_undo_42 rfl rfl ?_
    refine g_get hx 43 (C := RX11) (T := TX11) (N := 30) 0 (.ref (T + 1)) (pM_o σ T ow ρ (setA (setF (setF M 9 0) 8 ((M.1 8) - 1)) 6 (upd (M.2 6) (2 : Int32).toNatClampNeg (((M.2 6) (2 : Int32).toNatClampNeg) + 1)))) rfl (by decide) rfl fl_X11_9 dX11_undo_43 ?_
    refine g_iconst hx 46 (0) dX11_undo_46 rfl ?_
    obtain ⟨M_971, eM_971, hr⟩ := bind_e hr
    refine g_callSv hx (c_Md_copy l g σ T ow ρ (setA (setF (setF M 9 0) 8 ((M.1 8) - 1)) 6 (upd (M.2 6) (2 : Int32).toNatClampNeg (((M.2 6) (2 : Int32).toNatClampNeg) + 1))) 5 0 (by decide) (by decide) ((M.1 8) - 1) 0 eM_971) lk_X11_238 ar_Md_copy (As := [.ref (T + 6), .int ((M.1 8) - 1), .ref (T + 1), .int 0]) (rest := []) rfl (Nat.le_of_ble_eq_true rfl) ⟨Nat.le_of_ble_eq_true rfl, Nat.le_of_ble_eq_true rfl⟩ ⟨rfl, rfl⟩ ⟨Nat.zero_le _, Nat.zero_le _⟩ dX11_undo_47 ?_
    refine g_aload_n hx 50 (i := 0) 0 dX11_undo_50 rfl rfl ?_
    refine g_get hx 51 (C := RX11) (T := TX11) (N := 30) 8 (.int (M_971.1 8)) (pM_o σ T ow ρ M_971) rfl (by decide) rfl fl_X11_263 dX11_undo_51 ?_
    exact g_iret hx hR 54 dX11_undo_54 ⟨by rw [← Option.some.inj hr] <;> rfl, by rw [← Option.some.inj hr] <;> rfl⟩
  · have hr := (if_pos hc_968).symm.trans hr
    refine g_iconst hx 12 (-1) dX11_undo_12 rfl ?_
    exact g_iret hx hR 13 dX11_undo_13 ⟨by rw [← Option.some.inj hr] <;> rfl, by rw [← Option.some.inj hr] <;> rfl⟩
def Md_saveSnapshot (ρ : Nat) (M : MdM) : Option (MdM) := Option.bind (Md_copy (setF M 9 0) 0 0 4 0) fun M_972 => some (setF M_972 10 1)
set_option maxRecDepth 100000 in
set_option maxHeartbeats 4000000 in
theorem c_Md_saveSnapshot {ρ : Nat} (hρ : ρ < 2) (l : Launch) (g : Gl) (σ : Hp) (T : Nat) (ow : Nat → Option Nat) (M : MdM) {r : MdM} (hr : Md_saveSnapshot ρ M = some r) : MG l g md_Md_saveSnapshot [.ref T] (putMd σ T ow ρ M) (rs none (putMd σ T ow ρ r)) := by
  refine MG.intro (by decide +kernel) (Nat.le_of_ble_eq_true rfl) (fun X hx hR _ => ?_)
  unfold Md_saveSnapshot at hr
  refine g_ls [0] [(0, .ref T)] rfl ?_
  refine g_aload_n hx 0 (i := 0) 0 dX11_saveSnapshot_0 rfl rfl ?_
  refine g_iconst hx 1 (0) dX11_saveSnapshot_1 rfl ?_
  refine g_put hx 2 (C := RX11) (T := TX11) (N := 30) 9 .int _ (pM_o σ T ow ρ M) rfl (by decide) fl_X11_81 rfl rfl rfl rfl (Nat.le_of_ble_eq_true rfl) rfl dX11_saveSnapshot_2 ?_
  refine G.heap (pM_f σ T ow ρ M 9 0) ?_
  refine g_aload_n hx 5 (i := 0) 0 dX11_saveSnapshot_5 rfl rfl ?_
  refine g_get hx 6 (C := RX11) (T := TX11) (N := 30) 0 (.ref (T + 1)) (pM_o σ T ow ρ (setF M 9 0)) rfl (by decide) rfl fl_X11_9 dX11_saveSnapshot_6 ?_
  refine g_iconst hx 9 (0) dX11_saveSnapshot_9 rfl ?_
  refine g_aload_n hx 10 (i := 0) 0 dX11_saveSnapshot_10 rfl rfl ?_
  refine g_get hx 11 (C := RX11) (T := TX11) (N := 30) 4 (.ref (T + 5)) (pM_o σ T ow ρ (setF M 9 0)) rfl (by decide) rfl fl_X11_22 dX11_saveSnapshot_11 ?_
  refine g_iconst hx 14 (0) dX11_saveSnapshot_14 rfl ?_
  obtain ⟨M_972, eM_972, hr⟩ := bind_e hr
  refine g_callSv hx (c_Md_copy l g σ T ow ρ (setF M 9 0) 0 4 (by decide) (by decide) 0 0 eM_972) lk_X11_238 ar_Md_copy (As := [.ref (T + 1), .int 0, .ref (T + 5), .int 0]) (rest := []) rfl (Nat.le_of_ble_eq_true rfl) ⟨Nat.le_of_ble_eq_true rfl, Nat.le_of_ble_eq_true rfl⟩ ⟨rfl, rfl⟩ ⟨Nat.zero_le _, Nat.zero_le _⟩ dX11_saveSnapshot_15 ?_
  refine g_aload_n hx 18 (i := 0) 0 dX11_saveSnapshot_18 rfl rfl ?_
  refine g_iconst hx 19 (1) dX11_saveSnapshot_19 rfl ?_
  refine g_put hx 20 (C := RX11) (T := TX11) (N := 30) 10 .boolean _ (pM_o σ T ow ρ M_972) rfl (by decide) fl_X11_308 rfl rfl rfl rfl (Nat.le_of_ble_eq_true rfl) rfl dX11_saveSnapshot_20 ?_
  refine G.heap (pM_f σ T ow ρ M_972 10 1) ?_
  exact g_vret hx hR 23 dX11_saveSnapshot_23 ⟨rfl, by rw [← Option.some.inj hr] <;> rfl⟩
def Md_restoreSnapshot (ρ : Nat) (M : MdM) : Option (Int32 × MdM) := if M.1 10 = 0 then (some ((0, setF M 9 0))) else (Option.bind (Md_copy (setF M 9 0) 4 0 0 0) fun M_974 => some ((1, setF M_974 8 0)))
set_option maxRecDepth 100000 in
set_option maxHeartbeats 4000000 in
theorem c_Md_restoreSnapshot {ρ : Nat} (hρ : ρ < 2) (l : Launch) (g : Gl) (σ : Hp) (T : Nat) (ow : Nat → Option Nat) (M : MdM) {r : Int32 × MdM} (hr : Md_restoreSnapshot ρ M = some r) : MG l g md_Md_restoreSnapshot [.ref T] (putMd σ T ow ρ M) (rs (some (.int r.1)) (putMd σ T ow ρ r.2)) := by
  refine MG.intro (by decide +kernel) (Nat.le_of_ble_eq_true rfl) (fun X hx hR _ => ?_)
  unfold Md_restoreSnapshot at hr
  refine g_ls [0] [(0, .ref T)] rfl ?_
  refine g_aload_n hx 0 (i := 0) 0 dX11_restoreSnapshot_0 rfl rfl ?_
  refine g_iconst hx 1 (0) dX11_restoreSnapshot_1 rfl ?_
  refine g_put hx 2 (C := RX11) (T := TX11) (N := 30) 9 .int _ (pM_o σ T ow ρ M) rfl (by decide) fl_X11_81 rfl rfl rfl rfl (Nat.le_of_ble_eq_true rfl) rfl dX11_restoreSnapshot_2 ?_
  refine G.heap (pM_f σ T ow ρ M 9 0) ?_
  refine g_aload_n hx 5 (i := 0) 0 dX11_restoreSnapshot_5 rfl rfl ?_
  refine g_get hx 6 (C := RX11) (T := TX11) (N := 30) 10 (.int (M.1 10)) (pM_o σ T ow ρ (setF M 9 0)) rfl (by decide) rfl fl_X11_308 dX11_restoreSnapshot_6 ?_
  refine g_if_ne hx 9 14 dX11_restoreSnapshot_9 (by decide) (fun hc_973 => ?_) (fun hc_973 => ?_)
  · have hr := (if_neg hc_973).symm.trans hr
    refine g_aload_n hx 14 (i := 0) 0 dX11_restoreSnapshot_14 rfl rfl ?_
    refine g_get hx 15 (C := RX11) (T := TX11) (N := 30) 4 (.ref (T + 5)) (pM_o σ T ow ρ (setF M 9 0)) rfl (by decide) rfl fl_X11_22 dX11_restoreSnapshot_15 ?_
    refine g_iconst hx 18 (0) dX11_restoreSnapshot_18 rfl ?_
    refine g_aload_n hx 19 (i := 0) 0 dX11_restoreSnapshot_19 rfl rfl ?_
    refine g_get hx 20 (C := RX11) (T := TX11) (N := 30) 0 (.ref (T + 1)) (pM_o σ T ow ρ (setF M 9 0)) rfl (by decide) rfl fl_X11_9 dX11_restoreSnapshot_20 ?_
    refine g_iconst hx 23 (0) dX11_restoreSnapshot_23 rfl ?_
    obtain ⟨M_974, eM_974, hr⟩ := bind_e hr
    refine g_callSv hx (c_Md_copy l g σ T ow ρ (setF M 9 0) 4 0 (by decide) (by decide) 0 0 eM_974) lk_X11_238 ar_Md_copy (As := [.ref (T + 5), .int 0, .ref (T + 1), .int 0]) (rest := []) rfl (Nat.le_of_ble_eq_true rfl) ⟨Nat.le_of_ble_eq_true rfl, Nat.le_of_ble_eq_true rfl⟩ ⟨rfl, rfl⟩ ⟨Nat.zero_le _, Nat.zero_le _⟩ dX11_restoreSnapshot_24 ?_
    refine g_aload_n hx 27 (i := 0) 0 dX11_restoreSnapshot_27 rfl rfl ?_
    refine g_iconst hx 28 (0) dX11_restoreSnapshot_28 rfl ?_
    refine g_put hx 29 (C := RX11) (T := TX11) (N := 30) 8 .int _ (pM_o σ T ow ρ M_974) rfl (by decide) fl_X11_263 rfl rfl rfl rfl (Nat.le_of_ble_eq_true rfl) rfl dX11_restoreSnapshot_29 ?_
    refine G.heap (pM_f σ T ow ρ M_974 8 0) ?_
    refine g_iconst hx 32 (1) dX11_restoreSnapshot_32 rfl ?_
    exact g_zret hx hR 33 (Or.inr rfl) dX11_restoreSnapshot_33 ⟨by rw [← Option.some.inj hr] <;> rfl, by rw [← Option.some.inj hr] <;> rfl⟩
  · have hr := (if_pos hc_973).symm.trans hr
    refine g_iconst hx 12 (0) dX11_restoreSnapshot_12 rfl ?_
    exact g_zret hx hR 13 (Or.inl rfl) dX11_restoreSnapshot_13 ⟨by rw [← Option.some.inj hr] <;> rfl, by rw [← Option.some.inj hr] <;> rfl⟩
def Md_feed_L23 (ρ : Nat) : Nat → MdM → Int32 → Int32 → Int32 → Int32 → Int32 → Int32 → Option (Int32 × MdM)
  | 0, _, _, _, _, _, _, _ => none
  | n + 1, M, v1_976, v2_977, v3_978, v4_979, v5_980, v6_981 => if 20 ≤ v6_981 then (some ((M.1 18, M))) else (if 4 ≤ v6_981 then (if 8 ≤ v6_981 then (if 12 ≤ v6_981 then (if 16 ≤ v6_981 then (if inB (M.1 18) 700 then (Md_feed_L23 ρ n (setF (setA M 10 (upd (M.2 10) (M.1 18).toNatClampNeg ((v5_980 >>> ((24 - (8 * (v6_981 - v6_981 / 4 * 4))) &&& 31)) &&& 255))) 18 ((M.1 18) + 1)) v1_976 v2_977 v3_978 v4_979 v5_980 (v6_981 + 1)) else none) else (if inB (M.1 18) 700 then (Md_feed_L23 ρ n (setF (setA M 10 (upd (M.2 10) (M.1 18).toNatClampNeg ((v4_979 >>> ((24 - (8 * (v6_981 - v6_981 / 4 * 4))) &&& 31)) &&& 255))) 18 ((M.1 18) + 1)) v1_976 v2_977 v3_978 v4_979 v5_980 (v6_981 + 1)) else none)) else (if inB (M.1 18) 700 then (Md_feed_L23 ρ n (setF (setA M 10 (upd (M.2 10) (M.1 18).toNatClampNeg ((v3_978 >>> ((24 - (8 * (v6_981 - v6_981 / 4 * 4))) &&& 31)) &&& 255))) 18 ((M.1 18) + 1)) v1_976 v2_977 v3_978 v4_979 v5_980 (v6_981 + 1)) else none)) else (if inB (M.1 18) 700 then (Md_feed_L23 ρ n (setF (setA M 10 (upd (M.2 10) (M.1 18).toNatClampNeg ((v2_977 >>> ((24 - (8 * (v6_981 - v6_981 / 4 * 4))) &&& 31)) &&& 255))) 18 ((M.1 18) + 1)) v1_976 v2_977 v3_978 v4_979 v5_980 (v6_981 + 1)) else none)) else (if inB (M.1 18) 700 then (Md_feed_L23 ρ n (setF (setA M 10 (upd (M.2 10) (M.1 18).toNatClampNeg ((v1_976 >>> ((24 - (8 * (v6_981 - v6_981 / 4 * 4))) &&& 31)) &&& 255))) 18 ((M.1 18) + 1)) v1_976 v2_977 v3_978 v4_979 v5_980 (v6_981 + 1)) else none))
def Md_feed (ρ : Nat) (M : MdM) (p1 p2 p3 p4 p5 : Int32) : Option (Int32 × MdM) := if (M.1 18) + 20 ≤ 700 then (Md_feed_L23 ρ FU (setF M 9 0) p1 p2 p3 p4 p5 0) else (some (((-1), setF M 9 0)))
set_option maxRecDepth 100000 in
set_option maxHeartbeats 4000000 in
theorem w_Md_feed_L23 {ρ : Nat} (hρ : ρ < 2) {X : Cx} {l : Launch} {g : Gl} (hx : Ok X l g RX11 cX11_feed 8 md_Md_feed.rm) {σ : Hp} {T : Nat} {ow : Nat → Option Nat} {r : Int32 × MdM} (hR : Ret X (rs (some (.int r.1)) (putMd σ T ow ρ r.2)) 0 0 (some .int)) : ∀ (n : Nat) (M : MdM) (v1_976 v2_977 v3_978 v4_979 v5_980 v6_981 : Int32), Md_feed_L23 ρ n M v1_976 v2_977 v3_978 v4_979 v5_980 v6_981 = some r → G X (putMd σ T ow ρ M) 0 0 23 [(0, .ref T), (1, .int v1_976), (2, .int v2_977), (3, .int v3_978), (4, .int v4_979), (5, .int v5_980), (6, .int v6_981)] [] := by
  intro n
  induction n with
  | zero =>
    intro M v1_976 v2_977 v3_978 v4_979 v5_980 v6_981 hr
    rw [Md_feed_L23] at hr
    cases hr
  | succ n ih =>
    intro M v1_976 v2_977 v3_978 v4_979 v5_980 v6_981 hr
    rw [Md_feed_L23] at hr
    refine g_iload hx 23 (i := 6) 6 dX11_feed_23 rfl ?_
    refine g_bipush hx 25 (20) dX11_feed_25 rfl ?_
    refine g_icmp_ge hx 27 120 dX11_feed_27 (by decide) (fun hc_982 => ?_) (fun hc_982 => ?_)
    · have hr := (if_pos hc_982).symm.trans hr
      refine g_aload_n hx 120 (i := 0) 0 dX11_feed_120 rfl rfl ?_
      refine g_get hx 121 (C := RX11) (T := TX11) (N := 30) 18 (.int (M.1 18)) (pM_o σ T ow ρ M) rfl (by decide) rfl fl_X11_312 dX11_feed_121 ?_
      exact g_iret hx hR 124 dX11_feed_124 ⟨by rw [← Option.some.inj hr] <;> rfl, by rw [← Option.some.inj hr] <;> rfl⟩
    · have hr := (if_neg hc_982).symm.trans hr
      refine g_iload hx 30 (i := 6) 6 dX11_feed_30 rfl ?_
      refine g_iconst hx 32 (4) dX11_feed_32 rfl ?_
      refine g_icmp_ge hx 33 40 dX11_feed_33 (by decide) (fun hc_983 => ?_) (fun hc_983 => ?_)
      · have hr := (if_pos hc_983).symm.trans hr
        refine g_iload hx 40 (i := 6) 6 dX11_feed_40 rfl ?_
        refine g_bipush hx 42 (8) dX11_feed_42 rfl ?_
        refine g_icmp_ge hx 44 51 dX11_feed_44 (by decide) (fun hc_984 => ?_) (fun hc_984 => ?_)
        · have hr := (if_pos hc_984).symm.trans hr
          refine g_iload hx 51 (i := 6) 6 dX11_feed_51 rfl ?_
          refine g_bipush hx 53 (12) dX11_feed_53 rfl ?_
          refine g_icmp_ge hx 55 62 dX11_feed_55 (by decide) (fun hc_985 => ?_) (fun hc_985 => ?_)
          · have hr := (if_pos hc_985).symm.trans hr
            refine g_iload hx 62 (i := 6) 6 dX11_feed_62 rfl ?_
            refine g_bipush hx 64 (16) dX11_feed_64 rfl ?_
            refine g_icmp_ge hx 66 74 dX11_feed_66 (by decide) (fun hc_986 => ?_) (fun hc_986 => ?_)
            · have hr := (if_pos hc_986).symm.trans hr
              refine g_iload hx 74 (i := 5) 5 dX11_feed_74 rfl ?_
              refine g_istore hx 76 (i := 7) [(7, .int v5_980), (0, .ref T), (1, .int v1_976), (2, .int v2_977), (3, .int v3_978), (4, .int v4_979), (5, .int v5_980), (6, .int v6_981)] dX11_feed_76 (by decide) rfl ?_
              refine g_aload_n hx 78 (i := 0) 1 dX11_feed_78 rfl rfl ?_
              refine g_get hx 79 (C := RX11) (T := TX11) (N := 30) 17 (.ref (T + 11)) (pM_o σ T ow ρ M) rfl (by decide) rfl fl_X11_43 dX11_feed_79 ?_
              refine g_aload_n hx 82 (i := 0) 1 dX11_feed_82 rfl rfl ?_
              refine g_get hx 83 (C := RX11) (T := TX11) (N := 30) 18 (.int (M.1 18)) (pM_o σ T ow ρ M) rfl (by decide) rfl fl_X11_312 dX11_feed_83 ?_
              refine g_iload hx 86 (i := 7) 0 dX11_feed_86 rfl ?_
              refine g_bipush hx 88 (24) dX11_feed_88 rfl ?_
              refine g_bipush hx 90 (8) dX11_feed_90 rfl ?_
              refine g_iload hx 92 (i := 6) 7 dX11_feed_92 rfl ?_
              refine g_iconst hx 94 (4) dX11_feed_94 rfl ?_
              refine g_irem hx 95 dX11_feed_95 (by decide) ?_
              refine g_imul hx 96 dX11_feed_96 ?_
              refine g_isub hx 97 dX11_feed_97 ?_
              refine g_ishr hx 98 dX11_feed_98 ?_
              refine g_sipush hx 99 (255) dX11_feed_99 rfl ?_
              refine g_iand hx 102 dX11_feed_102 ?_
              obtain ⟨hb_987, hr⟩ := ob hr
              refine g_iast hx 103 (pM_a σ T ow ρ M 10 (by decide)) hb_987 dX11_feed_103 ?_
              refine G.heap (pM_s σ T ow ρ M 10 (by decide) (upd (M.2 10) (M.1 18).toNatClampNeg ((v5_980 >>> ((24 - (8 * (v6_981 - v6_981 / 4 * 4))) &&& 31)) &&& 255))) ?_
              refine g_aload_n hx 104 (i := 0) 1 dX11_feed_104 rfl rfl ?_
              refine g_dup hx 105 dX11_feed_105 rfl ?_
              refine g_get hx 106 (C := RX11) (T := TX11) (N := 30) 18 (.int (M.1 18)) (pM_o σ T ow ρ (setA M 10 (upd (M.2 10) (M.1 18).toNatClampNeg ((v5_980 >>> ((24 - (8 * (v6_981 - v6_981 / 4 * 4))) &&& 31)) &&& 255)))) rfl (by decide) rfl fl_X11_312 dX11_feed_106 ?_
              refine g_iconst hx 109 (1) dX11_feed_109 rfl ?_
              refine g_iadd hx 110 dX11_feed_110 ?_
              refine g_put hx 111 (C := RX11) (T := TX11) (N := 30) 18 .int _ (pM_o σ T ow ρ (setA M 10 (upd (M.2 10) (M.1 18).toNatClampNeg ((v5_980 >>> ((24 - (8 * (v6_981 - v6_981 / 4 * 4))) &&& 31)) &&& 255)))) rfl (by decide) fl_X11_312 rfl rfl rfl rfl (Nat.le_of_ble_eq_true rfl) rfl dX11_feed_111 ?_
              refine G.heap (pM_f σ T ow ρ (setA M 10 (upd (M.2 10) (M.1 18).toNatClampNeg ((v5_980 >>> ((24 - (8 * (v6_981 - v6_981 / 4 * 4))) &&& 31)) &&& 255))) 18 ((M.1 18) + 1)) ?_
              refine g_iinc hx 114 (i := 6) 7 (v6_981 + 1) [(6, .int (v6_981 + 1)), (7, .int v5_980), (0, .ref T), (1, .int v1_976), (2, .int v2_977), (3, .int v3_978), (4, .int v4_979), (5, .int v5_980)] dX11_feed_114 rfl rfl (by decide) rfl ?_
              refine g_goto hx 117 23 dX11_feed_117 (by decide) ?_
              refine g_ls [2, 3, 4, 5, 6, 7, 0] [(0, .ref T), (1, .int v1_976), (2, .int v2_977), (3, .int v3_978), (4, .int v4_979), (5, .int v5_980), (6, .int (v6_981 + 1))] rfl ?_
              exact ih (setF (setA M 10 (upd (M.2 10) (M.1 18).toNatClampNeg ((v5_980 >>> ((24 - (8 * (v6_981 - v6_981 / 4 * 4))) &&& 31)) &&& 255))) 18 ((M.1 18) + 1)) v1_976 v2_977 v3_978 v4_979 v5_980 (v6_981 + 1) hr
            · have hr := (if_neg hc_986).symm.trans hr
              refine g_iload hx 69 (i := 4) 4 dX11_feed_69 rfl ?_
              refine g_goto hx 71 76 dX11_feed_71 (by decide) ?_
              refine g_istore hx 76 (i := 7) [(7, .int v4_979), (0, .ref T), (1, .int v1_976), (2, .int v2_977), (3, .int v3_978), (4, .int v4_979), (5, .int v5_980), (6, .int v6_981)] dX11_feed_76 (by decide) rfl ?_
              refine g_aload_n hx 78 (i := 0) 1 dX11_feed_78 rfl rfl ?_
              refine g_get hx 79 (C := RX11) (T := TX11) (N := 30) 17 (.ref (T + 11)) (pM_o σ T ow ρ M) rfl (by decide) rfl fl_X11_43 dX11_feed_79 ?_
              refine g_aload_n hx 82 (i := 0) 1 dX11_feed_82 rfl rfl ?_
              refine g_get hx 83 (C := RX11) (T := TX11) (N := 30) 18 (.int (M.1 18)) (pM_o σ T ow ρ M) rfl (by decide) rfl fl_X11_312 dX11_feed_83 ?_
              refine g_iload hx 86 (i := 7) 0 dX11_feed_86 rfl ?_
              refine g_bipush hx 88 (24) dX11_feed_88 rfl ?_
              refine g_bipush hx 90 (8) dX11_feed_90 rfl ?_
              refine g_iload hx 92 (i := 6) 7 dX11_feed_92 rfl ?_
              refine g_iconst hx 94 (4) dX11_feed_94 rfl ?_
              refine g_irem hx 95 dX11_feed_95 (by decide) ?_
              refine g_imul hx 96 dX11_feed_96 ?_
              refine g_isub hx 97 dX11_feed_97 ?_
              refine g_ishr hx 98 dX11_feed_98 ?_
              refine g_sipush hx 99 (255) dX11_feed_99 rfl ?_
              refine g_iand hx 102 dX11_feed_102 ?_
              obtain ⟨hb_988, hr⟩ := ob hr
              refine g_iast hx 103 (pM_a σ T ow ρ M 10 (by decide)) hb_988 dX11_feed_103 ?_
              refine G.heap (pM_s σ T ow ρ M 10 (by decide) (upd (M.2 10) (M.1 18).toNatClampNeg ((v4_979 >>> ((24 - (8 * (v6_981 - v6_981 / 4 * 4))) &&& 31)) &&& 255))) ?_
              refine g_aload_n hx 104 (i := 0) 1 dX11_feed_104 rfl rfl ?_
              refine g_dup hx 105 dX11_feed_105 rfl ?_
              refine g_get hx 106 (C := RX11) (T := TX11) (N := 30) 18 (.int (M.1 18)) (pM_o σ T ow ρ (setA M 10 (upd (M.2 10) (M.1 18).toNatClampNeg ((v4_979 >>> ((24 - (8 * (v6_981 - v6_981 / 4 * 4))) &&& 31)) &&& 255)))) rfl (by decide) rfl fl_X11_312 dX11_feed_106 ?_
              refine g_iconst hx 109 (1) dX11_feed_109 rfl ?_
              refine g_iadd hx 110 dX11_feed_110 ?_
              refine g_put hx 111 (C := RX11) (T := TX11) (N := 30) 18 .int _ (pM_o σ T ow ρ (setA M 10 (upd (M.2 10) (M.1 18).toNatClampNeg ((v4_979 >>> ((24 - (8 * (v6_981 - v6_981 / 4 * 4))) &&& 31)) &&& 255)))) rfl (by decide) fl_X11_312 rfl rfl rfl rfl (Nat.le_of_ble_eq_true rfl) rfl dX11_feed_111 ?_
              refine G.heap (pM_f σ T ow ρ (setA M 10 (upd (M.2 10) (M.1 18).toNatClampNeg ((v4_979 >>> ((24 - (8 * (v6_981 - v6_981 / 4 * 4))) &&& 31)) &&& 255))) 18 ((M.1 18) + 1)) ?_
              refine g_iinc hx 114 (i := 6) 7 (v6_981 + 1) [(6, .int (v6_981 + 1)), (7, .int v4_979), (0, .ref T), (1, .int v1_976), (2, .int v2_977), (3, .int v3_978), (4, .int v4_979), (5, .int v5_980)] dX11_feed_114 rfl rfl (by decide) rfl ?_
              refine g_goto hx 117 23 dX11_feed_117 (by decide) ?_
              refine g_ls [2, 3, 4, 5, 6, 7, 0] [(0, .ref T), (1, .int v1_976), (2, .int v2_977), (3, .int v3_978), (4, .int v4_979), (5, .int v5_980), (6, .int (v6_981 + 1))] rfl ?_
              exact ih (setF (setA M 10 (upd (M.2 10) (M.1 18).toNatClampNeg ((v4_979 >>> ((24 - (8 * (v6_981 - v6_981 / 4 * 4))) &&& 31)) &&& 255))) 18 ((M.1 18) + 1)) v1_976 v2_977 v3_978 v4_979 v5_980 (v6_981 + 1) hr
          · have hr := (if_neg hc_985).symm.trans hr
            refine g_iload_n hx 58 (i := 3) 3 dX11_feed_58 rfl rfl ?_
            refine g_goto hx 59 76 dX11_feed_59 (by decide) ?_
            refine g_istore hx 76 (i := 7) [(7, .int v3_978), (0, .ref T), (1, .int v1_976), (2, .int v2_977), (3, .int v3_978), (4, .int v4_979), (5, .int v5_980), (6, .int v6_981)] dX11_feed_76 (by decide) rfl ?_
            refine g_aload_n hx 78 (i := 0) 1 dX11_feed_78 rfl rfl ?_
            refine g_get hx 79 (C := RX11) (T := TX11) (N := 30) 17 (.ref (T + 11)) (pM_o σ T ow ρ M) rfl (by decide) rfl fl_X11_43 dX11_feed_79 ?_
            refine g_aload_n hx 82 (i := 0) 1 dX11_feed_82 rfl rfl ?_
            refine g_get hx 83 (C := RX11) (T := TX11) (N := 30) 18 (.int (M.1 18)) (pM_o σ T ow ρ M) rfl (by decide) rfl fl_X11_312 dX11_feed_83 ?_
            refine g_iload hx 86 (i := 7) 0 dX11_feed_86 rfl ?_
            refine g_bipush hx 88 (24) dX11_feed_88 rfl ?_
            refine g_bipush hx 90 (8) dX11_feed_90 rfl ?_
            refine g_iload hx 92 (i := 6) 7 dX11_feed_92 rfl ?_
            refine g_iconst hx 94 (4) dX11_feed_94 rfl ?_
            refine g_irem hx 95 dX11_feed_95 (by decide) ?_
            refine g_imul hx 96 dX11_feed_96 ?_
            refine g_isub hx 97 dX11_feed_97 ?_
            refine g_ishr hx 98 dX11_feed_98 ?_
            refine g_sipush hx 99 (255) dX11_feed_99 rfl ?_
            refine g_iand hx 102 dX11_feed_102 ?_
            obtain ⟨hb_989, hr⟩ := ob hr
            refine g_iast hx 103 (pM_a σ T ow ρ M 10 (by decide)) hb_989 dX11_feed_103 ?_
            refine G.heap (pM_s σ T ow ρ M 10 (by decide) (upd (M.2 10) (M.1 18).toNatClampNeg ((v3_978 >>> ((24 - (8 * (v6_981 - v6_981 / 4 * 4))) &&& 31)) &&& 255))) ?_
            refine g_aload_n hx 104 (i := 0) 1 dX11_feed_104 rfl rfl ?_
            refine g_dup hx 105 dX11_feed_105 rfl ?_
            refine g_get hx 106 (C := RX11) (T := TX11) (N := 30) 18 (.int (M.1 18)) (pM_o σ T ow ρ (setA M 10 (upd (M.2 10) (M.1 18).toNatClampNeg ((v3_978 >>> ((24 - (8 * (v6_981 - v6_981 / 4 * 4))) &&& 31)) &&& 255)))) rfl (by decide) rfl fl_X11_312 dX11_feed_106 ?_
            refine g_iconst hx 109 (1) dX11_feed_109 rfl ?_
            refine g_iadd hx 110 dX11_feed_110 ?_
            refine g_put hx 111 (C := RX11) (T := TX11) (N := 30) 18 .int _ (pM_o σ T ow ρ (setA M 10 (upd (M.2 10) (M.1 18).toNatClampNeg ((v3_978 >>> ((24 - (8 * (v6_981 - v6_981 / 4 * 4))) &&& 31)) &&& 255)))) rfl (by decide) fl_X11_312 rfl rfl rfl rfl (Nat.le_of_ble_eq_true rfl) rfl dX11_feed_111 ?_
            refine G.heap (pM_f σ T ow ρ (setA M 10 (upd (M.2 10) (M.1 18).toNatClampNeg ((v3_978 >>> ((24 - (8 * (v6_981 - v6_981 / 4 * 4))) &&& 31)) &&& 255))) 18 ((M.1 18) + 1)) ?_
            refine g_iinc hx 114 (i := 6) 7 (v6_981 + 1) [(6, .int (v6_981 + 1)), (7, .int v3_978), (0, .ref T), (1, .int v1_976), (2, .int v2_977), (3, .int v3_978), (4, .int v4_979), (5, .int v5_980)] dX11_feed_114 rfl rfl (by decide) rfl ?_
            refine g_goto hx 117 23 dX11_feed_117 (by decide) ?_
            refine g_ls [2, 3, 4, 5, 6, 7, 0] [(0, .ref T), (1, .int v1_976), (2, .int v2_977), (3, .int v3_978), (4, .int v4_979), (5, .int v5_980), (6, .int (v6_981 + 1))] rfl ?_
            exact ih (setF (setA M 10 (upd (M.2 10) (M.1 18).toNatClampNeg ((v3_978 >>> ((24 - (8 * (v6_981 - v6_981 / 4 * 4))) &&& 31)) &&& 255))) 18 ((M.1 18) + 1)) v1_976 v2_977 v3_978 v4_979 v5_980 (v6_981 + 1) hr
        · have hr := (if_neg hc_984).symm.trans hr
          refine g_iload_n hx 47 (i := 2) 2 dX11_feed_47 rfl rfl ?_
          refine g_goto hx 48 76 dX11_feed_48 (by decide) ?_
          refine g_istore hx 76 (i := 7) [(7, .int v2_977), (0, .ref T), (1, .int v1_976), (2, .int v2_977), (3, .int v3_978), (4, .int v4_979), (5, .int v5_980), (6, .int v6_981)] dX11_feed_76 (by decide) rfl ?_
          refine g_aload_n hx 78 (i := 0) 1 dX11_feed_78 rfl rfl ?_
          refine g_get hx 79 (C := RX11) (T := TX11) (N := 30) 17 (.ref (T + 11)) (pM_o σ T ow ρ M) rfl (by decide) rfl fl_X11_43 dX11_feed_79 ?_
          refine g_aload_n hx 82 (i := 0) 1 dX11_feed_82 rfl rfl ?_
          refine g_get hx 83 (C := RX11) (T := TX11) (N := 30) 18 (.int (M.1 18)) (pM_o σ T ow ρ M) rfl (by decide) rfl fl_X11_312 dX11_feed_83 ?_
          refine g_iload hx 86 (i := 7) 0 dX11_feed_86 rfl ?_
          refine g_bipush hx 88 (24) dX11_feed_88 rfl ?_
          refine g_bipush hx 90 (8) dX11_feed_90 rfl ?_
          refine g_iload hx 92 (i := 6) 7 dX11_feed_92 rfl ?_
          refine g_iconst hx 94 (4) dX11_feed_94 rfl ?_
          refine g_irem hx 95 dX11_feed_95 (by decide) ?_
          refine g_imul hx 96 dX11_feed_96 ?_
          refine g_isub hx 97 dX11_feed_97 ?_
          refine g_ishr hx 98 dX11_feed_98 ?_
          refine g_sipush hx 99 (255) dX11_feed_99 rfl ?_
          refine g_iand hx 102 dX11_feed_102 ?_
          obtain ⟨hb_990, hr⟩ := ob hr
          refine g_iast hx 103 (pM_a σ T ow ρ M 10 (by decide)) hb_990 dX11_feed_103 ?_
          refine G.heap (pM_s σ T ow ρ M 10 (by decide) (upd (M.2 10) (M.1 18).toNatClampNeg ((v2_977 >>> ((24 - (8 * (v6_981 - v6_981 / 4 * 4))) &&& 31)) &&& 255))) ?_
          refine g_aload_n hx 104 (i := 0) 1 dX11_feed_104 rfl rfl ?_
          refine g_dup hx 105 dX11_feed_105 rfl ?_
          refine g_get hx 106 (C := RX11) (T := TX11) (N := 30) 18 (.int (M.1 18)) (pM_o σ T ow ρ (setA M 10 (upd (M.2 10) (M.1 18).toNatClampNeg ((v2_977 >>> ((24 - (8 * (v6_981 - v6_981 / 4 * 4))) &&& 31)) &&& 255)))) rfl (by decide) rfl fl_X11_312 dX11_feed_106 ?_
          refine g_iconst hx 109 (1) dX11_feed_109 rfl ?_
          refine g_iadd hx 110 dX11_feed_110 ?_
          refine g_put hx 111 (C := RX11) (T := TX11) (N := 30) 18 .int _ (pM_o σ T ow ρ (setA M 10 (upd (M.2 10) (M.1 18).toNatClampNeg ((v2_977 >>> ((24 - (8 * (v6_981 - v6_981 / 4 * 4))) &&& 31)) &&& 255)))) rfl (by decide) fl_X11_312 rfl rfl rfl rfl (Nat.le_of_ble_eq_true rfl) rfl dX11_feed_111 ?_
          refine G.heap (pM_f σ T ow ρ (setA M 10 (upd (M.2 10) (M.1 18).toNatClampNeg ((v2_977 >>> ((24 - (8 * (v6_981 - v6_981 / 4 * 4))) &&& 31)) &&& 255))) 18 ((M.1 18) + 1)) ?_
          refine g_iinc hx 114 (i := 6) 7 (v6_981 + 1) [(6, .int (v6_981 + 1)), (7, .int v2_977), (0, .ref T), (1, .int v1_976), (2, .int v2_977), (3, .int v3_978), (4, .int v4_979), (5, .int v5_980)] dX11_feed_114 rfl rfl (by decide) rfl ?_
          refine g_goto hx 117 23 dX11_feed_117 (by decide) ?_
          refine g_ls [2, 3, 4, 5, 6, 7, 0] [(0, .ref T), (1, .int v1_976), (2, .int v2_977), (3, .int v3_978), (4, .int v4_979), (5, .int v5_980), (6, .int (v6_981 + 1))] rfl ?_
          exact ih (setF (setA M 10 (upd (M.2 10) (M.1 18).toNatClampNeg ((v2_977 >>> ((24 - (8 * (v6_981 - v6_981 / 4 * 4))) &&& 31)) &&& 255))) 18 ((M.1 18) + 1)) v1_976 v2_977 v3_978 v4_979 v5_980 (v6_981 + 1) hr
      · have hr := (if_neg hc_983).symm.trans hr
        refine g_iload_n hx 36 (i := 1) 1 dX11_feed_36 rfl rfl ?_
        refine g_goto hx 37 76 dX11_feed_37 (by decide) ?_
        refine g_istore hx 76 (i := 7) [(7, .int v1_976), (0, .ref T), (1, .int v1_976), (2, .int v2_977), (3, .int v3_978), (4, .int v4_979), (5, .int v5_980), (6, .int v6_981)] dX11_feed_76 (by decide) rfl ?_
        refine g_aload_n hx 78 (i := 0) 1 dX11_feed_78 rfl rfl ?_
        refine g_get hx 79 (C := RX11) (T := TX11) (N := 30) 17 (.ref (T + 11)) (pM_o σ T ow ρ M) rfl (by decide) rfl fl_X11_43 dX11_feed_79 ?_
        refine g_aload_n hx 82 (i := 0) 1 dX11_feed_82 rfl rfl ?_
        refine g_get hx 83 (C := RX11) (T := TX11) (N := 30) 18 (.int (M.1 18)) (pM_o σ T ow ρ M) rfl (by decide) rfl fl_X11_312 dX11_feed_83 ?_
        refine g_iload hx 86 (i := 7) 0 dX11_feed_86 rfl ?_
        refine g_bipush hx 88 (24) dX11_feed_88 rfl ?_
        refine g_bipush hx 90 (8) dX11_feed_90 rfl ?_
        refine g_iload hx 92 (i := 6) 7 dX11_feed_92 rfl ?_
        refine g_iconst hx 94 (4) dX11_feed_94 rfl ?_
        refine g_irem hx 95 dX11_feed_95 (by decide) ?_
        refine g_imul hx 96 dX11_feed_96 ?_
        refine g_isub hx 97 dX11_feed_97 ?_
        refine g_ishr hx 98 dX11_feed_98 ?_
        refine g_sipush hx 99 (255) dX11_feed_99 rfl ?_
        refine g_iand hx 102 dX11_feed_102 ?_
        obtain ⟨hb_991, hr⟩ := ob hr
        refine g_iast hx 103 (pM_a σ T ow ρ M 10 (by decide)) hb_991 dX11_feed_103 ?_
        refine G.heap (pM_s σ T ow ρ M 10 (by decide) (upd (M.2 10) (M.1 18).toNatClampNeg ((v1_976 >>> ((24 - (8 * (v6_981 - v6_981 / 4 * 4))) &&& 31)) &&& 255))) ?_
        refine g_aload_n hx 104 (i := 0) 1 dX11_feed_104 rfl rfl ?_
        refine g_dup hx 105 dX11_feed_105 rfl ?_
        refine g_get hx 106 (C := RX11) (T := TX11) (N := 30) 18 (.int (M.1 18)) (pM_o σ T ow ρ (setA M 10 (upd (M.2 10) (M.1 18).toNatClampNeg ((v1_976 >>> ((24 - (8 * (v6_981 - v6_981 / 4 * 4))) &&& 31)) &&& 255)))) rfl (by decide) rfl fl_X11_312 dX11_feed_106 ?_
        refine g_iconst hx 109 (1) dX11_feed_109 rfl ?_
        refine g_iadd hx 110 dX11_feed_110 ?_
        refine g_put hx 111 (C := RX11) (T := TX11) (N := 30) 18 .int _ (pM_o σ T ow ρ (setA M 10 (upd (M.2 10) (M.1 18).toNatClampNeg ((v1_976 >>> ((24 - (8 * (v6_981 - v6_981 / 4 * 4))) &&& 31)) &&& 255)))) rfl (by decide) fl_X11_312 rfl rfl rfl rfl (Nat.le_of_ble_eq_true rfl) rfl dX11_feed_111 ?_
        refine G.heap (pM_f σ T ow ρ (setA M 10 (upd (M.2 10) (M.1 18).toNatClampNeg ((v1_976 >>> ((24 - (8 * (v6_981 - v6_981 / 4 * 4))) &&& 31)) &&& 255))) 18 ((M.1 18) + 1)) ?_
        refine g_iinc hx 114 (i := 6) 7 (v6_981 + 1) [(6, .int (v6_981 + 1)), (7, .int v1_976), (0, .ref T), (1, .int v1_976), (2, .int v2_977), (3, .int v3_978), (4, .int v4_979), (5, .int v5_980)] dX11_feed_114 rfl rfl (by decide) rfl ?_
        refine g_goto hx 117 23 dX11_feed_117 (by decide) ?_
        refine g_ls [2, 3, 4, 5, 6, 7, 0] [(0, .ref T), (1, .int v1_976), (2, .int v2_977), (3, .int v3_978), (4, .int v4_979), (5, .int v5_980), (6, .int (v6_981 + 1))] rfl ?_
        exact ih (setF (setA M 10 (upd (M.2 10) (M.1 18).toNatClampNeg ((v1_976 >>> ((24 - (8 * (v6_981 - v6_981 / 4 * 4))) &&& 31)) &&& 255))) 18 ((M.1 18) + 1)) v1_976 v2_977 v3_978 v4_979 v5_980 (v6_981 + 1) hr
set_option maxRecDepth 100000 in
set_option maxHeartbeats 4000000 in
theorem c_Md_feed {ρ : Nat} (hρ : ρ < 2) (l : Launch) (g : Gl) (σ : Hp) (T : Nat) (ow : Nat → Option Nat) (M : MdM) (p1 p2 p3 p4 p5 : Int32) {r : Int32 × MdM} (hr : Md_feed ρ M p1 p2 p3 p4 p5 = some r) : MG l g md_Md_feed [.ref T, .int p1, .int p2, .int p3, .int p4, .int p5] (putMd σ T ow ρ M) (rs (some (.int r.1)) (putMd σ T ow ρ r.2)) := by
  refine MG.intro (by decide +kernel) (Nat.le_of_ble_eq_true rfl) (fun X hx hR _ => ?_)
  unfold Md_feed at hr
  refine g_ls [0, 1, 2, 3, 4, 5] [(0, .ref T), (1, .int p1), (2, .int p2), (3, .int p3), (4, .int p4), (5, .int p5)] rfl ?_
  refine g_aload_n hx 0 (i := 0) 0 dX11_feed_0 rfl rfl ?_
  refine g_iconst hx 1 (0) dX11_feed_1 rfl ?_
  refine g_put hx 2 (C := RX11) (T := TX11) (N := 30) 9 .int _ (pM_o σ T ow ρ M) rfl (by decide) fl_X11_81 rfl rfl rfl rfl (Nat.le_of_ble_eq_true rfl) rfl dX11_feed_2 ?_
  refine G.heap (pM_f σ T ow ρ M 9 0) ?_
  refine g_aload_n hx 5 (i := 0) 0 dX11_feed_5 rfl rfl ?_
  refine g_get hx 6 (C := RX11) (T := TX11) (N := 30) 18 (.int (M.1 18)) (pM_o σ T ow ρ (setF M 9 0)) rfl (by decide) rfl fl_X11_312 dX11_feed_6 ?_
  refine g_bipush hx 9 (20) dX11_feed_9 rfl ?_
  refine g_iadd hx 11 dX11_feed_11 ?_
  refine g_sipush hx 12 (700) dX11_feed_12 rfl ?_
  refine g_icmp_le hx 15 20 dX11_feed_15 (by decide) (fun hc_975 => ?_) (fun hc_975 => ?_)
  · have hr := (if_pos hc_975).symm.trans hr
    refine g_iconst hx 20 (0) dX11_feed_20 rfl ?_
    refine g_istore hx 21 (i := 6) [(6, .int 0), (0, .ref T), (1, .int p1), (2, .int p2), (3, .int p3), (4, .int p4), (5, .int p5)] dX11_feed_21 (by decide) rfl ?_
    refine g_ls [1, 2, 3, 4, 5, 6, 0] [(0, .ref T), (1, .int p1), (2, .int p2), (3, .int p3), (4, .int p4), (5, .int p5), (6, .int 0)] rfl ?_
    exact w_Md_feed_L23 hρ hx hR FU (setF M 9 0) p1 p2 p3 p4 p5 0 hr
  · have hr := (if_neg hc_975).symm.trans hr
    refine g_iconst hx 18 (-1) dX11_feed_18 rfl ?_
    exact g_iret hx hR 19 dX11_feed_19 ⟨by rw [← Option.some.inj hr] <;> rfl, by rw [← Option.some.inj hr] <;> rfl⟩
def Md_errorPosition (ρ : Nat) (M : MdM) : Int32 × MdM := (M.1 25, setF M 9 0)
set_option maxRecDepth 100000 in
set_option maxHeartbeats 4000000 in
theorem c_Md_errorPosition {ρ : Nat} (hρ : ρ < 2) (l : Launch) (g : Gl) (σ : Hp) (T : Nat) (ow : Nat → Option Nat) (M : MdM) {r : Int32 × MdM} (hr : Md_errorPosition ρ M = r) : MG l g md_Md_errorPosition [.ref T] (putMd σ T ow ρ M) (rs (some (.int r.1)) (putMd σ T ow ρ r.2)) := by
  refine MG.intro (by decide +kernel) (Nat.le_of_ble_eq_true rfl) (fun X hx hR _ => ?_)
  unfold Md_errorPosition at hr
  refine g_ls [0] [(0, .ref T)] rfl ?_
  refine g_aload_n hx 0 (i := 0) 0 dX11_errorPosition_0 rfl rfl ?_
  refine g_iconst hx 1 (0) dX11_errorPosition_1 rfl ?_
  refine g_put hx 2 (C := RX11) (T := TX11) (N := 30) 9 .int _ (pM_o σ T ow ρ M) rfl (by decide) fl_X11_81 rfl rfl rfl rfl (Nat.le_of_ble_eq_true rfl) rfl dX11_errorPosition_2 ?_
  refine G.heap (pM_f σ T ow ρ M 9 0) ?_
  refine g_aload_n hx 5 (i := 0) 0 dX11_errorPosition_5 rfl rfl ?_
  refine g_get hx 6 (C := RX11) (T := TX11) (N := 30) 25 (.int (M.1 25)) (pM_o σ T ow ρ (setF M 9 0)) rfl (by decide) rfl fl_X11_46 dX11_errorPosition_6 ?_
  exact g_iret hx hR 9 dX11_errorPosition_9 ⟨by rw [← hr] <;> rfl, by rw [← hr] <;> rfl⟩
def Md_byteAt (ρ : Nat) (M : MdM) (p1 : Int32) : Option (Int32) := if M.1 19 ≤ p1 then (some ((-1))) else (if inB p1 700 then (some ((M.2 10) p1.toNatClampNeg)) else none)
set_option maxRecDepth 100000 in
set_option maxHeartbeats 4000000 in
theorem c_Md_byteAt {ρ : Nat} (hρ : ρ < 2) (l : Launch) (g : Gl) (σ : Hp) (T : Nat) (ow : Nat → Option Nat) (M : MdM) (p1 : Int32) {r : Int32} (hr : Md_byteAt ρ M p1 = some r) : MG l g md_Md_byteAt [.ref T, .int p1] (putMd σ T ow ρ M) (rs (some (.int r)) (putMd σ T ow ρ M)) := by
  refine MG.intro (by decide +kernel) (Nat.le_of_ble_eq_true rfl) (fun X hx hR _ => ?_)
  unfold Md_byteAt at hr
  refine g_ls [0, 1] [(0, .ref T), (1, .int p1)] rfl ?_
  refine g_iload_n hx 0 (i := 1) 1 dX11_byteAt_0 rfl rfl ?_
  refine g_aload_n hx 1 (i := 0) 0 dX11_byteAt_1 rfl rfl ?_
  refine g_get hx 2 (C := RX11) (T := TX11) (N := 30) 19 (.int (M.1 19)) (pM_o σ T ow ρ M) rfl (by decide) rfl fl_X11_315 dX11_byteAt_2 ?_
  refine g_icmp_ge hx 5 17 dX11_byteAt_5 (by decide) (fun hc_992 => ?_) (fun hc_992 => ?_)
  · have hr := (if_pos hc_992).symm.trans hr
    refine g_iconst hx 17 (-1) dX11_byteAt_17 rfl ?_
    exact g_iret hx hR 18 dX11_byteAt_18 ⟨by rw [← Option.some.inj hr] <;> rfl, rfl⟩
  · have hr := (if_neg hc_992).symm.trans hr
    refine g_aload_n hx 8 (i := 0) 0 dX11_byteAt_8 rfl rfl ?_
    refine g_get hx 9 (C := RX11) (T := TX11) (N := 30) 17 (.ref (T + 11)) (pM_o σ T ow ρ M) rfl (by decide) rfl fl_X11_43 dX11_byteAt_9 ?_
    refine g_iload_n hx 12 (i := 1) 1 dX11_byteAt_12 rfl rfl ?_
    obtain ⟨hb_993, hr⟩ := ob hr
    refine g_iald hx 13 (pM_a σ T ow ρ M 10 (by decide)) hb_993 dX11_byteAt_13 ?_
    refine g_goto hx 14 18 dX11_byteAt_14 (by decide) ?_
    exact g_iret hx hR 18 dX11_byteAt_18 ⟨by rw [← Option.some.inj hr] <;> rfl, rfl⟩
def Md_isLetter (ρ : Nat) (M : MdM) (p1 : Int32) : Option (Int32) := Option.bind (Md_byteAt ρ M p1) fun q_994 => if q_994 < 97 then (some (0)) else (Option.bind (Md_byteAt ρ M p1) fun q_996 => if 122 < q_996 then (some (0)) else (some (1)))
set_option maxRecDepth 100000 in
set_option maxHeartbeats 4000000 in
theorem c_Md_isLetter {ρ : Nat} (hρ : ρ < 2) (l : Launch) (g : Gl) (σ : Hp) (T : Nat) (ow : Nat → Option Nat) (M : MdM) (p1 : Int32) {r : Int32} (hr : Md_isLetter ρ M p1 = some r) : MG l g md_Md_isLetter [.ref T, .int p1] (putMd σ T ow ρ M) (rs (some (.int r)) (putMd σ T ow ρ M)) := by
  refine MG.intro (by decide +kernel) (Nat.le_of_ble_eq_true rfl) (fun X hx hR _ => ?_)
  unfold Md_isLetter at hr
  refine g_ls [0, 1] [(0, .ref T), (1, .int p1)] rfl ?_
  refine g_aload_n hx 0 (i := 0) 0 dX11_isLetter_0 rfl rfl ?_
  refine g_iload_n hx 1 (i := 1) 1 dX11_isLetter_1 rfl rfl ?_
  obtain ⟨q_994, eq_994, hr⟩ := bind_e hr
  refine g_callVr hx (c_Md_byteAt hρ l g σ T ow M p1 eq_994) lk_X11_318 ar_Md_byteAt (pM_o σ T ow ρ M) (T := TX11) (N := 30) rfl (As := [.int p1]) (rest := []) rfl (Nat.le_of_ble_eq_true rfl) ⟨Nat.le_of_ble_eq_true rfl, Nat.le_of_ble_eq_true rfl⟩ ⟨rfl, rfl⟩ ⟨Nat.zero_le _, Nat.zero_le _⟩ dX11_isLetter_2 ?_
  refine g_bipush hx 5 (97) dX11_isLetter_5 rfl ?_
  refine g_icmp_lt hx 7 24 dX11_isLetter_7 (by decide) (fun hc_995 => ?_) (fun hc_995 => ?_)
  · have hr := (if_pos hc_995).symm.trans hr
    refine g_iconst hx 24 (0) dX11_isLetter_24 rfl ?_
    exact g_zret hx hR 25 (Or.inl rfl) dX11_isLetter_25 ⟨by rw [← Option.some.inj hr] <;> rfl, rfl⟩
  · have hr := (if_neg hc_995).symm.trans hr
    refine g_aload_n hx 10 (i := 0) 0 dX11_isLetter_10 rfl rfl ?_
    refine g_iload_n hx 11 (i := 1) 1 dX11_isLetter_11 rfl rfl ?_
    obtain ⟨q_996, eq_996, hr⟩ := bind_e hr
    refine g_callVr hx (c_Md_byteAt hρ l g σ T ow M p1 eq_996) lk_X11_318 ar_Md_byteAt (pM_o σ T ow ρ M) (T := TX11) (N := 30) rfl (As := [.int p1]) (rest := []) rfl (Nat.le_of_ble_eq_true rfl) ⟨Nat.le_of_ble_eq_true rfl, Nat.le_of_ble_eq_true rfl⟩ ⟨rfl, rfl⟩ ⟨Nat.zero_le _, Nat.zero_le _⟩ dX11_isLetter_12 ?_
    refine g_bipush hx 15 (122) dX11_isLetter_15 rfl ?_
    refine g_icmp_gt hx 17 24 dX11_isLetter_17 (by decide) (fun hc_997 => ?_) (fun hc_997 => ?_)
    · have hr := (if_pos hc_997).symm.trans hr
      refine g_iconst hx 24 (0) dX11_isLetter_24 rfl ?_
      exact g_zret hx hR 25 (Or.inl rfl) dX11_isLetter_25 ⟨by rw [← Option.some.inj hr] <;> rfl, rfl⟩
    · have hr := (if_neg hc_997).symm.trans hr
      refine g_iconst hx 20 (1) dX11_isLetter_20 rfl ?_
      refine g_goto hx 21 25 dX11_isLetter_21 (by decide) ?_
      exact g_zret hx hR 25 (Or.inr rfl) dX11_isLetter_25 ⟨by rw [← Option.some.inj hr] <;> rfl, rfl⟩
def Md_isDigit (ρ : Nat) (M : MdM) (p1 : Int32) : Option (Int32) := Option.bind (Md_byteAt ρ M p1) fun q_998 => if q_998 < 48 then (some (0)) else (Option.bind (Md_byteAt ρ M p1) fun q_1000 => if 57 < q_1000 then (some (0)) else (some (1)))
set_option maxRecDepth 100000 in
set_option maxHeartbeats 4000000 in
theorem c_Md_isDigit {ρ : Nat} (hρ : ρ < 2) (l : Launch) (g : Gl) (σ : Hp) (T : Nat) (ow : Nat → Option Nat) (M : MdM) (p1 : Int32) {r : Int32} (hr : Md_isDigit ρ M p1 = some r) : MG l g md_Md_isDigit [.ref T, .int p1] (putMd σ T ow ρ M) (rs (some (.int r)) (putMd σ T ow ρ M)) := by
  refine MG.intro (by decide +kernel) (Nat.le_of_ble_eq_true rfl) (fun X hx hR _ => ?_)
  unfold Md_isDigit at hr
  refine g_ls [0, 1] [(0, .ref T), (1, .int p1)] rfl ?_
  refine g_aload_n hx 0 (i := 0) 0 dX11_isDigit_0 rfl rfl ?_
  refine g_iload_n hx 1 (i := 1) 1 dX11_isDigit_1 rfl rfl ?_
  obtain ⟨q_998, eq_998, hr⟩ := bind_e hr
  refine g_callVr hx (c_Md_byteAt hρ l g σ T ow M p1 eq_998) lk_X11_318 ar_Md_byteAt (pM_o σ T ow ρ M) (T := TX11) (N := 30) rfl (As := [.int p1]) (rest := []) rfl (Nat.le_of_ble_eq_true rfl) ⟨Nat.le_of_ble_eq_true rfl, Nat.le_of_ble_eq_true rfl⟩ ⟨rfl, rfl⟩ ⟨Nat.zero_le _, Nat.zero_le _⟩ dX11_isDigit_2 ?_
  refine g_bipush hx 5 (48) dX11_isDigit_5 rfl ?_
  refine g_icmp_lt hx 7 24 dX11_isDigit_7 (by decide) (fun hc_999 => ?_) (fun hc_999 => ?_)
  · have hr := (if_pos hc_999).symm.trans hr
    refine g_iconst hx 24 (0) dX11_isDigit_24 rfl ?_
    exact g_zret hx hR 25 (Or.inl rfl) dX11_isDigit_25 ⟨by rw [← Option.some.inj hr] <;> rfl, rfl⟩
  · have hr := (if_neg hc_999).symm.trans hr
    refine g_aload_n hx 10 (i := 0) 0 dX11_isDigit_10 rfl rfl ?_
    refine g_iload_n hx 11 (i := 1) 1 dX11_isDigit_11 rfl rfl ?_
    obtain ⟨q_1000, eq_1000, hr⟩ := bind_e hr
    refine g_callVr hx (c_Md_byteAt hρ l g σ T ow M p1 eq_1000) lk_X11_318 ar_Md_byteAt (pM_o σ T ow ρ M) (T := TX11) (N := 30) rfl (As := [.int p1]) (rest := []) rfl (Nat.le_of_ble_eq_true rfl) ⟨Nat.le_of_ble_eq_true rfl, Nat.le_of_ble_eq_true rfl⟩ ⟨rfl, rfl⟩ ⟨Nat.zero_le _, Nat.zero_le _⟩ dX11_isDigit_12 ?_
    refine g_bipush hx 15 (57) dX11_isDigit_15 rfl ?_
    refine g_icmp_gt hx 17 24 dX11_isDigit_17 (by decide) (fun hc_1001 => ?_) (fun hc_1001 => ?_)
    · have hr := (if_pos hc_1001).symm.trans hr
      refine g_iconst hx 24 (0) dX11_isDigit_24 rfl ?_
      exact g_zret hx hR 25 (Or.inl rfl) dX11_isDigit_25 ⟨by rw [← Option.some.inj hr] <;> rfl, rfl⟩
    · have hr := (if_neg hc_1001).symm.trans hr
      refine g_iconst hx 20 (1) dX11_isDigit_20 rfl ?_
      refine g_goto hx 21 25 dX11_isDigit_21 (by decide) ?_
      exact g_zret hx hR 25 (Or.inr rfl) dX11_isDigit_25 ⟨by rw [← Option.some.inj hr] <;> rfl, rfl⟩
def Md_scan_L120 (ρ : Nat) : Nat → MdM → Option (MdM)
  | 0, _ => none
  | n + 1, M => Option.bind (Md_isDigit ρ M (M.1 20)) fun q_1011 => if q_1011 = 0 then (some (setF M 22 2)) else (Md_scan_L120 ρ n (setF M 20 ((M.1 20) + 1)))
def Md_scan_L77 (ρ : Nat) : Nat → MdM → Option (MdM)
  | 0, _ => none
  | n + 1, M => Option.bind (Md_isLetter ρ M (M.1 20)) fun q_1013 => if q_1013 = 0 then (some (setF M 22 1)) else (Md_scan_L77 ρ n (setF M 20 ((M.1 20) + 1)))
def Md_scan_L0 (ρ : Nat) : Nat → MdM → Option (MdM)
  | 0, _ => none
  | n + 1, M => Option.bind (Md_byteAt ρ M (M.1 20)) fun q_1002 => if q_1002 = 32 then (Md_scan_L0 ρ n (setF M 20 ((M.1 20) + 1))) else (Option.bind (Md_byteAt ρ M (M.1 20)) fun q_1004 => if q_1004 = 10 then (Md_scan_L0 ρ n (setF M 20 ((M.1 20) + 1))) else (if M.1 20 < M.1 19 then (Option.bind (Md_isLetter ρ (setF M 21 (M.1 20)) (M.1 20)) fun q_1007 => if q_1007 = 0 then (Option.bind (Md_isDigit ρ (setF M 21 (M.1 20)) (M.1 20)) fun q_1009 => if q_1009 = 0 then (some (setF (setF (setF M 21 (M.1 20)) 20 ((M.1 20) + 1)) 22 3)) else (Md_scan_L120 ρ FU (setF M 21 (M.1 20)))) else (Md_scan_L77 ρ FU (setF M 21 (M.1 20)))) else (some (setF (setF M 21 (M.1 20)) 22 0))))
def Md_scan (ρ : Nat) (M : MdM) : Option (MdM) := Md_scan_L0 ρ FU M
set_option maxRecDepth 100000 in
set_option maxHeartbeats 4000000 in
theorem w_Md_scan_L120 {ρ : Nat} (hρ : ρ < 2) {X : Cx} {l : Launch} {g : Gl} (hx : Ok X l g RX11 cX11_scan 1 md_Md_scan.rm) {σ : Hp} {T : Nat} {ow : Nat → Option Nat} {r : MdM} (hR : Ret X (rs none (putMd σ T ow ρ r)) 0 0 (none)) : ∀ (n : Nat) (M : MdM), Md_scan_L120 ρ n M = some r → G X (putMd σ T ow ρ M) 0 0 120 [(0, .ref T)] [] := by
  intro n
  induction n with
  | zero =>
    intro M hr
    rw [Md_scan_L120] at hr
    cases hr
  | succ n ih =>
    intro M hr
    rw [Md_scan_L120] at hr
    refine g_aload_n hx 120 (i := 0) 0 dX11_scan_120 rfl rfl ?_
    refine g_aload_n hx 121 (i := 0) 0 dX11_scan_121 rfl rfl ?_
    refine g_get hx 122 (C := RX11) (T := TX11) (N := 30) 20 (.int (M.1 20)) (pM_o σ T ow ρ M) rfl (by decide) rfl fl_X11_321 dX11_scan_122 ?_
    obtain ⟨q_1011, eq_1011, hr⟩ := bind_e hr
    refine g_callVr hx (c_Md_isDigit hρ l g σ T ow M (M.1 20) eq_1011) lk_X11_333 ar_Md_isDigit (pM_o σ T ow ρ M) (T := TX11) (N := 30) rfl (As := [.int (M.1 20)]) (rest := []) rfl (Nat.le_of_ble_eq_true rfl) ⟨Nat.le_of_ble_eq_true rfl, Nat.le_of_ble_eq_true rfl⟩ ⟨rfl, rfl⟩ ⟨Nat.zero_le _, Nat.zero_le _⟩ dX11_scan_125 ?_
    refine g_if_eq hx 128 144 dX11_scan_128 (by decide) (fun hc_1012 => ?_) (fun hc_1012 => ?_)
    · have hr := (if_pos hc_1012).symm.trans hr
      refine g_aload_n hx 144 (i := 0) 0 dX11_scan_144 rfl rfl ?_
      refine g_iconst hx 145 (2) dX11_scan_145 rfl ?_
      refine g_put hx 146 (C := RX11) (T := TX11) (N := 30) 22 .int _ (pM_o σ T ow ρ M) rfl (by decide) fl_X11_327 rfl rfl rfl rfl (Nat.le_of_ble_eq_true rfl) rfl dX11_scan_146 ?_
      refine G.heap (pM_f σ T ow ρ M 22 2) ?_
      refine g_goto hx 149 167 dX11_scan_149 (by decide) ?_
      exact g_vret hx hR 167 dX11_scan_167 ⟨rfl, by rw [← Option.some.inj hr] <;> rfl⟩
    · have hr := (if_neg hc_1012).symm.trans hr
      refine g_aload_n hx 131 (i := 0) 0 dX11_scan_131 rfl rfl ?_
      refine g_dup hx 132 dX11_scan_132 rfl ?_
      refine g_get hx 133 (C := RX11) (T := TX11) (N := 30) 20 (.int (M.1 20)) (pM_o σ T ow ρ M) rfl (by decide) rfl fl_X11_321 dX11_scan_133 ?_
      refine g_iconst hx 136 (1) dX11_scan_136 rfl ?_
      refine g_iadd hx 137 dX11_scan_137 ?_
      refine g_put hx 138 (C := RX11) (T := TX11) (N := 30) 20 .int _ (pM_o σ T ow ρ M) rfl (by decide) fl_X11_321 rfl rfl rfl rfl (Nat.le_of_ble_eq_true rfl) rfl dX11_scan_138 ?_
      refine G.heap (pM_f σ T ow ρ M 20 ((M.1 20) + 1)) ?_
      refine g_goto hx 141 120 dX11_scan_141 (by decide) ?_
      refine g_ls [0] [(0, .ref T)] rfl ?_
      exact ih (setF M 20 ((M.1 20) + 1))  hr
set_option maxRecDepth 100000 in
set_option maxHeartbeats 4000000 in
theorem w_Md_scan_L77 {ρ : Nat} (hρ : ρ < 2) {X : Cx} {l : Launch} {g : Gl} (hx : Ok X l g RX11 cX11_scan 1 md_Md_scan.rm) {σ : Hp} {T : Nat} {ow : Nat → Option Nat} {r : MdM} (hR : Ret X (rs none (putMd σ T ow ρ r)) 0 0 (none)) : ∀ (n : Nat) (M : MdM), Md_scan_L77 ρ n M = some r → G X (putMd σ T ow ρ M) 0 0 77 [(0, .ref T)] [] := by
  intro n
  induction n with
  | zero =>
    intro M hr
    rw [Md_scan_L77] at hr
    cases hr
  | succ n ih =>
    intro M hr
    rw [Md_scan_L77] at hr
    refine g_aload_n hx 77 (i := 0) 0 dX11_scan_77 rfl rfl ?_
    refine g_aload_n hx 78 (i := 0) 0 dX11_scan_78 rfl rfl ?_
    refine g_get hx 79 (C := RX11) (T := TX11) (N := 30) 20 (.int (M.1 20)) (pM_o σ T ow ρ M) rfl (by decide) rfl fl_X11_321 dX11_scan_79 ?_
    obtain ⟨q_1013, eq_1013, hr⟩ := bind_e hr
    refine g_callVr hx (c_Md_isLetter hρ l g σ T ow M (M.1 20) eq_1013) lk_X11_330 ar_Md_isLetter (pM_o σ T ow ρ M) (T := TX11) (N := 30) rfl (As := [.int (M.1 20)]) (rest := []) rfl (Nat.le_of_ble_eq_true rfl) ⟨Nat.le_of_ble_eq_true rfl, Nat.le_of_ble_eq_true rfl⟩ ⟨rfl, rfl⟩ ⟨Nat.zero_le _, Nat.zero_le _⟩ dX11_scan_82 ?_
    refine g_if_eq hx 85 101 dX11_scan_85 (by decide) (fun hc_1014 => ?_) (fun hc_1014 => ?_)
    · have hr := (if_pos hc_1014).symm.trans hr
      refine g_aload_n hx 101 (i := 0) 0 dX11_scan_101 rfl rfl ?_
      refine g_iconst hx 102 (1) dX11_scan_102 rfl ?_
      refine g_put hx 103 (C := RX11) (T := TX11) (N := 30) 22 .int _ (pM_o σ T ow ρ M) rfl (by decide) fl_X11_327 rfl rfl rfl rfl (Nat.le_of_ble_eq_true rfl) rfl dX11_scan_103 ?_
      refine G.heap (pM_f σ T ow ρ M 22 1) ?_
      refine g_goto hx 106 167 dX11_scan_106 (by decide) ?_
      exact g_vret hx hR 167 dX11_scan_167 ⟨rfl, by rw [← Option.some.inj hr] <;> rfl⟩
    · have hr := (if_neg hc_1014).symm.trans hr
      refine g_aload_n hx 88 (i := 0) 0 dX11_scan_88 rfl rfl ?_
      refine g_dup hx 89 dX11_scan_89 rfl ?_
      refine g_get hx 90 (C := RX11) (T := TX11) (N := 30) 20 (.int (M.1 20)) (pM_o σ T ow ρ M) rfl (by decide) rfl fl_X11_321 dX11_scan_90 ?_
      refine g_iconst hx 93 (1) dX11_scan_93 rfl ?_
      refine g_iadd hx 94 dX11_scan_94 ?_
      refine g_put hx 95 (C := RX11) (T := TX11) (N := 30) 20 .int _ (pM_o σ T ow ρ M) rfl (by decide) fl_X11_321 rfl rfl rfl rfl (Nat.le_of_ble_eq_true rfl) rfl dX11_scan_95 ?_
      refine G.heap (pM_f σ T ow ρ M 20 ((M.1 20) + 1)) ?_
      refine g_goto hx 98 77 dX11_scan_98 (by decide) ?_
      refine g_ls [0] [(0, .ref T)] rfl ?_
      exact ih (setF M 20 ((M.1 20) + 1))  hr
set_option maxRecDepth 100000 in
set_option maxHeartbeats 4000000 in
theorem w_Md_scan_L0 {ρ : Nat} (hρ : ρ < 2) {X : Cx} {l : Launch} {g : Gl} (hx : Ok X l g RX11 cX11_scan 1 md_Md_scan.rm) {σ : Hp} {T : Nat} {ow : Nat → Option Nat} {r : MdM} (hR : Ret X (rs none (putMd σ T ow ρ r)) 0 0 (none)) : ∀ (n : Nat) (M : MdM), Md_scan_L0 ρ n M = some r → G X (putMd σ T ow ρ M) 0 0 0 [(0, .ref T)] [] := by
  intro n
  induction n with
  | zero =>
    intro M hr
    rw [Md_scan_L0] at hr
    cases hr
  | succ n ih =>
    intro M hr
    rw [Md_scan_L0] at hr
    refine g_aload_n hx 0 (i := 0) 0 dX11_scan_0 rfl rfl ?_
    refine g_aload_n hx 1 (i := 0) 0 dX11_scan_1 rfl rfl ?_
    refine g_get hx 2 (C := RX11) (T := TX11) (N := 30) 20 (.int (M.1 20)) (pM_o σ T ow ρ M) rfl (by decide) rfl fl_X11_321 dX11_scan_2 ?_
    obtain ⟨q_1002, eq_1002, hr⟩ := bind_e hr
    refine g_callVr hx (c_Md_byteAt hρ l g σ T ow M (M.1 20) eq_1002) lk_X11_318 ar_Md_byteAt (pM_o σ T ow ρ M) (T := TX11) (N := 30) rfl (As := [.int (M.1 20)]) (rest := []) rfl (Nat.le_of_ble_eq_true rfl) ⟨Nat.le_of_ble_eq_true rfl, Nat.le_of_ble_eq_true rfl⟩ ⟨rfl, rfl⟩ ⟨Nat.zero_le _, Nat.zero_le _⟩ dX11_scan_5 ?_
    refine g_bipush hx 8 (32) dX11_scan_8 rfl ?_
    refine g_icmp_eq hx 10 26 dX11_scan_10 (by decide) (fun hc_1003 => ?_) (fun hc_1003 => ?_)
    · have hr := (if_pos hc_1003).symm.trans hr
      refine g_aload_n hx 26 (i := 0) 0 dX11_scan_26 rfl rfl ?_
      refine g_dup hx 27 dX11_scan_27 rfl ?_
      refine g_get hx 28 (C := RX11) (T := TX11) (N := 30) 20 (.int (M.1 20)) (pM_o σ T ow ρ M) rfl (by decide) rfl fl_X11_321 dX11_scan_28 ?_
      refine g_iconst hx 31 (1) dX11_scan_31 rfl ?_
      refine g_iadd hx 32 dX11_scan_32 ?_
      refine g_put hx 33 (C := RX11) (T := TX11) (N := 30) 20 .int _ (pM_o σ T ow ρ M) rfl (by decide) fl_X11_321 rfl rfl rfl rfl (Nat.le_of_ble_eq_true rfl) rfl dX11_scan_33 ?_
      refine G.heap (pM_f σ T ow ρ M 20 ((M.1 20) + 1)) ?_
      refine g_goto hx 36 0 dX11_scan_36 (by decide) ?_
      refine g_ls [0] [(0, .ref T)] rfl ?_
      exact ih (setF M 20 ((M.1 20) + 1))  hr
    · have hr := (if_neg hc_1003).symm.trans hr
      refine g_aload_n hx 13 (i := 0) 0 dX11_scan_13 rfl rfl ?_
      refine g_aload_n hx 14 (i := 0) 0 dX11_scan_14 rfl rfl ?_
      refine g_get hx 15 (C := RX11) (T := TX11) (N := 30) 20 (.int (M.1 20)) (pM_o σ T ow ρ M) rfl (by decide) rfl fl_X11_321 dX11_scan_15 ?_
      obtain ⟨q_1004, eq_1004, hr⟩ := bind_e hr
      refine g_callVr hx (c_Md_byteAt hρ l g σ T ow M (M.1 20) eq_1004) lk_X11_318 ar_Md_byteAt (pM_o σ T ow ρ M) (T := TX11) (N := 30) rfl (As := [.int (M.1 20)]) (rest := []) rfl (Nat.le_of_ble_eq_true rfl) ⟨Nat.le_of_ble_eq_true rfl, Nat.le_of_ble_eq_true rfl⟩ ⟨rfl, rfl⟩ ⟨Nat.zero_le _, Nat.zero_le _⟩ dX11_scan_18 ?_
      refine g_bipush hx 21 (10) dX11_scan_21 rfl ?_
      refine g_icmp_ne hx 23 39 dX11_scan_23 (by decide) (fun hc_1005 => ?_) (fun hc_1005 => ?_)
      · have hr := (if_neg hc_1005).symm.trans hr
        refine g_aload_n hx 39 (i := 0) 0 dX11_scan_39 rfl rfl ?_
        refine g_aload_n hx 40 (i := 0) 0 dX11_scan_40 rfl rfl ?_
        refine g_get hx 41 (C := RX11) (T := TX11) (N := 30) 20 (.int (M.1 20)) (pM_o σ T ow ρ M) rfl (by decide) rfl fl_X11_321 dX11_scan_41 ?_
        refine g_put hx 44 (C := RX11) (T := TX11) (N := 30) 21 .int _ (pM_o σ T ow ρ M) rfl (by decide) fl_X11_324 rfl rfl rfl rfl (Nat.le_of_ble_eq_true rfl) rfl dX11_scan_44 ?_
        refine G.heap (pM_f σ T ow ρ M 21 (M.1 20)) ?_
        refine g_aload_n hx 47 (i := 0) 0 dX11_scan_47 rfl rfl ?_
        refine g_get hx 48 (C := RX11) (T := TX11) (N := 30) 20 (.int (M.1 20)) (pM_o σ T ow ρ (setF M 21 (M.1 20))) rfl (by decide) rfl fl_X11_321 dX11_scan_48 ?_
        refine g_aload_n hx 51 (i := 0) 0 dX11_scan_51 rfl rfl ?_
        refine g_get hx 52 (C := RX11) (T := TX11) (N := 30) 19 (.int (M.1 19)) (pM_o σ T ow ρ (setF M 21 (M.1 20))) rfl (by decide) rfl fl_X11_315 dX11_scan_52 ?_
        refine g_icmp_lt hx 55 66 dX11_scan_55 (by decide) (fun hc_1006 => ?_) (fun hc_1006 => ?_)
        · have hr := (if_pos hc_1006).symm.trans hr
          refine g_aload_n hx 66 (i := 0) 0 dX11_scan_66 rfl rfl ?_
          refine g_aload_n hx 67 (i := 0) 0 dX11_scan_67 rfl rfl ?_
          refine g_get hx 68 (C := RX11) (T := TX11) (N := 30) 20 (.int (M.1 20)) (pM_o σ T ow ρ (setF M 21 (M.1 20))) rfl (by decide) rfl fl_X11_321 dX11_scan_68 ?_
          obtain ⟨q_1007, eq_1007, hr⟩ := bind_e hr
          refine g_callVr hx (c_Md_isLetter hρ l g σ T ow (setF M 21 (M.1 20)) (M.1 20) eq_1007) lk_X11_330 ar_Md_isLetter (pM_o σ T ow ρ (setF M 21 (M.1 20))) (T := TX11) (N := 30) rfl (As := [.int (M.1 20)]) (rest := []) rfl (Nat.le_of_ble_eq_true rfl) ⟨Nat.le_of_ble_eq_true rfl, Nat.le_of_ble_eq_true rfl⟩ ⟨rfl, rfl⟩ ⟨Nat.zero_le _, Nat.zero_le _⟩ dX11_scan_71 ?_
          refine g_if_eq hx 74 109 dX11_scan_74 (by decide) (fun hc_1008 => ?_) (fun hc_1008 => ?_)
          · have hr := (if_pos hc_1008).symm.trans hr
            refine g_aload_n hx 109 (i := 0) 0 dX11_scan_109 rfl rfl ?_
            refine g_aload_n hx 110 (i := 0) 0 dX11_scan_110 rfl rfl ?_
            refine g_get hx 111 (C := RX11) (T := TX11) (N := 30) 20 (.int (M.1 20)) (pM_o σ T ow ρ (setF M 21 (M.1 20))) rfl (by decide) rfl fl_X11_321 dX11_scan_111 ?_
            obtain ⟨q_1009, eq_1009, hr⟩ := bind_e hr
            refine g_callVr hx (c_Md_isDigit hρ l g σ T ow (setF M 21 (M.1 20)) (M.1 20) eq_1009) lk_X11_333 ar_Md_isDigit (pM_o σ T ow ρ (setF M 21 (M.1 20))) (T := TX11) (N := 30) rfl (As := [.int (M.1 20)]) (rest := []) rfl (Nat.le_of_ble_eq_true rfl) ⟨Nat.le_of_ble_eq_true rfl, Nat.le_of_ble_eq_true rfl⟩ ⟨rfl, rfl⟩ ⟨Nat.zero_le _, Nat.zero_le _⟩ dX11_scan_114 ?_
            refine g_if_eq hx 117 152 dX11_scan_117 (by decide) (fun hc_1010 => ?_) (fun hc_1010 => ?_)
            · have hr := (if_pos hc_1010).symm.trans hr
              refine g_aload_n hx 152 (i := 0) 0 dX11_scan_152 rfl rfl ?_
              refine g_dup hx 153 dX11_scan_153 rfl ?_
              refine g_get hx 154 (C := RX11) (T := TX11) (N := 30) 20 (.int (M.1 20)) (pM_o σ T ow ρ (setF M 21 (M.1 20))) rfl (by decide) rfl fl_X11_321 dX11_scan_154 ?_
              refine g_iconst hx 157 (1) dX11_scan_157 rfl ?_
              refine g_iadd hx 158 dX11_scan_158 ?_
              refine g_put hx 159 (C := RX11) (T := TX11) (N := 30) 20 .int _ (pM_o σ T ow ρ (setF M 21 (M.1 20))) rfl (by decide) fl_X11_321 rfl rfl rfl rfl (Nat.le_of_ble_eq_true rfl) rfl dX11_scan_159 ?_
              refine G.heap (pM_f σ T ow ρ (setF M 21 (M.1 20)) 20 ((M.1 20) + 1)) ?_
              refine g_aload_n hx 162 (i := 0) 0 dX11_scan_162 rfl rfl ?_
              refine g_iconst hx 163 (3) dX11_scan_163 rfl ?_
              refine g_put hx 164 (C := RX11) (T := TX11) (N := 30) 22 .int _ (pM_o σ T ow ρ (setF (setF M 21 (M.1 20)) 20 ((M.1 20) + 1))) rfl (by decide) fl_X11_327 rfl rfl rfl rfl (Nat.le_of_ble_eq_true rfl) rfl dX11_scan_164 ?_
              refine G.heap (pM_f σ T ow ρ (setF (setF M 21 (M.1 20)) 20 ((M.1 20) + 1)) 22 3) ?_
              exact g_vret hx hR 167 dX11_scan_167 ⟨rfl, by rw [← Option.some.inj hr] <;> rfl⟩
            · have hr := (if_neg hc_1010).symm.trans hr
              refine g_ls [0] [(0, .ref T)] rfl ?_
              exact w_Md_scan_L120 hρ hx hR FU (setF M 21 (M.1 20))  hr
          · have hr := (if_neg hc_1008).symm.trans hr
            refine g_ls [0] [(0, .ref T)] rfl ?_
            exact w_Md_scan_L77 hρ hx hR FU (setF M 21 (M.1 20))  hr
        · have hr := (if_neg hc_1006).symm.trans hr
          refine g_aload_n hx 58 (i := 0) 0 dX11_scan_58 rfl rfl ?_
          refine g_iconst hx 59 (0) dX11_scan_59 rfl ?_
          refine g_put hx 60 (C := RX11) (T := TX11) (N := 30) 22 .int _ (pM_o σ T ow ρ (setF M 21 (M.1 20))) rfl (by decide) fl_X11_327 rfl rfl rfl rfl (Nat.le_of_ble_eq_true rfl) rfl dX11_scan_60 ?_
          refine G.heap (pM_f σ T ow ρ (setF M 21 (M.1 20)) 22 0) ?_
          refine g_goto hx 63 167 dX11_scan_63 (by decide) ?_
          exact g_vret hx hR 167 dX11_scan_167 ⟨rfl, by rw [← Option.some.inj hr] <;> rfl⟩
      · have hr := (if_pos hc_1005).symm.trans hr
        refine g_aload_n hx 26 (i := 0) 0 dX11_scan_26 rfl rfl ?_
        refine g_dup hx 27 dX11_scan_27 rfl ?_
        refine g_get hx 28 (C := RX11) (T := TX11) (N := 30) 20 (.int (M.1 20)) (pM_o σ T ow ρ M) rfl (by decide) rfl fl_X11_321 dX11_scan_28 ?_
        refine g_iconst hx 31 (1) dX11_scan_31 rfl ?_
        refine g_iadd hx 32 dX11_scan_32 ?_
        refine g_put hx 33 (C := RX11) (T := TX11) (N := 30) 20 .int _ (pM_o σ T ow ρ M) rfl (by decide) fl_X11_321 rfl rfl rfl rfl (Nat.le_of_ble_eq_true rfl) rfl dX11_scan_33 ?_
        refine G.heap (pM_f σ T ow ρ M 20 ((M.1 20) + 1)) ?_
        refine g_goto hx 36 0 dX11_scan_36 (by decide) ?_
        refine g_ls [0] [(0, .ref T)] rfl ?_
        exact ih (setF M 20 ((M.1 20) + 1))  hr
set_option maxRecDepth 100000 in
set_option maxHeartbeats 4000000 in
theorem c_Md_scan {ρ : Nat} (hρ : ρ < 2) (l : Launch) (g : Gl) (σ : Hp) (T : Nat) (ow : Nat → Option Nat) (M : MdM) {r : MdM} (hr : Md_scan ρ M = some r) : MG l g md_Md_scan [.ref T] (putMd σ T ow ρ M) (rs none (putMd σ T ow ρ r)) := by
  refine MG.intro (by decide +kernel) (Nat.le_of_ble_eq_true rfl) (fun X hx hR _ => ?_)
  unfold Md_scan at hr
  refine g_ls [0] [(0, .ref T)] rfl ?_
  refine g_ls [0] [(0, .ref T)] rfl ?_
  exact w_Md_scan_L0 hρ hx hR FU M  hr
def Md_startText (ρ : Nat) (M : MdM) (p1 : Int32) : Option (MdM) := Option.bind (Md_scan ρ (setF (setF (setF (setF M 19 p1) 20 0) 23 0) 26 0)) fun M_1015 => some (M_1015)
set_option maxRecDepth 100000 in
set_option maxHeartbeats 4000000 in
theorem c_Md_startText {ρ : Nat} (hρ : ρ < 2) (l : Launch) (g : Gl) (σ : Hp) (T : Nat) (ow : Nat → Option Nat) (M : MdM) (p1 : Int32) {r : MdM} (hr : Md_startText ρ M p1 = some r) : MG l g md_Md_startText [.ref T, .int p1] (putMd σ T ow ρ M) (rs none (putMd σ T ow ρ r)) := by
  refine MG.intro (by decide +kernel) (Nat.le_of_ble_eq_true rfl) (fun X hx hR _ => ?_)
  unfold Md_startText at hr
  refine g_ls [0, 1] [(0, .ref T), (1, .int p1)] rfl ?_
  refine g_aload_n hx 0 (i := 0) 0 dX11_startText_0 rfl rfl ?_
  refine g_iload_n hx 1 (i := 1) 1 dX11_startText_1 rfl rfl ?_
  refine g_put hx 2 (C := RX11) (T := TX11) (N := 30) 19 .int _ (pM_o σ T ow ρ M) rfl (by decide) fl_X11_315 rfl rfl rfl rfl (Nat.le_of_ble_eq_true rfl) rfl dX11_startText_2 ?_
  refine G.heap (pM_f σ T ow ρ M 19 p1) ?_
  refine g_aload_n hx 5 (i := 0) 0 dX11_startText_5 rfl rfl ?_
  refine g_iconst hx 6 (0) dX11_startText_6 rfl ?_
  refine g_put hx 7 (C := RX11) (T := TX11) (N := 30) 20 .int _ (pM_o σ T ow ρ (setF M 19 p1)) rfl (by decide) fl_X11_321 rfl rfl rfl rfl (Nat.le_of_ble_eq_true rfl) rfl dX11_startText_7 ?_
  refine G.heap (pM_f σ T ow ρ (setF M 19 p1) 20 0) ?_
  refine g_aload_n hx 10 (i := 0) 0 dX11_startText_10 rfl rfl ?_
  refine g_iconst hx 11 (0) dX11_startText_11 rfl ?_
  refine g_put hx 12 (C := RX11) (T := TX11) (N := 30) 23 .int _ (pM_o σ T ow ρ (setF (setF M 19 p1) 20 0)) rfl (by decide) fl_X11_336 rfl rfl rfl rfl (Nat.le_of_ble_eq_true rfl) rfl dX11_startText_12 ?_
  refine G.heap (pM_f σ T ow ρ (setF (setF M 19 p1) 20 0) 23 0) ?_
  refine g_aload_n hx 15 (i := 0) 0 dX11_startText_15 rfl rfl ?_
  refine g_iconst hx 16 (0) dX11_startText_16 rfl ?_
  refine g_put hx 17 (C := RX11) (T := TX11) (N := 30) 26 .int _ (pM_o σ T ow ρ (setF (setF (setF M 19 p1) 20 0) 23 0)) rfl (by decide) fl_X11_339 rfl rfl rfl rfl (Nat.le_of_ble_eq_true rfl) rfl dX11_startText_17 ?_
  refine G.heap (pM_f σ T ow ρ (setF (setF (setF M 19 p1) 20 0) 23 0) 26 0) ?_
  refine g_aload_n hx 20 (i := 0) 0 dX11_startText_20 rfl rfl ?_
  obtain ⟨M_1015, eM_1015, hr⟩ := bind_e hr
  refine g_callVv hx (c_Md_scan hρ l g σ T ow (setF (setF (setF (setF M 19 p1) 20 0) 23 0) 26 0) eM_1015) lk_X11_342 ar_Md_scan (pM_o σ T ow ρ (setF (setF (setF (setF M 19 p1) 20 0) 23 0) 26 0)) (T := TX11) (N := 30) rfl (As := []) (rest := []) rfl (Nat.le_of_ble_eq_true rfl) ⟨Nat.le_of_ble_eq_true rfl, Nat.le_of_ble_eq_true rfl⟩ ⟨rfl, rfl⟩ ⟨Nat.zero_le _, Nat.zero_le _⟩ dX11_startText_21 ?_
  exact g_vret hx hR 24 dX11_startText_24 ⟨rfl, by rw [← Option.some.inj hr] <;> rfl⟩
def Md_finish (ρ : Nat) (M : MdM) : Int32 × MdM := if M.1 23 = 0 then ((M.1 23, setF (setF M 18 0) 25 (-1))) else ((M.1 23, setF (setF M 18 0) 25 (M.1 24)))
set_option maxRecDepth 100000 in
set_option maxHeartbeats 4000000 in
theorem c_Md_finish {ρ : Nat} (hρ : ρ < 2) (l : Launch) (g : Gl) (σ : Hp) (T : Nat) (ow : Nat → Option Nat) (M : MdM) {r : Int32 × MdM} (hr : Md_finish ρ M = r) : MG l g md_Md_finish [.ref T] (putMd σ T ow ρ M) (rs (some (.int r.1)) (putMd σ T ow ρ r.2)) := by
  refine MG.intro (by decide +kernel) (Nat.le_of_ble_eq_true rfl) (fun X hx hR _ => ?_)
  unfold Md_finish at hr
  refine g_ls [0] [(0, .ref T)] rfl ?_
  refine g_aload_n hx 0 (i := 0) 0 dX11_finish_0 rfl rfl ?_
  refine g_iconst hx 1 (0) dX11_finish_1 rfl ?_
  refine g_put hx 2 (C := RX11) (T := TX11) (N := 30) 18 .int _ (pM_o σ T ow ρ M) rfl (by decide) fl_X11_312 rfl rfl rfl rfl (Nat.le_of_ble_eq_true rfl) rfl dX11_finish_2 ?_
  refine G.heap (pM_f σ T ow ρ M 18 0) ?_
  refine g_aload_n hx 5 (i := 0) 0 dX11_finish_5 rfl rfl ?_
  refine g_aload_n hx 6 (i := 0) 0 dX11_finish_6 rfl rfl ?_
  refine g_get hx 7 (C := RX11) (T := TX11) (N := 30) 23 (.int (M.1 23)) (pM_o σ T ow ρ (setF M 18 0)) rfl (by decide) rfl fl_X11_336 dX11_finish_7 ?_
  refine g_if_ne hx 10 17 dX11_finish_10 (by decide) (fun hc_1016 => ?_) (fun hc_1016 => ?_)
  · have hr := (if_neg hc_1016).symm.trans hr
    refine g_aload_n hx 17 (i := 0) 0 dX11_finish_17 rfl rfl ?_
    refine g_get hx 18 (C := RX11) (T := TX11) (N := 30) 24 (.int (M.1 24)) (pM_o σ T ow ρ (setF M 18 0)) rfl (by decide) rfl fl_X11_345 dX11_finish_18 ?_
    refine g_put hx 21 (C := RX11) (T := TX11) (N := 30) 25 .int _ (pM_o σ T ow ρ (setF M 18 0)) rfl (by decide) fl_X11_46 rfl rfl rfl rfl (Nat.le_of_ble_eq_true rfl) rfl dX11_finish_21 ?_
    refine G.heap (pM_f σ T ow ρ (setF M 18 0) 25 (M.1 24)) ?_
    refine g_aload_n hx 24 (i := 0) 0 dX11_finish_24 rfl rfl ?_
    refine g_get hx 25 (C := RX11) (T := TX11) (N := 30) 23 (.int (M.1 23)) (pM_o σ T ow ρ (setF (setF M 18 0) 25 (M.1 24))) rfl (by decide) rfl fl_X11_336 dX11_finish_25 ?_
    exact g_iret hx hR 28 dX11_finish_28 ⟨by rw [← hr] <;> rfl, by rw [← hr] <;> rfl⟩
  · have hr := (if_pos hc_1016).symm.trans hr
    refine g_iconst hx 13 (-1) dX11_finish_13 rfl ?_
    refine g_goto hx 14 21 dX11_finish_14 (by decide) ?_
    refine g_put hx 21 (C := RX11) (T := TX11) (N := 30) 25 .int _ (pM_o σ T ow ρ (setF M 18 0)) rfl (by decide) fl_X11_46 rfl rfl rfl rfl (Nat.le_of_ble_eq_true rfl) rfl dX11_finish_21 ?_
    refine G.heap (pM_f σ T ow ρ (setF M 18 0) 25 (-1)) ?_
    refine g_aload_n hx 24 (i := 0) 0 dX11_finish_24 rfl rfl ?_
    refine g_get hx 25 (C := RX11) (T := TX11) (N := 30) 23 (.int (M.1 23)) (pM_o σ T ow ρ (setF (setF M 18 0) 25 (-1))) rfl (by decide) rfl fl_X11_336 dX11_finish_25 ?_
    exact g_iret hx hR 28 dX11_finish_28 ⟨by rw [← hr] <;> rfl, by rw [← hr] <;> rfl⟩
def Md_demand (ρ : Nat) (M : MdM) (p1 p2 : Int32) : MdM := if p1 = 0 then (if M.1 23 = 0 then (setF (setF M 23 p2) 24 (M.1 21)) else (M)) else (M)
set_option maxRecDepth 100000 in
set_option maxHeartbeats 4000000 in
theorem c_Md_demand {ρ : Nat} (hρ : ρ < 2) (l : Launch) (g : Gl) (σ : Hp) (T : Nat) (ow : Nat → Option Nat) (M : MdM) (p1 p2 : Int32) {r : MdM} (hr : Md_demand ρ M p1 p2 = r) : MG l g md_Md_demand [.ref T, .int p1, .int p2] (putMd σ T ow ρ M) (rs none (putMd σ T ow ρ r)) := by
  refine MG.intro (by decide +kernel) (Nat.le_of_ble_eq_true rfl) (fun X hx hR _ => ?_)
  unfold Md_demand at hr
  refine g_ls [0, 1, 2] [(0, .ref T), (1, .int p1), (2, .int p2)] rfl ?_
  refine g_iload_n hx 0 (i := 1) 1 dX11_demand_0 rfl rfl ?_
  refine g_if_ne hx 1 24 dX11_demand_1 (by decide) (fun hc_1017 => ?_) (fun hc_1017 => ?_)
  · have hr := (if_neg hc_1017).symm.trans hr
    exact g_vret hx hR 24 dX11_demand_24 ⟨rfl, by rw [← hr] <;> rfl⟩
  · have hr := (if_pos hc_1017).symm.trans hr
    refine g_aload_n hx 4 (i := 0) 0 dX11_demand_4 rfl rfl ?_
    refine g_get hx 5 (C := RX11) (T := TX11) (N := 30) 23 (.int (M.1 23)) (pM_o σ T ow ρ M) rfl (by decide) rfl fl_X11_336 dX11_demand_5 ?_
    refine g_if_ne hx 8 24 dX11_demand_8 (by decide) (fun hc_1018 => ?_) (fun hc_1018 => ?_)
    · have hr := (if_neg hc_1018).symm.trans hr
      exact g_vret hx hR 24 dX11_demand_24 ⟨rfl, by rw [← hr] <;> rfl⟩
    · have hr := (if_pos hc_1018).symm.trans hr
      refine g_aload_n hx 11 (i := 0) 0 dX11_demand_11 rfl rfl ?_
      refine g_iload_n hx 12 (i := 2) 2 dX11_demand_12 rfl rfl ?_
      refine g_put hx 13 (C := RX11) (T := TX11) (N := 30) 23 .int _ (pM_o σ T ow ρ M) rfl (by decide) fl_X11_336 rfl rfl rfl rfl (Nat.le_of_ble_eq_true rfl) rfl dX11_demand_13 ?_
      refine G.heap (pM_f σ T ow ρ M 23 p2) ?_
      refine g_aload_n hx 16 (i := 0) 0 dX11_demand_16 rfl rfl ?_
      refine g_aload_n hx 17 (i := 0) 0 dX11_demand_17 rfl rfl ?_
      refine g_get hx 18 (C := RX11) (T := TX11) (N := 30) 21 (.int (M.1 21)) (pM_o σ T ow ρ (setF M 23 p2)) rfl (by decide) rfl fl_X11_324 dX11_demand_18 ?_
      refine g_put hx 21 (C := RX11) (T := TX11) (N := 30) 24 .int _ (pM_o σ T ow ρ (setF M 23 p2)) rfl (by decide) fl_X11_345 rfl rfl rfl rfl (Nat.le_of_ble_eq_true rfl) rfl dX11_demand_21 ?_
      refine G.heap (pM_f σ T ow ρ (setF M 23 p2) 24 (M.1 21)) ?_
      exact g_vret hx hR 24 dX11_demand_24 ⟨rfl, by rw [← hr] <;> rfl⟩
def Md_advance (ρ : Nat) (M : MdM) : Option (MdM) := if M.1 23 = 0 then (Option.bind (Md_scan ρ M) fun M_1020 => some (M_1020)) else (some (M))
set_option maxRecDepth 100000 in
set_option maxHeartbeats 4000000 in
theorem c_Md_advance {ρ : Nat} (hρ : ρ < 2) (l : Launch) (g : Gl) (σ : Hp) (T : Nat) (ow : Nat → Option Nat) (M : MdM) {r : MdM} (hr : Md_advance ρ M = some r) : MG l g md_Md_advance [.ref T] (putMd σ T ow ρ M) (rs none (putMd σ T ow ρ r)) := by
  refine MG.intro (by decide +kernel) (Nat.le_of_ble_eq_true rfl) (fun X hx hR _ => ?_)
  unfold Md_advance at hr
  refine g_ls [0] [(0, .ref T)] rfl ?_
  refine g_aload_n hx 0 (i := 0) 0 dX11_advance_0 rfl rfl ?_
  refine g_get hx 1 (C := RX11) (T := TX11) (N := 30) 23 (.int (M.1 23)) (pM_o σ T ow ρ M) rfl (by decide) rfl fl_X11_336 dX11_advance_1 ?_
  refine g_if_ne hx 4 11 dX11_advance_4 (by decide) (fun hc_1019 => ?_) (fun hc_1019 => ?_)
  · have hr := (if_neg hc_1019).symm.trans hr
    exact g_vret hx hR 11 dX11_advance_11 ⟨rfl, by rw [← Option.some.inj hr] <;> rfl⟩
  · have hr := (if_pos hc_1019).symm.trans hr
    refine g_aload_n hx 7 (i := 0) 0 dX11_advance_7 rfl rfl ?_
    obtain ⟨M_1020, eM_1020, hr⟩ := bind_e hr
    refine g_callVv hx (c_Md_scan hρ l g σ T ow M eM_1020) lk_X11_342 ar_Md_scan (pM_o σ T ow ρ M) (T := TX11) (N := 30) rfl (As := []) (rest := []) rfl (Nat.le_of_ble_eq_true rfl) ⟨Nat.le_of_ble_eq_true rfl, Nat.le_of_ble_eq_true rfl⟩ ⟨rfl, rfl⟩ ⟨Nat.zero_le _, Nat.zero_le _⟩ dX11_advance_8 ?_
    exact g_vret hx hR 11 dX11_advance_11 ⟨rfl, by rw [← Option.some.inj hr] <;> rfl⟩
def Md_isSymbol (ρ : Nat) (M : MdM) (p1 : Int32) : Option (Int32) := if M.1 23 = 0 then (if M.1 22 = 3 then (if inB (M.1 21) 700 then (if (M.2 10) (M.1 21).toNatClampNeg = p1 then (some (1)) else (some (0))) else none) else (some (0))) else (some (0))
set_option maxRecDepth 100000 in
set_option maxHeartbeats 4000000 in
theorem c_Md_isSymbol {ρ : Nat} (hρ : ρ < 2) (l : Launch) (g : Gl) (σ : Hp) (T : Nat) (ow : Nat → Option Nat) (M : MdM) (p1 : Int32) {r : Int32} (hr : Md_isSymbol ρ M p1 = some r) : MG l g md_Md_isSymbol [.ref T, .int p1] (putMd σ T ow ρ M) (rs (some (.int r)) (putMd σ T ow ρ M)) := by
  refine MG.intro (by decide +kernel) (Nat.le_of_ble_eq_true rfl) (fun X hx hR _ => ?_)
  unfold Md_isSymbol at hr
  refine g_ls [0, 1] [(0, .ref T), (1, .int p1)] rfl ?_
  refine g_aload_n hx 0 (i := 0) 0 dX11_isSymbol_0 rfl rfl ?_
  refine g_get hx 1 (C := RX11) (T := TX11) (N := 30) 23 (.int (M.1 23)) (pM_o σ T ow ρ M) rfl (by decide) rfl fl_X11_336 dX11_isSymbol_1 ?_
  refine g_if_ne hx 4 32 dX11_isSymbol_4 (by decide) (fun hc_1021 => ?_) (fun hc_1021 => ?_)
  · have hr := (if_neg hc_1021).symm.trans hr
    refine g_iconst hx 32 (0) dX11_isSymbol_32 rfl ?_
    exact g_zret hx hR 33 (Or.inl rfl) dX11_isSymbol_33 ⟨by rw [← Option.some.inj hr] <;> rfl, rfl⟩
  · have hr := (if_pos hc_1021).symm.trans hr
    refine g_aload_n hx 7 (i := 0) 0 dX11_isSymbol_7 rfl rfl ?_
    refine g_get hx 8 (C := RX11) (T := TX11) (N := 30) 22 (.int (M.1 22)) (pM_o σ T ow ρ M) rfl (by decide) rfl fl_X11_327 dX11_isSymbol_8 ?_
    refine g_iconst hx 11 (3) dX11_isSymbol_11 rfl ?_
    refine g_icmp_ne hx 12 32 dX11_isSymbol_12 (by decide) (fun hc_1022 => ?_) (fun hc_1022 => ?_)
    · have hr := (if_neg hc_1022).symm.trans hr
      refine g_iconst hx 32 (0) dX11_isSymbol_32 rfl ?_
      exact g_zret hx hR 33 (Or.inl rfl) dX11_isSymbol_33 ⟨by rw [← Option.some.inj hr] <;> rfl, rfl⟩
    · have hr := (if_pos hc_1022).symm.trans hr
      refine g_aload_n hx 15 (i := 0) 0 dX11_isSymbol_15 rfl rfl ?_
      refine g_get hx 16 (C := RX11) (T := TX11) (N := 30) 17 (.ref (T + 11)) (pM_o σ T ow ρ M) rfl (by decide) rfl fl_X11_43 dX11_isSymbol_16 ?_
      refine g_aload_n hx 19 (i := 0) 0 dX11_isSymbol_19 rfl rfl ?_
      refine g_get hx 20 (C := RX11) (T := TX11) (N := 30) 21 (.int (M.1 21)) (pM_o σ T ow ρ M) rfl (by decide) rfl fl_X11_324 dX11_isSymbol_20 ?_
      obtain ⟨hb_1023, hr⟩ := ob hr
      refine g_iald hx 23 (pM_a σ T ow ρ M 10 (by decide)) hb_1023 dX11_isSymbol_23 ?_
      refine g_iload_n hx 24 (i := 1) 1 dX11_isSymbol_24 rfl rfl ?_
      refine g_icmp_ne hx 25 32 dX11_isSymbol_25 (by decide) (fun hc_1024 => ?_) (fun hc_1024 => ?_)
      · have hr := (if_neg hc_1024).symm.trans hr
        refine g_iconst hx 32 (0) dX11_isSymbol_32 rfl ?_
        exact g_zret hx hR 33 (Or.inl rfl) dX11_isSymbol_33 ⟨by rw [← Option.some.inj hr] <;> rfl, rfl⟩
      · have hr := (if_pos hc_1024).symm.trans hr
        refine g_iconst hx 28 (1) dX11_isSymbol_28 rfl ?_
        refine g_goto hx 29 33 dX11_isSymbol_29 (by decide) ?_
        exact g_zret hx hR 33 (Or.inr rfl) dX11_isSymbol_33 ⟨by rw [← Option.some.inj hr] <;> rfl, rfl⟩
def Md_expect (ρ : Nat) (M : MdM) (p1 : Int32) : Option (MdM) := Option.bind (Md_isSymbol ρ M p1) fun q_1025 => lt' (Md_demand ρ M q_1025 1) fun M_1026 => Option.bind (Md_advance ρ M_1026) fun M_1027 => some (M_1027)
set_option maxRecDepth 100000 in
set_option maxHeartbeats 4000000 in
theorem c_Md_expect {ρ : Nat} (hρ : ρ < 2) (l : Launch) (g : Gl) (σ : Hp) (T : Nat) (ow : Nat → Option Nat) (M : MdM) (p1 : Int32) {r : MdM} (hr : Md_expect ρ M p1 = some r) : MG l g md_Md_expect [.ref T, .int p1] (putMd σ T ow ρ M) (rs none (putMd σ T ow ρ r)) := by
  refine MG.intro (by decide +kernel) (Nat.le_of_ble_eq_true rfl) (fun X hx hR _ => ?_)
  unfold Md_expect at hr
  refine g_ls [0, 1] [(0, .ref T), (1, .int p1)] rfl ?_
  refine g_aload_n hx 0 (i := 0) 0 dX11_expect_0 rfl rfl ?_
  refine g_aload_n hx 1 (i := 0) 0 dX11_expect_1 rfl rfl ?_
  refine g_iload_n hx 2 (i := 1) 1 dX11_expect_2 rfl rfl ?_
  obtain ⟨q_1025, eq_1025, hr⟩ := bind_e hr
  refine g_callVr hx (c_Md_isSymbol hρ l g σ T ow M p1 eq_1025) lk_X11_359 ar_Md_isSymbol (pM_o σ T ow ρ M) (T := TX11) (N := 30) rfl (As := [.int p1]) (rest := [.ref T]) rfl (Nat.le_of_ble_eq_true rfl) ⟨Nat.le_of_ble_eq_true rfl, Nat.le_of_ble_eq_true rfl⟩ ⟨rfl, rfl⟩ ⟨Nat.zero_le _, Nat.zero_le _⟩ dX11_expect_3 ?_
  refine g_iconst hx 6 (1) dX11_expect_6 rfl ?_
  obtain ⟨M_1026, eM_1026, hr⟩ := lt'_e hr
  refine g_callVv hx (c_Md_demand hρ l g σ T ow M q_1025 1 eM_1026.symm) lk_X11_362 ar_Md_demand (pM_o σ T ow ρ M) (T := TX11) (N := 30) rfl (As := [.int q_1025, .int 1]) (rest := []) rfl (Nat.le_of_ble_eq_true rfl) ⟨Nat.le_of_ble_eq_true rfl, Nat.le_of_ble_eq_true rfl⟩ ⟨rfl, rfl⟩ ⟨Nat.zero_le _, Nat.zero_le _⟩ dX11_expect_7 ?_
  refine g_aload_n hx 10 (i := 0) 0 dX11_expect_10 rfl rfl ?_
  obtain ⟨M_1027, eM_1027, hr⟩ := bind_e hr
  refine g_callVv hx (c_Md_advance hρ l g σ T ow M_1026 eM_1027) lk_X11_366 ar_Md_advance (pM_o σ T ow ρ M_1026) (T := TX11) (N := 30) rfl (As := []) (rest := []) rfl (Nat.le_of_ble_eq_true rfl) ⟨Nat.le_of_ble_eq_true rfl, Nat.le_of_ble_eq_true rfl⟩ ⟨rfl, rfl⟩ ⟨Nat.zero_le _, Nat.zero_le _⟩ dX11_expect_11 ?_
  exact g_vret hx hR 14 dX11_expect_14 ⟨rfl, by rw [← Option.some.inj hr] <;> rfl⟩
def Md_value_L7 (ρ : Nat) (M : MdM) : Nat → Int32 → Int32 → Option (Int32)
  | 0, _, _ => none
  | n + 1, v1_1029, v2_1030 => if M.1 20 ≤ v2_1030 then (some (v1_1029)) else (if M.1 22 = 2 then (if v1_1029 ≤ 9999999 then (if inB v2_1030 700 then (lt' (((10 * v1_1029) + ((M.2 10) v2_1030.toNatClampNeg)) - 48) fun v1_1035 => Md_value_L7 ρ M n v1_1035 (v2_1030 + 1)) else none) else (Md_value_L7 ρ M n v1_1029 (v2_1030 + 1))) else (some (v1_1029)))
def Md_value (ρ : Nat) (M : MdM) : Option (Int32) := lt' (M.1 21) fun v2_1028 => Md_value_L7 ρ M FU 0 v2_1028
set_option maxRecDepth 100000 in
set_option maxHeartbeats 4000000 in
theorem w_Md_value_L7 {ρ : Nat} (hρ : ρ < 2) {X : Cx} {l : Launch} {g : Gl} (hx : Ok X l g RX11 cX11_value 3 md_Md_value.rm) {σ : Hp} {T : Nat} {ow : Nat → Option Nat} {M : MdM} {r : Int32} (hR : Ret X (rs (some (.int r)) (putMd σ T ow ρ M)) 0 0 (some .int)) : ∀ (n : Nat) (v1_1029 v2_1030 : Int32), Md_value_L7 ρ M n v1_1029 v2_1030 = some r → G X (putMd σ T ow ρ M) 0 0 7 [(0, .ref T), (1, .int v1_1029), (2, .int v2_1030)] [] := by
  intro n
  induction n with
  | zero =>
    intro v1_1029 v2_1030 hr
    rw [Md_value_L7] at hr
    cases hr
  | succ n ih =>
    intro v1_1029 v2_1030 hr
    rw [Md_value_L7] at hr
    refine g_iload_n hx 7 (i := 2) 2 dX11_value_7 rfl rfl ?_
    refine g_aload_n hx 8 (i := 0) 0 dX11_value_8 rfl rfl ?_
    refine g_get hx 9 (C := RX11) (T := TX11) (N := 30) 20 (.int (M.1 20)) (pM_o σ T ow ρ M) rfl (by decide) rfl fl_X11_321 dX11_value_9 ?_
    refine g_icmp_ge hx 12 55 dX11_value_12 (by decide) (fun hc_1031 => ?_) (fun hc_1031 => ?_)
    · have hr := (if_pos hc_1031).symm.trans hr
      refine g_iload_n hx 55 (i := 1) 1 dX11_value_55 rfl rfl ?_
      exact g_iret hx hR 56 dX11_value_56 ⟨by rw [← Option.some.inj hr] <;> rfl, rfl⟩
    · have hr := (if_neg hc_1031).symm.trans hr
      refine g_aload_n hx 15 (i := 0) 0 dX11_value_15 rfl rfl ?_
      refine g_get hx 16 (C := RX11) (T := TX11) (N := 30) 22 (.int (M.1 22)) (pM_o σ T ow ρ M) rfl (by decide) rfl fl_X11_327 dX11_value_16 ?_
      refine g_iconst hx 19 (2) dX11_value_19 rfl ?_
      refine g_icmp_ne hx 20 55 dX11_value_20 (by decide) (fun hc_1032 => ?_) (fun hc_1032 => ?_)
      · have hr := (if_neg hc_1032).symm.trans hr
        refine g_iload_n hx 55 (i := 1) 1 dX11_value_55 rfl rfl ?_
        exact g_iret hx hR 56 dX11_value_56 ⟨by rw [← Option.some.inj hr] <;> rfl, rfl⟩
      · have hr := (if_pos hc_1032).symm.trans hr
        refine g_iload_n hx 23 (i := 1) 1 dX11_value_23 rfl rfl ?_
        refine g_ldcw hx 24 cn_X11_369 dX11_value_24 ?_
        refine g_icmp_le hx 27 34 dX11_value_27 (by decide) (fun hc_1033 => ?_) (fun hc_1033 => ?_)
        · have hr := (if_pos hc_1033).symm.trans hr
          refine g_bipush hx 34 (10) dX11_value_34 rfl ?_
          refine g_iload_n hx 36 (i := 1) 1 dX11_value_36 rfl rfl ?_
          refine g_imul hx 37 dX11_value_37 ?_
          refine g_aload_n hx 38 (i := 0) 0 dX11_value_38 rfl rfl ?_
          refine g_get hx 39 (C := RX11) (T := TX11) (N := 30) 17 (.ref (T + 11)) (pM_o σ T ow ρ M) rfl (by decide) rfl fl_X11_43 dX11_value_39 ?_
          refine g_iload_n hx 42 (i := 2) 2 dX11_value_42 rfl rfl ?_
          obtain ⟨hb_1034, hr⟩ := ob hr
          refine g_iald hx 43 (pM_a σ T ow ρ M 10 (by decide)) hb_1034 dX11_value_43 ?_
          refine g_iadd hx 44 dX11_value_44 ?_
          refine g_bipush hx 45 (48) dX11_value_45 rfl ?_
          refine g_isub hx 47 dX11_value_47 ?_
          obtain ⟨v1_1035, ev1_1035, hr⟩ := lt'_e hr
          refine g_nmi ev1_1035 ?_
          refine g_istore_n hx 48 (i := 1) [(1, .int v1_1035), (0, .ref T), (2, .int v2_1030)] dX11_value_48 rfl (by decide) rfl ?_
          refine g_iinc hx 49 (i := 2) 2 (v2_1030 + 1) [(2, .int (v2_1030 + 1)), (1, .int v1_1035), (0, .ref T)] dX11_value_49 rfl rfl (by decide) rfl ?_
          refine g_goto hx 52 7 dX11_value_52 (by decide) ?_
          refine g_ls [2, 1, 0] [(0, .ref T), (1, .int v1_1035), (2, .int (v2_1030 + 1))] rfl ?_
          exact ih v1_1035 (v2_1030 + 1) hr
        · have hr := (if_neg hc_1033).symm.trans hr
          refine g_iload_n hx 30 (i := 1) 1 dX11_value_30 rfl rfl ?_
          refine g_goto hx 31 48 dX11_value_31 (by decide) ?_
          refine g_istore_n hx 48 (i := 1) [(1, .int v1_1029), (0, .ref T), (2, .int v2_1030)] dX11_value_48 rfl (by decide) rfl ?_
          refine g_iinc hx 49 (i := 2) 2 (v2_1030 + 1) [(2, .int (v2_1030 + 1)), (1, .int v1_1029), (0, .ref T)] dX11_value_49 rfl rfl (by decide) rfl ?_
          refine g_goto hx 52 7 dX11_value_52 (by decide) ?_
          refine g_ls [2, 1, 0] [(0, .ref T), (1, .int v1_1029), (2, .int (v2_1030 + 1))] rfl ?_
          exact ih v1_1029 (v2_1030 + 1) hr
set_option maxRecDepth 100000 in
set_option maxHeartbeats 4000000 in
theorem c_Md_value {ρ : Nat} (hρ : ρ < 2) (l : Launch) (g : Gl) (σ : Hp) (T : Nat) (ow : Nat → Option Nat) (M : MdM) {r : Int32} (hr : Md_value ρ M = some r) : MG l g md_Md_value [.ref T] (putMd σ T ow ρ M) (rs (some (.int r)) (putMd σ T ow ρ M)) := by
  refine MG.intro (by decide +kernel) (Nat.le_of_ble_eq_true rfl) (fun X hx hR _ => ?_)
  unfold Md_value at hr
  refine g_ls [0] [(0, .ref T)] rfl ?_
  refine g_iconst hx 0 (0) dX11_value_0 rfl ?_
  refine g_istore_n hx 1 (i := 1) [(1, .int 0), (0, .ref T)] dX11_value_1 rfl (by decide) rfl ?_
  refine g_aload_n hx 2 (i := 0) 1 dX11_value_2 rfl rfl ?_
  refine g_get hx 3 (C := RX11) (T := TX11) (N := 30) 21 (.int (M.1 21)) (pM_o σ T ow ρ M) rfl (by decide) rfl fl_X11_324 dX11_value_3 ?_
  obtain ⟨v2_1028, ev2_1028, hr⟩ := lt'_e hr
  refine g_nmi ev2_1028 ?_
  refine g_istore_n hx 6 (i := 2) [(2, .int v2_1028), (1, .int 0), (0, .ref T)] dX11_value_6 rfl (by decide) rfl ?_
  refine g_ls [2, 1, 0] [(0, .ref T), (1, .int 0), (2, .int v2_1028)] rfl ?_
  exact w_Md_value_L7 hρ hx hR FU 0 v2_1028 hr
def Md_look (ρ : Nat) (M : MdM) (p1 p2 : Int32) : Option (Int32 × MdM) := if M.1 22 = 2 then (lt' (Md_demand ρ M 1 1) fun M_1037 => Option.bind (Md_value ρ M_1037) fun q_1038 => lt' (Md_demand ρ M_1037 (Md_inRange q_1038 p1 p2) 2) fun M_1039 => if M_1039.1 23 = 0 then (some ((q_1038, M_1039))) else (some ((p1, M_1039)))) else (lt' (Md_demand ρ M 0 1) fun M_1041 => Option.bind (Md_value ρ M_1041) fun q_1042 => lt' (Md_demand ρ M_1041 (Md_inRange q_1042 p1 p2) 2) fun M_1043 => if M_1043.1 23 = 0 then (some ((q_1042, M_1043))) else (some ((p1, M_1043))))
set_option maxRecDepth 100000 in
set_option maxHeartbeats 4000000 in
theorem c_Md_look {ρ : Nat} (hρ : ρ < 2) (l : Launch) (g : Gl) (σ : Hp) (T : Nat) (ow : Nat → Option Nat) (M : MdM) (p1 p2 : Int32) {r : Int32 × MdM} (hr : Md_look ρ M p1 p2 = some r) : MG l g md_Md_look [.ref T, .int p1, .int p2] (putMd σ T ow ρ M) (rs (some (.int r.1)) (putMd σ T ow ρ r.2)) := by
  refine MG.intro (by decide +kernel) (Nat.le_of_ble_eq_true rfl) (fun X hx hR _ => ?_)
  unfold Md_look at hr
  refine g_ls [0, 1, 2] [(0, .ref T), (1, .int p1), (2, .int p2)] rfl ?_
  refine g_aload_n hx 0 (i := 0) 0 dX11_look_0 rfl rfl ?_
  refine g_aload_n hx 1 (i := 0) 0 dX11_look_1 rfl rfl ?_
  refine g_get hx 2 (C := RX11) (T := TX11) (N := 30) 22 (.int (M.1 22)) (pM_o σ T ow ρ M) rfl (by decide) rfl fl_X11_327 dX11_look_2 ?_
  refine g_iconst hx 5 (2) dX11_look_5 rfl ?_
  refine g_icmp_ne hx 6 13 dX11_look_6 (by decide) (fun hc_1036 => ?_) (fun hc_1036 => ?_)
  · have hr := (if_neg hc_1036).symm.trans hr
    refine g_iconst hx 13 (0) dX11_look_13 rfl ?_
    refine g_iconst hx 14 (1) dX11_look_14 rfl ?_
    obtain ⟨M_1041, eM_1041, hr⟩ := lt'_e hr
    refine g_callVv hx (c_Md_demand hρ l g σ T ow M 0 1 eM_1041.symm) lk_X11_362 ar_Md_demand (pM_o σ T ow ρ M) (T := TX11) (N := 30) rfl (As := [.int 0, .int 1]) (rest := []) rfl (Nat.le_of_ble_eq_true rfl) ⟨Nat.le_of_ble_eq_true rfl, Nat.le_of_ble_eq_true rfl⟩ ⟨rfl, rfl⟩ ⟨Nat.zero_le _, Nat.zero_le _⟩ dX11_look_15 ?_
    refine g_aload_n hx 18 (i := 0) 0 dX11_look_18 rfl rfl ?_
    obtain ⟨q_1042, eq_1042, hr⟩ := bind_e hr
    refine g_callVr hx (c_Md_value hρ l g σ T ow M_1041 eq_1042) lk_X11_370 ar_Md_value (pM_o σ T ow ρ M_1041) (T := TX11) (N := 30) rfl (As := []) (rest := []) rfl (Nat.le_of_ble_eq_true rfl) ⟨Nat.le_of_ble_eq_true rfl, Nat.le_of_ble_eq_true rfl⟩ ⟨rfl, rfl⟩ ⟨Nat.zero_le _, Nat.zero_le _⟩ dX11_look_19 ?_
    refine g_istore_n hx 22 (i := 3) [(3, .int q_1042), (0, .ref T), (1, .int p1), (2, .int p2)] dX11_look_22 rfl (by decide) rfl ?_
    refine g_aload_n hx 23 (i := 0) 1 dX11_look_23 rfl rfl ?_
    refine g_iload_n hx 24 (i := 3) 0 dX11_look_24 rfl rfl ?_
    refine g_iload_n hx 25 (i := 1) 2 dX11_look_25 rfl rfl ?_
    refine g_iload_n hx 26 (i := 2) 3 dX11_look_26 rfl rfl ?_
    refine g_callSr hx (c_Md_inRange l g _ q_1042 p1 p2 rfl) lk_X11_91 ar_Md_inRange (As := [.int q_1042, .int p1, .int p2]) (rest := [.ref T]) rfl (Nat.le_of_ble_eq_true rfl) ⟨Nat.le_of_ble_eq_true rfl, Nat.le_of_ble_eq_true rfl⟩ ⟨rfl, rfl⟩ ⟨Nat.zero_le _, Nat.zero_le _⟩ dX11_look_27 ?_
    refine g_iconst hx 30 (2) dX11_look_30 rfl ?_
    obtain ⟨M_1043, eM_1043, hr⟩ := lt'_e hr
    refine g_callVv hx (c_Md_demand hρ l g σ T ow M_1041 (Md_inRange q_1042 p1 p2) 2 eM_1043.symm) lk_X11_362 ar_Md_demand (pM_o σ T ow ρ M_1041) (T := TX11) (N := 30) rfl (As := [.int (Md_inRange q_1042 p1 p2), .int 2]) (rest := []) rfl (Nat.le_of_ble_eq_true rfl) ⟨Nat.le_of_ble_eq_true rfl, Nat.le_of_ble_eq_true rfl⟩ ⟨rfl, rfl⟩ ⟨Nat.zero_le _, Nat.zero_le _⟩ dX11_look_31 ?_
    refine g_aload_n hx 34 (i := 0) 1 dX11_look_34 rfl rfl ?_
    refine g_get hx 35 (C := RX11) (T := TX11) (N := 30) 23 (.int (M_1043.1 23)) (pM_o σ T ow ρ M_1043) rfl (by decide) rfl fl_X11_336 dX11_look_35 ?_
    refine g_if_ne hx 38 45 dX11_look_38 (by decide) (fun hc_1044 => ?_) (fun hc_1044 => ?_)
    · have hr := (if_neg hc_1044).symm.trans hr
      refine g_iload_n hx 45 (i := 1) 2 dX11_look_45 rfl rfl ?_
      exact g_iret hx hR 46 dX11_look_46 ⟨by rw [← Option.some.inj hr] <;> rfl, by rw [← Option.some.inj hr] <;> rfl⟩
    · have hr := (if_pos hc_1044).symm.trans hr
      refine g_iload_n hx 41 (i := 3) 0 dX11_look_41 rfl rfl ?_
      refine g_goto hx 42 46 dX11_look_42 (by decide) ?_
      exact g_iret hx hR 46 dX11_look_46 ⟨by rw [← Option.some.inj hr] <;> rfl, by rw [← Option.some.inj hr] <;> rfl⟩
  · have hr := (if_pos hc_1036).symm.trans hr
    refine g_iconst hx 9 (1) dX11_look_9 rfl ?_
    refine g_goto hx 10 14 dX11_look_10 (by decide) ?_
    refine g_iconst hx 14 (1) dX11_look_14 rfl ?_
    obtain ⟨M_1037, eM_1037, hr⟩ := lt'_e hr
    refine g_callVv hx (c_Md_demand hρ l g σ T ow M 1 1 eM_1037.symm) lk_X11_362 ar_Md_demand (pM_o σ T ow ρ M) (T := TX11) (N := 30) rfl (As := [.int 1, .int 1]) (rest := []) rfl (Nat.le_of_ble_eq_true rfl) ⟨Nat.le_of_ble_eq_true rfl, Nat.le_of_ble_eq_true rfl⟩ ⟨rfl, rfl⟩ ⟨Nat.zero_le _, Nat.zero_le _⟩ dX11_look_15 ?_
    refine g_aload_n hx 18 (i := 0) 0 dX11_look_18 rfl rfl ?_
    obtain ⟨q_1038, eq_1038, hr⟩ := bind_e hr
    refine g_callVr hx (c_Md_value hρ l g σ T ow M_1037 eq_1038) lk_X11_370 ar_Md_value (pM_o σ T ow ρ M_1037) (T := TX11) (N := 30) rfl (As := []) (rest := []) rfl (Nat.le_of_ble_eq_true rfl) ⟨Nat.le_of_ble_eq_true rfl, Nat.le_of_ble_eq_true rfl⟩ ⟨rfl, rfl⟩ ⟨Nat.zero_le _, Nat.zero_le _⟩ dX11_look_19 ?_
    refine g_istore_n hx 22 (i := 3) [(3, .int q_1038), (0, .ref T), (1, .int p1), (2, .int p2)] dX11_look_22 rfl (by decide) rfl ?_
    refine g_aload_n hx 23 (i := 0) 1 dX11_look_23 rfl rfl ?_
    refine g_iload_n hx 24 (i := 3) 0 dX11_look_24 rfl rfl ?_
    refine g_iload_n hx 25 (i := 1) 2 dX11_look_25 rfl rfl ?_
    refine g_iload_n hx 26 (i := 2) 3 dX11_look_26 rfl rfl ?_
    refine g_callSr hx (c_Md_inRange l g _ q_1038 p1 p2 rfl) lk_X11_91 ar_Md_inRange (As := [.int q_1038, .int p1, .int p2]) (rest := [.ref T]) rfl (Nat.le_of_ble_eq_true rfl) ⟨Nat.le_of_ble_eq_true rfl, Nat.le_of_ble_eq_true rfl⟩ ⟨rfl, rfl⟩ ⟨Nat.zero_le _, Nat.zero_le _⟩ dX11_look_27 ?_
    refine g_iconst hx 30 (2) dX11_look_30 rfl ?_
    obtain ⟨M_1039, eM_1039, hr⟩ := lt'_e hr
    refine g_callVv hx (c_Md_demand hρ l g σ T ow M_1037 (Md_inRange q_1038 p1 p2) 2 eM_1039.symm) lk_X11_362 ar_Md_demand (pM_o σ T ow ρ M_1037) (T := TX11) (N := 30) rfl (As := [.int (Md_inRange q_1038 p1 p2), .int 2]) (rest := []) rfl (Nat.le_of_ble_eq_true rfl) ⟨Nat.le_of_ble_eq_true rfl, Nat.le_of_ble_eq_true rfl⟩ ⟨rfl, rfl⟩ ⟨Nat.zero_le _, Nat.zero_le _⟩ dX11_look_31 ?_
    refine g_aload_n hx 34 (i := 0) 1 dX11_look_34 rfl rfl ?_
    refine g_get hx 35 (C := RX11) (T := TX11) (N := 30) 23 (.int (M_1039.1 23)) (pM_o σ T ow ρ M_1039) rfl (by decide) rfl fl_X11_336 dX11_look_35 ?_
    refine g_if_ne hx 38 45 dX11_look_38 (by decide) (fun hc_1040 => ?_) (fun hc_1040 => ?_)
    · have hr := (if_neg hc_1040).symm.trans hr
      refine g_iload_n hx 45 (i := 1) 2 dX11_look_45 rfl rfl ?_
      exact g_iret hx hR 46 dX11_look_46 ⟨by rw [← Option.some.inj hr] <;> rfl, by rw [← Option.some.inj hr] <;> rfl⟩
    · have hr := (if_pos hc_1040).symm.trans hr
      refine g_iload_n hx 41 (i := 3) 0 dX11_look_41 rfl rfl ?_
      refine g_goto hx 42 46 dX11_look_42 (by decide) ?_
      exact g_iret hx hR 46 dX11_look_46 ⟨by rw [← Option.some.inj hr] <;> rfl, by rw [← Option.some.inj hr] <;> rfl⟩
def Md_readNumber (ρ : Nat) (M : MdM) (p1 p2 : Int32) : Option (Int32 × MdM) := Option.bind (Md_look ρ M p1 p2) fun q_1045 => lt' (q_1045.1) fun v3_1046 => Option.bind (Md_advance ρ q_1045.2) fun M_1047 => some ((v3_1046, M_1047))
set_option maxRecDepth 100000 in
set_option maxHeartbeats 4000000 in
theorem c_Md_readNumber {ρ : Nat} (hρ : ρ < 2) (l : Launch) (g : Gl) (σ : Hp) (T : Nat) (ow : Nat → Option Nat) (M : MdM) (p1 p2 : Int32) {r : Int32 × MdM} (hr : Md_readNumber ρ M p1 p2 = some r) : MG l g md_Md_readNumber [.ref T, .int p1, .int p2] (putMd σ T ow ρ M) (rs (some (.int r.1)) (putMd σ T ow ρ r.2)) := by
  refine MG.intro (by decide +kernel) (Nat.le_of_ble_eq_true rfl) (fun X hx hR _ => ?_)
  unfold Md_readNumber at hr
  refine g_ls [0, 1, 2] [(0, .ref T), (1, .int p1), (2, .int p2)] rfl ?_
  refine g_aload_n hx 0 (i := 0) 0 dX11_readNumber_0 rfl rfl ?_
  refine g_iload_n hx 1 (i := 1) 1 dX11_readNumber_1 rfl rfl ?_
  refine g_iload_n hx 2 (i := 2) 2 dX11_readNumber_2 rfl rfl ?_
  obtain ⟨q_1045, eq_1045, hr⟩ := bind_e hr
  refine g_callVr hx (c_Md_look hρ l g σ T ow M p1 p2 eq_1045) lk_X11_373 ar_Md_look (pM_o σ T ow ρ M) (T := TX11) (N := 30) rfl (As := [.int p1, .int p2]) (rest := []) rfl (Nat.le_of_ble_eq_true rfl) ⟨Nat.le_of_ble_eq_true rfl, Nat.le_of_ble_eq_true rfl⟩ ⟨rfl, rfl⟩ ⟨Nat.zero_le _, Nat.zero_le _⟩ dX11_readNumber_3 ?_
  obtain ⟨v3_1046, ev3_1046, hr⟩ := lt'_e hr
  refine g_nmi ev3_1046 ?_
  refine g_istore_n hx 6 (i := 3) [(3, .int v3_1046), (0, .ref T), (1, .int p1), (2, .int p2)] dX11_readNumber_6 rfl (by decide) rfl ?_
  refine g_aload_n hx 7 (i := 0) 1 dX11_readNumber_7 rfl rfl ?_
  obtain ⟨M_1047, eM_1047, hr⟩ := bind_e hr
  refine g_callVv hx (c_Md_advance hρ l g σ T ow q_1045.2 eM_1047) lk_X11_366 ar_Md_advance (pM_o σ T ow ρ q_1045.2) (T := TX11) (N := 30) rfl (As := []) (rest := []) rfl (Nat.le_of_ble_eq_true rfl) ⟨Nat.le_of_ble_eq_true rfl, Nat.le_of_ble_eq_true rfl⟩ ⟨rfl, rfl⟩ ⟨Nat.zero_le _, Nat.zero_le _⟩ dX11_readNumber_8 ?_
  refine g_iload_n hx 11 (i := 3) 0 dX11_readNumber_11 rfl rfl ?_
  exact g_iret hx hR 12 dX11_readNumber_12 ⟨by rw [← Option.some.inj hr] <;> rfl, by rw [← Option.some.inj hr] <;> rfl⟩
def Md_readNewMark (ρ : Nat) (M : MdM) : Option (Int32 × MdM) := Option.bind (Md_look ρ M 0 9999) fun q_1048 => lt' (q_1048.1) fun v1_1049 => if q_1048.2.1 23 = 0 then (Option.bind (Md_folderMarked ρ q_1048.2 v1_1049) fun q_1051 => if q_1051 = (-1) then (lt' (Md_demand ρ q_1048.2 1 3) fun M_1053 => Option.bind (Md_advance ρ M_1053) fun M_1054 => some ((v1_1049, M_1054))) else (lt' (Md_demand ρ q_1048.2 0 3) fun M_1055 => Option.bind (Md_advance ρ M_1055) fun M_1056 => some ((v1_1049, M_1056)))) else (lt' (Md_demand ρ q_1048.2 1 3) fun M_1057 => Option.bind (Md_advance ρ M_1057) fun M_1058 => some ((v1_1049, M_1058)))
set_option maxRecDepth 100000 in
set_option maxHeartbeats 4000000 in
theorem c_Md_readNewMark {ρ : Nat} (hρ : ρ < 2) (l : Launch) (g : Gl) (σ : Hp) (T : Nat) (ow : Nat → Option Nat) (M : MdM) {r : Int32 × MdM} (hr : Md_readNewMark ρ M = some r) : MG l g md_Md_readNewMark [.ref T] (putMd σ T ow ρ M) (rs (some (.int r.1)) (putMd σ T ow ρ r.2)) := by
  refine MG.intro (by decide +kernel) (Nat.le_of_ble_eq_true rfl) (fun X hx hR _ => ?_)
  unfold Md_readNewMark at hr
  refine g_ls [0] [(0, .ref T)] rfl ?_
  refine g_aload_n hx 0 (i := 0) 0 dX11_readNewMark_0 rfl rfl ?_
  refine g_iconst hx 1 (0) dX11_readNewMark_1 rfl ?_
  refine g_sipush hx 2 (9999) dX11_readNewMark_2 rfl ?_
  obtain ⟨q_1048, eq_1048, hr⟩ := bind_e hr
  refine g_callVr hx (c_Md_look hρ l g σ T ow M 0 9999 eq_1048) lk_X11_373 ar_Md_look (pM_o σ T ow ρ M) (T := TX11) (N := 30) rfl (As := [.int 0, .int 9999]) (rest := []) rfl (Nat.le_of_ble_eq_true rfl) ⟨Nat.le_of_ble_eq_true rfl, Nat.le_of_ble_eq_true rfl⟩ ⟨rfl, rfl⟩ ⟨Nat.zero_le _, Nat.zero_le _⟩ dX11_readNewMark_5 ?_
  obtain ⟨v1_1049, ev1_1049, hr⟩ := lt'_e hr
  refine g_nmi ev1_1049 ?_
  refine g_istore_n hx 8 (i := 1) [(1, .int v1_1049), (0, .ref T)] dX11_readNewMark_8 rfl (by decide) rfl ?_
  refine g_aload_n hx 9 (i := 0) 1 dX11_readNewMark_9 rfl rfl ?_
  refine g_aload_n hx 10 (i := 0) 1 dX11_readNewMark_10 rfl rfl ?_
  refine g_get hx 11 (C := RX11) (T := TX11) (N := 30) 23 (.int (q_1048.2.1 23)) (pM_o σ T ow ρ q_1048.2) rfl (by decide) rfl fl_X11_336 dX11_readNewMark_11 ?_
  refine g_if_ne hx 14 26 dX11_readNewMark_14 (by decide) (fun hc_1050 => ?_) (fun hc_1050 => ?_)
  · have hr := (if_neg hc_1050).symm.trans hr
    refine g_iconst hx 26 (1) dX11_readNewMark_26 rfl ?_
    refine g_goto hx 27 31 dX11_readNewMark_27 (by decide) ?_
    refine g_iconst hx 31 (3) dX11_readNewMark_31 rfl ?_
    obtain ⟨M_1057, eM_1057, hr⟩ := lt'_e hr
    refine g_callVv hx (c_Md_demand hρ l g σ T ow q_1048.2 1 3 eM_1057.symm) lk_X11_362 ar_Md_demand (pM_o σ T ow ρ q_1048.2) (T := TX11) (N := 30) rfl (As := [.int 1, .int 3]) (rest := []) rfl (Nat.le_of_ble_eq_true rfl) ⟨Nat.le_of_ble_eq_true rfl, Nat.le_of_ble_eq_true rfl⟩ ⟨rfl, rfl⟩ ⟨Nat.zero_le _, Nat.zero_le _⟩ dX11_readNewMark_32 ?_
    refine g_aload_n hx 35 (i := 0) 1 dX11_readNewMark_35 rfl rfl ?_
    obtain ⟨M_1058, eM_1058, hr⟩ := bind_e hr
    refine g_callVv hx (c_Md_advance hρ l g σ T ow M_1057 eM_1058) lk_X11_366 ar_Md_advance (pM_o σ T ow ρ M_1057) (T := TX11) (N := 30) rfl (As := []) (rest := []) rfl (Nat.le_of_ble_eq_true rfl) ⟨Nat.le_of_ble_eq_true rfl, Nat.le_of_ble_eq_true rfl⟩ ⟨rfl, rfl⟩ ⟨Nat.zero_le _, Nat.zero_le _⟩ dX11_readNewMark_36 ?_
    refine g_iload_n hx 39 (i := 1) 0 dX11_readNewMark_39 rfl rfl ?_
    exact g_iret hx hR 40 dX11_readNewMark_40 ⟨by rw [← Option.some.inj hr] <;> rfl, by rw [← Option.some.inj hr] <;> rfl⟩
  · have hr := (if_pos hc_1050).symm.trans hr
    refine g_aload_n hx 17 (i := 0) 1 dX11_readNewMark_17 rfl rfl ?_
    refine g_iload_n hx 18 (i := 1) 0 dX11_readNewMark_18 rfl rfl ?_
    obtain ⟨q_1051, eq_1051, hr⟩ := bind_e hr
    refine g_callVr hx (c_Md_folderMarked hρ l g σ T ow q_1048.2 v1_1049 eq_1051) lk_X11_198 ar_Md_folderMarked (pM_o σ T ow ρ q_1048.2) (T := TX11) (N := 30) rfl (As := [.int v1_1049]) (rest := [.ref T]) rfl (Nat.le_of_ble_eq_true rfl) ⟨Nat.le_of_ble_eq_true rfl, Nat.le_of_ble_eq_true rfl⟩ ⟨rfl, rfl⟩ ⟨Nat.zero_le _, Nat.zero_le _⟩ dX11_readNewMark_19 ?_
    refine g_iconst hx 22 (-1) dX11_readNewMark_22 rfl ?_
    refine g_icmp_ne hx 23 30 dX11_readNewMark_23 (by decide) (fun hc_1052 => ?_) (fun hc_1052 => ?_)
    · have hr := (if_neg hc_1052).symm.trans hr
      refine g_iconst hx 30 (0) dX11_readNewMark_30 rfl ?_
      refine g_iconst hx 31 (3) dX11_readNewMark_31 rfl ?_
      obtain ⟨M_1055, eM_1055, hr⟩ := lt'_e hr
      refine g_callVv hx (c_Md_demand hρ l g σ T ow q_1048.2 0 3 eM_1055.symm) lk_X11_362 ar_Md_demand (pM_o σ T ow ρ q_1048.2) (T := TX11) (N := 30) rfl (As := [.int 0, .int 3]) (rest := []) rfl (Nat.le_of_ble_eq_true rfl) ⟨Nat.le_of_ble_eq_true rfl, Nat.le_of_ble_eq_true rfl⟩ ⟨rfl, rfl⟩ ⟨Nat.zero_le _, Nat.zero_le _⟩ dX11_readNewMark_32 ?_
      refine g_aload_n hx 35 (i := 0) 1 dX11_readNewMark_35 rfl rfl ?_
      obtain ⟨M_1056, eM_1056, hr⟩ := bind_e hr
      refine g_callVv hx (c_Md_advance hρ l g σ T ow M_1055 eM_1056) lk_X11_366 ar_Md_advance (pM_o σ T ow ρ M_1055) (T := TX11) (N := 30) rfl (As := []) (rest := []) rfl (Nat.le_of_ble_eq_true rfl) ⟨Nat.le_of_ble_eq_true rfl, Nat.le_of_ble_eq_true rfl⟩ ⟨rfl, rfl⟩ ⟨Nat.zero_le _, Nat.zero_le _⟩ dX11_readNewMark_36 ?_
      refine g_iload_n hx 39 (i := 1) 0 dX11_readNewMark_39 rfl rfl ?_
      exact g_iret hx hR 40 dX11_readNewMark_40 ⟨by rw [← Option.some.inj hr] <;> rfl, by rw [← Option.some.inj hr] <;> rfl⟩
    · have hr := (if_pos hc_1052).symm.trans hr
      refine g_iconst hx 26 (1) dX11_readNewMark_26 rfl ?_
      refine g_goto hx 27 31 dX11_readNewMark_27 (by decide) ?_
      refine g_iconst hx 31 (3) dX11_readNewMark_31 rfl ?_
      obtain ⟨M_1053, eM_1053, hr⟩ := lt'_e hr
      refine g_callVv hx (c_Md_demand hρ l g σ T ow q_1048.2 1 3 eM_1053.symm) lk_X11_362 ar_Md_demand (pM_o σ T ow ρ q_1048.2) (T := TX11) (N := 30) rfl (As := [.int 1, .int 3]) (rest := []) rfl (Nat.le_of_ble_eq_true rfl) ⟨Nat.le_of_ble_eq_true rfl, Nat.le_of_ble_eq_true rfl⟩ ⟨rfl, rfl⟩ ⟨Nat.zero_le _, Nat.zero_le _⟩ dX11_readNewMark_32 ?_
      refine g_aload_n hx 35 (i := 0) 1 dX11_readNewMark_35 rfl rfl ?_
      obtain ⟨M_1054, eM_1054, hr⟩ := bind_e hr
      refine g_callVv hx (c_Md_advance hρ l g σ T ow M_1053 eM_1054) lk_X11_366 ar_Md_advance (pM_o σ T ow ρ M_1053) (T := TX11) (N := 30) rfl (As := []) (rest := []) rfl (Nat.le_of_ble_eq_true rfl) ⟨Nat.le_of_ble_eq_true rfl, Nat.le_of_ble_eq_true rfl⟩ ⟨rfl, rfl⟩ ⟨Nat.zero_le _, Nat.zero_le _⟩ dX11_readNewMark_36 ?_
      refine g_iload_n hx 39 (i := 1) 0 dX11_readNewMark_39 rfl rfl ?_
      exact g_iret hx hR 40 dX11_readNewMark_40 ⟨by rw [← Option.some.inj hr] <;> rfl, by rw [← Option.some.inj hr] <;> rfl⟩
def Md_readFirst (ρ : Nat) (M : MdM) (p1 : Int32) : Option (Int32 × MdM) := if p1 = 0 then (Option.bind (Md_readNumber ρ M 0 7) fun q_1060 => some ((q_1060.1, q_1060.2))) else (if p1 = 1 then (Option.bind (Md_readNumber ρ M 0 15) fun q_1062 => some ((q_1062.1, q_1062.2))) else (if p1 = 3 then (Option.bind (Md_readNumber ρ M 1 60) fun q_1064 => some ((q_1064.1, q_1064.2))) else (if p1 = 5 then (Option.bind (Md_readNumber ρ M 1 99) fun q_1066 => some ((q_1066.1, q_1066.2))) else (Option.bind (Md_readNumber ρ M 0 9999) fun q_1067 => some ((q_1067.1, q_1067.2))))))
set_option maxRecDepth 100000 in
set_option maxHeartbeats 4000000 in
theorem c_Md_readFirst {ρ : Nat} (hρ : ρ < 2) (l : Launch) (g : Gl) (σ : Hp) (T : Nat) (ow : Nat → Option Nat) (M : MdM) (p1 : Int32) {r : Int32 × MdM} (hr : Md_readFirst ρ M p1 = some r) : MG l g md_Md_readFirst [.ref T, .int p1] (putMd σ T ow ρ M) (rs (some (.int r.1)) (putMd σ T ow ρ r.2)) := by
  refine MG.intro (by decide +kernel) (Nat.le_of_ble_eq_true rfl) (fun X hx hR _ => ?_)
  unfold Md_readFirst at hr
  refine g_ls [0, 1] [(0, .ref T), (1, .int p1)] rfl ?_
  refine g_iload_n hx 0 (i := 1) 1 dX11_readFirst_0 rfl rfl ?_
  by_cases hc_1059 : p1 = 0
  · have hr := (if_pos hc_1059).symm.trans hr
    refine g_tableIn hx 1 40 dX11_readFirst_1 (by rw [hc_1059]; decide) (by rw [hc_1059]; decide) (by rw [hc_1059]; rfl) (by decide) ?_
    refine g_aload_n hx 40 (i := 0) 0 dX11_readFirst_40 rfl rfl ?_
    refine g_iconst hx 41 (0) dX11_readFirst_41 rfl ?_
    refine g_bipush hx 42 (7) dX11_readFirst_42 rfl ?_
    obtain ⟨q_1060, eq_1060, hr⟩ := bind_e hr
    refine g_callVr hx (c_Md_readNumber hρ l g σ T ow M 0 7 eq_1060) lk_X11_384 ar_Md_readNumber (pM_o σ T ow ρ M) (T := TX11) (N := 30) rfl (As := [.int 0, .int 7]) (rest := []) rfl (Nat.le_of_ble_eq_true rfl) ⟨Nat.le_of_ble_eq_true rfl, Nat.le_of_ble_eq_true rfl⟩ ⟨rfl, rfl⟩ ⟨Nat.zero_le _, Nat.zero_le _⟩ dX11_readFirst_44 ?_
    exact g_iret hx hR 47 dX11_readFirst_47 ⟨by rw [← Option.some.inj hr] <;> rfl, by rw [← Option.some.inj hr] <;> rfl⟩
  · have hr := (if_neg hc_1059).symm.trans hr
    by_cases hc_1061 : p1 = 1
    · have hr := (if_pos hc_1061).symm.trans hr
      refine g_tableIn hx 1 48 dX11_readFirst_1 (by rw [hc_1061]; decide) (by rw [hc_1061]; decide) (by rw [hc_1061]; rfl) (by decide) ?_
      refine g_aload_n hx 48 (i := 0) 0 dX11_readFirst_48 rfl rfl ?_
      refine g_iconst hx 49 (0) dX11_readFirst_49 rfl ?_
      refine g_bipush hx 50 (15) dX11_readFirst_50 rfl ?_
      obtain ⟨q_1062, eq_1062, hr⟩ := bind_e hr
      refine g_callVr hx (c_Md_readNumber hρ l g σ T ow M 0 15 eq_1062) lk_X11_384 ar_Md_readNumber (pM_o σ T ow ρ M) (T := TX11) (N := 30) rfl (As := [.int 0, .int 15]) (rest := []) rfl (Nat.le_of_ble_eq_true rfl) ⟨Nat.le_of_ble_eq_true rfl, Nat.le_of_ble_eq_true rfl⟩ ⟨rfl, rfl⟩ ⟨Nat.zero_le _, Nat.zero_le _⟩ dX11_readFirst_52 ?_
      exact g_iret hx hR 55 dX11_readFirst_55 ⟨by rw [← Option.some.inj hr] <;> rfl, by rw [← Option.some.inj hr] <;> rfl⟩
    · have hr := (if_neg hc_1061).symm.trans hr
      by_cases hc_1063 : p1 = 3
      · have hr := (if_pos hc_1063).symm.trans hr
        refine g_tableIn hx 1 56 dX11_readFirst_1 (by rw [hc_1063]; decide) (by rw [hc_1063]; decide) (by rw [hc_1063]; rfl) (by decide) ?_
        refine g_aload_n hx 56 (i := 0) 0 dX11_readFirst_56 rfl rfl ?_
        refine g_iconst hx 57 (1) dX11_readFirst_57 rfl ?_
        refine g_bipush hx 58 (60) dX11_readFirst_58 rfl ?_
        obtain ⟨q_1064, eq_1064, hr⟩ := bind_e hr
        refine g_callVr hx (c_Md_readNumber hρ l g σ T ow M 1 60 eq_1064) lk_X11_384 ar_Md_readNumber (pM_o σ T ow ρ M) (T := TX11) (N := 30) rfl (As := [.int 1, .int 60]) (rest := []) rfl (Nat.le_of_ble_eq_true rfl) ⟨Nat.le_of_ble_eq_true rfl, Nat.le_of_ble_eq_true rfl⟩ ⟨rfl, rfl⟩ ⟨Nat.zero_le _, Nat.zero_le _⟩ dX11_readFirst_60 ?_
        exact g_iret hx hR 63 dX11_readFirst_63 ⟨by rw [← Option.some.inj hr] <;> rfl, by rw [← Option.some.inj hr] <;> rfl⟩
      · have hr := (if_neg hc_1063).symm.trans hr
        by_cases hc_1065 : p1 = 5
        · have hr := (if_pos hc_1065).symm.trans hr
          refine g_tableIn hx 1 64 dX11_readFirst_1 (by rw [hc_1065]; decide) (by rw [hc_1065]; decide) (by rw [hc_1065]; rfl) (by decide) ?_
          refine g_aload_n hx 64 (i := 0) 0 dX11_readFirst_64 rfl rfl ?_
          refine g_iconst hx 65 (1) dX11_readFirst_65 rfl ?_
          refine g_bipush hx 66 (99) dX11_readFirst_66 rfl ?_
          obtain ⟨q_1066, eq_1066, hr⟩ := bind_e hr
          refine g_callVr hx (c_Md_readNumber hρ l g σ T ow M 1 99 eq_1066) lk_X11_384 ar_Md_readNumber (pM_o σ T ow ρ M) (T := TX11) (N := 30) rfl (As := [.int 1, .int 99]) (rest := []) rfl (Nat.le_of_ble_eq_true rfl) ⟨Nat.le_of_ble_eq_true rfl, Nat.le_of_ble_eq_true rfl⟩ ⟨rfl, rfl⟩ ⟨Nat.zero_le _, Nat.zero_le _⟩ dX11_readFirst_68 ?_
          exact g_iret hx hR 71 dX11_readFirst_71 ⟨by rw [← Option.some.inj hr] <;> rfl, by rw [← Option.some.inj hr] <;> rfl⟩
        · have hr := (if_neg hc_1065).symm.trans hr
          by_cases hc_1068 : p1 = 2
          · refine g_tableIn hx 1 72 dX11_readFirst_1 (by rw [hc_1068]; decide) (by rw [hc_1068]; decide) (by rw [hc_1068]; rfl) (by decide) ?_
            refine g_aload_n hx 72 (i := 0) 0 dX11_readFirst_72 rfl rfl ?_
            refine g_iconst hx 73 (0) dX11_readFirst_73 rfl ?_
            refine g_sipush hx 74 (9999) dX11_readFirst_74 rfl ?_
            obtain ⟨q_1067, eq_1067, hr⟩ := bind_e hr
            refine g_callVr hx (c_Md_readNumber hρ l g σ T ow M 0 9999 eq_1067) lk_X11_384 ar_Md_readNumber (pM_o σ T ow ρ M) (T := TX11) (N := 30) rfl (As := [.int 0, .int 9999]) (rest := []) rfl (Nat.le_of_ble_eq_true rfl) ⟨Nat.le_of_ble_eq_true rfl, Nat.le_of_ble_eq_true rfl⟩ ⟨rfl, rfl⟩ ⟨Nat.zero_le _, Nat.zero_le _⟩ dX11_readFirst_77 ?_
            exact g_iret hx hR 80 dX11_readFirst_80 ⟨by rw [← Option.some.inj hr] <;> rfl, by rw [← Option.some.inj hr] <;> rfl⟩
          · by_cases hc_1069 : p1 = 4
            · refine g_tableIn hx 1 72 dX11_readFirst_1 (by rw [hc_1069]; decide) (by rw [hc_1069]; decide) (by rw [hc_1069]; rfl) (by decide) ?_
              refine g_aload_n hx 72 (i := 0) 0 dX11_readFirst_72 rfl rfl ?_
              refine g_iconst hx 73 (0) dX11_readFirst_73 rfl ?_
              refine g_sipush hx 74 (9999) dX11_readFirst_74 rfl ?_
              obtain ⟨q_1067, eq_1067, hr⟩ := bind_e hr
              refine g_callVr hx (c_Md_readNumber hρ l g σ T ow M 0 9999 eq_1067) lk_X11_384 ar_Md_readNumber (pM_o σ T ow ρ M) (T := TX11) (N := 30) rfl (As := [.int 0, .int 9999]) (rest := []) rfl (Nat.le_of_ble_eq_true rfl) ⟨Nat.le_of_ble_eq_true rfl, Nat.le_of_ble_eq_true rfl⟩ ⟨rfl, rfl⟩ ⟨Nat.zero_le _, Nat.zero_le _⟩ dX11_readFirst_77 ?_
              exact g_iret hx hR 80 dX11_readFirst_80 ⟨by rw [← Option.some.inj hr] <;> rfl, by rw [← Option.some.inj hr] <;> rfl⟩
            · refine g_tableOut hx 1 72 dX11_readFirst_1 (sw_out (fun c h1 h2 hq => by have hc : c = 0 ∨ c = 1 ∨ c = 2 ∨ c = 3 ∨ c = 4 ∨ c = 5 := (by omega); rcases hc with rfl | rfl | rfl | rfl | rfl | rfl <;> first | exact lv_neT hc_1059 rfl hq | exact lv_neT hc_1061 rfl hq | exact lv_neT hc_1068 rfl hq | exact lv_neT hc_1063 rfl hq | exact lv_neT hc_1069 rfl hq | exact lv_neT hc_1065 rfl hq)) (by decide) ?_
              refine g_aload_n hx 72 (i := 0) 0 dX11_readFirst_72 rfl rfl ?_
              refine g_iconst hx 73 (0) dX11_readFirst_73 rfl ?_
              refine g_sipush hx 74 (9999) dX11_readFirst_74 rfl ?_
              obtain ⟨q_1067, eq_1067, hr⟩ := bind_e hr
              refine g_callVr hx (c_Md_readNumber hρ l g σ T ow M 0 9999 eq_1067) lk_X11_384 ar_Md_readNumber (pM_o σ T ow ρ M) (T := TX11) (N := 30) rfl (As := [.int 0, .int 9999]) (rest := []) rfl (Nat.le_of_ble_eq_true rfl) ⟨Nat.le_of_ble_eq_true rfl, Nat.le_of_ble_eq_true rfl⟩ ⟨rfl, rfl⟩ ⟨Nat.zero_le _, Nat.zero_le _⟩ dX11_readFirst_77 ?_
              exact g_iret hx hR 80 dX11_readFirst_80 ⟨by rw [← Option.some.inj hr] <;> rfl, by rw [← Option.some.inj hr] <;> rfl⟩
def Md_readSecond (ρ : Nat) (M : MdM) (p1 : Int32) : Option (Int32 × MdM) := if p1 = 0 then (Option.bind (Md_readNumber ρ M 0 9999) fun q_1071 => some ((q_1071.1, q_1071.2))) else (if p1 = 4 then (Option.bind (Md_readNumber ρ M 0 23) fun q_1073 => some ((q_1073.1, q_1073.2))) else (if p1 = 6 then (Option.bind (Md_readNumber ρ M 0 999) fun q_1075 => some ((q_1075.1, q_1075.2))) else (some ((0, M)))))
set_option maxRecDepth 100000 in
set_option maxHeartbeats 4000000 in
theorem c_Md_readSecond {ρ : Nat} (hρ : ρ < 2) (l : Launch) (g : Gl) (σ : Hp) (T : Nat) (ow : Nat → Option Nat) (M : MdM) (p1 : Int32) {r : Int32 × MdM} (hr : Md_readSecond ρ M p1 = some r) : MG l g md_Md_readSecond [.ref T, .int p1] (putMd σ T ow ρ M) (rs (some (.int r.1)) (putMd σ T ow ρ r.2)) := by
  refine MG.intro (by decide +kernel) (Nat.le_of_ble_eq_true rfl) (fun X hx hR _ => ?_)
  unfold Md_readSecond at hr
  refine g_ls [0, 1] [(0, .ref T), (1, .int p1)] rfl ?_
  refine g_iload_n hx 0 (i := 1) 1 dX11_readSecond_0 rfl rfl ?_
  by_cases hc_1070 : p1 = 0
  · have hr := (if_pos hc_1070).symm.trans hr
    refine g_lookup (off := 35) hx 1 36 dX11_readSecond_1 (by decide) (by rw [hc_1070] <;> rfl) (by decide) ?_
    refine g_aload_n hx 36 (i := 0) 0 dX11_readSecond_36 rfl rfl ?_
    refine g_iconst hx 37 (0) dX11_readSecond_37 rfl ?_
    refine g_sipush hx 38 (9999) dX11_readSecond_38 rfl ?_
    obtain ⟨q_1071, eq_1071, hr⟩ := bind_e hr
    refine g_callVr hx (c_Md_readNumber hρ l g σ T ow M 0 9999 eq_1071) lk_X11_384 ar_Md_readNumber (pM_o σ T ow ρ M) (T := TX11) (N := 30) rfl (As := [.int 0, .int 9999]) (rest := []) rfl (Nat.le_of_ble_eq_true rfl) ⟨Nat.le_of_ble_eq_true rfl, Nat.le_of_ble_eq_true rfl⟩ ⟨rfl, rfl⟩ ⟨Nat.zero_le _, Nat.zero_le _⟩ dX11_readSecond_41 ?_
    exact g_iret hx hR 44 dX11_readSecond_44 ⟨by rw [← Option.some.inj hr] <;> rfl, by rw [← Option.some.inj hr] <;> rfl⟩
  · have hr := (if_neg hc_1070).symm.trans hr
    by_cases hc_1072 : p1 = 4
    · have hr := (if_pos hc_1072).symm.trans hr
      refine g_lookup (off := 44) hx 1 45 dX11_readSecond_1 (by decide) (by rw [hc_1072] <;> rfl) (by decide) ?_
      refine g_aload_n hx 45 (i := 0) 0 dX11_readSecond_45 rfl rfl ?_
      refine g_iconst hx 46 (0) dX11_readSecond_46 rfl ?_
      refine g_bipush hx 47 (23) dX11_readSecond_47 rfl ?_
      obtain ⟨q_1073, eq_1073, hr⟩ := bind_e hr
      refine g_callVr hx (c_Md_readNumber hρ l g σ T ow M 0 23 eq_1073) lk_X11_384 ar_Md_readNumber (pM_o σ T ow ρ M) (T := TX11) (N := 30) rfl (As := [.int 0, .int 23]) (rest := []) rfl (Nat.le_of_ble_eq_true rfl) ⟨Nat.le_of_ble_eq_true rfl, Nat.le_of_ble_eq_true rfl⟩ ⟨rfl, rfl⟩ ⟨Nat.zero_le _, Nat.zero_le _⟩ dX11_readSecond_49 ?_
      exact g_iret hx hR 52 dX11_readSecond_52 ⟨by rw [← Option.some.inj hr] <;> rfl, by rw [← Option.some.inj hr] <;> rfl⟩
    · have hr := (if_neg hc_1072).symm.trans hr
      by_cases hc_1074 : p1 = 6
      · have hr := (if_pos hc_1074).symm.trans hr
        refine g_lookup (off := 52) hx 1 53 dX11_readSecond_1 (by decide) (by rw [hc_1074] <;> rfl) (by decide) ?_
        refine g_aload_n hx 53 (i := 0) 0 dX11_readSecond_53 rfl rfl ?_
        refine g_iconst hx 54 (0) dX11_readSecond_54 rfl ?_
        refine g_sipush hx 55 (999) dX11_readSecond_55 rfl ?_
        obtain ⟨q_1075, eq_1075, hr⟩ := bind_e hr
        refine g_callVr hx (c_Md_readNumber hρ l g σ T ow M 0 999 eq_1075) lk_X11_384 ar_Md_readNumber (pM_o σ T ow ρ M) (T := TX11) (N := 30) rfl (As := [.int 0, .int 999]) (rest := []) rfl (Nat.le_of_ble_eq_true rfl) ⟨Nat.le_of_ble_eq_true rfl, Nat.le_of_ble_eq_true rfl⟩ ⟨rfl, rfl⟩ ⟨Nat.zero_le _, Nat.zero_le _⟩ dX11_readSecond_58 ?_
        exact g_iret hx hR 61 dX11_readSecond_61 ⟨by rw [← Option.some.inj hr] <;> rfl, by rw [← Option.some.inj hr] <;> rfl⟩
      · have hr := (if_neg hc_1074).symm.trans hr
        refine g_lookup (off := 61) hx 1 62 dX11_readSecond_1 (by decide) (by show Op.lookupswitch.offset [(0, 35), (4, 44), (6, 52)] 61 _ = _; rw [lv_osw (a := 0) hc_1070 rfl, lv_osw (a := 4) hc_1072 rfl, lv_osw (a := 6) hc_1074 rfl] <;> rfl) (by decide) ?_
        refine g_iconst hx 62 (0) dX11_readSecond_62 rfl ?_
        exact g_iret hx hR 63 dX11_readSecond_63 ⟨by rw [← Option.some.inj hr] <;> rfl, by rw [← Option.some.inj hr] <;> rfl⟩
def Md_doesFolder (ρ : Nat) (M : MdM) (p1 p2 p3 : Int32) : Option (Int32 × MdM) := if p2 = (-1) then (Option.bind (Md_ends ρ M (-1)) fun q_1077 => some ((q_1077.1, q_1077.2))) else (if p1 = 2 then (Option.bind (Md_doReturn ρ M p2) fun q_1079 => some ((q_1079.1, q_1079.2))) else (if p1 = 4 then (Option.bind (Md_doMisfile ρ M p2 p3) fun q_1081 => some ((q_1081.1, q_1081.2))) else (Option.bind (Md_doEmbargo ρ M p2 p3) fun q_1082 => some ((q_1082.1, q_1082.2)))))
set_option maxRecDepth 100000 in
set_option maxHeartbeats 4000000 in
theorem c_Md_doesFolder {ρ : Nat} (hρ : ρ < 2) (l : Launch) (g : Gl) (σ : Hp) (T : Nat) (ow : Nat → Option Nat) (M : MdM) (p1 p2 p3 : Int32) {r : Int32 × MdM} (hr : Md_doesFolder ρ M p1 p2 p3 = some r) : MG l g md_Md_doesFolder [.ref T, .int p1, .int p2, .int p3] (putMd σ T ow ρ M) (rs (some (.int r.1)) (putMd σ T ow ρ r.2)) := by
  refine MG.intro (by decide +kernel) (Nat.le_of_ble_eq_true rfl) (fun X hx hR _ => ?_)
  unfold Md_doesFolder at hr
  refine g_ls [0, 1, 2, 3] [(0, .ref T), (1, .int p1), (2, .int p2), (3, .int p3)] rfl ?_
  refine g_iload_n hx 0 (i := 2) 2 dX11_doesFolder_0 rfl rfl ?_
  refine g_iconst hx 1 (-1) dX11_doesFolder_1 rfl ?_
  refine g_icmp_ne hx 2 11 dX11_doesFolder_2 (by decide) (fun hc_1076 => ?_) (fun hc_1076 => ?_)
  · have hr := (if_neg hc_1076).symm.trans hr
    refine g_iload_n hx 11 (i := 1) 1 dX11_doesFolder_11 rfl rfl ?_
    by_cases hc_1078 : p1 = 2
    · have hr := (if_pos hc_1078).symm.trans hr
      refine g_lookup (off := 28) hx 12 40 dX11_doesFolder_12 (by decide) (by rw [hc_1078] <;> rfl) (by decide) ?_
      refine g_aload_n hx 40 (i := 0) 0 dX11_doesFolder_40 rfl rfl ?_
      refine g_iload_n hx 41 (i := 2) 2 dX11_doesFolder_41 rfl rfl ?_
      obtain ⟨q_1079, eq_1079, hr⟩ := bind_e hr
      refine g_callVr hx (c_Md_doReturn hρ l g σ T ow M p2 eq_1079) lk_X11_281 ar_Md_doReturn (pM_o σ T ow ρ M) (T := TX11) (N := 30) rfl (As := [.int p2]) (rest := []) rfl (Nat.le_of_ble_eq_true rfl) ⟨Nat.le_of_ble_eq_true rfl, Nat.le_of_ble_eq_true rfl⟩ ⟨rfl, rfl⟩ ⟨Nat.zero_le _, Nat.zero_le _⟩ dX11_doesFolder_42 ?_
      exact g_iret hx hR 45 dX11_doesFolder_45 ⟨by rw [← Option.some.inj hr] <;> rfl, by rw [← Option.some.inj hr] <;> rfl⟩
    · have hr := (if_neg hc_1078).symm.trans hr
      by_cases hc_1080 : p1 = 4
      · have hr := (if_pos hc_1080).symm.trans hr
        refine g_lookup (off := 34) hx 12 46 dX11_doesFolder_12 (by decide) (by rw [hc_1080] <;> rfl) (by decide) ?_
        refine g_aload_n hx 46 (i := 0) 0 dX11_doesFolder_46 rfl rfl ?_
        refine g_iload_n hx 47 (i := 2) 2 dX11_doesFolder_47 rfl rfl ?_
        refine g_iload_n hx 48 (i := 3) 3 dX11_doesFolder_48 rfl rfl ?_
        obtain ⟨q_1081, eq_1081, hr⟩ := bind_e hr
        refine g_callVr hx (c_Md_doMisfile hρ l g σ T ow M p2 p3 eq_1081) lk_X11_287 ar_Md_doMisfile (pM_o σ T ow ρ M) (T := TX11) (N := 30) rfl (As := [.int p2, .int p3]) (rest := []) rfl (Nat.le_of_ble_eq_true rfl) ⟨Nat.le_of_ble_eq_true rfl, Nat.le_of_ble_eq_true rfl⟩ ⟨rfl, rfl⟩ ⟨Nat.zero_le _, Nat.zero_le _⟩ dX11_doesFolder_49 ?_
        exact g_iret hx hR 52 dX11_doesFolder_52 ⟨by rw [← Option.some.inj hr] <;> rfl, by rw [← Option.some.inj hr] <;> rfl⟩
      · have hr := (if_neg hc_1080).symm.trans hr
        refine g_lookup (off := 41) hx 12 53 dX11_doesFolder_12 (by decide) (by show Op.lookupswitch.offset [(2, 28), (4, 34)] 41 _ = _; rw [lv_osw (a := 2) hc_1078 rfl, lv_osw (a := 4) hc_1080 rfl] <;> rfl) (by decide) ?_
        refine g_aload_n hx 53 (i := 0) 0 dX11_doesFolder_53 rfl rfl ?_
        refine g_iload_n hx 54 (i := 2) 2 dX11_doesFolder_54 rfl rfl ?_
        refine g_iload_n hx 55 (i := 3) 3 dX11_doesFolder_55 rfl rfl ?_
        obtain ⟨q_1082, eq_1082, hr⟩ := bind_e hr
        refine g_callVr hx (c_Md_doEmbargo hρ l g σ T ow M p2 p3 eq_1082) lk_X11_296 ar_Md_doEmbargo (pM_o σ T ow ρ M) (T := TX11) (N := 30) rfl (As := [.int p2, .int p3]) (rest := []) rfl (Nat.le_of_ble_eq_true rfl) ⟨Nat.le_of_ble_eq_true rfl, Nat.le_of_ble_eq_true rfl⟩ ⟨rfl, rfl⟩ ⟨Nat.zero_le _, Nat.zero_le _⟩ dX11_doesFolder_56 ?_
        exact g_iret hx hR 59 dX11_doesFolder_59 ⟨by rw [← Option.some.inj hr] <;> rfl, by rw [← Option.some.inj hr] <;> rfl⟩
  · have hr := (if_pos hc_1076).symm.trans hr
    refine g_aload_n hx 5 (i := 0) 0 dX11_doesFolder_5 rfl rfl ?_
    refine g_iconst hx 6 (-1) dX11_doesFolder_6 rfl ?_
    obtain ⟨q_1077, eq_1077, hr⟩ := bind_e hr
    refine g_callVr hx (c_Md_ends hρ l g σ T ow M (-1) eq_1077) lk_X11_257 ar_Md_ends (pM_o σ T ow ρ M) (T := TX11) (N := 30) rfl (As := [.int (-1)]) (rest := []) rfl (Nat.le_of_ble_eq_true rfl) ⟨Nat.le_of_ble_eq_true rfl, Nat.le_of_ble_eq_true rfl⟩ ⟨rfl, rfl⟩ ⟨Nat.zero_le _, Nat.zero_le _⟩ dX11_doesFolder_7 ?_
    exact g_iret hx hR 10 dX11_doesFolder_10 ⟨by rw [← Option.some.inj hr] <;> rfl, by rw [← Option.some.inj hr] <;> rfl⟩
def Md_doesSlip (ρ : Nat) (M : MdM) (p1 p2 : Int32) : Option (Int32 × MdM) := Option.bind (Md_areThere ρ M p1 p2) fun q_1083 => if q_1083 = 0 then (Option.bind (Md_ends ρ M (-1)) fun q_1085 => some ((q_1085.1, q_1085.2))) else (Option.bind (Md_doSlip ρ M p1 p2) fun q_1086 => some ((q_1086.1, q_1086.2)))
set_option maxRecDepth 100000 in
set_option maxHeartbeats 4000000 in
theorem c_Md_doesSlip {ρ : Nat} (hρ : ρ < 2) (l : Launch) (g : Gl) (σ : Hp) (T : Nat) (ow : Nat → Option Nat) (M : MdM) (p1 p2 : Int32) {r : Int32 × MdM} (hr : Md_doesSlip ρ M p1 p2 = some r) : MG l g md_Md_doesSlip [.ref T, .int p1, .int p2] (putMd σ T ow ρ M) (rs (some (.int r.1)) (putMd σ T ow ρ r.2)) := by
  refine MG.intro (by decide +kernel) (Nat.le_of_ble_eq_true rfl) (fun X hx hR _ => ?_)
  unfold Md_doesSlip at hr
  refine g_ls [0, 1, 2] [(0, .ref T), (1, .int p1), (2, .int p2)] rfl ?_
  refine g_aload_n hx 0 (i := 0) 0 dX11_doesSlip_0 rfl rfl ?_
  refine g_iload_n hx 1 (i := 1) 1 dX11_doesSlip_1 rfl rfl ?_
  refine g_iload_n hx 2 (i := 2) 2 dX11_doesSlip_2 rfl rfl ?_
  obtain ⟨q_1083, eq_1083, hr⟩ := bind_e hr
  refine g_callVr hx (c_Md_areThere hρ l g σ T ow M p1 p2 eq_1083) lk_X11_226 ar_Md_areThere (pM_o σ T ow ρ M) (T := TX11) (N := 30) rfl (As := [.int p1, .int p2]) (rest := []) rfl (Nat.le_of_ble_eq_true rfl) ⟨Nat.le_of_ble_eq_true rfl, Nat.le_of_ble_eq_true rfl⟩ ⟨rfl, rfl⟩ ⟨Nat.zero_le _, Nat.zero_le _⟩ dX11_doesSlip_3 ?_
  refine g_if_eq hx 6 18 dX11_doesSlip_6 (by decide) (fun hc_1084 => ?_) (fun hc_1084 => ?_)
  · have hr := (if_pos hc_1084).symm.trans hr
    refine g_aload_n hx 18 (i := 0) 0 dX11_doesSlip_18 rfl rfl ?_
    refine g_iconst hx 19 (-1) dX11_doesSlip_19 rfl ?_
    obtain ⟨q_1085, eq_1085, hr⟩ := bind_e hr
    refine g_callVr hx (c_Md_ends hρ l g σ T ow M (-1) eq_1085) lk_X11_257 ar_Md_ends (pM_o σ T ow ρ M) (T := TX11) (N := 30) rfl (As := [.int (-1)]) (rest := []) rfl (Nat.le_of_ble_eq_true rfl) ⟨Nat.le_of_ble_eq_true rfl, Nat.le_of_ble_eq_true rfl⟩ ⟨rfl, rfl⟩ ⟨Nat.zero_le _, Nat.zero_le _⟩ dX11_doesSlip_20 ?_
    exact g_iret hx hR 23 dX11_doesSlip_23 ⟨by rw [← Option.some.inj hr] <;> rfl, by rw [← Option.some.inj hr] <;> rfl⟩
  · have hr := (if_neg hc_1084).symm.trans hr
    refine g_aload_n hx 9 (i := 0) 0 dX11_doesSlip_9 rfl rfl ?_
    refine g_iload_n hx 10 (i := 1) 1 dX11_doesSlip_10 rfl rfl ?_
    refine g_iload_n hx 11 (i := 2) 2 dX11_doesSlip_11 rfl rfl ?_
    obtain ⟨q_1086, eq_1086, hr⟩ := bind_e hr
    refine g_callVr hx (c_Md_doSlip hρ l g σ T ow M p1 p2 eq_1086) lk_X11_272 ar_Md_doSlip (pM_o σ T ow ρ M) (T := TX11) (N := 30) rfl (As := [.int p1, .int p2]) (rest := []) rfl (Nat.le_of_ble_eq_true rfl) ⟨Nat.le_of_ble_eq_true rfl, Nat.le_of_ble_eq_true rfl⟩ ⟨rfl, rfl⟩ ⟨Nat.zero_le _, Nat.zero_le _⟩ dX11_doesSlip_12 ?_
    refine g_goto hx 15 23 dX11_doesSlip_15 (by decide) ?_
    exact g_iret hx hR 23 dX11_doesSlip_23 ⟨by rw [← Option.some.inj hr] <;> rfl, by rw [← Option.some.inj hr] <;> rfl⟩
def Md_does (ρ : Nat) (M : MdM) (p1 : Int32) : Option (Int32 × MdM) := if inB (p1 + 1) 60 then (lt' ((M.2 11) (p1 + 1).toNatClampNeg) fun v2_1088 => if inB (p1 + 2) 60 then (lt' ((M.2 11) (p1 + 2).toNatClampNeg) fun v3_1090 => if inB p1 60 then (if (M.2 11) p1.toNatClampNeg = 0 then (Option.bind (Md_folderMarked ρ M v3_1090) fun q_1093 => Option.bind (Md_doesSlip ρ M v2_1088 q_1093) fun q_1094 => some ((q_1094.1, q_1094.2))) else (if (M.2 11) p1.toNatClampNeg = 1 then (Option.bind (Md_doDrop ρ M v2_1088) fun q_1096 => some ((q_1096.1, q_1096.2))) else (if (M.2 11) p1.toNatClampNeg = 3 then (Option.bind (Md_doDays ρ M v2_1088) fun q_1098 => some ((q_1098.1, q_1098.2))) else (if (M.2 11) p1.toNatClampNeg = 5 then (Option.bind (Md_doCheck ρ M v2_1088) fun q_1100 => some ((q_1100.1, q_1100.2))) else (if inB p1 60 then (Option.bind (Md_folderMarked ρ M v2_1088) fun q_1102 => Option.bind (Md_doesFolder ρ M ((M.2 11) p1.toNatClampNeg) q_1102 v3_1090) fun q_1103 => some ((q_1103.1, q_1103.2))) else none))))) else none) else none) else none
set_option maxRecDepth 100000 in
set_option maxHeartbeats 4000000 in
theorem c_Md_does {ρ : Nat} (hρ : ρ < 2) (l : Launch) (g : Gl) (σ : Hp) (T : Nat) (ow : Nat → Option Nat) (M : MdM) (p1 : Int32) {r : Int32 × MdM} (hr : Md_does ρ M p1 = some r) : MG l g md_Md_does [.ref T, .int p1] (putMd σ T ow ρ M) (rs (some (.int r.1)) (putMd σ T ow ρ r.2)) := by
  refine MG.intro (by decide +kernel) (Nat.le_of_ble_eq_true rfl) (fun X hx hR _ => ?_)
  unfold Md_does at hr
  refine g_ls [0, 1] [(0, .ref T), (1, .int p1)] rfl ?_
  refine g_aload_n hx 0 (i := 0) 0 dX11_does_0 rfl rfl ?_
  refine g_get hx 1 (C := RX11) (T := TX11) (N := 30) 27 (.ref (T + 12)) (pM_o σ T ow ρ M) rfl (by decide) rfl fl_X11_50 dX11_does_1 ?_
  refine g_iload_n hx 4 (i := 1) 1 dX11_does_4 rfl rfl ?_
  refine g_iconst hx 5 (1) dX11_does_5 rfl ?_
  refine g_iadd hx 6 dX11_does_6 ?_
  obtain ⟨hb_1087, hr⟩ := ob hr
  refine g_iald hx 7 (pM_a σ T ow ρ M 11 (by decide)) hb_1087 dX11_does_7 ?_
  obtain ⟨v2_1088, ev2_1088, hr⟩ := lt'_e hr
  refine g_nmi ev2_1088 ?_
  refine g_istore_n hx 8 (i := 2) [(2, .int v2_1088), (0, .ref T), (1, .int p1)] dX11_does_8 rfl (by decide) rfl ?_
  refine g_aload_n hx 9 (i := 0) 1 dX11_does_9 rfl rfl ?_
  refine g_get hx 10 (C := RX11) (T := TX11) (N := 30) 27 (.ref (T + 12)) (pM_o σ T ow ρ M) rfl (by decide) rfl fl_X11_50 dX11_does_10 ?_
  refine g_iload_n hx 13 (i := 1) 2 dX11_does_13 rfl rfl ?_
  refine g_iconst hx 14 (2) dX11_does_14 rfl ?_
  refine g_iadd hx 15 dX11_does_15 ?_
  obtain ⟨hb_1089, hr⟩ := ob hr
  refine g_iald hx 16 (pM_a σ T ow ρ M 11 (by decide)) hb_1089 dX11_does_16 ?_
  obtain ⟨v3_1090, ev3_1090, hr⟩ := lt'_e hr
  refine g_nmi ev3_1090 ?_
  refine g_istore_n hx 17 (i := 3) [(3, .int v3_1090), (2, .int v2_1088), (0, .ref T), (1, .int p1)] dX11_does_17 rfl (by decide) rfl ?_
  refine g_aload_n hx 18 (i := 0) 2 dX11_does_18 rfl rfl ?_
  refine g_get hx 19 (C := RX11) (T := TX11) (N := 30) 27 (.ref (T + 12)) (pM_o σ T ow ρ M) rfl (by decide) rfl fl_X11_50 dX11_does_19 ?_
  refine g_iload_n hx 22 (i := 1) 3 dX11_does_22 rfl rfl ?_
  obtain ⟨hb_1091, hr⟩ := ob hr
  refine g_iald hx 23 (pM_a σ T ow ρ M 11 (by decide)) hb_1091 dX11_does_23 ?_
  by_cases hc_1092 : (M.2 11) p1.toNatClampNeg = 0
  · have hr := (if_pos hc_1092).symm.trans hr
    refine g_tableIn hx 24 64 dX11_does_24 (by rw [hc_1092]; decide) (by rw [hc_1092]; decide) (by rw [hc_1092]; rfl) (by decide) ?_
    refine g_aload_n hx 64 (i := 0) 2 dX11_does_64 rfl rfl ?_
    refine g_iload_n hx 65 (i := 2) 1 dX11_does_65 rfl rfl ?_
    refine g_aload_n hx 66 (i := 0) 2 dX11_does_66 rfl rfl ?_
    refine g_iload_n hx 67 (i := 3) 0 dX11_does_67 rfl rfl ?_
    obtain ⟨q_1093, eq_1093, hr⟩ := bind_e hr
    refine g_callVr hx (c_Md_folderMarked hρ l g σ T ow M v3_1090 eq_1093) lk_X11_198 ar_Md_folderMarked (pM_o σ T ow ρ M) (T := TX11) (N := 30) rfl (As := [.int v3_1090]) (rest := [.int v2_1088, .ref T]) rfl (Nat.le_of_ble_eq_true rfl) ⟨Nat.le_of_ble_eq_true rfl, Nat.le_of_ble_eq_true rfl⟩ ⟨rfl, rfl⟩ ⟨Nat.zero_le _, Nat.zero_le _⟩ dX11_does_68 ?_
    obtain ⟨q_1094, eq_1094, hr⟩ := bind_e hr
    refine g_callVr hx (c_Md_doesSlip hρ l g σ T ow M v2_1088 q_1093 eq_1094) lk_X11_416 ar_Md_doesSlip (pM_o σ T ow ρ M) (T := TX11) (N := 30) rfl (As := [.int v2_1088, .int q_1093]) (rest := []) rfl (Nat.le_of_ble_eq_true rfl) ⟨Nat.le_of_ble_eq_true rfl, Nat.le_of_ble_eq_true rfl⟩ ⟨rfl, rfl⟩ ⟨Nat.zero_le _, Nat.zero_le _⟩ dX11_does_71 ?_
    exact g_iret hx hR 74 dX11_does_74 ⟨by rw [← Option.some.inj hr] <;> rfl, by rw [← Option.some.inj hr] <;> rfl⟩
  · have hr := (if_neg hc_1092).symm.trans hr
    by_cases hc_1095 : (M.2 11) p1.toNatClampNeg = 1
    · have hr := (if_pos hc_1095).symm.trans hr
      refine g_tableIn hx 24 75 dX11_does_24 (by rw [hc_1095]; decide) (by rw [hc_1095]; decide) (by rw [hc_1095]; rfl) (by decide) ?_
      refine g_aload_n hx 75 (i := 0) 2 dX11_does_75 rfl rfl ?_
      refine g_iload_n hx 76 (i := 2) 1 dX11_does_76 rfl rfl ?_
      obtain ⟨q_1096, eq_1096, hr⟩ := bind_e hr
      refine g_callVr hx (c_Md_doDrop hρ l g σ T ow M v2_1088 eq_1096) lk_X11_278 ar_Md_doDrop (pM_o σ T ow ρ M) (T := TX11) (N := 30) rfl (As := [.int v2_1088]) (rest := []) rfl (Nat.le_of_ble_eq_true rfl) ⟨Nat.le_of_ble_eq_true rfl, Nat.le_of_ble_eq_true rfl⟩ ⟨rfl, rfl⟩ ⟨Nat.zero_le _, Nat.zero_le _⟩ dX11_does_77 ?_
      exact g_iret hx hR 80 dX11_does_80 ⟨by rw [← Option.some.inj hr] <;> rfl, by rw [← Option.some.inj hr] <;> rfl⟩
    · have hr := (if_neg hc_1095).symm.trans hr
      by_cases hc_1097 : (M.2 11) p1.toNatClampNeg = 3
      · have hr := (if_pos hc_1097).symm.trans hr
        refine g_tableIn hx 24 81 dX11_does_24 (by rw [hc_1097]; decide) (by rw [hc_1097]; decide) (by rw [hc_1097]; rfl) (by decide) ?_
        refine g_aload_n hx 81 (i := 0) 2 dX11_does_81 rfl rfl ?_
        refine g_iload_n hx 82 (i := 2) 1 dX11_does_82 rfl rfl ?_
        obtain ⟨q_1098, eq_1098, hr⟩ := bind_e hr
        refine g_callVr hx (c_Md_doDays hρ l g σ T ow M v2_1088 eq_1098) lk_X11_284 ar_Md_doDays (pM_o σ T ow ρ M) (T := TX11) (N := 30) rfl (As := [.int v2_1088]) (rest := []) rfl (Nat.le_of_ble_eq_true rfl) ⟨Nat.le_of_ble_eq_true rfl, Nat.le_of_ble_eq_true rfl⟩ ⟨rfl, rfl⟩ ⟨Nat.zero_le _, Nat.zero_le _⟩ dX11_does_83 ?_
        exact g_iret hx hR 86 dX11_does_86 ⟨by rw [← Option.some.inj hr] <;> rfl, by rw [← Option.some.inj hr] <;> rfl⟩
      · have hr := (if_neg hc_1097).symm.trans hr
        by_cases hc_1099 : (M.2 11) p1.toNatClampNeg = 5
        · have hr := (if_pos hc_1099).symm.trans hr
          refine g_tableIn hx 24 87 dX11_does_24 (by rw [hc_1099]; decide) (by rw [hc_1099]; decide) (by rw [hc_1099]; rfl) (by decide) ?_
          refine g_aload_n hx 87 (i := 0) 2 dX11_does_87 rfl rfl ?_
          refine g_iload_n hx 88 (i := 2) 1 dX11_does_88 rfl rfl ?_
          obtain ⟨q_1100, eq_1100, hr⟩ := bind_e hr
          refine g_callVr hx (c_Md_doCheck hρ l g σ T ow M v2_1088 eq_1100) lk_X11_293 ar_Md_doCheck (pM_o σ T ow ρ M) (T := TX11) (N := 30) rfl (As := [.int v2_1088]) (rest := []) rfl (Nat.le_of_ble_eq_true rfl) ⟨Nat.le_of_ble_eq_true rfl, Nat.le_of_ble_eq_true rfl⟩ ⟨rfl, rfl⟩ ⟨Nat.zero_le _, Nat.zero_le _⟩ dX11_does_89 ?_
          exact g_iret hx hR 92 dX11_does_92 ⟨by rw [← Option.some.inj hr] <;> rfl, by rw [← Option.some.inj hr] <;> rfl⟩
        · have hr := (if_neg hc_1099).symm.trans hr
          by_cases hc_1104 : (M.2 11) p1.toNatClampNeg = 2
          · refine g_tableIn hx 24 93 dX11_does_24 (by rw [hc_1104]; decide) (by rw [hc_1104]; decide) (by rw [hc_1104]; rfl) (by decide) ?_
            refine g_aload_n hx 93 (i := 0) 2 dX11_does_93 rfl rfl ?_
            refine g_aload_n hx 94 (i := 0) 2 dX11_does_94 rfl rfl ?_
            refine g_get hx 95 (C := RX11) (T := TX11) (N := 30) 27 (.ref (T + 12)) (pM_o σ T ow ρ M) rfl (by decide) rfl fl_X11_50 dX11_does_95 ?_
            refine g_iload_n hx 98 (i := 1) 3 dX11_does_98 rfl rfl ?_
            obtain ⟨hb_1101, hr⟩ := ob hr
            refine g_iald hx 99 (pM_a σ T ow ρ M 11 (by decide)) hb_1101 dX11_does_99 ?_
            refine g_aload_n hx 100 (i := 0) 2 dX11_does_100 rfl rfl ?_
            refine g_iload_n hx 101 (i := 2) 1 dX11_does_101 rfl rfl ?_
            obtain ⟨q_1102, eq_1102, hr⟩ := bind_e hr
            refine g_callVr hx (c_Md_folderMarked hρ l g σ T ow M v2_1088 eq_1102) lk_X11_198 ar_Md_folderMarked (pM_o σ T ow ρ M) (T := TX11) (N := 30) rfl (As := [.int v2_1088]) (rest := [.int ((M.2 11) p1.toNatClampNeg), .ref T]) rfl (Nat.le_of_ble_eq_true rfl) ⟨Nat.le_of_ble_eq_true rfl, Nat.le_of_ble_eq_true rfl⟩ ⟨rfl, rfl⟩ ⟨Nat.zero_le _, Nat.zero_le _⟩ dX11_does_102 ?_
            refine g_iload_n hx 105 (i := 3) 0 dX11_does_105 rfl rfl ?_
            obtain ⟨q_1103, eq_1103, hr⟩ := bind_e hr
            refine g_callVr hx (c_Md_doesFolder hρ l g σ T ow M ((M.2 11) p1.toNatClampNeg) q_1102 v3_1090 eq_1103) lk_X11_419 ar_Md_doesFolder (pM_o σ T ow ρ M) (T := TX11) (N := 30) rfl (As := [.int ((M.2 11) p1.toNatClampNeg), .int q_1102, .int v3_1090]) (rest := []) rfl (Nat.le_of_ble_eq_true rfl) ⟨Nat.le_of_ble_eq_true rfl, Nat.le_of_ble_eq_true rfl⟩ ⟨rfl, rfl⟩ ⟨Nat.zero_le _, Nat.zero_le _⟩ dX11_does_106 ?_
            exact g_iret hx hR 109 dX11_does_109 ⟨by rw [← Option.some.inj hr] <;> rfl, by rw [← Option.some.inj hr] <;> rfl⟩
          · by_cases hc_1105 : (M.2 11) p1.toNatClampNeg = 4
            · refine g_tableIn hx 24 93 dX11_does_24 (by rw [hc_1105]; decide) (by rw [hc_1105]; decide) (by rw [hc_1105]; rfl) (by decide) ?_
              refine g_aload_n hx 93 (i := 0) 2 dX11_does_93 rfl rfl ?_
              refine g_aload_n hx 94 (i := 0) 2 dX11_does_94 rfl rfl ?_
              refine g_get hx 95 (C := RX11) (T := TX11) (N := 30) 27 (.ref (T + 12)) (pM_o σ T ow ρ M) rfl (by decide) rfl fl_X11_50 dX11_does_95 ?_
              refine g_iload_n hx 98 (i := 1) 3 dX11_does_98 rfl rfl ?_
              obtain ⟨hb_1101, hr⟩ := ob hr
              refine g_iald hx 99 (pM_a σ T ow ρ M 11 (by decide)) hb_1101 dX11_does_99 ?_
              refine g_aload_n hx 100 (i := 0) 2 dX11_does_100 rfl rfl ?_
              refine g_iload_n hx 101 (i := 2) 1 dX11_does_101 rfl rfl ?_
              obtain ⟨q_1102, eq_1102, hr⟩ := bind_e hr
              refine g_callVr hx (c_Md_folderMarked hρ l g σ T ow M v2_1088 eq_1102) lk_X11_198 ar_Md_folderMarked (pM_o σ T ow ρ M) (T := TX11) (N := 30) rfl (As := [.int v2_1088]) (rest := [.int ((M.2 11) p1.toNatClampNeg), .ref T]) rfl (Nat.le_of_ble_eq_true rfl) ⟨Nat.le_of_ble_eq_true rfl, Nat.le_of_ble_eq_true rfl⟩ ⟨rfl, rfl⟩ ⟨Nat.zero_le _, Nat.zero_le _⟩ dX11_does_102 ?_
              refine g_iload_n hx 105 (i := 3) 0 dX11_does_105 rfl rfl ?_
              obtain ⟨q_1103, eq_1103, hr⟩ := bind_e hr
              refine g_callVr hx (c_Md_doesFolder hρ l g σ T ow M ((M.2 11) p1.toNatClampNeg) q_1102 v3_1090 eq_1103) lk_X11_419 ar_Md_doesFolder (pM_o σ T ow ρ M) (T := TX11) (N := 30) rfl (As := [.int ((M.2 11) p1.toNatClampNeg), .int q_1102, .int v3_1090]) (rest := []) rfl (Nat.le_of_ble_eq_true rfl) ⟨Nat.le_of_ble_eq_true rfl, Nat.le_of_ble_eq_true rfl⟩ ⟨rfl, rfl⟩ ⟨Nat.zero_le _, Nat.zero_le _⟩ dX11_does_106 ?_
              exact g_iret hx hR 109 dX11_does_109 ⟨by rw [← Option.some.inj hr] <;> rfl, by rw [← Option.some.inj hr] <;> rfl⟩
            · refine g_tableOut hx 24 93 dX11_does_24 (sw_out (fun c h1 h2 hq => by have hc : c = 0 ∨ c = 1 ∨ c = 2 ∨ c = 3 ∨ c = 4 ∨ c = 5 := (by omega); rcases hc with rfl | rfl | rfl | rfl | rfl | rfl <;> first | exact lv_neT hc_1092 rfl hq | exact lv_neT hc_1095 rfl hq | exact lv_neT hc_1104 rfl hq | exact lv_neT hc_1097 rfl hq | exact lv_neT hc_1105 rfl hq | exact lv_neT hc_1099 rfl hq)) (by decide) ?_
              refine g_aload_n hx 93 (i := 0) 2 dX11_does_93 rfl rfl ?_
              refine g_aload_n hx 94 (i := 0) 2 dX11_does_94 rfl rfl ?_
              refine g_get hx 95 (C := RX11) (T := TX11) (N := 30) 27 (.ref (T + 12)) (pM_o σ T ow ρ M) rfl (by decide) rfl fl_X11_50 dX11_does_95 ?_
              refine g_iload_n hx 98 (i := 1) 3 dX11_does_98 rfl rfl ?_
              obtain ⟨hb_1101, hr⟩ := ob hr
              refine g_iald hx 99 (pM_a σ T ow ρ M 11 (by decide)) hb_1101 dX11_does_99 ?_
              refine g_aload_n hx 100 (i := 0) 2 dX11_does_100 rfl rfl ?_
              refine g_iload_n hx 101 (i := 2) 1 dX11_does_101 rfl rfl ?_
              obtain ⟨q_1102, eq_1102, hr⟩ := bind_e hr
              refine g_callVr hx (c_Md_folderMarked hρ l g σ T ow M v2_1088 eq_1102) lk_X11_198 ar_Md_folderMarked (pM_o σ T ow ρ M) (T := TX11) (N := 30) rfl (As := [.int v2_1088]) (rest := [.int ((M.2 11) p1.toNatClampNeg), .ref T]) rfl (Nat.le_of_ble_eq_true rfl) ⟨Nat.le_of_ble_eq_true rfl, Nat.le_of_ble_eq_true rfl⟩ ⟨rfl, rfl⟩ ⟨Nat.zero_le _, Nat.zero_le _⟩ dX11_does_102 ?_
              refine g_iload_n hx 105 (i := 3) 0 dX11_does_105 rfl rfl ?_
              obtain ⟨q_1103, eq_1103, hr⟩ := bind_e hr
              refine g_callVr hx (c_Md_doesFolder hρ l g σ T ow M ((M.2 11) p1.toNatClampNeg) q_1102 v3_1090 eq_1103) lk_X11_419 ar_Md_doesFolder (pM_o σ T ow ρ M) (T := TX11) (N := 30) rfl (As := [.int ((M.2 11) p1.toNatClampNeg), .int q_1102, .int v3_1090]) (rest := []) rfl (Nat.le_of_ble_eq_true rfl) ⟨Nat.le_of_ble_eq_true rfl, Nat.le_of_ble_eq_true rfl⟩ ⟨rfl, rfl⟩ ⟨Nat.zero_le _, Nat.zero_le _⟩ dX11_does_106 ?_
              exact g_iret hx hR 109 dX11_does_109 ⟨by rw [← Option.some.inj hr] <;> rfl, by rw [← Option.some.inj hr] <;> rfl⟩
