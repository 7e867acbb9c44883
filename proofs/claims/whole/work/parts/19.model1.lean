def md_Md_copy : Md := (yX11_copy, cX11_copy, 4, none, 1, 60, 0, 0)
def md_Md_thrown : Md := (yX11_thrown, cX11_thrown, 1, some .int, 0, 0, 0, 0)
def md_Md_raise : Md := (yX11_raise, cX11_raise, 2, some .int, 0, 0, 0, 0)
def md_Md_inRange : Md := (yX11_inRange, cX11_inRange, 3, some .boolean, 0, 0, 0, 0)
def md_Md_lacks : Md := (yX11_lacks, cX11_lacks, 2, some .boolean, 0, 0, 0, 0)
def md_Md_begin : Md := (yX11_begin, cX11_begin, 6, none, 0, 0, 0, 0)
def md_Md_tally : Md := (yX11_tally, cX11_tally, 3, none, 0, 0, 0, 0)
def md_Md_tallied : Md := (yX11_tallied, cX11_tallied, 2, some .int, 0, 0, 0, 0)
def md_Md_of : Md := (yX11_of, cX11_of, 3, some .int, 0, 0, 0, 0)
def md_Md_lay : Md := (yX11_lay, cX11_lay, 4, none, 0, 0, 0, 0)
def md_Md_ofSlip : Md := (yX11_ofSlip, cX11_ofSlip, 3, some .int, 0, 0, 0, 0)
def md_Md_folderAt : Md := (yX11_folderAt, cX11_folderAt, 2, some .int, 0, 0, 0, 0)
def md_Md_insert : Md := (yX11_insert, cX11_insert, 4, none, 1, 21, 0, 0)
def md_Md_addFolder : Md := (yX11_addFolder, cX11_addFolder, 4, none, 2, 44, 0, 0)
def md_Md_isFolder : Md := (yX11_isFolder, cX11_isFolder, 2, some .boolean, 1, 22, 0, 0)
def md_Md_isReader : Md := (yX11_isReader, cX11_isReader, 2, some .boolean, 1, 22, 0, 0)
def md_Md_isIn : Md := (yX11_isIn, cX11_isIn, 3, some .boolean, 1, 22, 0, 0)
def md_Md_folderMarked : Md := (yX11_folderMarked, cX11_folderMarked, 3, some .int, 1, 22, 0, 0)
def md_Md_markAt : Md := (yX11_markAt, cX11_markAt, 2, some .int, 1, 22, 0, 0)
def md_Md_placeOf : Md := (yX11_placeOf, cX11_placeOf, 3, some .int, 1, 21, 0, 0)
def md_Md_remove : Md := (yX11_remove, cX11_remove, 4, some .int, 2, 43, 0, 0)
def md_Md_isWrong : Md := (yX11_isWrong, cX11_isWrong, 2, some .boolean, 2, 43, 0, 0)
def md_Md_firstWrong : Md := (yX11_firstWrong, cX11_firstWrong, 2, some .int, 3, 64, 0, 0)
def md_Md_countWrong : Md := (yX11_countWrong, cX11_countWrong, 3, some .int, 3, 64, 0, 0)
def md_Md_halve : Md := (yX11_halve, cX11_halve, 6, some .int, 2, 43, 0, 0)
def md_Md_countMissed : Md := (yX11_countMissed, cX11_countMissed, 3, some .int, 3, 68, 0, 0)
def md_Md_orderPlace : Md := (yX11_orderPlace, cX11_orderPlace, 4, some .int, 2, 43, 0, 0)
def md_Md_countInversions : Md := (yX11_countInversions, cX11_countInversions, 4, some .int, 2, 43, 0, 0)
def md_Md_swapOn : Md := (yX11_swapOn, cX11_swapOn, 5, some .int, 4, 85, 0, 0)
def md_Md_foldersOf : Md := (yX11_foldersOf, cX11_foldersOf, 4, some .int, 2, 44, 0, 0)
def md_Md_isClosed : Md := (yX11_isClosed, cX11_isClosed, 2, some .boolean, 1, 22, 0, 0)
def md_Md_slipOf : Md := (yX11_slipOf, cX11_slipOf, 4, some .int, 1, 22, 0, 0)
def md_Md_isSlip : Md := (yX11_isSlip, cX11_isSlip, 2, some .boolean, 1, 22, 0, 0)
def md_Md_addSlip : Md := (yX11_addSlip, cX11_addSlip, 4, none, 0, 0, 0, 0)
def md_Md_removeSlip : Md := (yX11_removeSlip, cX11_removeSlip, 3, none, 0, 0, 0, 0)
def md_Md_idleness : Md := (yX11_idleness, cX11_idleness, 3, some .int, 3, 67, 0, 0)
def md_Md_refile : Md := (yX11_refile, cX11_refile, 4, none, 3, 68, 0, 0)
def md_Md_serve : Md := (yX11_serve, cX11_serve, 5, none, 3, 66, 0, 0)
def md_Md_search : Md := (yX11_search, cX11_search, 3, some .boolean, 3, 68, 0, 0)
def md_Md_searchAll : Md := (yX11_searchAll, cX11_searchAll, 4, none, 4, 90, 0, 0)
def md_Md_pass : Md := (yX11_pass, cX11_pass, 2, none, 5, 113, 0, 0)
def md_Md_passOn : Md := (yX11_passOn, cX11_passOn, 5, some .int, 6, 134, 0, 0)
def md_Md_countIn : Md := (yX11_countIn, cX11_countIn, 4, some .int, 2, 44, 0, 0)
def md_Md_daysToRefiling : Md := (yX11_daysToRefiling, cX11_daysToRefiling, 1, some .int, 0, 0, 0, 0)
def md_Md_size : Md := (yX11_size, cX11_size, 2, some .int, 4, 86, 0, 0)
def md_Md_account : Md := (yX11_account, cX11_account, 2, some .int, 1, 22, 0, 0)
def md_Md_trolleyPlace : Md := (yX11_trolleyPlace, cX11_trolleyPlace, 3, some .int, 0, 0, 0, 0)
def md_Md_whereIs : Md := (yX11_whereIs, cX11_whereIs, 2, some .int, 2, 43, 0, 0)
def md_Md_slipsWith : Md := (yX11_slipsWith, cX11_slipsWith, 5, some .int, 1, 22, 0, 0)
def md_Md_folder : Md := (yX11_folder, cX11_folder, 3, some .int, 3, 64, 0, 0)
def md_Md_marked : Md := (yX11_marked, cX11_marked, 2, some .int, 2, 44, 0, 0)
def md_Md_at : Md := (yX11_at, cX11_at, 2, some .int, 1, 22, 0, 0)
def md_Md_reader : Md := (yX11_reader, cX11_reader, 3, some .int, 3, 67, 0, 0)
def md_Md_waiting : Md := (yX11_waiting, cX11_waiting, 3, some .int, 4, 89, 0, 0)
def md_Md_timesIn : Md := (yX11_timesIn, cX11_timesIn, 6, some .int, 0, 0, 0, 0)
def md_Md_gap : Md := (yX11_gap, cX11_gap, 4, some .int, 3, 67, 0, 0)
def md_Md_found : Md := (yX11_found, cX11_found, 2, some .int, 3, 68, 0, 0)
def md_Md_looks : Md := (yX11_looks, cX11_looks, 3, some .int, 3, 68, 0, 0)
def md_Md_missed : Md := (yX11_missed, cX11_missed, 1, some .int, 4, 90, 0, 0)
def md_Md_refilePlace : Md := (yX11_refilePlace, cX11_refilePlace, 3, some .int, 3, 68, 0, 0)
def md_Md_lookedAt : Md := (yX11_lookedAt, cX11_lookedAt, 4, some .int, 3, 68, 0, 0)
def md_Md_misplacement : Md := (yX11_misplacement, cX11_misplacement, 3, some .int, 3, 66, 0, 0)
def md_Md_mostMisplaced : Md := (yX11_mostMisplaced, cX11_mostMisplaced, 5, some .int, 4, 88, 0, 0)
def md_Md_mostAsked : Md := (yX11_mostAsked, cX11_mostAsked, 5, some .int, 2, 46, 0, 0)
def md_Md_inversions : Md := (yX11_inversions, cX11_inversions, 1, some .int, 3, 66, 0, 0)
theorem fl_X11_81 : Cond.fieldLink RX11 81 (TX11 9).1 (TX11 9).2.1 (TX11 9).2.2.1 ∈ aw := aw1 (by decide +kernel)
theorem fl_X11_31 : Cond.fieldLink RX11 31 (TX11 7).1 (TX11 7).2.1 (TX11 7).2.2.1 ∈ aw := aw1 (by decide +kernel)
theorem lk_X11_99 : Lk md_Md_folderAt [.methodLink RX11 99 md_Md_folderAt.y, .instanceMethod md_Md_folderAt.y, .selects md_Md_folderAt.y.cls md_Md_folderAt.y md_Md_folderAt.y] := lk_of (by decide +kernel)
theorem ar_Md_folderAt : Arity md_Md_folderAt 1 := ⟨by decide +kernel, by decide +kernel, by decide +kernel⟩
theorem lk_X11_84 : Lk md_Md_lay [.methodLink RX11 84 md_Md_lay.y, .instanceMethod md_Md_lay.y, .selects md_Md_lay.y.cls md_Md_lay.y md_Md_lay.y] := lk_of (by decide +kernel)
theorem ar_Md_lay : Arity md_Md_lay 3 := ⟨by decide +kernel, by decide +kernel, by decide +kernel⟩
theorem lk_X11_88 : Lk md_Md_insert [.methodLink RX11 88 md_Md_insert.y, .instanceMethod md_Md_insert.y, .selects md_Md_insert.y.cls md_Md_insert.y md_Md_insert.y] := lk_of (by decide +kernel)
theorem ar_Md_insert : Arity md_Md_insert 2 := ⟨by decide +kernel, by decide +kernel, by decide +kernel⟩
theorem lk_X11_91 : Lk md_Md_inRange [.methodLink RX11 91 md_Md_inRange.y, .static md_Md_inRange.y] := lk_of (by decide +kernel)
theorem ar_Md_inRange : Arity md_Md_inRange 3 := ⟨by decide +kernel, by decide +kernel, by decide +kernel⟩
theorem lk_X11_95 : Lk md_Md_of [.methodLink RX11 95 md_Md_of.y, .instanceMethod md_Md_of.y, .selects md_Md_of.y.cls md_Md_of.y md_Md_of.y] := lk_of (by decide +kernel)
theorem ar_Md_of : Arity md_Md_of 2 := ⟨by decide +kernel, by decide +kernel, by decide +kernel⟩
theorem lk_X11_103 : Lk md_Md_placeOf [.methodLink RX11 103 md_Md_placeOf.y, .instanceMethod md_Md_placeOf.y, .selects md_Md_placeOf.y.cls md_Md_placeOf.y md_Md_placeOf.y] := lk_of (by decide +kernel)
theorem ar_Md_placeOf : Arity md_Md_placeOf 1 := ⟨by decide +kernel, by decide +kernel, by decide +kernel⟩
theorem lk_X11_106 : Lk md_Md_markAt [.methodLink RX11 106 md_Md_markAt.y, .instanceMethod md_Md_markAt.y, .selects md_Md_markAt.y.cls md_Md_markAt.y md_Md_markAt.y] := lk_of (by decide +kernel)
theorem ar_Md_markAt : Arity md_Md_markAt 1 := ⟨by decide +kernel, by decide +kernel, by decide +kernel⟩
theorem lk_X11_109 : Lk md_Md_isWrong [.methodLink RX11 109 md_Md_isWrong.y, .instanceMethod md_Md_isWrong.y, .selects md_Md_isWrong.y.cls md_Md_isWrong.y md_Md_isWrong.y] := lk_of (by decide +kernel)
theorem ar_Md_isWrong : Arity md_Md_isWrong 1 := ⟨by decide +kernel, by decide +kernel, by decide +kernel⟩
theorem fl_X11_113 : Cond.fieldLink RX11 113 (TX11 11).1 (TX11 11).2.1 (TX11 11).2.2.1 ∈ aw := aw1 (by decide +kernel)
theorem fl_X11_116 : Cond.fieldLink RX11 116 (TX11 12).1 (TX11 12).2.1 (TX11 12).2.2.1 ∈ aw := aw1 (by decide +kernel)
theorem fl_X11_34 : Cond.fieldLink RX11 34 (TX11 13).1 (TX11 13).2.1 (TX11 13).2.2.1 ∈ aw := aw1 (by decide +kernel)
theorem lk_X11_119 : Lk md_Md_halve [.methodLink RX11 119 md_Md_halve.y, .instanceMethod md_Md_halve.y, .selects md_Md_halve.y.cls md_Md_halve.y md_Md_halve.y] := lk_of (by decide +kernel)
theorem ar_Md_halve : Arity md_Md_halve 1 := ⟨by decide +kernel, by decide +kernel, by decide +kernel⟩
theorem lk_X11_122 : Lk md_Md_firstWrong [.methodLink RX11 122 md_Md_firstWrong.y, .instanceMethod md_Md_firstWrong.y, .selects md_Md_firstWrong.y.cls md_Md_firstWrong.y md_Md_firstWrong.y] := lk_of (by decide +kernel)
theorem ar_Md_firstWrong : Arity md_Md_firstWrong 0 := ⟨by decide +kernel, by decide +kernel, by decide +kernel⟩
theorem lk_X11_126 : Lk md_Md_isIn [.methodLink RX11 126 md_Md_isIn.y, .instanceMethod md_Md_isIn.y, .selects md_Md_isIn.y.cls md_Md_isIn.y md_Md_isIn.y] := lk_of (by decide +kernel)
theorem ar_Md_isIn : Arity md_Md_isIn 2 := ⟨by decide +kernel, by decide +kernel, by decide +kernel⟩
theorem lk_X11_130 : Lk md_Md_ofSlip [.methodLink RX11 130 md_Md_ofSlip.y, .instanceMethod md_Md_ofSlip.y, .selects md_Md_ofSlip.y.cls md_Md_ofSlip.y md_Md_ofSlip.y] := lk_of (by decide +kernel)
theorem ar_Md_ofSlip : Arity md_Md_ofSlip 2 := ⟨by decide +kernel, by decide +kernel, by decide +kernel⟩
theorem lk_X11_133 : Lk md_Md_isClosed [.methodLink RX11 133 md_Md_isClosed.y, .instanceMethod md_Md_isClosed.y, .selects md_Md_isClosed.y.cls md_Md_isClosed.y md_Md_isClosed.y] := lk_of (by decide +kernel)
theorem ar_Md_isClosed : Arity md_Md_isClosed 1 := ⟨by decide +kernel, by decide +kernel, by decide +kernel⟩
theorem lk_X11_136 : Lk md_Md_foldersOf [.methodLink RX11 136 md_Md_foldersOf.y, .instanceMethod md_Md_foldersOf.y, .selects md_Md_foldersOf.y.cls md_Md_foldersOf.y md_Md_foldersOf.y] := lk_of (by decide +kernel)
theorem ar_Md_foldersOf : Arity md_Md_foldersOf 1 := ⟨by decide +kernel, by decide +kernel, by decide +kernel⟩
theorem lk_X11_139 : Lk md_Md_tally [.methodLink RX11 139 md_Md_tally.y, .instanceMethod md_Md_tally.y, .selects md_Md_tally.y.cls md_Md_tally.y md_Md_tally.y] := lk_of (by decide +kernel)
theorem ar_Md_tally : Arity md_Md_tally 2 := ⟨by decide +kernel, by decide +kernel, by decide +kernel⟩
theorem lk_X11_142 : Lk md_Md_remove [.methodLink RX11 142 md_Md_remove.y, .instanceMethod md_Md_remove.y, .selects md_Md_remove.y.cls md_Md_remove.y md_Md_remove.y] := lk_of (by decide +kernel)
theorem ar_Md_remove : Arity md_Md_remove 1 := ⟨by decide +kernel, by decide +kernel, by decide +kernel⟩
theorem lk_X11_145 : Lk md_Md_removeSlip [.methodLink RX11 145 md_Md_removeSlip.y, .instanceMethod md_Md_removeSlip.y, .selects md_Md_removeSlip.y.cls md_Md_removeSlip.y md_Md_removeSlip.y] := lk_of (by decide +kernel)
theorem ar_Md_removeSlip : Arity md_Md_removeSlip 1 := ⟨by decide +kernel, by decide +kernel, by decide +kernel⟩
theorem lk_X11_149 : Lk md_Md_idleness [.methodLink RX11 149 md_Md_idleness.y, .instanceMethod md_Md_idleness.y, .selects md_Md_idleness.y.cls md_Md_idleness.y md_Md_idleness.y] := lk_of (by decide +kernel)
theorem ar_Md_idleness : Arity md_Md_idleness 1 := ⟨by decide +kernel, by decide +kernel, by decide +kernel⟩
theorem lk_X11_152 : Lk md_Md_search [.methodLink RX11 152 md_Md_search.y, .instanceMethod md_Md_search.y, .selects md_Md_search.y.cls md_Md_search.y md_Md_search.y] := lk_of (by decide +kernel)
theorem ar_Md_search : Arity md_Md_search 1 := ⟨by decide +kernel, by decide +kernel, by decide +kernel⟩
theorem lk_X11_155 : Lk md_Md_serve [.methodLink RX11 155 md_Md_serve.y, .instanceMethod md_Md_serve.y, .selects md_Md_serve.y.cls md_Md_serve.y md_Md_serve.y] := lk_of (by decide +kernel)
theorem ar_Md_serve : Arity md_Md_serve 1 := ⟨by decide +kernel, by decide +kernel, by decide +kernel⟩
theorem lk_X11_158 : Lk md_Md_refile [.methodLink RX11 158 md_Md_refile.y, .instanceMethod md_Md_refile.y, .selects md_Md_refile.y.cls md_Md_refile.y md_Md_refile.y] := lk_of (by decide +kernel)
theorem ar_Md_refile : Arity md_Md_refile 0 := ⟨by decide +kernel, by decide +kernel, by decide +kernel⟩
theorem lk_X11_161 : Lk md_Md_searchAll [.methodLink RX11 161 md_Md_searchAll.y, .instanceMethod md_Md_searchAll.y, .selects md_Md_searchAll.y.cls md_Md_searchAll.y md_Md_searchAll.y] := lk_of (by decide +kernel)
theorem ar_Md_searchAll : Arity md_Md_searchAll 1 := ⟨by decide +kernel, by decide +kernel, by decide +kernel⟩
theorem lk_X11_164 : Lk md_Md_tallied [.methodLink RX11 164 md_Md_tallied.y, .instanceMethod md_Md_tallied.y, .selects md_Md_tallied.y.cls md_Md_tallied.y md_Md_tallied.y] := lk_of (by decide +kernel)
theorem ar_Md_tallied : Arity md_Md_tallied 1 := ⟨by decide +kernel, by decide +kernel, by decide +kernel⟩
theorem lk_X11_167 : Lk md_Md_pass [.methodLink RX11 167 md_Md_pass.y, .instanceMethod md_Md_pass.y, .selects md_Md_pass.y.cls md_Md_pass.y md_Md_pass.y] := lk_of (by decide +kernel)
theorem ar_Md_pass : Arity md_Md_pass 1 := ⟨by decide +kernel, by decide +kernel, by decide +kernel⟩
theorem lk_X11_170 : Lk md_Md_lacks [.methodLink RX11 170 md_Md_lacks.y, .instanceMethod md_Md_lacks.y, .selects md_Md_lacks.y.cls md_Md_lacks.y md_Md_lacks.y] := lk_of (by decide +kernel)
theorem ar_Md_lacks : Arity md_Md_lacks 1 := ⟨by decide +kernel, by decide +kernel, by decide +kernel⟩
theorem lk_X11_174 : Lk md_Md_countIn [.methodLink RX11 174 md_Md_countIn.y, .instanceMethod md_Md_countIn.y, .selects md_Md_countIn.y.cls md_Md_countIn.y md_Md_countIn.y] := lk_of (by decide +kernel)
theorem ar_Md_countIn : Arity md_Md_countIn 1 := ⟨by decide +kernel, by decide +kernel, by decide +kernel⟩
theorem lk_X11_177 : Lk md_Md_countWrong [.methodLink RX11 177 md_Md_countWrong.y, .instanceMethod md_Md_countWrong.y, .selects md_Md_countWrong.y.cls md_Md_countWrong.y md_Md_countWrong.y] := lk_of (by decide +kernel)
theorem ar_Md_countWrong : Arity md_Md_countWrong 0 := ⟨by decide +kernel, by decide +kernel, by decide +kernel⟩
theorem lk_X11_180 : Lk md_Md_daysToRefiling [.methodLink RX11 180 md_Md_daysToRefiling.y, .instanceMethod md_Md_daysToRefiling.y, .selects md_Md_daysToRefiling.y.cls md_Md_daysToRefiling.y md_Md_daysToRefiling.y] := lk_of (by decide +kernel)
theorem ar_Md_daysToRefiling : Arity md_Md_daysToRefiling 0 := ⟨by decide +kernel, by decide +kernel, by decide +kernel⟩
theorem fl_X11_28 : Cond.fieldLink RX11 28 (TX11 6).1 (TX11 6).2.1 (TX11 6).2.2.1 ∈ aw := aw1 (by decide +kernel)
theorem lk_X11_183 : Lk md_Md_trolleyPlace [.methodLink RX11 183 md_Md_trolleyPlace.y, .instanceMethod md_Md_trolleyPlace.y, .selects md_Md_trolleyPlace.y.cls md_Md_trolleyPlace.y md_Md_trolleyPlace.y] := lk_of (by decide +kernel)
theorem ar_Md_trolleyPlace : Arity md_Md_trolleyPlace 1 := ⟨by decide +kernel, by decide +kernel, by decide +kernel⟩
theorem lk_X11_186 : Lk md_Md_isFolder [.methodLink RX11 186 md_Md_isFolder.y, .instanceMethod md_Md_isFolder.y, .selects md_Md_isFolder.y.cls md_Md_isFolder.y md_Md_isFolder.y] := lk_of (by decide +kernel)
theorem ar_Md_isFolder : Arity md_Md_isFolder 1 := ⟨by decide +kernel, by decide +kernel, by decide +kernel⟩
theorem lk_X11_189 : Lk md_Md_whereIs [.methodLink RX11 189 md_Md_whereIs.y, .instanceMethod md_Md_whereIs.y, .selects md_Md_whereIs.y.cls md_Md_whereIs.y md_Md_whereIs.y] := lk_of (by decide +kernel)
theorem ar_Md_whereIs : Arity md_Md_whereIs 1 := ⟨by decide +kernel, by decide +kernel, by decide +kernel⟩
theorem lk_X11_192 : Lk md_Md_slipsWith [.methodLink RX11 192 md_Md_slipsWith.y, .instanceMethod md_Md_slipsWith.y, .selects md_Md_slipsWith.y.cls md_Md_slipsWith.y md_Md_slipsWith.y] := lk_of (by decide +kernel)
theorem ar_Md_slipsWith : Arity md_Md_slipsWith 2 := ⟨by decide +kernel, by decide +kernel, by decide +kernel⟩
theorem lk_X11_195 : Lk md_Md_raise [.methodLink RX11 195 md_Md_raise.y, .instanceMethod md_Md_raise.y, .selects md_Md_raise.y.cls md_Md_raise.y md_Md_raise.y] := lk_of (by decide +kernel)
theorem ar_Md_raise : Arity md_Md_raise 1 := ⟨by decide +kernel, by decide +kernel, by decide +kernel⟩
theorem lk_X11_198 : Lk md_Md_folderMarked [.methodLink RX11 198 md_Md_folderMarked.y, .instanceMethod md_Md_folderMarked.y, .selects md_Md_folderMarked.y.cls md_Md_folderMarked.y md_Md_folderMarked.y] := lk_of (by decide +kernel)
theorem ar_Md_folderMarked : Arity md_Md_folderMarked 1 := ⟨by decide +kernel, by decide +kernel, by decide +kernel⟩
theorem lk_X11_201 : Lk md_Md_isReader [.methodLink RX11 201 md_Md_isReader.y, .instanceMethod md_Md_isReader.y, .selects md_Md_isReader.y.cls md_Md_isReader.y md_Md_isReader.y] := lk_of (by decide +kernel)
theorem ar_Md_isReader : Arity md_Md_isReader 1 := ⟨by decide +kernel, by decide +kernel, by decide +kernel⟩
theorem lk_X11_204 : Lk md_Md_isSlip [.methodLink RX11 204 md_Md_isSlip.y, .instanceMethod md_Md_isSlip.y, .selects md_Md_isSlip.y.cls md_Md_isSlip.y md_Md_isSlip.y] := lk_of (by decide +kernel)
theorem ar_Md_isSlip : Arity md_Md_isSlip 1 := ⟨by decide +kernel, by decide +kernel, by decide +kernel⟩
theorem lk_X11_207 : Lk md_Md_timesIn [.methodLink RX11 207 md_Md_timesIn.y, .instanceMethod md_Md_timesIn.y, .selects md_Md_timesIn.y.cls md_Md_timesIn.y md_Md_timesIn.y] := lk_of (by decide +kernel)
theorem ar_Md_timesIn : Arity md_Md_timesIn 3 := ⟨by decide +kernel, by decide +kernel, by decide +kernel⟩
theorem lk_X11_211 : Lk md_Md_countMissed [.methodLink RX11 211 md_Md_countMissed.y, .instanceMethod md_Md_countMissed.y, .selects md_Md_countMissed.y.cls md_Md_countMissed.y md_Md_countMissed.y] := lk_of (by decide +kernel)
theorem ar_Md_countMissed : Arity md_Md_countMissed 0 := ⟨by decide +kernel, by decide +kernel, by decide +kernel⟩
theorem lk_X11_214 : Lk md_Md_orderPlace [.methodLink RX11 214 md_Md_orderPlace.y, .instanceMethod md_Md_orderPlace.y, .selects md_Md_orderPlace.y.cls md_Md_orderPlace.y md_Md_orderPlace.y] := lk_of (by decide +kernel)
theorem ar_Md_orderPlace : Arity md_Md_orderPlace 1 := ⟨by decide +kernel, by decide +kernel, by decide +kernel⟩
theorem lk_X11_217 : Lk md_Md_misplacement [.methodLink RX11 217 md_Md_misplacement.y, .instanceMethod md_Md_misplacement.y, .selects md_Md_misplacement.y.cls md_Md_misplacement.y md_Md_misplacement.y] := lk_of (by decide +kernel)
theorem ar_Md_misplacement : Arity md_Md_misplacement 1 := ⟨by decide +kernel, by decide +kernel, by decide +kernel⟩
theorem lk_X11_220 : Lk md_Md_countInversions [.methodLink RX11 220 md_Md_countInversions.y, .instanceMethod md_Md_countInversions.y, .selects md_Md_countInversions.y.cls md_Md_countInversions.y md_Md_countInversions.y] := lk_of (by decide +kernel)
theorem ar_Md_countInversions : Arity md_Md_countInversions 0 := ⟨by decide +kernel, by decide +kernel, by decide +kernel⟩
def Md_copy (M : MdM) (i : Nat) (a : Int32) (j : Nat) (b : Int32) : Option MdM :=
  if ¬ 257 * a < 0 ∧ ¬ 257 * b < 0 ∧ (257 * a).toNatClampNeg + 257 ≤ mz i ∧ (257 * b).toNatClampNeg + 257 ≤ mz j then some (setA M j (va_cpy (M.2 i) (M.2 j) (257 * a).toNatClampNeg (257 * b).toNatClampNeg 257)) else none
theorem sc_X11_232 : ∀ w ∈ [Cond.methodLink RX11 232 arraycopyName, Cond.native arraycopyName, Cond.static arraycopyName, Cond.initialized "java/lang/System"], w ∈ aw := aw_of (by decide +kernel)
theorem c_Md_copy (l : Launch) (g : Gl) (σ : Hp) (T : Nat) (ow : Nat → Option Nat) (ρ : Nat) (M : MdM) (i j : Nat) (hi : i < 12) (hj : j < 12) (a b : Int32) {r : MdM} (hr : Md_copy M i a j b = some r) : MG l g md_Md_copy [.ref (T + 1 + i), .int a, .ref (T + 1 + j), .int b] (putMd σ T ow ρ M) (rs none (putMd σ T ow ρ r)) := by
  refine MG.intro (by decide +kernel) (Nat.le_of_ble_eq_true rfl) (fun X hx hR _ => ?_)
  obtain ⟨⟨h1, h2, h3, h4⟩, hr⟩ := ob hr
  refine g_ls [0, 1, 2, 3] [(0, .ref (T + 1 + i)), (1, .int a), (2, .ref (T + 1 + j)), (3, .int b)] rfl ?_
  refine g_aload_n hx 0 (i := 0) 0 dX11_copy_0 rfl rfl ?_
  refine g_sipush hx 1 257 dX11_copy_1 rfl ?_
  refine g_iload_n hx 4 (i := 1) 1 dX11_copy_4 rfl rfl ?_
  refine g_imul hx 5 dX11_copy_5 ?_
  refine g_aload_n hx 6 (i := 2) 2 dX11_copy_6 rfl rfl ?_
  refine g_sipush hx 7 257 dX11_copy_7 rfl ?_
  refine g_iload_n hx 10 (i := 3) 3 dX11_copy_10 rfl rfl ?_
  refine g_imul hx 11 dX11_copy_11 ?_
  refine g_sipush hx 12 257 dX11_copy_12 rfl ?_
  refine g_copy hx 15 (pM_a σ T ow ρ M i hi) (pM_a σ T ow ρ M j hj) sc_X11_232 h1 h2 (by decide) h3 h4 (Nat.le_of_ble_eq_true rfl) ⟨Nat.le_of_ble_eq_true rfl, Nat.le_of_ble_eq_true rfl⟩ dX11_copy_15 ?_
  refine G.heap (pM_s σ T ow ρ M j hj _) ?_
  exact g_vret hx hR 18 dX11_copy_18 ⟨rfl, by rw [← Option.some.inj hr]; rfl⟩
def Md_thrown (ρ : Nat) (M : MdM) : Int32 := M.1 9
set_option maxRecDepth 100000 in
set_option maxHeartbeats 4000000 in
theorem c_Md_thrown {ρ : Nat} (hρ : ρ < 2) (l : Launch) (g : Gl) (σ : Hp) (T : Nat) (ow : Nat → Option Nat) (M : MdM) {r : Int32} (hr : Md_thrown ρ M = r) : MG l g md_Md_thrown [.ref T] (putMd σ T ow ρ M) (rs (some (.int r)) (putMd σ T ow ρ M)) := by
  refine MG.intro (by decide +kernel) (Nat.le_of_ble_eq_true rfl) (fun X hx hR _ => ?_)
  unfold Md_thrown at hr
  refine g_ls [0] [(0, .ref T)] rfl ?_
  refine g_aload_n hx 0 (i := 0) 0 dX11_thrown_0 rfl rfl ?_
  refine g_get hx 1 (C := RX11) (T := TX11) (N := 30) 9 (.int (M.1 9)) (pM_o σ T ow ρ M) rfl (by decide) rfl fl_X11_81 dX11_thrown_1 ?_
  exact g_iret hx hR 4 dX11_thrown_4 ⟨by rw [← hr] <;> rfl, rfl⟩
def Md_raise (ρ : Nat) (M : MdM) (p1 : Int32) : Int32 × MdM := (0, setF M 9 p1)
set_option maxRecDepth 100000 in
set_option maxHeartbeats 4000000 in
theorem c_Md_raise {ρ : Nat} (hρ : ρ < 2) (l : Launch) (g : Gl) (σ : Hp) (T : Nat) (ow : Nat → Option Nat) (M : MdM) (p1 : Int32) {r : Int32 × MdM} (hr : Md_raise ρ M p1 = r) : MG l g md_Md_raise [.ref T, .int p1] (putMd σ T ow ρ M) (rs (some (.int r.1)) (putMd σ T ow ρ r.2)) := by
  refine MG.intro (by decide +kernel) (Nat.le_of_ble_eq_true rfl) (fun X hx hR _ => ?_)
  unfold Md_raise at hr
  refine g_ls [0, 1] [(0, .ref T), (1, .int p1)] rfl ?_
  refine g_aload_n hx 0 (i := 0) 0 dX11_raise_0 rfl rfl ?_
  refine g_iload_n hx 1 (i := 1) 1 dX11_raise_1 rfl rfl ?_
  refine g_put hx 2 (C := RX11) (T := TX11) (N := 30) 9 .int _ (pM_o σ T ow ρ M) rfl (by decide) fl_X11_81 rfl rfl rfl rfl (Nat.le_of_ble_eq_true rfl) rfl dX11_raise_2 ?_
  refine G.heap (pM_f σ T ow ρ M 9 p1) ?_
  refine g_iconst hx 5 (0) dX11_raise_5 rfl ?_
  exact g_iret hx hR 6 dX11_raise_6 ⟨by rw [← hr] <;> rfl, by rw [← hr] <;> rfl⟩
def Md_inRange (p1 p2 p3 : Int32) : Int32 := if p1 < p2 then (0) else (if p3 < p1 then (0) else (1))
set_option maxRecDepth 100000 in
set_option maxHeartbeats 4000000 in
theorem c_Md_inRange (l : Launch) (g : Gl) (σ : Hp) (p1 p2 p3 : Int32) {r : Int32} (hr : Md_inRange p1 p2 p3 = r) : MG l g md_Md_inRange [.int p1, .int p2, .int p3] σ (rs (some (.int r)) σ) := by
  refine MG.intro (by decide +kernel) (Nat.le_of_ble_eq_true rfl) (fun X hx hR _ => ?_)
  unfold Md_inRange at hr
  refine g_ls [0, 1, 2] [(0, .int p1), (1, .int p2), (2, .int p3)] rfl ?_
  refine g_iload_n hx 0 (i := 0) 0 dX11_inRange_0 rfl rfl ?_
  refine g_iload_n hx 1 (i := 1) 1 dX11_inRange_1 rfl rfl ?_
  refine g_icmp_lt hx 2 14 dX11_inRange_2 (by decide) (fun hc_248 => ?_) (fun hc_248 => ?_)
  · have hr := (if_pos hc_248).symm.trans hr
    refine g_iconst hx 14 (0) dX11_inRange_14 rfl ?_
    exact g_zret hx hR 15 (Or.inl rfl) dX11_inRange_15 ⟨by rw [← hr] <;> rfl, rfl⟩
  · have hr := (if_neg hc_248).symm.trans hr
    refine g_iload_n hx 5 (i := 0) 0 dX11_inRange_5 rfl rfl ?_
    refine g_iload_n hx 6 (i := 2) 2 dX11_inRange_6 rfl rfl ?_
    refine g_icmp_gt hx 7 14 dX11_inRange_7 (by decide) (fun hc_249 => ?_) (fun hc_249 => ?_)
    · have hr := (if_pos hc_249).symm.trans hr
      refine g_iconst hx 14 (0) dX11_inRange_14 rfl ?_
      exact g_zret hx hR 15 (Or.inl rfl) dX11_inRange_15 ⟨by rw [← hr] <;> rfl, rfl⟩
    · have hr := (if_neg hc_249).symm.trans hr
      refine g_iconst hx 10 (1) dX11_inRange_10 rfl ?_
      refine g_goto hx 11 15 dX11_inRange_11 (by decide) ?_
      exact g_zret hx hR 15 (Or.inr rfl) dX11_inRange_15 ⟨by rw [← hr] <;> rfl, rfl⟩
theorem bo_Md_inRange (p1 p2 p3 : Int32) : Md_inRange p1 p2 p3 = 0 ∨ Md_inRange p1 p2 p3 = 1 := by
  unfold Md_inRange
  (repeat' split) <;> first | exact Or.inl rfl | exact Or.inr rfl | exact bo_Rw_isWrong .. | exact bo_Sl_has .. | exact bo_St_hasFolder .. | exact bo_St_hasReader .. | exact bo_St_isClosed .. | exact bo_St_isRefilingDay ..
def Md_lacks (ρ : Nat) (M : MdM) (p1 : Int32) : Int32 × MdM := if p1 = 0 then (if p1 = 0 then ((1, setF M 9 1)) else ((0, setF M 9 1))) else (if p1 = 0 then ((1, setF M 9 0)) else ((0, setF M 9 0)))
set_option maxRecDepth 100000 in
set_option maxHeartbeats 4000000 in
theorem c_Md_lacks {ρ : Nat} (hρ : ρ < 2) (l : Launch) (g : Gl) (σ : Hp) (T : Nat) (ow : Nat → Option Nat) (M : MdM) (p1 : Int32) {r : Int32 × MdM} (hr : Md_lacks ρ M p1 = r) : MG l g md_Md_lacks [.ref T, .int p1] (putMd σ T ow ρ M) (rs (some (.int r.1)) (putMd σ T ow ρ r.2)) := by
  refine MG.intro (by decide +kernel) (Nat.le_of_ble_eq_true rfl) (fun X hx hR _ => ?_)
  unfold Md_lacks at hr
  refine g_ls [0, 1] [(0, .ref T), (1, .int p1)] rfl ?_
  refine g_aload_n hx 0 (i := 0) 0 dX11_lacks_0 rfl rfl ?_
  refine g_iload_n hx 1 (i := 1) 1 dX11_lacks_1 rfl rfl ?_
  refine g_if_eq hx 2 9 dX11_lacks_2 (by decide) (fun hc_250 => ?_) (fun hc_250 => ?_)
  · have hr := (if_pos hc_250).symm.trans hr
    refine g_iconst hx 9 (1) dX11_lacks_9 rfl ?_
    refine g_put hx 10 (C := RX11) (T := TX11) (N := 30) 9 .int _ (pM_o σ T ow ρ M) rfl (by decide) fl_X11_81 rfl rfl rfl rfl (Nat.le_of_ble_eq_true rfl) rfl dX11_lacks_10 ?_
    refine G.heap (pM_f σ T ow ρ M 9 1) ?_
    refine g_iload_n hx 13 (i := 1) 1 dX11_lacks_13 rfl rfl ?_
    refine g_if_ne hx 14 21 dX11_lacks_14 (by decide) (fun hc_251 => ?_) (fun hc_251 => ?_)
    · have hr := (if_neg hc_251).symm.trans hr
      refine g_iconst hx 21 (0) dX11_lacks_21 rfl ?_
      exact g_zret hx hR 22 (Or.inl rfl) dX11_lacks_22 ⟨by rw [← hr] <;> rfl, by rw [← hr] <;> rfl⟩
    · have hr := (if_pos hc_251).symm.trans hr
      refine g_iconst hx 17 (1) dX11_lacks_17 rfl ?_
      refine g_goto hx 18 22 dX11_lacks_18 (by decide) ?_
      exact g_zret hx hR 22 (Or.inr rfl) dX11_lacks_22 ⟨by rw [← hr] <;> rfl, by rw [← hr] <;> rfl⟩
  · have hr := (if_neg hc_250).symm.trans hr
    refine g_iconst hx 5 (0) dX11_lacks_5 rfl ?_
    refine g_goto hx 6 10 dX11_lacks_6 (by decide) ?_
    refine g_put hx 10 (C := RX11) (T := TX11) (N := 30) 9 .int _ (pM_o σ T ow ρ M) rfl (by decide) fl_X11_81 rfl rfl rfl rfl (Nat.le_of_ble_eq_true rfl) rfl dX11_lacks_10 ?_
    refine G.heap (pM_f σ T ow ρ M 9 0) ?_
    refine g_iload_n hx 13 (i := 1) 1 dX11_lacks_13 rfl rfl ?_
    refine g_if_ne hx 14 21 dX11_lacks_14 (by decide) (fun hc_252 => ?_) (fun hc_252 => ?_)
    · have hr := (if_neg hc_252).symm.trans hr
      refine g_iconst hx 21 (0) dX11_lacks_21 rfl ?_
      exact g_zret hx hR 22 (Or.inl rfl) dX11_lacks_22 ⟨by rw [← hr] <;> rfl, by rw [← hr] <;> rfl⟩
    · have hr := (if_pos hc_252).symm.trans hr
      refine g_iconst hx 17 (1) dX11_lacks_17 rfl ?_
      refine g_goto hx 18 22 dX11_lacks_18 (by decide) ?_
      exact g_zret hx hR 22 (Or.inr rfl) dX11_lacks_22 ⟨by rw [← hr] <;> rfl, by rw [← hr] <;> rfl⟩
def Md_begin_L3 (ρ : Nat) : Nat → MdM → Int32 → Int32 → Int32 → Int32 → Int32 → Option (MdM)
  | 0, _, _, _, _, _, _ => none
  | n + 1, M, v1_253, v2_254, v3_255, v4_256, v5_257 => if 257 ≤ v5_257 then (some (setA M ρ (upd (upd (upd (upd (M.2 ρ) (1 : Int32).toNatClampNeg v1_253) (2 : Int32).toNatClampNeg v2_254) (3 : Int32).toNatClampNeg v3_255) (4 : Int32).toNatClampNeg v4_256))) else (if inB v5_257 257 then (Md_begin_L3 ρ n (setA M ρ (upd (M.2 ρ) v5_257.toNatClampNeg 0)) v1_253 v2_254 v3_255 v4_256 (v5_257 + 1)) else none)
def Md_begin (ρ : Nat) (M : MdM) (p1 p2 p3 p4 : Int32) : Option (MdM) := Md_begin_L3 ρ FU M p1 p2 p3 p4 0
set_option maxRecDepth 100000 in
set_option maxHeartbeats 4000000 in
theorem w_Md_begin_L3 {ρ : Nat} (hρ : ρ < 2) {X : Cx} {l : Launch} {g : Gl} (hx : Ok X l g RX11 cX11_begin 6 md_Md_begin.rm) {σ : Hp} {T : Nat} {ow : Nat → Option Nat} {r : MdM} (hR : Ret X (rs none (putMd σ T ow ρ r)) 0 0 (none)) : ∀ (n : Nat) (M : MdM) (v1_253 v2_254 v3_255 v4_256 v5_257 : Int32), Md_begin_L3 ρ n M v1_253 v2_254 v3_255 v4_256 v5_257 = some r → G X (putMd σ T ow ρ M) 0 0 3 [(0, .ref T), (1, .int v1_253), (2, .int v2_254), (3, .int v3_255), (4, .int v4_256), (5, .int v5_257)] [] := by
  intro n
  induction n with
  | zero =>
    intro M v1_253 v2_254 v3_255 v4_256 v5_257 hr
    rw [Md_begin_L3] at hr
    cases hr
  | succ n ih =>
    intro M v1_253 v2_254 v3_255 v4_256 v5_257 hr
    rw [Md_begin_L3] at hr
    refine g_iload hx 3 (i := 5) 5 dX11_begin_3 rfl ?_
    refine g_sipush hx 5 (257) dX11_begin_5 rfl ?_
    refine g_icmp_ge hx 8 25 dX11_begin_8 (by decide) (fun hc_258 => ?_) (fun hc_258 => ?_)
    · have hr := (if_pos hc_258).symm.trans hr
      refine g_aload_n hx 25 (i := 0) 0 dX11_begin_25 rfl rfl ?_
      refine g_get hx 26 (C := RX11) (T := TX11) (N := 30) 7 (.ref (T + 1 + ρ)) (pM_o σ T ow ρ M) rfl (by decide) rfl fl_X11_31 dX11_begin_26 ?_
      refine g_iconst hx 29 (1) dX11_begin_29 rfl ?_
      refine g_iload_n hx 30 (i := 1) 1 dX11_begin_30 rfl rfl ?_
      refine g_iast hx 31 (pM_row hρ σ T ow M) (by decide : inB 1 257) dX11_begin_31 ?_
      refine G.heap (pM_rs hρ σ T ow M (upd (M.2 ρ) (1 : Int32).toNatClampNeg v1_253)) ?_
      refine g_aload_n hx 32 (i := 0) 0 dX11_begin_32 rfl rfl ?_
      refine g_get hx 33 (C := RX11) (T := TX11) (N := 30) 7 (.ref (T + 1 + ρ)) (pM_o σ T ow ρ (setA M ρ (upd (M.2 ρ) (1 : Int32).toNatClampNeg v1_253))) rfl (by decide) rfl fl_X11_31 dX11_begin_33 ?_
      refine g_iconst hx 36 (2) dX11_begin_36 rfl ?_
      refine g_iload_n hx 37 (i := 2) 2 dX11_begin_37 rfl rfl ?_
      refine g_iast hx 38 (pM_row' hρ σ T ow (setA M ρ (upd (M.2 ρ) (1 : Int32).toNatClampNeg v1_253)) (upd (M.2 ρ) (1 : Int32).toNatClampNeg v1_253) (setA_s M ρ _)) (by decide : inB 2 257) dX11_begin_38 ?_
      refine G.heap (pM_rs hρ σ T ow (setA M ρ (upd (M.2 ρ) (1 : Int32).toNatClampNeg v1_253)) (upd (upd (M.2 ρ) (1 : Int32).toNatClampNeg v1_253) (2 : Int32).toNatClampNeg v2_254)) ?_
      refine G.heap (congrArg (putMd σ T ow ρ) (setA_A M ρ _ _)) ?_
      refine g_aload_n hx 39 (i := 0) 0 dX11_begin_39 rfl rfl ?_
      refine g_get hx 40 (C := RX11) (T := TX11) (N := 30) 7 (.ref (T + 1 + ρ)) (pM_o σ T ow ρ (setA M ρ (upd (upd (M.2 ρ) (1 : Int32).toNatClampNeg v1_253) (2 : Int32).toNatClampNeg v2_254))) rfl (by decide) rfl fl_X11_31 dX11_begin_40 ?_
      refine g_iconst hx 43 (3) dX11_begin_43 rfl ?_
      refine g_iload_n hx 44 (i := 3) 3 dX11_begin_44 rfl rfl ?_
      refine g_iast hx 45 (pM_row' hρ σ T ow (setA M ρ (upd (upd (M.2 ρ) (1 : Int32).toNatClampNeg v1_253) (2 : Int32).toNatClampNeg v2_254)) (upd (upd (M.2 ρ) (1 : Int32).toNatClampNeg v1_253) (2 : Int32).toNatClampNeg v2_254) (setA_s M ρ _)) (by decide : inB 3 257) dX11_begin_45 ?_
      refine G.heap (pM_rs hρ σ T ow (setA M ρ (upd (upd (M.2 ρ) (1 : Int32).toNatClampNeg v1_253) (2 : Int32).toNatClampNeg v2_254)) (upd (upd (upd (M.2 ρ) (1 : Int32).toNatClampNeg v1_253) (2 : Int32).toNatClampNeg v2_254) (3 : Int32).toNatClampNeg v3_255)) ?_
      refine G.heap (congrArg (putMd σ T ow ρ) (setA_A M ρ _ _)) ?_
      refine g_aload_n hx 46 (i := 0) 0 dX11_begin_46 rfl rfl ?_
      refine g_get hx 47 (C := RX11) (T := TX11) (N := 30) 7 (.ref (T + 1 + ρ)) (pM_o σ T ow ρ (setA M ρ (upd (upd (upd (M.2 ρ) (1 : Int32).toNatClampNeg v1_253) (2 : Int32).toNatClampNeg v2_254) (3 : Int32).toNatClampNeg v3_255))) rfl (by decide) rfl fl_X11_31 dX11_begin_47 ?_
      refine g_iconst hx 50 (4) dX11_begin_50 rfl ?_
      refine g_iload hx 51 (i := 4) 4 dX11_begin_51 rfl ?_
      refine g_iast hx 53 (pM_row' hρ σ T ow (setA M ρ (upd (upd (upd (M.2 ρ) (1 : Int32).toNatClampNeg v1_253) (2 : Int32).toNatClampNeg v2_254) (3 : Int32).toNatClampNeg v3_255)) (upd (upd (upd (M.2 ρ) (1 : Int32).toNatClampNeg v1_253) (2 : Int32).toNatClampNeg v2_254) (3 : Int32).toNatClampNeg v3_255) (setA_s M ρ _)) (by decide : inB 4 257) dX11_begin_53 ?_
      refine G.heap (pM_rs hρ σ T ow (setA M ρ (upd (upd (upd (M.2 ρ) (1 : Int32).toNatClampNeg v1_253) (2 : Int32).toNatClampNeg v2_254) (3 : Int32).toNatClampNeg v3_255)) (upd (upd (upd (upd (M.2 ρ) (1 : Int32).toNatClampNeg v1_253) (2 : Int32).toNatClampNeg v2_254) (3 : Int32).toNatClampNeg v3_255) (4 : Int32).toNatClampNeg v4_256)) ?_
      refine G.heap (congrArg (putMd σ T ow ρ) (setA_A M ρ _ _)) ?_
      exact g_vret hx hR 54 dX11_begin_54 ⟨rfl, by rw [← Option.some.inj hr] <;> rfl⟩
    · have hr := (if_neg hc_258).symm.trans hr
      refine g_aload_n hx 11 (i := 0) 0 dX11_begin_11 rfl rfl ?_
      refine g_get hx 12 (C := RX11) (T := TX11) (N := 30) 7 (.ref (T + 1 + ρ)) (pM_o σ T ow ρ M) rfl (by decide) rfl fl_X11_31 dX11_begin_12 ?_
      refine g_iload hx 15 (i := 5) 5 dX11_begin_15 rfl ?_
      refine g_iconst hx 17 (0) dX11_begin_17 rfl ?_
      obtain ⟨hb_263, hr⟩ := ob hr
      refine g_iast hx 18 (pM_row hρ σ T ow M) hb_263 dX11_begin_18 ?_
      refine G.heap (pM_rs hρ σ T ow M (upd (M.2 ρ) v5_257.toNatClampNeg 0)) ?_
      refine g_iinc hx 19 (i := 5) 5 (v5_257 + 1) [(5, .int (v5_257 + 1)), (0, .ref T), (1, .int v1_253), (2, .int v2_254), (3, .int v3_255), (4, .int v4_256)] dX11_begin_19 rfl rfl (by decide) rfl ?_
      refine g_goto hx 22 3 dX11_begin_22 (by decide) ?_
      refine g_ls [1, 2, 3, 4, 5, 0] [(0, .ref T), (1, .int v1_253), (2, .int v2_254), (3, .int v3_255), (4, .int v4_256), (5, .int (v5_257 + 1))] rfl ?_
      exact ih (setA M ρ (upd (M.2 ρ) v5_257.toNatClampNeg 0)) v1_253 v2_254 v3_255 v4_256 (v5_257 + 1) hr
set_option maxRecDepth 100000 in
set_option maxHeartbeats 4000000 in
theorem c_Md_begin {ρ : Nat} (hρ : ρ < 2) (l : Launch) (g : Gl) (σ : Hp) (T : Nat) (ow : Nat → Option Nat) (M : MdM) (p1 p2 p3 p4 : Int32) {r : MdM} (hr : Md_begin ρ M p1 p2 p3 p4 = some r) : MG l g md_Md_begin [.ref T, .int p1, .int p2, .int p3, .int p4] (putMd σ T ow ρ M) (rs none (putMd σ T ow ρ r)) := by
  refine MG.intro (by decide +kernel) (Nat.le_of_ble_eq_true rfl) (fun X hx hR _ => ?_)
  unfold Md_begin at hr
  refine g_ls [0, 1, 2, 3, 4] [(0, .ref T), (1, .int p1), (2, .int p2), (3, .int p3), (4, .int p4)] rfl ?_
  refine g_iconst hx 0 (0) dX11_begin_0 rfl ?_
  refine g_istore hx 1 (i := 5) [(5, .int 0), (0, .ref T), (1, .int p1), (2, .int p2), (3, .int p3), (4, .int p4)] dX11_begin_1 (by decide) rfl ?_
  refine g_ls [1, 2, 3, 4, 5, 0] [(0, .ref T), (1, .int p1), (2, .int p2), (3, .int p3), (4, .int p4), (5, .int 0)] rfl ?_
  exact w_Md_begin_L3 hρ hx hR FU M p1 p2 p3 p4 0 hr
def Md_tally (ρ : Nat) (M : MdM) (p1 p2 : Int32) : Option (MdM) := if inB ((9 + p1) - 3) 257 then (if inB ((9 + p1) - 3) 257 then (some (setA M ρ (upd (M.2 ρ) ((9 + p1) - 3).toNatClampNeg (((M.2 ρ) ((9 + p1) - 3).toNatClampNeg) + p2)))) else none) else none
set_option maxRecDepth 100000 in
set_option maxHeartbeats 4000000 in
theorem c_Md_tally {ρ : Nat} (hρ : ρ < 2) (l : Launch) (g : Gl) (σ : Hp) (T : Nat) (ow : Nat → Option Nat) (M : MdM) (p1 p2 : Int32) {r : MdM} (hr : Md_tally ρ M p1 p2 = some r) : MG l g md_Md_tally [.ref T, .int p1, .int p2] (putMd σ T ow ρ M) (rs none (putMd σ T ow ρ r)) := by
  refine MG.intro (by decide +kernel) (Nat.le_of_ble_eq_true rfl) (fun X hx hR _ => ?_)
  unfold Md_tally at hr
  refine g_ls [0, 1, 2] [(0, .ref T), (1, .int p1), (2, .int p2)] rfl ?_
  refine g_aload_n hx 0 (i := 0) 0 dX11_tally_0 rfl rfl ?_
  refine g_get hx 1 (C := RX11) (T := TX11) (N := 30) 7 (.ref (T + 1 + ρ)) (pM_o σ T ow ρ M) rfl (by decide) rfl fl_X11_31 dX11_tally_1 ?_
  refine g_bipush hx 4 (9) dX11_tally_4 rfl ?_
  refine g_iload_n hx 6 (i := 1) 1 dX11_tally_6 rfl rfl ?_
  refine g_iadd hx 7 dX11_tally_7 ?_
  refine g_iconst hx 8 (3) dX11_tally_8 rfl ?_
  refine g_isub hx 9 dX11_tally_9 ?_
  refine g_dup2 hx 10 dX11_tally_10 rfl rfl ?_
  obtain ⟨hb_264, hr⟩ := ob hr
  refine g_iald hx 11 (pM_row hρ σ T ow M) hb_264 dX11_tally_11 ?_
  refine g_iload_n hx 12 (i := 2) 2 dX11_tally_12 rfl rfl ?_
  refine g_iadd hx 13 dX11_tally_13 ?_
  obtain ⟨hb_265, hr⟩ := ob hr
  refine g_iast hx 14 (pM_row hρ σ T ow M) hb_265 dX11_tally_14 ?_
  refine G.heap (pM_rs hρ σ T ow M (upd (M.2 ρ) ((9 + p1) - 3).toNatClampNeg (((M.2 ρ) ((9 + p1) - 3).toNatClampNeg) + p2))) ?_
  exact g_vret hx hR 15 dX11_tally_15 ⟨rfl, by rw [← Option.some.inj hr] <;> rfl⟩
def Md_tallied (ρ : Nat) (M : MdM) (p1 : Int32) : Option (Int32) := if inB ((9 + p1) - 3) 257 then (some ((M.2 ρ) ((9 + p1) - 3).toNatClampNeg)) else none
set_option maxRecDepth 100000 in
set_option maxHeartbeats 4000000 in
theorem c_Md_tallied {ρ : Nat} (hρ : ρ < 2) (l : Launch) (g : Gl) (σ : Hp) (T : Nat) (ow : Nat → Option Nat) (M : MdM) (p1 : Int32) {r : Int32} (hr : Md_tallied ρ M p1 = some r) : MG l g md_Md_tallied [.ref T, .int p1] (putMd σ T ow ρ M) (rs (some (.int r)) (putMd σ T ow ρ M)) := by
  refine MG.intro (by decide +kernel) (Nat.le_of_ble_eq_true rfl) (fun X hx hR _ => ?_)
  unfold Md_tallied at hr
  refine g_ls [0, 1] [(0, .ref T), (1, .int p1)] rfl ?_
  refine g_aload_n hx 0 (i := 0) 0 dX11_tallied_0 rfl rfl ?_
  refine g_get hx 1 (C := RX11) (T := TX11) (N := 30) 7 (.ref (T + 1 + ρ)) (pM_o σ T ow ρ M) rfl (by decide) rfl fl_X11_31 dX11_tallied_1 ?_
  refine g_bipush hx 4 (9) dX11_tallied_4 rfl ?_
  refine g_iload_n hx 6 (i := 1) 1 dX11_tallied_6 rfl rfl ?_
  refine g_iadd hx 7 dX11_tallied_7 ?_
  refine g_iconst hx 8 (3) dX11_tallied_8 rfl ?_
  refine g_isub hx 9 dX11_tallied_9 ?_
  obtain ⟨hb_266, hr⟩ := ob hr
  refine g_iald hx 10 (pM_row hρ σ T ow M) hb_266 dX11_tallied_10 ?_
  exact g_iret hx hR 11 dX11_tallied_11 ⟨by rw [← Option.some.inj hr] <;> rfl, rfl⟩
def Md_of (ρ : Nat) (M : MdM) (p1 p2 : Int32) : Option (Int32) := if inB ((25 + (5 * p1)) + p2) 257 then (some ((M.2 ρ) ((25 + (5 * p1)) + p2).toNatClampNeg)) else none
set_option maxRecDepth 100000 in
set_option maxHeartbeats 4000000 in
theorem c_Md_of {ρ : Nat} (hρ : ρ < 2) (l : Launch) (g : Gl) (σ : Hp) (T : Nat) (ow : Nat → Option Nat) (M : MdM) (p1 p2 : Int32) {r : Int32} (hr : Md_of ρ M p1 p2 = some r) : MG l g md_Md_of [.ref T, .int p1, .int p2] (putMd σ T ow ρ M) (rs (some (.int r)) (putMd σ T ow ρ M)) := by
  refine MG.intro (by decide +kernel) (Nat.le_of_ble_eq_true rfl) (fun X hx hR _ => ?_)
  unfold Md_of at hr
  refine g_ls [0, 1, 2] [(0, .ref T), (1, .int p1), (2, .int p2)] rfl ?_
  refine g_aload_n hx 0 (i := 0) 0 dX11_of_0 rfl rfl ?_
  refine g_get hx 1 (C := RX11) (T := TX11) (N := 30) 7 (.ref (T + 1 + ρ)) (pM_o σ T ow ρ M) rfl (by decide) rfl fl_X11_31 dX11_of_1 ?_
  refine g_bipush hx 4 (25) dX11_of_4 rfl ?_
  refine g_iconst hx 6 (5) dX11_of_6 rfl ?_
  refine g_iload_n hx 7 (i := 1) 1 dX11_of_7 rfl rfl ?_
  refine g_imul hx 8 dX11_of_8 ?_
  refine g_iadd hx 9 dX11_of_9 ?_
  refine g_iload_n hx 10 (i := 2) 2 dX11_of_10 rfl rfl ?_
  refine g_iadd hx 11 dX11_of_11 ?_
  obtain ⟨hb_267, hr⟩ := ob hr
  refine g_iald hx 12 (pM_row hρ σ T ow M) hb_267 dX11_of_12 ?_
  exact g_iret hx hR 13 dX11_of_13 ⟨by rw [← Option.some.inj hr] <;> rfl, rfl⟩
def Md_lay (ρ : Nat) (M : MdM) (p1 p2 p3 : Int32) : Option (MdM) := if inB ((25 + (5 * p1)) + p2) 257 then (some (setA M ρ (upd (M.2 ρ) ((25 + (5 * p1)) + p2).toNatClampNeg p3))) else none
set_option maxRecDepth 100000 in
set_option maxHeartbeats 4000000 in
theorem c_Md_lay {ρ : Nat} (hρ : ρ < 2) (l : Launch) (g : Gl) (σ : Hp) (T : Nat) (ow : Nat → Option Nat) (M : MdM) (p1 p2 p3 : Int32) {r : MdM} (hr : Md_lay ρ M p1 p2 p3 = some r) : MG l g md_Md_lay [.ref T, .int p1, .int p2, .int p3] (putMd σ T ow ρ M) (rs none (putMd σ T ow ρ r)) := by
  refine MG.intro (by decide +kernel) (Nat.le_of_ble_eq_true rfl) (fun X hx hR _ => ?_)
  unfold Md_lay at hr
  refine g_ls [0, 1, 2, 3] [(0, .ref T), (1, .int p1), (2, .int p2), (3, .int p3)] rfl ?_
  refine g_aload_n hx 0 (i := 0) 0 dX11_lay_0 rfl rfl ?_
  refine g_get hx 1 (C := RX11) (T := TX11) (N := 30) 7 (.ref (T + 1 + ρ)) (pM_o σ T ow ρ M) rfl (by decide) rfl fl_X11_31 dX11_lay_1 ?_
  refine g_bipush hx 4 (25) dX11_lay_4 rfl ?_
  refine g_iconst hx 6 (5) dX11_lay_6 rfl ?_
  refine g_iload_n hx 7 (i := 1) 1 dX11_lay_7 rfl rfl ?_
  refine g_imul hx 8 dX11_lay_8 ?_
  refine g_iadd hx 9 dX11_lay_9 ?_
  refine g_iload_n hx 10 (i := 2) 2 dX11_lay_10 rfl rfl ?_
  refine g_iadd hx 11 dX11_lay_11 ?_
  refine g_iload_n hx 12 (i := 3) 3 dX11_lay_12 rfl rfl ?_
  obtain ⟨hb_268, hr⟩ := ob hr
  refine g_iast hx 13 (pM_row hρ σ T ow M) hb_268 dX11_lay_13 ?_
  refine G.heap (pM_rs hρ σ T ow M (upd (M.2 ρ) ((25 + (5 * p1)) + p2).toNatClampNeg p3)) ?_
  exact g_vret hx hR 14 dX11_lay_14 ⟨rfl, by rw [← Option.some.inj hr] <;> rfl⟩
def Md_ofSlip (ρ : Nat) (M : MdM) (p1 p2 : Int32) : Option (Int32) := if inB ((193 + (4 * p1)) + p2) 257 then (some ((M.2 ρ) ((193 + (4 * p1)) + p2).toNatClampNeg)) else none
set_option maxRecDepth 100000 in
set_option maxHeartbeats 4000000 in
theorem c_Md_ofSlip {ρ : Nat} (hρ : ρ < 2) (l : Launch) (g : Gl) (σ : Hp) (T : Nat) (ow : Nat → Option Nat) (M : MdM) (p1 p2 : Int32) {r : Int32} (hr : Md_ofSlip ρ M p1 p2 = some r) : MG l g md_Md_ofSlip [.ref T, .int p1, .int p2] (putMd σ T ow ρ M) (rs (some (.int r)) (putMd σ T ow ρ M)) := by
  refine MG.intro (by decide +kernel) (Nat.le_of_ble_eq_true rfl) (fun X hx hR _ => ?_)
  unfold Md_ofSlip at hr
  refine g_ls [0, 1, 2] [(0, .ref T), (1, .int p1), (2, .int p2)] rfl ?_
  refine g_aload_n hx 0 (i := 0) 0 dX11_ofSlip_0 rfl rfl ?_
  refine g_get hx 1 (C := RX11) (T := TX11) (N := 30) 7 (.ref (T + 1 + ρ)) (pM_o σ T ow ρ M) rfl (by decide) rfl fl_X11_31 dX11_ofSlip_1 ?_
  refine g_sipush hx 4 (193) dX11_ofSlip_4 rfl ?_
  refine g_iconst hx 7 (4) dX11_ofSlip_7 rfl ?_
  refine g_iload_n hx 8 (i := 1) 1 dX11_ofSlip_8 rfl rfl ?_
  refine g_imul hx 9 dX11_ofSlip_9 ?_
  refine g_iadd hx 10 dX11_ofSlip_10 ?_
  refine g_iload_n hx 11 (i := 2) 2 dX11_ofSlip_11 rfl rfl ?_
  refine g_iadd hx 12 dX11_ofSlip_12 ?_
  obtain ⟨hb_269, hr⟩ := ob hr
  refine g_iald hx 13 (pM_row hρ σ T ow M) hb_269 dX11_ofSlip_13 ?_
  exact g_iret hx hR 14 dX11_ofSlip_14 ⟨by rw [← Option.some.inj hr] <;> rfl, rfl⟩
def Md_folderAt (ρ : Nat) (M : MdM) (p1 : Int32) : Option (Int32) := if inB (145 + p1) 257 then (some ((M.2 ρ) (145 + p1).toNatClampNeg)) else none
set_option maxRecDepth 100000 in
set_option maxHeartbeats 4000000 in
theorem c_Md_folderAt {ρ : Nat} (hρ : ρ < 2) (l : Launch) (g : Gl) (σ : Hp) (T : Nat) (ow : Nat → Option Nat) (M : MdM) (p1 : Int32) {r : Int32} (hr : Md_folderAt ρ M p1 = some r) : MG l g md_Md_folderAt [.ref T, .int p1] (putMd σ T ow ρ M) (rs (some (.int r)) (putMd σ T ow ρ M)) := by
  refine MG.intro (by decide +kernel) (Nat.le_of_ble_eq_true rfl) (fun X hx hR _ => ?_)
  unfold Md_folderAt at hr
  refine g_ls [0, 1] [(0, .ref T), (1, .int p1)] rfl ?_
  refine g_aload_n hx 0 (i := 0) 0 dX11_folderAt_0 rfl rfl ?_
  refine g_get hx 1 (C := RX11) (T := TX11) (N := 30) 7 (.ref (T + 1 + ρ)) (pM_o σ T ow ρ M) rfl (by decide) rfl fl_X11_31 dX11_folderAt_1 ?_
  refine g_sipush hx 4 (145) dX11_folderAt_4 rfl ?_
  refine g_iload_n hx 7 (i := 1) 1 dX11_folderAt_7 rfl rfl ?_
  refine g_iadd hx 8 dX11_folderAt_8 ?_
  obtain ⟨hb_270, hr⟩ := ob hr
  refine g_iald hx 9 (pM_row hρ σ T ow M) hb_270 dX11_folderAt_9 ?_
  exact g_iret hx hR 10 dX11_folderAt_10 ⟨by rw [← Option.some.inj hr] <;> rfl, rfl⟩
def Md_insert_L8 (ρ : Nat) : Nat → MdM → Int32 → Int32 → Int32 → Option (MdM)
  | 0, _, _, _, _ => none
  | n + 1, M, v1_273, v2_274, v3_275 => if v3_275 ≤ v2_274 then (if inB (145 + v2_274) 257 then (some (setA M ρ (upd (upd (M.2 ρ) (145 + v2_274).toNatClampNeg v1_273) (6 : Int32).toNatClampNeg (((upd (M.2 ρ) (145 + v2_274).toNatClampNeg v1_273) (6 : Int32).toNatClampNeg) + 1)))) else none) else (Option.bind (Md_folderAt ρ M (v3_275 - 1)) fun q_280 => if inB (145 + v3_275) 257 then (Md_insert_L8 ρ n (setA M ρ (upd (M.2 ρ) (145 + v3_275).toNatClampNeg q_280)) v1_273 v2_274 (v3_275 + (-1))) else none)
def Md_insert (ρ : Nat) (M : MdM) (p1 p2 : Int32) : Option (MdM) := lt' ((M.2 ρ) (6 : Int32).toNatClampNeg) fun v3_272 => Md_insert_L8 ρ FU M p1 p2 v3_272
set_option maxRecDepth 100000 in
set_option maxHeartbeats 4000000 in
theorem w_Md_insert_L8 {ρ : Nat} (hρ : ρ < 2) {X : Cx} {l : Launch} {g : Gl} (hx : Ok X l g RX11 cX11_insert 4 md_Md_insert.rm) {σ : Hp} {T : Nat} {ow : Nat → Option Nat} {r : MdM} (hR : Ret X (rs none (putMd σ T ow ρ r)) 0 0 (none)) : ∀ (n : Nat) (M : MdM) (v1_273 v2_274 v3_275 : Int32), Md_insert_L8 ρ n M v1_273 v2_274 v3_275 = some r → G X (putMd σ T ow ρ M) 0 0 8 [(0, .ref T), (1, .int v1_273), (2, .int v2_274), (3, .int v3_275)] [] := by
  intro n
  induction n with
  | zero =>
    intro M v1_273 v2_274 v3_275 hr
    rw [Md_insert_L8] at hr
    cases hr
  | succ n ih =>
    intro M v1_273 v2_274 v3_275 hr
    rw [Md_insert_L8] at hr
    refine g_iload_n hx 8 (i := 3) 3 dX11_insert_8 rfl rfl ?_
    refine g_iload_n hx 9 (i := 2) 2 dX11_insert_9 rfl rfl ?_
    refine g_icmp_le hx 10 36 dX11_insert_10 (by decide) (fun hc_276 => ?_) (fun hc_276 => ?_)
    · have hr := (if_pos hc_276).symm.trans hr
      refine g_aload_n hx 36 (i := 0) 0 dX11_insert_36 rfl rfl ?_
      refine g_get hx 37 (C := RX11) (T := TX11) (N := 30) 7 (.ref (T + 1 + ρ)) (pM_o σ T ow ρ M) rfl (by decide) rfl fl_X11_31 dX11_insert_37 ?_
      refine g_sipush hx 40 (145) dX11_insert_40 rfl ?_
      refine g_iload_n hx 43 (i := 2) 2 dX11_insert_43 rfl rfl ?_
      refine g_iadd hx 44 dX11_insert_44 ?_
      refine g_iload_n hx 45 (i := 1) 1 dX11_insert_45 rfl rfl ?_
      obtain ⟨hb_277, hr⟩ := ob hr
      refine g_iast hx 46 (pM_row hρ σ T ow M) hb_277 dX11_insert_46 ?_
      refine G.heap (pM_rs hρ σ T ow M (upd (M.2 ρ) (145 + v2_274).toNatClampNeg v1_273)) ?_
      refine g_aload_n hx 47 (i := 0) 0 dX11_insert_47 rfl rfl ?_
      refine g_get hx 48 (C := RX11) (T := TX11) (N := 30) 7 (.ref (T + 1 + ρ)) (pM_o σ T ow ρ (setA M ρ (upd (M.2 ρ) (145 + v2_274).toNatClampNeg v1_273))) rfl (by decide) rfl fl_X11_31 dX11_insert_48 ?_
      refine g_bipush hx 51 (6) dX11_insert_51 rfl ?_
      refine g_dup2 hx 53 dX11_insert_53 rfl rfl ?_
      refine g_iald hx 54 (pM_row' hρ σ T ow (setA M ρ (upd (M.2 ρ) (145 + v2_274).toNatClampNeg v1_273)) (upd (M.2 ρ) (145 + v2_274).toNatClampNeg v1_273) (setA_s M ρ _)) (by decide : inB 6 257) dX11_insert_54 ?_
      refine g_iconst hx 55 (1) dX11_insert_55 rfl ?_
      refine g_iadd hx 56 dX11_insert_56 ?_
      refine g_iast hx 57 (pM_row' hρ σ T ow (setA M ρ (upd (M.2 ρ) (145 + v2_274).toNatClampNeg v1_273)) (upd (M.2 ρ) (145 + v2_274).toNatClampNeg v1_273) (setA_s M ρ _)) (by decide : inB 6 257) dX11_insert_57 ?_
      refine G.heap (pM_rs hρ σ T ow (setA M ρ (upd (M.2 ρ) (145 + v2_274).toNatClampNeg v1_273)) (upd (upd (M.2 ρ) (145 + v2_274).toNatClampNeg v1_273) (6 : Int32).toNatClampNeg (((upd (M.2 ρ) (145 + v2_274).toNatClampNeg v1_273) (6 : Int32).toNatClampNeg) + 1))) ?_
      refine G.heap (congrArg (putMd σ T ow ρ) (setA_A M ρ _ _)) ?_
      exact g_vret hx hR 58 dX11_insert_58 ⟨rfl, by rw [← Option.some.inj hr] <;> rfl⟩
    · have hr := (if_neg hc_276).symm.trans hr
      refine g_aload_n hx 13 (i := 0) 0 dX11_insert_13 rfl rfl ?_
      refine g_get hx 14 (C := RX11) (T := TX11) (N := 30) 7 (.ref (T + 1 + ρ)) (pM_o σ T ow ρ M) rfl (by decide) rfl fl_X11_31 dX11_insert_14 ?_
      refine g_sipush hx 17 (145) dX11_insert_17 rfl ?_
      refine g_iload_n hx 20 (i := 3) 3 dX11_insert_20 rfl rfl ?_
      refine g_iadd hx 21 dX11_insert_21 ?_
      refine g_aload_n hx 22 (i := 0) 0 dX11_insert_22 rfl rfl ?_
      refine g_iload_n hx 23 (i := 3) 3 dX11_insert_23 rfl rfl ?_
      refine g_iconst hx 24 (1) dX11_insert_24 rfl ?_
      refine g_isub hx 25 dX11_insert_25 ?_
      obtain ⟨q_280, eq_280, hr⟩ := bind_e hr
      refine g_callVr hx (c_Md_folderAt hρ l g σ T ow M (v3_275 - 1) eq_280) lk_X11_99 ar_Md_folderAt (pM_o σ T ow ρ M) (T := TX11) (N := 30) rfl (As := [.int (v3_275 - 1)]) (rest := [.int (145 + v3_275), .ref (T + 1 + ρ)]) rfl (Nat.le_of_ble_eq_true rfl) ⟨Nat.le_of_ble_eq_true rfl, Nat.le_of_ble_eq_true rfl⟩ ⟨rfl, rfl⟩ ⟨Nat.zero_le _, Nat.zero_le _⟩ dX11_insert_26 ?_
      obtain ⟨hb_281, hr⟩ := ob hr
      refine g_iast hx 29 (pM_row hρ σ T ow M) hb_281 dX11_insert_29 ?_
      refine G.heap (pM_rs hρ σ T ow M (upd (M.2 ρ) (145 + v3_275).toNatClampNeg q_280)) ?_
      refine g_iinc hx 30 (i := 3) 3 (v3_275 + (-1)) [(3, .int (v3_275 + (-1))), (0, .ref T), (1, .int v1_273), (2, .int v2_274)] dX11_insert_30 rfl rfl (by decide) rfl ?_
      refine g_goto hx 33 8 dX11_insert_33 (by decide) ?_
      refine g_ls [1, 2, 3, 0] [(0, .ref T), (1, .int v1_273), (2, .int v2_274), (3, .int (v3_275 + (-1)))] rfl ?_
      exact ih (setA M ρ (upd (M.2 ρ) (145 + v3_275).toNatClampNeg q_280)) v1_273 v2_274 (v3_275 + (-1)) hr
set_option maxRecDepth 100000 in
set_option maxHeartbeats 4000000 in
theorem c_Md_insert {ρ : Nat} (hρ : ρ < 2) (l : Launch) (g : Gl) (σ : Hp) (T : Nat) (ow : Nat → Option Nat) (M : MdM) (p1 p2 : Int32) {r : MdM} (hr : Md_insert ρ M p1 p2 = some r) : MG l g md_Md_insert [.ref T, .int p1, .int p2] (putMd σ T ow ρ M) (rs none (putMd σ T ow ρ r)) := by
  refine MG.intro (by decide +kernel) (Nat.le_of_ble_eq_true rfl) (fun X hx hR _ => ?_)
  unfold Md_insert at hr
  refine g_ls [0, 1, 2] [(0, .ref T), (1, .int p1), (2, .int p2)] rfl ?_
  refine g_aload_n hx 0 (i := 0) 0 dX11_insert_0 rfl rfl ?_
  refine g_get hx 1 (C := RX11) (T := TX11) (N := 30) 7 (.ref (T + 1 + ρ)) (pM_o σ T ow ρ M) rfl (by decide) rfl fl_X11_31 dX11_insert_1 ?_
  refine g_bipush hx 4 (6) dX11_insert_4 rfl ?_
  refine g_iald hx 6 (pM_row hρ σ T ow M) (by decide : inB 6 257) dX11_insert_6 ?_
  obtain ⟨v3_272, ev3_272, hr⟩ := lt'_e hr
  refine g_nmi ev3_272 ?_
  refine g_istore_n hx 7 (i := 3) [(3, .int v3_272), (0, .ref T), (1, .int p1), (2, .int p2)] dX11_insert_7 rfl (by decide) rfl ?_
  refine g_ls [1, 2, 3, 0] [(0, .ref T), (1, .int p1), (2, .int p2), (3, .int v3_272)] rfl ?_
  exact w_Md_insert_L8 hρ hx hR FU M p1 p2 v3_272 hr
def Md_addFolder (ρ : Nat) (M : MdM) (p1 p2 : Int32) : Option (MdM) := lt' ((M.2 ρ) (5 : Int32).toNatClampNeg) fun v3_283 => Option.bind (Md_lay ρ (setA M ρ (upd (M.2 ρ) (5 : Int32).toNatClampNeg (((M.2 ρ) (5 : Int32).toNatClampNeg) + 1))) v3_283 0 p1) fun M_286 => Option.bind (Md_lay ρ M_286 v3_283 1 p2) fun M_287 => Option.bind (Md_insert ρ M_287 v3_283 ((M_287.2 ρ) (6 : Int32).toNatClampNeg)) fun M_289 => some (M_289)
set_option maxRecDepth 100000 in
set_option maxHeartbeats 4000000 in
theorem c_Md_addFolder {ρ : Nat} (hρ : ρ < 2) (l : Launch) (g : Gl) (σ : Hp) (T : Nat) (ow : Nat → Option Nat) (M : MdM) (p1 p2 : Int32) {r : MdM} (hr : Md_addFolder ρ M p1 p2 = some r) : MG l g md_Md_addFolder [.ref T, .int p1, .int p2] (putMd σ T ow ρ M) (rs none (putMd σ T ow ρ r)) := by
  refine MG.intro (by decide +kernel) (Nat.le_of_ble_eq_true rfl) (fun X hx hR _ => ?_)
  unfold Md_addFolder at hr
  refine g_ls [0, 1, 2] [(0, .ref T), (1, .int p1), (2, .int p2)] rfl ?_
  refine g_aload_n hx 0 (i := 0) 0 dX11_addFolder_0 rfl rfl ?_
  refine g_get hx 1 (C := RX11) (T := TX11) (N := 30) 7 (.ref (T + 1 + ρ)) (pM_o σ T ow ρ M) rfl (by decide) rfl fl_X11_31 dX11_addFolder_1 ?_
  refine g_iconst hx 4 (5) dX11_addFolder_4 rfl ?_
  refine g_iald hx 5 (pM_row hρ σ T ow M) (by decide : inB 5 257) dX11_addFolder_5 ?_
  obtain ⟨v3_283, ev3_283, hr⟩ := lt'_e hr
  refine g_nmi ev3_283 ?_
  refine g_istore_n hx 6 (i := 3) [(3, .int v3_283), (0, .ref T), (1, .int p1), (2, .int p2)] dX11_addFolder_6 rfl (by decide) rfl ?_
  refine g_aload_n hx 7 (i := 0) 1 dX11_addFolder_7 rfl rfl ?_
  refine g_get hx 8 (C := RX11) (T := TX11) (N := 30) 7 (.ref (T + 1 + ρ)) (pM_o σ T ow ρ M) rfl (by decide) rfl fl_X11_31 dX11_addFolder_8 ?_
  refine g_iconst hx 11 (5) dX11_addFolder_11 rfl ?_
  refine g_dup2 hx 12 dX11_addFolder_12 rfl rfl ?_
  refine g_iald hx 13 (pM_row hρ σ T ow M) (by decide : inB 5 257) dX11_addFolder_13 ?_
  refine g_iconst hx 14 (1) dX11_addFolder_14 rfl ?_
  refine g_iadd hx 15 dX11_addFolder_15 ?_
  refine g_iast hx 16 (pM_row hρ σ T ow M) (by decide : inB 5 257) dX11_addFolder_16 ?_
  refine G.heap (pM_rs hρ σ T ow M (upd (M.2 ρ) (5 : Int32).toNatClampNeg (((M.2 ρ) (5 : Int32).toNatClampNeg) + 1))) ?_
  refine g_aload_n hx 17 (i := 0) 1 dX11_addFolder_17 rfl rfl ?_
  refine g_iload_n hx 18 (i := 3) 0 dX11_addFolder_18 rfl rfl ?_
  refine g_iconst hx 19 (0) dX11_addFolder_19 rfl ?_
  refine g_iload_n hx 20 (i := 1) 2 dX11_addFolder_20 rfl rfl ?_
  obtain ⟨M_286, eM_286, hr⟩ := bind_e hr
  refine g_callVv hx (c_Md_lay hρ l g σ T ow (setA M ρ (upd (M.2 ρ) (5 : Int32).toNatClampNeg (((M.2 ρ) (5 : Int32).toNatClampNeg) + 1))) v3_283 0 p1 eM_286) lk_X11_84 ar_Md_lay (pM_o σ T ow ρ (setA M ρ (upd (M.2 ρ) (5 : Int32).toNatClampNeg (((M.2 ρ) (5 : Int32).toNatClampNeg) + 1)))) (T := TX11) (N := 30) rfl (As := [.int v3_283, .int 0, .int p1]) (rest := []) rfl (Nat.le_of_ble_eq_true rfl) ⟨Nat.le_of_ble_eq_true rfl, Nat.le_of_ble_eq_true rfl⟩ ⟨rfl, rfl⟩ ⟨Nat.zero_le _, Nat.zero_le _⟩ dX11_addFolder_21 ?_
  refine g_aload_n hx 24 (i := 0) 1 dX11_addFolder_24 rfl rfl ?_
  refine g_iload_n hx 25 (i := 3) 0 dX11_addFolder_25 rfl rfl ?_
  refine g_iconst hx 26 (1) dX11_addFolder_26 rfl ?_
  refine g_iload_n hx 27 (i := 2) 3 dX11_addFolder_27 rfl rfl ?_
  obtain ⟨M_287, eM_287, hr⟩ := bind_e hr
  refine g_callVv hx (c_Md_lay hρ l g σ T ow M_286 v3_283 1 p2 eM_287) lk_X11_84 ar_Md_lay (pM_o σ T ow ρ M_286) (T := TX11) (N := 30) rfl (As := [.int v3_283, .int 1, .int p2]) (rest := []) rfl (Nat.le_of_ble_eq_true rfl) ⟨Nat.le_of_ble_eq_true rfl, Nat.le_of_ble_eq_true rfl⟩ ⟨rfl, rfl⟩ ⟨Nat.zero_le _, Nat.zero_le _⟩ dX11_addFolder_28 ?_
  refine g_aload_n hx 31 (i := 0) 1 dX11_addFolder_31 rfl rfl ?_
  refine g_iload_n hx 32 (i := 3) 0 dX11_addFolder_32 rfl rfl ?_
  refine g_aload_n hx 33 (i := 0) 1 dX11_addFolder_33 rfl rfl ?_
  refine g_get hx 34 (C := RX11) (T := TX11) (N := 30) 7 (.ref (T + 1 + ρ)) (pM_o σ T ow ρ M_287) rfl (by decide) rfl fl_X11_31 dX11_addFolder_34 ?_
  refine g_bipush hx 37 (6) dX11_addFolder_37 rfl ?_
  refine g_iald hx 39 (pM_row hρ σ T ow M_287) (by decide : inB 6 257) dX11_addFolder_39 ?_
  obtain ⟨M_289, eM_289, hr⟩ := bind_e hr
  refine g_callVv hx (c_Md_insert hρ l g σ T ow M_287 v3_283 ((M_287.2 ρ) (6 : Int32).toNatClampNeg) eM_289) lk_X11_88 ar_Md_insert (pM_o σ T ow ρ M_287) (T := TX11) (N := 30) rfl (As := [.int v3_283, .int ((M_287.2 ρ) (6 : Int32).toNatClampNeg)]) (rest := []) rfl (Nat.le_of_ble_eq_true rfl) ⟨Nat.le_of_ble_eq_true rfl, Nat.le_of_ble_eq_true rfl⟩ ⟨rfl, rfl⟩ ⟨Nat.zero_le _, Nat.zero_le _⟩ dX11_addFolder_40 ?_
  exact g_vret hx hR 43 dX11_addFolder_43 ⟨rfl, by rw [← Option.some.inj hr] <;> rfl⟩
def Md_isFolder (ρ : Nat) (M : MdM) (p1 : Int32) : Option (Int32) := some (Md_inRange p1 0 (((M.2 ρ) (5 : Int32).toNatClampNeg) - 1))
set_option maxRecDepth 100000 in
set_option maxHeartbeats 4000000 in
theorem c_Md_isFolder {ρ : Nat} (hρ : ρ < 2) (l : Launch) (g : Gl) (σ : Hp) (T : Nat) (ow : Nat → Option Nat) (M : MdM) (p1 : Int32) {r : Int32} (hr : Md_isFolder ρ M p1 = some r) : MG l g md_Md_isFolder [.ref T, .int p1] (putMd σ T ow ρ M) (rs (some (.int r)) (putMd σ T ow ρ M)) := by
  refine MG.intro (by decide +kernel) (Nat.le_of_ble_eq_true rfl) (fun X hx hR _ => ?_)
  unfold Md_isFolder at hr
  refine g_ls [0, 1] [(0, .ref T), (1, .int p1)] rfl ?_
  refine g_iload_n hx 0 (i := 1) 1 dX11_isFolder_0 rfl rfl ?_
  refine g_iconst hx 1 (0) dX11_isFolder_1 rfl ?_
  refine g_aload_n hx 2 (i := 0) 0 dX11_isFolder_2 rfl rfl ?_
  refine g_get hx 3 (C := RX11) (T := TX11) (N := 30) 7 (.ref (T + 1 + ρ)) (pM_o σ T ow ρ M) rfl (by decide) rfl fl_X11_31 dX11_isFolder_3 ?_
  refine g_iconst hx 6 (5) dX11_isFolder_6 rfl ?_
  refine g_iald hx 7 (pM_row hρ σ T ow M) (by decide : inB 5 257) dX11_isFolder_7 ?_
  refine g_iconst hx 8 (1) dX11_isFolder_8 rfl ?_
  refine g_isub hx 9 dX11_isFolder_9 ?_
  refine g_callSr hx (c_Md_inRange l g _ p1 0 (((M.2 ρ) (5 : Int32).toNatClampNeg) - 1) rfl) lk_X11_91 ar_Md_inRange (As := [.int p1, .int 0, .int (((M.2 ρ) (5 : Int32).toNatClampNeg) - 1)]) (rest := []) rfl (Nat.le_of_ble_eq_true rfl) ⟨Nat.le_of_ble_eq_true rfl, Nat.le_of_ble_eq_true rfl⟩ ⟨rfl, rfl⟩ ⟨Nat.zero_le _, Nat.zero_le _⟩ dX11_isFolder_10 ?_
  exact g_zret hx hR 13 (bo_Md_inRange ..) dX11_isFolder_13 ⟨by rw [← Option.some.inj hr] <;> rfl, rfl⟩
def Md_isReader (ρ : Nat) (M : MdM) (p1 : Int32) : Option (Int32) := some (Md_inRange p1 0 (((M.2 ρ) (3 : Int32).toNatClampNeg) - 1))
set_option maxRecDepth 100000 in
set_option maxHeartbeats 4000000 in
theorem c_Md_isReader {ρ : Nat} (hρ : ρ < 2) (l : Launch) (g : Gl) (σ : Hp) (T : Nat) (ow : Nat → Option Nat) (M : MdM) (p1 : Int32) {r : Int32} (hr : Md_isReader ρ M p1 = some r) : MG l g md_Md_isReader [.ref T, .int p1] (putMd σ T ow ρ M) (rs (some (.int r)) (putMd σ T ow ρ M)) := by
  refine MG.intro (by decide +kernel) (Nat.le_of_ble_eq_true rfl) (fun X hx hR _ => ?_)
  unfold Md_isReader at hr
  refine g_ls [0, 1] [(0, .ref T), (1, .int p1)] rfl ?_
  refine g_iload_n hx 0 (i := 1) 1 dX11_isReader_0 rfl rfl ?_
  refine g_iconst hx 1 (0) dX11_isReader_1 rfl ?_
  refine g_aload_n hx 2 (i := 0) 0 dX11_isReader_2 rfl rfl ?_
  refine g_get hx 3 (C := RX11) (T := TX11) (N := 30) 7 (.ref (T + 1 + ρ)) (pM_o σ T ow ρ M) rfl (by decide) rfl fl_X11_31 dX11_isReader_3 ?_
  refine g_iconst hx 6 (3) dX11_isReader_6 rfl ?_
  refine g_iald hx 7 (pM_row hρ σ T ow M) (by decide : inB 3 257) dX11_isReader_7 ?_
  refine g_iconst hx 8 (1) dX11_isReader_8 rfl ?_
  refine g_isub hx 9 dX11_isReader_9 ?_
  refine g_callSr hx (c_Md_inRange l g _ p1 0 (((M.2 ρ) (3 : Int32).toNatClampNeg) - 1) rfl) lk_X11_91 ar_Md_inRange (As := [.int p1, .int 0, .int (((M.2 ρ) (3 : Int32).toNatClampNeg) - 1)]) (rest := []) rfl (Nat.le_of_ble_eq_true rfl) ⟨Nat.le_of_ble_eq_true rfl, Nat.le_of_ble_eq_true rfl⟩ ⟨rfl, rfl⟩ ⟨Nat.zero_le _, Nat.zero_le _⟩ dX11_isReader_10 ?_
  exact g_zret hx hR 13 (bo_Md_inRange ..) dX11_isReader_13 ⟨by rw [← Option.some.inj hr] <;> rfl, rfl⟩
def Md_isIn (ρ : Nat) (M : MdM) (p1 p2 : Int32) : Option (Int32) := Option.bind (Md_of ρ M p1 2) fun q_292 => if q_292 = p2 then (some (1)) else (some (0))
set_option maxRecDepth 100000 in
set_option maxHeartbeats 4000000 in
theorem c_Md_isIn {ρ : Nat} (hρ : ρ < 2) (l : Launch) (g : Gl) (σ : Hp) (T : Nat) (ow : Nat → Option Nat) (M : MdM) (p1 p2 : Int32) {r : Int32} (hr : Md_isIn ρ M p1 p2 = some r) : MG l g md_Md_isIn [.ref T, .int p1, .int p2] (putMd σ T ow ρ M) (rs (some (.int r)) (putMd σ T ow ρ M)) := by
  refine MG.intro (by decide +kernel) (Nat.le_of_ble_eq_true rfl) (fun X hx hR _ => ?_)
  unfold Md_isIn at hr
  refine g_ls [0, 1, 2] [(0, .ref T), (1, .int p1), (2, .int p2)] rfl ?_
  refine g_aload_n hx 0 (i := 0) 0 dX11_isIn_0 rfl rfl ?_
  refine g_iload_n hx 1 (i := 1) 1 dX11_isIn_1 rfl rfl ?_
  refine g_iconst hx 2 (2) dX11_isIn_2 rfl ?_
  obtain ⟨q_292, eq_292, hr⟩ := bind_e hr
  refine g_callVr hx (c_Md_of hρ l g σ T ow M p1 2 eq_292) lk_X11_95 ar_Md_of (pM_o σ T ow ρ M) (T := TX11) (N := 30) rfl (As := [.int p1, .int 2]) (rest := []) rfl (Nat.le_of_ble_eq_true rfl) ⟨Nat.le_of_ble_eq_true rfl, Nat.le_of_ble_eq_true rfl⟩ ⟨rfl, rfl⟩ ⟨Nat.zero_le _, Nat.zero_le _⟩ dX11_isIn_3 ?_
  refine g_iload_n hx 6 (i := 2) 2 dX11_isIn_6 rfl rfl ?_
  refine g_icmp_ne hx 7 14 dX11_isIn_7 (by decide) (fun hc_293 => ?_) (fun hc_293 => ?_)
  · have hr := (if_neg hc_293).symm.trans hr
    refine g_iconst hx 14 (0) dX11_isIn_14 rfl ?_
    exact g_zret hx hR 15 (Or.inl rfl) dX11_isIn_15 ⟨by rw [← Option.some.inj hr] <;> rfl, rfl⟩
  · have hr := (if_pos hc_293).symm.trans hr
    refine g_iconst hx 10 (1) dX11_isIn_10 rfl ?_
    refine g_goto hx 11 15 dX11_isIn_11 (by decide) ?_
    exact g_zret hx hR 15 (Or.inr rfl) dX11_isIn_15 ⟨by rw [← Option.some.inj hr] <;> rfl, rfl⟩
def Md_folderMarked_L2 (ρ : Nat) (M : MdM) : Nat → Int32 → Int32 → Option (Int32)
  | 0, _, _ => none
  | n + 1, v1_294, v2_295 => if (M.2 ρ) (5 : Int32).toNatClampNeg ≤ v2_295 then (some ((-1))) else (Option.bind (Md_of ρ M v2_295 0) fun q_298 => if q_298 = v1_294 then (some (v2_295)) else (Md_folderMarked_L2 ρ M n v1_294 (v2_295 + 1)))
def Md_folderMarked (ρ : Nat) (M : MdM) (p1 : Int32) : Option (Int32) := Md_folderMarked_L2 ρ M FU p1 0
set_option maxRecDepth 100000 in
set_option maxHeartbeats 4000000 in
theorem w_Md_folderMarked_L2 {ρ : Nat} (hρ : ρ < 2) {X : Cx} {l : Launch} {g : Gl} (hx : Ok X l g RX11 cX11_folderMarked 3 md_Md_folderMarked.rm) {σ : Hp} {T : Nat} {ow : Nat → Option Nat} {M : MdM} {r : Int32} (hR : Ret X (rs (some (.int r)) (putMd σ T ow ρ M)) 0 0 (some .int)) : ∀ (n : Nat) (v1_294 v2_295 : Int32), Md_folderMarked_L2 ρ M n v1_294 v2_295 = some r → G X (putMd σ T ow ρ M) 0 0 2 [(0, .ref T), (1, .int v1_294), (2, .int v2_295)] [] := by
  intro n
  induction n with
  | zero =>
    intro v1_294 v2_295 hr
    rw [Md_folderMarked_L2] at hr
    cases hr
  | succ n ih =>
    intro v1_294 v2_295 hr
    rw [Md_folderMarked_L2] at hr
    refine g_iload_n hx 2 (i := 2) 2 dX11_folderMarked_2 rfl rfl ?_
    refine g_aload_n hx 3 (i := 0) 0 dX11_folderMarked_3 rfl rfl ?_
    refine g_get hx 4 (C := RX11) (T := TX11) (N := 30) 7 (.ref (T + 1 + ρ)) (pM_o σ T ow ρ M) rfl (by decide) rfl fl_X11_31 dX11_folderMarked_4 ?_
    refine g_iconst hx 7 (5) dX11_folderMarked_7 rfl ?_
    refine g_iald hx 8 (pM_row hρ σ T ow M) (by decide : inB 5 257) dX11_folderMarked_8 ?_
    refine g_icmp_ge hx 9 30 dX11_folderMarked_9 (by decide) (fun hc_297 => ?_) (fun hc_297 => ?_)
    · have hr := (if_pos hc_297).symm.trans hr
      refine g_iconst hx 30 (-1) dX11_folderMarked_30 rfl ?_
      exact g_iret hx hR 31 dX11_folderMarked_31 ⟨by rw [← Option.some.inj hr] <;> rfl, rfl⟩
    · have hr := (if_neg hc_297).symm.trans hr
      refine g_aload_n hx 12 (i := 0) 0 dX11_folderMarked_12 rfl rfl ?_
      refine g_iload_n hx 13 (i := 2) 2 dX11_folderMarked_13 rfl rfl ?_
      refine g_iconst hx 14 (0) dX11_folderMarked_14 rfl ?_
      obtain ⟨q_298, eq_298, hr⟩ := bind_e hr
      refine g_callVr hx (c_Md_of hρ l g σ T ow M v2_295 0 eq_298) lk_X11_95 ar_Md_of (pM_o σ T ow ρ M) (T := TX11) (N := 30) rfl (As := [.int v2_295, .int 0]) (rest := []) rfl (Nat.le_of_ble_eq_true rfl) ⟨Nat.le_of_ble_eq_true rfl, Nat.le_of_ble_eq_true rfl⟩ ⟨rfl, rfl⟩ ⟨Nat.zero_le _, Nat.zero_le _⟩ dX11_folderMarked_15 ?_
      refine g_iload_n hx 18 (i := 1) 1 dX11_folderMarked_18 rfl rfl ?_
      refine g_icmp_ne hx 19 24 dX11_folderMarked_19 (by decide) (fun hc_299 => ?_) (fun hc_299 => ?_)
      · have hr := (if_neg hc_299).symm.trans hr
        refine g_iinc hx 24 (i := 2) 2 (v2_295 + 1) [(2, .int (v2_295 + 1)), (0, .ref T), (1, .int v1_294)] dX11_folderMarked_24 rfl rfl (by decide) rfl ?_
        refine g_goto hx 27 2 dX11_folderMarked_27 (by decide) ?_
        refine g_ls [1, 2, 0] [(0, .ref T), (1, .int v1_294), (2, .int (v2_295 + 1))] rfl ?_
        exact ih v1_294 (v2_295 + 1) hr
      · have hr := (if_pos hc_299).symm.trans hr
        refine g_iload_n hx 22 (i := 2) 2 dX11_folderMarked_22 rfl rfl ?_
        exact g_iret hx hR 23 dX11_folderMarked_23 ⟨by rw [← Option.some.inj hr] <;> rfl, rfl⟩
set_option maxRecDepth 100000 in
set_option maxHeartbeats 4000000 in
theorem c_Md_folderMarked {ρ : Nat} (hρ : ρ < 2) (l : Launch) (g : Gl) (σ : Hp) (T : Nat) (ow : Nat → Option Nat) (M : MdM) (p1 : Int32) {r : Int32} (hr : Md_folderMarked ρ M p1 = some r) : MG l g md_Md_folderMarked [.ref T, .int p1] (putMd σ T ow ρ M) (rs (some (.int r)) (putMd σ T ow ρ M)) := by
  refine MG.intro (by decide +kernel) (Nat.le_of_ble_eq_true rfl) (fun X hx hR _ => ?_)
  unfold Md_folderMarked at hr
  refine g_ls [0, 1] [(0, .ref T), (1, .int p1)] rfl ?_
  refine g_iconst hx 0 (0) dX11_folderMarked_0 rfl ?_
  refine g_istore_n hx 1 (i := 2) [(2, .int 0), (0, .ref T), (1, .int p1)] dX11_folderMarked_1 rfl (by decide) rfl ?_
  refine g_ls [1, 2, 0] [(0, .ref T), (1, .int p1), (2, .int 0)] rfl ?_
  exact w_Md_folderMarked_L2 hρ hx hR FU p1 0 hr
def Md_markAt (ρ : Nat) (M : MdM) (p1 : Int32) : Option (Int32) := Option.bind (Md_folderAt ρ M p1) fun q_300 => Option.bind (Md_of ρ M q_300 0) fun q_301 => some (q_301)
set_option maxRecDepth 100000 in
set_option maxHeartbeats 4000000 in
theorem c_Md_markAt {ρ : Nat} (hρ : ρ < 2) (l : Launch) (g : Gl) (σ : Hp) (T : Nat) (ow : Nat → Option Nat) (M : MdM) (p1 : Int32) {r : Int32} (hr : Md_markAt ρ M p1 = some r) : MG l g md_Md_markAt [.ref T, .int p1] (putMd σ T ow ρ M) (rs (some (.int r)) (putMd σ T ow ρ M)) := by
  refine MG.intro (by decide +kernel) (Nat.le_of_ble_eq_true rfl) (fun X hx hR _ => ?_)
  unfold Md_markAt at hr
  refine g_ls [0, 1] [(0, .ref T), (1, .int p1)] rfl ?_
  refine g_aload_n hx 0 (i := 0) 0 dX11_markAt_0 rfl rfl ?_
  refine g_aload_n hx 1 (i := 0) 0 dX11_markAt_1 rfl rfl ?_
  refine g_iload_n hx 2 (i := 1) 1 dX11_markAt_2 rfl rfl ?_
  obtain ⟨q_300, eq_300, hr⟩ := bind_e hr
  refine g_callVr hx (c_Md_folderAt hρ l g σ T ow M p1 eq_300) lk_X11_99 ar_Md_folderAt (pM_o σ T ow ρ M) (T := TX11) (N := 30) rfl (As := [.int p1]) (rest := [.ref T]) rfl (Nat.le_of_ble_eq_true rfl) ⟨Nat.le_of_ble_eq_true rfl, Nat.le_of_ble_eq_true rfl⟩ ⟨rfl, rfl⟩ ⟨Nat.zero_le _, Nat.zero_le _⟩ dX11_markAt_3 ?_
  refine g_iconst hx 6 (0) dX11_markAt_6 rfl ?_
  obtain ⟨q_301, eq_301, hr⟩ := bind_e hr
  refine g_callVr hx (c_Md_of hρ l g σ T ow M q_300 0 eq_301) lk_X11_95 ar_Md_of (pM_o σ T ow ρ M) (T := TX11) (N := 30) rfl (As := [.int q_300, .int 0]) (rest := []) rfl (Nat.le_of_ble_eq_true rfl) ⟨Nat.le_of_ble_eq_true rfl, Nat.le_of_ble_eq_true rfl⟩ ⟨rfl, rfl⟩ ⟨Nat.zero_le _, Nat.zero_le _⟩ dX11_markAt_7 ?_
  exact g_iret hx hR 10 dX11_markAt_10 ⟨by rw [← Option.some.inj hr] <;> rfl, rfl⟩
def Md_placeOf_L2 (ρ : Nat) (M : MdM) : Nat → Int32 → Int32 → Option (Int32)
  | 0, _, _ => none
  | n + 1, v1_302, v2_303 => Option.bind (Md_folderAt ρ M v2_303) fun q_304 => if q_304 = v1_302 then (some (v2_303)) else (Md_placeOf_L2 ρ M n v1_302 (v2_303 + 1))
def Md_placeOf (ρ : Nat) (M : MdM) (p1 : Int32) : Option (Int32) := Md_placeOf_L2 ρ M FU p1 0
set_option maxRecDepth 100000 in
set_option maxHeartbeats 4000000 in
theorem w_Md_placeOf_L2 {ρ : Nat} (hρ : ρ < 2) {X : Cx} {l : Launch} {g : Gl} (hx : Ok X l g RX11 cX11_placeOf 3 md_Md_placeOf.rm) {σ : Hp} {T : Nat} {ow : Nat → Option Nat} {M : MdM} {r : Int32} (hR : Ret X (rs (some (.int r)) (putMd σ T ow ρ M)) 0 0 (some .int)) : ∀ (n : Nat) (v1_302 v2_303 : Int32), Md_placeOf_L2 ρ M n v1_302 v2_303 = some r → G X (putMd σ T ow ρ M) 0 0 2 [(0, .ref T), (1, .int v1_302), (2, .int v2_303)] [] := by
  intro n
  induction n with
  | zero =>
    intro v1_302 v2_303 hr
    rw [Md_placeOf_L2] at hr
    cases hr
  | succ n ih =>
    intro v1_302 v2_303 hr
    rw [Md_placeOf_L2] at hr
    refine g_aload_n hx 2 (i := 0) 0 dX11_placeOf_2 rfl rfl ?_
    refine g_iload_n hx 3 (i := 2) 2 dX11_placeOf_3 rfl rfl ?_
    obtain ⟨q_304, eq_304, hr⟩ := bind_e hr
    refine g_callVr hx (c_Md_folderAt hρ l g σ T ow M v2_303 eq_304) lk_X11_99 ar_Md_folderAt (pM_o σ T ow ρ M) (T := TX11) (N := 30) rfl (As := [.int v2_303]) (rest := []) rfl (Nat.le_of_ble_eq_true rfl) ⟨Nat.le_of_ble_eq_true rfl, Nat.le_of_ble_eq_true rfl⟩ ⟨rfl, rfl⟩ ⟨Nat.zero_le _, Nat.zero_le _⟩ dX11_placeOf_4 ?_
    refine g_iload_n hx 7 (i := 1) 1 dX11_placeOf_7 rfl rfl ?_
    refine g_icmp_eq hx 8 17 dX11_placeOf_8 (by decide) (fun hc_305 => ?_) (fun hc_305 => ?_)
    · have hr := (if_pos hc_305).symm.trans hr
      refine g_iload_n hx 17 (i := 2) 2 dX11_placeOf_17 rfl rfl ?_
      exact g_iret hx hR 18 dX11_placeOf_18 ⟨by rw [← Option.some.inj hr] <;> rfl, rfl⟩
    · have hr := (if_neg hc_305).symm.trans hr
      refine g_iinc hx 11 (i := 2) 2 (v2_303 + 1) [(2, .int (v2_303 + 1)), (0, .ref T), (1, .int v1_302)] dX11_placeOf_11 rfl rfl (by decide) rfl ?_
      refine g_goto hx 14 2 dX11_placeOf_14 (by decide) ?_
      refine g_ls [1, 2, 0] [(0, .ref T), (1, .int v1_302), (2, .int (v2_303 + 1))] rfl ?_
      exact ih v1_302 (v2_303 + 1) hr
set_option maxRecDepth 100000 in
set_option maxHeartbeats 4000000 in
theorem c_Md_placeOf {ρ : Nat} (hρ : ρ < 2) (l : Launch) (g : Gl) (σ : Hp) (T : Nat) (ow : Nat → Option Nat) (M : MdM) (p1 : Int32) {r : Int32} (hr : Md_placeOf ρ M p1 = some r) : MG l g md_Md_placeOf [.ref T, .int p1] (putMd σ T ow ρ M) (rs (some (.int r)) (putMd σ T ow ρ M)) := by
  refine MG.intro (by decide +kernel) (Nat.le_of_ble_eq_true rfl) (fun X hx hR _ => ?_)
  unfold Md_placeOf at hr
  refine g_ls [0, 1] [(0, .ref T), (1, .int p1)] rfl ?_
  refine g_iconst hx 0 (0) dX11_placeOf_0 rfl ?_
  refine g_istore_n hx 1 (i := 2) [(2, .int 0), (0, .ref T), (1, .int p1)] dX11_placeOf_1 rfl (by decide) rfl ?_
  refine g_ls [1, 2, 0] [(0, .ref T), (1, .int p1), (2, .int 0)] rfl ?_
  exact w_Md_placeOf_L2 hρ hx hR FU p1 0 hr
def Md_remove_L19 (ρ : Nat) : Nat → MdM → Int32 → Int32 → Int32 → Option (Int32 × MdM)
  | 0, _, _, _, _ => none
  | n + 1, M, v1_309, v2_310, v3_311 => if (M.2 ρ) (6 : Int32).toNatClampNeg ≤ v3_311 then (some ((v2_310, M))) else (Option.bind (Md_folderAt ρ M (v3_311 + 1)) fun q_314 => if inB (145 + v3_311) 257 then (Md_remove_L19 ρ n (setA M ρ (upd (M.2 ρ) (145 + v3_311).toNatClampNeg q_314)) v1_309 v2_310 (v3_311 + 1)) else none)
def Md_remove (ρ : Nat) (M : MdM) (p1 : Int32) : Option (Int32 × MdM) := Option.bind (Md_placeOf ρ M p1) fun q_306 => Md_remove_L19 ρ FU (setA M ρ (upd (M.2 ρ) (6 : Int32).toNatClampNeg (((M.2 ρ) (6 : Int32).toNatClampNeg) - 1))) p1 q_306 q_306
set_option maxRecDepth 100000 in
set_option maxHeartbeats 4000000 in
theorem w_Md_remove_L19 {ρ : Nat} (hρ : ρ < 2) {X : Cx} {l : Launch} {g : Gl} (hx : Ok X l g RX11 cX11_remove 4 md_Md_remove.rm) {σ : Hp} {T : Nat} {ow : Nat → Option Nat} {r : Int32 × MdM} (hR : Ret X (rs (some (.int r.1)) (putMd σ T ow ρ r.2)) 0 0 (some .int)) : ∀ (n : Nat) (M : MdM) (v1_309 v2_310 v3_311 : Int32), Md_remove_L19 ρ n M v1_309 v2_310 v3_311 = some r → G X (putMd σ T ow ρ M) 0 0 19 [(0, .ref T), (1, .int v1_309), (2, .int v2_310), (3, .int v3_311)] [] := by
  intro n
  induction n with
  | zero =>
    intro M v1_309 v2_310 v3_311 hr
    rw [Md_remove_L19] at hr
    cases hr
  | succ n ih =>
    intro M v1_309 v2_310 v3_311 hr
    rw [Md_remove_L19] at hr
    refine g_iload_n hx 19 (i := 3) 3 dX11_remove_19 rfl rfl ?_
    refine g_aload_n hx 20 (i := 0) 0 dX11_remove_20 rfl rfl ?_
    refine g_get hx 21 (C := RX11) (T := TX11) (N := 30) 7 (.ref (T + 1 + ρ)) (pM_o σ T ow ρ M) rfl (by decide) rfl fl_X11_31 dX11_remove_21 ?_
    refine g_bipush hx 24 (6) dX11_remove_24 rfl ?_
    refine g_iald hx 26 (pM_row hρ σ T ow M) (by decide : inB 6 257) dX11_remove_26 ?_
    refine g_icmp_ge hx 27 53 dX11_remove_27 (by decide) (fun hc_313 => ?_) (fun hc_313 => ?_)
    · have hr := (if_pos hc_313).symm.trans hr
      refine g_iload_n hx 53 (i := 2) 2 dX11_remove_53 rfl rfl ?_
      exact g_iret hx hR 54 dX11_remove_54 ⟨by rw [← Option.some.inj hr] <;> rfl, by rw [← Option.some.inj hr] <;> rfl⟩
    · have hr := (if_neg hc_313).symm.trans hr
      refine g_aload_n hx 30 (i := 0) 0 dX11_remove_30 rfl rfl ?_
      refine g_get hx 31 (C := RX11) (T := TX11) (N := 30) 7 (.ref (T + 1 + ρ)) (pM_o σ T ow ρ M) rfl (by decide) rfl fl_X11_31 dX11_remove_31 ?_
      refine g_sipush hx 34 (145) dX11_remove_34 rfl ?_
      refine g_iload_n hx 37 (i := 3) 3 dX11_remove_37 rfl rfl ?_
      refine g_iadd hx 38 dX11_remove_38 ?_
      refine g_aload_n hx 39 (i := 0) 0 dX11_remove_39 rfl rfl ?_
      refine g_iload_n hx 40 (i := 3) 3 dX11_remove_40 rfl rfl ?_
      refine g_iconst hx 41 (1) dX11_remove_41 rfl ?_
      refine g_iadd hx 42 dX11_remove_42 ?_
      obtain ⟨q_314, eq_314, hr⟩ := bind_e hr
      refine g_callVr hx (c_Md_folderAt hρ l g σ T ow M (v3_311 + 1) eq_314) lk_X11_99 ar_Md_folderAt (pM_o σ T ow ρ M) (T := TX11) (N := 30) rfl (As := [.int (v3_311 + 1)]) (rest := [.int (145 + v3_311), .ref (T + 1 + ρ)]) rfl (Nat.le_of_ble_eq_true rfl) ⟨Nat.le_of_ble_eq_true rfl, Nat.le_of_ble_eq_true rfl⟩ ⟨rfl, rfl⟩ ⟨Nat.zero_le _, Nat.zero_le _⟩ dX11_remove_43 ?_
      obtain ⟨hb_315, hr⟩ := ob hr
      refine g_iast hx 46 (pM_row hρ σ T ow M) hb_315 dX11_remove_46 ?_
      refine G.heap (pM_rs hρ σ T ow M (upd (M.2 ρ) (145 + v3_311).toNatClampNeg q_314)) ?_
      refine g_iinc hx 47 (i := 3) 3 (v3_311 + 1) [(3, .int (v3_311 + 1)), (0, .ref T), (1, .int v1_309), (2, .int v2_310)] dX11_remove_47 rfl rfl (by decide) rfl ?_
      refine g_goto hx 50 19 dX11_remove_50 (by decide) ?_
      refine g_ls [1, 2, 3, 0] [(0, .ref T), (1, .int v1_309), (2, .int v2_310), (3, .int (v3_311 + 1))] rfl ?_
      exact ih (setA M ρ (upd (M.2 ρ) (145 + v3_311).toNatClampNeg q_314)) v1_309 v2_310 (v3_311 + 1) hr
set_option maxRecDepth 100000 in
set_option maxHeartbeats 4000000 in
theorem c_Md_remove {ρ : Nat} (hρ : ρ < 2) (l : Launch) (g : Gl) (σ : Hp) (T : Nat) (ow : Nat → Option Nat) (M : MdM) (p1 : Int32) {r : Int32 × MdM} (hr : Md_remove ρ M p1 = some r) : MG l g md_Md_remove [.ref T, .int p1] (putMd σ T ow ρ M) (rs (some (.int r.1)) (putMd σ T ow ρ r.2)) := by
  refine MG.intro (by decide +kernel) (Nat.le_of_ble_eq_true rfl) (fun X hx hR _ => ?_)
  unfold Md_remove at hr
  refine g_ls [0, 1] [(0, .ref T), (1, .int p1)] rfl ?_
  refine g_aload_n hx 0 (i := 0) 0 dX11_remove_0 rfl rfl ?_
  refine g_iload_n hx 1 (i := 1) 1 dX11_remove_1 rfl rfl ?_
  obtain ⟨q_306, eq_306, hr⟩ := bind_e hr
  refine g_callVr hx (c_Md_placeOf hρ l g σ T ow M p1 eq_306) lk_X11_103 ar_Md_placeOf (pM_o σ T ow ρ M) (T := TX11) (N := 30) rfl (As := [.int p1]) (rest := []) rfl (Nat.le_of_ble_eq_true rfl) ⟨Nat.le_of_ble_eq_true rfl, Nat.le_of_ble_eq_true rfl⟩ ⟨rfl, rfl⟩ ⟨Nat.zero_le _, Nat.zero_le _⟩ dX11_remove_2 ?_
  refine g_istore_n hx 5 (i := 2) [(2, .int q_306), (0, .ref T), (1, .int p1)] dX11_remove_5 rfl (by decide) rfl ?_
  refine g_aload_n hx 6 (i := 0) 1 dX11_remove_6 rfl rfl ?_
  refine g_get hx 7 (C := RX11) (T := TX11) (N := 30) 7 (.ref (T + 1 + ρ)) (pM_o σ T ow ρ M) rfl (by decide) rfl fl_X11_31 dX11_remove_7 ?_
  refine g_bipush hx 10 (6) dX11_remove_10 rfl ?_
  refine g_dup2 hx 12 dX11_remove_12 rfl rfl ?_
  refine g_iald hx 13 (pM_row hρ σ T ow M) (by decide : inB 6 257) dX11_remove_13 ?_
  refine g_iconst hx 14 (1) dX11_remove_14 rfl ?_
  refine g_isub hx 15 dX11_remove_15 ?_
  refine g_iast hx 16 (pM_row hρ σ T ow M) (by decide : inB 6 257) dX11_remove_16 ?_
  refine G.heap (pM_rs hρ σ T ow M (upd (M.2 ρ) (6 : Int32).toNatClampNeg (((M.2 ρ) (6 : Int32).toNatClampNeg) - 1))) ?_
  refine g_iload_n hx 17 (i := 2) 0 dX11_remove_17 rfl rfl ?_
  refine g_istore_n hx 18 (i := 3) [(3, .int q_306), (2, .int q_306), (0, .ref T), (1, .int p1)] dX11_remove_18 rfl (by decide) rfl ?_
  refine g_ls [2, 3, 1, 0] [(0, .ref T), (1, .int p1), (2, .int q_306), (3, .int q_306)] rfl ?_
  exact w_Md_remove_L19 hρ hx hR FU (setA M ρ (upd (M.2 ρ) (6 : Int32).toNatClampNeg (((M.2 ρ) (6 : Int32).toNatClampNeg) - 1))) p1 q_306 q_306 hr
def Md_isWrong (ρ : Nat) (M : MdM) (p1 : Int32) : Option (Int32) := Option.bind (Md_markAt ρ M p1) fun q_316 => Option.bind (Md_markAt ρ M (p1 + 1)) fun q_317 => if q_316 ≤ q_317 then (some (0)) else (some (1))
set_option maxRecDepth 100000 in
set_option maxHeartbeats 4000000 in
theorem c_Md_isWrong {ρ : Nat} (hρ : ρ < 2) (l : Launch) (g : Gl) (σ : Hp) (T : Nat) (ow : Nat → Option Nat) (M : MdM) (p1 : Int32) {r : Int32} (hr : Md_isWrong ρ M p1 = some r) : MG l g md_Md_isWrong [.ref T, .int p1] (putMd σ T ow ρ M) (rs (some (.int r)) (putMd σ T ow ρ M)) := by
  refine MG.intro (by decide +kernel) (Nat.le_of_ble_eq_true rfl) (fun X hx hR _ => ?_)
  unfold Md_isWrong at hr
  refine g_ls [0, 1] [(0, .ref T), (1, .int p1)] rfl ?_
  refine g_aload_n hx 0 (i := 0) 0 dX11_isWrong_0 rfl rfl ?_
  refine g_iload_n hx 1 (i := 1) 1 dX11_isWrong_1 rfl rfl ?_
  obtain ⟨q_316, eq_316, hr⟩ := bind_e hr
  refine g_callVr hx (c_Md_markAt hρ l g σ T ow M p1 eq_316) lk_X11_106 ar_Md_markAt (pM_o σ T ow ρ M) (T := TX11) (N := 30) rfl (As := [.int p1]) (rest := []) rfl (Nat.le_of_ble_eq_true rfl) ⟨Nat.le_of_ble_eq_true rfl, Nat.le_of_ble_eq_true rfl⟩ ⟨rfl, rfl⟩ ⟨Nat.zero_le _, Nat.zero_le _⟩ dX11_isWrong_2 ?_
  refine g_aload_n hx 5 (i := 0) 0 dX11_isWrong_5 rfl rfl ?_
  refine g_iload_n hx 6 (i := 1) 1 dX11_isWrong_6 rfl rfl ?_
  refine g_iconst hx 7 (1) dX11_isWrong_7 rfl ?_
  refine g_iadd hx 8 dX11_isWrong_8 ?_
  obtain ⟨q_317, eq_317, hr⟩ := bind_e hr
  refine g_callVr hx (c_Md_markAt hρ l g σ T ow M (p1 + 1) eq_317) lk_X11_106 ar_Md_markAt (pM_o σ T ow ρ M) (T := TX11) (N := 30) rfl (As := [.int (p1 + 1)]) (rest := [.int q_316]) rfl (Nat.le_of_ble_eq_true rfl) ⟨Nat.le_of_ble_eq_true rfl, Nat.le_of_ble_eq_true rfl⟩ ⟨rfl, rfl⟩ ⟨Nat.zero_le _, Nat.zero_le _⟩ dX11_isWrong_9 ?_
  refine g_icmp_le hx 12 19 dX11_isWrong_12 (by decide) (fun hc_318 => ?_) (fun hc_318 => ?_)
  · have hr := (if_pos hc_318).symm.trans hr
    refine g_iconst hx 19 (0) dX11_isWrong_19 rfl ?_
    exact g_zret hx hR 20 (Or.inl rfl) dX11_isWrong_20 ⟨by rw [← Option.some.inj hr] <;> rfl, rfl⟩
  · have hr := (if_neg hc_318).symm.trans hr
    refine g_iconst hx 15 (1) dX11_isWrong_15 rfl ?_
    refine g_goto hx 16 20 dX11_isWrong_16 (by decide) ?_
    exact g_zret hx hR 20 (Or.inr rfl) dX11_isWrong_20 ⟨by rw [← Option.some.inj hr] <;> rfl, rfl⟩
def Md_firstWrong_L2 (ρ : Nat) (M : MdM) : Nat → Int32 → Option (Int32)
  | 0, _ => none
  | n + 1, v1_319 => if (M.2 ρ) (6 : Int32).toNatClampNeg ≤ v1_319 + 1 then (some ((-1))) else (Option.bind (Md_isWrong ρ M v1_319) fun q_322 => if q_322 = 0 then (Md_firstWrong_L2 ρ M n (v1_319 + 1)) else (some (v1_319)))
def Md_firstWrong (ρ : Nat) (M : MdM) : Option (Int32) := Md_firstWrong_L2 ρ M FU 0
set_option maxRecDepth 100000 in
set_option maxHeartbeats 4000000 in
theorem w_Md_firstWrong_L2 {ρ : Nat} (hρ : ρ < 2) {X : Cx} {l : Launch} {g : Gl} (hx : Ok X l g RX11 cX11_firstWrong 2 md_Md_firstWrong.rm) {σ : Hp} {T : Nat} {ow : Nat → Option Nat} {M : MdM} {r : Int32} (hR : Ret X (rs (some (.int r)) (putMd σ T ow ρ M)) 0 0 (some .int)) : ∀ (n : Nat) (v1_319 : Int32), Md_firstWrong_L2 ρ M n v1_319 = some r → G X (putMd σ T ow ρ M) 0 0 2 [(0, .ref T), (1, .int v1_319)] [] := by
  intro n
  induction n with
  | zero =>
    intro v1_319 hr
    rw [Md_firstWrong_L2] at hr
    cases hr
  | succ n ih =>
    intro v1_319 hr
    rw [Md_firstWrong_L2] at hr
    refine g_iload_n hx 2 (i := 1) 1 dX11_firstWrong_2 rfl rfl ?_
    refine g_iconst hx 3 (1) dX11_firstWrong_3 rfl ?_
    refine g_iadd hx 4 dX11_firstWrong_4 ?_
    refine g_aload_n hx 5 (i := 0) 0 dX11_firstWrong_5 rfl rfl ?_
    refine g_get hx 6 (C := RX11) (T := TX11) (N := 30) 7 (.ref (T + 1 + ρ)) (pM_o σ T ow ρ M) rfl (by decide) rfl fl_X11_31 dX11_firstWrong_6 ?_
    refine g_bipush hx 9 (6) dX11_firstWrong_9 rfl ?_
    refine g_iald hx 11 (pM_row hρ σ T ow M) (by decide : inB 6 257) dX11_firstWrong_11 ?_
    refine g_icmp_ge hx 12 31 dX11_firstWrong_12 (by decide) (fun hc_321 => ?_) (fun hc_321 => ?_)
    · have hr := (if_pos hc_321).symm.trans hr
      refine g_iconst hx 31 (-1) dX11_firstWrong_31 rfl ?_
      exact g_iret hx hR 32 dX11_firstWrong_32 ⟨by rw [← Option.some.inj hr] <;> rfl, rfl⟩
    · have hr := (if_neg hc_321).symm.trans hr
      refine g_aload_n hx 15 (i := 0) 0 dX11_firstWrong_15 rfl rfl ?_
      refine g_iload_n hx 16 (i := 1) 1 dX11_firstWrong_16 rfl rfl ?_
      obtain ⟨q_322, eq_322, hr⟩ := bind_e hr
      refine g_callVr hx (c_Md_isWrong hρ l g σ T ow M v1_319 eq_322) lk_X11_109 ar_Md_isWrong (pM_o σ T ow ρ M) (T := TX11) (N := 30) rfl (As := [.int v1_319]) (rest := []) rfl (Nat.le_of_ble_eq_true rfl) ⟨Nat.le_of_ble_eq_true rfl, Nat.le_of_ble_eq_true rfl⟩ ⟨rfl, rfl⟩ ⟨Nat.zero_le _, Nat.zero_le _⟩ dX11_firstWrong_17 ?_
      refine g_if_eq hx 20 25 dX11_firstWrong_20 (by decide) (fun hc_323 => ?_) (fun hc_323 => ?_)
      · have hr := (if_pos hc_323).symm.trans hr
        refine g_iinc hx 25 (i := 1) 1 (v1_319 + 1) [(1, .int (v1_319 + 1)), (0, .ref T)] dX11_firstWrong_25 rfl rfl (by decide) rfl ?_
        refine g_goto hx 28 2 dX11_firstWrong_28 (by decide) ?_
        refine g_ls [1, 0] [(0, .ref T), (1, .int (v1_319 + 1))] rfl ?_
        exact ih (v1_319 + 1) hr
      · have hr := (if_neg hc_323).symm.trans hr
        refine g_iload_n hx 23 (i := 1) 1 dX11_firstWrong_23 rfl rfl ?_
        exact g_iret hx hR 24 dX11_firstWrong_24 ⟨by rw [← Option.some.inj hr] <;> rfl, rfl⟩
set_option maxRecDepth 100000 in
set_option maxHeartbeats 4000000 in
theorem c_Md_firstWrong {ρ : Nat} (hρ : ρ < 2) (l : Launch) (g : Gl) (σ : Hp) (T : Nat) (ow : Nat → Option Nat) (M : MdM) {r : Int32} (hr : Md_firstWrong ρ M = some r) : MG l g md_Md_firstWrong [.ref T] (putMd σ T ow ρ M) (rs (some (.int r)) (putMd σ T ow ρ M)) := by
  refine MG.intro (by decide +kernel) (Nat.le_of_ble_eq_true rfl) (fun X hx hR _ => ?_)
  unfold Md_firstWrong at hr
  refine g_ls [0] [(0, .ref T)] rfl ?_
  refine g_iconst hx 0 (0) dX11_firstWrong_0 rfl ?_
  refine g_istore_n hx 1 (i := 1) [(1, .int 0), (0, .ref T)] dX11_firstWrong_1 rfl (by decide) rfl ?_
  refine g_ls [1, 0] [(0, .ref T), (1, .int 0)] rfl ?_
  exact w_Md_firstWrong_L2 hρ hx hR FU 0 hr
def Md_countWrong_L4 (ρ : Nat) (M : MdM) : Nat → Int32 → Int32 → Option (Int32)
  | 0, _, _ => none
  | n + 1, v1_324, v2_325 => if (M.2 ρ) (6 : Int32).toNatClampNeg ≤ v2_325 + 1 then (some (v1_324)) else (Option.bind (Md_isWrong ρ M v2_325) fun q_328 => if q_328 = 0 then (lt' (v1_324 + 0) fun v1_330 => Md_countWrong_L4 ρ M n v1_330 (v2_325 + 1)) else (lt' (v1_324 + 1) fun v1_331 => Md_countWrong_L4 ρ M n v1_331 (v2_325 + 1)))
def Md_countWrong (ρ : Nat) (M : MdM) : Option (Int32) := Md_countWrong_L4 ρ M FU 0 0
set_option maxRecDepth 100000 in
set_option maxHeartbeats 4000000 in
theorem w_Md_countWrong_L4 {ρ : Nat} (hρ : ρ < 2) {X : Cx} {l : Launch} {g : Gl} (hx : Ok X l g RX11 cX11_countWrong 3 md_Md_countWrong.rm) {σ : Hp} {T : Nat} {ow : Nat → Option Nat} {M : MdM} {r : Int32} (hR : Ret X (rs (some (.int r)) (putMd σ T ow ρ M)) 0 0 (some .int)) : ∀ (n : Nat) (v1_324 v2_325 : Int32), Md_countWrong_L4 ρ M n v1_324 v2_325 = some r → G X (putMd σ T ow ρ M) 0 0 4 [(0, .ref T), (1, .int v1_324), (2, .int v2_325)] [] := by
  intro n
  induction n with
  | zero =>
    intro v1_324 v2_325 hr
    rw [Md_countWrong_L4] at hr
    cases hr
  | succ n ih =>
    intro v1_324 v2_325 hr
    rw [Md_countWrong_L4] at hr
    refine g_iload_n hx 4 (i := 2) 2 dX11_countWrong_4 rfl rfl ?_
    refine g_iconst hx 5 (1) dX11_countWrong_5 rfl ?_
    refine g_iadd hx 6 dX11_countWrong_6 ?_
    refine g_aload_n hx 7 (i := 0) 0 dX11_countWrong_7 rfl rfl ?_
    refine g_get hx 8 (C := RX11) (T := TX11) (N := 30) 7 (.ref (T + 1 + ρ)) (pM_o σ T ow ρ M) rfl (by decide) rfl fl_X11_31 dX11_countWrong_8 ?_
    refine g_bipush hx 11 (6) dX11_countWrong_11 rfl ?_
    refine g_iald hx 13 (pM_row hρ σ T ow M) (by decide : inB 6 257) dX11_countWrong_13 ?_
    refine g_icmp_ge hx 14 39 dX11_countWrong_14 (by decide) (fun hc_327 => ?_) (fun hc_327 => ?_)
    · have hr := (if_pos hc_327).symm.trans hr
      refine g_iload_n hx 39 (i := 1) 1 dX11_countWrong_39 rfl rfl ?_
      exact g_iret hx hR 40 dX11_countWrong_40 ⟨by rw [← Option.some.inj hr] <;> rfl, rfl⟩
    · have hr := (if_neg hc_327).symm.trans hr
      refine g_iload_n hx 17 (i := 1) 1 dX11_countWrong_17 rfl rfl ?_
      refine g_aload_n hx 18 (i := 0) 0 dX11_countWrong_18 rfl rfl ?_
      refine g_iload_n hx 19 (i := 2) 2 dX11_countWrong_19 rfl rfl ?_
      obtain ⟨q_328, eq_328, hr⟩ := bind_e hr
      refine g_callVr hx (c_Md_isWrong hρ l g σ T ow M v2_325 eq_328) lk_X11_109 ar_Md_isWrong (pM_o σ T ow ρ M) (T := TX11) (N := 30) rfl (As := [.int v2_325]) (rest := [.int v1_324]) rfl (Nat.le_of_ble_eq_true rfl) ⟨Nat.le_of_ble_eq_true rfl, Nat.le_of_ble_eq_true rfl⟩ ⟨rfl, rfl⟩ ⟨Nat.zero_le _, Nat.zero_le _⟩ dX11_countWrong_20 ?_
      refine g_if_eq hx 23 30 dX11_countWrong_23 (by decide) (fun hc_329 => ?_) (fun hc_329 => ?_)
      · have hr := (if_pos hc_329).symm.trans hr
        refine g_iconst hx 30 (0) dX11_countWrong_30 rfl ?_
        refine g_iadd hx 31 dX11_countWrong_31 ?_
        obtain ⟨v1_330, ev1_330, hr⟩ := lt'_e hr
        refine g_nmi ev1_330 ?_
        refine g_istore_n hx 32 (i := 1) [(1, .int v1_330), (0, .ref T), (2, .int v2_325)] dX11_countWrong_32 rfl (by decide) rfl ?_
        refine g_iinc hx 33 (i := 2) 2 (v2_325 + 1) [(2, .int (v2_325 + 1)), (1, .int v1_330), (0, .ref T)] dX11_countWrong_33 rfl rfl (by decide) rfl ?_
        refine g_goto hx 36 4 dX11_countWrong_36 (by decide) ?_
        refine g_ls [2, 1, 0] [(0, .ref T), (1, .int v1_330), (2, .int (v2_325 + 1))] rfl ?_
        exact ih v1_330 (v2_325 + 1) hr
      · have hr := (if_neg hc_329).symm.trans hr
        refine g_iconst hx 26 (1) dX11_countWrong_26 rfl ?_
        refine g_goto hx 27 31 dX11_countWrong_27 (by decide) ?_
        refine g_iadd hx 31 dX11_countWrong_31 ?_
        obtain ⟨v1_331, ev1_331, hr⟩ := lt'_e hr
        refine g_nmi ev1_331 ?_
        refine g_istore_n hx 32 (i := 1) [(1, .int v1_331), (0, .ref T), (2, .int v2_325)] dX11_countWrong_32 rfl (by decide) rfl ?_
        refine g_iinc hx 33 (i := 2) 2 (v2_325 + 1) [(2, .int (v2_325 + 1)), (1, .int v1_331), (0, .ref T)] dX11_countWrong_33 rfl rfl (by decide) rfl ?_
        refine g_goto hx 36 4 dX11_countWrong_36 (by decide) ?_
        refine g_ls [2, 1, 0] [(0, .ref T), (1, .int v1_331), (2, .int (v2_325 + 1))] rfl ?_
        exact ih v1_331 (v2_325 + 1) hr
set_option maxRecDepth 100000 in
set_option maxHeartbeats 4000000 in
theorem c_Md_countWrong {ρ : Nat} (hρ : ρ < 2) (l : Launch) (g : Gl) (σ : Hp) (T : Nat) (ow : Nat → Option Nat) (M : MdM) {r : Int32} (hr : Md_countWrong ρ M = some r) : MG l g md_Md_countWrong [.ref T] (putMd σ T ow ρ M) (rs (some (.int r)) (putMd σ T ow ρ M)) := by
  refine MG.intro (by decide +kernel) (Nat.le_of_ble_eq_true rfl) (fun X hx hR _ => ?_)
  unfold Md_countWrong at hr
  refine g_ls [0] [(0, .ref T)] rfl ?_
  refine g_iconst hx 0 (0) dX11_countWrong_0 rfl ?_
  refine g_istore_n hx 1 (i := 1) [(1, .int 0), (0, .ref T)] dX11_countWrong_1 rfl (by decide) rfl ?_
  refine g_iconst hx 2 (0) dX11_countWrong_2 rfl ?_
  refine g_istore_n hx 3 (i := 2) [(2, .int 0), (1, .int 0), (0, .ref T)] dX11_countWrong_3 rfl (by decide) rfl ?_
  refine g_ls [2, 1, 0] [(0, .ref T), (1, .int 0), (2, .int 0)] rfl ?_
  exact w_Md_countWrong_L4 hρ hx hR FU 0 0 hr
def Md_halve_L22 (ρ : Nat) : Nat → MdM → Int32 → Int32 → Int32 → Option (Int32 × MdM)
  | 0, _, _, _, _ => none
  | n + 1, M, v1_334, v2_335, v3_336 => if v3_336 < v2_335 then (some (((-1), M))) else (lt' ((v2_335 + v3_336) / 2) fun v4_338 => Option.bind (Md_markAt ρ M v4_338) fun q_339 => if inB (M.1 11) 24 then (if q_339 < v1_334 then (if q_339 = v1_334 then (some ((v4_338, setF (setF (setA M 7 (upd (M.2 7) (M.1 11).toNatClampNeg v4_338)) 11 ((M.1 11) + 1)) 12 (v4_338 + 1)))) else (if q_339 ≤ v1_334 then (lt' (v4_338 + 1) fun v2_344 => Md_halve_L22 ρ n (setF (setF (setA M 7 (upd (M.2 7) (M.1 11).toNatClampNeg v4_338)) 11 ((M.1 11) + 1)) 12 (v4_338 + 1)) v1_334 v2_344 v3_336) else (lt' (v4_338 - 1) fun v3_345 => Md_halve_L22 ρ n (setF (setF (setA M 7 (upd (M.2 7) (M.1 11).toNatClampNeg v4_338)) 11 ((M.1 11) + 1)) 12 (v4_338 + 1)) v1_334 v2_335 v3_345))) else (if q_339 = v1_334 then (some ((v4_338, setF (setF (setA M 7 (upd (M.2 7) (M.1 11).toNatClampNeg v4_338)) 11 ((M.1 11) + 1)) 12 v4_338))) else (if q_339 ≤ v1_334 then (lt' (v4_338 + 1) fun v2_348 => Md_halve_L22 ρ n (setF (setF (setA M 7 (upd (M.2 7) (M.1 11).toNatClampNeg v4_338)) 11 ((M.1 11) + 1)) 12 v4_338) v1_334 v2_348 v3_336) else (lt' (v4_338 - 1) fun v3_349 => Md_halve_L22 ρ n (setF (setF (setA M 7 (upd (M.2 7) (M.1 11).toNatClampNeg v4_338)) 11 ((M.1 11) + 1)) 12 v4_338) v1_334 v2_335 v3_349)))) else none)
def Md_halve (ρ : Nat) (M : MdM) (p1 : Int32) : Option (Int32 × MdM) := lt' (((M.2 ρ) (6 : Int32).toNatClampNeg) - 1) fun v3_333 => Md_halve_L22 ρ FU (setF (setF M 11 0) 12 0) p1 0 v3_333
set_option maxRecDepth 100000 in
set_option maxHeartbeats 4000000 in
theorem w_Md_halve_L22 {ρ : Nat} (hρ : ρ < 2) {X : Cx} {l : Launch} {g : Gl} (hx : Ok X l g RX11 cX11_halve 6 md_Md_halve.rm) {σ : Hp} {T : Nat} {ow : Nat → Option Nat} {r : Int32 × MdM} (hR : Ret X (rs (some (.int r.1)) (putMd σ T ow ρ r.2)) 0 0 (some .int)) : ∀ (n : Nat) (M : MdM) (v1_334 v2_335 v3_336 : Int32), Md_halve_L22 ρ n M v1_334 v2_335 v3_336 = some r → G X (putMd σ T ow ρ M) 0 0 22 [(0, .ref T), (1, .int v1_334), (2, .int v2_335), (3, .int v3_336)] [] := by
  intro n
  induction n with
  | zero =>
    intro M v1_334 v2_335 v3_336 hr
    rw [Md_halve_L22] at hr
    cases hr
  | succ n ih =>
    intro M v1_334 v2_335 v3_336 hr
    rw [Md_halve_L22] at hr
    refine g_iload_n hx 22 (i := 2) 2 dX11_halve_22 rfl rfl ?_
    refine g_iload_n hx 23 (i := 3) 3 dX11_halve_23 rfl rfl ?_
    refine g_icmp_gt hx 24 113 dX11_halve_24 (by decide) (fun hc_337 => ?_) (fun hc_337 => ?_)
    · have hr := (if_pos hc_337).symm.trans hr
      refine g_iconst hx 113 (-1) dX11_halve_113 rfl ?_
      exact g_iret hx hR 114 dX11_halve_114 ⟨by rw [← Option.some.inj hr] <;> rfl, by rw [← Option.some.inj hr] <;> rfl⟩
    · have hr := (if_neg hc_337).symm.trans hr
      refine g_iload_n hx 27 (i := 2) 2 dX11_halve_27 rfl rfl ?_
      refine g_iload_n hx 28 (i := 3) 3 dX11_halve_28 rfl rfl ?_
      refine g_iadd hx 29 dX11_halve_29 ?_
      refine g_iconst hx 30 (2) dX11_halve_30 rfl ?_
      refine g_idiv hx 31 dX11_halve_31 (by decide) ?_
      obtain ⟨v4_338, ev4_338, hr⟩ := lt'_e hr
      refine g_nmi ev4_338 ?_
      refine g_istore hx 32 (i := 4) [(4, .int v4_338), (0, .ref T), (1, .int v1_334), (2, .int v2_335), (3, .int v3_336)] dX11_halve_32 (by decide) rfl ?_
      refine g_aload_n hx 34 (i := 0) 1 dX11_halve_34 rfl rfl ?_
      refine g_iload hx 35 (i := 4) 0 dX11_halve_35 rfl ?_
      obtain ⟨q_339, eq_339, hr⟩ := bind_e hr
      refine g_callVr hx (c_Md_markAt hρ l g σ T ow M v4_338 eq_339) lk_X11_106 ar_Md_markAt (pM_o σ T ow ρ M) (T := TX11) (N := 30) rfl (As := [.int v4_338]) (rest := []) rfl (Nat.le_of_ble_eq_true rfl) ⟨Nat.le_of_ble_eq_true rfl, Nat.le_of_ble_eq_true rfl⟩ ⟨rfl, rfl⟩ ⟨Nat.zero_le _, Nat.zero_le _⟩ dX11_halve_37 ?_
      refine g_istore hx 40 (i := 5) [(5, .int q_339), (4, .int v4_338), (0, .ref T), (1, .int v1_334), (2, .int v2_335), (3, .int v3_336)] dX11_halve_40 (by decide) rfl ?_
      refine g_aload_n hx 42 (i := 0) 2 dX11_halve_42 rfl rfl ?_
      refine g_get hx 43 (C := RX11) (T := TX11) (N := 30) 13 (.ref (T + 8)) (pM_o σ T ow ρ M) rfl (by decide) rfl fl_X11_34 dX11_halve_43 ?_
      refine g_aload_n hx 46 (i := 0) 2 dX11_halve_46 rfl rfl ?_
      refine g_get hx 47 (C := RX11) (T := TX11) (N := 30) 11 (.int (M.1 11)) (pM_o σ T ow ρ M) rfl (by decide) rfl fl_X11_113 dX11_halve_47 ?_
      refine g_iload hx 50 (i := 4) 1 dX11_halve_50 rfl ?_
      obtain ⟨hb_340, hr⟩ := ob hr
      refine g_iast hx 52 (pM_a σ T ow ρ M 7 (by decide)) hb_340 dX11_halve_52 ?_
      refine G.heap (pM_s σ T ow ρ M 7 (by decide) (upd (M.2 7) (M.1 11).toNatClampNeg v4_338)) ?_
      refine g_aload_n hx 53 (i := 0) 2 dX11_halve_53 rfl rfl ?_
      refine g_dup hx 54 dX11_halve_54 rfl ?_
      refine g_get hx 55 (C := RX11) (T := TX11) (N := 30) 11 (.int (M.1 11)) (pM_o σ T ow ρ (setA M 7 (upd (M.2 7) (M.1 11).toNatClampNeg v4_338))) rfl (by decide) rfl fl_X11_113 dX11_halve_55 ?_
      refine g_iconst hx 58 (1) dX11_halve_58 rfl ?_
      refine g_iadd hx 59 dX11_halve_59 ?_
      refine g_put hx 60 (C := RX11) (T := TX11) (N := 30) 11 .int _ (pM_o σ T ow ρ (setA M 7 (upd (M.2 7) (M.1 11).toNatClampNeg v4_338))) rfl (by decide) fl_X11_113 rfl rfl rfl rfl (Nat.le_of_ble_eq_true rfl) rfl dX11_halve_60 ?_
      refine G.heap (pM_f σ T ow ρ (setA M 7 (upd (M.2 7) (M.1 11).toNatClampNeg v4_338)) 11 ((M.1 11) + 1)) ?_
      refine g_aload_n hx 63 (i := 0) 2 dX11_halve_63 rfl rfl ?_
      refine g_iload hx 64 (i := 5) 0 dX11_halve_64 rfl ?_
      refine g_iload_n hx 66 (i := 1) 3 dX11_halve_66 rfl rfl ?_
      refine g_icmp_lt hx 67 75 dX11_halve_67 (by decide) (fun hc_341 => ?_) (fun hc_341 => ?_)
      · have hr := (if_pos hc_341).symm.trans hr
        refine g_iload hx 75 (i := 4) 1 dX11_halve_75 rfl ?_
        refine g_iconst hx 77 (1) dX11_halve_77 rfl ?_
        refine g_iadd hx 78 dX11_halve_78 ?_
        refine g_put hx 79 (C := RX11) (T := TX11) (N := 30) 12 .int _ (pM_o σ T ow ρ (setF (setA M 7 (upd (M.2 7) (M.1 11).toNatClampNeg v4_338)) 11 ((M.1 11) + 1))) rfl (by decide) fl_X11_116 rfl rfl rfl rfl (Nat.le_of_ble_eq_true rfl) rfl dX11_halve_79 ?_
        refine G.heap (pM_f σ T ow ρ (setF (setA M 7 (upd (M.2 7) (M.1 11).toNatClampNeg v4_338)) 11 ((M.1 11) + 1)) 12 (v4_338 + 1)) ?_
        refine g_iload hx 82 (i := 5) 0 dX11_halve_82 rfl ?_
        refine g_iload_n hx 84 (i := 1) 3 dX11_halve_84 rfl rfl ?_
        refine g_icmp_ne hx 85 91 dX11_halve_85 (by decide) (fun hc_342 => ?_) (fun hc_342 => ?_)
        · have hr := (if_neg hc_342).symm.trans hr
          refine g_iload hx 91 (i := 5) 0 dX11_halve_91 rfl ?_
          refine g_iload_n hx 93 (i := 1) 3 dX11_halve_93 rfl rfl ?_
          refine g_icmp_le hx 94 105 dX11_halve_94 (by decide) (fun hc_343 => ?_) (fun hc_343 => ?_)
          · have hr := (if_pos hc_343).symm.trans hr
            refine g_iload hx 105 (i := 4) 1 dX11_halve_105 rfl ?_
            refine g_iconst hx 107 (1) dX11_halve_107 rfl ?_
            refine g_iadd hx 108 dX11_halve_108 ?_
            obtain ⟨v2_344, ev2_344, hr⟩ := lt'_e hr
            refine g_nmi ev2_344 ?_
            refine g_istore_n hx 109 (i := 2) [(2, .int v2_344), (5, .int q_339), (4, .int v4_338), (0, .ref T), (1, .int v1_334), (3, .int v3_336)] dX11_halve_109 rfl (by decide) rfl ?_
            refine g_goto hx 110 22 dX11_halve_110 (by decide) ?_
            refine g_ls [3, 4, 0, 5] [(0, .ref T), (1, .int v1_334), (2, .int v2_344), (3, .int v3_336)] rfl ?_
            exact ih (setF (setF (setA M 7 (upd (M.2 7) (M.1 11).toNatClampNeg v4_338)) 11 ((M.1 11) + 1)) 12 (v4_338 + 1)) v1_334 v2_344 v3_336 hr
          · have hr := (if_neg hc_343).symm.trans hr
            refine g_iload hx 97 (i := 4) 1 dX11_halve_97 rfl ?_
            refine g_iconst hx 99 (1) dX11_halve_99 rfl ?_
            refine g_isub hx 100 dX11_halve_100 ?_
            obtain ⟨v3_345, ev3_345, hr⟩ := lt'_e hr
            refine g_nmi ev3_345 ?_
            refine g_istore_n hx 101 (i := 3) [(3, .int v3_345), (5, .int q_339), (4, .int v4_338), (0, .ref T), (1, .int v1_334), (2, .int v2_335)] dX11_halve_101 rfl (by decide) rfl ?_
            refine g_goto hx 102 110 dX11_halve_102 (by decide) ?_
            refine g_goto hx 110 22 dX11_halve_110 (by decide) ?_
            refine g_ls [3, 4, 5, 0] [(0, .ref T), (1, .int v1_334), (2, .int v2_335), (3, .int v3_345)] rfl ?_
            exact ih (setF (setF (setA M 7 (upd (M.2 7) (M.1 11).toNatClampNeg v4_338)) 11 ((M.1 11) + 1)) 12 (v4_338 + 1)) v1_334 v2_335 v3_345 hr
        · have hr := (if_pos hc_342).symm.trans hr
          refine g_iload hx 88 (i := 4) 1 dX11_halve_88 rfl ?_
          exact g_iret hx hR 90 dX11_halve_90 ⟨by rw [← Option.some.inj hr] <;> rfl, by rw [← Option.some.inj hr] <;> rfl⟩
      · have hr := (if_neg hc_341).symm.trans hr
        refine g_iload hx 70 (i := 4) 1 dX11_halve_70 rfl ?_
        refine g_goto hx 72 79 dX11_halve_72 (by decide) ?_
        refine g_put hx 79 (C := RX11) (T := TX11) (N := 30) 12 .int _ (pM_o σ T ow ρ (setF (setA M 7 (upd (M.2 7) (M.1 11).toNatClampNeg v4_338)) 11 ((M.1 11) + 1))) rfl (by decide) fl_X11_116 rfl rfl rfl rfl (Nat.le_of_ble_eq_true rfl) rfl dX11_halve_79 ?_
        refine G.heap (pM_f σ T ow ρ (setF (setA M 7 (upd (M.2 7) (M.1 11).toNatClampNeg v4_338)) 11 ((M.1 11) + 1)) 12 v4_338) ?_
        refine g_iload hx 82 (i := 5) 0 dX11_halve_82 rfl ?_
        refine g_iload_n hx 84 (i := 1) 3 dX11_halve_84 rfl rfl ?_
        refine g_icmp_ne hx 85 91 dX11_halve_85 (by decide) (fun hc_346 => ?_) (fun hc_346 => ?_)
        · have hr := (if_neg hc_346).symm.trans hr
          refine g_iload hx 91 (i := 5) 0 dX11_halve_91 rfl ?_
          refine g_iload_n hx 93 (i := 1) 3 dX11_halve_93 rfl rfl ?_
          refine g_icmp_le hx 94 105 dX11_halve_94 (by decide) (fun hc_347 => ?_) (fun hc_347 => ?_)
          · have hr := (if_pos hc_347).symm.trans hr
            refine g_iload hx 105 (i := 4) 1 dX11_halve_105 rfl ?_
            refine g_iconst hx 107 (1) dX11_halve_107 rfl ?_
            refine g_iadd hx 108 dX11_halve_108 ?_
            obtain ⟨v2_348, ev2_348, hr⟩ := lt'_e hr
            refine g_nmi ev2_348 ?_
            refine g_istore_n hx 109 (i := 2) [(2, .int v2_348), (5, .int q_339), (4, .int v4_338), (0, .ref T), (1, .int v1_334), (3, .int v3_336)] dX11_halve_109 rfl (by decide) rfl ?_
            refine g_goto hx 110 22 dX11_halve_110 (by decide) ?_
            refine g_ls [3, 4, 0, 5] [(0, .ref T), (1, .int v1_334), (2, .int v2_348), (3, .int v3_336)] rfl ?_
            exact ih (setF (setF (setA M 7 (upd (M.2 7) (M.1 11).toNatClampNeg v4_338)) 11 ((M.1 11) + 1)) 12 v4_338) v1_334 v2_348 v3_336 hr
          · have hr := (if_neg hc_347).symm.trans hr
            refine g_iload hx 97 (i := 4) 1 dX11_halve_97 rfl ?_
            refine g_iconst hx 99 (1) dX11_halve_99 rfl ?_
            refine g_isub hx 100 dX11_halve_100 ?_
            obtain ⟨v3_349, ev3_349, hr⟩ := lt'_e hr
            refine g_nmi ev3_349 ?_
            refine g_istore_n hx 101 (i := 3) [(3, .int v3_349), (5, .int q_339), (4, .int v4_338), (0, .ref T), (1, .int v1_334), (2, .int v2_335)] dX11_halve_101 rfl (by decide) rfl ?_
            refine g_goto hx 102 110 dX11_halve_102 (by decide) ?_
            refine g_goto hx 110 22 dX11_halve_110 (by decide) ?_
            refine g_ls [3, 4, 5, 0] [(0, .ref T), (1, .int v1_334), (2, .int v2_335), (3, .int v3_349)] rfl ?_
            exact ih (setF (setF (setA M 7 (upd (M.2 7) (M.1 11).toNatClampNeg v4_338)) 11 ((M.1 11) + 1)) 12 v4_338) v1_334 v2_335 v3_349 hr
        · have hr := (if_pos hc_346).symm.trans hr
          refine g_iload hx 88 (i := 4) 1 dX11_halve_88 rfl ?_
          exact g_iret hx hR 90 dX11_halve_90 ⟨by rw [← Option.some.inj hr] <;> rfl, by rw [← Option.some.inj hr] <;> rfl⟩
set_option maxRecDepth 100000 in
set_option maxHeartbeats 4000000 in
theorem c_Md_halve {ρ : Nat} (hρ : ρ < 2) (l : Launch) (g : Gl) (σ : Hp) (T : Nat) (ow : Nat → Option Nat) (M : MdM) (p1 : Int32) {r : Int32 × MdM} (hr : Md_halve ρ M p1 = some r) : MG l g md_Md_halve [.ref T, .int p1] (putMd σ T ow ρ M) (rs (some (.int r.1)) (putMd σ T ow ρ r.2)) := by
  refine MG.intro (by decide +kernel) (Nat.le_of_ble_eq_true rfl) (fun X hx hR _ => ?_)
  unfold Md_halve at hr
  refine g_ls [0, 1] [(0, .ref T), (1, .int p1)] rfl ?_
  refine g_iconst hx 0 (0) dX11_halve_0 rfl ?_
  refine g_istore_n hx 1 (i := 2) [(2, .int 0), (0, .ref T), (1, .int p1)] dX11_halve_1 rfl (by decide) rfl ?_
  refine g_aload_n hx 2 (i := 0) 1 dX11_halve_2 rfl rfl ?_
  refine g_get hx 3 (C := RX11) (T := TX11) (N := 30) 7 (.ref (T + 1 + ρ)) (pM_o σ T ow ρ M) rfl (by decide) rfl fl_X11_31 dX11_halve_3 ?_
  refine g_bipush hx 6 (6) dX11_halve_6 rfl ?_
  refine g_iald hx 8 (pM_row hρ σ T ow M) (by decide : inB 6 257) dX11_halve_8 ?_
  refine g_iconst hx 9 (1) dX11_halve_9 rfl ?_
  refine g_isub hx 10 dX11_halve_10 ?_
  obtain ⟨v3_333, ev3_333, hr⟩ := lt'_e hr
  refine g_nmi ev3_333 ?_
  refine g_istore_n hx 11 (i := 3) [(3, .int v3_333), (2, .int 0), (0, .ref T), (1, .int p1)] dX11_halve_11 rfl (by decide) rfl ?_
  refine g_aload_n hx 12 (i := 0) 2 dX11_halve_12 rfl rfl ?_
  refine g_iconst hx 13 (0) dX11_halve_13 rfl ?_
  refine g_put hx 14 (C := RX11) (T := TX11) (N := 30) 11 .int _ (pM_o σ T ow ρ M) rfl (by decide) fl_X11_113 rfl rfl rfl rfl (Nat.le_of_ble_eq_true rfl) rfl dX11_halve_14 ?_
  refine G.heap (pM_f σ T ow ρ M 11 0) ?_
  refine g_aload_n hx 17 (i := 0) 2 dX11_halve_17 rfl rfl ?_
  refine g_iconst hx 18 (0) dX11_halve_18 rfl ?_
  refine g_put hx 19 (C := RX11) (T := TX11) (N := 30) 12 .int _ (pM_o σ T ow ρ (setF M 11 0)) rfl (by decide) fl_X11_116 rfl rfl rfl rfl (Nat.le_of_ble_eq_true rfl) rfl dX11_halve_19 ?_
  refine G.heap (pM_f σ T ow ρ (setF M 11 0) 12 0) ?_
  refine g_ls [2, 3, 1, 0] [(0, .ref T), (1, .int p1), (2, .int 0), (3, .int v3_333)] rfl ?_
  exact w_Md_halve_L22 hρ hx hR FU (setF (setF M 11 0) 12 0) p1 0 v3_333 hr
def Md_countMissed_L4 (ρ : Nat) : Nat → MdM → Int32 → Int32 → Option (Int32 × MdM)
  | 0, _, _, _ => none
  | n + 1, M, v1_350, v2_351 => if (M.2 ρ) (6 : Int32).toNatClampNeg ≤ v2_351 then (some ((v1_350, M))) else (Option.bind (Md_markAt ρ M v2_351) fun q_354 => Option.bind (Md_halve ρ M q_354) fun q_355 => if q_355.1 = v2_351 then (lt' (v1_350 + 0) fun v1_357 => Md_countMissed_L4 ρ n q_355.2 v1_357 (v2_351 + 1)) else (lt' (v1_350 + 1) fun v1_358 => Md_countMissed_L4 ρ n q_355.2 v1_358 (v2_351 + 1)))
def Md_countMissed (ρ : Nat) (M : MdM) : Option (Int32 × MdM) := Md_countMissed_L4 ρ FU M 0 0
set_option maxRecDepth 100000 in
set_option maxHeartbeats 4000000 in
theorem w_Md_countMissed_L4 {ρ : Nat} (hρ : ρ < 2) {X : Cx} {l : Launch} {g : Gl} (hx : Ok X l g RX11 cX11_countMissed 3 md_Md_countMissed.rm) {σ : Hp} {T : Nat} {ow : Nat → Option Nat} {r : Int32 × MdM} (hR : Ret X (rs (some (.int r.1)) (putMd σ T ow ρ r.2)) 0 0 (some .int)) : ∀ (n : Nat) (M : MdM) (v1_350 v2_351 : Int32), Md_countMissed_L4 ρ n M v1_350 v2_351 = some r → G X (putMd σ T ow ρ M) 0 0 4 [(0, .ref T), (1, .int v1_350), (2, .int v2_351)] [] := by
  intro n
  induction n with
  | zero =>
    intro M v1_350 v2_351 hr
    rw [Md_countMissed_L4] at hr
    cases hr
  | succ n ih =>
    intro M v1_350 v2_351 hr
    rw [Md_countMissed_L4] at hr
    refine g_iload_n hx 4 (i := 2) 2 dX11_countMissed_4 rfl rfl ?_
    refine g_aload_n hx 5 (i := 0) 0 dX11_countMissed_5 rfl rfl ?_
    refine g_get hx 6 (C := RX11) (T := TX11) (N := 30) 7 (.ref (T + 1 + ρ)) (pM_o σ T ow ρ M) rfl (by decide) rfl fl_X11_31 dX11_countMissed_6 ?_
    refine g_bipush hx 9 (6) dX11_countMissed_9 rfl ?_
    refine g_iald hx 11 (pM_row hρ σ T ow M) (by decide : inB 6 257) dX11_countMissed_11 ?_
    refine g_icmp_ge hx 12 42 dX11_countMissed_12 (by decide) (fun hc_353 => ?_) (fun hc_353 => ?_)
    · have hr := (if_pos hc_353).symm.trans hr
      refine g_iload_n hx 42 (i := 1) 1 dX11_countMissed_42 rfl rfl ?_
      exact g_iret hx hR 43 dX11_countMissed_43 ⟨by rw [← Option.some.inj hr] <;> rfl, by rw [← Option.some.inj hr] <;> rfl⟩
    · have hr := (if_neg hc_353).symm.trans hr
      refine g_iload_n hx 15 (i := 1) 1 dX11_countMissed_15 rfl rfl ?_
      refine g_aload_n hx 16 (i := 0) 0 dX11_countMissed_16 rfl rfl ?_
      refine g_aload_n hx 17 (i := 0) 0 dX11_countMissed_17 rfl rfl ?_
      refine g_iload_n hx 18 (i := 2) 2 dX11_countMissed_18 rfl rfl ?_
      obtain ⟨q_354, eq_354, hr⟩ := bind_e hr
      refine g_callVr hx (c_Md_markAt hρ l g σ T ow M v2_351 eq_354) lk_X11_106 ar_Md_markAt (pM_o σ T ow ρ M) (T := TX11) (N := 30) rfl (As := [.int v2_351]) (rest := [.ref T, .int v1_350]) rfl (Nat.le_of_ble_eq_true rfl) ⟨Nat.le_of_ble_eq_true rfl, Nat.le_of_ble_eq_true rfl⟩ ⟨rfl, rfl⟩ ⟨Nat.zero_le _, Nat.zero_le _⟩ dX11_countMissed_19 ?_
      obtain ⟨q_355, eq_355, hr⟩ := bind_e hr
      refine g_callVr hx (c_Md_halve hρ l g σ T ow M q_354 eq_355) lk_X11_119 ar_Md_halve (pM_o σ T ow ρ M) (T := TX11) (N := 30) rfl (As := [.int q_354]) (rest := [.int v1_350]) rfl (Nat.le_of_ble_eq_true rfl) ⟨Nat.le_of_ble_eq_true rfl, Nat.le_of_ble_eq_true rfl⟩ ⟨rfl, rfl⟩ ⟨Nat.zero_le _, Nat.zero_le _⟩ dX11_countMissed_22 ?_
      refine g_iload_n hx 25 (i := 2) 2 dX11_countMissed_25 rfl rfl ?_
      refine g_icmp_eq hx 26 33 dX11_countMissed_26 (by decide) (fun hc_356 => ?_) (fun hc_356 => ?_)
      · have hr := (if_pos hc_356).symm.trans hr
        refine g_iconst hx 33 (0) dX11_countMissed_33 rfl ?_
        refine g_iadd hx 34 dX11_countMissed_34 ?_
        obtain ⟨v1_357, ev1_357, hr⟩ := lt'_e hr
        refine g_nmi ev1_357 ?_
        refine g_istore_n hx 35 (i := 1) [(1, .int v1_357), (0, .ref T), (2, .int v2_351)] dX11_countMissed_35 rfl (by decide) rfl ?_
        refine g_iinc hx 36 (i := 2) 2 (v2_351 + 1) [(2, .int (v2_351 + 1)), (1, .int v1_357), (0, .ref T)] dX11_countMissed_36 rfl rfl (by decide) rfl ?_
        refine g_goto hx 39 4 dX11_countMissed_39 (by decide) ?_
        refine g_ls [2, 1, 0] [(0, .ref T), (1, .int v1_357), (2, .int (v2_351 + 1))] rfl ?_
        exact ih q_355.2 v1_357 (v2_351 + 1) hr
      · have hr := (if_neg hc_356).symm.trans hr
        refine g_iconst hx 29 (1) dX11_countMissed_29 rfl ?_
        refine g_goto hx 30 34 dX11_countMissed_30 (by decide) ?_
        refine g_iadd hx 34 dX11_countMissed_34 ?_
        obtain ⟨v1_358, ev1_358, hr⟩ := lt'_e hr
        refine g_nmi ev1_358 ?_
        refine g_istore_n hx 35 (i := 1) [(1, .int v1_358), (0, .ref T), (2, .int v2_351)] dX11_countMissed_35 rfl (by decide) rfl ?_
        refine g_iinc hx 36 (i := 2) 2 (v2_351 + 1) [(2, .int (v2_351 + 1)), (1, .int v1_358), (0, .ref T)] dX11_countMissed_36 rfl rfl (by decide) rfl ?_
        refine g_goto hx 39 4 dX11_countMissed_39 (by decide) ?_
        refine g_ls [2, 1, 0] [(0, .ref T), (1, .int v1_358), (2, .int (v2_351 + 1))] rfl ?_
        exact ih q_355.2 v1_358 (v2_351 + 1) hr
set_option maxRecDepth 100000 in
set_option maxHeartbeats 4000000 in
theorem c_Md_countMissed {ρ : Nat} (hρ : ρ < 2) (l : Launch) (g : Gl) (σ : Hp) (T : Nat) (ow : Nat → Option Nat) (M : MdM) {r : Int32 × MdM} (hr : Md_countMissed ρ M = some r) : MG l g md_Md_countMissed [.ref T] (putMd σ T ow ρ M) (rs (some (.int r.1)) (putMd σ T ow ρ r.2)) := by
  refine MG.intro (by decide +kernel) (Nat.le_of_ble_eq_true rfl) (fun X hx hR _ => ?_)
  unfold Md_countMissed at hr
  refine g_ls [0] [(0, .ref T)] rfl ?_
  refine g_iconst hx 0 (0) dX11_countMissed_0 rfl ?_
  refine g_istore_n hx 1 (i := 1) [(1, .int 0), (0, .ref T)] dX11_countMissed_1 rfl (by decide) rfl ?_
  refine g_iconst hx 2 (0) dX11_countMissed_2 rfl ?_
  refine g_istore_n hx 3 (i := 2) [(2, .int 0), (1, .int 0), (0, .ref T)] dX11_countMissed_3 rfl (by decide) rfl ?_
  refine g_ls [2, 1, 0] [(0, .ref T), (1, .int 0), (2, .int 0)] rfl ?_
  exact w_Md_countMissed_L4 hρ hx hR FU M 0 0 hr
def Md_orderPlace_L4 (ρ : Nat) (M : MdM) : Nat → Int32 → Int32 → Int32 → Option (Int32)
  | 0, _, _, _ => none
  | n + 1, v1_359, v2_360, v3_361 => if (M.2 ρ) (6 : Int32).toNatClampNeg ≤ v3_361 then (some (v2_360)) else (Option.bind (Md_markAt ρ M v3_361) fun q_364 => Option.bind (Md_of ρ M v1_359 0) fun q_365 => if q_365 ≤ q_364 then (lt' (v2_360 + 0) fun v2_367 => Md_orderPlace_L4 ρ M n v1_359 v2_367 (v3_361 + 1)) else (lt' (v2_360 + 1) fun v2_368 => Md_orderPlace_L4 ρ M n v1_359 v2_368 (v3_361 + 1)))
def Md_orderPlace (ρ : Nat) (M : MdM) (p1 : Int32) : Option (Int32) := Md_orderPlace_L4 ρ M FU p1 0 0
set_option maxRecDepth 100000 in
set_option maxHeartbeats 4000000 in
theorem w_Md_orderPlace_L4 {ρ : Nat} (hρ : ρ < 2) {X : Cx} {l : Launch} {g : Gl} (hx : Ok X l g RX11 cX11_orderPlace 4 md_Md_orderPlace.rm) {σ : Hp} {T : Nat} {ow : Nat → Option Nat} {M : MdM} {r : Int32} (hR : Ret X (rs (some (.int r)) (putMd σ T ow ρ M)) 0 0 (some .int)) : ∀ (n : Nat) (v1_359 v2_360 v3_361 : Int32), Md_orderPlace_L4 ρ M n v1_359 v2_360 v3_361 = some r → G X (putMd σ T ow ρ M) 0 0 4 [(0, .ref T), (1, .int v1_359), (2, .int v2_360), (3, .int v3_361)] [] := by
  intro n
  induction n with
  | zero =>
    intro v1_359 v2_360 v3_361 hr
    rw [Md_orderPlace_L4] at hr
    cases hr
  | succ n ih =>
    intro v1_359 v2_360 v3_361 hr
    rw [Md_orderPlace_L4] at hr
    refine g_iload_n hx 4 (i := 3) 3 dX11_orderPlace_4 rfl rfl ?_
    refine g_aload_n hx 5 (i := 0) 0 dX11_orderPlace_5 rfl rfl ?_
    refine g_get hx 6 (C := RX11) (T := TX11) (N := 30) 7 (.ref (T + 1 + ρ)) (pM_o σ T ow ρ M) rfl (by decide) rfl fl_X11_31 dX11_orderPlace_6 ?_
    refine g_bipush hx 9 (6) dX11_orderPlace_9 rfl ?_
    refine g_iald hx 11 (pM_row hρ σ T ow M) (by decide : inB 6 257) dX11_orderPlace_11 ?_
    refine g_icmp_ge hx 12 43 dX11_orderPlace_12 (by decide) (fun hc_363 => ?_) (fun hc_363 => ?_)
    · have hr := (if_pos hc_363).symm.trans hr
      refine g_iload_n hx 43 (i := 2) 2 dX11_orderPlace_43 rfl rfl ?_
      exact g_iret hx hR 44 dX11_orderPlace_44 ⟨by rw [← Option.some.inj hr] <;> rfl, rfl⟩
    · have hr := (if_neg hc_363).symm.trans hr
      refine g_iload_n hx 15 (i := 2) 2 dX11_orderPlace_15 rfl rfl ?_
      refine g_aload_n hx 16 (i := 0) 0 dX11_orderPlace_16 rfl rfl ?_
      refine g_iload_n hx 17 (i := 3) 3 dX11_orderPlace_17 rfl rfl ?_
      obtain ⟨q_364, eq_364, hr⟩ := bind_e hr
      refine g_callVr hx (c_Md_markAt hρ l g σ T ow M v3_361 eq_364) lk_X11_106 ar_Md_markAt (pM_o σ T ow ρ M) (T := TX11) (N := 30) rfl (As := [.int v3_361]) (rest := [.int v2_360]) rfl (Nat.le_of_ble_eq_true rfl) ⟨Nat.le_of_ble_eq_true rfl, Nat.le_of_ble_eq_true rfl⟩ ⟨rfl, rfl⟩ ⟨Nat.zero_le _, Nat.zero_le _⟩ dX11_orderPlace_18 ?_
      refine g_aload_n hx 21 (i := 0) 0 dX11_orderPlace_21 rfl rfl ?_
      refine g_iload_n hx 22 (i := 1) 1 dX11_orderPlace_22 rfl rfl ?_
      refine g_iconst hx 23 (0) dX11_orderPlace_23 rfl ?_
      obtain ⟨q_365, eq_365, hr⟩ := bind_e hr
      refine g_callVr hx (c_Md_of hρ l g σ T ow M v1_359 0 eq_365) lk_X11_95 ar_Md_of (pM_o σ T ow ρ M) (T := TX11) (N := 30) rfl (As := [.int v1_359, .int 0]) (rest := [.int q_364, .int v2_360]) rfl (Nat.le_of_ble_eq_true rfl) ⟨Nat.le_of_ble_eq_true rfl, Nat.le_of_ble_eq_true rfl⟩ ⟨rfl, rfl⟩ ⟨Nat.zero_le _, Nat.zero_le _⟩ dX11_orderPlace_24 ?_
      refine g_icmp_ge hx 27 34 dX11_orderPlace_27 (by decide) (fun hc_366 => ?_) (fun hc_366 => ?_)
      · have hr := (if_pos hc_366).symm.trans hr
        refine g_iconst hx 34 (0) dX11_orderPlace_34 rfl ?_
        refine g_iadd hx 35 dX11_orderPlace_35 ?_
        obtain ⟨v2_367, ev2_367, hr⟩ := lt'_e hr
        refine g_nmi ev2_367 ?_
        refine g_istore_n hx 36 (i := 2) [(2, .int v2_367), (0, .ref T), (1, .int v1_359), (3, .int v3_361)] dX11_orderPlace_36 rfl (by decide) rfl ?_
        refine g_iinc hx 37 (i := 3) 3 (v3_361 + 1) [(3, .int (v3_361 + 1)), (2, .int v2_367), (0, .ref T), (1, .int v1_359)] dX11_orderPlace_37 rfl rfl (by decide) rfl ?_
        refine g_goto hx 40 4 dX11_orderPlace_40 (by decide) ?_
        refine g_ls [2, 3, 1, 0] [(0, .ref T), (1, .int v1_359), (2, .int v2_367), (3, .int (v3_361 + 1))] rfl ?_
        exact ih v1_359 v2_367 (v3_361 + 1) hr
      · have hr := (if_neg hc_366).symm.trans hr
        refine g_iconst hx 30 (1) dX11_orderPlace_30 rfl ?_
        refine g_goto hx 31 35 dX11_orderPlace_31 (by decide) ?_
        refine g_iadd hx 35 dX11_orderPlace_35 ?_
        obtain ⟨v2_368, ev2_368, hr⟩ := lt'_e hr
        refine g_nmi ev2_368 ?_
        refine g_istore_n hx 36 (i := 2) [(2, .int v2_368), (0, .ref T), (1, .int v1_359), (3, .int v3_361)] dX11_orderPlace_36 rfl (by decide) rfl ?_
        refine g_iinc hx 37 (i := 3) 3 (v3_361 + 1) [(3, .int (v3_361 + 1)), (2, .int v2_368), (0, .ref T), (1, .int v1_359)] dX11_orderPlace_37 rfl rfl (by decide) rfl ?_
        refine g_goto hx 40 4 dX11_orderPlace_40 (by decide) ?_
        refine g_ls [2, 3, 1, 0] [(0, .ref T), (1, .int v1_359), (2, .int v2_368), (3, .int (v3_361 + 1))] rfl ?_
        exact ih v1_359 v2_368 (v3_361 + 1) hr
set_option maxRecDepth 100000 in
set_option maxHeartbeats 4000000 in
theorem c_Md_orderPlace {ρ : Nat} (hρ : ρ < 2) (l : Launch) (g : Gl) (σ : Hp) (T : Nat) (ow : Nat → Option Nat) (M : MdM) (p1 : Int32) {r : Int32} (hr : Md_orderPlace ρ M p1 = some r) : MG l g md_Md_orderPlace [.ref T, .int p1] (putMd σ T ow ρ M) (rs (some (.int r)) (putMd σ T ow ρ M)) := by
  refine MG.intro (by decide +kernel) (Nat.le_of_ble_eq_true rfl) (fun X hx hR _ => ?_)
  unfold Md_orderPlace at hr
  refine g_ls [0, 1] [(0, .ref T), (1, .int p1)] rfl ?_
  refine g_iconst hx 0 (0) dX11_orderPlace_0 rfl ?_
  refine g_istore_n hx 1 (i := 2) [(2, .int 0), (0, .ref T), (1, .int p1)] dX11_orderPlace_1 rfl (by decide) rfl ?_
  refine g_iconst hx 2 (0) dX11_orderPlace_2 rfl ?_
  refine g_istore_n hx 3 (i := 3) [(3, .int 0), (2, .int 0), (0, .ref T), (1, .int p1)] dX11_orderPlace_3 rfl (by decide) rfl ?_
  refine g_ls [2, 3, 1, 0] [(0, .ref T), (1, .int p1), (2, .int 0), (3, .int 0)] rfl ?_
  exact w_Md_orderPlace_L4 hρ hx hR FU p1 0 0 hr
def Md_countInversions_L17 (ρ : Nat) (M : MdM) (k : Int32 → Int32 → Int32 → Option (Int32)) : Nat → Int32 → Int32 → Int32 → Option (Int32)
  | 0, _, _, _ => none
  | n + 1, v1_373, v2_374, v3_375 => if v2_374 ≤ v3_375 then (k v1_373 v2_374 v3_375) else (Option.bind (Md_markAt ρ M v3_375) fun q_377 => Option.bind (Md_markAt ρ M v2_374) fun q_378 => if q_377 ≤ q_378 then (lt' (v1_373 + 0) fun v1_380 => Md_countInversions_L17 ρ M k n v1_380 v2_374 (v3_375 + 1)) else (lt' (v1_373 + 1) fun v1_381 => Md_countInversions_L17 ρ M k n v1_381 v2_374 (v3_375 + 1)))
def Md_countInversions_L4 (ρ : Nat) (M : MdM) : Nat → Int32 → Int32 → Option (Int32)
  | 0, _, _ => none
  | n + 1, v1_369, v2_370 => if (M.2 ρ) (6 : Int32).toNatClampNeg ≤ v2_370 then (some (v1_369)) else (Md_countInversions_L17 ρ M (fun v1_385 v2_386 v3_387 => Md_countInversions_L4 ρ M n v1_385 (v2_386 + 1)) FU v1_369 v2_370 0)
def Md_countInversions (ρ : Nat) (M : MdM) : Option (Int32) := Md_countInversions_L4 ρ M FU 0 0
set_option maxRecDepth 100000 in
set_option maxHeartbeats 4000000 in
theorem w_Md_countInversions_L17 {ρ : Nat} (hρ : ρ < 2) {X : Cx} {l : Launch} {g : Gl} (hx : Ok X l g RX11 cX11_countInversions 4 md_Md_countInversions.rm) {σ : Hp} {T : Nat} {ow : Nat → Option Nat} {M : MdM} {r : Int32} (hR : Ret X (rs (some (.int r)) (putMd σ T ow ρ M)) 0 0 (some .int)) (k : Int32 → Int32 → Int32 → Option (Int32)) (hk : ∀ (w1_382 w2_383 w3_384 : Int32), k w1_382 w2_383 w3_384 = some r → G X (putMd σ T ow ρ M) 0 0 49 [(0, .ref T), (1, .int w1_382), (2, .int w2_383), (3, .int w3_384)] []) : ∀ (n : Nat) (v1_373 v2_374 v3_375 : Int32), Md_countInversions_L17 ρ M k n v1_373 v2_374 v3_375 = some r → G X (putMd σ T ow ρ M) 0 0 17 [(0, .ref T), (1, .int v1_373), (2, .int v2_374), (3, .int v3_375)] [] := by
  intro n
  induction n with
  | zero =>
    intro v1_373 v2_374 v3_375 hr
    rw [Md_countInversions_L17] at hr
    cases hr
  | succ n ih =>
    intro v1_373 v2_374 v3_375 hr
    rw [Md_countInversions_L17] at hr
    refine g_iload_n hx 17 (i := 3) 3 dX11_countInversions_17 rfl rfl ?_
    refine g_iload_n hx 18 (i := 2) 2 dX11_countInversions_18 rfl rfl ?_
    refine g_icmp_ge hx 19 49 dX11_countInversions_19 (by decide) (fun hc_376 => ?_) (fun hc_376 => ?_)
    · have hr := (if_pos hc_376).symm.trans hr
      refine g_ls [0, 1, 2, 3] [(0, .ref T), (1, .int v1_373), (2, .int v2_374), (3, .int v3_375)] rfl ?_
      exact hk v1_373 v2_374 v3_375 hr
    · have hr := (if_neg hc_376).symm.trans hr
      refine g_iload_n hx 22 (i := 1) 1 dX11_countInversions_22 rfl rfl ?_
      refine g_aload_n hx 23 (i := 0) 0 dX11_countInversions_23 rfl rfl ?_
      refine g_iload_n hx 24 (i := 3) 3 dX11_countInversions_24 rfl rfl ?_
      obtain ⟨q_377, eq_377, hr⟩ := bind_e hr
      refine g_callVr hx (c_Md_markAt hρ l g σ T ow M v3_375 eq_377) lk_X11_106 ar_Md_markAt (pM_o σ T ow ρ M) (T := TX11) (N := 30) rfl (As := [.int v3_375]) (rest := [.int v1_373]) rfl (Nat.le_of_ble_eq_true rfl) ⟨Nat.le_of_ble_eq_true rfl, Nat.le_of_ble_eq_true rfl⟩ ⟨rfl, rfl⟩ ⟨Nat.zero_le _, Nat.zero_le _⟩ dX11_countInversions_25 ?_
      refine g_aload_n hx 28 (i := 0) 0 dX11_countInversions_28 rfl rfl ?_
      refine g_iload_n hx 29 (i := 2) 2 dX11_countInversions_29 rfl rfl ?_
      obtain ⟨q_378, eq_378, hr⟩ := bind_e hr
      refine g_callVr hx (c_Md_markAt hρ l g σ T ow M v2_374 eq_378) lk_X11_106 ar_Md_markAt (pM_o σ T ow ρ M) (T := TX11) (N := 30) rfl (As := [.int v2_374]) (rest := [.int q_377, .int v1_373]) rfl (Nat.le_of_ble_eq_true rfl) ⟨Nat.le_of_ble_eq_true rfl, Nat.le_of_ble_eq_true rfl⟩ ⟨rfl, rfl⟩ ⟨Nat.zero_le _, Nat.zero_le _⟩ dX11_countInversions_30 ?_
      refine g_icmp_le hx 33 40 dX11_countInversions_33 (by decide) (fun hc_379 => ?_) (fun hc_379 => ?_)
      · have hr := (if_pos hc_379).symm.trans hr
        refine g_iconst hx 40 (0) dX11_countInversions_40 rfl ?_
        refine g_iadd hx 41 dX11_countInversions_41 ?_
        obtain ⟨v1_380, ev1_380, hr⟩ := lt'_e hr
        refine g_nmi ev1_380 ?_
        refine g_istore_n hx 42 (i := 1) [(1, .int v1_380), (0, .ref T), (2, .int v2_374), (3, .int v3_375)] dX11_countInversions_42 rfl (by decide) rfl ?_
        refine g_iinc hx 43 (i := 3) 3 (v3_375 + 1) [(3, .int (v3_375 + 1)), (1, .int v1_380), (0, .ref T), (2, .int v2_374)] dX11_countInversions_43 rfl rfl (by decide) rfl ?_
        refine g_goto hx 46 17 dX11_countInversions_46 (by decide) ?_
        refine g_ls [2, 1, 3, 0] [(0, .ref T), (1, .int v1_380), (2, .int v2_374), (3, .int (v3_375 + 1))] rfl ?_
        exact ih v1_380 v2_374 (v3_375 + 1) hr
      · have hr := (if_neg hc_379).symm.trans hr
        refine g_iconst hx 36 (1) dX11_countInversions_36 rfl ?_
        refine g_goto hx 37 41 dX11_countInversions_37 (by decide) ?_
        refine g_iadd hx 41 dX11_countInversions_41 ?_
        obtain ⟨v1_381, ev1_381, hr⟩ := lt'_e hr
        refine g_nmi ev1_381 ?_
        refine g_istore_n hx 42 (i := 1) [(1, .int v1_381), (0, .ref T), (2, .int v2_374), (3, .int v3_375)] dX11_countInversions_42 rfl (by decide) rfl ?_
        refine g_iinc hx 43 (i := 3) 3 (v3_375 + 1) [(3, .int (v3_375 + 1)), (1, .int v1_381), (0, .ref T), (2, .int v2_374)] dX11_countInversions_43 rfl rfl (by decide) rfl ?_
        refine g_goto hx 46 17 dX11_countInversions_46 (by decide) ?_
        refine g_ls [2, 1, 3, 0] [(0, .ref T), (1, .int v1_381), (2, .int v2_374), (3, .int (v3_375 + 1))] rfl ?_
        exact ih v1_381 v2_374 (v3_375 + 1) hr
set_option maxRecDepth 100000 in
set_option maxHeartbeats 4000000 in
theorem w_Md_countInversions_L4 {ρ : Nat} (hρ : ρ < 2) {X : Cx} {l : Launch} {g : Gl} (hx : Ok X l g RX11 cX11_countInversions 4 md_Md_countInversions.rm) {σ : Hp} {T : Nat} {ow : Nat → Option Nat} {M : MdM} {r : Int32} (hR : Ret X (rs (some (.int r)) (putMd σ T ow ρ M)) 0 0 (some .int)) : ∀ (n : Nat) (v1_369 v2_370 : Int32), Md_countInversions_L4 ρ M n v1_369 v2_370 = some r → G X (putMd σ T ow ρ M) 0 0 4 [(0, .ref T), (1, .int v1_369), (2, .int v2_370)] [] := by
  intro n
  induction n with
  | zero =>
    intro v1_369 v2_370 hr
    rw [Md_countInversions_L4] at hr
    cases hr
  | succ n ih =>
    intro v1_369 v2_370 hr
    rw [Md_countInversions_L4] at hr
    refine g_iload_n hx 4 (i := 2) 2 dX11_countInversions_4 rfl rfl ?_
    refine g_aload_n hx 5 (i := 0) 0 dX11_countInversions_5 rfl rfl ?_
    refine g_get hx 6 (C := RX11) (T := TX11) (N := 30) 7 (.ref (T + 1 + ρ)) (pM_o σ T ow ρ M) rfl (by decide) rfl fl_X11_31 dX11_countInversions_6 ?_
    refine g_bipush hx 9 (6) dX11_countInversions_9 rfl ?_
    refine g_iald hx 11 (pM_row hρ σ T ow M) (by decide : inB 6 257) dX11_countInversions_11 ?_
    refine g_icmp_ge hx 12 55 dX11_countInversions_12 (by decide) (fun hc_372 => ?_) (fun hc_372 => ?_)
    · have hr := (if_pos hc_372).symm.trans hr
      refine g_iload_n hx 55 (i := 1) 1 dX11_countInversions_55 rfl rfl ?_
      exact g_iret hx hR 56 dX11_countInversions_56 ⟨by rw [← Option.some.inj hr] <;> rfl, rfl⟩
    · have hr := (if_neg hc_372).symm.trans hr
      refine g_iconst hx 15 (0) dX11_countInversions_15 rfl ?_
      refine g_istore_n hx 16 (i := 3) [(3, .int 0), (0, .ref T), (1, .int v1_369), (2, .int v2_370)] dX11_countInversions_16 rfl (by decide) rfl ?_
      refine g_ls [1, 2, 3, 0] [(0, .ref T), (1, .int v1_369), (2, .int v2_370), (3, .int 0)] rfl ?_
      refine w_Md_countInversions_L17 hρ hx hR _ (fun v1_385 v2_386 v3_387 hr => ?_) FU v1_369 v2_370 0 hr
      refine g_iinc hx 49 (i := 2) 2 (v2_386 + 1) [(2, .int (v2_386 + 1)), (0, .ref T), (1, .int v1_385), (3, .int v3_387)] dX11_countInversions_49 rfl rfl (by decide) rfl ?_
      refine g_goto hx 52 4 dX11_countInversions_52 (by decide) ?_
      refine g_ls [1, 2, 0] [(0, .ref T), (1, .int v1_385), (2, .int (v2_386 + 1))] rfl ?_
      exact ih v1_385 (v2_386 + 1) hr
set_option maxRecDepth 100000 in
set_option maxHeartbeats 4000000 in
theorem c_Md_countInversions {ρ : Nat} (hρ : ρ < 2) (l : Launch) (g : Gl) (σ : Hp) (T : Nat) (ow : Nat → Option Nat) (M : MdM) {r : Int32} (hr : Md_countInversions ρ M = some r) : MG l g md_Md_countInversions [.ref T] (putMd σ T ow ρ M) (rs (some (.int r)) (putMd σ T ow ρ M)) := by
  refine MG.intro (by decide +kernel) (Nat.le_of_ble_eq_true rfl) (fun X hx hR _ => ?_)
  unfold Md_countInversions at hr
  refine g_ls [0] [(0, .ref T)] rfl ?_
  refine g_iconst hx 0 (0) dX11_countInversions_0 rfl ?_
  refine g_istore_n hx 1 (i := 1) [(1, .int 0), (0, .ref T)] dX11_countInversions_1 rfl (by decide) rfl ?_
  refine g_iconst hx 2 (0) dX11_countInversions_2 rfl ?_
  refine g_istore_n hx 3 (i := 2) [(2, .int 0), (1, .int 0), (0, .ref T)] dX11_countInversions_3 rfl (by decide) rfl ?_
  refine g_ls [2, 1, 0] [(0, .ref T), (1, .int 0), (2, .int 0)] rfl ?_
  exact w_Md_countInversions_L4 hρ hx hR FU 0 0 hr
def Md_swapOn_L2 (ρ : Nat) : Nat → MdM → Int32 → Int32 → Option (Int32 × MdM)
  | 0, _, _, _ => none
  | n + 1, M, v1_388, v2_389 => if v1_388 ≤ v2_389 then (some ((v2_389, M))) else (Option.bind (Md_firstWrong ρ M) fun q_391 => if q_391 = (-1) then (some ((v2_389, M))) else (Option.bind (Md_firstWrong ρ M) fun q_393 => Option.bind (Md_folderAt ρ M q_393) fun q_394 => Option.bind (Md_folderAt ρ M (q_393 + 1)) fun q_395 => if inB (145 + q_393) 257 then (if inB ((145 + q_393) + 1) 257 then (Md_swapOn_L2 ρ n (setA M ρ (upd (upd (M.2 ρ) (145 + q_393).toNatClampNeg q_395) ((145 + q_393) + 1).toNatClampNeg q_394)) v1_388 (v2_389 + 1)) else none) else none))
def Md_swapOn (ρ : Nat) (M : MdM) (p1 : Int32) : Option (Int32 × MdM) := Md_swapOn_L2 ρ FU M p1 0
set_option maxRecDepth 100000 in
set_option maxHeartbeats 4000000 in
theorem w_Md_swapOn_L2 {ρ : Nat} (hρ : ρ < 2) {X : Cx} {l : Launch} {g : Gl} (hx : Ok X l g RX11 cX11_swapOn 5 md_Md_swapOn.rm) {σ : Hp} {T : Nat} {ow : Nat → Option Nat} {r : Int32 × MdM} (hR : Ret X (rs (some (.int r.1)) (putMd σ T ow ρ r.2)) 0 0 (some .int)) : ∀ (n : Nat) (M : MdM) (v1_388 v2_389 : Int32), Md_swapOn_L2 ρ n M v1_388 v2_389 = some r → G X (putMd σ T ow ρ M) 0 0 2 [(0, .ref T), (1, .int v1_388), (2, .int v2_389)] [] := by
  intro n
  induction n with
  | zero =>
    intro M v1_388 v2_389 hr
    rw [Md_swapOn_L2] at hr
    cases hr
  | succ n ih =>
    intro M v1_388 v2_389 hr
    rw [Md_swapOn_L2] at hr
    refine g_iload_n hx 2 (i := 2) 2 dX11_swapOn_2 rfl rfl ?_
    refine g_iload_n hx 3 (i := 1) 1 dX11_swapOn_3 rfl rfl ?_
    refine g_icmp_ge hx 4 64 dX11_swapOn_4 (by decide) (fun hc_390 => ?_) (fun hc_390 => ?_)
    · have hr := (if_pos hc_390).symm.trans hr
      refine g_iload_n hx 64 (i := 2) 2 dX11_swapOn_64 rfl rfl ?_
      exact g_iret hx hR 65 dX11_swapOn_65 ⟨by rw [← Option.some.inj hr] <;> rfl, by rw [← Option.some.inj hr] <;> rfl⟩
    · have hr := (if_neg hc_390).symm.trans hr
      refine g_aload_n hx 7 (i := 0) 0 dX11_swapOn_7 rfl rfl ?_
      obtain ⟨q_391, eq_391, hr⟩ := bind_e hr
      refine g_callVr hx (c_Md_firstWrong hρ l g σ T ow M eq_391) lk_X11_122 ar_Md_firstWrong (pM_o σ T ow ρ M) (T := TX11) (N := 30) rfl (As := []) (rest := []) rfl (Nat.le_of_ble_eq_true rfl) ⟨Nat.le_of_ble_eq_true rfl, Nat.le_of_ble_eq_true rfl⟩ ⟨rfl, rfl⟩ ⟨Nat.zero_le _, Nat.zero_le _⟩ dX11_swapOn_8 ?_
      refine g_iconst hx 11 (-1) dX11_swapOn_11 rfl ?_
      refine g_icmp_eq hx 12 64 dX11_swapOn_12 (by decide) (fun hc_392 => ?_) (fun hc_392 => ?_)
      · have hr := (if_pos hc_392).symm.trans hr
        refine g_iload_n hx 64 (i := 2) 2 dX11_swapOn_64 rfl rfl ?_
        exact g_iret hx hR 65 dX11_swapOn_65 ⟨by rw [← Option.some.inj hr] <;> rfl, by rw [← Option.some.inj hr] <;> rfl⟩
      · have hr := (if_neg hc_392).symm.trans hr
        refine g_aload_n hx 15 (i := 0) 0 dX11_swapOn_15 rfl rfl ?_
        obtain ⟨q_393, eq_393, hr⟩ := bind_e hr
        refine g_callVr hx (c_Md_firstWrong hρ l g σ T ow M eq_393) lk_X11_122 ar_Md_firstWrong (pM_o σ T ow ρ M) (T := TX11) (N := 30) rfl (As := []) (rest := []) rfl (Nat.le_of_ble_eq_true rfl) ⟨Nat.le_of_ble_eq_true rfl, Nat.le_of_ble_eq_true rfl⟩ ⟨rfl, rfl⟩ ⟨Nat.zero_le _, Nat.zero_le _⟩ dX11_swapOn_16 ?_
        refine g_istore_n hx 19 (i := 3) [(3, .int q_393), (0, .ref T), (1, .int v1_388), (2, .int v2_389)] dX11_swapOn_19 rfl (by decide) rfl ?_
        refine g_aload_n hx 20 (i := 0) 1 dX11_swapOn_20 rfl rfl ?_
        refine g_iload_n hx 21 (i := 3) 0 dX11_swapOn_21 rfl rfl ?_
        obtain ⟨q_394, eq_394, hr⟩ := bind_e hr
        refine g_callVr hx (c_Md_folderAt hρ l g σ T ow M q_393 eq_394) lk_X11_99 ar_Md_folderAt (pM_o σ T ow ρ M) (T := TX11) (N := 30) rfl (As := [.int q_393]) (rest := []) rfl (Nat.le_of_ble_eq_true rfl) ⟨Nat.le_of_ble_eq_true rfl, Nat.le_of_ble_eq_true rfl⟩ ⟨rfl, rfl⟩ ⟨Nat.zero_le _, Nat.zero_le _⟩ dX11_swapOn_22 ?_
        refine g_istore hx 25 (i := 4) [(4, .int q_394), (3, .int q_393), (0, .ref T), (1, .int v1_388), (2, .int v2_389)] dX11_swapOn_25 (by decide) rfl ?_
        refine g_aload_n hx 27 (i := 0) 2 dX11_swapOn_27 rfl rfl ?_
        refine g_get hx 28 (C := RX11) (T := TX11) (N := 30) 7 (.ref (T + 1 + ρ)) (pM_o σ T ow ρ M) rfl (by decide) rfl fl_X11_31 dX11_swapOn_28 ?_
        refine g_sipush hx 31 (145) dX11_swapOn_31 rfl ?_
        refine g_iload_n hx 34 (i := 3) 1 dX11_swapOn_34 rfl rfl ?_
        refine g_iadd hx 35 dX11_swapOn_35 ?_
        refine g_aload_n hx 36 (i := 0) 2 dX11_swapOn_36 rfl rfl ?_
        refine g_iload_n hx 37 (i := 3) 1 dX11_swapOn_37 rfl rfl ?_
        refine g_iconst hx 38 (1) dX11_swapOn_38 rfl ?_
        refine g_iadd hx 39 dX11_swapOn_39 ?_
        obtain ⟨q_395, eq_395, hr⟩ := bind_e hr
        refine g_callVr hx (c_Md_folderAt hρ l g σ T ow M (q_393 + 1) eq_395) lk_X11_99 ar_Md_folderAt (pM_o σ T ow ρ M) (T := TX11) (N := 30) rfl (As := [.int (q_393 + 1)]) (rest := [.int (145 + q_393), .ref (T + 1 + ρ)]) rfl (Nat.le_of_ble_eq_true rfl) ⟨Nat.le_of_ble_eq_true rfl, Nat.le_of_ble_eq_true rfl⟩ ⟨rfl, rfl⟩ ⟨Nat.zero_le _, Nat.zero_le _⟩ dX11_swapOn_40 ?_
        obtain ⟨hb_396, hr⟩ := ob hr
        refine g_iast hx 43 (pM_row hρ σ T ow M) hb_396 dX11_swapOn_43 ?_
        refine G.heap (pM_rs hρ σ T ow M (upd (M.2 ρ) (145 + q_393).toNatClampNeg q_395)) ?_
        refine g_aload_n hx 44 (i := 0) 2 dX11_swapOn_44 rfl rfl ?_
        refine g_get hx 45 (C := RX11) (T := TX11) (N := 30) 7 (.ref (T + 1 + ρ)) (pM_o σ T ow ρ (setA M ρ (upd (M.2 ρ) (145 + q_393).toNatClampNeg q_395))) rfl (by decide) rfl fl_X11_31 dX11_swapOn_45 ?_
        refine g_sipush hx 48 (145) dX11_swapOn_48 rfl ?_
        refine g_iload_n hx 51 (i := 3) 1 dX11_swapOn_51 rfl rfl ?_
        refine g_iadd hx 52 dX11_swapOn_52 ?_
        refine g_iconst hx 53 (1) dX11_swapOn_53 rfl ?_
        refine g_iadd hx 54 dX11_swapOn_54 ?_
        refine g_iload hx 55 (i := 4) 0 dX11_swapOn_55 rfl ?_
        obtain ⟨hb_397, hr⟩ := ob hr
        refine g_iast hx 57 (pM_row' hρ σ T ow (setA M ρ (upd (M.2 ρ) (145 + q_393).toNatClampNeg q_395)) (upd (M.2 ρ) (145 + q_393).toNatClampNeg q_395) (setA_s M ρ _)) hb_397 dX11_swapOn_57 ?_
        refine G.heap (pM_rs hρ σ T ow (setA M ρ (upd (M.2 ρ) (145 + q_393).toNatClampNeg q_395)) (upd (upd (M.2 ρ) (145 + q_393).toNatClampNeg q_395) ((145 + q_393) + 1).toNatClampNeg q_394)) ?_
        refine G.heap (congrArg (putMd σ T ow ρ) (setA_A M ρ _ _)) ?_
        refine g_iinc hx 58 (i := 2) 4 (v2_389 + 1) [(2, .int (v2_389 + 1)), (4, .int q_394), (3, .int q_393), (0, .ref T), (1, .int v1_388)] dX11_swapOn_58 rfl rfl (by decide) rfl ?_
        refine g_goto hx 61 2 dX11_swapOn_61 (by decide) ?_
        refine g_ls [3, 4, 0] [(0, .ref T), (1, .int v1_388), (2, .int (v2_389 + 1))] rfl ?_
        exact ih (setA M ρ (upd (upd (M.2 ρ) (145 + q_393).toNatClampNeg q_395) ((145 + q_393) + 1).toNatClampNeg q_394)) v1_388 (v2_389 + 1) hr
set_option maxRecDepth 100000 in
set_option maxHeartbeats 4000000 in
theorem c_Md_swapOn {ρ : Nat} (hρ : ρ < 2) (l : Launch) (g : Gl) (σ : Hp) (T : Nat) (ow : Nat → Option Nat) (M : MdM) (p1 : Int32) {r : Int32 × MdM} (hr : Md_swapOn ρ M p1 = some r) : MG l g md_Md_swapOn [.ref T, .int p1] (putMd σ T ow ρ M) (rs (some (.int r.1)) (putMd σ T ow ρ r.2)) := by
  refine MG.intro (by decide +kernel) (Nat.le_of_ble_eq_true rfl) (fun X hx hR _ => ?_)
  unfold Md_swapOn at hr
  refine g_ls [0, 1] [(0, .ref T), (1, .int p1)] rfl ?_
  refine g_iconst hx 0 (0) dX11_swapOn_0 rfl ?_
  refine g_istore_n hx 1 (i := 2) [(2, .int 0), (0, .ref T), (1, .int p1)] dX11_swapOn_1 rfl (by decide) rfl ?_
  refine g_ls [1, 2, 0] [(0, .ref T), (1, .int p1), (2, .int 0)] rfl ?_
  exact w_Md_swapOn_L2 hρ hx hR FU M p1 0 hr
def Md_foldersOf_L4 (ρ : Nat) (M : MdM) : Nat → Int32 → Int32 → Int32 → Option (Int32)
  | 0, _, _, _ => none
  | n + 1, v1_398, v2_399, v3_400 => if (M.2 ρ) (5 : Int32).toNatClampNeg ≤ v3_400 then (some (v2_399)) else (Option.bind (Md_isIn ρ M v3_400 1) fun q_403 => if q_403 = 0 then (lt' (v2_399 + 0) fun v2_405 => Md_foldersOf_L4 ρ M n v1_398 v2_405 (v3_400 + 1)) else (Option.bind (Md_of ρ M v3_400 3) fun q_406 => if q_406 = v1_398 then (lt' (v2_399 + 1) fun v2_408 => Md_foldersOf_L4 ρ M n v1_398 v2_408 (v3_400 + 1)) else (lt' (v2_399 + 0) fun v2_409 => Md_foldersOf_L4 ρ M n v1_398 v2_409 (v3_400 + 1))))
def Md_foldersOf (ρ : Nat) (M : MdM) (p1 : Int32) : Option (Int32) := Md_foldersOf_L4 ρ M FU p1 0 0
set_option maxRecDepth 100000 in
set_option maxHeartbeats 4000000 in
theorem w_Md_foldersOf_L4 {ρ : Nat} (hρ : ρ < 2) {X : Cx} {l : Launch} {g : Gl} (hx : Ok X l g RX11 cX11_foldersOf 4 md_Md_foldersOf.rm) {σ : Hp} {T : Nat} {ow : Nat → Option Nat} {M : MdM} {r : Int32} (hR : Ret X (rs (some (.int r)) (putMd σ T ow ρ M)) 0 0 (some .int)) : ∀ (n : Nat) (v1_398 v2_399 v3_400 : Int32), Md_foldersOf_L4 ρ M n v1_398 v2_399 v3_400 = some r → G X (putMd σ T ow ρ M) 0 0 4 [(0, .ref T), (1, .int v1_398), (2, .int v2_399), (3, .int v3_400)] [] := by
  intro n
  induction n with
  | zero =>
    intro v1_398 v2_399 v3_400 hr
    rw [Md_foldersOf_L4] at hr
    cases hr
  | succ n ih =>
    intro v1_398 v2_399 v3_400 hr
    rw [Md_foldersOf_L4] at hr
    refine g_iload_n hx 4 (i := 3) 3 dX11_foldersOf_4 rfl rfl ?_
    refine g_aload_n hx 5 (i := 0) 0 dX11_foldersOf_5 rfl rfl ?_
    refine g_get hx 6 (C := RX11) (T := TX11) (N := 30) 7 (.ref (T + 1 + ρ)) (pM_o σ T ow ρ M) rfl (by decide) rfl fl_X11_31 dX11_foldersOf_6 ?_
    refine g_iconst hx 9 (5) dX11_foldersOf_9 rfl ?_
    refine g_iald hx 10 (pM_row hρ σ T ow M) (by decide : inB 5 257) dX11_foldersOf_10 ?_
    refine g_icmp_ge hx 11 47 dX11_foldersOf_11 (by decide) (fun hc_402 => ?_) (fun hc_402 => ?_)
    · have hr := (if_pos hc_402).symm.trans hr
      refine g_iload_n hx 47 (i := 2) 2 dX11_foldersOf_47 rfl rfl ?_
      exact g_iret hx hR 48 dX11_foldersOf_48 ⟨by rw [← Option.some.inj hr] <;> rfl, rfl⟩
    · have hr := (if_neg hc_402).symm.trans hr
      refine g_iload_n hx 14 (i := 2) 2 dX11_foldersOf_14 rfl rfl ?_
      refine g_aload_n hx 15 (i := 0) 0 dX11_foldersOf_15 rfl rfl ?_
      refine g_iload_n hx 16 (i := 3) 3 dX11_foldersOf_16 rfl rfl ?_
      refine g_iconst hx 17 (1) dX11_foldersOf_17 rfl ?_
      obtain ⟨q_403, eq_403, hr⟩ := bind_e hr
      refine g_callVr hx (c_Md_isIn hρ l g σ T ow M v3_400 1 eq_403) lk_X11_126 ar_Md_isIn (pM_o σ T ow ρ M) (T := TX11) (N := 30) rfl (As := [.int v3_400, .int 1]) (rest := [.int v2_399]) rfl (Nat.le_of_ble_eq_true rfl) ⟨Nat.le_of_ble_eq_true rfl, Nat.le_of_ble_eq_true rfl⟩ ⟨rfl, rfl⟩ ⟨Nat.zero_le _, Nat.zero_le _⟩ dX11_foldersOf_18 ?_
      refine g_if_eq hx 21 38 dX11_foldersOf_21 (by decide) (fun hc_404 => ?_) (fun hc_404 => ?_)
      · have hr := (if_pos hc_404).symm.trans hr
        refine g_iconst hx 38 (0) dX11_foldersOf_38 rfl ?_
        refine g_iadd hx 39 dX11_foldersOf_39 ?_
        obtain ⟨v2_405, ev2_405, hr⟩ := lt'_e hr
        refine g_nmi ev2_405 ?_
        refine g_istore_n hx 40 (i := 2) [(2, .int v2_405), (0, .ref T), (1, .int v1_398), (3, .int v3_400)] dX11_foldersOf_40 rfl (by decide) rfl ?_
        refine g_iinc hx 41 (i := 3) 3 (v3_400 + 1) [(3, .int (v3_400 + 1)), (2, .int v2_405), (0, .ref T), (1, .int v1_398)] dX11_foldersOf_41 rfl rfl (by decide) rfl ?_
        refine g_goto hx 44 4 dX11_foldersOf_44 (by decide) ?_
        refine g_ls [2, 3, 1, 0] [(0, .ref T), (1, .int v1_398), (2, .int v2_405), (3, .int (v3_400 + 1))] rfl ?_
        exact ih v1_398 v2_405 (v3_400 + 1) hr
      · have hr := (if_neg hc_404).symm.trans hr
        refine g_aload_n hx 24 (i := 0) 0 dX11_foldersOf_24 rfl rfl ?_
        refine g_iload_n hx 25 (i := 3) 3 dX11_foldersOf_25 rfl rfl ?_
        refine g_iconst hx 26 (3) dX11_foldersOf_26 rfl ?_
        obtain ⟨q_406, eq_406, hr⟩ := bind_e hr
        refine g_callVr hx (c_Md_of hρ l g σ T ow M v3_400 3 eq_406) lk_X11_95 ar_Md_of (pM_o σ T ow ρ M) (T := TX11) (N := 30) rfl (As := [.int v3_400, .int 3]) (rest := [.int v2_399]) rfl (Nat.le_of_ble_eq_true rfl) ⟨Nat.le_of_ble_eq_true rfl, Nat.le_of_ble_eq_true rfl⟩ ⟨rfl, rfl⟩ ⟨Nat.zero_le _, Nat.zero_le _⟩ dX11_foldersOf_27 ?_
        refine g_iload_n hx 30 (i := 1) 1 dX11_foldersOf_30 rfl rfl ?_
        refine g_icmp_ne hx 31 38 dX11_foldersOf_31 (by decide) (fun hc_407 => ?_) (fun hc_407 => ?_)
        · have hr := (if_neg hc_407).symm.trans hr
          refine g_iconst hx 38 (0) dX11_foldersOf_38 rfl ?_
          refine g_iadd hx 39 dX11_foldersOf_39 ?_
          obtain ⟨v2_409, ev2_409, hr⟩ := lt'_e hr
          refine g_nmi ev2_409 ?_
          refine g_istore_n hx 40 (i := 2) [(2, .int v2_409), (0, .ref T), (1, .int v1_398), (3, .int v3_400)] dX11_foldersOf_40 rfl (by decide) rfl ?_
          refine g_iinc hx 41 (i := 3) 3 (v3_400 + 1) [(3, .int (v3_400 + 1)), (2, .int v2_409), (0, .ref T), (1, .int v1_398)] dX11_foldersOf_41 rfl rfl (by decide) rfl ?_
          refine g_goto hx 44 4 dX11_foldersOf_44 (by decide) ?_
          refine g_ls [2, 3, 1, 0] [(0, .ref T), (1, .int v1_398), (2, .int v2_409), (3, .int (v3_400 + 1))] rfl ?_
          exact ih v1_398 v2_409 (v3_400 + 1) hr
        · have hr := (if_pos hc_407).symm.trans hr
          refine g_iconst hx 34 (1) dX11_foldersOf_34 rfl ?_
          refine g_goto hx 35 39 dX11_foldersOf_35 (by decide) ?_
          refine g_iadd hx 39 dX11_foldersOf_39 ?_
          obtain ⟨v2_408, ev2_408, hr⟩ := lt'_e hr
          refine g_nmi ev2_408 ?_
          refine g_istore_n hx 40 (i := 2) [(2, .int v2_408), (0, .ref T), (1, .int v1_398), (3, .int v3_400)] dX11_foldersOf_40 rfl (by decide) rfl ?_
          refine g_iinc hx 41 (i := 3) 3 (v3_400 + 1) [(3, .int (v3_400 + 1)), (2, .int v2_408), (0, .ref T), (1, .int v1_398)] dX11_foldersOf_41 rfl rfl (by decide) rfl ?_
          refine g_goto hx 44 4 dX11_foldersOf_44 (by decide) ?_
          refine g_ls [2, 3, 1, 0] [(0, .ref T), (1, .int v1_398), (2, .int v2_408), (3, .int (v3_400 + 1))] rfl ?_
          exact ih v1_398 v2_408 (v3_400 + 1) hr
set_option maxRecDepth 100000 in
set_option maxHeartbeats 4000000 in
theorem c_Md_foldersOf {ρ : Nat} (hρ : ρ < 2) (l : Launch) (g : Gl) (σ : Hp) (T : Nat) (ow : Nat → Option Nat) (M : MdM) (p1 : Int32) {r : Int32} (hr : Md_foldersOf ρ M p1 = some r) : MG l g md_Md_foldersOf [.ref T, .int p1] (putMd σ T ow ρ M) (rs (some (.int r)) (putMd σ T ow ρ M)) := by
  refine MG.intro (by decide +kernel) (Nat.le_of_ble_eq_true rfl) (fun X hx hR _ => ?_)
  unfold Md_foldersOf at hr
  refine g_ls [0, 1] [(0, .ref T), (1, .int p1)] rfl ?_
  refine g_iconst hx 0 (0) dX11_foldersOf_0 rfl ?_
  refine g_istore_n hx 1 (i := 2) [(2, .int 0), (0, .ref T), (1, .int p1)] dX11_foldersOf_1 rfl (by decide) rfl ?_
  refine g_iconst hx 2 (0) dX11_foldersOf_2 rfl ?_
  refine g_istore_n hx 3 (i := 3) [(3, .int 0), (2, .int 0), (0, .ref T), (1, .int p1)] dX11_foldersOf_3 rfl (by decide) rfl ?_
  refine g_ls [2, 3, 1, 0] [(0, .ref T), (1, .int p1), (2, .int 0), (3, .int 0)] rfl ?_
  exact w_Md_foldersOf_L4 hρ hx hR FU p1 0 0 hr
def Md_isClosed (ρ : Nat) (M : MdM) (p1 : Int32) : Option (Int32) := Option.bind (Md_of ρ M p1 1) fun q_411 => if q_411 ≤ (M.2 ρ) (0 : Int32).toNatClampNeg then (some (0)) else (some (1))
set_option maxRecDepth 100000 in
set_option maxHeartbeats 4000000 in
theorem c_Md_isClosed {ρ : Nat} (hρ : ρ < 2) (l : Launch) (g : Gl) (σ : Hp) (T : Nat) (ow : Nat → Option Nat) (M : MdM) (p1 : Int32) {r : Int32} (hr : Md_isClosed ρ M p1 = some r) : MG l g md_Md_isClosed [.ref T, .int p1] (putMd σ T ow ρ M) (rs (some (.int r)) (putMd σ T ow ρ M)) := by
  refine MG.intro (by decide +kernel) (Nat.le_of_ble_eq_true rfl) (fun X hx hR _ => ?_)
  unfold Md_isClosed at hr
  refine g_ls [0, 1] [(0, .ref T), (1, .int p1)] rfl ?_
  refine g_aload_n hx 0 (i := 0) 0 dX11_isClosed_0 rfl rfl ?_
  refine g_get hx 1 (C := RX11) (T := TX11) (N := 30) 7 (.ref (T + 1 + ρ)) (pM_o σ T ow ρ M) rfl (by decide) rfl fl_X11_31 dX11_isClosed_1 ?_
  refine g_iconst hx 4 (0) dX11_isClosed_4 rfl ?_
  refine g_iald hx 5 (pM_row hρ σ T ow M) (by decide : inB 0 257) dX11_isClosed_5 ?_
  refine g_aload_n hx 6 (i := 0) 0 dX11_isClosed_6 rfl rfl ?_
  refine g_iload_n hx 7 (i := 1) 1 dX11_isClosed_7 rfl rfl ?_
  refine g_iconst hx 8 (1) dX11_isClosed_8 rfl ?_
  obtain ⟨q_411, eq_411, hr⟩ := bind_e hr
  refine g_callVr hx (c_Md_of hρ l g σ T ow M p1 1 eq_411) lk_X11_95 ar_Md_of (pM_o σ T ow ρ M) (T := TX11) (N := 30) rfl (As := [.int p1, .int 1]) (rest := [.int ((M.2 ρ) (0 : Int32).toNatClampNeg)]) rfl (Nat.le_of_ble_eq_true rfl) ⟨Nat.le_of_ble_eq_true rfl, Nat.le_of_ble_eq_true rfl⟩ ⟨rfl, rfl⟩ ⟨Nat.zero_le _, Nat.zero_le _⟩ dX11_isClosed_9 ?_
  refine g_icmp_ge hx 12 19 dX11_isClosed_12 (by decide) (fun hc_412 => ?_) (fun hc_412 => ?_)
  · have hr := (if_pos hc_412).symm.trans hr
    refine g_iconst hx 19 (0) dX11_isClosed_19 rfl ?_
    exact g_zret hx hR 20 (Or.inl rfl) dX11_isClosed_20 ⟨by rw [← Option.some.inj hr] <;> rfl, rfl⟩
  · have hr := (if_neg hc_412).symm.trans hr
    refine g_iconst hx 15 (1) dX11_isClosed_15 rfl ?_
    refine g_goto hx 16 20 dX11_isClosed_16 (by decide) ?_
    exact g_zret hx hR 20 (Or.inr rfl) dX11_isClosed_20 ⟨by rw [← Option.some.inj hr] <;> rfl, rfl⟩
def Md_slipOf_L2 (ρ : Nat) (M : MdM) : Nat → Int32 → Int32 → Int32 → Option (Int32)
  | 0, _, _, _ => none
  | n + 1, v1_413, v2_414, v3_415 => if (M.2 ρ) (8 : Int32).toNatClampNeg ≤ v3_415 then (some ((-1))) else (Option.bind (Md_ofSlip ρ M v3_415 0) fun q_418 => if q_418 = v1_413 then (Option.bind (Md_ofSlip ρ M v3_415 1) fun q_420 => if q_420 = v2_414 then (some (v3_415)) else (Md_slipOf_L2 ρ M n v1_413 v2_414 (v3_415 + 1))) else (Md_slipOf_L2 ρ M n v1_413 v2_414 (v3_415 + 1)))
def Md_slipOf (ρ : Nat) (M : MdM) (p1 p2 : Int32) : Option (Int32) := Md_slipOf_L2 ρ M FU p1 p2 0
set_option maxRecDepth 100000 in
set_option maxHeartbeats 4000000 in
theorem w_Md_slipOf_L2 {ρ : Nat} (hρ : ρ < 2) {X : Cx} {l : Launch} {g : Gl} (hx : Ok X l g RX11 cX11_slipOf 4 md_Md_slipOf.rm) {σ : Hp} {T : Nat} {ow : Nat → Option Nat} {M : MdM} {r : Int32} (hR : Ret X (rs (some (.int r)) (putMd σ T ow ρ M)) 0 0 (some .int)) : ∀ (n : Nat) (v1_413 v2_414 v3_415 : Int32), Md_slipOf_L2 ρ M n v1_413 v2_414 v3_415 = some r → G X (putMd σ T ow ρ M) 0 0 2 [(0, .ref T), (1, .int v1_413), (2, .int v2_414), (3, .int v3_415)] [] := by
  intro n
  induction n with
  | zero =>
    intro v1_413 v2_414 v3_415 hr
    rw [Md_slipOf_L2] at hr
    cases hr
  | succ n ih =>
    intro v1_413 v2_414 v3_415 hr
    rw [Md_slipOf_L2] at hr
    refine g_iload_n hx 2 (i := 3) 3 dX11_slipOf_2 rfl rfl ?_
    refine g_aload_n hx 3 (i := 0) 0 dX11_slipOf_3 rfl rfl ?_
    refine g_get hx 4 (C := RX11) (T := TX11) (N := 30) 7 (.ref (T + 1 + ρ)) (pM_o σ T ow ρ M) rfl (by decide) rfl fl_X11_31 dX11_slipOf_4 ?_
    refine g_bipush hx 7 (8) dX11_slipOf_7 rfl ?_
    refine g_iald hx 9 (pM_row hρ σ T ow M) (by decide : inB 8 257) dX11_slipOf_9 ?_
    refine g_icmp_ge hx 10 41 dX11_slipOf_10 (by decide) (fun hc_417 => ?_) (fun hc_417 => ?_)
    · have hr := (if_pos hc_417).symm.trans hr
      refine g_iconst hx 41 (-1) dX11_slipOf_41 rfl ?_
      exact g_iret hx hR 42 dX11_slipOf_42 ⟨by rw [← Option.some.inj hr] <;> rfl, rfl⟩
    · have hr := (if_neg hc_417).symm.trans hr
      refine g_aload_n hx 13 (i := 0) 0 dX11_slipOf_13 rfl rfl ?_
      refine g_iload_n hx 14 (i := 3) 3 dX11_slipOf_14 rfl rfl ?_
      refine g_iconst hx 15 (0) dX11_slipOf_15 rfl ?_
      obtain ⟨q_418, eq_418, hr⟩ := bind_e hr
      refine g_callVr hx (c_Md_ofSlip hρ l g σ T ow M v3_415 0 eq_418) lk_X11_130 ar_Md_ofSlip (pM_o σ T ow ρ M) (T := TX11) (N := 30) rfl (As := [.int v3_415, .int 0]) (rest := []) rfl (Nat.le_of_ble_eq_true rfl) ⟨Nat.le_of_ble_eq_true rfl, Nat.le_of_ble_eq_true rfl⟩ ⟨rfl, rfl⟩ ⟨Nat.zero_le _, Nat.zero_le _⟩ dX11_slipOf_16 ?_
      refine g_iload_n hx 19 (i := 1) 1 dX11_slipOf_19 rfl rfl ?_
      refine g_icmp_ne hx 20 35 dX11_slipOf_20 (by decide) (fun hc_419 => ?_) (fun hc_419 => ?_)
      · have hr := (if_neg hc_419).symm.trans hr
        refine g_iinc hx 35 (i := 3) 3 (v3_415 + 1) [(3, .int (v3_415 + 1)), (0, .ref T), (1, .int v1_413), (2, .int v2_414)] dX11_slipOf_35 rfl rfl (by decide) rfl ?_
        refine g_goto hx 38 2 dX11_slipOf_38 (by decide) ?_
        refine g_ls [1, 2, 3, 0] [(0, .ref T), (1, .int v1_413), (2, .int v2_414), (3, .int (v3_415 + 1))] rfl ?_
        exact ih v1_413 v2_414 (v3_415 + 1) hr
      · have hr := (if_pos hc_419).symm.trans hr
        refine g_aload_n hx 23 (i := 0) 0 dX11_slipOf_23 rfl rfl ?_
        refine g_iload_n hx 24 (i := 3) 3 dX11_slipOf_24 rfl rfl ?_
        refine g_iconst hx 25 (1) dX11_slipOf_25 rfl ?_
        obtain ⟨q_420, eq_420, hr⟩ := bind_e hr
        refine g_callVr hx (c_Md_ofSlip hρ l g σ T ow M v3_415 1 eq_420) lk_X11_130 ar_Md_ofSlip (pM_o σ T ow ρ M) (T := TX11) (N := 30) rfl (As := [.int v3_415, .int 1]) (rest := []) rfl (Nat.le_of_ble_eq_true rfl) ⟨Nat.le_of_ble_eq_true rfl, Nat.le_of_ble_eq_true rfl⟩ ⟨rfl, rfl⟩ ⟨Nat.zero_le _, Nat.zero_le _⟩ dX11_slipOf_26 ?_
        refine g_iload_n hx 29 (i := 2) 2 dX11_slipOf_29 rfl rfl ?_
        refine g_icmp_ne hx 30 35 dX11_slipOf_30 (by decide) (fun hc_421 => ?_) (fun hc_421 => ?_)
        · have hr := (if_neg hc_421).symm.trans hr
          refine g_iinc hx 35 (i := 3) 3 (v3_415 + 1) [(3, .int (v3_415 + 1)), (0, .ref T), (1, .int v1_413), (2, .int v2_414)] dX11_slipOf_35 rfl rfl (by decide) rfl ?_
          refine g_goto hx 38 2 dX11_slipOf_38 (by decide) ?_
          refine g_ls [1, 2, 3, 0] [(0, .ref T), (1, .int v1_413), (2, .int v2_414), (3, .int (v3_415 + 1))] rfl ?_
          exact ih v1_413 v2_414 (v3_415 + 1) hr
        · have hr := (if_pos hc_421).symm.trans hr
          refine g_iload_n hx 33 (i := 3) 3 dX11_slipOf_33 rfl rfl ?_
          exact g_iret hx hR 34 dX11_slipOf_34 ⟨by rw [← Option.some.inj hr] <;> rfl, rfl⟩
set_option maxRecDepth 100000 in
set_option maxHeartbeats 4000000 in
theorem c_Md_slipOf {ρ : Nat} (hρ : ρ < 2) (l : Launch) (g : Gl) (σ : Hp) (T : Nat) (ow : Nat → Option Nat) (M : MdM) (p1 p2 : Int32) {r : Int32} (hr : Md_slipOf ρ M p1 p2 = some r) : MG l g md_Md_slipOf [.ref T, .int p1, .int p2] (putMd σ T ow ρ M) (rs (some (.int r)) (putMd σ T ow ρ M)) := by
  refine MG.intro (by decide +kernel) (Nat.le_of_ble_eq_true rfl) (fun X hx hR _ => ?_)
  unfold Md_slipOf at hr
  refine g_ls [0, 1, 2] [(0, .ref T), (1, .int p1), (2, .int p2)] rfl ?_
  refine g_iconst hx 0 (0) dX11_slipOf_0 rfl ?_
  refine g_istore_n hx 1 (i := 3) [(3, .int 0), (0, .ref T), (1, .int p1), (2, .int p2)] dX11_slipOf_1 rfl (by decide) rfl ?_
  refine g_ls [1, 2, 3, 0] [(0, .ref T), (1, .int p1), (2, .int p2), (3, .int 0)] rfl ?_
  exact w_Md_slipOf_L2 hρ hx hR FU p1 p2 0 hr
def Md_isSlip (ρ : Nat) (M : MdM) (p1 : Int32) : Option (Int32) := some (Md_inRange p1 0 (((M.2 ρ) (8 : Int32).toNatClampNeg) - 1))
set_option maxRecDepth 100000 in
set_option maxHeartbeats 4000000 in
theorem c_Md_isSlip {ρ : Nat} (hρ : ρ < 2) (l : Launch) (g : Gl) (σ : Hp) (T : Nat) (ow : Nat → Option Nat) (M : MdM) (p1 : Int32) {r : Int32} (hr : Md_isSlip ρ M p1 = some r) : MG l g md_Md_isSlip [.ref T, .int p1] (putMd σ T ow ρ M) (rs (some (.int r)) (putMd σ T ow ρ M)) := by
  refine MG.intro (by decide +kernel) (Nat.le_of_ble_eq_true rfl) (fun X hx hR _ => ?_)
  unfold Md_isSlip at hr
  refine g_ls [0, 1] [(0, .ref T), (1, .int p1)] rfl ?_
  refine g_iload_n hx 0 (i := 1) 1 dX11_isSlip_0 rfl rfl ?_
  refine g_iconst hx 1 (0) dX11_isSlip_1 rfl ?_
  refine g_aload_n hx 2 (i := 0) 0 dX11_isSlip_2 rfl rfl ?_
  refine g_get hx 3 (C := RX11) (T := TX11) (N := 30) 7 (.ref (T + 1 + ρ)) (pM_o σ T ow ρ M) rfl (by decide) rfl fl_X11_31 dX11_isSlip_3 ?_
  refine g_bipush hx 6 (8) dX11_isSlip_6 rfl ?_
  refine g_iald hx 8 (pM_row hρ σ T ow M) (by decide : inB 8 257) dX11_isSlip_8 ?_
  refine g_iconst hx 9 (1) dX11_isSlip_9 rfl ?_
  refine g_isub hx 10 dX11_isSlip_10 ?_
  refine g_callSr hx (c_Md_inRange l g _ p1 0 (((M.2 ρ) (8 : Int32).toNatClampNeg) - 1) rfl) lk_X11_91 ar_Md_inRange (As := [.int p1, .int 0, .int (((M.2 ρ) (8 : Int32).toNatClampNeg) - 1)]) (rest := []) rfl (Nat.le_of_ble_eq_true rfl) ⟨Nat.le_of_ble_eq_true rfl, Nat.le_of_ble_eq_true rfl⟩ ⟨rfl, rfl⟩ ⟨Nat.zero_le _, Nat.zero_le _⟩ dX11_isSlip_11 ?_
  exact g_zret hx hR 14 (bo_Md_inRange ..) dX11_isSlip_14 ⟨by rw [← Option.some.inj hr] <;> rfl, rfl⟩
def Md_addSlip (ρ : Nat) (M : MdM) (p1 p2 : Int32) : Option (MdM) := lt' (193 + (4 * ((M.2 ρ) (8 : Int32).toNatClampNeg))) fun v3_424 => if inB (v3_424 + 0) 257 then (if inB (v3_424 + 1) 257 then (if inB (v3_424 + 2) 257 then (if inB (v3_424 + 3) 257 then (some (setA M ρ (upd (upd (upd (upd (upd (M.2 ρ) (v3_424 + 0).toNatClampNeg p1) (v3_424 + 1).toNatClampNeg p2) (v3_424 + 2).toNatClampNeg ((upd (upd (M.2 ρ) (v3_424 + 0).toNatClampNeg p1) (v3_424 + 1).toNatClampNeg p2) (0 : Int32).toNatClampNeg)) (v3_424 + 3).toNatClampNeg 0) (8 : Int32).toNatClampNeg (((upd (upd (upd (upd (M.2 ρ) (v3_424 + 0).toNatClampNeg p1) (v3_424 + 1).toNatClampNeg p2) (v3_424 + 2).toNatClampNeg ((upd (upd (M.2 ρ) (v3_424 + 0).toNatClampNeg p1) (v3_424 + 1).toNatClampNeg p2) (0 : Int32).toNatClampNeg)) (v3_424 + 3).toNatClampNeg 0) (8 : Int32).toNatClampNeg) + 1)))) else none) else none) else none) else none
set_option maxRecDepth 100000 in
set_option maxHeartbeats 4000000 in
theorem c_Md_addSlip {ρ : Nat} (hρ : ρ < 2) (l : Launch) (g : Gl) (σ : Hp) (T : Nat) (ow : Nat → Option Nat) (M : MdM) (p1 p2 : Int32) {r : MdM} (hr : Md_addSlip ρ M p1 p2 = some r) : MG l g md_Md_addSlip [.ref T, .int p1, .int p2] (putMd σ T ow ρ M) (rs none (putMd σ T ow ρ r)) := by
  refine MG.intro (by decide +kernel) (Nat.le_of_ble_eq_true rfl) (fun X hx hR _ => ?_)
  unfold Md_addSlip at hr
  refine g_ls [0, 1, 2] [(0, .ref T), (1, .int p1), (2, .int p2)] rfl ?_
  refine g_sipush hx 0 (193) dX11_addSlip_0 rfl ?_
  refine g_iconst hx 3 (4) dX11_addSlip_3 rfl ?_
  refine g_aload_n hx 4 (i := 0) 0 dX11_addSlip_4 rfl rfl ?_
  refine g_get hx 5 (C := RX11) (T := TX11) (N := 30) 7 (.ref (T + 1 + ρ)) (pM_o σ T ow ρ M) rfl (by decide) rfl fl_X11_31 dX11_addSlip_5 ?_
  refine g_bipush hx 8 (8) dX11_addSlip_8 rfl ?_
  refine g_iald hx 10 (pM_row hρ σ T ow M) (by decide : inB 8 257) dX11_addSlip_10 ?_
  refine g_imul hx 11 dX11_addSlip_11 ?_
  refine g_iadd hx 12 dX11_addSlip_12 ?_
  obtain ⟨v3_424, ev3_424, hr⟩ := lt'_e hr
  refine g_nmi ev3_424 ?_
  refine g_istore_n hx 13 (i := 3) [(3, .int v3_424), (0, .ref T), (1, .int p1), (2, .int p2)] dX11_addSlip_13 rfl (by decide) rfl ?_
  refine g_aload_n hx 14 (i := 0) 1 dX11_addSlip_14 rfl rfl ?_
  refine g_get hx 15 (C := RX11) (T := TX11) (N := 30) 7 (.ref (T + 1 + ρ)) (pM_o σ T ow ρ M) rfl (by decide) rfl fl_X11_31 dX11_addSlip_15 ?_
  refine g_iload_n hx 18 (i := 3) 0 dX11_addSlip_18 rfl rfl ?_
  refine g_iconst hx 19 (0) dX11_addSlip_19 rfl ?_
  refine g_iadd hx 20 dX11_addSlip_20 ?_
  refine g_iload_n hx 21 (i := 1) 2 dX11_addSlip_21 rfl rfl ?_
  obtain ⟨hb_425, hr⟩ := ob hr
  refine g_iast hx 22 (pM_row hρ σ T ow M) hb_425 dX11_addSlip_22 ?_
  refine G.heap (pM_rs hρ σ T ow M (upd (M.2 ρ) (v3_424 + 0).toNatClampNeg p1)) ?_
  refine g_aload_n hx 23 (i := 0) 1 dX11_addSlip_23 rfl rfl ?_
  refine g_get hx 24 (C := RX11) (T := TX11) (N := 30) 7 (.ref (T + 1 + ρ)) (pM_o σ T ow ρ (setA M ρ (upd (M.2 ρ) (v3_424 + 0).toNatClampNeg p1))) rfl (by decide) rfl fl_X11_31 dX11_addSlip_24 ?_
  refine g_iload_n hx 27 (i := 3) 0 dX11_addSlip_27 rfl rfl ?_
  refine g_iconst hx 28 (1) dX11_addSlip_28 rfl ?_
  refine g_iadd hx 29 dX11_addSlip_29 ?_
  refine g_iload_n hx 30 (i := 2) 3 dX11_addSlip_30 rfl rfl ?_
  obtain ⟨hb_426, hr⟩ := ob hr
  refine g_iast hx 31 (pM_row' hρ σ T ow (setA M ρ (upd (M.2 ρ) (v3_424 + 0).toNatClampNeg p1)) (upd (M.2 ρ) (v3_424 + 0).toNatClampNeg p1) (setA_s M ρ _)) hb_426 dX11_addSlip_31 ?_
  refine G.heap (pM_rs hρ σ T ow (setA M ρ (upd (M.2 ρ) (v3_424 + 0).toNatClampNeg p1)) (upd (upd (M.2 ρ) (v3_424 + 0).toNatClampNeg p1) (v3_424 + 1).toNatClampNeg p2)) ?_
  refine G.heap (congrArg (putMd σ T ow ρ) (setA_A M ρ _ _)) ?_
  refine g_aload_n hx 32 (i := 0) 1 dX11_addSlip_32 rfl rfl ?_
  refine g_get hx 33 (C := RX11) (T := TX11) (N := 30) 7 (.ref (T + 1 + ρ)) (pM_o σ T ow ρ (setA M ρ (upd (upd (M.2 ρ) (v3_424 + 0).toNatClampNeg p1) (v3_424 + 1).toNatClampNeg p2))) rfl (by decide) rfl fl_X11_31 dX11_addSlip_33 ?_
  refine g_iload_n hx 36 (i := 3) 0 dX11_addSlip_36 rfl rfl ?_
  refine g_iconst hx 37 (2) dX11_addSlip_37 rfl ?_
  refine g_iadd hx 38 dX11_addSlip_38 ?_
  refine g_aload_n hx 39 (i := 0) 1 dX11_addSlip_39 rfl rfl ?_
  refine g_get hx 40 (C := RX11) (T := TX11) (N := 30) 7 (.ref (T + 1 + ρ)) (pM_o σ T ow ρ (setA M ρ (upd (upd (M.2 ρ) (v3_424 + 0).toNatClampNeg p1) (v3_424 + 1).toNatClampNeg p2))) rfl (by decide) rfl fl_X11_31 dX11_addSlip_40 ?_
  refine g_iconst hx 43 (0) dX11_addSlip_43 rfl ?_
  refine g_iald hx 44 (pM_row' hρ σ T ow (setA M ρ (upd (upd (M.2 ρ) (v3_424 + 0).toNatClampNeg p1) (v3_424 + 1).toNatClampNeg p2)) (upd (upd (M.2 ρ) (v3_424 + 0).toNatClampNeg p1) (v3_424 + 1).toNatClampNeg p2) (setA_s M ρ _)) (by decide : inB 0 257) dX11_addSlip_44 ?_
  obtain ⟨hb_428, hr⟩ := ob hr
  refine g_iast hx 45 (pM_row' hρ σ T ow (setA M ρ (upd (upd (M.2 ρ) (v3_424 + 0).toNatClampNeg p1) (v3_424 + 1).toNatClampNeg p2)) (upd (upd (M.2 ρ) (v3_424 + 0).toNatClampNeg p1) (v3_424 + 1).toNatClampNeg p2) (setA_s M ρ _)) hb_428 dX11_addSlip_45 ?_
  refine G.heap (pM_rs hρ σ T ow (setA M ρ (upd (upd (M.2 ρ) (v3_424 + 0).toNatClampNeg p1) (v3_424 + 1).toNatClampNeg p2)) (upd (upd (upd (M.2 ρ) (v3_424 + 0).toNatClampNeg p1) (v3_424 + 1).toNatClampNeg p2) (v3_424 + 2).toNatClampNeg ((upd (upd (M.2 ρ) (v3_424 + 0).toNatClampNeg p1) (v3_424 + 1).toNatClampNeg p2) (0 : Int32).toNatClampNeg))) ?_
  refine G.heap (congrArg (putMd σ T ow ρ) (setA_A M ρ _ _)) ?_
  refine g_aload_n hx 46 (i := 0) 1 dX11_addSlip_46 rfl rfl ?_
  refine g_get hx 47 (C := RX11) (T := TX11) (N := 30) 7 (.ref (T + 1 + ρ)) (pM_o σ T ow ρ (setA M ρ (upd (upd (upd (M.2 ρ) (v3_424 + 0).toNatClampNeg p1) (v3_424 + 1).toNatClampNeg p2) (v3_424 + 2).toNatClampNeg ((upd (upd (M.2 ρ) (v3_424 + 0).toNatClampNeg p1) (v3_424 + 1).toNatClampNeg p2) (0 : Int32).toNatClampNeg)))) rfl (by decide) rfl fl_X11_31 dX11_addSlip_47 ?_
  refine g_iload_n hx 50 (i := 3) 0 dX11_addSlip_50 rfl rfl ?_
  refine g_iconst hx 51 (3) dX11_addSlip_51 rfl ?_
  refine g_iadd hx 52 dX11_addSlip_52 ?_
  refine g_iconst hx 53 (0) dX11_addSlip_53 rfl ?_
  obtain ⟨hb_429, hr⟩ := ob hr
  refine g_iast hx 54 (pM_row' hρ σ T ow (setA M ρ (upd (upd (upd (M.2 ρ) (v3_424 + 0).toNatClampNeg p1) (v3_424 + 1).toNatClampNeg p2) (v3_424 + 2).toNatClampNeg ((upd (upd (M.2 ρ) (v3_424 + 0).toNatClampNeg p1) (v3_424 + 1).toNatClampNeg p2) (0 : Int32).toNatClampNeg))) (upd (upd (upd (M.2 ρ) (v3_424 + 0).toNatClampNeg p1) (v3_424 + 1).toNatClampNeg p2) (v3_424 + 2).toNatClampNeg ((upd (upd (M.2 ρ) (v3_424 + 0).toNatClampNeg p1) (v3_424 + 1).toNatClampNeg p2) (0 : Int32).toNatClampNeg)) (setA_s M ρ _)) hb_429 dX11_addSlip_54 ?_
  refine G.heap (pM_rs hρ σ T ow (setA M ρ (upd (upd (upd (M.2 ρ) (v3_424 + 0).toNatClampNeg p1) (v3_424 + 1).toNatClampNeg p2) (v3_424 + 2).toNatClampNeg ((upd (upd (M.2 ρ) (v3_424 + 0).toNatClampNeg p1) (v3_424 + 1).toNatClampNeg p2) (0 : Int32).toNatClampNeg))) (upd (upd (upd (upd (M.2 ρ) (v3_424 + 0).toNatClampNeg p1) (v3_424 + 1).toNatClampNeg p2) (v3_424 + 2).toNatClampNeg ((upd (upd (M.2 ρ) (v3_424 + 0).toNatClampNeg p1) (v3_424 + 1).toNatClampNeg p2) (0 : Int32).toNatClampNeg)) (v3_424 + 3).toNatClampNeg 0)) ?_
  refine G.heap (congrArg (putMd σ T ow ρ) (setA_A M ρ _ _)) ?_
  refine g_aload_n hx 55 (i := 0) 1 dX11_addSlip_55 rfl rfl ?_
  refine g_get hx 56 (C := RX11) (T := TX11) (N := 30) 7 (.ref (T + 1 + ρ)) (pM_o σ T ow ρ (setA M ρ (upd (upd (upd (upd (M.2 ρ) (v3_424 + 0).toNatClampNeg p1) (v3_424 + 1).toNatClampNeg p2) (v3_424 + 2).toNatClampNeg ((upd (upd (M.2 ρ) (v3_424 + 0).toNatClampNeg p1) (v3_424 + 1).toNatClampNeg p2) (0 : Int32).toNatClampNeg)) (v3_424 + 3).toNatClampNeg 0))) rfl (by decide) rfl fl_X11_31 dX11_addSlip_56 ?_
  refine g_bipush hx 59 (8) dX11_addSlip_59 rfl ?_
  refine g_dup2 hx 61 dX11_addSlip_61 rfl rfl ?_
  refine g_iald hx 62 (pM_row' hρ σ T ow (setA M ρ (upd (upd (upd (upd (M.2 ρ) (v3_424 + 0).toNatClampNeg p1) (v3_424 + 1).toNatClampNeg p2) (v3_424 + 2).toNatClampNeg ((upd (upd (M.2 ρ) (v3_424 + 0).toNatClampNeg p1) (v3_424 + 1).toNatClampNeg p2) (0 : Int32).toNatClampNeg)) (v3_424 + 3).toNatClampNeg 0)) (upd (upd (upd (upd (M.2 ρ) (v3_424 + 0).toNatClampNeg p1) (v3_424 + 1).toNatClampNeg p2) (v3_424 + 2).toNatClampNeg ((upd (upd (M.2 ρ) (v3_424 + 0).toNatClampNeg p1) (v3_424 + 1).toNatClampNeg p2) (0 : Int32).toNatClampNeg)) (v3_424 + 3).toNatClampNeg 0) (setA_s M ρ _)) (by decide : inB 8 257) dX11_addSlip_62 ?_
  refine g_iconst hx 63 (1) dX11_addSlip_63 rfl ?_
  refine g_iadd hx 64 dX11_addSlip_64 ?_
  refine g_iast hx 65 (pM_row' hρ σ T ow (setA M ρ (upd (upd (upd (upd (M.2 ρ) (v3_424 + 0).toNatClampNeg p1) (v3_424 + 1).toNatClampNeg p2) (v3_424 + 2).toNatClampNeg ((upd (upd (M.2 ρ) (v3_424 + 0).toNatClampNeg p1) (v3_424 + 1).toNatClampNeg p2) (0 : Int32).toNatClampNeg)) (v3_424 + 3).toNatClampNeg 0)) (upd (upd (upd (upd (M.2 ρ) (v3_424 + 0).toNatClampNeg p1) (v3_424 + 1).toNatClampNeg p2) (v3_424 + 2).toNatClampNeg ((upd (upd (M.2 ρ) (v3_424 + 0).toNatClampNeg p1) (v3_424 + 1).toNatClampNeg p2) (0 : Int32).toNatClampNeg)) (v3_424 + 3).toNatClampNeg 0) (setA_s M ρ _)) (by decide : inB 8 257) dX11_addSlip_65 ?_
  refine G.heap (pM_rs hρ σ T ow (setA M ρ (upd (upd (upd (upd (M.2 ρ) (v3_424 + 0).toNatClampNeg p1) (v3_424 + 1).toNatClampNeg p2) (v3_424 + 2).toNatClampNeg ((upd (upd (M.2 ρ) (v3_424 + 0).toNatClampNeg p1) (v3_424 + 1).toNatClampNeg p2) (0 : Int32).toNatClampNeg)) (v3_424 + 3).toNatClampNeg 0)) (upd (upd (upd (upd (upd (M.2 ρ) (v3_424 + 0).toNatClampNeg p1) (v3_424 + 1).toNatClampNeg p2) (v3_424 + 2).toNatClampNeg ((upd (upd (M.2 ρ) (v3_424 + 0).toNatClampNeg p1) (v3_424 + 1).toNatClampNeg p2) (0 : Int32).toNatClampNeg)) (v3_424 + 3).toNatClampNeg 0) (8 : Int32).toNatClampNeg (((upd (upd (upd (upd (M.2 ρ) (v3_424 + 0).toNatClampNeg p1) (v3_424 + 1).toNatClampNeg p2) (v3_424 + 2).toNatClampNeg ((upd (upd (M.2 ρ) (v3_424 + 0).toNatClampNeg p1) (v3_424 + 1).toNatClampNeg p2) (0 : Int32).toNatClampNeg)) (v3_424 + 3).toNatClampNeg 0) (8 : Int32).toNatClampNeg) + 1))) ?_
  refine G.heap (congrArg (putMd σ T ow ρ) (setA_A M ρ _ _)) ?_
  exact g_vret hx hR 66 dX11_addSlip_66 ⟨rfl, by rw [← Option.some.inj hr] <;> rfl⟩
def Md_removeSlip_L19 (ρ : Nat) : Nat → MdM → Int32 → Int32 → Option (MdM)
  | 0, _, _, _ => none
  | n + 1, M, v1_435, v2_436 => if 193 + (4 * ((M.2 ρ) (8 : Int32).toNatClampNeg)) ≤ v2_436 then (some (M)) else (if inB (v2_436 + 4) 257 then (if inB v2_436 257 then (Md_removeSlip_L19 ρ n (setA M ρ (upd (M.2 ρ) v2_436.toNatClampNeg ((M.2 ρ) (v2_436 + 4).toNatClampNeg))) v1_435 (v2_436 + 1)) else none) else none)
def Md_removeSlip (ρ : Nat) (M : MdM) (p1 : Int32) : Option (MdM) := lt' (193 + (4 * p1)) fun v2_434 => Md_removeSlip_L19 ρ FU (setA M ρ (upd (M.2 ρ) (8 : Int32).toNatClampNeg (((M.2 ρ) (8 : Int32).toNatClampNeg) - 1))) p1 v2_434
set_option maxRecDepth 100000 in
set_option maxHeartbeats 4000000 in
theorem w_Md_removeSlip_L19 {ρ : Nat} (hρ : ρ < 2) {X : Cx} {l : Launch} {g : Gl} (hx : Ok X l g RX11 cX11_removeSlip 3 md_Md_removeSlip.rm) {σ : Hp} {T : Nat} {ow : Nat → Option Nat} {r : MdM} (hR : Ret X (rs none (putMd σ T ow ρ r)) 0 0 (none)) : ∀ (n : Nat) (M : MdM) (v1_435 v2_436 : Int32), Md_removeSlip_L19 ρ n M v1_435 v2_436 = some r → G X (putMd σ T ow ρ M) 0 0 19 [(0, .ref T), (1, .int v1_435), (2, .int v2_436)] [] := by
  intro n
  induction n with
  | zero =>
    intro M v1_435 v2_436 hr
    rw [Md_removeSlip_L19] at hr
    cases hr
  | succ n ih =>
    intro M v1_435 v2_436 hr
    rw [Md_removeSlip_L19] at hr
    refine g_iload_n hx 19 (i := 2) 2 dX11_removeSlip_19 rfl rfl ?_
    refine g_sipush hx 20 (193) dX11_removeSlip_20 rfl ?_
    refine g_iconst hx 23 (4) dX11_removeSlip_23 rfl ?_
    refine g_aload_n hx 24 (i := 0) 0 dX11_removeSlip_24 rfl rfl ?_
    refine g_get hx 25 (C := RX11) (T := TX11) (N := 30) 7 (.ref (T + 1 + ρ)) (pM_o σ T ow ρ M) rfl (by decide) rfl fl_X11_31 dX11_removeSlip_25 ?_
    refine g_bipush hx 28 (8) dX11_removeSlip_28 rfl ?_
    refine g_iald hx 30 (pM_row hρ σ T ow M) (by decide : inB 8 257) dX11_removeSlip_30 ?_
    refine g_imul hx 31 dX11_removeSlip_31 ?_
    refine g_iadd hx 32 dX11_removeSlip_32 ?_
    refine g_icmp_ge hx 33 56 dX11_removeSlip_33 (by decide) (fun hc_438 => ?_) (fun hc_438 => ?_)
    · have hr := (if_pos hc_438).symm.trans hr
      exact g_vret hx hR 56 dX11_removeSlip_56 ⟨rfl, by rw [← Option.some.inj hr] <;> rfl⟩
    · have hr := (if_neg hc_438).symm.trans hr
      refine g_aload_n hx 36 (i := 0) 0 dX11_removeSlip_36 rfl rfl ?_
      refine g_get hx 37 (C := RX11) (T := TX11) (N := 30) 7 (.ref (T + 1 + ρ)) (pM_o σ T ow ρ M) rfl (by decide) rfl fl_X11_31 dX11_removeSlip_37 ?_
      refine g_iload_n hx 40 (i := 2) 2 dX11_removeSlip_40 rfl rfl ?_
      refine g_aload_n hx 41 (i := 0) 0 dX11_removeSlip_41 rfl rfl ?_
      refine g_get hx 42 (C := RX11) (T := TX11) (N := 30) 7 (.ref (T + 1 + ρ)) (pM_o σ T ow ρ M) rfl (by decide) rfl fl_X11_31 dX11_removeSlip_42 ?_
      refine g_iload_n hx 45 (i := 2) 2 dX11_removeSlip_45 rfl rfl ?_
      refine g_iconst hx 46 (4) dX11_removeSlip_46 rfl ?_
      refine g_iadd hx 47 dX11_removeSlip_47 ?_
      obtain ⟨hb_439, hr⟩ := ob hr
      refine g_iald hx 48 (pM_row hρ σ T ow M) hb_439 dX11_removeSlip_48 ?_
      obtain ⟨hb_440, hr⟩ := ob hr
      refine g_iast hx 49 (pM_row hρ σ T ow M) hb_440 dX11_removeSlip_49 ?_
      refine G.heap (pM_rs hρ σ T ow M (upd (M.2 ρ) v2_436.toNatClampNeg ((M.2 ρ) (v2_436 + 4).toNatClampNeg))) ?_
      refine g_iinc hx 50 (i := 2) 2 (v2_436 + 1) [(2, .int (v2_436 + 1)), (0, .ref T), (1, .int v1_435)] dX11_removeSlip_50 rfl rfl (by decide) rfl ?_
      refine g_goto hx 53 19 dX11_removeSlip_53 (by decide) ?_
      refine g_ls [1, 2, 0] [(0, .ref T), (1, .int v1_435), (2, .int (v2_436 + 1))] rfl ?_
      exact ih (setA M ρ (upd (M.2 ρ) v2_436.toNatClampNeg ((M.2 ρ) (v2_436 + 4).toNatClampNeg))) v1_435 (v2_436 + 1) hr
set_option maxRecDepth 100000 in
set_option maxHeartbeats 4000000 in
theorem c_Md_removeSlip {ρ : Nat} (hρ : ρ < 2) (l : Launch) (g : Gl) (σ : Hp) (T : Nat) (ow : Nat → Option Nat) (M : MdM) (p1 : Int32) {r : MdM} (hr : Md_removeSlip ρ M p1 = some r) : MG l g md_Md_removeSlip [.ref T, .int p1] (putMd σ T ow ρ M) (rs none (putMd σ T ow ρ r)) := by
  refine MG.intro (by decide +kernel) (Nat.le_of_ble_eq_true rfl) (fun X hx hR _ => ?_)
  unfold Md_removeSlip at hr
  refine g_ls [0, 1] [(0, .ref T), (1, .int p1)] rfl ?_
  refine g_aload_n hx 0 (i := 0) 0 dX11_removeSlip_0 rfl rfl ?_
  refine g_get hx 1 (C := RX11) (T := TX11) (N := 30) 7 (.ref (T + 1 + ρ)) (pM_o σ T ow ρ M) rfl (by decide) rfl fl_X11_31 dX11_removeSlip_1 ?_
  refine g_bipush hx 4 (8) dX11_removeSlip_4 rfl ?_
  refine g_dup2 hx 6 dX11_removeSlip_6 rfl rfl ?_
  refine g_iald hx 7 (pM_row hρ σ T ow M) (by decide : inB 8 257) dX11_removeSlip_7 ?_
  refine g_iconst hx 8 (1) dX11_removeSlip_8 rfl ?_
  refine g_isub hx 9 dX11_removeSlip_9 ?_
  refine g_iast hx 10 (pM_row hρ σ T ow M) (by decide : inB 8 257) dX11_removeSlip_10 ?_
  refine G.heap (pM_rs hρ σ T ow M (upd (M.2 ρ) (8 : Int32).toNatClampNeg (((M.2 ρ) (8 : Int32).toNatClampNeg) - 1))) ?_
  refine g_sipush hx 11 (193) dX11_removeSlip_11 rfl ?_
  refine g_iconst hx 14 (4) dX11_removeSlip_14 rfl ?_
  refine g_iload_n hx 15 (i := 1) 1 dX11_removeSlip_15 rfl rfl ?_
  refine g_imul hx 16 dX11_removeSlip_16 ?_
  refine g_iadd hx 17 dX11_removeSlip_17 ?_
  obtain ⟨v2_434, ev2_434, hr⟩ := lt'_e hr
  refine g_nmi ev2_434 ?_
  refine g_istore_n hx 18 (i := 2) [(2, .int v2_434), (0, .ref T), (1, .int p1)] dX11_removeSlip_18 rfl (by decide) rfl ?_
  refine g_ls [1, 2, 0] [(0, .ref T), (1, .int p1), (2, .int v2_434)] rfl ?_
  exact w_Md_removeSlip_L19 hρ hx hR FU (setA M ρ (upd (M.2 ρ) (8 : Int32).toNatClampNeg (((M.2 ρ) (8 : Int32).toNatClampNeg) - 1))) p1 v2_434 hr
def Md_idleness (ρ : Nat) (M : MdM) (p1 : Int32) : Option (Int32) := Option.bind (Md_ofSlip ρ M p1 1) fun q_441 => Option.bind (Md_isIn ρ M q_441 0) fun q_442 => if q_442 = 0 then (Option.bind (Md_isIn ρ M q_441 1) fun q_444 => if q_444 = 0 then (some (2)) else (some (1))) else (Option.bind (Md_isClosed ρ M q_441) fun q_446 => if q_446 = 0 then (Option.bind (Md_ofSlip ρ M p1 0) fun q_448 => Option.bind (Md_foldersOf ρ M q_448) fun q_449 => if q_449 < (M.2 ρ) (4 : Int32).toNatClampNeg then (some (0)) else (some (4))) else (some (3)))
set_option maxRecDepth 100000 in
set_option maxHeartbeats 4000000 in
theorem c_Md_idleness {ρ : Nat} (hρ : ρ < 2) (l : Launch) (g : Gl) (σ : Hp) (T : Nat) (ow : Nat → Option Nat) (M : MdM) (p1 : Int32) {r : Int32} (hr : Md_idleness ρ M p1 = some r) : MG l g md_Md_idleness [.ref T, .int p1] (putMd σ T ow ρ M) (rs (some (.int r)) (putMd σ T ow ρ M)) := by
  refine MG.intro (by decide +kernel) (Nat.le_of_ble_eq_true rfl) (fun X hx hR _ => ?_)
  unfold Md_idleness at hr
  refine g_ls [0, 1] [(0, .ref T), (1, .int p1)] rfl ?_
  refine g_aload_n hx 0 (i := 0) 0 dX11_idleness_0 rfl rfl ?_
  refine g_iload_n hx 1 (i := 1) 1 dX11_idleness_1 rfl rfl ?_
  refine g_iconst hx 2 (1) dX11_idleness_2 rfl ?_
  obtain ⟨q_441, eq_441, hr⟩ := bind_e hr
  refine g_callVr hx (c_Md_ofSlip hρ l g σ T ow M p1 1 eq_441) lk_X11_130 ar_Md_ofSlip (pM_o σ T ow ρ M) (T := TX11) (N := 30) rfl (As := [.int p1, .int 1]) (rest := []) rfl (Nat.le_of_ble_eq_true rfl) ⟨Nat.le_of_ble_eq_true rfl, Nat.le_of_ble_eq_true rfl⟩ ⟨rfl, rfl⟩ ⟨Nat.zero_le _, Nat.zero_le _⟩ dX11_idleness_3 ?_
  refine g_istore_n hx 6 (i := 2) [(2, .int q_441), (0, .ref T), (1, .int p1)] dX11_idleness_6 rfl (by decide) rfl ?_
  refine g_aload_n hx 7 (i := 0) 1 dX11_idleness_7 rfl rfl ?_
  refine g_iload_n hx 8 (i := 2) 0 dX11_idleness_8 rfl rfl ?_
  refine g_iconst hx 9 (0) dX11_idleness_9 rfl ?_
  obtain ⟨q_442, eq_442, hr⟩ := bind_e hr
  refine g_callVr hx (c_Md_isIn hρ l g σ T ow M q_441 0 eq_442) lk_X11_126 ar_Md_isIn (pM_o σ T ow ρ M) (T := TX11) (N := 30) rfl (As := [.int q_441, .int 0]) (rest := []) rfl (Nat.le_of_ble_eq_true rfl) ⟨Nat.le_of_ble_eq_true rfl, Nat.le_of_ble_eq_true rfl⟩ ⟨rfl, rfl⟩ ⟨Nat.zero_le _, Nat.zero_le _⟩ dX11_idleness_10 ?_
  refine g_if_ne hx 13 31 dX11_idleness_13 (by decide) (fun hc_443 => ?_) (fun hc_443 => ?_)
  · have hr := (if_neg hc_443).symm.trans hr
    refine g_aload_n hx 31 (i := 0) 1 dX11_idleness_31 rfl rfl ?_
    refine g_iload_n hx 32 (i := 2) 0 dX11_idleness_32 rfl rfl ?_
    obtain ⟨q_446, eq_446, hr⟩ := bind_e hr
    refine g_callVr hx (c_Md_isClosed hρ l g σ T ow M q_441 eq_446) lk_X11_133 ar_Md_isClosed (pM_o σ T ow ρ M) (T := TX11) (N := 30) rfl (As := [.int q_441]) (rest := []) rfl (Nat.le_of_ble_eq_true rfl) ⟨Nat.le_of_ble_eq_true rfl, Nat.le_of_ble_eq_true rfl⟩ ⟨rfl, rfl⟩ ⟨Nat.zero_le _, Nat.zero_le _⟩ dX11_idleness_33 ?_
    refine g_if_eq hx 36 41 dX11_idleness_36 (by decide) (fun hc_447 => ?_) (fun hc_447 => ?_)
    · have hr := (if_pos hc_447).symm.trans hr
      refine g_aload_n hx 41 (i := 0) 1 dX11_idleness_41 rfl rfl ?_
      refine g_aload_n hx 42 (i := 0) 1 dX11_idleness_42 rfl rfl ?_
      refine g_iload_n hx 43 (i := 1) 2 dX11_idleness_43 rfl rfl ?_
      refine g_iconst hx 44 (0) dX11_idleness_44 rfl ?_
      obtain ⟨q_448, eq_448, hr⟩ := bind_e hr
      refine g_callVr hx (c_Md_ofSlip hρ l g σ T ow M p1 0 eq_448) lk_X11_130 ar_Md_ofSlip (pM_o σ T ow ρ M) (T := TX11) (N := 30) rfl (As := [.int p1, .int 0]) (rest := [.ref T]) rfl (Nat.le_of_ble_eq_true rfl) ⟨Nat.le_of_ble_eq_true rfl, Nat.le_of_ble_eq_true rfl⟩ ⟨rfl, rfl⟩ ⟨Nat.zero_le _, Nat.zero_le _⟩ dX11_idleness_45 ?_
      obtain ⟨q_449, eq_449, hr⟩ := bind_e hr
      refine g_callVr hx (c_Md_foldersOf hρ l g σ T ow M q_448 eq_449) lk_X11_136 ar_Md_foldersOf (pM_o σ T ow ρ M) (T := TX11) (N := 30) rfl (As := [.int q_448]) (rest := []) rfl (Nat.le_of_ble_eq_true rfl) ⟨Nat.le_of_ble_eq_true rfl, Nat.le_of_ble_eq_true rfl⟩ ⟨rfl, rfl⟩ ⟨Nat.zero_le _, Nat.zero_le _⟩ dX11_idleness_48 ?_
      refine g_aload_n hx 51 (i := 0) 1 dX11_idleness_51 rfl rfl ?_
      refine g_get hx 52 (C := RX11) (T := TX11) (N := 30) 7 (.ref (T + 1 + ρ)) (pM_o σ T ow ρ M) rfl (by decide) rfl fl_X11_31 dX11_idleness_52 ?_
      refine g_iconst hx 55 (4) dX11_idleness_55 rfl ?_
      refine g_iald hx 56 (pM_row hρ σ T ow M) (by decide : inB 4 257) dX11_idleness_56 ?_
      refine g_icmp_lt hx 57 64 dX11_idleness_57 (by decide) (fun hc_451 => ?_) (fun hc_451 => ?_)
      · have hr := (if_pos hc_451).symm.trans hr
        refine g_iconst hx 64 (0) dX11_idleness_64 rfl ?_
        exact g_iret hx hR 65 dX11_idleness_65 ⟨by rw [← Option.some.inj hr] <;> rfl, rfl⟩
      · have hr := (if_neg hc_451).symm.trans hr
        refine g_iconst hx 60 (4) dX11_idleness_60 rfl ?_
        refine g_goto hx 61 65 dX11_idleness_61 (by decide) ?_
        exact g_iret hx hR 65 dX11_idleness_65 ⟨by rw [← Option.some.inj hr] <;> rfl, rfl⟩
    · have hr := (if_neg hc_447).symm.trans hr
      refine g_iconst hx 39 (3) dX11_idleness_39 rfl ?_
      exact g_iret hx hR 40 dX11_idleness_40 ⟨by rw [← Option.some.inj hr] <;> rfl, rfl⟩
  · have hr := (if_pos hc_443).symm.trans hr
    refine g_aload_n hx 16 (i := 0) 1 dX11_idleness_16 rfl rfl ?_
    refine g_iload_n hx 17 (i := 2) 0 dX11_idleness_17 rfl rfl ?_
    refine g_iconst hx 18 (1) dX11_idleness_18 rfl ?_
    obtain ⟨q_444, eq_444, hr⟩ := bind_e hr
    refine g_callVr hx (c_Md_isIn hρ l g σ T ow M q_441 1 eq_444) lk_X11_126 ar_Md_isIn (pM_o σ T ow ρ M) (T := TX11) (N := 30) rfl (As := [.int q_441, .int 1]) (rest := []) rfl (Nat.le_of_ble_eq_true rfl) ⟨Nat.le_of_ble_eq_true rfl, Nat.le_of_ble_eq_true rfl⟩ ⟨rfl, rfl⟩ ⟨Nat.zero_le _, Nat.zero_le _⟩ dX11_idleness_19 ?_
    refine g_if_eq hx 22 29 dX11_idleness_22 (by decide) (fun hc_445 => ?_) (fun hc_445 => ?_)
    · have hr := (if_pos hc_445).symm.trans hr
      refine g_iconst hx 29 (2) dX11_idleness_29 rfl ?_
      exact g_iret hx hR 30 dX11_idleness_30 ⟨by rw [← Option.some.inj hr] <;> rfl, rfl⟩
    · have hr := (if_neg hc_445).symm.trans hr
      refine g_iconst hx 25 (1) dX11_idleness_25 rfl ?_
      refine g_goto hx 26 30 dX11_idleness_26 (by decide) ?_
      exact g_iret hx hR 30 dX11_idleness_30 ⟨by rw [← Option.some.inj hr] <;> rfl, rfl⟩
def Md_refile_L2 (ρ : Nat) : Nat → MdM → Int32 → Option (MdM)
  | 0, _, _ => none
  | n + 1, M, v1_452 => if (M.2 ρ) (7 : Int32).toNatClampNeg ≤ v1_452 then (Option.bind (Md_tally ρ M 8 ((M.2 ρ) (7 : Int32).toNatClampNeg)) fun M_456 => some (setA M_456 ρ (upd (M_456.2 ρ) (7 : Int32).toNatClampNeg 0))) else (if inB (169 + v1_452) 257 then (lt' ((M.2 ρ) (169 + v1_452).toNatClampNeg) fun v2_459 => Option.bind (Md_of ρ M v2_459 0) fun q_460 => Option.bind (Md_halve ρ M q_460) fun q_461 => lt' (q_461.1) fun v3_462 => Option.bind (Md_tally ρ q_461.2 7 (q_461.2.1 11)) fun M_463 => Option.bind (Md_lay ρ M_463 v2_459 2 0) fun M_464 => Option.bind (Md_insert ρ M_464 v2_459 (M_464.1 12)) fun M_465 => Md_refile_L2 ρ n M_465 (v1_452 + 1)) else none)
def Md_refile (ρ : Nat) (M : MdM) : Option (MdM) := Md_refile_L2 ρ FU M 0
set_option maxRecDepth 100000 in
set_option maxHeartbeats 4000000 in
theorem w_Md_refile_L2 {ρ : Nat} (hρ : ρ < 2) {X : Cx} {l : Launch} {g : Gl} (hx : Ok X l g RX11 cX11_refile 4 md_Md_refile.rm) {σ : Hp} {T : Nat} {ow : Nat → Option Nat} {r : MdM} (hR : Ret X (rs none (putMd σ T ow ρ r)) 0 0 (none)) : ∀ (n : Nat) (M : MdM) (v1_452 : Int32), Md_refile_L2 ρ n M v1_452 = some r → G X (putMd σ T ow ρ M) 0 0 2 [(0, .ref T), (1, .int v1_452)] [] := by
  intro n
  induction n with
  | zero =>
    intro M v1_452 hr
    rw [Md_refile_L2] at hr
    cases hr
  | succ n ih =>
    intro M v1_452 hr
    rw [Md_refile_L2] at hr
    refine g_iload_n hx 2 (i := 1) 1 dX11_refile_2 rfl rfl ?_
    refine g_aload_n hx 3 (i := 0) 0 dX11_refile_3 rfl rfl ?_
    refine g_get hx 4 (C := RX11) (T := TX11) (N := 30) 7 (.ref (T + 1 + ρ)) (pM_o σ T ow ρ M) rfl (by decide) rfl fl_X11_31 dX11_refile_4 ?_
    refine g_bipush hx 7 (7) dX11_refile_7 rfl ?_
    refine g_iald hx 9 (pM_row hρ σ T ow M) (by decide : inB 7 257) dX11_refile_9 ?_
    refine g_icmp_ge hx 10 67 dX11_refile_10 (by decide) (fun hc_454 => ?_) (fun hc_454 => ?_)
    · have hr := (if_pos hc_454).symm.trans hr
      refine g_aload_n hx 67 (i := 0) 0 dX11_refile_67 rfl rfl ?_
      refine g_bipush hx 68 (8) dX11_refile_68 rfl ?_
      refine g_aload_n hx 70 (i := 0) 0 dX11_refile_70 rfl rfl ?_
      refine g_get hx 71 (C := RX11) (T := TX11) (N := 30) 7 (.ref (T + 1 + ρ)) (pM_o σ T ow ρ M) rfl (by decide) rfl fl_X11_31 dX11_refile_71 ?_
      refine g_bipush hx 74 (7) dX11_refile_74 rfl ?_
      refine g_iald hx 76 (pM_row hρ σ T ow M) (by decide : inB 7 257) dX11_refile_76 ?_
      obtain ⟨M_456, eM_456, hr⟩ := bind_e hr
      refine g_callVv hx (c_Md_tally hρ l g σ T ow M 8 ((M.2 ρ) (7 : Int32).toNatClampNeg) eM_456) lk_X11_139 ar_Md_tally (pM_o σ T ow ρ M) (T := TX11) (N := 30) rfl (As := [.int 8, .int ((M.2 ρ) (7 : Int32).toNatClampNeg)]) (rest := []) rfl (Nat.le_of_ble_eq_true rfl) ⟨Nat.le_of_ble_eq_true rfl, Nat.le_of_ble_eq_true rfl⟩ ⟨rfl, rfl⟩ ⟨Nat.zero_le _, Nat.zero_le _⟩ dX11_refile_77 ?_
      refine g_aload_n hx 80 (i := 0) 0 dX11_refile_80 rfl rfl ?_
      refine g_get hx 81 (C := RX11) (T := TX11) (N := 30) 7 (.ref (T + 1 + ρ)) (pM_o σ T ow ρ M_456) rfl (by decide) rfl fl_X11_31 dX11_refile_81 ?_
      refine g_bipush hx 84 (7) dX11_refile_84 rfl ?_
      refine g_iconst hx 86 (0) dX11_refile_86 rfl ?_
      refine g_iast hx 87 (pM_row hρ σ T ow M_456) (by decide : inB 7 257) dX11_refile_87 ?_
      refine G.heap (pM_rs hρ σ T ow M_456 (upd (M_456.2 ρ) (7 : Int32).toNatClampNeg 0)) ?_
      exact g_vret hx hR 88 dX11_refile_88 ⟨rfl, by rw [← Option.some.inj hr] <;> rfl⟩
    · have hr := (if_neg hc_454).symm.trans hr
      refine g_aload_n hx 13 (i := 0) 0 dX11_refile_13 rfl rfl ?_
      refine g_get hx 14 (C := RX11) (T := TX11) (N := 30) 7 (.ref (T + 1 + ρ)) (pM_o σ T ow ρ M) rfl (by decide) rfl fl_X11_31 dX11_refile_14 ?_
      refine g_sipush hx 17 (169) dX11_refile_17 rfl ?_
      refine g_iload_n hx 20 (i := 1) 1 dX11_refile_20 rfl rfl ?_
      refine g_iadd hx 21 dX11_refile_21 ?_
      obtain ⟨hb_458, hr⟩ := ob hr
      refine g_iald hx 22 (pM_row hρ σ T ow M) hb_458 dX11_refile_22 ?_
      obtain ⟨v2_459, ev2_459, hr⟩ := lt'_e hr
      refine g_nmi ev2_459 ?_
      refine g_istore_n hx 23 (i := 2) [(2, .int v2_459), (0, .ref T), (1, .int v1_452)] dX11_refile_23 rfl (by decide) rfl ?_
      refine g_aload_n hx 24 (i := 0) 1 dX11_refile_24 rfl rfl ?_
      refine g_aload_n hx 25 (i := 0) 1 dX11_refile_25 rfl rfl ?_
      refine g_iload_n hx 26 (i := 2) 0 dX11_refile_26 rfl rfl ?_
      refine g_iconst hx 27 (0) dX11_refile_27 rfl ?_
      obtain ⟨q_460, eq_460, hr⟩ := bind_e hr
      refine g_callVr hx (c_Md_of hρ l g σ T ow M v2_459 0 eq_460) lk_X11_95 ar_Md_of (pM_o σ T ow ρ M) (T := TX11) (N := 30) rfl (As := [.int v2_459, .int 0]) (rest := [.ref T]) rfl (Nat.le_of_ble_eq_true rfl) ⟨Nat.le_of_ble_eq_true rfl, Nat.le_of_ble_eq_true rfl⟩ ⟨rfl, rfl⟩ ⟨Nat.zero_le _, Nat.zero_le _⟩ dX11_refile_28 ?_
      obtain ⟨q_461, eq_461, hr⟩ := bind_e hr
      refine g_callVr hx (c_Md_halve hρ l g σ T ow M q_460 eq_461) lk_X11_119 ar_Md_halve (pM_o σ T ow ρ M) (T := TX11) (N := 30) rfl (As := [.int q_460]) (rest := []) rfl (Nat.le_of_ble_eq_true rfl) ⟨Nat.le_of_ble_eq_true rfl, Nat.le_of_ble_eq_true rfl⟩ ⟨rfl, rfl⟩ ⟨Nat.zero_le _, Nat.zero_le _⟩ dX11_refile_31 ?_
      obtain ⟨v3_462, ev3_462, hr⟩ := lt'_e hr
      refine g_nmi ev3_462 ?_
      refine g_istore_n hx 34 (i := 3) [(3, .int v3_462), (2, .int v2_459), (0, .ref T), (1, .int v1_452)] dX11_refile_34 rfl (by decide) rfl ?_
      refine g_aload_n hx 35 (i := 0) 2 dX11_refile_35 rfl rfl ?_
      refine g_bipush hx 36 (7) dX11_refile_36 rfl ?_
      refine g_aload_n hx 38 (i := 0) 2 dX11_refile_38 rfl rfl ?_
      refine g_get hx 39 (C := RX11) (T := TX11) (N := 30) 11 (.int (q_461.2.1 11)) (pM_o σ T ow ρ q_461.2) rfl (by decide) rfl fl_X11_113 dX11_refile_39 ?_
      obtain ⟨M_463, eM_463, hr⟩ := bind_e hr
      refine g_callVv hx (c_Md_tally hρ l g σ T ow q_461.2 7 (q_461.2.1 11) eM_463) lk_X11_139 ar_Md_tally (pM_o σ T ow ρ q_461.2) (T := TX11) (N := 30) rfl (As := [.int 7, .int (q_461.2.1 11)]) (rest := []) rfl (Nat.le_of_ble_eq_true rfl) ⟨Nat.le_of_ble_eq_true rfl, Nat.le_of_ble_eq_true rfl⟩ ⟨rfl, rfl⟩ ⟨Nat.zero_le _, Nat.zero_le _⟩ dX11_refile_42 ?_
      refine g_aload_n hx 45 (i := 0) 2 dX11_refile_45 rfl rfl ?_
      refine g_iload_n hx 46 (i := 2) 1 dX11_refile_46 rfl rfl ?_
      refine g_iconst hx 47 (2) dX11_refile_47 rfl ?_
      refine g_iconst hx 48 (0) dX11_refile_48 rfl ?_
      obtain ⟨M_464, eM_464, hr⟩ := bind_e hr
      refine g_callVv hx (c_Md_lay hρ l g σ T ow M_463 v2_459 2 0 eM_464) lk_X11_84 ar_Md_lay (pM_o σ T ow ρ M_463) (T := TX11) (N := 30) rfl (As := [.int v2_459, .int 2, .int 0]) (rest := []) rfl (Nat.le_of_ble_eq_true rfl) ⟨Nat.le_of_ble_eq_true rfl, Nat.le_of_ble_eq_true rfl⟩ ⟨rfl, rfl⟩ ⟨Nat.zero_le _, Nat.zero_le _⟩ dX11_refile_49 ?_
      refine g_aload_n hx 52 (i := 0) 2 dX11_refile_52 rfl rfl ?_
      refine g_iload_n hx 53 (i := 2) 1 dX11_refile_53 rfl rfl ?_
      refine g_aload_n hx 54 (i := 0) 2 dX11_refile_54 rfl rfl ?_
      refine g_get hx 55 (C := RX11) (T := TX11) (N := 30) 12 (.int (M_464.1 12)) (pM_o σ T ow ρ M_464) rfl (by decide) rfl fl_X11_116 dX11_refile_55 ?_
      obtain ⟨M_465, eM_465, hr⟩ := bind_e hr
      refine g_callVv hx (c_Md_insert hρ l g σ T ow M_464 v2_459 (M_464.1 12) eM_465) lk_X11_88 ar_Md_insert (pM_o σ T ow ρ M_464) (T := TX11) (N := 30) rfl (As := [.int v2_459, .int (M_464.1 12)]) (rest := []) rfl (Nat.le_of_ble_eq_true rfl) ⟨Nat.le_of_ble_eq_true rfl, Nat.le_of_ble_eq_true rfl⟩ ⟨rfl, rfl⟩ ⟨Nat.zero_le _, Nat.zero_le _⟩ dX11_refile_58 ?_
      refine g_iinc hx 61 (i := 1) 3 (v1_452 + 1) [(1, .int (v1_452 + 1)), (3, .int v3_462), (2, .int v2_459), (0, .ref T)] dX11_refile_61 rfl rfl (by decide) rfl ?_
      refine g_goto hx 64 2 dX11_refile_64 (by decide) ?_
      refine g_ls [3, 0] [(0, .ref T), (1, .int (v1_452 + 1))] rfl ?_
      exact ih M_465 (v1_452 + 1) hr
set_option maxRecDepth 100000 in
set_option maxHeartbeats 4000000 in
theorem c_Md_refile {ρ : Nat} (hρ : ρ < 2) (l : Launch) (g : Gl) (σ : Hp) (T : Nat) (ow : Nat → Option Nat) (M : MdM) {r : MdM} (hr : Md_refile ρ M = some r) : MG l g md_Md_refile [.ref T] (putMd σ T ow ρ M) (rs none (putMd σ T ow ρ r)) := by
  refine MG.intro (by decide +kernel) (Nat.le_of_ble_eq_true rfl) (fun X hx hR _ => ?_)
  unfold Md_refile at hr
  refine g_ls [0] [(0, .ref T)] rfl ?_
  refine g_iconst hx 0 (0) dX11_refile_0 rfl ?_
  refine g_istore_n hx 1 (i := 1) [(1, .int 0), (0, .ref T)] dX11_refile_1 rfl (by decide) rfl ?_
  refine g_ls [1, 0] [(0, .ref T), (1, .int 0)] rfl ?_
  exact w_Md_refile_L2 hρ hx hR FU M 0 hr
def Md_serve (ρ : Nat) (M : MdM) (p1 : Int32) : Option (MdM) := Option.bind (Md_ofSlip ρ M p1 1) fun q_466 => Option.bind (Md_ofSlip ρ M p1 0) fun q_467 => Option.bind (Md_remove ρ M q_466) fun q_468 => lt' (q_468.1) fun v4_469 => Option.bind (Md_lay ρ q_468.2 q_466 2 1) fun M_470 => Option.bind (Md_lay ρ M_470 q_466 3 q_467) fun M_471 => Option.bind (Md_of ρ M_471 q_466 4) fun q_472 => Option.bind (Md_lay ρ M_471 q_466 4 (q_472 + 1)) fun M_473 => if inB (17 + q_467) 257 then (if inB (17 + q_467) 257 then (Option.bind (Md_tally ρ (setA M_473 ρ (upd (M_473.2 ρ) (17 + q_467).toNatClampNeg (((M_473.2 ρ) (17 + q_467).toNatClampNeg) + 1))) 4 1) fun M_476 => Option.bind (Md_ofSlip ρ M_476 p1 2) fun q_478 => Option.bind (Md_tally ρ M_476 10 (((M_476.2 ρ) (0 : Int32).toNatClampNeg) - q_478)) fun M_479 => Option.bind (Md_removeSlip ρ M_479 p1) fun M_480 => some (M_480)) else none) else none
set_option maxRecDepth 100000 in
set_option maxHeartbeats 4000000 in
theorem c_Md_serve {ρ : Nat} (hρ : ρ < 2) (l : Launch) (g : Gl) (σ : Hp) (T : Nat) (ow : Nat → Option Nat) (M : MdM) (p1 : Int32) {r : MdM} (hr : Md_serve ρ M p1 = some r) : MG l g md_Md_serve [.ref T, .int p1] (putMd σ T ow ρ M) (rs none (putMd σ T ow ρ r)) := by
  refine MG.intro (by decide +kernel) (Nat.le_of_ble_eq_true rfl) (fun X hx hR _ => ?_)
  unfold Md_serve at hr
  refine g_ls [0, 1] [(0, .ref T), (1, .int p1)] rfl ?_
  refine g_aload_n hx 0 (i := 0) 0 dX11_serve_0 rfl rfl ?_
  refine g_iload_n hx 1 (i := 1) 1 dX11_serve_1 rfl rfl ?_
  refine g_iconst hx 2 (1) dX11_serve_2 rfl ?_
  obtain ⟨q_466, eq_466, hr⟩ := bind_e hr
  refine g_callVr hx (c_Md_ofSlip hρ l g σ T ow M p1 1 eq_466) lk_X11_130 ar_Md_ofSlip (pM_o σ T ow ρ M) (T := TX11) (N := 30) rfl (As := [.int p1, .int 1]) (rest := []) rfl (Nat.le_of_ble_eq_true rfl) ⟨Nat.le_of_ble_eq_true rfl, Nat.le_of_ble_eq_true rfl⟩ ⟨rfl, rfl⟩ ⟨Nat.zero_le _, Nat.zero_le _⟩ dX11_serve_3 ?_
  refine g_istore_n hx 6 (i := 2) [(2, .int q_466), (0, .ref T), (1, .int p1)] dX11_serve_6 rfl (by decide) rfl ?_
  refine g_aload_n hx 7 (i := 0) 1 dX11_serve_7 rfl rfl ?_
  refine g_iload_n hx 8 (i := 1) 2 dX11_serve_8 rfl rfl ?_
  refine g_iconst hx 9 (0) dX11_serve_9 rfl ?_
  obtain ⟨q_467, eq_467, hr⟩ := bind_e hr
  refine g_callVr hx (c_Md_ofSlip hρ l g σ T ow M p1 0 eq_467) lk_X11_130 ar_Md_ofSlip (pM_o σ T ow ρ M) (T := TX11) (N := 30) rfl (As := [.int p1, .int 0]) (rest := []) rfl (Nat.le_of_ble_eq_true rfl) ⟨Nat.le_of_ble_eq_true rfl, Nat.le_of_ble_eq_true rfl⟩ ⟨rfl, rfl⟩ ⟨Nat.zero_le _, Nat.zero_le _⟩ dX11_serve_10 ?_
  refine g_istore_n hx 13 (i := 3) [(3, .int q_467), (2, .int q_466), (0, .ref T), (1, .int p1)] dX11_serve_13 rfl (by decide) rfl ?_
  refine g_aload_n hx 14 (i := 0) 2 dX11_serve_14 rfl rfl ?_
  refine g_iload_n hx 15 (i := 2) 1 dX11_serve_15 rfl rfl ?_
  obtain ⟨q_468, eq_468, hr⟩ := bind_e hr
  refine g_callVr hx (c_Md_remove hρ l g σ T ow M q_466 eq_468) lk_X11_142 ar_Md_remove (pM_o σ T ow ρ M) (T := TX11) (N := 30) rfl (As := [.int q_466]) (rest := []) rfl (Nat.le_of_ble_eq_true rfl) ⟨Nat.le_of_ble_eq_true rfl, Nat.le_of_ble_eq_true rfl⟩ ⟨rfl, rfl⟩ ⟨Nat.zero_le _, Nat.zero_le _⟩ dX11_serve_16 ?_
  obtain ⟨v4_469, ev4_469, hr⟩ := lt'_e hr
  refine g_nmi ev4_469 ?_
  refine g_istore hx 19 (i := 4) [(4, .int v4_469), (3, .int q_467), (2, .int q_466), (0, .ref T), (1, .int p1)] dX11_serve_19 (by decide) rfl ?_
  refine g_aload_n hx 21 (i := 0) 3 dX11_serve_21 rfl rfl ?_
  refine g_iload_n hx 22 (i := 2) 2 dX11_serve_22 rfl rfl ?_
  refine g_iconst hx 23 (2) dX11_serve_23 rfl ?_
  refine g_iconst hx 24 (1) dX11_serve_24 rfl ?_
  obtain ⟨M_470, eM_470, hr⟩ := bind_e hr
  refine g_callVv hx (c_Md_lay hρ l g σ T ow q_468.2 q_466 2 1 eM_470) lk_X11_84 ar_Md_lay (pM_o σ T ow ρ q_468.2) (T := TX11) (N := 30) rfl (As := [.int q_466, .int 2, .int 1]) (rest := []) rfl (Nat.le_of_ble_eq_true rfl) ⟨Nat.le_of_ble_eq_true rfl, Nat.le_of_ble_eq_true rfl⟩ ⟨rfl, rfl⟩ ⟨Nat.zero_le _, Nat.zero_le _⟩ dX11_serve_25 ?_
  refine g_aload_n hx 28 (i := 0) 3 dX11_serve_28 rfl rfl ?_
  refine g_iload_n hx 29 (i := 2) 2 dX11_serve_29 rfl rfl ?_
  refine g_iconst hx 30 (3) dX11_serve_30 rfl ?_
  refine g_iload_n hx 31 (i := 3) 1 dX11_serve_31 rfl rfl ?_
  obtain ⟨M_471, eM_471, hr⟩ := bind_e hr
  refine g_callVv hx (c_Md_lay hρ l g σ T ow M_470 q_466 3 q_467 eM_471) lk_X11_84 ar_Md_lay (pM_o σ T ow ρ M_470) (T := TX11) (N := 30) rfl (As := [.int q_466, .int 3, .int q_467]) (rest := []) rfl (Nat.le_of_ble_eq_true rfl) ⟨Nat.le_of_ble_eq_true rfl, Nat.le_of_ble_eq_true rfl⟩ ⟨rfl, rfl⟩ ⟨Nat.zero_le _, Nat.zero_le _⟩ dX11_serve_32 ?_
  refine g_aload_n hx 35 (i := 0) 3 dX11_serve_35 rfl rfl ?_
  refine g_iload_n hx 36 (i := 2) 2 dX11_serve_36 rfl rfl ?_
  refine g_iconst hx 37 (4) dX11_serve_37 rfl ?_
  refine g_aload_n hx 38 (i := 0) 3 dX11_serve_38 rfl rfl ?_
  refine g_iload_n hx 39 (i := 2) 2 dX11_serve_39 rfl rfl ?_
  refine g_iconst hx 40 (4) dX11_serve_40 rfl ?_
  obtain ⟨q_472, eq_472, hr⟩ := bind_e hr
  refine g_callVr hx (c_Md_of hρ l g σ T ow M_471 q_466 4 eq_472) lk_X11_95 ar_Md_of (pM_o σ T ow ρ M_471) (T := TX11) (N := 30) rfl (As := [.int q_466, .int 4]) (rest := [.int 4, .int q_466, .ref T]) rfl (Nat.le_of_ble_eq_true rfl) ⟨Nat.le_of_ble_eq_true rfl, Nat.le_of_ble_eq_true rfl⟩ ⟨rfl, rfl⟩ ⟨Nat.zero_le _, Nat.zero_le _⟩ dX11_serve_41 ?_
  refine g_iconst hx 44 (1) dX11_serve_44 rfl ?_
  refine g_iadd hx 45 dX11_serve_45 ?_
  obtain ⟨M_473, eM_473, hr⟩ := bind_e hr
  refine g_callVv hx (c_Md_lay hρ l g σ T ow M_471 q_466 4 (q_472 + 1) eM_473) lk_X11_84 ar_Md_lay (pM_o σ T ow ρ M_471) (T := TX11) (N := 30) rfl (As := [.int q_466, .int 4, .int (q_472 + 1)]) (rest := []) rfl (Nat.le_of_ble_eq_true rfl) ⟨Nat.le_of_ble_eq_true rfl, Nat.le_of_ble_eq_true rfl⟩ ⟨rfl, rfl⟩ ⟨Nat.zero_le _, Nat.zero_le _⟩ dX11_serve_46 ?_
  refine g_aload_n hx 49 (i := 0) 3 dX11_serve_49 rfl rfl ?_
  refine g_get hx 50 (C := RX11) (T := TX11) (N := 30) 7 (.ref (T + 1 + ρ)) (pM_o σ T ow ρ M_473) rfl (by decide) rfl fl_X11_31 dX11_serve_50 ?_
  refine g_bipush hx 53 (17) dX11_serve_53 rfl ?_
  refine g_iload_n hx 55 (i := 3) 1 dX11_serve_55 rfl rfl ?_
  refine g_iadd hx 56 dX11_serve_56 ?_
  refine g_dup2 hx 57 dX11_serve_57 rfl rfl ?_
  obtain ⟨hb_474, hr⟩ := ob hr
  refine g_iald hx 58 (pM_row hρ σ T ow M_473) hb_474 dX11_serve_58 ?_
  refine g_iconst hx 59 (1) dX11_serve_59 rfl ?_
  refine g_iadd hx 60 dX11_serve_60 ?_
  obtain ⟨hb_475, hr⟩ := ob hr
  refine g_iast hx 61 (pM_row hρ σ T ow M_473) hb_475 dX11_serve_61 ?_
  refine G.heap (pM_rs hρ σ T ow M_473 (upd (M_473.2 ρ) (17 + q_467).toNatClampNeg (((M_473.2 ρ) (17 + q_467).toNatClampNeg) + 1))) ?_
  refine g_aload_n hx 62 (i := 0) 3 dX11_serve_62 rfl rfl ?_
  refine g_iconst hx 63 (4) dX11_serve_63 rfl ?_
  refine g_iconst hx 64 (1) dX11_serve_64 rfl ?_
  obtain ⟨M_476, eM_476, hr⟩ := bind_e hr
  refine g_callVv hx (c_Md_tally hρ l g σ T ow (setA M_473 ρ (upd (M_473.2 ρ) (17 + q_467).toNatClampNeg (((M_473.2 ρ) (17 + q_467).toNatClampNeg) + 1))) 4 1 eM_476) lk_X11_139 ar_Md_tally (pM_o σ T ow ρ (setA M_473 ρ (upd (M_473.2 ρ) (17 + q_467).toNatClampNeg (((M_473.2 ρ) (17 + q_467).toNatClampNeg) + 1)))) (T := TX11) (N := 30) rfl (As := [.int 4, .int 1]) (rest := []) rfl (Nat.le_of_ble_eq_true rfl) ⟨Nat.le_of_ble_eq_true rfl, Nat.le_of_ble_eq_true rfl⟩ ⟨rfl, rfl⟩ ⟨Nat.zero_le _, Nat.zero_le _⟩ dX11_serve_65 ?_
  refine g_aload_n hx 68 (i := 0) 3 dX11_serve_68 rfl rfl ?_
  refine g_bipush hx 69 (10) dX11_serve_69 rfl ?_
  refine g_aload_n hx 71 (i := 0) 3 dX11_serve_71 rfl rfl ?_
  refine g_get hx 72 (C := RX11) (T := TX11) (N := 30) 7 (.ref (T + 1 + ρ)) (pM_o σ T ow ρ M_476) rfl (by decide) rfl fl_X11_31 dX11_serve_72 ?_
  refine g_iconst hx 75 (0) dX11_serve_75 rfl ?_
  refine g_iald hx 76 (pM_row hρ σ T ow M_476) (by decide : inB 0 257) dX11_serve_76 ?_
  refine g_aload_n hx 77 (i := 0) 3 dX11_serve_77 rfl rfl ?_
  refine g_iload_n hx 78 (i := 1) 4 dX11_serve_78 rfl rfl ?_
  refine g_iconst hx 79 (2) dX11_serve_79 rfl ?_
  obtain ⟨q_478, eq_478, hr⟩ := bind_e hr
  refine g_callVr hx (c_Md_ofSlip hρ l g σ T ow M_476 p1 2 eq_478) lk_X11_130 ar_Md_ofSlip (pM_o σ T ow ρ M_476) (T := TX11) (N := 30) rfl (As := [.int p1, .int 2]) (rest := [.int ((M_476.2 ρ) (0 : Int32).toNatClampNeg), .int 10, .ref T]) rfl (Nat.le_of_ble_eq_true rfl) ⟨Nat.le_of_ble_eq_true rfl, Nat.le_of_ble_eq_true rfl⟩ ⟨rfl, rfl⟩ ⟨Nat.zero_le _, Nat.zero_le _⟩ dX11_serve_80 ?_
  refine g_isub hx 83 dX11_serve_83 ?_
  obtain ⟨M_479, eM_479, hr⟩ := bind_e hr
  refine g_callVv hx (c_Md_tally hρ l g σ T ow M_476 10 (((M_476.2 ρ) (0 : Int32).toNatClampNeg) - q_478) eM_479) lk_X11_139 ar_Md_tally (pM_o σ T ow ρ M_476) (T := TX11) (N := 30) rfl (As := [.int 10, .int (((M_476.2 ρ) (0 : Int32).toNatClampNeg) - q_478)]) (rest := []) rfl (Nat.le_of_ble_eq_true rfl) ⟨Nat.le_of_ble_eq_true rfl, Nat.le_of_ble_eq_true rfl⟩ ⟨rfl, rfl⟩ ⟨Nat.zero_le _, Nat.zero_le _⟩ dX11_serve_84 ?_
  refine g_aload_n hx 87 (i := 0) 3 dX11_serve_87 rfl rfl ?_
  refine g_iload_n hx 88 (i := 1) 4 dX11_serve_88 rfl rfl ?_
  obtain ⟨M_480, eM_480, hr⟩ := bind_e hr
  refine g_callVv hx (c_Md_removeSlip hρ l g σ T ow M_479 p1 eM_480) lk_X11_145 ar_Md_removeSlip (pM_o σ T ow ρ M_479) (T := TX11) (N := 30) rfl (As := [.int p1]) (rest := []) rfl (Nat.le_of_ble_eq_true rfl) ⟨Nat.le_of_ble_eq_true rfl, Nat.le_of_ble_eq_true rfl⟩ ⟨rfl, rfl⟩ ⟨Nat.zero_le _, Nat.zero_le _⟩ dX11_serve_89 ?_
  exact g_vret hx hR 92 dX11_serve_92 ⟨rfl, by rw [← Option.some.inj hr] <;> rfl⟩
def Md_search (ρ : Nat) (M : MdM) (p1 : Int32) : Option (Int32 × MdM) := Option.bind (Md_ofSlip ρ M p1 3) fun q_481 => if q_481 < 2 then (Option.bind (Md_ofSlip ρ M p1 1) fun q_483 => Option.bind (Md_of ρ M q_483 0) fun q_484 => Option.bind (Md_halve ρ M q_484) fun q_485 => if q_485.1 = (-1) then (Option.bind (Md_tally ρ q_485.2 7 (q_485.2.1 11)) fun M_487 => some ((0, M_487))) else (Option.bind (Md_tally ρ q_485.2 7 (q_485.2.1 11)) fun M_488 => some ((1, M_488)))) else (Option.bind (Md_tally ρ M 6 1) fun M_489 => some ((1, M_489)))
set_option maxRecDepth 100000 in
set_option maxHeartbeats 4000000 in
theorem c_Md_search {ρ : Nat} (hρ : ρ < 2) (l : Launch) (g : Gl) (σ : Hp) (T : Nat) (ow : Nat → Option Nat) (M : MdM) (p1 : Int32) {r : Int32 × MdM} (hr : Md_search ρ M p1 = some r) : MG l g md_Md_search [.ref T, .int p1] (putMd σ T ow ρ M) (rs (some (.int r.1)) (putMd σ T ow ρ r.2)) := by
  refine MG.intro (by decide +kernel) (Nat.le_of_ble_eq_true rfl) (fun X hx hR _ => ?_)
  unfold Md_search at hr
  refine g_ls [0, 1] [(0, .ref T), (1, .int p1)] rfl ?_
  refine g_aload_n hx 0 (i := 0) 0 dX11_search_0 rfl rfl ?_
  refine g_iload_n hx 1 (i := 1) 1 dX11_search_1 rfl rfl ?_
  refine g_iconst hx 2 (3) dX11_search_2 rfl ?_
  obtain ⟨q_481, eq_481, hr⟩ := bind_e hr
  refine g_callVr hx (c_Md_ofSlip hρ l g σ T ow M p1 3 eq_481) lk_X11_130 ar_Md_ofSlip (pM_o σ T ow ρ M) (T := TX11) (N := 30) rfl (As := [.int p1, .int 3]) (rest := []) rfl (Nat.le_of_ble_eq_true rfl) ⟨Nat.le_of_ble_eq_true rfl, Nat.le_of_ble_eq_true rfl⟩ ⟨rfl, rfl⟩ ⟨Nat.zero_le _, Nat.zero_le _⟩ dX11_search_3 ?_
  refine g_iconst hx 6 (2) dX11_search_6 rfl ?_
  refine g_icmp_lt hx 7 19 dX11_search_7 (by decide) (fun hc_482 => ?_) (fun hc_482 => ?_)
  · have hr := (if_pos hc_482).symm.trans hr
    refine g_aload_n hx 19 (i := 0) 0 dX11_search_19 rfl rfl ?_
    refine g_aload_n hx 20 (i := 0) 0 dX11_search_20 rfl rfl ?_
    refine g_aload_n hx 21 (i := 0) 0 dX11_search_21 rfl rfl ?_
    refine g_iload_n hx 22 (i := 1) 1 dX11_search_22 rfl rfl ?_
    refine g_iconst hx 23 (1) dX11_search_23 rfl ?_
    obtain ⟨q_483, eq_483, hr⟩ := bind_e hr
    refine g_callVr hx (c_Md_ofSlip hρ l g σ T ow M p1 1 eq_483) lk_X11_130 ar_Md_ofSlip (pM_o σ T ow ρ M) (T := TX11) (N := 30) rfl (As := [.int p1, .int 1]) (rest := [.ref T, .ref T]) rfl (Nat.le_of_ble_eq_true rfl) ⟨Nat.le_of_ble_eq_true rfl, Nat.le_of_ble_eq_true rfl⟩ ⟨rfl, rfl⟩ ⟨Nat.zero_le _, Nat.zero_le _⟩ dX11_search_24 ?_
    refine g_iconst hx 27 (0) dX11_search_27 rfl ?_
    obtain ⟨q_484, eq_484, hr⟩ := bind_e hr
    refine g_callVr hx (c_Md_of hρ l g σ T ow M q_483 0 eq_484) lk_X11_95 ar_Md_of (pM_o σ T ow ρ M) (T := TX11) (N := 30) rfl (As := [.int q_483, .int 0]) (rest := [.ref T]) rfl (Nat.le_of_ble_eq_true rfl) ⟨Nat.le_of_ble_eq_true rfl, Nat.le_of_ble_eq_true rfl⟩ ⟨rfl, rfl⟩ ⟨Nat.zero_le _, Nat.zero_le _⟩ dX11_search_28 ?_
    obtain ⟨q_485, eq_485, hr⟩ := bind_e hr
    refine g_callVr hx (c_Md_halve hρ l g σ T ow M q_484 eq_485) lk_X11_119 ar_Md_halve (pM_o σ T ow ρ M) (T := TX11) (N := 30) rfl (As := [.int q_484]) (rest := []) rfl (Nat.le_of_ble_eq_true rfl) ⟨Nat.le_of_ble_eq_true rfl, Nat.le_of_ble_eq_true rfl⟩ ⟨rfl, rfl⟩ ⟨Nat.zero_le _, Nat.zero_le _⟩ dX11_search_31 ?_
    refine g_iconst hx 34 (-1) dX11_search_34 rfl ?_
    refine g_icmp_eq hx 35 42 dX11_search_35 (by decide) (fun hc_486 => ?_) (fun hc_486 => ?_)
    · have hr := (if_pos hc_486).symm.trans hr
      refine g_iconst hx 42 (0) dX11_search_42 rfl ?_
      refine g_istore_n hx 43 (i := 2) [(2, .int 0), (0, .ref T), (1, .int p1)] dX11_search_43 rfl (by decide) rfl ?_
      refine g_aload_n hx 44 (i := 0) 1 dX11_search_44 rfl rfl ?_
      refine g_bipush hx 45 (7) dX11_search_45 rfl ?_
      refine g_aload_n hx 47 (i := 0) 1 dX11_search_47 rfl rfl ?_
      refine g_get hx 48 (C := RX11) (T := TX11) (N := 30) 11 (.int (q_485.2.1 11)) (pM_o σ T ow ρ q_485.2) rfl (by decide) rfl fl_X11_113 dX11_search_48 ?_
      obtain ⟨M_487, eM_487, hr⟩ := bind_e hr
      refine g_callVv hx (c_Md_tally hρ l g σ T ow q_485.2 7 (q_485.2.1 11) eM_487) lk_X11_139 ar_Md_tally (pM_o σ T ow ρ q_485.2) (T := TX11) (N := 30) rfl (As := [.int 7, .int (q_485.2.1 11)]) (rest := []) rfl (Nat.le_of_ble_eq_true rfl) ⟨Nat.le_of_ble_eq_true rfl, Nat.le_of_ble_eq_true rfl⟩ ⟨rfl, rfl⟩ ⟨Nat.zero_le _, Nat.zero_le _⟩ dX11_search_51 ?_
      refine g_iload_n hx 54 (i := 2) 0 dX11_search_54 rfl rfl ?_
      exact g_zret hx hR 55 (Or.inl rfl) dX11_search_55 ⟨by rw [← Option.some.inj hr] <;> rfl, by rw [← Option.some.inj hr] <;> rfl⟩
    · have hr := (if_neg hc_486).symm.trans hr
      refine g_iconst hx 38 (1) dX11_search_38 rfl ?_
      refine g_goto hx 39 43 dX11_search_39 (by decide) ?_
      refine g_istore_n hx 43 (i := 2) [(2, .int 1), (0, .ref T), (1, .int p1)] dX11_search_43 rfl (by decide) rfl ?_
      refine g_aload_n hx 44 (i := 0) 1 dX11_search_44 rfl rfl ?_
      refine g_bipush hx 45 (7) dX11_search_45 rfl ?_
      refine g_aload_n hx 47 (i := 0) 1 dX11_search_47 rfl rfl ?_
      refine g_get hx 48 (C := RX11) (T := TX11) (N := 30) 11 (.int (q_485.2.1 11)) (pM_o σ T ow ρ q_485.2) rfl (by decide) rfl fl_X11_113 dX11_search_48 ?_
      obtain ⟨M_488, eM_488, hr⟩ := bind_e hr
      refine g_callVv hx (c_Md_tally hρ l g σ T ow q_485.2 7 (q_485.2.1 11) eM_488) lk_X11_139 ar_Md_tally (pM_o σ T ow ρ q_485.2) (T := TX11) (N := 30) rfl (As := [.int 7, .int (q_485.2.1 11)]) (rest := []) rfl (Nat.le_of_ble_eq_true rfl) ⟨Nat.le_of_ble_eq_true rfl, Nat.le_of_ble_eq_true rfl⟩ ⟨rfl, rfl⟩ ⟨Nat.zero_le _, Nat.zero_le _⟩ dX11_search_51 ?_
      refine g_iload_n hx 54 (i := 2) 0 dX11_search_54 rfl rfl ?_
      exact g_zret hx hR 55 (Or.inr rfl) dX11_search_55 ⟨by rw [← Option.some.inj hr] <;> rfl, by rw [← Option.some.inj hr] <;> rfl⟩
  · have hr := (if_neg hc_482).symm.trans hr
    refine g_aload_n hx 10 (i := 0) 0 dX11_search_10 rfl rfl ?_
    refine g_bipush hx 11 (6) dX11_search_11 rfl ?_
    refine g_iconst hx 13 (1) dX11_search_13 rfl ?_
    obtain ⟨M_489, eM_489, hr⟩ := bind_e hr
    refine g_callVv hx (c_Md_tally hρ l g σ T ow M 6 1 eM_489) lk_X11_139 ar_Md_tally (pM_o σ T ow ρ M) (T := TX11) (N := 30) rfl (As := [.int 6, .int 1]) (rest := []) rfl (Nat.le_of_ble_eq_true rfl) ⟨Nat.le_of_ble_eq_true rfl, Nat.le_of_ble_eq_true rfl⟩ ⟨rfl, rfl⟩ ⟨Nat.zero_le _, Nat.zero_le _⟩ dX11_search_14 ?_
    refine g_iconst hx 17 (1) dX11_search_17 rfl ?_
    exact g_zret hx hR 18 (Or.inr rfl) dX11_search_18 ⟨by rw [← Option.some.inj hr] <;> rfl, by rw [← Option.some.inj hr] <;> rfl⟩
def Md_searchAll_L4 (ρ : Nat) : Nat → MdM → Int32 → Int32 → Int32 → Option (MdM)
  | 0, _, _, _, _ => none
  | n + 1, M, v1_490, v2_491, v3_492 => if (M.2 ρ) (8 : Int32).toNatClampNeg ≤ v3_492 then (some (M)) else (if v1_490 ≤ v2_491 then (some (M)) else (Option.bind (Md_idleness ρ M v3_492) fun q_496 => if q_496 = 0 then (Option.bind (Md_search ρ M v3_492) fun q_498 => if q_498.1 = 0 then (Option.bind (Md_tally ρ q_498.2 5 1) fun M_500 => if inB ((193 + (4 * v3_492)) + 3) 257 then (if inB ((193 + (4 * v3_492)) + 3) 257 then (Md_searchAll_L4 ρ n (setA M_500 ρ (upd (M_500.2 ρ) ((193 + (4 * v3_492)) + 3).toNatClampNeg (((M_500.2 ρ) ((193 + (4 * v3_492)) + 3).toNatClampNeg) + 1))) v1_490 (v2_491 + 1) (v3_492 + 1)) else none) else none) else (Option.bind (Md_serve ρ q_498.2 v3_492) fun M_503 => Md_searchAll_L4 ρ n M_503 v1_490 (v2_491 + 1) v3_492)) else (Md_searchAll_L4 ρ n M v1_490 v2_491 (v3_492 + 1))))
def Md_searchAll (ρ : Nat) (M : MdM) (p1 : Int32) : Option (MdM) := Md_searchAll_L4 ρ FU M p1 0 0
set_option maxRecDepth 100000 in
set_option maxHeartbeats 4000000 in
theorem w_Md_searchAll_L4 {ρ : Nat} (hρ : ρ < 2) {X : Cx} {l : Launch} {g : Gl} (hx : Ok X l g RX11 cX11_searchAll 4 md_Md_searchAll.rm) {σ : Hp} {T : Nat} {ow : Nat → Option Nat} {r : MdM} (hR : Ret X (rs none (putMd σ T ow ρ r)) 0 0 (none)) : ∀ (n : Nat) (M : MdM) (v1_490 v2_491 v3_492 : Int32), Md_searchAll_L4 ρ n M v1_490 v2_491 v3_492 = some r → G X (putMd σ T ow ρ M) 0 0 4 [(0, .ref T), (1, .int v1_490), (2, .int v2_491), (3, .int v3_492)] [] := by
  intro n
  induction n with
  | zero =>
    intro M v1_490 v2_491 v3_492 hr
    rw [Md_searchAll_L4] at hr
    cases hr
  | succ n ih =>
    intro M v1_490 v2_491 v3_492 hr
    rw [Md_searchAll_L4] at hr
    refine g_iload_n hx 4 (i := 3) 3 dX11_searchAll_4 rfl rfl ?_
    refine g_aload_n hx 5 (i := 0) 0 dX11_searchAll_5 rfl rfl ?_
    refine g_get hx 6 (C := RX11) (T := TX11) (N := 30) 7 (.ref (T + 1 + ρ)) (pM_o σ T ow ρ M) rfl (by decide) rfl fl_X11_31 dX11_searchAll_6 ?_
    refine g_bipush hx 9 (8) dX11_searchAll_9 rfl ?_
    refine g_iald hx 11 (pM_row hρ σ T ow M) (by decide : inB 8 257) dX11_searchAll_11 ?_
    refine g_icmp_ge hx 12 83 dX11_searchAll_12 (by decide) (fun hc_494 => ?_) (fun hc_494 => ?_)
    · have hr := (if_pos hc_494).symm.trans hr
      exact g_vret hx hR 83 dX11_searchAll_83 ⟨rfl, by rw [← Option.some.inj hr] <;> rfl⟩
    · have hr := (if_neg hc_494).symm.trans hr
      refine g_iload_n hx 15 (i := 2) 2 dX11_searchAll_15 rfl rfl ?_
      refine g_iload_n hx 16 (i := 1) 1 dX11_searchAll_16 rfl rfl ?_
      refine g_icmp_ge hx 17 83 dX11_searchAll_17 (by decide) (fun hc_495 => ?_) (fun hc_495 => ?_)
      · have hr := (if_pos hc_495).symm.trans hr
        exact g_vret hx hR 83 dX11_searchAll_83 ⟨rfl, by rw [← Option.some.inj hr] <;> rfl⟩
      · have hr := (if_neg hc_495).symm.trans hr
        refine g_aload_n hx 20 (i := 0) 0 dX11_searchAll_20 rfl rfl ?_
        refine g_iload_n hx 21 (i := 3) 3 dX11_searchAll_21 rfl rfl ?_
        obtain ⟨q_496, eq_496, hr⟩ := bind_e hr
        refine g_callVr hx (c_Md_idleness hρ l g σ T ow M v3_492 eq_496) lk_X11_149 ar_Md_idleness (pM_o σ T ow ρ M) (T := TX11) (N := 30) rfl (As := [.int v3_492]) (rest := []) rfl (Nat.le_of_ble_eq_true rfl) ⟨Nat.le_of_ble_eq_true rfl, Nat.le_of_ble_eq_true rfl⟩ ⟨rfl, rfl⟩ ⟨Nat.zero_le _, Nat.zero_le _⟩ dX11_searchAll_22 ?_
        refine g_if_eq hx 25 34 dX11_searchAll_25 (by decide) (fun hc_497 => ?_) (fun hc_497 => ?_)
        · have hr := (if_pos hc_497).symm.trans hr
          refine g_iinc hx 34 (i := 2) 2 (v2_491 + 1) [(2, .int (v2_491 + 1)), (0, .ref T), (1, .int v1_490), (3, .int v3_492)] dX11_searchAll_34 rfl rfl (by decide) rfl ?_
          refine g_aload_n hx 37 (i := 0) 1 dX11_searchAll_37 rfl rfl ?_
          refine g_iload_n hx 38 (i := 3) 3 dX11_searchAll_38 rfl rfl ?_
          obtain ⟨q_498, eq_498, hr⟩ := bind_e hr
          refine g_callVr hx (c_Md_search hρ l g σ T ow M v3_492 eq_498) lk_X11_152 ar_Md_search (pM_o σ T ow ρ M) (T := TX11) (N := 30) rfl (As := [.int v3_492]) (rest := []) rfl (Nat.le_of_ble_eq_true rfl) ⟨Nat.le_of_ble_eq_true rfl, Nat.le_of_ble_eq_true rfl⟩ ⟨rfl, rfl⟩ ⟨Nat.zero_le _, Nat.zero_le _⟩ dX11_searchAll_39 ?_
          refine g_if_eq hx 42 53 dX11_searchAll_42 (by decide) (fun hc_499 => ?_) (fun hc_499 => ?_)
          · have hr := (if_pos hc_499).symm.trans hr
            refine g_aload_n hx 53 (i := 0) 1 dX11_searchAll_53 rfl rfl ?_
            refine g_iconst hx 54 (5) dX11_searchAll_54 rfl ?_
            refine g_iconst hx 55 (1) dX11_searchAll_55 rfl ?_
            obtain ⟨M_500, eM_500, hr⟩ := bind_e hr
            refine g_callVv hx (c_Md_tally hρ l g σ T ow q_498.2 5 1 eM_500) lk_X11_139 ar_Md_tally (pM_o σ T ow ρ q_498.2) (T := TX11) (N := 30) rfl (As := [.int 5, .int 1]) (rest := []) rfl (Nat.le_of_ble_eq_true rfl) ⟨Nat.le_of_ble_eq_true rfl, Nat.le_of_ble_eq_true rfl⟩ ⟨rfl, rfl⟩ ⟨Nat.zero_le _, Nat.zero_le _⟩ dX11_searchAll_56 ?_
            refine g_aload_n hx 59 (i := 0) 1 dX11_searchAll_59 rfl rfl ?_
            refine g_get hx 60 (C := RX11) (T := TX11) (N := 30) 7 (.ref (T + 1 + ρ)) (pM_o σ T ow ρ M_500) rfl (by decide) rfl fl_X11_31 dX11_searchAll_60 ?_
            refine g_sipush hx 63 (193) dX11_searchAll_63 rfl ?_
            refine g_iconst hx 66 (4) dX11_searchAll_66 rfl ?_
            refine g_iload_n hx 67 (i := 3) 3 dX11_searchAll_67 rfl rfl ?_
            refine g_imul hx 68 dX11_searchAll_68 ?_
            refine g_iadd hx 69 dX11_searchAll_69 ?_
            refine g_iconst hx 70 (3) dX11_searchAll_70 rfl ?_
            refine g_iadd hx 71 dX11_searchAll_71 ?_
            refine g_dup2 hx 72 dX11_searchAll_72 rfl rfl ?_
            obtain ⟨hb_501, hr⟩ := ob hr
            refine g_iald hx 73 (pM_row hρ σ T ow M_500) hb_501 dX11_searchAll_73 ?_
            refine g_iconst hx 74 (1) dX11_searchAll_74 rfl ?_
            refine g_iadd hx 75 dX11_searchAll_75 ?_
            obtain ⟨hb_502, hr⟩ := ob hr
            refine g_iast hx 76 (pM_row hρ σ T ow M_500) hb_502 dX11_searchAll_76 ?_
            refine G.heap (pM_rs hρ σ T ow M_500 (upd (M_500.2 ρ) ((193 + (4 * v3_492)) + 3).toNatClampNeg (((M_500.2 ρ) ((193 + (4 * v3_492)) + 3).toNatClampNeg) + 1))) ?_
            refine g_iinc hx 77 (i := 3) 3 (v3_492 + 1) [(3, .int (v3_492 + 1)), (2, .int (v2_491 + 1)), (0, .ref T), (1, .int v1_490)] dX11_searchAll_77 rfl rfl (by decide) rfl ?_
            refine g_goto hx 80 4 dX11_searchAll_80 (by decide) ?_
            refine g_ls [2, 3, 1, 0] [(0, .ref T), (1, .int v1_490), (2, .int (v2_491 + 1)), (3, .int (v3_492 + 1))] rfl ?_
            exact ih (setA M_500 ρ (upd (M_500.2 ρ) ((193 + (4 * v3_492)) + 3).toNatClampNeg (((M_500.2 ρ) ((193 + (4 * v3_492)) + 3).toNatClampNeg) + 1))) v1_490 (v2_491 + 1) (v3_492 + 1) hr
          · have hr := (if_neg hc_499).symm.trans hr
            refine g_aload_n hx 45 (i := 0) 1 dX11_searchAll_45 rfl rfl ?_
            refine g_iload_n hx 46 (i := 3) 3 dX11_searchAll_46 rfl rfl ?_
            obtain ⟨M_503, eM_503, hr⟩ := bind_e hr
            refine g_callVv hx (c_Md_serve hρ l g σ T ow q_498.2 v3_492 eM_503) lk_X11_155 ar_Md_serve (pM_o σ T ow ρ q_498.2) (T := TX11) (N := 30) rfl (As := [.int v3_492]) (rest := []) rfl (Nat.le_of_ble_eq_true rfl) ⟨Nat.le_of_ble_eq_true rfl, Nat.le_of_ble_eq_true rfl⟩ ⟨rfl, rfl⟩ ⟨Nat.zero_le _, Nat.zero_le _⟩ dX11_searchAll_47 ?_
            refine g_goto hx 50 4 dX11_searchAll_50 (by decide) ?_
            refine g_ls [1, 2, 0, 3] [(0, .ref T), (1, .int v1_490), (2, .int (v2_491 + 1)), (3, .int v3_492)] rfl ?_
            exact ih M_503 v1_490 (v2_491 + 1) v3_492 hr
        · have hr := (if_neg hc_497).symm.trans hr
          refine g_iinc hx 28 (i := 3) 3 (v3_492 + 1) [(3, .int (v3_492 + 1)), (0, .ref T), (1, .int v1_490), (2, .int v2_491)] dX11_searchAll_28 rfl rfl (by decide) rfl ?_
          refine g_goto hx 31 4 dX11_searchAll_31 (by decide) ?_
          refine g_ls [1, 2, 3, 0] [(0, .ref T), (1, .int v1_490), (2, .int v2_491), (3, .int (v3_492 + 1))] rfl ?_
          exact ih M v1_490 v2_491 (v3_492 + 1) hr
set_option maxRecDepth 100000 in
set_option maxHeartbeats 4000000 in
theorem c_Md_searchAll {ρ : Nat} (hρ : ρ < 2) (l : Launch) (g : Gl) (σ : Hp) (T : Nat) (ow : Nat → Option Nat) (M : MdM) (p1 : Int32) {r : MdM} (hr : Md_searchAll ρ M p1 = some r) : MG l g md_Md_searchAll [.ref T, .int p1] (putMd σ T ow ρ M) (rs none (putMd σ T ow ρ r)) := by
  refine MG.intro (by decide +kernel) (Nat.le_of_ble_eq_true rfl) (fun X hx hR _ => ?_)
  unfold Md_searchAll at hr
  refine g_ls [0, 1] [(0, .ref T), (1, .int p1)] rfl ?_
  refine g_iconst hx 0 (0) dX11_searchAll_0 rfl ?_
  refine g_istore_n hx 1 (i := 2) [(2, .int 0), (0, .ref T), (1, .int p1)] dX11_searchAll_1 rfl (by decide) rfl ?_
  refine g_iconst hx 2 (0) dX11_searchAll_2 rfl ?_
  refine g_istore_n hx 3 (i := 3) [(3, .int 0), (2, .int 0), (0, .ref T), (1, .int p1)] dX11_searchAll_3 rfl (by decide) rfl ?_
  refine g_ls [2, 3, 1, 0] [(0, .ref T), (1, .int p1), (2, .int 0), (3, .int 0)] rfl ?_
  exact w_Md_searchAll_L4 hρ hx hR FU M p1 0 0 hr
def Md_pass (ρ : Nat) (M : MdM) (p1 : Int32) : Option (MdM) := if ¬ ((upd (M.2 ρ) (0 : Int32).toNatClampNeg (((M.2 ρ) (0 : Int32).toNatClampNeg) + 1)) (1 : Int32).toNatClampNeg) = 0 then (if ((upd (M.2 ρ) (0 : Int32).toNatClampNeg (((M.2 ρ) (0 : Int32).toNatClampNeg) + 1)) (0 : Int32).toNatClampNeg) - ((upd (M.2 ρ) (0 : Int32).toNatClampNeg (((M.2 ρ) (0 : Int32).toNatClampNeg) + 1)) (0 : Int32).toNatClampNeg) / ((upd (M.2 ρ) (0 : Int32).toNatClampNeg (((M.2 ρ) (0 : Int32).toNatClampNeg) + 1)) (1 : Int32).toNatClampNeg) * ((upd (M.2 ρ) (0 : Int32).toNatClampNeg (((M.2 ρ) (0 : Int32).toNatClampNeg) + 1)) (1 : Int32).toNatClampNeg) = 0 then (Option.bind (Md_refile ρ (setA M ρ (upd (M.2 ρ) (0 : Int32).toNatClampNeg (((M.2 ρ) (0 : Int32).toNatClampNeg) + 1)))) fun M_510 => Option.bind (Md_searchAll ρ M_510 p1) fun M_511 => some (M_511)) else (Option.bind (Md_searchAll ρ (setA M ρ (upd (M.2 ρ) (0 : Int32).toNatClampNeg (((M.2 ρ) (0 : Int32).toNatClampNeg) + 1))) p1) fun M_512 => some (M_512))) else none
set_option maxRecDepth 100000 in
set_option maxHeartbeats 4000000 in
theorem c_Md_pass {ρ : Nat} (hρ : ρ < 2) (l : Launch) (g : Gl) (σ : Hp) (T : Nat) (ow : Nat → Option Nat) (M : MdM) (p1 : Int32) {r : MdM} (hr : Md_pass ρ M p1 = some r) : MG l g md_Md_pass [.ref T, .int p1] (putMd σ T ow ρ M) (rs none (putMd σ T ow ρ r)) := by
  refine MG.intro (by decide +kernel) (Nat.le_of_ble_eq_true rfl) (fun X hx hR _ => ?_)
  unfold Md_pass at hr
  refine g_ls [0, 1] [(0, .ref T), (1, .int p1)] rfl ?_
  refine g_aload_n hx 0 (i := 0) 0 dX11_pass_0 rfl rfl ?_
  refine g_get hx 1 (C := RX11) (T := TX11) (N := 30) 7 (.ref (T + 1 + ρ)) (pM_o σ T ow ρ M) rfl (by decide) rfl fl_X11_31 dX11_pass_1 ?_
  refine g_iconst hx 4 (0) dX11_pass_4 rfl ?_
  refine g_dup2 hx 5 dX11_pass_5 rfl rfl ?_
  refine g_iald hx 6 (pM_row hρ σ T ow M) (by decide : inB 0 257) dX11_pass_6 ?_
  refine g_iconst hx 7 (1) dX11_pass_7 rfl ?_
  refine g_iadd hx 8 dX11_pass_8 ?_
  refine g_iast hx 9 (pM_row hρ σ T ow M) (by decide : inB 0 257) dX11_pass_9 ?_
  refine G.heap (pM_rs hρ σ T ow M (upd (M.2 ρ) (0 : Int32).toNatClampNeg (((M.2 ρ) (0 : Int32).toNatClampNeg) + 1))) ?_
  refine g_aload_n hx 10 (i := 0) 0 dX11_pass_10 rfl rfl ?_
  refine g_get hx 11 (C := RX11) (T := TX11) (N := 30) 7 (.ref (T + 1 + ρ)) (pM_o σ T ow ρ (setA M ρ (upd (M.2 ρ) (0 : Int32).toNatClampNeg (((M.2 ρ) (0 : Int32).toNatClampNeg) + 1)))) rfl (by decide) rfl fl_X11_31 dX11_pass_11 ?_
  refine g_iconst hx 14 (0) dX11_pass_14 rfl ?_
  refine g_iald hx 15 (pM_row' hρ σ T ow (setA M ρ (upd (M.2 ρ) (0 : Int32).toNatClampNeg (((M.2 ρ) (0 : Int32).toNatClampNeg) + 1))) (upd (M.2 ρ) (0 : Int32).toNatClampNeg (((M.2 ρ) (0 : Int32).toNatClampNeg) + 1)) (setA_s M ρ _)) (by decide : inB 0 257) dX11_pass_15 ?_
  refine g_aload_n hx 16 (i := 0) 0 dX11_pass_16 rfl rfl ?_
  refine g_get hx 17 (C := RX11) (T := TX11) (N := 30) 7 (.ref (T + 1 + ρ)) (pM_o σ T ow ρ (setA M ρ (upd (M.2 ρ) (0 : Int32).toNatClampNeg (((M.2 ρ) (0 : Int32).toNatClampNeg) + 1)))) rfl (by decide) rfl fl_X11_31 dX11_pass_17 ?_
  refine g_iconst hx 20 (1) dX11_pass_20 rfl ?_
  refine g_iald hx 21 (pM_row' hρ σ T ow (setA M ρ (upd (M.2 ρ) (0 : Int32).toNatClampNeg (((M.2 ρ) (0 : Int32).toNatClampNeg) + 1))) (upd (M.2 ρ) (0 : Int32).toNatClampNeg (((M.2 ρ) (0 : Int32).toNatClampNeg) + 1)) (setA_s M ρ _)) (by decide : inB 1 257) dX11_pass_21 ?_
  obtain ⟨hz_508, hr⟩ := ob hr
  refine g_irem hx 22 dX11_pass_22 hz_508 ?_
  refine g_if_ne hx 23 30 dX11_pass_23 (by decide) (fun hc_509 => ?_) (fun hc_509 => ?_)
  · have hr := (if_neg hc_509).symm.trans hr
    refine g_aload_n hx 30 (i := 0) 0 dX11_pass_30 rfl rfl ?_
    refine g_iload_n hx 31 (i := 1) 1 dX11_pass_31 rfl rfl ?_
    obtain ⟨M_512, eM_512, hr⟩ := bind_e hr
    refine g_callVv hx (c_Md_searchAll hρ l g σ T ow (setA M ρ (upd (M.2 ρ) (0 : Int32).toNatClampNeg (((M.2 ρ) (0 : Int32).toNatClampNeg) + 1))) p1 eM_512) lk_X11_161 ar_Md_searchAll (pM_o σ T ow ρ (setA M ρ (upd (M.2 ρ) (0 : Int32).toNatClampNeg (((M.2 ρ) (0 : Int32).toNatClampNeg) + 1)))) (T := TX11) (N := 30) rfl (As := [.int p1]) (rest := []) rfl (Nat.le_of_ble_eq_true rfl) ⟨Nat.le_of_ble_eq_true rfl, Nat.le_of_ble_eq_true rfl⟩ ⟨rfl, rfl⟩ ⟨Nat.zero_le _, Nat.zero_le _⟩ dX11_pass_32 ?_
    exact g_vret hx hR 35 dX11_pass_35 ⟨rfl, by rw [← Option.some.inj hr] <;> rfl⟩
  · have hr := (if_pos hc_509).symm.trans hr
    refine g_aload_n hx 26 (i := 0) 0 dX11_pass_26 rfl rfl ?_
    obtain ⟨M_510, eM_510, hr⟩ := bind_e hr
    refine g_callVv hx (c_Md_refile hρ l g σ T ow (setA M ρ (upd (M.2 ρ) (0 : Int32).toNatClampNeg (((M.2 ρ) (0 : Int32).toNatClampNeg) + 1))) eM_510) lk_X11_158 ar_Md_refile (pM_o σ T ow ρ (setA M ρ (upd (M.2 ρ) (0 : Int32).toNatClampNeg (((M.2 ρ) (0 : Int32).toNatClampNeg) + 1)))) (T := TX11) (N := 30) rfl (As := []) (rest := []) rfl (Nat.le_of_ble_eq_true rfl) ⟨Nat.le_of_ble_eq_true rfl, Nat.le_of_ble_eq_true rfl⟩ ⟨rfl, rfl⟩ ⟨Nat.zero_le _, Nat.zero_le _⟩ dX11_pass_27 ?_
    refine g_aload_n hx 30 (i := 0) 0 dX11_pass_30 rfl rfl ?_
    refine g_iload_n hx 31 (i := 1) 1 dX11_pass_31 rfl rfl ?_
    obtain ⟨M_511, eM_511, hr⟩ := bind_e hr
    refine g_callVv hx (c_Md_searchAll hρ l g σ T ow M_510 p1 eM_511) lk_X11_161 ar_Md_searchAll (pM_o σ T ow ρ M_510) (T := TX11) (N := 30) rfl (As := [.int p1]) (rest := []) rfl (Nat.le_of_ble_eq_true rfl) ⟨Nat.le_of_ble_eq_true rfl, Nat.le_of_ble_eq_true rfl⟩ ⟨rfl, rfl⟩ ⟨Nat.zero_le _, Nat.zero_le _⟩ dX11_pass_32 ?_
    exact g_vret hx hR 35 dX11_pass_35 ⟨rfl, by rw [← Option.some.inj hr] <;> rfl⟩
def Md_passOn_L9 (ρ : Nat) : Nat → MdM → Int32 → Int32 → Int32 → Int32 → Option (Int32 × MdM)
  | 0, _, _, _, _, _ => none
  | n + 1, M, v1_514, v2_515, v3_516, v4_517 => if v1_514 ≤ v4_517 then (Option.bind (Md_tallied ρ M 4) fun q_519 => some ((q_519 - v3_516, M))) else (Option.bind (Md_pass ρ M v2_515) fun M_520 => Md_passOn_L9 ρ n M_520 v1_514 v2_515 v3_516 (v4_517 + 1))
def Md_passOn (ρ : Nat) (M : MdM) (p1 p2 : Int32) : Option (Int32 × MdM) := Option.bind (Md_tallied ρ M 4) fun q_513 => Md_passOn_L9 ρ FU M p1 p2 q_513 0
set_option maxRecDepth 100000 in
set_option maxHeartbeats 4000000 in
theorem w_Md_passOn_L9 {ρ : Nat} (hρ : ρ < 2) {X : Cx} {l : Launch} {g : Gl} (hx : Ok X l g RX11 cX11_passOn 5 md_Md_passOn.rm) {σ : Hp} {T : Nat} {ow : Nat → Option Nat} {r : Int32 × MdM} (hR : Ret X (rs (some (.int r.1)) (putMd σ T ow ρ r.2)) 0 0 (some .int)) : ∀ (n : Nat) (M : MdM) (v1_514 v2_515 v3_516 v4_517 : Int32), Md_passOn_L9 ρ n M v1_514 v2_515 v3_516 v4_517 = some r → G X (putMd σ T ow ρ M) 0 0 9 [(0, .ref T), (1, .int v1_514), (2, .int v2_515), (3, .int v3_516), (4, .int v4_517)] [] := by
  intro n
  induction n with
  | zero =>
    intro M v1_514 v2_515 v3_516 v4_517 hr
    rw [Md_passOn_L9] at hr
    cases hr
  | succ n ih =>
    intro M v1_514 v2_515 v3_516 v4_517 hr
    rw [Md_passOn_L9] at hr
    refine g_iload hx 9 (i := 4) 4 dX11_passOn_9 rfl ?_
    refine g_iload_n hx 11 (i := 1) 1 dX11_passOn_11 rfl rfl ?_
    refine g_icmp_ge hx 12 26 dX11_passOn_12 (by decide) (fun hc_518 => ?_) (fun hc_518 => ?_)
    · have hr := (if_pos hc_518).symm.trans hr
      refine g_aload_n hx 26 (i := 0) 0 dX11_passOn_26 rfl rfl ?_
      refine g_iconst hx 27 (4) dX11_passOn_27 rfl ?_
      obtain ⟨q_519, eq_519, hr⟩ := bind_e hr
      refine g_callVr hx (c_Md_tallied hρ l g σ T ow M 4 eq_519) lk_X11_164 ar_Md_tallied (pM_o σ T ow ρ M) (T := TX11) (N := 30) rfl (As := [.int 4]) (rest := []) rfl (Nat.le_of_ble_eq_true rfl) ⟨Nat.le_of_ble_eq_true rfl, Nat.le_of_ble_eq_true rfl⟩ ⟨rfl, rfl⟩ ⟨Nat.zero_le _, Nat.zero_le _⟩ dX11_passOn_28 ?_
      refine g_iload_n hx 31 (i := 3) 3 dX11_passOn_31 rfl rfl ?_
      refine g_isub hx 32 dX11_passOn_32 ?_
      exact g_iret hx hR 33 dX11_passOn_33 ⟨by rw [← Option.some.inj hr] <;> rfl, by rw [← Option.some.inj hr] <;> rfl⟩
    · have hr := (if_neg hc_518).symm.trans hr
      refine g_aload_n hx 15 (i := 0) 0 dX11_passOn_15 rfl rfl ?_
      refine g_iload_n hx 16 (i := 2) 2 dX11_passOn_16 rfl rfl ?_
      obtain ⟨M_520, eM_520, hr⟩ := bind_e hr
      refine g_callVv hx (c_Md_pass hρ l g σ T ow M v2_515 eM_520) lk_X11_167 ar_Md_pass (pM_o σ T ow ρ M) (T := TX11) (N := 30) rfl (As := [.int v2_515]) (rest := []) rfl (Nat.le_of_ble_eq_true rfl) ⟨Nat.le_of_ble_eq_true rfl, Nat.le_of_ble_eq_true rfl⟩ ⟨rfl, rfl⟩ ⟨Nat.zero_le _, Nat.zero_le _⟩ dX11_passOn_17 ?_
      refine g_iinc hx 20 (i := 4) 4 (v4_517 + 1) [(4, .int (v4_517 + 1)), (0, .ref T), (1, .int v1_514), (2, .int v2_515), (3, .int v3_516)] dX11_passOn_20 rfl rfl (by decide) rfl ?_
      refine g_goto hx 23 9 dX11_passOn_23 (by decide) ?_
      refine g_ls [1, 2, 3, 4, 0] [(0, .ref T), (1, .int v1_514), (2, .int v2_515), (3, .int v3_516), (4, .int (v4_517 + 1))] rfl ?_
      exact ih M_520 v1_514 v2_515 v3_516 (v4_517 + 1) hr
set_option maxRecDepth 100000 in
set_option maxHeartbeats 4000000 in
theorem c_Md_passOn {ρ : Nat} (hρ : ρ < 2) (l : Launch) (g : Gl) (σ : Hp) (T : Nat) (ow : Nat → Option Nat) (M : MdM) (p1 p2 : Int32) {r : Int32 × MdM} (hr : Md_passOn ρ M p1 p2 = some r) : MG l g md_Md_passOn [.ref T, .int p1, .int p2] (putMd σ T ow ρ M) (rs (some (.int r.1)) (putMd σ T ow ρ r.2)) := by
  refine MG.intro (by decide +kernel) (Nat.le_of_ble_eq_true rfl) (fun X hx hR _ => ?_)
  unfold Md_passOn at hr
  refine g_ls [0, 1, 2] [(0, .ref T), (1, .int p1), (2, .int p2)] rfl ?_
  refine g_aload_n hx 0 (i := 0) 0 dX11_passOn_0 rfl rfl ?_
  refine g_iconst hx 1 (4) dX11_passOn_1 rfl ?_
  obtain ⟨q_513, eq_513, hr⟩ := bind_e hr
  refine g_callVr hx (c_Md_tallied hρ l g σ T ow M 4 eq_513) lk_X11_164 ar_Md_tallied (pM_o σ T ow ρ M) (T := TX11) (N := 30) rfl (As := [.int 4]) (rest := []) rfl (Nat.le_of_ble_eq_true rfl) ⟨Nat.le_of_ble_eq_true rfl, Nat.le_of_ble_eq_true rfl⟩ ⟨rfl, rfl⟩ ⟨Nat.zero_le _, Nat.zero_le _⟩ dX11_passOn_2 ?_
  refine g_istore_n hx 5 (i := 3) [(3, .int q_513), (0, .ref T), (1, .int p1), (2, .int p2)] dX11_passOn_5 rfl (by decide) rfl ?_
  refine g_iconst hx 6 (0) dX11_passOn_6 rfl ?_
  refine g_istore hx 7 (i := 4) [(4, .int 0), (3, .int q_513), (0, .ref T), (1, .int p1), (2, .int p2)] dX11_passOn_7 (by decide) rfl ?_
  refine g_ls [2, 3, 4, 1, 0] [(0, .ref T), (1, .int p1), (2, .int p2), (3, .int q_513), (4, .int 0)] rfl ?_
  exact w_Md_passOn_L9 hρ hx hR FU M p1 p2 q_513 0 hr
def Md_countIn_L4 (ρ : Nat) (M : MdM) : Nat → Int32 → Int32 → Int32 → Option (Int32)
  | 0, _, _, _ => none
  | n + 1, v1_521, v2_522, v3_523 => if (M.2 ρ) (5 : Int32).toNatClampNeg ≤ v3_523 then (some (v2_522)) else (Option.bind (Md_isIn ρ M v3_523 v1_521) fun q_526 => if q_526 = 0 then (lt' (v2_522 + 0) fun v2_528 => Md_countIn_L4 ρ M n v1_521 v2_528 (v3_523 + 1)) else (lt' (v2_522 + 1) fun v2_529 => Md_countIn_L4 ρ M n v1_521 v2_529 (v3_523 + 1)))
def Md_countIn (ρ : Nat) (M : MdM) (p1 : Int32) : Option (Int32) := Md_countIn_L4 ρ M FU p1 0 0
set_option maxRecDepth 100000 in
set_option maxHeartbeats 4000000 in
theorem w_Md_countIn_L4 {ρ : Nat} (hρ : ρ < 2) {X : Cx} {l : Launch} {g : Gl} (hx : Ok X l g RX11 cX11_countIn 4 md_Md_countIn.rm) {σ : Hp} {T : Nat} {ow : Nat → Option Nat} {M : MdM} {r : Int32} (hR : Ret X (rs (some (.int r)) (putMd σ T ow ρ M)) 0 0 (some .int)) : ∀ (n : Nat) (v1_521 v2_522 v3_523 : Int32), Md_countIn_L4 ρ M n v1_521 v2_522 v3_523 = some r → G X (putMd σ T ow ρ M) 0 0 4 [(0, .ref T), (1, .int v1_521), (2, .int v2_522), (3, .int v3_523)] [] := by
  intro n
  induction n with
  | zero =>
    intro v1_521 v2_522 v3_523 hr
    rw [Md_countIn_L4] at hr
    cases hr
  | succ n ih =>
    intro v1_521 v2_522 v3_523 hr
    rw [Md_countIn_L4] at hr
    refine g_iload_n hx 4 (i := 3) 3 dX11_countIn_4 rfl rfl ?_
    refine g_aload_n hx 5 (i := 0) 0 dX11_countIn_5 rfl rfl ?_
    refine g_get hx 6 (C := RX11) (T := TX11) (N := 30) 7 (.ref (T + 1 + ρ)) (pM_o σ T ow ρ M) rfl (by decide) rfl fl_X11_31 dX11_countIn_6 ?_
    refine g_iconst hx 9 (5) dX11_countIn_9 rfl ?_
    refine g_iald hx 10 (pM_row hρ σ T ow M) (by decide : inB 5 257) dX11_countIn_10 ?_
    refine g_icmp_ge hx 11 37 dX11_countIn_11 (by decide) (fun hc_525 => ?_) (fun hc_525 => ?_)
    · have hr := (if_pos hc_525).symm.trans hr
      refine g_iload_n hx 37 (i := 2) 2 dX11_countIn_37 rfl rfl ?_
      exact g_iret hx hR 38 dX11_countIn_38 ⟨by rw [← Option.some.inj hr] <;> rfl, rfl⟩
    · have hr := (if_neg hc_525).symm.trans hr
      refine g_iload_n hx 14 (i := 2) 2 dX11_countIn_14 rfl rfl ?_
      refine g_aload_n hx 15 (i := 0) 0 dX11_countIn_15 rfl rfl ?_
      refine g_iload_n hx 16 (i := 3) 3 dX11_countIn_16 rfl rfl ?_
      refine g_iload_n hx 17 (i := 1) 1 dX11_countIn_17 rfl rfl ?_
      obtain ⟨q_526, eq_526, hr⟩ := bind_e hr
      refine g_callVr hx (c_Md_isIn hρ l g σ T ow M v3_523 v1_521 eq_526) lk_X11_126 ar_Md_isIn (pM_o σ T ow ρ M) (T := TX11) (N := 30) rfl (As := [.int v3_523, .int v1_521]) (rest := [.int v2_522]) rfl (Nat.le_of_ble_eq_true rfl) ⟨Nat.le_of_ble_eq_true rfl, Nat.le_of_ble_eq_true rfl⟩ ⟨rfl, rfl⟩ ⟨Nat.zero_le _, Nat.zero_le _⟩ dX11_countIn_18 ?_
      refine g_if_eq hx 21 28 dX11_countIn_21 (by decide) (fun hc_527 => ?_) (fun hc_527 => ?_)
      · have hr := (if_pos hc_527).symm.trans hr
        refine g_iconst hx 28 (0) dX11_countIn_28 rfl ?_
        refine g_iadd hx 29 dX11_countIn_29 ?_
        obtain ⟨v2_528, ev2_528, hr⟩ := lt'_e hr
        refine g_nmi ev2_528 ?_
        refine g_istore_n hx 30 (i := 2) [(2, .int v2_528), (0, .ref T), (1, .int v1_521), (3, .int v3_523)] dX11_countIn_30 rfl (by decide) rfl ?_
        refine g_iinc hx 31 (i := 3) 3 (v3_523 + 1) [(3, .int (v3_523 + 1)), (2, .int v2_528), (0, .ref T), (1, .int v1_521)] dX11_countIn_31 rfl rfl (by decide) rfl ?_
        refine g_goto hx 34 4 dX11_countIn_34 (by decide) ?_
        refine g_ls [2, 3, 1, 0] [(0, .ref T), (1, .int v1_521), (2, .int v2_528), (3, .int (v3_523 + 1))] rfl ?_
        exact ih v1_521 v2_528 (v3_523 + 1) hr
      · have hr := (if_neg hc_527).symm.trans hr
        refine g_iconst hx 24 (1) dX11_countIn_24 rfl ?_
        refine g_goto hx 25 29 dX11_countIn_25 (by decide) ?_
        refine g_iadd hx 29 dX11_countIn_29 ?_
        obtain ⟨v2_529, ev2_529, hr⟩ := lt'_e hr
        refine g_nmi ev2_529 ?_
        refine g_istore_n hx 30 (i := 2) [(2, .int v2_529), (0, .ref T), (1, .int v1_521), (3, .int v3_523)] dX11_countIn_30 rfl (by decide) rfl ?_
        refine g_iinc hx 31 (i := 3) 3 (v3_523 + 1) [(3, .int (v3_523 + 1)), (2, .int v2_529), (0, .ref T), (1, .int v1_521)] dX11_countIn_31 rfl rfl (by decide) rfl ?_
        refine g_goto hx 34 4 dX11_countIn_34 (by decide) ?_
        refine g_ls [2, 3, 1, 0] [(0, .ref T), (1, .int v1_521), (2, .int v2_529), (3, .int (v3_523 + 1))] rfl ?_
        exact ih v1_521 v2_529 (v3_523 + 1) hr
set_option maxRecDepth 100000 in
set_option maxHeartbeats 4000000 in
theorem c_Md_countIn {ρ : Nat} (hρ : ρ < 2) (l : Launch) (g : Gl) (σ : Hp) (T : Nat) (ow : Nat → Option Nat) (M : MdM) (p1 : Int32) {r : Int32} (hr : Md_countIn ρ M p1 = some r) : MG l g md_Md_countIn [.ref T, .int p1] (putMd σ T ow ρ M) (rs (some (.int r)) (putMd σ T ow ρ M)) := by
  refine MG.intro (by decide +kernel) (Nat.le_of_ble_eq_true rfl) (fun X hx hR _ => ?_)
  unfold Md_countIn at hr
  refine g_ls [0, 1] [(0, .ref T), (1, .int p1)] rfl ?_
  refine g_iconst hx 0 (0) dX11_countIn_0 rfl ?_
  refine g_istore_n hx 1 (i := 2) [(2, .int 0), (0, .ref T), (1, .int p1)] dX11_countIn_1 rfl (by decide) rfl ?_
  refine g_iconst hx 2 (0) dX11_countIn_2 rfl ?_
  refine g_istore_n hx 3 (i := 3) [(3, .int 0), (2, .int 0), (0, .ref T), (1, .int p1)] dX11_countIn_3 rfl (by decide) rfl ?_
  refine g_ls [2, 3, 1, 0] [(0, .ref T), (1, .int p1), (2, .int 0), (3, .int 0)] rfl ?_
  exact w_Md_countIn_L4 hρ hx hR FU p1 0 0 hr
def Md_daysToRefiling (ρ : Nat) (M : MdM) : Option (Int32) := if ¬ ((M.2 ρ) (1 : Int32).toNatClampNeg) = 0 then (some (((M.2 ρ) (1 : Int32).toNatClampNeg) - (((M.2 ρ) (0 : Int32).toNatClampNeg) - ((M.2 ρ) (0 : Int32).toNatClampNeg) / ((M.2 ρ) (1 : Int32).toNatClampNeg) * ((M.2 ρ) (1 : Int32).toNatClampNeg)))) else none
set_option maxRecDepth 100000 in
set_option maxHeartbeats 4000000 in
theorem c_Md_daysToRefiling {ρ : Nat} (hρ : ρ < 2) (l : Launch) (g : Gl) (σ : Hp) (T : Nat) (ow : Nat → Option Nat) (M : MdM) {r : Int32} (hr : Md_daysToRefiling ρ M = some r) : MG l g md_Md_daysToRefiling [.ref T] (putMd σ T ow ρ M) (rs (some (.int r)) (putMd σ T ow ρ M)) := by
  refine MG.intro (by decide +kernel) (Nat.le_of_ble_eq_true rfl) (fun X hx hR _ => ?_)
  unfold Md_daysToRefiling at hr
  refine g_ls [0] [(0, .ref T)] rfl ?_
  refine g_aload_n hx 0 (i := 0) 0 dX11_daysToRefiling_0 rfl rfl ?_
  refine g_get hx 1 (C := RX11) (T := TX11) (N := 30) 7 (.ref (T + 1 + ρ)) (pM_o σ T ow ρ M) rfl (by decide) rfl fl_X11_31 dX11_daysToRefiling_1 ?_
  refine g_iconst hx 4 (1) dX11_daysToRefiling_4 rfl ?_
  refine g_iald hx 5 (pM_row hρ σ T ow M) (by decide : inB 1 257) dX11_daysToRefiling_5 ?_
  refine g_aload_n hx 6 (i := 0) 0 dX11_daysToRefiling_6 rfl rfl ?_
  refine g_get hx 7 (C := RX11) (T := TX11) (N := 30) 7 (.ref (T + 1 + ρ)) (pM_o σ T ow ρ M) rfl (by decide) rfl fl_X11_31 dX11_daysToRefiling_7 ?_
  refine g_iconst hx 10 (0) dX11_daysToRefiling_10 rfl ?_
  refine g_iald hx 11 (pM_row hρ σ T ow M) (by decide : inB 0 257) dX11_daysToRefiling_11 ?_
  refine g_aload_n hx 12 (i := 0) 0 dX11_daysToRefiling_12 rfl rfl ?_
  refine g_get hx 13 (C := RX11) (T := TX11) (N := 30) 7 (.ref (T + 1 + ρ)) (pM_o σ T ow ρ M) rfl (by decide) rfl fl_X11_31 dX11_daysToRefiling_13 ?_
  refine g_iconst hx 16 (1) dX11_daysToRefiling_16 rfl ?_
  refine g_iald hx 17 (pM_row hρ σ T ow M) (by decide : inB 1 257) dX11_daysToRefiling_17 ?_
  obtain ⟨hz_533, hr⟩ := ob hr
  refine g_irem hx 18 dX11_daysToRefiling_18 hz_533 ?_
  refine g_isub hx 19 dX11_daysToRefiling_19 ?_
  exact g_iret hx hR 20 dX11_daysToRefiling_20 ⟨by rw [← Option.some.inj hr] <;> rfl, rfl⟩
def Md_size (ρ : Nat) (M : MdM) (p1 : Int32) : Option (Int32 × MdM) := lt' (Md_lacks ρ M (Md_inRange p1 0 11)) fun q_534 => if q_534.1 = 0 then (if p1 = 7 then (Option.bind (Md_countIn ρ q_534.2 1) fun q_537 => some ((q_537, q_534.2))) else (if p1 = 8 then (some (((q_534.2.2 ρ) (7 : Int32).toNatClampNeg, q_534.2))) else (if p1 = 9 then (some (((q_534.2.2 ρ) (8 : Int32).toNatClampNeg, q_534.2))) else (if p1 = 10 then (Option.bind (Md_countWrong ρ q_534.2) fun q_543 => some ((q_543, q_534.2))) else (if p1 = 11 then (Option.bind (Md_daysToRefiling ρ q_534.2) fun q_545 => some ((q_545, q_534.2))) else (if inB p1 257 then (some (((q_534.2.2 ρ) p1.toNatClampNeg, q_534.2))) else none)))))) else (some ((0, q_534.2)))
set_option maxRecDepth 100000 in
set_option maxHeartbeats 4000000 in
theorem c_Md_size {ρ : Nat} (hρ : ρ < 2) (l : Launch) (g : Gl) (σ : Hp) (T : Nat) (ow : Nat → Option Nat) (M : MdM) (p1 : Int32) {r : Int32 × MdM} (hr : Md_size ρ M p1 = some r) : MG l g md_Md_size [.ref T, .int p1] (putMd σ T ow ρ M) (rs (some (.int r.1)) (putMd σ T ow ρ r.2)) := by
  refine MG.intro (by decide +kernel) (Nat.le_of_ble_eq_true rfl) (fun X hx hR _ => ?_)
  unfold Md_size at hr
  refine g_ls [0, 1] [(0, .ref T), (1, .int p1)] rfl ?_
  refine g_aload_n hx 0 (i := 0) 0 dX11_size_0 rfl rfl ?_
  refine g_iload_n hx 1 (i := 1) 1 dX11_size_1 rfl rfl ?_
  refine g_iconst hx 2 (0) dX11_size_2 rfl ?_
  refine g_bipush hx 3 (11) dX11_size_3 rfl ?_
  refine g_callSr hx (c_Md_inRange l g _ p1 0 11 rfl) lk_X11_91 ar_Md_inRange (As := [.int p1, .int 0, .int 11]) (rest := [.ref T]) rfl (Nat.le_of_ble_eq_true rfl) ⟨Nat.le_of_ble_eq_true rfl, Nat.le_of_ble_eq_true rfl⟩ ⟨rfl, rfl⟩ ⟨Nat.zero_le _, Nat.zero_le _⟩ dX11_size_5 ?_
  obtain ⟨q_534, eq_534, hr⟩ := lt'_e hr
  refine g_callVr hx (c_Md_lacks hρ l g σ T ow M (Md_inRange p1 0 11) eq_534.symm) lk_X11_170 ar_Md_lacks (pM_o σ T ow ρ M) (T := TX11) (N := 30) rfl (As := [.int (Md_inRange p1 0 11)]) (rest := []) rfl (Nat.le_of_ble_eq_true rfl) ⟨Nat.le_of_ble_eq_true rfl, Nat.le_of_ble_eq_true rfl⟩ ⟨rfl, rfl⟩ ⟨Nat.zero_le _, Nat.zero_le _⟩ dX11_size_8 ?_
  refine g_if_eq hx 11 16 dX11_size_11 (by decide) (fun hc_535 => ?_) (fun hc_535 => ?_)
  · have hr := (if_pos hc_535).symm.trans hr
    refine g_iload_n hx 16 (i := 1) 1 dX11_size_16 rfl rfl ?_
    by_cases hc_536 : p1 = 7
    · have hr := (if_pos hc_536).symm.trans hr
      refine g_tableIn hx 17 52 dX11_size_17 (by rw [hc_536]; decide) (by rw [hc_536]; decide) (by rw [hc_536]; rfl) (by decide) ?_
      refine g_aload_n hx 52 (i := 0) 0 dX11_size_52 rfl rfl ?_
      refine g_iconst hx 53 (1) dX11_size_53 rfl ?_
      obtain ⟨q_537, eq_537, hr⟩ := bind_e hr
      refine g_callVr hx (c_Md_countIn hρ l g σ T ow q_534.2 1 eq_537) lk_X11_174 ar_Md_countIn (pM_o σ T ow ρ q_534.2) (T := TX11) (N := 30) rfl (As := [.int 1]) (rest := []) rfl (Nat.le_of_ble_eq_true rfl) ⟨Nat.le_of_ble_eq_true rfl, Nat.le_of_ble_eq_true rfl⟩ ⟨rfl, rfl⟩ ⟨Nat.zero_le _, Nat.zero_le _⟩ dX11_size_54 ?_
      exact g_iret hx hR 57 dX11_size_57 ⟨by rw [← Option.some.inj hr] <;> rfl, by rw [← Option.some.inj hr] <;> rfl⟩
    · have hr := (if_neg hc_536).symm.trans hr
      by_cases hc_538 : p1 = 8
      · have hr := (if_pos hc_538).symm.trans hr
        refine g_tableIn hx 17 58 dX11_size_17 (by rw [hc_538]; decide) (by rw [hc_538]; decide) (by rw [hc_538]; rfl) (by decide) ?_
        refine g_aload_n hx 58 (i := 0) 0 dX11_size_58 rfl rfl ?_
        refine g_get hx 59 (C := RX11) (T := TX11) (N := 30) 7 (.ref (T + 1 + ρ)) (pM_o σ T ow ρ q_534.2) rfl (by decide) rfl fl_X11_31 dX11_size_59 ?_
        refine g_bipush hx 62 (7) dX11_size_62 rfl ?_
        refine g_iald hx 64 (pM_row hρ σ T ow q_534.2) (by decide : inB 7 257) dX11_size_64 ?_
        exact g_iret hx hR 65 dX11_size_65 ⟨by rw [← Option.some.inj hr] <;> rfl, by rw [← Option.some.inj hr] <;> rfl⟩
      · have hr := (if_neg hc_538).symm.trans hr
        by_cases hc_540 : p1 = 9
        · have hr := (if_pos hc_540).symm.trans hr
          refine g_tableIn hx 17 66 dX11_size_17 (by rw [hc_540]; decide) (by rw [hc_540]; decide) (by rw [hc_540]; rfl) (by decide) ?_
          refine g_aload_n hx 66 (i := 0) 0 dX11_size_66 rfl rfl ?_
          refine g_get hx 67 (C := RX11) (T := TX11) (N := 30) 7 (.ref (T + 1 + ρ)) (pM_o σ T ow ρ q_534.2) rfl (by decide) rfl fl_X11_31 dX11_size_67 ?_
          refine g_bipush hx 70 (8) dX11_size_70 rfl ?_
          refine g_iald hx 72 (pM_row hρ σ T ow q_534.2) (by decide : inB 8 257) dX11_size_72 ?_
          exact g_iret hx hR 73 dX11_size_73 ⟨by rw [← Option.some.inj hr] <;> rfl, by rw [← Option.some.inj hr] <;> rfl⟩
        · have hr := (if_neg hc_540).symm.trans hr
          by_cases hc_542 : p1 = 10
          · have hr := (if_pos hc_542).symm.trans hr
            refine g_tableIn hx 17 74 dX11_size_17 (by rw [hc_542]; decide) (by rw [hc_542]; decide) (by rw [hc_542]; rfl) (by decide) ?_
            refine g_aload_n hx 74 (i := 0) 0 dX11_size_74 rfl rfl ?_
            obtain ⟨q_543, eq_543, hr⟩ := bind_e hr
            refine g_callVr hx (c_Md_countWrong hρ l g σ T ow q_534.2 eq_543) lk_X11_177 ar_Md_countWrong (pM_o σ T ow ρ q_534.2) (T := TX11) (N := 30) rfl (As := []) (rest := []) rfl (Nat.le_of_ble_eq_true rfl) ⟨Nat.le_of_ble_eq_true rfl, Nat.le_of_ble_eq_true rfl⟩ ⟨rfl, rfl⟩ ⟨Nat.zero_le _, Nat.zero_le _⟩ dX11_size_75 ?_
            exact g_iret hx hR 78 dX11_size_78 ⟨by rw [← Option.some.inj hr] <;> rfl, by rw [← Option.some.inj hr] <;> rfl⟩
          · have hr := (if_neg hc_542).symm.trans hr
            by_cases hc_544 : p1 = 11
            · have hr := (if_pos hc_544).symm.trans hr
              refine g_tableIn hx 17 79 dX11_size_17 (by rw [hc_544]; decide) (by rw [hc_544]; decide) (by rw [hc_544]; rfl) (by decide) ?_
              refine g_aload_n hx 79 (i := 0) 0 dX11_size_79 rfl rfl ?_
              obtain ⟨q_545, eq_545, hr⟩ := bind_e hr
              refine g_callVr hx (c_Md_daysToRefiling hρ l g σ T ow q_534.2 eq_545) lk_X11_180 ar_Md_daysToRefiling (pM_o σ T ow ρ q_534.2) (T := TX11) (N := 30) rfl (As := []) (rest := []) rfl (Nat.le_of_ble_eq_true rfl) ⟨Nat.le_of_ble_eq_true rfl, Nat.le_of_ble_eq_true rfl⟩ ⟨rfl, rfl⟩ ⟨Nat.zero_le _, Nat.zero_le _⟩ dX11_size_80 ?_
              exact g_iret hx hR 83 dX11_size_83 ⟨by rw [← Option.some.inj hr] <;> rfl, by rw [← Option.some.inj hr] <;> rfl⟩
            · have hr := (if_neg hc_544).symm.trans hr
              refine g_tableOut hx 17 84 dX11_size_17 (sw_out (fun c h1 h2 hq => by have hc : c = 7 ∨ c = 8 ∨ c = 9 ∨ c = 10 ∨ c = 11 := (by omega); rcases hc with rfl | rfl | rfl | rfl | rfl <;> first | exact lv_neT hc_536 rfl hq | exact lv_neT hc_538 rfl hq | exact lv_neT hc_540 rfl hq | exact lv_neT hc_542 rfl hq | exact lv_neT hc_544 rfl hq)) (by decide) ?_
              refine g_aload_n hx 84 (i := 0) 0 dX11_size_84 rfl rfl ?_
              refine g_get hx 85 (C := RX11) (T := TX11) (N := 30) 7 (.ref (T + 1 + ρ)) (pM_o σ T ow ρ q_534.2) rfl (by decide) rfl fl_X11_31 dX11_size_85 ?_
              refine g_iload_n hx 88 (i := 1) 1 dX11_size_88 rfl rfl ?_
              obtain ⟨hb_546, hr⟩ := ob hr
              refine g_iald hx 89 (pM_row hρ σ T ow q_534.2) hb_546 dX11_size_89 ?_
              exact g_iret hx hR 90 dX11_size_90 ⟨by rw [← Option.some.inj hr] <;> rfl, by rw [← Option.some.inj hr] <;> rfl⟩
  · have hr := (if_neg hc_535).symm.trans hr
    refine g_iconst hx 14 (0) dX11_size_14 rfl ?_
    exact g_iret hx hR 15 dX11_size_15 ⟨by rw [← Option.some.inj hr] <;> rfl, by rw [← Option.some.inj hr] <;> rfl⟩
def Md_account (ρ : Nat) (M : MdM) (p1 : Int32) : Option (Int32 × MdM) := lt' (Md_lacks ρ M (Md_inRange p1 0 10)) fun q_547 => if q_547.1 = 0 then (if 3 ≤ p1 then (Option.bind (Md_tallied ρ q_547.2 p1) fun q_550 => some ((q_550, q_547.2))) else (if inB p1 3 then (some (((q_547.2.2 6) p1.toNatClampNeg, q_547.2))) else none)) else (some ((0, q_547.2)))
set_option maxRecDepth 100000 in
set_option maxHeartbeats 4000000 in
theorem c_Md_account {ρ : Nat} (hρ : ρ < 2) (l : Launch) (g : Gl) (σ : Hp) (T : Nat) (ow : Nat → Option Nat) (M : MdM) (p1 : Int32) {r : Int32 × MdM} (hr : Md_account ρ M p1 = some r) : MG l g md_Md_account [.ref T, .int p1] (putMd σ T ow ρ M) (rs (some (.int r.1)) (putMd σ T ow ρ r.2)) := by
  refine MG.intro (by decide +kernel) (Nat.le_of_ble_eq_true rfl) (fun X hx hR _ => ?_)
  unfold Md_account at hr
  refine g_ls [0, 1] [(0, .ref T), (1, .int p1)] rfl ?_
  refine g_aload_n hx 0 (i := 0) 0 dX11_account_0 rfl rfl ?_
  refine g_iload_n hx 1 (i := 1) 1 dX11_account_1 rfl rfl ?_
  refine g_iconst hx 2 (0) dX11_account_2 rfl ?_
  refine g_bipush hx 3 (10) dX11_account_3 rfl ?_
  refine g_callSr hx (c_Md_inRange l g _ p1 0 10 rfl) lk_X11_91 ar_Md_inRange (As := [.int p1, .int 0, .int 10]) (rest := [.ref T]) rfl (Nat.le_of_ble_eq_true rfl) ⟨Nat.le_of_ble_eq_true rfl, Nat.le_of_ble_eq_true rfl⟩ ⟨rfl, rfl⟩ ⟨Nat.zero_le _, Nat.zero_le _⟩ dX11_account_5 ?_
  obtain ⟨q_547, eq_547, hr⟩ := lt'_e hr
  refine g_callVr hx (c_Md_lacks hρ l g σ T ow M (Md_inRange p1 0 10) eq_547.symm) lk_X11_170 ar_Md_lacks (pM_o σ T ow ρ M) (T := TX11) (N := 30) rfl (As := [.int (Md_inRange p1 0 10)]) (rest := []) rfl (Nat.le_of_ble_eq_true rfl) ⟨Nat.le_of_ble_eq_true rfl, Nat.le_of_ble_eq_true rfl⟩ ⟨rfl, rfl⟩ ⟨Nat.zero_le _, Nat.zero_le _⟩ dX11_account_8 ?_
  refine g_if_eq hx 11 16 dX11_account_11 (by decide) (fun hc_548 => ?_) (fun hc_548 => ?_)
  · have hr := (if_pos hc_548).symm.trans hr
    refine g_iload_n hx 16 (i := 1) 1 dX11_account_16 rfl rfl ?_
    refine g_iconst hx 17 (3) dX11_account_17 rfl ?_
    refine g_icmp_ge hx 18 30 dX11_account_18 (by decide) (fun hc_549 => ?_) (fun hc_549 => ?_)
    · have hr := (if_pos hc_549).symm.trans hr
      refine g_aload_n hx 30 (i := 0) 0 dX11_account_30 rfl rfl ?_
      refine g_iload_n hx 31 (i := 1) 1 dX11_account_31 rfl rfl ?_
      obtain ⟨q_550, eq_550, hr⟩ := bind_e hr
      refine g_callVr hx (c_Md_tallied hρ l g σ T ow q_547.2 p1 eq_550) lk_X11_164 ar_Md_tallied (pM_o σ T ow ρ q_547.2) (T := TX11) (N := 30) rfl (As := [.int p1]) (rest := []) rfl (Nat.le_of_ble_eq_true rfl) ⟨Nat.le_of_ble_eq_true rfl, Nat.le_of_ble_eq_true rfl⟩ ⟨rfl, rfl⟩ ⟨Nat.zero_le _, Nat.zero_le _⟩ dX11_account_32 ?_
      exact g_iret hx hR 35 dX11_account_35 ⟨by rw [← Option.some.inj hr] <;> rfl, by rw [← Option.some.inj hr] <;> rfl⟩
    · have hr := (if_neg hc_549).symm.trans hr
      refine g_aload_n hx 21 (i := 0) 0 dX11_account_21 rfl rfl ?_
      refine g_get hx 22 (C := RX11) (T := TX11) (N := 30) 6 (.ref (T + 7)) (pM_o σ T ow ρ q_547.2) rfl (by decide) rfl fl_X11_28 dX11_account_22 ?_
      refine g_iload_n hx 25 (i := 1) 1 dX11_account_25 rfl rfl ?_
      obtain ⟨hb_551, hr⟩ := ob hr
      refine g_iald hx 26 (pM_a σ T ow ρ q_547.2 6 (by decide)) hb_551 dX11_account_26 ?_
      refine g_goto hx 27 35 dX11_account_27 (by decide) ?_
      exact g_iret hx hR 35 dX11_account_35 ⟨by rw [← Option.some.inj hr] <;> rfl, by rw [← Option.some.inj hr] <;> rfl⟩
  · have hr := (if_neg hc_548).symm.trans hr
    refine g_iconst hx 14 (0) dX11_account_14 rfl ?_
    exact g_iret hx hR 15 dX11_account_15 ⟨by rw [← Option.some.inj hr] <;> rfl, by rw [← Option.some.inj hr] <;> rfl⟩
def Md_trolleyPlace_L2 (ρ : Nat) (M : MdM) : Nat → Int32 → Int32 → Option (Int32)
  | 0, _, _ => none
  | n + 1, v1_552, v2_553 => if inB (169 + v2_553) 257 then (if (M.2 ρ) (169 + v2_553).toNatClampNeg = v1_552 then (some (v2_553)) else (Md_trolleyPlace_L2 ρ M n v1_552 (v2_553 + 1))) else none
def Md_trolleyPlace (ρ : Nat) (M : MdM) (p1 : Int32) : Option (Int32) := Md_trolleyPlace_L2 ρ M FU p1 0
set_option maxRecDepth 100000 in
set_option maxHeartbeats 4000000 in
theorem w_Md_trolleyPlace_L2 {ρ : Nat} (hρ : ρ < 2) {X : Cx} {l : Launch} {g : Gl} (hx : Ok X l g RX11 cX11_trolleyPlace 3 md_Md_trolleyPlace.rm) {σ : Hp} {T : Nat} {ow : Nat → Option Nat} {M : MdM} {r : Int32} (hR : Ret X (rs (some (.int r)) (putMd σ T ow ρ M)) 0 0 (some .int)) : ∀ (n : Nat) (v1_552 v2_553 : Int32), Md_trolleyPlace_L2 ρ M n v1_552 v2_553 = some r → G X (putMd σ T ow ρ M) 0 0 2 [(0, .ref T), (1, .int v1_552), (2, .int v2_553)] [] := by
  intro n
  induction n with
  | zero =>
    intro v1_552 v2_553 hr
    rw [Md_trolleyPlace_L2] at hr
    cases hr
  | succ n ih =>
    intro v1_552 v2_553 hr
    rw [Md_trolleyPlace_L2] at hr
    refine g_aload_n hx 2 (i := 0) 0 dX11_trolleyPlace_2 rfl rfl ?_
    refine g_get hx 3 (C := RX11) (T := TX11) (N := 30) 7 (.ref (T + 1 + ρ)) (pM_o σ T ow ρ M) rfl (by decide) rfl fl_X11_31 dX11_trolleyPlace_3 ?_
    refine g_sipush hx 6 (169) dX11_trolleyPlace_6 rfl ?_
    refine g_iload_n hx 9 (i := 2) 2 dX11_trolleyPlace_9 rfl rfl ?_
    refine g_iadd hx 10 dX11_trolleyPlace_10 ?_
    obtain ⟨hb_554, hr⟩ := ob hr
    refine g_iald hx 11 (pM_row hρ σ T ow M) hb_554 dX11_trolleyPlace_11 ?_
    refine g_iload_n hx 12 (i := 1) 1 dX11_trolleyPlace_12 rfl rfl ?_
    refine g_icmp_eq hx 13 22 dX11_trolleyPlace_13 (by decide) (fun hc_555 => ?_) (fun hc_555 => ?_)
    · have hr := (if_pos hc_555).symm.trans hr
      refine g_iload_n hx 22 (i := 2) 2 dX11_trolleyPlace_22 rfl rfl ?_
      exact g_iret hx hR 23 dX11_trolleyPlace_23 ⟨by rw [← Option.some.inj hr] <;> rfl, rfl⟩
    · have hr := (if_neg hc_555).symm.trans hr
      refine g_iinc hx 16 (i := 2) 2 (v2_553 + 1) [(2, .int (v2_553 + 1)), (0, .ref T), (1, .int v1_552)] dX11_trolleyPlace_16 rfl rfl (by decide) rfl ?_
      refine g_goto hx 19 2 dX11_trolleyPlace_19 (by decide) ?_
      refine g_ls [1, 2, 0] [(0, .ref T), (1, .int v1_552), (2, .int (v2_553 + 1))] rfl ?_
      exact ih v1_552 (v2_553 + 1) hr
set_option maxRecDepth 100000 in
set_option maxHeartbeats 4000000 in
theorem c_Md_trolleyPlace {ρ : Nat} (hρ : ρ < 2) (l : Launch) (g : Gl) (σ : Hp) (T : Nat) (ow : Nat → Option Nat) (M : MdM) (p1 : Int32) {r : Int32} (hr : Md_trolleyPlace ρ M p1 = some r) : MG l g md_Md_trolleyPlace [.ref T, .int p1] (putMd σ T ow ρ M) (rs (some (.int r)) (putMd σ T ow ρ M)) := by
  refine MG.intro (by decide +kernel) (Nat.le_of_ble_eq_true rfl) (fun X hx hR _ => ?_)
  unfold Md_trolleyPlace at hr
  refine g_ls [0, 1] [(0, .ref T), (1, .int p1)] rfl ?_
  refine g_iconst hx 0 (0) dX11_trolleyPlace_0 rfl ?_
  refine g_istore_n hx 1 (i := 2) [(2, .int 0), (0, .ref T), (1, .int p1)] dX11_trolleyPlace_1 rfl (by decide) rfl ?_
  refine g_ls [1, 2, 0] [(0, .ref T), (1, .int p1), (2, .int 0)] rfl ?_
  exact w_Md_trolleyPlace_L2 hρ hx hR FU p1 0 hr
def Md_whereIs (ρ : Nat) (M : MdM) (p1 : Int32) : Option (Int32) := Option.bind (Md_of ρ M p1 2) fun q_556 => if q_556 = 0 then (Option.bind (Md_placeOf ρ M p1) fun q_558 => some (q_558)) else (if q_556 = 1 then (Option.bind (Md_of ρ M p1 3) fun q_560 => some (q_560)) else (Option.bind (Md_trolleyPlace ρ M p1) fun q_561 => some (q_561)))
set_option maxRecDepth 100000 in
set_option maxHeartbeats 4000000 in
theorem c_Md_whereIs {ρ : Nat} (hρ : ρ < 2) (l : Launch) (g : Gl) (σ : Hp) (T : Nat) (ow : Nat → Option Nat) (M : MdM) (p1 : Int32) {r : Int32} (hr : Md_whereIs ρ M p1 = some r) : MG l g md_Md_whereIs [.ref T, .int p1] (putMd σ T ow ρ M) (rs (some (.int r)) (putMd σ T ow ρ M)) := by
  refine MG.intro (by decide +kernel) (Nat.le_of_ble_eq_true rfl) (fun X hx hR _ => ?_)
  unfold Md_whereIs at hr
  refine g_ls [0, 1] [(0, .ref T), (1, .int p1)] rfl ?_
  refine g_aload_n hx 0 (i := 0) 0 dX11_whereIs_0 rfl rfl ?_
  refine g_iload_n hx 1 (i := 1) 1 dX11_whereIs_1 rfl rfl ?_
  refine g_iconst hx 2 (2) dX11_whereIs_2 rfl ?_
  obtain ⟨q_556, eq_556, hr⟩ := bind_e hr
  refine g_callVr hx (c_Md_of hρ l g σ T ow M p1 2 eq_556) lk_X11_95 ar_Md_of (pM_o σ T ow ρ M) (T := TX11) (N := 30) rfl (As := [.int p1, .int 2]) (rest := []) rfl (Nat.le_of_ble_eq_true rfl) ⟨Nat.le_of_ble_eq_true rfl, Nat.le_of_ble_eq_true rfl⟩ ⟨rfl, rfl⟩ ⟨Nat.zero_le _, Nat.zero_le _⟩ dX11_whereIs_3 ?_
  by_cases hc_557 : q_556 = 0
  · have hr := (if_pos hc_557).symm.trans hr
    refine g_lookup (off := 26) hx 6 32 dX11_whereIs_6 (by decide) (by rw [hc_557] <;> rfl) (by decide) ?_
    refine g_aload_n hx 32 (i := 0) 0 dX11_whereIs_32 rfl rfl ?_
    refine g_iload_n hx 33 (i := 1) 1 dX11_whereIs_33 rfl rfl ?_
    obtain ⟨q_558, eq_558, hr⟩ := bind_e hr
    refine g_callVr hx (c_Md_placeOf hρ l g σ T ow M p1 eq_558) lk_X11_103 ar_Md_placeOf (pM_o σ T ow ρ M) (T := TX11) (N := 30) rfl (As := [.int p1]) (rest := []) rfl (Nat.le_of_ble_eq_true rfl) ⟨Nat.le_of_ble_eq_true rfl, Nat.le_of_ble_eq_true rfl⟩ ⟨rfl, rfl⟩ ⟨Nat.zero_le _, Nat.zero_le _⟩ dX11_whereIs_34 ?_
    exact g_iret hx hR 37 dX11_whereIs_37 ⟨by rw [← Option.some.inj hr] <;> rfl, rfl⟩
  · have hr := (if_neg hc_557).symm.trans hr
    by_cases hc_559 : q_556 = 1
    · have hr := (if_pos hc_559).symm.trans hr
      refine g_lookup (off := 32) hx 6 38 dX11_whereIs_6 (by decide) (by rw [hc_559] <;> rfl) (by decide) ?_
      refine g_aload_n hx 38 (i := 0) 0 dX11_whereIs_38 rfl rfl ?_
      refine g_iload_n hx 39 (i := 1) 1 dX11_whereIs_39 rfl rfl ?_
      refine g_iconst hx 40 (3) dX11_whereIs_40 rfl ?_
      obtain ⟨q_560, eq_560, hr⟩ := bind_e hr
      refine g_callVr hx (c_Md_of hρ l g σ T ow M p1 3 eq_560) lk_X11_95 ar_Md_of (pM_o σ T ow ρ M) (T := TX11) (N := 30) rfl (As := [.int p1, .int 3]) (rest := []) rfl (Nat.le_of_ble_eq_true rfl) ⟨Nat.le_of_ble_eq_true rfl, Nat.le_of_ble_eq_true rfl⟩ ⟨rfl, rfl⟩ ⟨Nat.zero_le _, Nat.zero_le _⟩ dX11_whereIs_41 ?_
      exact g_iret hx hR 44 dX11_whereIs_44 ⟨by rw [← Option.some.inj hr] <;> rfl, rfl⟩
    · have hr := (if_neg hc_559).symm.trans hr
      refine g_lookup (off := 39) hx 6 45 dX11_whereIs_6 (by decide) (by show Op.lookupswitch.offset [(0, 26), (1, 32)] 39 _ = _; rw [lv_osw (a := 0) hc_557 rfl, lv_osw (a := 1) hc_559 rfl] <;> rfl) (by decide) ?_
      refine g_aload_n hx 45 (i := 0) 0 dX11_whereIs_45 rfl rfl ?_
      refine g_iload_n hx 46 (i := 1) 1 dX11_whereIs_46 rfl rfl ?_
      obtain ⟨q_561, eq_561, hr⟩ := bind_e hr
      refine g_callVr hx (c_Md_trolleyPlace hρ l g σ T ow M p1 eq_561) lk_X11_183 ar_Md_trolleyPlace (pM_o σ T ow ρ M) (T := TX11) (N := 30) rfl (As := [.int p1]) (rest := []) rfl (Nat.le_of_ble_eq_true rfl) ⟨Nat.le_of_ble_eq_true rfl, Nat.le_of_ble_eq_true rfl⟩ ⟨rfl, rfl⟩ ⟨Nat.zero_le _, Nat.zero_le _⟩ dX11_whereIs_47 ?_
      exact g_iret hx hR 50 dX11_whereIs_50 ⟨by rw [← Option.some.inj hr] <;> rfl, rfl⟩
def Md_slipsWith_L5 (ρ : Nat) (M : MdM) : Nat → Int32 → Int32 → Int32 → Int32 → Option (Int32)
  | 0, _, _, _, _ => none
  | n + 1, v1_562, v2_563, v3_564, v4_565 => if (M.2 ρ) (8 : Int32).toNatClampNeg ≤ v4_565 then (some (v3_564)) else (Option.bind (Md_ofSlip ρ M v4_565 v1_562) fun q_568 => if q_568 = v2_563 then (lt' (v3_564 + 1) fun v3_570 => Md_slipsWith_L5 ρ M n v1_562 v2_563 v3_570 (v4_565 + 1)) else (lt' (v3_564 + 0) fun v3_571 => Md_slipsWith_L5 ρ M n v1_562 v2_563 v3_571 (v4_565 + 1)))
def Md_slipsWith (ρ : Nat) (M : MdM) (p1 p2 : Int32) : Option (Int32) := Md_slipsWith_L5 ρ M FU p1 p2 0 0
set_option maxRecDepth 100000 in
set_option maxHeartbeats 4000000 in
theorem w_Md_slipsWith_L5 {ρ : Nat} (hρ : ρ < 2) {X : Cx} {l : Launch} {g : Gl} (hx : Ok X l g RX11 cX11_slipsWith 5 md_Md_slipsWith.rm) {σ : Hp} {T : Nat} {ow : Nat → Option Nat} {M : MdM} {r : Int32} (hR : Ret X (rs (some (.int r)) (putMd σ T ow ρ M)) 0 0 (some .int)) : ∀ (n : Nat) (v1_562 v2_563 v3_564 v4_565 : Int32), Md_slipsWith_L5 ρ M n v1_562 v2_563 v3_564 v4_565 = some r → G X (putMd σ T ow ρ M) 0 0 5 [(0, .ref T), (1, .int v1_562), (2, .int v2_563), (3, .int v3_564), (4, .int v4_565)] [] := by
  intro n
  induction n with
  | zero =>
    intro v1_562 v2_563 v3_564 v4_565 hr
    rw [Md_slipsWith_L5] at hr
    cases hr
  | succ n ih =>
    intro v1_562 v2_563 v3_564 v4_565 hr
    rw [Md_slipsWith_L5] at hr
    refine g_iload hx 5 (i := 4) 4 dX11_slipsWith_5 rfl ?_
    refine g_aload_n hx 7 (i := 0) 0 dX11_slipsWith_7 rfl rfl ?_
    refine g_get hx 8 (C := RX11) (T := TX11) (N := 30) 7 (.ref (T + 1 + ρ)) (pM_o σ T ow ρ M) rfl (by decide) rfl fl_X11_31 dX11_slipsWith_8 ?_
    refine g_bipush hx 11 (8) dX11_slipsWith_11 rfl ?_
    refine g_iald hx 13 (pM_row hρ σ T ow M) (by decide : inB 8 257) dX11_slipsWith_13 ?_
    refine g_icmp_ge hx 14 42 dX11_slipsWith_14 (by decide) (fun hc_567 => ?_) (fun hc_567 => ?_)
    · have hr := (if_pos hc_567).symm.trans hr
      refine g_iload_n hx 42 (i := 3) 3 dX11_slipsWith_42 rfl rfl ?_
      exact g_iret hx hR 43 dX11_slipsWith_43 ⟨by rw [← Option.some.inj hr] <;> rfl, rfl⟩
    · have hr := (if_neg hc_567).symm.trans hr
      refine g_iload_n hx 17 (i := 3) 3 dX11_slipsWith_17 rfl rfl ?_
      refine g_aload_n hx 18 (i := 0) 0 dX11_slipsWith_18 rfl rfl ?_
      refine g_iload hx 19 (i := 4) 4 dX11_slipsWith_19 rfl ?_
      refine g_iload_n hx 21 (i := 1) 1 dX11_slipsWith_21 rfl rfl ?_
      obtain ⟨q_568, eq_568, hr⟩ := bind_e hr
      refine g_callVr hx (c_Md_ofSlip hρ l g σ T ow M v4_565 v1_562 eq_568) lk_X11_130 ar_Md_ofSlip (pM_o σ T ow ρ M) (T := TX11) (N := 30) rfl (As := [.int v4_565, .int v1_562]) (rest := [.int v3_564]) rfl (Nat.le_of_ble_eq_true rfl) ⟨Nat.le_of_ble_eq_true rfl, Nat.le_of_ble_eq_true rfl⟩ ⟨rfl, rfl⟩ ⟨Nat.zero_le _, Nat.zero_le _⟩ dX11_slipsWith_22 ?_
      refine g_iload_n hx 25 (i := 2) 2 dX11_slipsWith_25 rfl rfl ?_
      refine g_icmp_ne hx 26 33 dX11_slipsWith_26 (by decide) (fun hc_569 => ?_) (fun hc_569 => ?_)
      · have hr := (if_neg hc_569).symm.trans hr
        refine g_iconst hx 33 (0) dX11_slipsWith_33 rfl ?_
        refine g_iadd hx 34 dX11_slipsWith_34 ?_
        obtain ⟨v3_571, ev3_571, hr⟩ := lt'_e hr
        refine g_nmi ev3_571 ?_
        refine g_istore_n hx 35 (i := 3) [(3, .int v3_571), (0, .ref T), (1, .int v1_562), (2, .int v2_563), (4, .int v4_565)] dX11_slipsWith_35 rfl (by decide) rfl ?_
        refine g_iinc hx 36 (i := 4) 4 (v4_565 + 1) [(4, .int (v4_565 + 1)), (3, .int v3_571), (0, .ref T), (1, .int v1_562), (2, .int v2_563)] dX11_slipsWith_36 rfl rfl (by decide) rfl ?_
        refine g_goto hx 39 5 dX11_slipsWith_39 (by decide) ?_
        refine g_ls [2, 3, 4, 1, 0] [(0, .ref T), (1, .int v1_562), (2, .int v2_563), (3, .int v3_571), (4, .int (v4_565 + 1))] rfl ?_
        exact ih v1_562 v2_563 v3_571 (v4_565 + 1) hr
      · have hr := (if_pos hc_569).symm.trans hr
        refine g_iconst hx 29 (1) dX11_slipsWith_29 rfl ?_
        refine g_goto hx 30 34 dX11_slipsWith_30 (by decide) ?_
        refine g_iadd hx 34 dX11_slipsWith_34 ?_
        obtain ⟨v3_570, ev3_570, hr⟩ := lt'_e hr
        refine g_nmi ev3_570 ?_
        refine g_istore_n hx 35 (i := 3) [(3, .int v3_570), (0, .ref T), (1, .int v1_562), (2, .int v2_563), (4, .int v4_565)] dX11_slipsWith_35 rfl (by decide) rfl ?_
        refine g_iinc hx 36 (i := 4) 4 (v4_565 + 1) [(4, .int (v4_565 + 1)), (3, .int v3_570), (0, .ref T), (1, .int v1_562), (2, .int v2_563)] dX11_slipsWith_36 rfl rfl (by decide) rfl ?_
        refine g_goto hx 39 5 dX11_slipsWith_39 (by decide) ?_
        refine g_ls [2, 3, 4, 1, 0] [(0, .ref T), (1, .int v1_562), (2, .int v2_563), (3, .int v3_570), (4, .int (v4_565 + 1))] rfl ?_
        exact ih v1_562 v2_563 v3_570 (v4_565 + 1) hr
set_option maxRecDepth 100000 in
set_option maxHeartbeats 4000000 in
theorem c_Md_slipsWith {ρ : Nat} (hρ : ρ < 2) (l : Launch) (g : Gl) (σ : Hp) (T : Nat) (ow : Nat → Option Nat) (M : MdM) (p1 p2 : Int32) {r : Int32} (hr : Md_slipsWith ρ M p1 p2 = some r) : MG l g md_Md_slipsWith [.ref T, .int p1, .int p2] (putMd σ T ow ρ M) (rs (some (.int r)) (putMd σ T ow ρ M)) := by
  refine MG.intro (by decide +kernel) (Nat.le_of_ble_eq_true rfl) (fun X hx hR _ => ?_)
  unfold Md_slipsWith at hr
  refine g_ls [0, 1, 2] [(0, .ref T), (1, .int p1), (2, .int p2)] rfl ?_
  refine g_iconst hx 0 (0) dX11_slipsWith_0 rfl ?_
  refine g_istore_n hx 1 (i := 3) [(3, .int 0), (0, .ref T), (1, .int p1), (2, .int p2)] dX11_slipsWith_1 rfl (by decide) rfl ?_
  refine g_iconst hx 2 (0) dX11_slipsWith_2 rfl ?_
  refine g_istore hx 3 (i := 4) [(4, .int 0), (3, .int 0), (0, .ref T), (1, .int p1), (2, .int p2)] dX11_slipsWith_3 (by decide) rfl ?_
  refine g_ls [2, 3, 4, 1, 0] [(0, .ref T), (1, .int p1), (2, .int p2), (3, .int 0), (4, .int 0)] rfl ?_
  exact w_Md_slipsWith_L5 hρ hx hR FU p1 p2 0 0 hr
def Md_folder (ρ : Nat) (M : MdM) (p1 p2 : Int32) : Option (Int32 × MdM) := Option.bind (Md_isFolder ρ M p1) fun q_572 => lt' (Md_lacks ρ M q_572) fun q_573 => if q_573.1 = 0 then (if p2 = 0 then (Option.bind (Md_of ρ q_573.2 p1 p2) fun q_576 => some ((q_576, q_573.2))) else (if p2 = 1 then (Option.bind (Md_of ρ q_573.2 p1 p2) fun q_578 => some ((q_578, q_573.2))) else (if p2 = 2 then (Option.bind (Md_of ρ q_573.2 p1 p2) fun q_580 => some ((q_580, q_573.2))) else (if p2 = 3 then (Option.bind (Md_whereIs ρ q_573.2 p1) fun q_582 => some ((q_582, q_573.2))) else (if p2 = 4 then (Option.bind (Md_slipsWith ρ q_573.2 1 p1) fun q_584 => some ((q_584, q_573.2))) else (if p2 = 5 then (Option.bind (Md_of ρ q_573.2 p1 4) fun q_586 => some ((q_586, q_573.2))) else (if p2 = 6 then (Option.bind (Md_isClosed ρ q_573.2 p1) fun q_588 => if q_588 = 0 then (some ((0, q_573.2))) else (some ((1, q_573.2)))) else (lt' (Md_raise ρ q_573.2 2) fun q_590 => some ((q_590.1, q_590.2)))))))))) else (some ((0, q_573.2)))
set_option maxRecDepth 100000 in
set_option maxHeartbeats 4000000 in
theorem c_Md_folder {ρ : Nat} (hρ : ρ < 2) (l : Launch) (g : Gl) (σ : Hp) (T : Nat) (ow : Nat → Option Nat) (M : MdM) (p1 p2 : Int32) {r : Int32 × MdM} (hr : Md_folder ρ M p1 p2 = some r) : MG l g md_Md_folder [.ref T, .int p1, .int p2] (putMd σ T ow ρ M) (rs (some (.int r.1)) (putMd σ T ow ρ r.2)) := by
  refine MG.intro (by decide +kernel) (Nat.le_of_ble_eq_true rfl) (fun X hx hR _ => ?_)
  unfold Md_folder at hr
  refine g_ls [0, 1, 2] [(0, .ref T), (1, .int p1), (2, .int p2)] rfl ?_
  refine g_aload_n hx 0 (i := 0) 0 dX11_folder_0 rfl rfl ?_
  refine g_aload_n hx 1 (i := 0) 0 dX11_folder_1 rfl rfl ?_
  refine g_iload_n hx 2 (i := 1) 1 dX11_folder_2 rfl rfl ?_
  obtain ⟨q_572, eq_572, hr⟩ := bind_e hr
  refine g_callVr hx (c_Md_isFolder hρ l g σ T ow M p1 eq_572) lk_X11_186 ar_Md_isFolder (pM_o σ T ow ρ M) (T := TX11) (N := 30) rfl (As := [.int p1]) (rest := [.ref T]) rfl (Nat.le_of_ble_eq_true rfl) ⟨Nat.le_of_ble_eq_true rfl, Nat.le_of_ble_eq_true rfl⟩ ⟨rfl, rfl⟩ ⟨Nat.zero_le _, Nat.zero_le _⟩ dX11_folder_3 ?_
  obtain ⟨q_573, eq_573, hr⟩ := lt'_e hr
  refine g_callVr hx (c_Md_lacks hρ l g σ T ow M q_572 eq_573.symm) lk_X11_170 ar_Md_lacks (pM_o σ T ow ρ M) (T := TX11) (N := 30) rfl (As := [.int q_572]) (rest := []) rfl (Nat.le_of_ble_eq_true rfl) ⟨Nat.le_of_ble_eq_true rfl, Nat.le_of_ble_eq_true rfl⟩ ⟨rfl, rfl⟩ ⟨Nat.zero_le _, Nat.zero_le _⟩ dX11_folder_6 ?_
  refine g_if_eq hx 9 14 dX11_folder_9 (by decide) (fun hc_574 => ?_) (fun hc_574 => ?_)
  · have hr := (if_pos hc_574).symm.trans hr
    refine g_iload_n hx 14 (i := 2) 2 dX11_folder_14 rfl rfl ?_
    by_cases hc_575 : p2 = 0
    · have hr := (if_pos hc_575).symm.trans hr
      refine g_tableIn hx 15 56 dX11_folder_15 (by rw [hc_575]; decide) (by rw [hc_575]; decide) (by rw [hc_575]; rfl) (by decide) ?_
      refine g_aload_n hx 56 (i := 0) 0 dX11_folder_56 rfl rfl ?_
      refine g_iload_n hx 57 (i := 1) 1 dX11_folder_57 rfl rfl ?_
      refine g_iload_n hx 58 (i := 2) 2 dX11_folder_58 rfl rfl ?_
      obtain ⟨q_576, eq_576, hr⟩ := bind_e hr
      refine g_callVr hx (c_Md_of hρ l g σ T ow q_573.2 p1 p2 eq_576) lk_X11_95 ar_Md_of (pM_o σ T ow ρ q_573.2) (T := TX11) (N := 30) rfl (As := [.int p1, .int p2]) (rest := []) rfl (Nat.le_of_ble_eq_true rfl) ⟨Nat.le_of_ble_eq_true rfl, Nat.le_of_ble_eq_true rfl⟩ ⟨rfl, rfl⟩ ⟨Nat.zero_le _, Nat.zero_le _⟩ dX11_folder_59 ?_
      exact g_iret hx hR 62 dX11_folder_62 ⟨by rw [← Option.some.inj hr] <;> rfl, by rw [← Option.some.inj hr] <;> rfl⟩
    · have hr := (if_neg hc_575).symm.trans hr
      by_cases hc_577 : p2 = 1
      · have hr := (if_pos hc_577).symm.trans hr
        refine g_tableIn hx 15 56 dX11_folder_15 (by rw [hc_577]; decide) (by rw [hc_577]; decide) (by rw [hc_577]; rfl) (by decide) ?_
        refine g_aload_n hx 56 (i := 0) 0 dX11_folder_56 rfl rfl ?_
        refine g_iload_n hx 57 (i := 1) 1 dX11_folder_57 rfl rfl ?_
        refine g_iload_n hx 58 (i := 2) 2 dX11_folder_58 rfl rfl ?_
        obtain ⟨q_578, eq_578, hr⟩ := bind_e hr
        refine g_callVr hx (c_Md_of hρ l g σ T ow q_573.2 p1 p2 eq_578) lk_X11_95 ar_Md_of (pM_o σ T ow ρ q_573.2) (T := TX11) (N := 30) rfl (As := [.int p1, .int p2]) (rest := []) rfl (Nat.le_of_ble_eq_true rfl) ⟨Nat.le_of_ble_eq_true rfl, Nat.le_of_ble_eq_true rfl⟩ ⟨rfl, rfl⟩ ⟨Nat.zero_le _, Nat.zero_le _⟩ dX11_folder_59 ?_
        exact g_iret hx hR 62 dX11_folder_62 ⟨by rw [← Option.some.inj hr] <;> rfl, by rw [← Option.some.inj hr] <;> rfl⟩
      · have hr := (if_neg hc_577).symm.trans hr
        by_cases hc_579 : p2 = 2
        · have hr := (if_pos hc_579).symm.trans hr
          refine g_tableIn hx 15 56 dX11_folder_15 (by rw [hc_579]; decide) (by rw [hc_579]; decide) (by rw [hc_579]; rfl) (by decide) ?_
          refine g_aload_n hx 56 (i := 0) 0 dX11_folder_56 rfl rfl ?_
          refine g_iload_n hx 57 (i := 1) 1 dX11_folder_57 rfl rfl ?_
          refine g_iload_n hx 58 (i := 2) 2 dX11_folder_58 rfl rfl ?_
          obtain ⟨q_580, eq_580, hr⟩ := bind_e hr
          refine g_callVr hx (c_Md_of hρ l g σ T ow q_573.2 p1 p2 eq_580) lk_X11_95 ar_Md_of (pM_o σ T ow ρ q_573.2) (T := TX11) (N := 30) rfl (As := [.int p1, .int p2]) (rest := []) rfl (Nat.le_of_ble_eq_true rfl) ⟨Nat.le_of_ble_eq_true rfl, Nat.le_of_ble_eq_true rfl⟩ ⟨rfl, rfl⟩ ⟨Nat.zero_le _, Nat.zero_le _⟩ dX11_folder_59 ?_
          exact g_iret hx hR 62 dX11_folder_62 ⟨by rw [← Option.some.inj hr] <;> rfl, by rw [← Option.some.inj hr] <;> rfl⟩
        · have hr := (if_neg hc_579).symm.trans hr
          by_cases hc_581 : p2 = 3
          · have hr := (if_pos hc_581).symm.trans hr
            refine g_tableIn hx 15 63 dX11_folder_15 (by rw [hc_581]; decide) (by rw [hc_581]; decide) (by rw [hc_581]; rfl) (by decide) ?_
            refine g_aload_n hx 63 (i := 0) 0 dX11_folder_63 rfl rfl ?_
            refine g_iload_n hx 64 (i := 1) 1 dX11_folder_64 rfl rfl ?_
            obtain ⟨q_582, eq_582, hr⟩ := bind_e hr
            refine g_callVr hx (c_Md_whereIs hρ l g σ T ow q_573.2 p1 eq_582) lk_X11_189 ar_Md_whereIs (pM_o σ T ow ρ q_573.2) (T := TX11) (N := 30) rfl (As := [.int p1]) (rest := []) rfl (Nat.le_of_ble_eq_true rfl) ⟨Nat.le_of_ble_eq_true rfl, Nat.le_of_ble_eq_true rfl⟩ ⟨rfl, rfl⟩ ⟨Nat.zero_le _, Nat.zero_le _⟩ dX11_folder_65 ?_
            exact g_iret hx hR 68 dX11_folder_68 ⟨by rw [← Option.some.inj hr] <;> rfl, by rw [← Option.some.inj hr] <;> rfl⟩
          · have hr := (if_neg hc_581).symm.trans hr
            by_cases hc_583 : p2 = 4
            · have hr := (if_pos hc_583).symm.trans hr
              refine g_tableIn hx 15 69 dX11_folder_15 (by rw [hc_583]; decide) (by rw [hc_583]; decide) (by rw [hc_583]; rfl) (by decide) ?_
              refine g_aload_n hx 69 (i := 0) 0 dX11_folder_69 rfl rfl ?_
              refine g_iconst hx 70 (1) dX11_folder_70 rfl ?_
              refine g_iload_n hx 71 (i := 1) 1 dX11_folder_71 rfl rfl ?_
              obtain ⟨q_584, eq_584, hr⟩ := bind_e hr
              refine g_callVr hx (c_Md_slipsWith hρ l g σ T ow q_573.2 1 p1 eq_584) lk_X11_192 ar_Md_slipsWith (pM_o σ T ow ρ q_573.2) (T := TX11) (N := 30) rfl (As := [.int 1, .int p1]) (rest := []) rfl (Nat.le_of_ble_eq_true rfl) ⟨Nat.le_of_ble_eq_true rfl, Nat.le_of_ble_eq_true rfl⟩ ⟨rfl, rfl⟩ ⟨Nat.zero_le _, Nat.zero_le _⟩ dX11_folder_72 ?_
              exact g_iret hx hR 75 dX11_folder_75 ⟨by rw [← Option.some.inj hr] <;> rfl, by rw [← Option.some.inj hr] <;> rfl⟩
            · have hr := (if_neg hc_583).symm.trans hr
              by_cases hc_585 : p2 = 5
              · have hr := (if_pos hc_585).symm.trans hr
                refine g_tableIn hx 15 76 dX11_folder_15 (by rw [hc_585]; decide) (by rw [hc_585]; decide) (by rw [hc_585]; rfl) (by decide) ?_
                refine g_aload_n hx 76 (i := 0) 0 dX11_folder_76 rfl rfl ?_
                refine g_iload_n hx 77 (i := 1) 1 dX11_folder_77 rfl rfl ?_
                refine g_iconst hx 78 (4) dX11_folder_78 rfl ?_
                obtain ⟨q_586, eq_586, hr⟩ := bind_e hr
                refine g_callVr hx (c_Md_of hρ l g σ T ow q_573.2 p1 4 eq_586) lk_X11_95 ar_Md_of (pM_o σ T ow ρ q_573.2) (T := TX11) (N := 30) rfl (As := [.int p1, .int 4]) (rest := []) rfl (Nat.le_of_ble_eq_true rfl) ⟨Nat.le_of_ble_eq_true rfl, Nat.le_of_ble_eq_true rfl⟩ ⟨rfl, rfl⟩ ⟨Nat.zero_le _, Nat.zero_le _⟩ dX11_folder_79 ?_
                exact g_iret hx hR 82 dX11_folder_82 ⟨by rw [← Option.some.inj hr] <;> rfl, by rw [← Option.some.inj hr] <;> rfl⟩
              · have hr := (if_neg hc_585).symm.trans hr
                by_cases hc_587 : p2 = 6
                · have hr := (if_pos hc_587).symm.trans hr
                  refine g_tableIn hx 15 83 dX11_folder_15 (by rw [hc_587]; decide) (by rw [hc_587]; decide) (by rw [hc_587]; rfl) (by decide) ?_
                  refine g_aload_n hx 83 (i := 0) 0 dX11_folder_83 rfl rfl ?_
                  refine g_iload_n hx 84 (i := 1) 1 dX11_folder_84 rfl rfl ?_
                  obtain ⟨q_588, eq_588, hr⟩ := bind_e hr
                  refine g_callVr hx (c_Md_isClosed hρ l g σ T ow q_573.2 p1 eq_588) lk_X11_133 ar_Md_isClosed (pM_o σ T ow ρ q_573.2) (T := TX11) (N := 30) rfl (As := [.int p1]) (rest := []) rfl (Nat.le_of_ble_eq_true rfl) ⟨Nat.le_of_ble_eq_true rfl, Nat.le_of_ble_eq_true rfl⟩ ⟨rfl, rfl⟩ ⟨Nat.zero_le _, Nat.zero_le _⟩ dX11_folder_85 ?_
                  refine g_if_eq hx 88 95 dX11_folder_88 (by decide) (fun hc_589 => ?_) (fun hc_589 => ?_)
                  · have hr := (if_pos hc_589).symm.trans hr
                    refine g_iconst hx 95 (0) dX11_folder_95 rfl ?_
                    exact g_iret hx hR 96 dX11_folder_96 ⟨by rw [← Option.some.inj hr] <;> rfl, by rw [← Option.some.inj hr] <;> rfl⟩
                  · have hr := (if_neg hc_589).symm.trans hr
                    refine g_iconst hx 91 (1) dX11_folder_91 rfl ?_
                    refine g_goto hx 92 96 dX11_folder_92 (by decide) ?_
                    exact g_iret hx hR 96 dX11_folder_96 ⟨by rw [← Option.some.inj hr] <;> rfl, by rw [← Option.some.inj hr] <;> rfl⟩
                · have hr := (if_neg hc_587).symm.trans hr
                  refine g_tableOut hx 15 97 dX11_folder_15 (sw_out (fun c h1 h2 hq => by have hc : c = 0 ∨ c = 1 ∨ c = 2 ∨ c = 3 ∨ c = 4 ∨ c = 5 ∨ c = 6 := (by omega); rcases hc with rfl | rfl | rfl | rfl | rfl | rfl | rfl <;> first | exact lv_neT hc_575 rfl hq | exact lv_neT hc_577 rfl hq | exact lv_neT hc_579 rfl hq | exact lv_neT hc_581 rfl hq | exact lv_neT hc_583 rfl hq | exact lv_neT hc_585 rfl hq | exact lv_neT hc_587 rfl hq)) (by decide) ?_
                  refine g_aload_n hx 97 (i := 0) 0 dX11_folder_97 rfl rfl ?_
                  refine g_iconst hx 98 (2) dX11_folder_98 rfl ?_
                  obtain ⟨q_590, eq_590, hr⟩ := lt'_e hr
                  refine g_callVr hx (c_Md_raise hρ l g σ T ow q_573.2 2 eq_590.symm) lk_X11_195 ar_Md_raise (pM_o σ T ow ρ q_573.2) (T := TX11) (N := 30) rfl (As := [.int 2]) (rest := []) rfl (Nat.le_of_ble_eq_true rfl) ⟨Nat.le_of_ble_eq_true rfl, Nat.le_of_ble_eq_true rfl⟩ ⟨rfl, rfl⟩ ⟨Nat.zero_le _, Nat.zero_le _⟩ dX11_folder_99 ?_
                  exact g_iret hx hR 102 dX11_folder_102 ⟨by rw [← Option.some.inj hr] <;> rfl, by rw [← Option.some.inj hr] <;> rfl⟩
  · have hr := (if_neg hc_574).symm.trans hr
    refine g_iconst hx 12 (0) dX11_folder_12 rfl ?_
    exact g_iret hx hR 13 dX11_folder_13 ⟨by rw [← Option.some.inj hr] <;> rfl, by rw [← Option.some.inj hr] <;> rfl⟩
def Md_marked (ρ : Nat) (M : MdM) (p1 : Int32) : Option (Int32 × MdM) := Option.bind (Md_folderMarked ρ (setF M 9 0) p1) fun q_591 => some ((q_591, setF M 9 0))
set_option maxRecDepth 100000 in
set_option maxHeartbeats 4000000 in
theorem c_Md_marked {ρ : Nat} (hρ : ρ < 2) (l : Launch) (g : Gl) (σ : Hp) (T : Nat) (ow : Nat → Option Nat) (M : MdM) (p1 : Int32) {r : Int32 × MdM} (hr : Md_marked ρ M p1 = some r) : MG l g md_Md_marked [.ref T, .int p1] (putMd σ T ow ρ M) (rs (some (.int r.1)) (putMd σ T ow ρ r.2)) := by
  refine MG.intro (by decide +kernel) (Nat.le_of_ble_eq_true rfl) (fun X hx hR _ => ?_)
  unfold Md_marked at hr
  refine g_ls [0, 1] [(0, .ref T), (1, .int p1)] rfl ?_
  refine g_aload_n hx 0 (i := 0) 0 dX11_marked_0 rfl rfl ?_
  refine g_iconst hx 1 (0) dX11_marked_1 rfl ?_
  refine g_put hx 2 (C := RX11) (T := TX11) (N := 30) 9 .int _ (pM_o σ T ow ρ M) rfl (by decide) fl_X11_81 rfl rfl rfl rfl (Nat.le_of_ble_eq_true rfl) rfl dX11_marked_2 ?_
  refine G.heap (pM_f σ T ow ρ M 9 0) ?_
  refine g_aload_n hx 5 (i := 0) 0 dX11_marked_5 rfl rfl ?_
  refine g_iload_n hx 6 (i := 1) 1 dX11_marked_6 rfl rfl ?_
  obtain ⟨q_591, eq_591, hr⟩ := bind_e hr
  refine g_callVr hx (c_Md_folderMarked hρ l g σ T ow (setF M 9 0) p1 eq_591) lk_X11_198 ar_Md_folderMarked (pM_o σ T ow ρ (setF M 9 0)) (T := TX11) (N := 30) rfl (As := [.int p1]) (rest := []) rfl (Nat.le_of_ble_eq_true rfl) ⟨Nat.le_of_ble_eq_true rfl, Nat.le_of_ble_eq_true rfl⟩ ⟨rfl, rfl⟩ ⟨Nat.zero_le _, Nat.zero_le _⟩ dX11_marked_7 ?_
  exact g_iret hx hR 10 dX11_marked_10 ⟨by rw [← Option.some.inj hr] <;> rfl, by rw [← Option.some.inj hr] <;> rfl⟩
def Md_at (ρ : Nat) (M : MdM) (p1 : Int32) : Option (Int32 × MdM) := if Md_inRange p1 0 (((M.2 ρ) (6 : Int32).toNatClampNeg) - 1) = 0 then (some (((-1), setF M 9 0))) else (Option.bind (Md_folderAt ρ (setF M 9 0) p1) fun q_594 => some ((q_594, setF M 9 0)))
set_option maxRecDepth 100000 in
set_option maxHeartbeats 4000000 in
theorem c_Md_at {ρ : Nat} (hρ : ρ < 2) (l : Launch) (g : Gl) (σ : Hp) (T : Nat) (ow : Nat → Option Nat) (M : MdM) (p1 : Int32) {r : Int32 × MdM} (hr : Md_at ρ M p1 = some r) : MG l g md_Md_at [.ref T, .int p1] (putMd σ T ow ρ M) (rs (some (.int r.1)) (putMd σ T ow ρ r.2)) := by
  refine MG.intro (by decide +kernel) (Nat.le_of_ble_eq_true rfl) (fun X hx hR _ => ?_)
  unfold Md_at at hr
  refine g_ls [0, 1] [(0, .ref T), (1, .int p1)] rfl ?_
  refine g_aload_n hx 0 (i := 0) 0 dX11_at_0 rfl rfl ?_
  refine g_iconst hx 1 (0) dX11_at_1 rfl ?_
  refine g_put hx 2 (C := RX11) (T := TX11) (N := 30) 9 .int _ (pM_o σ T ow ρ M) rfl (by decide) fl_X11_81 rfl rfl rfl rfl (Nat.le_of_ble_eq_true rfl) rfl dX11_at_2 ?_
  refine G.heap (pM_f σ T ow ρ M 9 0) ?_
  refine g_iload_n hx 5 (i := 1) 1 dX11_at_5 rfl rfl ?_
  refine g_iconst hx 6 (0) dX11_at_6 rfl ?_
  refine g_aload_n hx 7 (i := 0) 0 dX11_at_7 rfl rfl ?_
  refine g_get hx 8 (C := RX11) (T := TX11) (N := 30) 7 (.ref (T + 1 + ρ)) (pM_o σ T ow ρ (setF M 9 0)) rfl (by decide) rfl fl_X11_31 dX11_at_8 ?_
  refine g_bipush hx 11 (6) dX11_at_11 rfl ?_
  refine g_iald hx 13 (pM_row hρ σ T ow (setF M 9 0)) (by decide : inB 6 257) dX11_at_13 ?_
  refine g_iconst hx 14 (1) dX11_at_14 rfl ?_
  refine g_isub hx 15 dX11_at_15 ?_
  refine g_callSr hx (c_Md_inRange l g _ p1 0 (((M.2 ρ) (6 : Int32).toNatClampNeg) - 1) rfl) lk_X11_91 ar_Md_inRange (As := [.int p1, .int 0, .int (((M.2 ρ) (6 : Int32).toNatClampNeg) - 1)]) (rest := []) rfl (Nat.le_of_ble_eq_true rfl) ⟨Nat.le_of_ble_eq_true rfl, Nat.le_of_ble_eq_true rfl⟩ ⟨rfl, rfl⟩ ⟨Nat.zero_le _, Nat.zero_le _⟩ dX11_at_16 ?_
  refine g_if_eq hx 19 30 dX11_at_19 (by decide) (fun hc_593 => ?_) (fun hc_593 => ?_)
  · have hr := (if_pos hc_593).symm.trans hr
    refine g_iconst hx 30 (-1) dX11_at_30 rfl ?_
    exact g_iret hx hR 31 dX11_at_31 ⟨by rw [← Option.some.inj hr] <;> rfl, by rw [← Option.some.inj hr] <;> rfl⟩
  · have hr := (if_neg hc_593).symm.trans hr
    refine g_aload_n hx 22 (i := 0) 0 dX11_at_22 rfl rfl ?_
    refine g_iload_n hx 23 (i := 1) 1 dX11_at_23 rfl rfl ?_
    obtain ⟨q_594, eq_594, hr⟩ := bind_e hr
    refine g_callVr hx (c_Md_folderAt hρ l g σ T ow (setF M 9 0) p1 eq_594) lk_X11_99 ar_Md_folderAt (pM_o σ T ow ρ (setF M 9 0)) (T := TX11) (N := 30) rfl (As := [.int p1]) (rest := []) rfl (Nat.le_of_ble_eq_true rfl) ⟨Nat.le_of_ble_eq_true rfl, Nat.le_of_ble_eq_true rfl⟩ ⟨rfl, rfl⟩ ⟨Nat.zero_le _, Nat.zero_le _⟩ dX11_at_24 ?_
    refine g_goto hx 27 31 dX11_at_27 (by decide) ?_
    exact g_iret hx hR 31 dX11_at_31 ⟨by rw [← Option.some.inj hr] <;> rfl, by rw [← Option.some.inj hr] <;> rfl⟩
def Md_reader (ρ : Nat) (M : MdM) (p1 p2 : Int32) : Option (Int32 × MdM) := Option.bind (Md_isReader ρ M p1) fun q_595 => lt' (Md_lacks ρ M q_595) fun q_596 => if q_596.1 = 0 then (if p2 = 0 then (Option.bind (Md_foldersOf ρ q_596.2 p1) fun q_599 => some ((q_599, q_596.2))) else (if p2 = 1 then (Option.bind (Md_slipsWith ρ q_596.2 0 p1) fun q_601 => some ((q_601, q_596.2))) else (if p2 = 2 then (if inB (17 + p1) 257 then (some (((q_596.2.2 ρ) (17 + p1).toNatClampNeg, q_596.2))) else none) else (lt' (Md_raise ρ q_596.2 2) fun q_604 => some ((q_604.1, q_604.2)))))) else (some ((0, q_596.2)))
set_option maxRecDepth 100000 in
set_option maxHeartbeats 4000000 in
theorem c_Md_reader {ρ : Nat} (hρ : ρ < 2) (l : Launch) (g : Gl) (σ : Hp) (T : Nat) (ow : Nat → Option Nat) (M : MdM) (p1 p2 : Int32) {r : Int32 × MdM} (hr : Md_reader ρ M p1 p2 = some r) : MG l g md_Md_reader [.ref T, .int p1, .int p2] (putMd σ T ow ρ M) (rs (some (.int r.1)) (putMd σ T ow ρ r.2)) := by
  refine MG.intro (by decide +kernel) (Nat.le_of_ble_eq_true rfl) (fun X hx hR _ => ?_)
  unfold Md_reader at hr
  refine g_ls [0, 1, 2] [(0, .ref T), (1, .int p1), (2, .int p2)] rfl ?_
  refine g_aload_n hx 0 (i := 0) 0 dX11_reader_0 rfl rfl ?_
  refine g_aload_n hx 1 (i := 0) 0 dX11_reader_1 rfl rfl ?_
  refine g_iload_n hx 2 (i := 1) 1 dX11_reader_2 rfl rfl ?_
  obtain ⟨q_595, eq_595, hr⟩ := bind_e hr
  refine g_callVr hx (c_Md_isReader hρ l g σ T ow M p1 eq_595) lk_X11_201 ar_Md_isReader (pM_o σ T ow ρ M) (T := TX11) (N := 30) rfl (As := [.int p1]) (rest := [.ref T]) rfl (Nat.le_of_ble_eq_true rfl) ⟨Nat.le_of_ble_eq_true rfl, Nat.le_of_ble_eq_true rfl⟩ ⟨rfl, rfl⟩ ⟨Nat.zero_le _, Nat.zero_le _⟩ dX11_reader_3 ?_
  obtain ⟨q_596, eq_596, hr⟩ := lt'_e hr
  refine g_callVr hx (c_Md_lacks hρ l g σ T ow M q_595 eq_596.symm) lk_X11_170 ar_Md_lacks (pM_o σ T ow ρ M) (T := TX11) (N := 30) rfl (As := [.int q_595]) (rest := []) rfl (Nat.le_of_ble_eq_true rfl) ⟨Nat.le_of_ble_eq_true rfl, Nat.le_of_ble_eq_true rfl⟩ ⟨rfl, rfl⟩ ⟨Nat.zero_le _, Nat.zero_le _⟩ dX11_reader_6 ?_
  refine g_if_eq hx 9 14 dX11_reader_9 (by decide) (fun hc_597 => ?_) (fun hc_597 => ?_)
  · have hr := (if_pos hc_597).symm.trans hr
    refine g_iload_n hx 14 (i := 2) 2 dX11_reader_14 rfl rfl ?_
    by_cases hc_598 : p2 = 0
    · have hr := (if_pos hc_598).symm.trans hr
      refine g_tableIn hx 15 40 dX11_reader_15 (by rw [hc_598]; decide) (by rw [hc_598]; decide) (by rw [hc_598]; rfl) (by decide) ?_
      refine g_aload_n hx 40 (i := 0) 0 dX11_reader_40 rfl rfl ?_
      refine g_iload_n hx 41 (i := 1) 1 dX11_reader_41 rfl rfl ?_
      obtain ⟨q_599, eq_599, hr⟩ := bind_e hr
      refine g_callVr hx (c_Md_foldersOf hρ l g σ T ow q_596.2 p1 eq_599) lk_X11_136 ar_Md_foldersOf (pM_o σ T ow ρ q_596.2) (T := TX11) (N := 30) rfl (As := [.int p1]) (rest := []) rfl (Nat.le_of_ble_eq_true rfl) ⟨Nat.le_of_ble_eq_true rfl, Nat.le_of_ble_eq_true rfl⟩ ⟨rfl, rfl⟩ ⟨Nat.zero_le _, Nat.zero_le _⟩ dX11_reader_42 ?_
      exact g_iret hx hR 45 dX11_reader_45 ⟨by rw [← Option.some.inj hr] <;> rfl, by rw [← Option.some.inj hr] <;> rfl⟩
    · have hr := (if_neg hc_598).symm.trans hr
      by_cases hc_600 : p2 = 1
      · have hr := (if_pos hc_600).symm.trans hr
        refine g_tableIn hx 15 46 dX11_reader_15 (by rw [hc_600]; decide) (by rw [hc_600]; decide) (by rw [hc_600]; rfl) (by decide) ?_
        refine g_aload_n hx 46 (i := 0) 0 dX11_reader_46 rfl rfl ?_
        refine g_iconst hx 47 (0) dX11_reader_47 rfl ?_
        refine g_iload_n hx 48 (i := 1) 1 dX11_reader_48 rfl rfl ?_
        obtain ⟨q_601, eq_601, hr⟩ := bind_e hr
        refine g_callVr hx (c_Md_slipsWith hρ l g σ T ow q_596.2 0 p1 eq_601) lk_X11_192 ar_Md_slipsWith (pM_o σ T ow ρ q_596.2) (T := TX11) (N := 30) rfl (As := [.int 0, .int p1]) (rest := []) rfl (Nat.le_of_ble_eq_true rfl) ⟨Nat.le_of_ble_eq_true rfl, Nat.le_of_ble_eq_true rfl⟩ ⟨rfl, rfl⟩ ⟨Nat.zero_le _, Nat.zero_le _⟩ dX11_reader_49 ?_
        exact g_iret hx hR 52 dX11_reader_52 ⟨by rw [← Option.some.inj hr] <;> rfl, by rw [← Option.some.inj hr] <;> rfl⟩
      · have hr := (if_neg hc_600).symm.trans hr
        by_cases hc_602 : p2 = 2
        · have hr := (if_pos hc_602).symm.trans hr
          refine g_tableIn hx 15 53 dX11_reader_15 (by rw [hc_602]; decide) (by rw [hc_602]; decide) (by rw [hc_602]; rfl) (by decide) ?_
          refine g_aload_n hx 53 (i := 0) 0 dX11_reader_53 rfl rfl ?_
          refine g_get hx 54 (C := RX11) (T := TX11) (N := 30) 7 (.ref (T + 1 + ρ)) (pM_o σ T ow ρ q_596.2) rfl (by decide) rfl fl_X11_31 dX11_reader_54 ?_
          refine g_bipush hx 57 (17) dX11_reader_57 rfl ?_
          refine g_iload_n hx 59 (i := 1) 1 dX11_reader_59 rfl rfl ?_
          refine g_iadd hx 60 dX11_reader_60 ?_
          obtain ⟨hb_603, hr⟩ := ob hr
          refine g_iald hx 61 (pM_row hρ σ T ow q_596.2) hb_603 dX11_reader_61 ?_
          exact g_iret hx hR 62 dX11_reader_62 ⟨by rw [← Option.some.inj hr] <;> rfl, by rw [← Option.some.inj hr] <;> rfl⟩
        · have hr := (if_neg hc_602).symm.trans hr
          refine g_tableOut hx 15 63 dX11_reader_15 (sw_out (fun c h1 h2 hq => by have hc : c = 0 ∨ c = 1 ∨ c = 2 := (by omega); rcases hc with rfl | rfl | rfl <;> first | exact lv_neT hc_598 rfl hq | exact lv_neT hc_600 rfl hq | exact lv_neT hc_602 rfl hq)) (by decide) ?_
          refine g_aload_n hx 63 (i := 0) 0 dX11_reader_63 rfl rfl ?_
          refine g_iconst hx 64 (2) dX11_reader_64 rfl ?_
          obtain ⟨q_604, eq_604, hr⟩ := lt'_e hr
          refine g_callVr hx (c_Md_raise hρ l g σ T ow q_596.2 2 eq_604.symm) lk_X11_195 ar_Md_raise (pM_o σ T ow ρ q_596.2) (T := TX11) (N := 30) rfl (As := [.int 2]) (rest := []) rfl (Nat.le_of_ble_eq_true rfl) ⟨Nat.le_of_ble_eq_true rfl, Nat.le_of_ble_eq_true rfl⟩ ⟨rfl, rfl⟩ ⟨Nat.zero_le _, Nat.zero_le _⟩ dX11_reader_65 ?_
          exact g_iret hx hR 68 dX11_reader_68 ⟨by rw [← Option.some.inj hr] <;> rfl, by rw [← Option.some.inj hr] <;> rfl⟩
  · have hr := (if_neg hc_597).symm.trans hr
    refine g_iconst hx 12 (0) dX11_reader_12 rfl ?_
    exact g_iret hx hR 13 dX11_reader_13 ⟨by rw [← Option.some.inj hr] <;> rfl, by rw [← Option.some.inj hr] <;> rfl⟩
def Md_waiting (ρ : Nat) (M : MdM) (p1 p2 : Int32) : Option (Int32 × MdM) := lt' (Md_lacks ρ M (Md_inRange p2 0 4)) fun q_605 => if q_605.1 = 0 then (Option.bind (Md_isSlip ρ q_605.2 p1) fun q_607 => if q_607 = 0 then (some (((-1), q_605.2))) else (if 4 ≤ p2 then (Option.bind (Md_idleness ρ q_605.2 p1) fun q_610 => some ((q_610, q_605.2))) else (Option.bind (Md_ofSlip ρ q_605.2 p1 p2) fun q_611 => some ((q_611, q_605.2))))) else (some ((0, q_605.2)))
set_option maxRecDepth 100000 in
set_option maxHeartbeats 4000000 in
theorem c_Md_waiting {ρ : Nat} (hρ : ρ < 2) (l : Launch) (g : Gl) (σ : Hp) (T : Nat) (ow : Nat → Option Nat) (M : MdM) (p1 p2 : Int32) {r : Int32 × MdM} (hr : Md_waiting ρ M p1 p2 = some r) : MG l g md_Md_waiting [.ref T, .int p1, .int p2] (putMd σ T ow ρ M) (rs (some (.int r.1)) (putMd σ T ow ρ r.2)) := by
  refine MG.intro (by decide +kernel) (Nat.le_of_ble_eq_true rfl) (fun X hx hR _ => ?_)
  unfold Md_waiting at hr
  refine g_ls [0, 1, 2] [(0, .ref T), (1, .int p1), (2, .int p2)] rfl ?_
  refine g_aload_n hx 0 (i := 0) 0 dX11_waiting_0 rfl rfl ?_
  refine g_iload_n hx 1 (i := 2) 2 dX11_waiting_1 rfl rfl ?_
  refine g_iconst hx 2 (0) dX11_waiting_2 rfl ?_
  refine g_iconst hx 3 (4) dX11_waiting_3 rfl ?_
  refine g_callSr hx (c_Md_inRange l g _ p2 0 4 rfl) lk_X11_91 ar_Md_inRange (As := [.int p2, .int 0, .int 4]) (rest := [.ref T]) rfl (Nat.le_of_ble_eq_true rfl) ⟨Nat.le_of_ble_eq_true rfl, Nat.le_of_ble_eq_true rfl⟩ ⟨rfl, rfl⟩ ⟨Nat.zero_le _, Nat.zero_le _⟩ dX11_waiting_4 ?_
  obtain ⟨q_605, eq_605, hr⟩ := lt'_e hr
  refine g_callVr hx (c_Md_lacks hρ l g σ T ow M (Md_inRange p2 0 4) eq_605.symm) lk_X11_170 ar_Md_lacks (pM_o σ T ow ρ M) (T := TX11) (N := 30) rfl (As := [.int (Md_inRange p2 0 4)]) (rest := []) rfl (Nat.le_of_ble_eq_true rfl) ⟨Nat.le_of_ble_eq_true rfl, Nat.le_of_ble_eq_true rfl⟩ ⟨rfl, rfl⟩ ⟨Nat.zero_le _, Nat.zero_le _⟩ dX11_waiting_7 ?_
  refine g_if_eq hx 10 15 dX11_waiting_10 (by decide) (fun hc_606 => ?_) (fun hc_606 => ?_)
  · have hr := (if_pos hc_606).symm.trans hr
    refine g_aload_n hx 15 (i := 0) 0 dX11_waiting_15 rfl rfl ?_
    refine g_iload_n hx 16 (i := 1) 1 dX11_waiting_16 rfl rfl ?_
    obtain ⟨q_607, eq_607, hr⟩ := bind_e hr
    refine g_callVr hx (c_Md_isSlip hρ l g σ T ow q_605.2 p1 eq_607) lk_X11_204 ar_Md_isSlip (pM_o σ T ow ρ q_605.2) (T := TX11) (N := 30) rfl (As := [.int p1]) (rest := []) rfl (Nat.le_of_ble_eq_true rfl) ⟨Nat.le_of_ble_eq_true rfl, Nat.le_of_ble_eq_true rfl⟩ ⟨rfl, rfl⟩ ⟨Nat.zero_le _, Nat.zero_le _⟩ dX11_waiting_17 ?_
    refine g_if_ne hx 20 25 dX11_waiting_20 (by decide) (fun hc_608 => ?_) (fun hc_608 => ?_)
    · have hr := (if_neg hc_608).symm.trans hr
      refine g_iload_n hx 25 (i := 2) 2 dX11_waiting_25 rfl rfl ?_
      refine g_iconst hx 26 (4) dX11_waiting_26 rfl ?_
      refine g_icmp_ge hx 27 39 dX11_waiting_27 (by decide) (fun hc_609 => ?_) (fun hc_609 => ?_)
      · have hr := (if_pos hc_609).symm.trans hr
        refine g_aload_n hx 39 (i := 0) 0 dX11_waiting_39 rfl rfl ?_
        refine g_iload_n hx 40 (i := 1) 1 dX11_waiting_40 rfl rfl ?_
        obtain ⟨q_610, eq_610, hr⟩ := bind_e hr
        refine g_callVr hx (c_Md_idleness hρ l g σ T ow q_605.2 p1 eq_610) lk_X11_149 ar_Md_idleness (pM_o σ T ow ρ q_605.2) (T := TX11) (N := 30) rfl (As := [.int p1]) (rest := []) rfl (Nat.le_of_ble_eq_true rfl) ⟨Nat.le_of_ble_eq_true rfl, Nat.le_of_ble_eq_true rfl⟩ ⟨rfl, rfl⟩ ⟨Nat.zero_le _, Nat.zero_le _⟩ dX11_waiting_41 ?_
        exact g_iret hx hR 44 dX11_waiting_44 ⟨by rw [← Option.some.inj hr] <;> rfl, by rw [← Option.some.inj hr] <;> rfl⟩
      · have hr := (if_neg hc_609).symm.trans hr
        refine g_aload_n hx 30 (i := 0) 0 dX11_waiting_30 rfl rfl ?_
        refine g_iload_n hx 31 (i := 1) 1 dX11_waiting_31 rfl rfl ?_
        refine g_iload_n hx 32 (i := 2) 2 dX11_waiting_32 rfl rfl ?_
        obtain ⟨q_611, eq_611, hr⟩ := bind_e hr
        refine g_callVr hx (c_Md_ofSlip hρ l g σ T ow q_605.2 p1 p2 eq_611) lk_X11_130 ar_Md_ofSlip (pM_o σ T ow ρ q_605.2) (T := TX11) (N := 30) rfl (As := [.int p1, .int p2]) (rest := []) rfl (Nat.le_of_ble_eq_true rfl) ⟨Nat.le_of_ble_eq_true rfl, Nat.le_of_ble_eq_true rfl⟩ ⟨rfl, rfl⟩ ⟨Nat.zero_le _, Nat.zero_le _⟩ dX11_waiting_33 ?_
        refine g_goto hx 36 44 dX11_waiting_36 (by decide) ?_
        exact g_iret hx hR 44 dX11_waiting_44 ⟨by rw [← Option.some.inj hr] <;> rfl, by rw [← Option.some.inj hr] <;> rfl⟩
    · have hr := (if_pos hc_608).symm.trans hr
      refine g_iconst hx 23 (-1) dX11_waiting_23 rfl ?_
      exact g_iret hx hR 24 dX11_waiting_24 ⟨by rw [← Option.some.inj hr] <;> rfl, by rw [← Option.some.inj hr] <;> rfl⟩
  · have hr := (if_neg hc_606).symm.trans hr
    refine g_iconst hx 13 (0) dX11_waiting_13 rfl ?_
    exact g_iret hx hR 14 dX11_waiting_14 ⟨by rw [← Option.some.inj hr] <;> rfl, by rw [← Option.some.inj hr] <;> rfl⟩
def Md_timesIn_L6 (ρ : Nat) (M : MdM) : Nat → Int32 → Int32 → Int32 → Int32 → Int32 → Option (Int32)
  | 0, _, _, _, _, _ => none
  | n + 1, v1_612, v2_613, v3_614, v4_615, v5_616 => if v2_613 ≤ v5_616 then (some (v4_615)) else (if inB (v1_612 + v5_616) 257 then (if (M.2 ρ) (v1_612 + v5_616).toNatClampNeg = v3_614 then (lt' (v4_615 + 1) fun v4_620 => Md_timesIn_L6 ρ M n v1_612 v2_613 v3_614 v4_620 (v5_616 + 1)) else (lt' (v4_615 + 0) fun v4_621 => Md_timesIn_L6 ρ M n v1_612 v2_613 v3_614 v4_621 (v5_616 + 1))) else none)
def Md_timesIn (ρ : Nat) (M : MdM) (p1 p2 p3 : Int32) : Option (Int32) := Md_timesIn_L6 ρ M FU p1 p2 p3 0 0
set_option maxRecDepth 100000 in
set_option maxHeartbeats 4000000 in
theorem w_Md_timesIn_L6 {ρ : Nat} (hρ : ρ < 2) {X : Cx} {l : Launch} {g : Gl} (hx : Ok X l g RX11 cX11_timesIn 6 md_Md_timesIn.rm) {σ : Hp} {T : Nat} {ow : Nat → Option Nat} {M : MdM} {r : Int32} (hR : Ret X (rs (some (.int r)) (putMd σ T ow ρ M)) 0 0 (some .int)) : ∀ (n : Nat) (v1_612 v2_613 v3_614 v4_615 v5_616 : Int32), Md_timesIn_L6 ρ M n v1_612 v2_613 v3_614 v4_615 v5_616 = some r → G X (putMd σ T ow ρ M) 0 0 6 [(0, .ref T), (1, .int v1_612), (2, .int v2_613), (3, .int v3_614), (4, .int v4_615), (5, .int v5_616)] [] := by
  intro n
  induction n with
  | zero =>
    intro v1_612 v2_613 v3_614 v4_615 v5_616 hr
    rw [Md_timesIn_L6] at hr
    cases hr
  | succ n ih =>
    intro v1_612 v2_613 v3_614 v4_615 v5_616 hr
    rw [Md_timesIn_L6] at hr
    refine g_iload hx 6 (i := 5) 5 dX11_timesIn_6 rfl ?_
    refine g_iload_n hx 8 (i := 2) 2 dX11_timesIn_8 rfl rfl ?_
    refine g_icmp_ge hx 9 41 dX11_timesIn_9 (by decide) (fun hc_617 => ?_) (fun hc_617 => ?_)
    · have hr := (if_pos hc_617).symm.trans hr
      refine g_iload hx 41 (i := 4) 4 dX11_timesIn_41 rfl ?_
      exact g_iret hx hR 43 dX11_timesIn_43 ⟨by rw [← Option.some.inj hr] <;> rfl, rfl⟩
    · have hr := (if_neg hc_617).symm.trans hr
      refine g_iload hx 12 (i := 4) 4 dX11_timesIn_12 rfl ?_
      refine g_aload_n hx 14 (i := 0) 0 dX11_timesIn_14 rfl rfl ?_
      refine g_get hx 15 (C := RX11) (T := TX11) (N := 30) 7 (.ref (T + 1 + ρ)) (pM_o σ T ow ρ M) rfl (by decide) rfl fl_X11_31 dX11_timesIn_15 ?_
      refine g_iload_n hx 18 (i := 1) 1 dX11_timesIn_18 rfl rfl ?_
      refine g_iload hx 19 (i := 5) 5 dX11_timesIn_19 rfl ?_
      refine g_iadd hx 21 dX11_timesIn_21 ?_
      obtain ⟨hb_618, hr⟩ := ob hr
      refine g_iald hx 22 (pM_row hρ σ T ow M) hb_618 dX11_timesIn_22 ?_
      refine g_iload_n hx 23 (i := 3) 3 dX11_timesIn_23 rfl rfl ?_
      refine g_icmp_ne hx 24 31 dX11_timesIn_24 (by decide) (fun hc_619 => ?_) (fun hc_619 => ?_)
      · have hr := (if_neg hc_619).symm.trans hr
        refine g_iconst hx 31 (0) dX11_timesIn_31 rfl ?_
        refine g_iadd hx 32 dX11_timesIn_32 ?_
        obtain ⟨v4_621, ev4_621, hr⟩ := lt'_e hr
        refine g_nmi ev4_621 ?_
        refine g_istore hx 33 (i := 4) [(4, .int v4_621), (0, .ref T), (1, .int v1_612), (2, .int v2_613), (3, .int v3_614), (5, .int v5_616)] dX11_timesIn_33 (by decide) rfl ?_
        refine g_iinc hx 35 (i := 5) 5 (v5_616 + 1) [(5, .int (v5_616 + 1)), (4, .int v4_621), (0, .ref T), (1, .int v1_612), (2, .int v2_613), (3, .int v3_614)] dX11_timesIn_35 rfl rfl (by decide) rfl ?_
        refine g_goto hx 38 6 dX11_timesIn_38 (by decide) ?_
        refine g_ls [2, 3, 4, 5, 1, 0] [(0, .ref T), (1, .int v1_612), (2, .int v2_613), (3, .int v3_614), (4, .int v4_621), (5, .int (v5_616 + 1))] rfl ?_
        exact ih v1_612 v2_613 v3_614 v4_621 (v5_616 + 1) hr
      · have hr := (if_pos hc_619).symm.trans hr
        refine g_iconst hx 27 (1) dX11_timesIn_27 rfl ?_
        refine g_goto hx 28 32 dX11_timesIn_28 (by decide) ?_
        refine g_iadd hx 32 dX11_timesIn_32 ?_
        obtain ⟨v4_620, ev4_620, hr⟩ := lt'_e hr
        refine g_nmi ev4_620 ?_
        refine g_istore hx 33 (i := 4) [(4, .int v4_620), (0, .ref T), (1, .int v1_612), (2, .int v2_613), (3, .int v3_614), (5, .int v5_616)] dX11_timesIn_33 (by decide) rfl ?_
        refine g_iinc hx 35 (i := 5) 5 (v5_616 + 1) [(5, .int (v5_616 + 1)), (4, .int v4_620), (0, .ref T), (1, .int v1_612), (2, .int v2_613), (3, .int v3_614)] dX11_timesIn_35 rfl rfl (by decide) rfl ?_
        refine g_goto hx 38 6 dX11_timesIn_38 (by decide) ?_
        refine g_ls [2, 3, 4, 5, 1, 0] [(0, .ref T), (1, .int v1_612), (2, .int v2_613), (3, .int v3_614), (4, .int v4_620), (5, .int (v5_616 + 1))] rfl ?_
        exact ih v1_612 v2_613 v3_614 v4_620 (v5_616 + 1) hr
set_option maxRecDepth 100000 in
set_option maxHeartbeats 4000000 in
theorem c_Md_timesIn {ρ : Nat} (hρ : ρ < 2) (l : Launch) (g : Gl) (σ : Hp) (T : Nat) (ow : Nat → Option Nat) (M : MdM) (p1 p2 p3 : Int32) {r : Int32} (hr : Md_timesIn ρ M p1 p2 p3 = some r) : MG l g md_Md_timesIn [.ref T, .int p1, .int p2, .int p3] (putMd σ T ow ρ M) (rs (some (.int r)) (putMd σ T ow ρ M)) := by
  refine MG.intro (by decide +kernel) (Nat.le_of_ble_eq_true rfl) (fun X hx hR _ => ?_)
  unfold Md_timesIn at hr
  refine g_ls [0, 1, 2, 3] [(0, .ref T), (1, .int p1), (2, .int p2), (3, .int p3)] rfl ?_
  refine g_iconst hx 0 (0) dX11_timesIn_0 rfl ?_
  refine g_istore hx 1 (i := 4) [(4, .int 0), (0, .ref T), (1, .int p1), (2, .int p2), (3, .int p3)] dX11_timesIn_1 (by decide) rfl ?_
  refine g_iconst hx 3 (0) dX11_timesIn_3 rfl ?_
  refine g_istore hx 4 (i := 5) [(5, .int 0), (4, .int 0), (0, .ref T), (1, .int p1), (2, .int p2), (3, .int p3)] dX11_timesIn_4 (by decide) rfl ?_
  refine g_ls [2, 3, 4, 5, 1, 0] [(0, .ref T), (1, .int p1), (2, .int p2), (3, .int p3), (4, .int 0), (5, .int 0)] rfl ?_
  exact w_Md_timesIn_L6 hρ hx hR FU p1 p2 p3 0 0 hr
def Md_gap_L127 (ρ : Nat) : Nat → MdM → Int32 → Int32 → Option (Int32 × MdM)
  | 0, _, _, _ => none
  | n + 1, M, v1_630, v2_631 => if (M.2 ρ) (8 : Int32).toNatClampNeg ≤ v2_631 then (some ((v1_630, M))) else (Option.bind (Md_ofSlip ρ M v2_631 1) fun q_634 => Option.bind (Md_isIn ρ M q_634 1) fun q_635 => if q_635 = 0 then (lt' (v1_630 + 0) fun v1_637 => Md_gap_L127 ρ n M v1_637 (v2_631 + 1)) else (Option.bind (Md_of ρ M q_634 3) fun q_638 => Option.bind (Md_ofSlip ρ M v2_631 0) fun q_639 => if q_638 = q_639 then (lt' (v1_630 + 1) fun v1_641 => Md_gap_L127 ρ n M v1_641 (v2_631 + 1)) else (lt' (v1_630 + 0) fun v1_642 => Md_gap_L127 ρ n M v1_642 (v2_631 + 1))))
def Md_gap_L87 (ρ : Nat) : Nat → MdM → Int32 → Int32 → Option (Int32 × MdM)
  | 0, _, _, _ => none
  | n + 1, M, v1_626, v2_627 => if (M.2 ρ) (3 : Int32).toNatClampNeg ≤ v2_627 then (Md_gap_L127 ρ FU M v1_626 0) else (Option.bind (Md_foldersOf ρ M v2_627) fun q_643 => if q_643 ≤ (M.2 ρ) (4 : Int32).toNatClampNeg then (lt' (v1_626 + 0) fun v1_646 => Md_gap_L87 ρ n M v1_646 (v2_627 + 1)) else (lt' (v1_626 + 1) fun v1_647 => Md_gap_L87 ρ n M v1_647 (v2_627 + 1)))
def Md_gap_L9 (ρ : Nat) : Nat → MdM → Int32 → Int32 → Option (Int32 × MdM)
  | 0, _, _, _ => none
  | n + 1, M, v1_622, v2_623 => if (M.2 ρ) (5 : Int32).toNatClampNeg ≤ v2_623 then (Md_gap_L87 ρ FU M v1_622 0) else (Option.bind (Md_timesIn ρ M 145 ((M.2 ρ) (6 : Int32).toNatClampNeg) v2_623) fun q_649 => Option.bind (Md_timesIn ρ M 169 ((M.2 ρ) (7 : Int32).toNatClampNeg) v2_623) fun q_651 => Option.bind (Md_isIn ρ M v2_623 1) fun q_652 => if q_652 = 0 then (lt' ((q_649 + q_651) + 0) fun v3_654 => if v3_654 = 1 then (lt' (v1_622 + 0) fun v1_656 => Md_gap_L9 ρ n M v1_656 (v2_623 + 1)) else (lt' (v1_622 + 1) fun v1_657 => Md_gap_L9 ρ n M v1_657 (v2_623 + 1))) else (lt' ((q_649 + q_651) + 1) fun v3_658 => if v3_658 = 1 then (lt' (v1_622 + 0) fun v1_660 => Md_gap_L9 ρ n M v1_660 (v2_623 + 1)) else (lt' (v1_622 + 1) fun v1_661 => Md_gap_L9 ρ n M v1_661 (v2_623 + 1))))
def Md_gap (ρ : Nat) (M : MdM) : Option (Int32 × MdM) := Md_gap_L9 ρ FU (setF M 9 0) 0 0
set_option maxRecDepth 100000 in
set_option maxHeartbeats 4000000 in
theorem w_Md_gap_L127 {ρ : Nat} (hρ : ρ < 2) {X : Cx} {l : Launch} {g : Gl} (hx : Ok X l g RX11 cX11_gap 4 md_Md_gap.rm) {σ : Hp} {T : Nat} {ow : Nat → Option Nat} {r : Int32 × MdM} (hR : Ret X (rs (some (.int r.1)) (putMd σ T ow ρ r.2)) 0 0 (some .int)) : ∀ (n : Nat) (M : MdM) (v1_630 v2_631 : Int32), Md_gap_L127 ρ n M v1_630 v2_631 = some r → G X (putMd σ T ow ρ M) 0 0 127 [(0, .ref T), (1, .int v1_630), (2, .int v2_631)] [] := by
  intro n
  induction n with
  | zero =>
    intro M v1_630 v2_631 hr
    rw [Md_gap_L127] at hr
    cases hr
  | succ n ih =>
    intro M v1_630 v2_631 hr
    rw [Md_gap_L127] at hr
    refine g_iload_n hx 127 (i := 2) 2 dX11_gap_127 rfl rfl ?_
    refine g_aload_n hx 128 (i := 0) 0 dX11_gap_128 rfl rfl ?_
    refine g_get hx 129 (C := RX11) (T := TX11) (N := 30) 7 (.ref (T + 1 + ρ)) (pM_o σ T ow ρ M) rfl (by decide) rfl fl_X11_31 dX11_gap_129 ?_
    refine g_bipush hx 132 (8) dX11_gap_132 rfl ?_
    refine g_iald hx 134 (pM_row hρ σ T ow M) (by decide : inB 8 257) dX11_gap_134 ?_
    refine g_icmp_ge hx 135 183 dX11_gap_135 (by decide) (fun hc_633 => ?_) (fun hc_633 => ?_)
    · have hr := (if_pos hc_633).symm.trans hr
      refine g_iload_n hx 183 (i := 1) 1 dX11_gap_183 rfl rfl ?_
      exact g_iret hx hR 184 dX11_gap_184 ⟨by rw [← Option.some.inj hr] <;> rfl, by rw [← Option.some.inj hr] <;> rfl⟩
    · have hr := (if_neg hc_633).symm.trans hr
      refine g_aload_n hx 138 (i := 0) 0 dX11_gap_138 rfl rfl ?_
      refine g_iload_n hx 139 (i := 2) 2 dX11_gap_139 rfl rfl ?_
      refine g_iconst hx 140 (1) dX11_gap_140 rfl ?_
      obtain ⟨q_634, eq_634, hr⟩ := bind_e hr
      refine g_callVr hx (c_Md_ofSlip hρ l g σ T ow M v2_631 1 eq_634) lk_X11_130 ar_Md_ofSlip (pM_o σ T ow ρ M) (T := TX11) (N := 30) rfl (As := [.int v2_631, .int 1]) (rest := []) rfl (Nat.le_of_ble_eq_true rfl) ⟨Nat.le_of_ble_eq_true rfl, Nat.le_of_ble_eq_true rfl⟩ ⟨rfl, rfl⟩ ⟨Nat.zero_le _, Nat.zero_le _⟩ dX11_gap_141 ?_
      refine g_istore_n hx 144 (i := 3) [(3, .int q_634), (0, .ref T), (1, .int v1_630), (2, .int v2_631)] dX11_gap_144 rfl (by decide) rfl ?_
      refine g_iload_n hx 145 (i := 1) 2 dX11_gap_145 rfl rfl ?_
      refine g_aload_n hx 146 (i := 0) 1 dX11_gap_146 rfl rfl ?_
      refine g_iload_n hx 147 (i := 3) 0 dX11_gap_147 rfl rfl ?_
      refine g_iconst hx 148 (1) dX11_gap_148 rfl ?_
      obtain ⟨q_635, eq_635, hr⟩ := bind_e hr
      refine g_callVr hx (c_Md_isIn hρ l g σ T ow M q_634 1 eq_635) lk_X11_126 ar_Md_isIn (pM_o σ T ow ρ M) (T := TX11) (N := 30) rfl (As := [.int q_634, .int 1]) (rest := [.int v1_630]) rfl (Nat.le_of_ble_eq_true rfl) ⟨Nat.le_of_ble_eq_true rfl, Nat.le_of_ble_eq_true rfl⟩ ⟨rfl, rfl⟩ ⟨Nat.zero_le _, Nat.zero_le _⟩ dX11_gap_149 ?_
      refine g_if_eq hx 152 174 dX11_gap_152 (by decide) (fun hc_636 => ?_) (fun hc_636 => ?_)
      · have hr := (if_pos hc_636).symm.trans hr
        refine g_iconst hx 174 (0) dX11_gap_174 rfl ?_
        refine g_iadd hx 175 dX11_gap_175 ?_
        obtain ⟨v1_637, ev1_637, hr⟩ := lt'_e hr
        refine g_nmi ev1_637 ?_
        refine g_istore_n hx 176 (i := 1) [(1, .int v1_637), (3, .int q_634), (0, .ref T), (2, .int v2_631)] dX11_gap_176 rfl (by decide) rfl ?_
        refine g_iinc hx 177 (i := 2) 3 (v2_631 + 1) [(2, .int (v2_631 + 1)), (1, .int v1_637), (3, .int q_634), (0, .ref T)] dX11_gap_177 rfl rfl (by decide) rfl ?_
        refine g_goto hx 180 127 dX11_gap_180 (by decide) ?_
        refine g_ls [3, 1, 0] [(0, .ref T), (1, .int v1_637), (2, .int (v2_631 + 1))] rfl ?_
        exact ih M v1_637 (v2_631 + 1) hr
      · have hr := (if_neg hc_636).symm.trans hr
        refine g_aload_n hx 155 (i := 0) 1 dX11_gap_155 rfl rfl ?_
        refine g_iload_n hx 156 (i := 3) 0 dX11_gap_156 rfl rfl ?_
        refine g_iconst hx 157 (3) dX11_gap_157 rfl ?_
        obtain ⟨q_638, eq_638, hr⟩ := bind_e hr
        refine g_callVr hx (c_Md_of hρ l g σ T ow M q_634 3 eq_638) lk_X11_95 ar_Md_of (pM_o σ T ow ρ M) (T := TX11) (N := 30) rfl (As := [.int q_634, .int 3]) (rest := [.int v1_630]) rfl (Nat.le_of_ble_eq_true rfl) ⟨Nat.le_of_ble_eq_true rfl, Nat.le_of_ble_eq_true rfl⟩ ⟨rfl, rfl⟩ ⟨Nat.zero_le _, Nat.zero_le _⟩ dX11_gap_158 ?_
        refine g_aload_n hx 161 (i := 0) 1 dX11_gap_161 rfl rfl ?_
        refine g_iload_n hx 162 (i := 2) 3 dX11_gap_162 rfl rfl ?_
        refine g_iconst hx 163 (0) dX11_gap_163 rfl ?_
        obtain ⟨q_639, eq_639, hr⟩ := bind_e hr
        refine g_callVr hx (c_Md_ofSlip hρ l g σ T ow M v2_631 0 eq_639) lk_X11_130 ar_Md_ofSlip (pM_o σ T ow ρ M) (T := TX11) (N := 30) rfl (As := [.int v2_631, .int 0]) (rest := [.int q_638, .int v1_630]) rfl (Nat.le_of_ble_eq_true rfl) ⟨Nat.le_of_ble_eq_true rfl, Nat.le_of_ble_eq_true rfl⟩ ⟨rfl, rfl⟩ ⟨Nat.zero_le _, Nat.zero_le _⟩ dX11_gap_164 ?_
        refine g_icmp_ne hx 167 174 dX11_gap_167 (by decide) (fun hc_640 => ?_) (fun hc_640 => ?_)
        · have hr := (if_neg hc_640).symm.trans hr
          refine g_iconst hx 174 (0) dX11_gap_174 rfl ?_
          refine g_iadd hx 175 dX11_gap_175 ?_
          obtain ⟨v1_642, ev1_642, hr⟩ := lt'_e hr
          refine g_nmi ev1_642 ?_
          refine g_istore_n hx 176 (i := 1) [(1, .int v1_642), (3, .int q_634), (0, .ref T), (2, .int v2_631)] dX11_gap_176 rfl (by decide) rfl ?_
          refine g_iinc hx 177 (i := 2) 3 (v2_631 + 1) [(2, .int (v2_631 + 1)), (1, .int v1_642), (3, .int q_634), (0, .ref T)] dX11_gap_177 rfl rfl (by decide) rfl ?_
          refine g_goto hx 180 127 dX11_gap_180 (by decide) ?_
          refine g_ls [3, 1, 0] [(0, .ref T), (1, .int v1_642), (2, .int (v2_631 + 1))] rfl ?_
          exact ih M v1_642 (v2_631 + 1) hr
        · have hr := (if_pos hc_640).symm.trans hr
          refine g_iconst hx 170 (1) dX11_gap_170 rfl ?_
          refine g_goto hx 171 175 dX11_gap_171 (by decide) ?_
          refine g_iadd hx 175 dX11_gap_175 ?_
          obtain ⟨v1_641, ev1_641, hr⟩ := lt'_e hr
          refine g_nmi ev1_641 ?_
          refine g_istore_n hx 176 (i := 1) [(1, .int v1_641), (3, .int q_634), (0, .ref T), (2, .int v2_631)] dX11_gap_176 rfl (by decide) rfl ?_
          refine g_iinc hx 177 (i := 2) 3 (v2_631 + 1) [(2, .int (v2_631 + 1)), (1, .int v1_641), (3, .int q_634), (0, .ref T)] dX11_gap_177 rfl rfl (by decide) rfl ?_
          refine g_goto hx 180 127 dX11_gap_180 (by decide) ?_
          refine g_ls [3, 1, 0] [(0, .ref T), (1, .int v1_641), (2, .int (v2_631 + 1))] rfl ?_
          exact ih M v1_641 (v2_631 + 1) hr
set_option maxRecDepth 100000 in
set_option maxHeartbeats 4000000 in
theorem w_Md_gap_L87 {ρ : Nat} (hρ : ρ < 2) {X : Cx} {l : Launch} {g : Gl} (hx : Ok X l g RX11 cX11_gap 4 md_Md_gap.rm) {σ : Hp} {T : Nat} {ow : Nat → Option Nat} {r : Int32 × MdM} (hR : Ret X (rs (some (.int r.1)) (putMd σ T ow ρ r.2)) 0 0 (some .int)) : ∀ (n : Nat) (M : MdM) (v1_626 v2_627 : Int32), Md_gap_L87 ρ n M v1_626 v2_627 = some r → G X (putMd σ T ow ρ M) 0 0 87 [(0, .ref T), (1, .int v1_626), (2, .int v2_627)] [] := by
  intro n
  induction n with
  | zero =>
    intro M v1_626 v2_627 hr
    rw [Md_gap_L87] at hr
    cases hr
  | succ n ih =>
    intro M v1_626 v2_627 hr
    rw [Md_gap_L87] at hr
    refine g_iload_n hx 87 (i := 2) 2 dX11_gap_87 rfl rfl ?_
    refine g_aload_n hx 88 (i := 0) 0 dX11_gap_88 rfl rfl ?_
    refine g_get hx 89 (C := RX11) (T := TX11) (N := 30) 7 (.ref (T + 1 + ρ)) (pM_o σ T ow ρ M) rfl (by decide) rfl fl_X11_31 dX11_gap_89 ?_
    refine g_iconst hx 92 (3) dX11_gap_92 rfl ?_
    refine g_iald hx 93 (pM_row hρ σ T ow M) (by decide : inB 3 257) dX11_gap_93 ?_
    refine g_icmp_ge hx 94 125 dX11_gap_94 (by decide) (fun hc_629 => ?_) (fun hc_629 => ?_)
    · have hr := (if_pos hc_629).symm.trans hr
      refine g_iconst hx 125 (0) dX11_gap_125 rfl ?_
      refine g_istore_n hx 126 (i := 2) [(2, .int 0), (0, .ref T), (1, .int v1_626)] dX11_gap_126 rfl (by decide) rfl ?_
      refine g_ls [1, 2, 0] [(0, .ref T), (1, .int v1_626), (2, .int 0)] rfl ?_
      exact w_Md_gap_L127 hρ hx hR FU M v1_626 0 hr
    · have hr := (if_neg hc_629).symm.trans hr
      refine g_iload_n hx 97 (i := 1) 1 dX11_gap_97 rfl rfl ?_
      refine g_aload_n hx 98 (i := 0) 0 dX11_gap_98 rfl rfl ?_
      refine g_iload_n hx 99 (i := 2) 2 dX11_gap_99 rfl rfl ?_
      obtain ⟨q_643, eq_643, hr⟩ := bind_e hr
      refine g_callVr hx (c_Md_foldersOf hρ l g σ T ow M v2_627 eq_643) lk_X11_136 ar_Md_foldersOf (pM_o σ T ow ρ M) (T := TX11) (N := 30) rfl (As := [.int v2_627]) (rest := [.int v1_626]) rfl (Nat.le_of_ble_eq_true rfl) ⟨Nat.le_of_ble_eq_true rfl, Nat.le_of_ble_eq_true rfl⟩ ⟨rfl, rfl⟩ ⟨Nat.zero_le _, Nat.zero_le _⟩ dX11_gap_100 ?_
      refine g_aload_n hx 103 (i := 0) 0 dX11_gap_103 rfl rfl ?_
      refine g_get hx 104 (C := RX11) (T := TX11) (N := 30) 7 (.ref (T + 1 + ρ)) (pM_o σ T ow ρ M) rfl (by decide) rfl fl_X11_31 dX11_gap_104 ?_
      refine g_iconst hx 107 (4) dX11_gap_107 rfl ?_
      refine g_iald hx 108 (pM_row hρ σ T ow M) (by decide : inB 4 257) dX11_gap_108 ?_
      refine g_icmp_le hx 109 116 dX11_gap_109 (by decide) (fun hc_645 => ?_) (fun hc_645 => ?_)
      · have hr := (if_pos hc_645).symm.trans hr
        refine g_iconst hx 116 (0) dX11_gap_116 rfl ?_
        refine g_iadd hx 117 dX11_gap_117 ?_
        obtain ⟨v1_646, ev1_646, hr⟩ := lt'_e hr
        refine g_nmi ev1_646 ?_
        refine g_istore_n hx 118 (i := 1) [(1, .int v1_646), (0, .ref T), (2, .int v2_627)] dX11_gap_118 rfl (by decide) rfl ?_
        refine g_iinc hx 119 (i := 2) 2 (v2_627 + 1) [(2, .int (v2_627 + 1)), (1, .int v1_646), (0, .ref T)] dX11_gap_119 rfl rfl (by decide) rfl ?_
        refine g_goto hx 122 87 dX11_gap_122 (by decide) ?_
        refine g_ls [2, 1, 0] [(0, .ref T), (1, .int v1_646), (2, .int (v2_627 + 1))] rfl ?_
        exact ih M v1_646 (v2_627 + 1) hr
      · have hr := (if_neg hc_645).symm.trans hr
        refine g_iconst hx 112 (1) dX11_gap_112 rfl ?_
        refine g_goto hx 113 117 dX11_gap_113 (by decide) ?_
        refine g_iadd hx 117 dX11_gap_117 ?_
        obtain ⟨v1_647, ev1_647, hr⟩ := lt'_e hr
        refine g_nmi ev1_647 ?_
        refine g_istore_n hx 118 (i := 1) [(1, .int v1_647), (0, .ref T), (2, .int v2_627)] dX11_gap_118 rfl (by decide) rfl ?_
        refine g_iinc hx 119 (i := 2) 2 (v2_627 + 1) [(2, .int (v2_627 + 1)), (1, .int v1_647), (0, .ref T)] dX11_gap_119 rfl rfl (by decide) rfl ?_
        refine g_goto hx 122 87 dX11_gap_122 (by decide) ?_
        refine g_ls [2, 1, 0] [(0, .ref T), (1, .int v1_647), (2, .int (v2_627 + 1))] rfl ?_
        exact ih M v1_647 (v2_627 + 1) hr
set_option maxRecDepth 100000 in
set_option maxHeartbeats 4000000 in
theorem w_Md_gap_L9 {ρ : Nat} (hρ : ρ < 2) {X : Cx} {l : Launch} {g : Gl} (hx : Ok X l g RX11 cX11_gap 4 md_Md_gap.rm) {σ : Hp} {T : Nat} {ow : Nat → Option Nat} {r : Int32 × MdM} (hR : Ret X (rs (some (.int r.1)) (putMd σ T ow ρ r.2)) 0 0 (some .int)) : ∀ (n : Nat) (M : MdM) (v1_622 v2_623 : Int32), Md_gap_L9 ρ n M v1_622 v2_623 = some r → G X (putMd σ T ow ρ M) 0 0 9 [(0, .ref T), (1, .int v1_622), (2, .int v2_623)] [] := by
  intro n
  induction n with
  | zero =>
    intro M v1_622 v2_623 hr
    rw [Md_gap_L9] at hr
    cases hr
  | succ n ih =>
    intro M v1_622 v2_623 hr
    rw [Md_gap_L9] at hr
    refine g_iload_n hx 9 (i := 2) 2 dX11_gap_9 rfl rfl ?_
    refine g_aload_n hx 10 (i := 0) 0 dX11_gap_10 rfl rfl ?_
    refine g_get hx 11 (C := RX11) (T := TX11) (N := 30) 7 (.ref (T + 1 + ρ)) (pM_o σ T ow ρ M) rfl (by decide) rfl fl_X11_31 dX11_gap_11 ?_
    refine g_iconst hx 14 (5) dX11_gap_14 rfl ?_
    refine g_iald hx 15 (pM_row hρ σ T ow M) (by decide : inB 5 257) dX11_gap_15 ?_
    refine g_icmp_ge hx 16 85 dX11_gap_16 (by decide) (fun hc_625 => ?_) (fun hc_625 => ?_)
    · have hr := (if_pos hc_625).symm.trans hr
      refine g_iconst hx 85 (0) dX11_gap_85 rfl ?_
      refine g_istore_n hx 86 (i := 2) [(2, .int 0), (0, .ref T), (1, .int v1_622)] dX11_gap_86 rfl (by decide) rfl ?_
      refine g_ls [1, 2, 0] [(0, .ref T), (1, .int v1_622), (2, .int 0)] rfl ?_
      exact w_Md_gap_L87 hρ hx hR FU M v1_622 0 hr
    · have hr := (if_neg hc_625).symm.trans hr
      refine g_aload_n hx 19 (i := 0) 0 dX11_gap_19 rfl rfl ?_
      refine g_sipush hx 20 (145) dX11_gap_20 rfl ?_
      refine g_aload_n hx 23 (i := 0) 0 dX11_gap_23 rfl rfl ?_
      refine g_get hx 24 (C := RX11) (T := TX11) (N := 30) 7 (.ref (T + 1 + ρ)) (pM_o σ T ow ρ M) rfl (by decide) rfl fl_X11_31 dX11_gap_24 ?_
      refine g_bipush hx 27 (6) dX11_gap_27 rfl ?_
      refine g_iald hx 29 (pM_row hρ σ T ow M) (by decide : inB 6 257) dX11_gap_29 ?_
      refine g_iload_n hx 30 (i := 2) 2 dX11_gap_30 rfl rfl ?_
      obtain ⟨q_649, eq_649, hr⟩ := bind_e hr
      refine g_callVr hx (c_Md_timesIn hρ l g σ T ow M 145 ((M.2 ρ) (6 : Int32).toNatClampNeg) v2_623 eq_649) lk_X11_207 ar_Md_timesIn (pM_o σ T ow ρ M) (T := TX11) (N := 30) rfl (As := [.int 145, .int ((M.2 ρ) (6 : Int32).toNatClampNeg), .int v2_623]) (rest := []) rfl (Nat.le_of_ble_eq_true rfl) ⟨Nat.le_of_ble_eq_true rfl, Nat.le_of_ble_eq_true rfl⟩ ⟨rfl, rfl⟩ ⟨Nat.zero_le _, Nat.zero_le _⟩ dX11_gap_31 ?_
      refine g_aload_n hx 34 (i := 0) 0 dX11_gap_34 rfl rfl ?_
      refine g_sipush hx 35 (169) dX11_gap_35 rfl ?_
      refine g_aload_n hx 38 (i := 0) 0 dX11_gap_38 rfl rfl ?_
      refine g_get hx 39 (C := RX11) (T := TX11) (N := 30) 7 (.ref (T + 1 + ρ)) (pM_o σ T ow ρ M) rfl (by decide) rfl fl_X11_31 dX11_gap_39 ?_
      refine g_bipush hx 42 (7) dX11_gap_42 rfl ?_
      refine g_iald hx 44 (pM_row hρ σ T ow M) (by decide : inB 7 257) dX11_gap_44 ?_
      refine g_iload_n hx 45 (i := 2) 2 dX11_gap_45 rfl rfl ?_
      obtain ⟨q_651, eq_651, hr⟩ := bind_e hr
      refine g_callVr hx (c_Md_timesIn hρ l g σ T ow M 169 ((M.2 ρ) (7 : Int32).toNatClampNeg) v2_623 eq_651) lk_X11_207 ar_Md_timesIn (pM_o σ T ow ρ M) (T := TX11) (N := 30) rfl (As := [.int 169, .int ((M.2 ρ) (7 : Int32).toNatClampNeg), .int v2_623]) (rest := [.int q_649]) rfl (Nat.le_of_ble_eq_true rfl) ⟨Nat.le_of_ble_eq_true rfl, Nat.le_of_ble_eq_true rfl⟩ ⟨rfl, rfl⟩ ⟨Nat.zero_le _, Nat.zero_le _⟩ dX11_gap_46 ?_
      refine g_iadd hx 49 dX11_gap_49 ?_
      refine g_aload_n hx 50 (i := 0) 0 dX11_gap_50 rfl rfl ?_
      refine g_iload_n hx 51 (i := 2) 2 dX11_gap_51 rfl rfl ?_
      refine g_iconst hx 52 (1) dX11_gap_52 rfl ?_
      obtain ⟨q_652, eq_652, hr⟩ := bind_e hr
      refine g_callVr hx (c_Md_isIn hρ l g σ T ow M v2_623 1 eq_652) lk_X11_126 ar_Md_isIn (pM_o σ T ow ρ M) (T := TX11) (N := 30) rfl (As := [.int v2_623, .int 1]) (rest := [.int (q_649 + q_651)]) rfl (Nat.le_of_ble_eq_true rfl) ⟨Nat.le_of_ble_eq_true rfl, Nat.le_of_ble_eq_true rfl⟩ ⟨rfl, rfl⟩ ⟨Nat.zero_le _, Nat.zero_le _⟩ dX11_gap_53 ?_
      refine g_if_eq hx 56 63 dX11_gap_56 (by decide) (fun hc_653 => ?_) (fun hc_653 => ?_)
      · have hr := (if_pos hc_653).symm.trans hr
        refine g_iconst hx 63 (0) dX11_gap_63 rfl ?_
        refine g_iadd hx 64 dX11_gap_64 ?_
        obtain ⟨v3_654, ev3_654, hr⟩ := lt'_e hr
        refine g_nmi ev3_654 ?_
        refine g_istore_n hx 65 (i := 3) [(3, .int v3_654), (0, .ref T), (1, .int v1_622), (2, .int v2_623)] dX11_gap_65 rfl (by decide) rfl ?_
        refine g_iload_n hx 66 (i := 1) 2 dX11_gap_66 rfl rfl ?_
        refine g_iload_n hx 67 (i := 3) 0 dX11_gap_67 rfl rfl ?_
        refine g_iconst hx 68 (1) dX11_gap_68 rfl ?_
        refine g_icmp_eq hx 69 76 dX11_gap_69 (by decide) (fun hc_655 => ?_) (fun hc_655 => ?_)
        · have hr := (if_pos hc_655).symm.trans hr
          refine g_iconst hx 76 (0) dX11_gap_76 rfl ?_
          refine g_iadd hx 77 dX11_gap_77 ?_
          obtain ⟨v1_656, ev1_656, hr⟩ := lt'_e hr
          refine g_nmi ev1_656 ?_
          refine g_istore_n hx 78 (i := 1) [(1, .int v1_656), (3, .int v3_654), (0, .ref T), (2, .int v2_623)] dX11_gap_78 rfl (by decide) rfl ?_
          refine g_iinc hx 79 (i := 2) 3 (v2_623 + 1) [(2, .int (v2_623 + 1)), (1, .int v1_656), (3, .int v3_654), (0, .ref T)] dX11_gap_79 rfl rfl (by decide) rfl ?_
          refine g_goto hx 82 9 dX11_gap_82 (by decide) ?_
          refine g_ls [3, 1, 0] [(0, .ref T), (1, .int v1_656), (2, .int (v2_623 + 1))] rfl ?_
          exact ih M v1_656 (v2_623 + 1) hr
        · have hr := (if_neg hc_655).symm.trans hr
          refine g_iconst hx 72 (1) dX11_gap_72 rfl ?_
          refine g_goto hx 73 77 dX11_gap_73 (by decide) ?_
          refine g_iadd hx 77 dX11_gap_77 ?_
          obtain ⟨v1_657, ev1_657, hr⟩ := lt'_e hr
          refine g_nmi ev1_657 ?_
          refine g_istore_n hx 78 (i := 1) [(1, .int v1_657), (3, .int v3_654), (0, .ref T), (2, .int v2_623)] dX11_gap_78 rfl (by decide) rfl ?_
          refine g_iinc hx 79 (i := 2) 3 (v2_623 + 1) [(2, .int (v2_623 + 1)), (1, .int v1_657), (3, .int v3_654), (0, .ref T)] dX11_gap_79 rfl rfl (by decide) rfl ?_
          refine g_goto hx 82 9 dX11_gap_82 (by decide) ?_
          refine g_ls [3, 1, 0] [(0, .ref T), (1, .int v1_657), (2, .int (v2_623 + 1))] rfl ?_
          exact ih M v1_657 (v2_623 + 1) hr
      · have hr := (if_neg hc_653).symm.trans hr
        refine g_iconst hx 59 (1) dX11_gap_59 rfl ?_
        refine g_goto hx 60 64 dX11_gap_60 (by decide) ?_
        refine g_iadd hx 64 dX11_gap_64 ?_
        obtain ⟨v3_658, ev3_658, hr⟩ := lt'_e hr
        refine g_nmi ev3_658 ?_
        refine g_istore_n hx 65 (i := 3) [(3, .int v3_658), (0, .ref T), (1, .int v1_622), (2, .int v2_623)] dX11_gap_65 rfl (by decide) rfl ?_
        refine g_iload_n hx 66 (i := 1) 2 dX11_gap_66 rfl rfl ?_
        refine g_iload_n hx 67 (i := 3) 0 dX11_gap_67 rfl rfl ?_
        refine g_iconst hx 68 (1) dX11_gap_68 rfl ?_
        refine g_icmp_eq hx 69 76 dX11_gap_69 (by decide) (fun hc_659 => ?_) (fun hc_659 => ?_)
        · have hr := (if_pos hc_659).symm.trans hr
          refine g_iconst hx 76 (0) dX11_gap_76 rfl ?_
          refine g_iadd hx 77 dX11_gap_77 ?_
          obtain ⟨v1_660, ev1_660, hr⟩ := lt'_e hr
          refine g_nmi ev1_660 ?_
          refine g_istore_n hx 78 (i := 1) [(1, .int v1_660), (3, .int v3_658), (0, .ref T), (2, .int v2_623)] dX11_gap_78 rfl (by decide) rfl ?_
          refine g_iinc hx 79 (i := 2) 3 (v2_623 + 1) [(2, .int (v2_623 + 1)), (1, .int v1_660), (3, .int v3_658), (0, .ref T)] dX11_gap_79 rfl rfl (by decide) rfl ?_
          refine g_goto hx 82 9 dX11_gap_82 (by decide) ?_
          refine g_ls [3, 1, 0] [(0, .ref T), (1, .int v1_660), (2, .int (v2_623 + 1))] rfl ?_
          exact ih M v1_660 (v2_623 + 1) hr
        · have hr := (if_neg hc_659).symm.trans hr
          refine g_iconst hx 72 (1) dX11_gap_72 rfl ?_
          refine g_goto hx 73 77 dX11_gap_73 (by decide) ?_
          refine g_iadd hx 77 dX11_gap_77 ?_
          obtain ⟨v1_661, ev1_661, hr⟩ := lt'_e hr
          refine g_nmi ev1_661 ?_
          refine g_istore_n hx 78 (i := 1) [(1, .int v1_661), (3, .int v3_658), (0, .ref T), (2, .int v2_623)] dX11_gap_78 rfl (by decide) rfl ?_
          refine g_iinc hx 79 (i := 2) 3 (v2_623 + 1) [(2, .int (v2_623 + 1)), (1, .int v1_661), (3, .int v3_658), (0, .ref T)] dX11_gap_79 rfl rfl (by decide) rfl ?_
          refine g_goto hx 82 9 dX11_gap_82 (by decide) ?_
          refine g_ls [3, 1, 0] [(0, .ref T), (1, .int v1_661), (2, .int (v2_623 + 1))] rfl ?_
          exact ih M v1_661 (v2_623 + 1) hr
set_option maxRecDepth 100000 in
set_option maxHeartbeats 4000000 in
theorem c_Md_gap {ρ : Nat} (hρ : ρ < 2) (l : Launch) (g : Gl) (σ : Hp) (T : Nat) (ow : Nat → Option Nat) (M : MdM) {r : Int32 × MdM} (hr : Md_gap ρ M = some r) : MG l g md_Md_gap [.ref T] (putMd σ T ow ρ M) (rs (some (.int r.1)) (putMd σ T ow ρ r.2)) := by
  refine MG.intro (by decide +kernel) (Nat.le_of_ble_eq_true rfl) (fun X hx hR _ => ?_)
  unfold Md_gap at hr
  refine g_ls [0] [(0, .ref T)] rfl ?_
  refine g_aload_n hx 0 (i := 0) 0 dX11_gap_0 rfl rfl ?_
  refine g_iconst hx 1 (0) dX11_gap_1 rfl ?_
  refine g_put hx 2 (C := RX11) (T := TX11) (N := 30) 9 .int _ (pM_o σ T ow ρ M) rfl (by decide) fl_X11_81 rfl rfl rfl rfl (Nat.le_of_ble_eq_true rfl) rfl dX11_gap_2 ?_
  refine G.heap (pM_f σ T ow ρ M 9 0) ?_
  refine g_iconst hx 5 (0) dX11_gap_5 rfl ?_
  refine g_istore_n hx 6 (i := 1) [(1, .int 0), (0, .ref T)] dX11_gap_6 rfl (by decide) rfl ?_
  refine g_iconst hx 7 (0) dX11_gap_7 rfl ?_
  refine g_istore_n hx 8 (i := 2) [(2, .int 0), (1, .int 0), (0, .ref T)] dX11_gap_8 rfl (by decide) rfl ?_
  refine g_ls [2, 1, 0] [(0, .ref T), (1, .int 0), (2, .int 0)] rfl ?_
  exact w_Md_gap_L9 hρ hx hR FU (setF M 9 0) 0 0 hr
def Md_found (ρ : Nat) (M : MdM) (p1 : Int32) : Option (Int32 × MdM) := Option.bind (Md_halve ρ (setF M 9 0) p1) fun q_662 => some ((q_662.1, q_662.2))
set_option maxRecDepth 100000 in
set_option maxHeartbeats 4000000 in
theorem c_Md_found {ρ : Nat} (hρ : ρ < 2) (l : Launch) (g : Gl) (σ : Hp) (T : Nat) (ow : Nat → Option Nat) (M : MdM) (p1 : Int32) {r : Int32 × MdM} (hr : Md_found ρ M p1 = some r) : MG l g md_Md_found [.ref T, .int p1] (putMd σ T ow ρ M) (rs (some (.int r.1)) (putMd σ T ow ρ r.2)) := by
  refine MG.intro (by decide +kernel) (Nat.le_of_ble_eq_true rfl) (fun X hx hR _ => ?_)
  unfold Md_found at hr
  refine g_ls [0, 1] [(0, .ref T), (1, .int p1)] rfl ?_
  refine g_aload_n hx 0 (i := 0) 0 dX11_found_0 rfl rfl ?_
  refine g_iconst hx 1 (0) dX11_found_1 rfl ?_
  refine g_put hx 2 (C := RX11) (T := TX11) (N := 30) 9 .int _ (pM_o σ T ow ρ M) rfl (by decide) fl_X11_81 rfl rfl rfl rfl (Nat.le_of_ble_eq_true rfl) rfl dX11_found_2 ?_
  refine G.heap (pM_f σ T ow ρ M 9 0) ?_
  refine g_aload_n hx 5 (i := 0) 0 dX11_found_5 rfl rfl ?_
  refine g_iload_n hx 6 (i := 1) 1 dX11_found_6 rfl rfl ?_
  obtain ⟨q_662, eq_662, hr⟩ := bind_e hr
  refine g_callVr hx (c_Md_halve hρ l g σ T ow (setF M 9 0) p1 eq_662) lk_X11_119 ar_Md_halve (pM_o σ T ow ρ (setF M 9 0)) (T := TX11) (N := 30) rfl (As := [.int p1]) (rest := []) rfl (Nat.le_of_ble_eq_true rfl) ⟨Nat.le_of_ble_eq_true rfl, Nat.le_of_ble_eq_true rfl⟩ ⟨rfl, rfl⟩ ⟨Nat.zero_le _, Nat.zero_le _⟩ dX11_found_7 ?_
  exact g_iret hx hR 10 dX11_found_10 ⟨by rw [← Option.some.inj hr] <;> rfl, by rw [← Option.some.inj hr] <;> rfl⟩
def Md_looks (ρ : Nat) (M : MdM) (p1 : Int32) : Option (Int32 × MdM) := Option.bind (Md_halve ρ (setF M 9 0) p1) fun q_663 => lt' (q_663.1) fun v2_664 => some ((q_663.2.1 11, q_663.2))
set_option maxRecDepth 100000 in
set_option maxHeartbeats 4000000 in
theorem c_Md_looks {ρ : Nat} (hρ : ρ < 2) (l : Launch) (g : Gl) (σ : Hp) (T : Nat) (ow : Nat → Option Nat) (M : MdM) (p1 : Int32) {r : Int32 × MdM} (hr : Md_looks ρ M p1 = some r) : MG l g md_Md_looks [.ref T, .int p1] (putMd σ T ow ρ M) (rs (some (.int r.1)) (putMd σ T ow ρ r.2)) := by
  refine MG.intro (by decide +kernel) (Nat.le_of_ble_eq_true rfl) (fun X hx hR _ => ?_)
  unfold Md_looks at hr
  refine g_ls [0, 1] [(0, .ref T), (1, .int p1)] rfl ?_
  refine g_aload_n hx 0 (i := 0) 0 dX11_looks_0 rfl rfl ?_
  refine g_iconst hx 1 (0) dX11_looks_1 rfl ?_
  refine g_put hx 2 (C := RX11) (T := TX11) (N := 30) 9 .int _ (pM_o σ T ow ρ M) rfl (by decide) fl_X11_81 rfl rfl rfl rfl (Nat.le_of_ble_eq_true rfl) rfl dX11_looks_2 ?_
  refine G.heap (pM_f σ T ow ρ M 9 0) ?_
  refine g_aload_n hx 5 (i := 0) 0 dX11_looks_5 rfl rfl ?_
  refine g_iload_n hx 6 (i := 1) 1 dX11_looks_6 rfl rfl ?_
  obtain ⟨q_663, eq_663, hr⟩ := bind_e hr
  refine g_callVr hx (c_Md_halve hρ l g σ T ow (setF M 9 0) p1 eq_663) lk_X11_119 ar_Md_halve (pM_o σ T ow ρ (setF M 9 0)) (T := TX11) (N := 30) rfl (As := [.int p1]) (rest := []) rfl (Nat.le_of_ble_eq_true rfl) ⟨Nat.le_of_ble_eq_true rfl, Nat.le_of_ble_eq_true rfl⟩ ⟨rfl, rfl⟩ ⟨Nat.zero_le _, Nat.zero_le _⟩ dX11_looks_7 ?_
  obtain ⟨v2_664, ev2_664, hr⟩ := lt'_e hr
  refine g_nmi ev2_664 ?_
  refine g_istore_n hx 10 (i := 2) [(2, .int v2_664), (0, .ref T), (1, .int p1)] dX11_looks_10 rfl (by decide) rfl ?_
  refine g_aload_n hx 11 (i := 0) 1 dX11_looks_11 rfl rfl ?_
  refine g_get hx 12 (C := RX11) (T := TX11) (N := 30) 11 (.int (q_663.2.1 11)) (pM_o σ T ow ρ q_663.2) rfl (by decide) rfl fl_X11_113 dX11_looks_12 ?_
  exact g_iret hx hR 15 dX11_looks_15 ⟨by rw [← Option.some.inj hr] <;> rfl, by rw [← Option.some.inj hr] <;> rfl⟩
def Md_missed (ρ : Nat) (M : MdM) : Option (Int32 × MdM) := Option.bind (Md_countMissed ρ (setF M 9 0)) fun q_665 => some ((q_665.1, q_665.2))
set_option maxRecDepth 100000 in
set_option maxHeartbeats 4000000 in
theorem c_Md_missed {ρ : Nat} (hρ : ρ < 2) (l : Launch) (g : Gl) (σ : Hp) (T : Nat) (ow : Nat → Option Nat) (M : MdM) {r : Int32 × MdM} (hr : Md_missed ρ M = some r) : MG l g md_Md_missed [.ref T] (putMd σ T ow ρ M) (rs (some (.int r.1)) (putMd σ T ow ρ r.2)) := by
  refine MG.intro (by decide +kernel) (Nat.le_of_ble_eq_true rfl) (fun X hx hR _ => ?_)
  unfold Md_missed at hr
  refine g_ls [0] [(0, .ref T)] rfl ?_
  refine g_aload_n hx 0 (i := 0) 0 dX11_missed_0 rfl rfl ?_
  refine g_iconst hx 1 (0) dX11_missed_1 rfl ?_
  refine g_put hx 2 (C := RX11) (T := TX11) (N := 30) 9 .int _ (pM_o σ T ow ρ M) rfl (by decide) fl_X11_81 rfl rfl rfl rfl (Nat.le_of_ble_eq_true rfl) rfl dX11_missed_2 ?_
  refine G.heap (pM_f σ T ow ρ M 9 0) ?_
  refine g_aload_n hx 5 (i := 0) 0 dX11_missed_5 rfl rfl ?_
  obtain ⟨q_665, eq_665, hr⟩ := bind_e hr
  refine g_callVr hx (c_Md_countMissed hρ l g σ T ow (setF M 9 0) eq_665) lk_X11_211 ar_Md_countMissed (pM_o σ T ow ρ (setF M 9 0)) (T := TX11) (N := 30) rfl (As := []) (rest := []) rfl (Nat.le_of_ble_eq_true rfl) ⟨Nat.le_of_ble_eq_true rfl, Nat.le_of_ble_eq_true rfl⟩ ⟨rfl, rfl⟩ ⟨Nat.zero_le _, Nat.zero_le _⟩ dX11_missed_6 ?_
  exact g_iret hx hR 9 dX11_missed_9 ⟨by rw [← Option.some.inj hr] <;> rfl, by rw [← Option.some.inj hr] <;> rfl⟩
def Md_refilePlace (ρ : Nat) (M : MdM) (p1 : Int32) : Option (Int32 × MdM) := Option.bind (Md_halve ρ (setF M 9 0) p1) fun q_666 => lt' (q_666.1) fun v2_667 => some ((q_666.2.1 12, q_666.2))
set_option maxRecDepth 100000 in
set_option maxHeartbeats 4000000 in
theorem c_Md_refilePlace {ρ : Nat} (hρ : ρ < 2) (l : Launch) (g : Gl) (σ : Hp) (T : Nat) (ow : Nat → Option Nat) (M : MdM) (p1 : Int32) {r : Int32 × MdM} (hr : Md_refilePlace ρ M p1 = some r) : MG l g md_Md_refilePlace [.ref T, .int p1] (putMd σ T ow ρ M) (rs (some (.int r.1)) (putMd σ T ow ρ r.2)) := by
  refine MG.intro (by decide +kernel) (Nat.le_of_ble_eq_true rfl) (fun X hx hR _ => ?_)
  unfold Md_refilePlace at hr
  refine g_ls [0, 1] [(0, .ref T), (1, .int p1)] rfl ?_
  refine g_aload_n hx 0 (i := 0) 0 dX11_refilePlace_0 rfl rfl ?_
  refine g_iconst hx 1 (0) dX11_refilePlace_1 rfl ?_
  refine g_put hx 2 (C := RX11) (T := TX11) (N := 30) 9 .int _ (pM_o σ T ow ρ M) rfl (by decide) fl_X11_81 rfl rfl rfl rfl (Nat.le_of_ble_eq_true rfl) rfl dX11_refilePlace_2 ?_
  refine G.heap (pM_f σ T ow ρ M 9 0) ?_
  refine g_aload_n hx 5 (i := 0) 0 dX11_refilePlace_5 rfl rfl ?_
  refine g_iload_n hx 6 (i := 1) 1 dX11_refilePlace_6 rfl rfl ?_
  obtain ⟨q_666, eq_666, hr⟩ := bind_e hr
  refine g_callVr hx (c_Md_halve hρ l g σ T ow (setF M 9 0) p1 eq_666) lk_X11_119 ar_Md_halve (pM_o σ T ow ρ (setF M 9 0)) (T := TX11) (N := 30) rfl (As := [.int p1]) (rest := []) rfl (Nat.le_of_ble_eq_true rfl) ⟨Nat.le_of_ble_eq_true rfl, Nat.le_of_ble_eq_true rfl⟩ ⟨rfl, rfl⟩ ⟨Nat.zero_le _, Nat.zero_le _⟩ dX11_refilePlace_7 ?_
  obtain ⟨v2_667, ev2_667, hr⟩ := lt'_e hr
  refine g_nmi ev2_667 ?_
  refine g_istore_n hx 10 (i := 2) [(2, .int v2_667), (0, .ref T), (1, .int p1)] dX11_refilePlace_10 rfl (by decide) rfl ?_
  refine g_aload_n hx 11 (i := 0) 1 dX11_refilePlace_11 rfl rfl ?_
  refine g_get hx 12 (C := RX11) (T := TX11) (N := 30) 12 (.int (q_666.2.1 12)) (pM_o σ T ow ρ q_666.2) rfl (by decide) rfl fl_X11_116 dX11_refilePlace_12 ?_
  exact g_iret hx hR 15 dX11_refilePlace_15 ⟨by rw [← Option.some.inj hr] <;> rfl, by rw [← Option.some.inj hr] <;> rfl⟩
def Md_lookedAt (ρ : Nat) (M : MdM) (p1 p2 : Int32) : Option (Int32 × MdM) := Option.bind (Md_halve ρ (setF M 9 0) p1) fun q_668 => lt' (q_668.1) fun v3_669 => if Md_inRange p2 0 ((q_668.2.1 11) - 1) = 0 then (some (((-1), q_668.2))) else (if inB p2 24 then (Option.bind (Md_folderAt ρ q_668.2 ((q_668.2.2 7) p2.toNatClampNeg)) fun q_672 => some ((q_672, q_668.2))) else none)
set_option maxRecDepth 100000 in
set_option maxHeartbeats 4000000 in
theorem c_Md_lookedAt {ρ : Nat} (hρ : ρ < 2) (l : Launch) (g : Gl) (σ : Hp) (T : Nat) (ow : Nat → Option Nat) (M : MdM) (p1 p2 : Int32) {r : Int32 × MdM} (hr : Md_lookedAt ρ M p1 p2 = some r) : MG l g md_Md_lookedAt [.ref T, .int p1, .int p2] (putMd σ T ow ρ M) (rs (some (.int r.1)) (putMd σ T ow ρ r.2)) := by
  refine MG.intro (by decide +kernel) (Nat.le_of_ble_eq_true rfl) (fun X hx hR _ => ?_)
  unfold Md_lookedAt at hr
  refine g_ls [0, 1, 2] [(0, .ref T), (1, .int p1), (2, .int p2)] rfl ?_
  refine g_aload_n hx 0 (i := 0) 0 dX11_lookedAt_0 rfl rfl ?_
  refine g_iconst hx 1 (0) dX11_lookedAt_1 rfl ?_
  refine g_put hx 2 (C := RX11) (T := TX11) (N := 30) 9 .int _ (pM_o σ T ow ρ M) rfl (by decide) fl_X11_81 rfl rfl rfl rfl (Nat.le_of_ble_eq_true rfl) rfl dX11_lookedAt_2 ?_
  refine G.heap (pM_f σ T ow ρ M 9 0) ?_
  refine g_aload_n hx 5 (i := 0) 0 dX11_lookedAt_5 rfl rfl ?_
  refine g_iload_n hx 6 (i := 1) 1 dX11_lookedAt_6 rfl rfl ?_
  obtain ⟨q_668, eq_668, hr⟩ := bind_e hr
  refine g_callVr hx (c_Md_halve hρ l g σ T ow (setF M 9 0) p1 eq_668) lk_X11_119 ar_Md_halve (pM_o σ T ow ρ (setF M 9 0)) (T := TX11) (N := 30) rfl (As := [.int p1]) (rest := []) rfl (Nat.le_of_ble_eq_true rfl) ⟨Nat.le_of_ble_eq_true rfl, Nat.le_of_ble_eq_true rfl⟩ ⟨rfl, rfl⟩ ⟨Nat.zero_le _, Nat.zero_le _⟩ dX11_lookedAt_7 ?_
  obtain ⟨v3_669, ev3_669, hr⟩ := lt'_e hr
  refine g_nmi ev3_669 ?_
  refine g_istore_n hx 10 (i := 3) [(3, .int v3_669), (0, .ref T), (1, .int p1), (2, .int p2)] dX11_lookedAt_10 rfl (by decide) rfl ?_
  refine g_iload_n hx 11 (i := 2) 3 dX11_lookedAt_11 rfl rfl ?_
  refine g_iconst hx 12 (0) dX11_lookedAt_12 rfl ?_
  refine g_aload_n hx 13 (i := 0) 1 dX11_lookedAt_13 rfl rfl ?_
  refine g_get hx 14 (C := RX11) (T := TX11) (N := 30) 11 (.int (q_668.2.1 11)) (pM_o σ T ow ρ q_668.2) rfl (by decide) rfl fl_X11_113 dX11_lookedAt_14 ?_
  refine g_iconst hx 17 (1) dX11_lookedAt_17 rfl ?_
  refine g_isub hx 18 dX11_lookedAt_18 ?_
  refine g_callSr hx (c_Md_inRange l g _ p2 0 ((q_668.2.1 11) - 1) rfl) lk_X11_91 ar_Md_inRange (As := [.int p2, .int 0, .int ((q_668.2.1 11) - 1)]) (rest := []) rfl (Nat.le_of_ble_eq_true rfl) ⟨Nat.le_of_ble_eq_true rfl, Nat.le_of_ble_eq_true rfl⟩ ⟨rfl, rfl⟩ ⟨Nat.zero_le _, Nat.zero_le _⟩ dX11_lookedAt_19 ?_
  refine g_if_eq hx 22 38 dX11_lookedAt_22 (by decide) (fun hc_670 => ?_) (fun hc_670 => ?_)
  · have hr := (if_pos hc_670).symm.trans hr
    refine g_iconst hx 38 (-1) dX11_lookedAt_38 rfl ?_
    exact g_iret hx hR 39 dX11_lookedAt_39 ⟨by rw [← Option.some.inj hr] <;> rfl, by rw [← Option.some.inj hr] <;> rfl⟩
  · have hr := (if_neg hc_670).symm.trans hr
    refine g_aload_n hx 25 (i := 0) 1 dX11_lookedAt_25 rfl rfl ?_
    refine g_aload_n hx 26 (i := 0) 1 dX11_lookedAt_26 rfl rfl ?_
    refine g_get hx 27 (C := RX11) (T := TX11) (N := 30) 13 (.ref (T + 8)) (pM_o σ T ow ρ q_668.2) rfl (by decide) rfl fl_X11_34 dX11_lookedAt_27 ?_
    refine g_iload_n hx 30 (i := 2) 3 dX11_lookedAt_30 rfl rfl ?_
    obtain ⟨hb_671, hr⟩ := ob hr
    refine g_iald hx 31 (pM_a σ T ow ρ q_668.2 7 (by decide)) hb_671 dX11_lookedAt_31 ?_
    obtain ⟨q_672, eq_672, hr⟩ := bind_e hr
    refine g_callVr hx (c_Md_folderAt hρ l g σ T ow q_668.2 ((q_668.2.2 7) p2.toNatClampNeg) eq_672) lk_X11_99 ar_Md_folderAt (pM_o σ T ow ρ q_668.2) (T := TX11) (N := 30) rfl (As := [.int ((q_668.2.2 7) p2.toNatClampNeg)]) (rest := []) rfl (Nat.le_of_ble_eq_true rfl) ⟨Nat.le_of_ble_eq_true rfl, Nat.le_of_ble_eq_true rfl⟩ ⟨rfl, rfl⟩ ⟨Nat.zero_le _, Nat.zero_le _⟩ dX11_lookedAt_32 ?_
    refine g_goto hx 35 39 dX11_lookedAt_35 (by decide) ?_
    exact g_iret hx hR 39 dX11_lookedAt_39 ⟨by rw [← Option.some.inj hr] <;> rfl, by rw [← Option.some.inj hr] <;> rfl⟩
def Md_misplacement (ρ : Nat) (M : MdM) (p1 : Int32) : Option (Int32) := Option.bind (Md_placeOf ρ M p1) fun q_673 => Option.bind (Md_orderPlace ρ M p1) fun q_674 => lt' (q_673 - q_674) fun v2_675 => if 0 ≤ v2_675 then (some (v2_675)) else (some (-v2_675))
set_option maxRecDepth 100000 in
set_option maxHeartbeats 4000000 in
theorem c_Md_misplacement {ρ : Nat} (hρ : ρ < 2) (l : Launch) (g : Gl) (σ : Hp) (T : Nat) (ow : Nat → Option Nat) (M : MdM) (p1 : Int32) {r : Int32} (hr : Md_misplacement ρ M p1 = some r) : MG l g md_Md_misplacement [.ref T, .int p1] (putMd σ T ow ρ M) (rs (some (.int r)) (putMd σ T ow ρ M)) := by
  refine MG.intro (by decide +kernel) (Nat.le_of_ble_eq_true rfl) (fun X hx hR _ => ?_)
  unfold Md_misplacement at hr
  refine g_ls [0, 1] [(0, .ref T), (1, .int p1)] rfl ?_
  refine g_aload_n hx 0 (i := 0) 0 dX11_misplacement_0 rfl rfl ?_
  refine g_iload_n hx 1 (i := 1) 1 dX11_misplacement_1 rfl rfl ?_
  obtain ⟨q_673, eq_673, hr⟩ := bind_e hr
  refine g_callVr hx (c_Md_placeOf hρ l g σ T ow M p1 eq_673) lk_X11_103 ar_Md_placeOf (pM_o σ T ow ρ M) (T := TX11) (N := 30) rfl (As := [.int p1]) (rest := []) rfl (Nat.le_of_ble_eq_true rfl) ⟨Nat.le_of_ble_eq_true rfl, Nat.le_of_ble_eq_true rfl⟩ ⟨rfl, rfl⟩ ⟨Nat.zero_le _, Nat.zero_le _⟩ dX11_misplacement_2 ?_
  refine g_aload_n hx 5 (i := 0) 0 dX11_misplacement_5 rfl rfl ?_
  refine g_iload_n hx 6 (i := 1) 1 dX11_misplacement_6 rfl rfl ?_
  obtain ⟨q_674, eq_674, hr⟩ := bind_e hr
  refine g_callVr hx (c_Md_orderPlace hρ l g σ T ow M p1 eq_674) lk_X11_214 ar_Md_orderPlace (pM_o σ T ow ρ M) (T := TX11) (N := 30) rfl (As := [.int p1]) (rest := [.int q_673]) rfl (Nat.le_of_ble_eq_true rfl) ⟨Nat.le_of_ble_eq_true rfl, Nat.le_of_ble_eq_true rfl⟩ ⟨rfl, rfl⟩ ⟨Nat.zero_le _, Nat.zero_le _⟩ dX11_misplacement_7 ?_
  refine g_isub hx 10 dX11_misplacement_10 ?_
  obtain ⟨v2_675, ev2_675, hr⟩ := lt'_e hr
  refine g_nmi ev2_675 ?_
  refine g_istore_n hx 11 (i := 2) [(2, .int v2_675), (0, .ref T), (1, .int p1)] dX11_misplacement_11 rfl (by decide) rfl ?_
  refine g_iload_n hx 12 (i := 2) 0 dX11_misplacement_12 rfl rfl ?_
  refine g_if_ge hx 13 21 dX11_misplacement_13 (by decide) (fun hc_676 => ?_) (fun hc_676 => ?_)
  · have hr := (if_pos hc_676).symm.trans hr
    refine g_iload_n hx 21 (i := 2) 0 dX11_misplacement_21 rfl rfl ?_
    exact g_iret hx hR 22 dX11_misplacement_22 ⟨by rw [← Option.some.inj hr] <;> rfl, rfl⟩
  · have hr := (if_neg hc_676).symm.trans hr
    refine g_iload_n hx 16 (i := 2) 0 dX11_misplacement_16 rfl rfl ?_
    refine g_ineg hx 17 dX11_misplacement_17 ?_
    refine g_goto hx 18 22 dX11_misplacement_18 (by decide) ?_
    exact g_iret hx hR 22 dX11_misplacement_22 ⟨by rw [← Option.some.inj hr] <;> rfl, rfl⟩
def Md_mostMisplaced_L11 (ρ : Nat) : Nat → MdM → Int32 → Int32 → Int32 → Option (Int32 × MdM)
  | 0, _, _, _, _ => none
  | n + 1, M, v1_677, v2_678, v3_679 => if (M.2 ρ) (5 : Int32).toNatClampNeg ≤ v3_679 then (some ((v1_677, M))) else (Option.bind (Md_isIn ρ M v3_679 0) fun q_682 => if q_682 = 0 then (if 0 ≤ v2_678 then (Md_mostMisplaced_L11 ρ n M v1_677 v2_678 (v3_679 + 1)) else (Md_mostMisplaced_L11 ρ n M v3_679 0 (v3_679 + 1))) else (Option.bind (Md_misplacement ρ M v3_679) fun q_685 => if q_685 ≤ v2_678 then (Md_mostMisplaced_L11 ρ n M v1_677 v2_678 (v3_679 + 1)) else (Md_mostMisplaced_L11 ρ n M v3_679 q_685 (v3_679 + 1))))
def Md_mostMisplaced (ρ : Nat) (M : MdM) : Option (Int32 × MdM) := Md_mostMisplaced_L11 ρ FU (setF M 9 0) (-1) 0 0
set_option maxRecDepth 100000 in
set_option maxHeartbeats 4000000 in
theorem w_Md_mostMisplaced_L11 {ρ : Nat} (hρ : ρ < 2) {X : Cx} {l : Launch} {g : Gl} (hx : Ok X l g RX11 cX11_mostMisplaced 5 md_Md_mostMisplaced.rm) {σ : Hp} {T : Nat} {ow : Nat → Option Nat} {r : Int32 × MdM} (hR : Ret X (rs (some (.int r.1)) (putMd σ T ow ρ r.2)) 0 0 (some .int)) : ∀ (n : Nat) (M : MdM) (v1_677 v2_678 v3_679 : Int32), Md_mostMisplaced_L11 ρ n M v1_677 v2_678 v3_679 = some r → G X (putMd σ T ow ρ M) 0 0 11 [(0, .ref T), (1, .int v1_677), (2, .int v2_678), (3, .int v3_679)] [] := by
  intro n
  induction n with
  | zero =>
    intro M v1_677 v2_678 v3_679 hr
    rw [Md_mostMisplaced_L11] at hr
    cases hr
  | succ n ih =>
    intro M v1_677 v2_678 v3_679 hr
    rw [Md_mostMisplaced_L11] at hr
    refine g_iload_n hx 11 (i := 3) 3 dX11_mostMisplaced_11 rfl rfl ?_
    refine g_aload_n hx 12 (i := 0) 0 dX11_mostMisplaced_12 rfl rfl ?_
    refine g_get hx 13 (C := RX11) (T := TX11) (N := 30) 7 (.ref (T + 1 + ρ)) (pM_o σ T ow ρ M) rfl (by decide) rfl fl_X11_31 dX11_mostMisplaced_13 ?_
    refine g_iconst hx 16 (5) dX11_mostMisplaced_16 rfl ?_
    refine g_iald hx 17 (pM_row hρ σ T ow M) (by decide : inB 5 257) dX11_mostMisplaced_17 ?_
    refine g_icmp_ge hx 18 58 dX11_mostMisplaced_18 (by decide) (fun hc_681 => ?_) (fun hc_681 => ?_)
    · have hr := (if_pos hc_681).symm.trans hr
      refine g_iload_n hx 58 (i := 1) 1 dX11_mostMisplaced_58 rfl rfl ?_
      exact g_iret hx hR 59 dX11_mostMisplaced_59 ⟨by rw [← Option.some.inj hr] <;> rfl, by rw [← Option.some.inj hr] <;> rfl⟩
    · have hr := (if_neg hc_681).symm.trans hr
      refine g_aload_n hx 21 (i := 0) 0 dX11_mostMisplaced_21 rfl rfl ?_
      refine g_iload_n hx 22 (i := 3) 3 dX11_mostMisplaced_22 rfl rfl ?_
      refine g_iconst hx 23 (0) dX11_mostMisplaced_23 rfl ?_
      obtain ⟨q_682, eq_682, hr⟩ := bind_e hr
      refine g_callVr hx (c_Md_isIn hρ l g σ T ow M v3_679 0 eq_682) lk_X11_126 ar_Md_isIn (pM_o σ T ow ρ M) (T := TX11) (N := 30) rfl (As := [.int v3_679, .int 0]) (rest := []) rfl (Nat.le_of_ble_eq_true rfl) ⟨Nat.le_of_ble_eq_true rfl, Nat.le_of_ble_eq_true rfl⟩ ⟨rfl, rfl⟩ ⟨Nat.zero_le _, Nat.zero_le _⟩ dX11_mostMisplaced_24 ?_
      refine g_if_eq hx 27 38 dX11_mostMisplaced_27 (by decide) (fun hc_683 => ?_) (fun hc_683 => ?_)
      · have hr := (if_pos hc_683).symm.trans hr
        refine g_iconst hx 38 (0) dX11_mostMisplaced_38 rfl ?_
        refine g_istore hx 39 (i := 4) [(4, .int 0), (0, .ref T), (1, .int v1_677), (2, .int v2_678), (3, .int v3_679)] dX11_mostMisplaced_39 (by decide) rfl ?_
        refine g_iload hx 41 (i := 4) 0 dX11_mostMisplaced_41 rfl ?_
        refine g_iload_n hx 43 (i := 2) 3 dX11_mostMisplaced_43 rfl rfl ?_
        refine g_icmp_le hx 44 52 dX11_mostMisplaced_44 (by decide) (fun hc_684 => ?_) (fun hc_684 => ?_)
        · have hr := (if_pos hc_684).symm.trans hr
          refine g_iinc hx 52 (i := 3) 4 (v3_679 + 1) [(3, .int (v3_679 + 1)), (4, .int 0), (0, .ref T), (1, .int v1_677), (2, .int v2_678)] dX11_mostMisplaced_52 rfl rfl (by decide) rfl ?_
          refine g_goto hx 55 11 dX11_mostMisplaced_55 (by decide) ?_
          refine g_ls [2, 3, 4, 0] [(0, .ref T), (1, .int v1_677), (2, .int v2_678), (3, .int (v3_679 + 1))] rfl ?_
          exact ih M v1_677 v2_678 (v3_679 + 1) hr
        · have hr := (if_neg hc_684).symm.trans hr
          refine g_iload_n hx 47 (i := 3) 4 dX11_mostMisplaced_47 rfl rfl ?_
          refine g_istore_n hx 48 (i := 1) [(1, .int v3_679), (4, .int 0), (0, .ref T), (2, .int v2_678), (3, .int v3_679)] dX11_mostMisplaced_48 rfl (by decide) rfl ?_
          refine g_iload hx 49 (i := 4) 1 dX11_mostMisplaced_49 rfl ?_
          refine g_istore_n hx 51 (i := 2) [(2, .int 0), (1, .int v3_679), (4, .int 0), (0, .ref T), (3, .int v3_679)] dX11_mostMisplaced_51 rfl (by decide) rfl ?_
          refine g_iinc hx 52 (i := 3) 4 (v3_679 + 1) [(3, .int (v3_679 + 1)), (2, .int 0), (1, .int v3_679), (4, .int 0), (0, .ref T)] dX11_mostMisplaced_52 rfl rfl (by decide) rfl ?_
          refine g_goto hx 55 11 dX11_mostMisplaced_55 (by decide) ?_
          refine g_ls [4, 2, 1, 0] [(0, .ref T), (1, .int v3_679), (2, .int 0), (3, .int (v3_679 + 1))] rfl ?_
          exact ih M v3_679 0 (v3_679 + 1) hr
      · have hr := (if_neg hc_683).symm.trans hr
        refine g_aload_n hx 30 (i := 0) 0 dX11_mostMisplaced_30 rfl rfl ?_
        refine g_iload_n hx 31 (i := 3) 3 dX11_mostMisplaced_31 rfl rfl ?_
        obtain ⟨q_685, eq_685, hr⟩ := bind_e hr
        refine g_callVr hx (c_Md_misplacement hρ l g σ T ow M v3_679 eq_685) lk_X11_217 ar_Md_misplacement (pM_o σ T ow ρ M) (T := TX11) (N := 30) rfl (As := [.int v3_679]) (rest := []) rfl (Nat.le_of_ble_eq_true rfl) ⟨Nat.le_of_ble_eq_true rfl, Nat.le_of_ble_eq_true rfl⟩ ⟨rfl, rfl⟩ ⟨Nat.zero_le _, Nat.zero_le _⟩ dX11_mostMisplaced_32 ?_
        refine g_goto hx 35 39 dX11_mostMisplaced_35 (by decide) ?_
        refine g_istore hx 39 (i := 4) [(4, .int q_685), (0, .ref T), (1, .int v1_677), (2, .int v2_678), (3, .int v3_679)] dX11_mostMisplaced_39 (by decide) rfl ?_
        refine g_iload hx 41 (i := 4) 0 dX11_mostMisplaced_41 rfl ?_
        refine g_iload_n hx 43 (i := 2) 3 dX11_mostMisplaced_43 rfl rfl ?_
        refine g_icmp_le hx 44 52 dX11_mostMisplaced_44 (by decide) (fun hc_686 => ?_) (fun hc_686 => ?_)
        · have hr := (if_pos hc_686).symm.trans hr
          refine g_iinc hx 52 (i := 3) 4 (v3_679 + 1) [(3, .int (v3_679 + 1)), (4, .int q_685), (0, .ref T), (1, .int v1_677), (2, .int v2_678)] dX11_mostMisplaced_52 rfl rfl (by decide) rfl ?_
          refine g_goto hx 55 11 dX11_mostMisplaced_55 (by decide) ?_
          refine g_ls [2, 3, 4, 0] [(0, .ref T), (1, .int v1_677), (2, .int v2_678), (3, .int (v3_679 + 1))] rfl ?_
          exact ih M v1_677 v2_678 (v3_679 + 1) hr
        · have hr := (if_neg hc_686).symm.trans hr
          refine g_iload_n hx 47 (i := 3) 4 dX11_mostMisplaced_47 rfl rfl ?_
          refine g_istore_n hx 48 (i := 1) [(1, .int v3_679), (4, .int q_685), (0, .ref T), (2, .int v2_678), (3, .int v3_679)] dX11_mostMisplaced_48 rfl (by decide) rfl ?_
          refine g_iload hx 49 (i := 4) 1 dX11_mostMisplaced_49 rfl ?_
          refine g_istore_n hx 51 (i := 2) [(2, .int q_685), (1, .int v3_679), (4, .int q_685), (0, .ref T), (3, .int v3_679)] dX11_mostMisplaced_51 rfl (by decide) rfl ?_
          refine g_iinc hx 52 (i := 3) 4 (v3_679 + 1) [(3, .int (v3_679 + 1)), (2, .int q_685), (1, .int v3_679), (4, .int q_685), (0, .ref T)] dX11_mostMisplaced_52 rfl rfl (by decide) rfl ?_
          refine g_goto hx 55 11 dX11_mostMisplaced_55 (by decide) ?_
          refine g_ls [4, 2, 1, 0] [(0, .ref T), (1, .int v3_679), (2, .int q_685), (3, .int (v3_679 + 1))] rfl ?_
          exact ih M v3_679 q_685 (v3_679 + 1) hr
set_option maxRecDepth 100000 in
set_option maxHeartbeats 4000000 in
theorem c_Md_mostMisplaced {ρ : Nat} (hρ : ρ < 2) (l : Launch) (g : Gl) (σ : Hp) (T : Nat) (ow : Nat → Option Nat) (M : MdM) {r : Int32 × MdM} (hr : Md_mostMisplaced ρ M = some r) : MG l g md_Md_mostMisplaced [.ref T] (putMd σ T ow ρ M) (rs (some (.int r.1)) (putMd σ T ow ρ r.2)) := by
  refine MG.intro (by decide +kernel) (Nat.le_of_ble_eq_true rfl) (fun X hx hR _ => ?_)
  unfold Md_mostMisplaced at hr
  refine g_ls [0] [(0, .ref T)] rfl ?_
  refine g_aload_n hx 0 (i := 0) 0 dX11_mostMisplaced_0 rfl rfl ?_
  refine g_iconst hx 1 (0) dX11_mostMisplaced_1 rfl ?_
  refine g_put hx 2 (C := RX11) (T := TX11) (N := 30) 9 .int _ (pM_o σ T ow ρ M) rfl (by decide) fl_X11_81 rfl rfl rfl rfl (Nat.le_of_ble_eq_true rfl) rfl dX11_mostMisplaced_2 ?_
  refine G.heap (pM_f σ T ow ρ M 9 0) ?_
  refine g_iconst hx 5 (-1) dX11_mostMisplaced_5 rfl ?_
  refine g_istore_n hx 6 (i := 1) [(1, .int (-1)), (0, .ref T)] dX11_mostMisplaced_6 rfl (by decide) rfl ?_
  refine g_iconst hx 7 (0) dX11_mostMisplaced_7 rfl ?_
  refine g_istore_n hx 8 (i := 2) [(2, .int 0), (1, .int (-1)), (0, .ref T)] dX11_mostMisplaced_8 rfl (by decide) rfl ?_
  refine g_iconst hx 9 (0) dX11_mostMisplaced_9 rfl ?_
  refine g_istore_n hx 10 (i := 3) [(3, .int 0), (2, .int 0), (1, .int (-1)), (0, .ref T)] dX11_mostMisplaced_10 rfl (by decide) rfl ?_
  refine g_ls [3, 2, 1, 0] [(0, .ref T), (1, .int (-1)), (2, .int 0), (3, .int 0)] rfl ?_
  exact w_Md_mostMisplaced_L11 hρ hx hR FU (setF M 9 0) (-1) 0 0 hr
def Md_mostAsked_L11 (ρ : Nat) : Nat → MdM → Int32 → Int32 → Int32 → Option (Int32 × MdM)
  | 0, _, _, _, _ => none
  | n + 1, M, v1_687, v2_688, v3_689 => if (M.2 ρ) (5 : Int32).toNatClampNeg ≤ v3_689 then (some ((v1_687, M))) else (Option.bind (Md_slipsWith ρ M 1 v3_689) fun q_692 => if q_692 ≤ v2_688 then (Md_mostAsked_L11 ρ n M v1_687 v2_688 (v3_689 + 1)) else (Md_mostAsked_L11 ρ n M v3_689 q_692 (v3_689 + 1)))
def Md_mostAsked (ρ : Nat) (M : MdM) : Option (Int32 × MdM) := Md_mostAsked_L11 ρ FU (setF M 9 0) (-1) 0 0
set_option maxRecDepth 100000 in
set_option maxHeartbeats 4000000 in
theorem w_Md_mostAsked_L11 {ρ : Nat} (hρ : ρ < 2) {X : Cx} {l : Launch} {g : Gl} (hx : Ok X l g RX11 cX11_mostAsked 5 md_Md_mostAsked.rm) {σ : Hp} {T : Nat} {ow : Nat → Option Nat} {r : Int32 × MdM} (hR : Ret X (rs (some (.int r.1)) (putMd σ T ow ρ r.2)) 0 0 (some .int)) : ∀ (n : Nat) (M : MdM) (v1_687 v2_688 v3_689 : Int32), Md_mostAsked_L11 ρ n M v1_687 v2_688 v3_689 = some r → G X (putMd σ T ow ρ M) 0 0 11 [(0, .ref T), (1, .int v1_687), (2, .int v2_688), (3, .int v3_689)] [] := by
  intro n
  induction n with
  | zero =>
    intro M v1_687 v2_688 v3_689 hr
    rw [Md_mostAsked_L11] at hr
    cases hr
  | succ n ih =>
    intro M v1_687 v2_688 v3_689 hr
    rw [Md_mostAsked_L11] at hr
    refine g_iload_n hx 11 (i := 3) 3 dX11_mostAsked_11 rfl rfl ?_
    refine g_aload_n hx 12 (i := 0) 0 dX11_mostAsked_12 rfl rfl ?_
    refine g_get hx 13 (C := RX11) (T := TX11) (N := 30) 7 (.ref (T + 1 + ρ)) (pM_o σ T ow ρ M) rfl (by decide) rfl fl_X11_31 dX11_mostAsked_13 ?_
    refine g_iconst hx 16 (5) dX11_mostAsked_16 rfl ?_
    refine g_iald hx 17 (pM_row hρ σ T ow M) (by decide : inB 5 257) dX11_mostAsked_17 ?_
    refine g_icmp_ge hx 18 46 dX11_mostAsked_18 (by decide) (fun hc_691 => ?_) (fun hc_691 => ?_)
    · have hr := (if_pos hc_691).symm.trans hr
      refine g_iload_n hx 46 (i := 1) 1 dX11_mostAsked_46 rfl rfl ?_
      exact g_iret hx hR 47 dX11_mostAsked_47 ⟨by rw [← Option.some.inj hr] <;> rfl, by rw [← Option.some.inj hr] <;> rfl⟩
    · have hr := (if_neg hc_691).symm.trans hr
      refine g_aload_n hx 21 (i := 0) 0 dX11_mostAsked_21 rfl rfl ?_
      refine g_iconst hx 22 (1) dX11_mostAsked_22 rfl ?_
      refine g_iload_n hx 23 (i := 3) 3 dX11_mostAsked_23 rfl rfl ?_
      obtain ⟨q_692, eq_692, hr⟩ := bind_e hr
      refine g_callVr hx (c_Md_slipsWith hρ l g σ T ow M 1 v3_689 eq_692) lk_X11_192 ar_Md_slipsWith (pM_o σ T ow ρ M) (T := TX11) (N := 30) rfl (As := [.int 1, .int v3_689]) (rest := []) rfl (Nat.le_of_ble_eq_true rfl) ⟨Nat.le_of_ble_eq_true rfl, Nat.le_of_ble_eq_true rfl⟩ ⟨rfl, rfl⟩ ⟨Nat.zero_le _, Nat.zero_le _⟩ dX11_mostAsked_24 ?_
      refine g_istore hx 27 (i := 4) [(4, .int q_692), (0, .ref T), (1, .int v1_687), (2, .int v2_688), (3, .int v3_689)] dX11_mostAsked_27 (by decide) rfl ?_
      refine g_iload hx 29 (i := 4) 0 dX11_mostAsked_29 rfl ?_
      refine g_iload_n hx 31 (i := 2) 3 dX11_mostAsked_31 rfl rfl ?_
      refine g_icmp_le hx 32 40 dX11_mostAsked_32 (by decide) (fun hc_693 => ?_) (fun hc_693 => ?_)
      · have hr := (if_pos hc_693).symm.trans hr
        refine g_iinc hx 40 (i := 3) 4 (v3_689 + 1) [(3, .int (v3_689 + 1)), (4, .int q_692), (0, .ref T), (1, .int v1_687), (2, .int v2_688)] dX11_mostAsked_40 rfl rfl (by decide) rfl ?_
        refine g_goto hx 43 11 dX11_mostAsked_43 (by decide) ?_
        refine g_ls [2, 3, 4, 0] [(0, .ref T), (1, .int v1_687), (2, .int v2_688), (3, .int (v3_689 + 1))] rfl ?_
        exact ih M v1_687 v2_688 (v3_689 + 1) hr
      · have hr := (if_neg hc_693).symm.trans hr
        refine g_iload_n hx 35 (i := 3) 4 dX11_mostAsked_35 rfl rfl ?_
        refine g_istore_n hx 36 (i := 1) [(1, .int v3_689), (4, .int q_692), (0, .ref T), (2, .int v2_688), (3, .int v3_689)] dX11_mostAsked_36 rfl (by decide) rfl ?_
        refine g_iload hx 37 (i := 4) 1 dX11_mostAsked_37 rfl ?_
        refine g_istore_n hx 39 (i := 2) [(2, .int q_692), (1, .int v3_689), (4, .int q_692), (0, .ref T), (3, .int v3_689)] dX11_mostAsked_39 rfl (by decide) rfl ?_
        refine g_iinc hx 40 (i := 3) 4 (v3_689 + 1) [(3, .int (v3_689 + 1)), (2, .int q_692), (1, .int v3_689), (4, .int q_692), (0, .ref T)] dX11_mostAsked_40 rfl rfl (by decide) rfl ?_
        refine g_goto hx 43 11 dX11_mostAsked_43 (by decide) ?_
        refine g_ls [4, 2, 1, 0] [(0, .ref T), (1, .int v3_689), (2, .int q_692), (3, .int (v3_689 + 1))] rfl ?_
        exact ih M v3_689 q_692 (v3_689 + 1) hr
set_option maxRecDepth 100000 in
set_option maxHeartbeats 4000000 in
theorem c_Md_mostAsked {ρ : Nat} (hρ : ρ < 2) (l : Launch) (g : Gl) (σ : Hp) (T : Nat) (ow : Nat → Option Nat) (M : MdM) {r : Int32 × MdM} (hr : Md_mostAsked ρ M = some r) : MG l g md_Md_mostAsked [.ref T] (putMd σ T ow ρ M) (rs (some (.int r.1)) (putMd σ T ow ρ r.2)) := by
  refine MG.intro (by decide +kernel) (Nat.le_of_ble_eq_true rfl) (fun X hx hR _ => ?_)
  unfold Md_mostAsked at hr
  refine g_ls [0] [(0, .ref T)] rfl ?_
  refine g_aload_n hx 0 (i := 0) 0 dX11_mostAsked_0 rfl rfl ?_
  refine g_iconst hx 1 (0) dX11_mostAsked_1 rfl ?_
  refine g_put hx 2 (C := RX11) (T := TX11) (N := 30) 9 .int _ (pM_o σ T ow ρ M) rfl (by decide) fl_X11_81 rfl rfl rfl rfl (Nat.le_of_ble_eq_true rfl) rfl dX11_mostAsked_2 ?_
  refine G.heap (pM_f σ T ow ρ M 9 0) ?_
  refine g_iconst hx 5 (-1) dX11_mostAsked_5 rfl ?_
  refine g_istore_n hx 6 (i := 1) [(1, .int (-1)), (0, .ref T)] dX11_mostAsked_6 rfl (by decide) rfl ?_
  refine g_iconst hx 7 (0) dX11_mostAsked_7 rfl ?_
  refine g_istore_n hx 8 (i := 2) [(2, .int 0), (1, .int (-1)), (0, .ref T)] dX11_mostAsked_8 rfl (by decide) rfl ?_
  refine g_iconst hx 9 (0) dX11_mostAsked_9 rfl ?_
  refine g_istore_n hx 10 (i := 3) [(3, .int 0), (2, .int 0), (1, .int (-1)), (0, .ref T)] dX11_mostAsked_10 rfl (by decide) rfl ?_
  refine g_ls [3, 2, 1, 0] [(0, .ref T), (1, .int (-1)), (2, .int 0), (3, .int 0)] rfl ?_
  exact w_Md_mostAsked_L11 hρ hx hR FU (setF M 9 0) (-1) 0 0 hr
def Md_inversions (ρ : Nat) (M : MdM) : Option (Int32 × MdM) := Option.bind (Md_countInversions ρ (setF M 9 0)) fun q_694 => some ((q_694, setF M 9 0))
set_option maxRecDepth 100000 in
set_option maxHeartbeats 4000000 in
theorem c_Md_inversions {ρ : Nat} (hρ : ρ < 2) (l : Launch) (g : Gl) (σ : Hp) (T : Nat) (ow : Nat → Option Nat) (M : MdM) {r : Int32 × MdM} (hr : Md_inversions ρ M = some r) : MG l g md_Md_inversions [.ref T] (putMd σ T ow ρ M) (rs (some (.int r.1)) (putMd σ T ow ρ r.2)) := by
  refine MG.intro (by decide +kernel) (Nat.le_of_ble_eq_true rfl) (fun X hx hR _ => ?_)
  unfold Md_inversions at hr
  refine g_ls [0] [(0, .ref T)] rfl ?_
  refine g_aload_n hx 0 (i := 0) 0 dX11_inversions_0 rfl rfl ?_
  refine g_iconst hx 1 (0) dX11_inversions_1 rfl ?_
  refine g_put hx 2 (C := RX11) (T := TX11) (N := 30) 9 .int _ (pM_o σ T ow ρ M) rfl (by decide) fl_X11_81 rfl rfl rfl rfl (Nat.le_of_ble_eq_true rfl) rfl dX11_inversions_2 ?_
  refine G.heap (pM_f σ T ow ρ M 9 0) ?_
  refine g_aload_n hx 5 (i := 0) 0 dX11_inversions_5 rfl rfl ?_
  obtain ⟨q_694, eq_694, hr⟩ := bind_e hr
  refine g_callVr hx (c_Md_countInversions hρ l g σ T ow (setF M 9 0) eq_694) lk_X11_220 ar_Md_countInversions (pM_o σ T ow ρ (setF M 9 0)) (T := TX11) (N := 30) rfl (As := []) (rest := []) rfl (Nat.le_of_ble_eq_true rfl) ⟨Nat.le_of_ble_eq_true rfl, Nat.le_of_ble_eq_true rfl⟩ ⟨rfl, rfl⟩ ⟨Nat.zero_le _, Nat.zero_le _⟩ dX11_inversions_6 ?_
  exact g_iret hx hR 9 dX11_inversions_9 ⟨by rw [← Option.some.inj hr] <;> rfl, by rw [← Option.some.inj hr] <;> rfl⟩
