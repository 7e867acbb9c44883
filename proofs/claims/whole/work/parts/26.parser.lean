def md_Hi_count : Md := (yX1_count, cX1_count, 1, some .int, 0, 0, 0, 0)
def md_Hi_clear : Md := (yX1_clear, cX1_clear, 1, none, 0, 0, 0, 0)
def md_Hi_keep : Md := (yX1_keep, cX1_keep, 1, none, 0, 0, 0, 0)
def md_Ps_errorPlace : Md := (yX4_errorPlace, cX4_errorPlace, 1, some .int, 0, 0, 0, 0)
def md_Tk_begin : Md := (yX9_begin, cX9_begin, 2, none, 0, 0, 0, 0)
def md_Ps_begin : Md := (yX4_begin, cX4_begin, 2, none, 1, 21, 0, 0)
def md_Tk_isBlank : Md := (yX9_isBlank, cX9_isBlank, 1, some .boolean, 0, 0, 0, 0)
def md_Tk_isLetter : Md := (yX9_isLetter, cX9_isLetter, 1, some .boolean, 0, 0, 0, 0)
def md_Tk_readWord : Md := (yX9_readWord, cX9_readWord, 1, none, 1, 21, 0, 0)
def md_Tk_isDigit : Md := (yX9_isDigit, cX9_isDigit, 1, some .boolean, 0, 0, 0, 0)
def md_Tk_readNumber : Md := (yX9_readNumber, cX9_readNumber, 1, none, 1, 60, 0, 0)
def md_Tk_next : Md := (yX9_next, cX9_next, 2, none, 2, 80, 0, 0)
def md_Tk_isWord : Md := (yX9_isWord, cX9_isWord, 3, some .boolean, 4, 100, 0, 0)
def md_Tk_start : Md := (yX9_start, cX9_start, 1, some .int, 0, 0, 0, 0)
def md_Ps_fail : Md := (yX4_fail, cX4_fail, 2, some .boolean, 1, 20, 0, 0)
def md_Tk_kind : Md := (yX9_kind, cX9_kind, 1, some .int, 0, 0, 0, 0)
def md_Tk_value : Md := (yX9_value, cX9_value, 1, some .int, 0, 0, 0, 0)
def md_Ps_readNumber : Md := (yX4_readNumber, cX4_readNumber, 3, some .boolean, 3, 101, 0, 0)
def md_Ps_isEnded : Md := (yX4_isEnded, cX4_isEnded, 1, some .boolean, 2, 41, 0, 0)
def md_Ps_readHead : Md := (yX4_readHead, cX4_readHead, 5, some .boolean, 5, 123, 0, 0)
def md_Ps_readFolder : Md := (yX4_readFolder, cX4_readFolder, 4, some .boolean, 5, 123, 0, 0)
def md_Ps_readArchive : Md := (yX4_readArchive, cX4_readArchive, 4, some .int, 6, 147, 0, 0)
def md_Sc_clear : Md := (yX6_clear, cX6_clear, 1, none, 1, 20, 0, 0)
def md_Ps_readOrder : Md := (yX4_readOrder, cX4_readOrder, 5, some (.object "SlipArchive$Order"), 5, 122, 0, 0)
def md_Ps_readNumbers : Md := (yX4_readNumbers, cX4_readNumbers, 5, some .boolean, 4, 123, 0, 0)
def md_Ps_readScript : Md := (yX4_readScript, cX4_readScript, 5, some .int, 6, 147, 0, 0)
def md_Sc_count : Md := (yX6_count, cX6_count, 1, some .int, 1, 20, 0, 0)
theorem fl_X4_15 : Cond.fieldLink RX4 15 (TX4 2).1 (TX4 2).2.1 (TX4 2).2.2.1 ∈ aw := aw1 (by decide +kernel)
theorem fl_X9_7 : Cond.fieldLink RX9 7 (TX9 1).1 (TX9 1).2.1 (TX9 1).2.2.1 ∈ aw := aw1 (by decide +kernel)
theorem fl_X9_13 : Cond.fieldLink RX9 13 (TX9 2).1 (TX9 2).2.1 (TX9 2).2.2.1 ∈ aw := aw1 (by decide +kernel)
theorem fl_X4_9 : Cond.fieldLink RX4 9 (TX4 1).1 (TX4 1).2.1 (TX4 1).2.2.1 ∈ aw := aw1 (by decide +kernel)
theorem fl_X4_23 : Cond.fieldLink RX4 23 (TX4 0).1 (TX4 0).2.1 (TX4 0).2.2.1 ∈ aw := aw1 (by decide +kernel)
theorem lk_X4_68 : Lk md_Tk_begin [.methodLink RX4 68 md_Tk_begin.y, .instanceMethod md_Tk_begin.y, .selects md_Tk_begin.y.cls md_Tk_begin.y md_Tk_begin.y] := lk_of (by decide +kernel)
theorem ar_Tk_begin : Arity md_Tk_begin 1 := ⟨by decide +kernel, by decide +kernel, by decide +kernel⟩
theorem fl_X9_19 : Cond.fieldLink RX9 19 (TX9 4).1 (TX9 4).2.1 (TX9 4).2.2.1 ∈ aw := aw1 (by decide +kernel)
theorem fl_X9_25 : Cond.fieldLink RX9 25 (TX9 0).1 (TX9 0).2.1 (TX9 0).2.2.1 ∈ aw := aw1 (by decide +kernel)
theorem lk_X9_29 : Lk md_Ln_get [.methodLink RX9 29 md_Ln_get.y, .instanceMethod md_Ln_get.y, .selects md_Ln_get.y.cls md_Ln_get.y md_Ln_get.y] := lk_of (by decide +kernel)
theorem lk_X9_39 : Lk md_Tk_isLetter [.methodLink RX9 39 md_Tk_isLetter.y, .static md_Tk_isLetter.y] := lk_of (by decide +kernel)
theorem ar_Tk_isLetter : Arity md_Tk_isLetter 1 := ⟨by decide +kernel, by decide +kernel, by decide +kernel⟩
theorem fl_X9_22 : Cond.fieldLink RX9 22 (TX9 5).1 (TX9 5).2.1 (TX9 5).2.2.1 ∈ aw := aw1 (by decide +kernel)
theorem lk_X9_45 : Lk md_Tk_isDigit [.methodLink RX9 45 md_Tk_isDigit.y, .static md_Tk_isDigit.y] := lk_of (by decide +kernel)
theorem ar_Tk_isDigit : Arity md_Tk_isDigit 1 := ⟨by decide +kernel, by decide +kernel, by decide +kernel⟩
theorem cn_X9_60 : Cond.constant RX9 60 1000000 ∈ aw := aw1 (by decide +kernel)
theorem mw_X9_61 : ∀ w ∈ [Cond.methodLink RX9 61 Lib.Math.min.name, Cond.static Lib.Math.min.name, Cond.initialized "java/lang/Math", Cond.code Lib.Math.min.name Lib.Math.min.code 2 (some .int)], w ∈ aw := aw_of (by decide +kernel)
theorem fl_X9_16 : Cond.fieldLink RX9 16 (TX9 3).1 (TX9 3).2.1 (TX9 3).2.2.1 ∈ aw := aw1 (by decide +kernel)
theorem lk_X9_48 : Lk md_Tk_readNumber [.methodLink RX9 48 md_Tk_readNumber.y, .instanceMethod md_Tk_readNumber.y, .selects md_Tk_readNumber.y.cls md_Tk_readNumber.y md_Tk_readNumber.y] := lk_of (by decide +kernel)
theorem ar_Tk_readNumber : Arity md_Tk_readNumber 0 := ⟨by decide +kernel, by decide +kernel, by decide +kernel⟩
theorem lk_X9_42 : Lk md_Tk_readWord [.methodLink RX9 42 md_Tk_readWord.y, .instanceMethod md_Tk_readWord.y, .selects md_Tk_readWord.y.cls md_Tk_readWord.y md_Tk_readWord.y] := lk_of (by decide +kernel)
theorem ar_Tk_readWord : Arity md_Tk_readWord 0 := ⟨by decide +kernel, by decide +kernel, by decide +kernel⟩
theorem lk_X9_35 : Lk md_Tk_isBlank [.methodLink RX9 35 md_Tk_isBlank.y, .static md_Tk_isBlank.y] := lk_of (by decide +kernel)
theorem ar_Tk_isBlank : Arity md_Tk_isBlank 1 := ⟨by decide +kernel, by decide +kernel, by decide +kernel⟩
theorem lk_X9_51 : Lk md_J0_length [.methodLink RX9 51 md_J0_length.y, .instanceMethod md_J0_length.y, .selects md_J0_length.y.cls md_J0_length.y md_J0_length.y] := lk_of (by decide +kernel)
theorem lk_X9_56 : Lk md_J0_charAt [.methodLink RX9 56 md_J0_charAt.y, .instanceMethod md_J0_charAt.y, .selects md_J0_charAt.y.cls md_J0_charAt.y md_J0_charAt.y] := lk_of (by decide +kernel)
theorem lk_X4_126 : Lk md_Tk_start [.methodLink RX4 126 md_Tk_start.y, .instanceMethod md_Tk_start.y, .selects md_Tk_start.y.cls md_Tk_start.y md_Tk_start.y] := lk_of (by decide +kernel)
theorem ar_Tk_start : Arity md_Tk_start 0 := ⟨by decide +kernel, by decide +kernel, by decide +kernel⟩
theorem lk_X4_35 : Lk md_Tk_next [.methodLink RX4 35 md_Tk_next.y, .instanceMethod md_Tk_next.y, .selects md_Tk_next.y.cls md_Tk_next.y md_Tk_next.y] := lk_of (by decide +kernel)
theorem ar_Tk_next : Arity md_Tk_next 0 := ⟨by decide +kernel, by decide +kernel, by decide +kernel⟩
theorem lk_X4_38 : Lk md_Tk_kind [.methodLink RX4 38 md_Tk_kind.y, .instanceMethod md_Tk_kind.y, .selects md_Tk_kind.y.cls md_Tk_kind.y md_Tk_kind.y] := lk_of (by decide +kernel)
theorem ar_Tk_kind : Arity md_Tk_kind 0 := ⟨by decide +kernel, by decide +kernel, by decide +kernel⟩
theorem lk_X4_75 : Lk md_Tk_value [.methodLink RX4 75 md_Tk_value.y, .instanceMethod md_Tk_value.y, .selects md_Tk_value.y.cls md_Tk_value.y md_Tk_value.y] := lk_of (by decide +kernel)
theorem ar_Tk_value : Arity md_Tk_value 0 := ⟨by decide +kernel, by decide +kernel, by decide +kernel⟩
theorem lk_X4_48 : Lk md_Ps_fail [.methodLink RX4 48 md_Ps_fail.y, .instanceMethod md_Ps_fail.y, .selects md_Ps_fail.y.cls md_Ps_fail.y md_Ps_fail.y] := lk_of (by decide +kernel)
theorem ar_Ps_fail : Arity md_Ps_fail 1 := ⟨by decide +kernel, by decide +kernel, by decide +kernel⟩
theorem lk_X4_44 : Lk md_Tk_isWord [.methodLink RX4 44 md_Tk_isWord.y, .instanceMethod md_Tk_isWord.y, .selects md_Tk_isWord.y.cls md_Tk_isWord.y md_Tk_isWord.y] := lk_of (by decide +kernel)
theorem ar_Tk_isWord : Arity md_Tk_isWord 1 := ⟨by decide +kernel, by decide +kernel, by decide +kernel⟩
theorem lk_X4_71 : Lk md_Ps_readNumber [.methodLink RX4 71 md_Ps_readNumber.y, .instanceMethod md_Ps_readNumber.y, .selects md_Ps_readNumber.y.cls md_Ps_readNumber.y md_Ps_readNumber.y] := lk_of (by decide +kernel)
theorem ar_Ps_readNumber : Arity md_Ps_readNumber 2 := ⟨by decide +kernel, by decide +kernel, by decide +kernel⟩
theorem lk_X4_78 : Lk md_St_begin [.methodLink RX4 78 md_St_begin.y, .instanceMethod md_St_begin.y, .selects md_St_begin.y.cls md_St_begin.y md_St_begin.y] := lk_of (by decide +kernel)
theorem ar_St_begin : Arity md_St_begin 4 := ⟨by decide +kernel, by decide +kernel, by decide +kernel⟩
theorem lk_X4_83 : Lk md_Ps_isEnded [.methodLink RX4 83 md_Ps_isEnded.y, .instanceMethod md_Ps_isEnded.y, .selects md_Ps_isEnded.y.cls md_Ps_isEnded.y md_Ps_isEnded.y] := lk_of (by decide +kernel)
theorem ar_Ps_isEnded : Arity md_Ps_isEnded 0 := ⟨by decide +kernel, by decide +kernel, by decide +kernel⟩
theorem fl_X4_87 : Cond.fieldLink RX4 87 (TX8 4).1 (TX8 4).2.1 (TX8 4).2.2.1 ∈ aw := aw1 (by decide +kernel)
theorem lk_X4_91 : Lk md_Ln_placeOf [.methodLink RX4 91 md_Ln_placeOf.y, .instanceMethod md_Ln_placeOf.y, .selects md_Ln_placeOf.y.cls md_Ln_placeOf.y md_Ln_placeOf.y] := lk_of (by decide +kernel)
theorem lk_X4_99 : Lk md_St_addFolder [.methodLink RX4 99 md_St_addFolder.y, .instanceMethod md_St_addFolder.y, .selects md_St_addFolder.y.cls md_St_addFolder.y md_St_addFolder.y] := lk_of (by decide +kernel)
theorem ar_St_addFolder : Arity md_St_addFolder 2 := ⟨by decide +kernel, by decide +kernel, by decide +kernel⟩
theorem lk_X4_27 : Lk md_Ps_begin [.methodLink RX4 27 md_Ps_begin.y, .instanceMethod md_Ps_begin.y, .selects md_Ps_begin.y.cls md_Ps_begin.y md_Ps_begin.y] := lk_of (by decide +kernel)
theorem ar_Ps_begin : Arity md_Ps_begin 1 := ⟨by decide +kernel, by decide +kernel, by decide +kernel⟩
theorem lk_X4_31 : Lk md_Ps_readHead [.methodLink RX4 31 md_Ps_readHead.y, .instanceMethod md_Ps_readHead.y, .selects md_Ps_readHead.y.cls md_Ps_readHead.y md_Ps_readHead.y] := lk_of (by decide +kernel)
theorem ar_Ps_readHead : Arity md_Ps_readHead 1 := ⟨by decide +kernel, by decide +kernel, by decide +kernel⟩
theorem lk_X4_52 : Lk md_Ps_readFolder [.methodLink RX4 52 md_Ps_readFolder.y, .instanceMethod md_Ps_readFolder.y, .selects md_Ps_readFolder.y.cls md_Ps_readFolder.y md_Ps_readFolder.y] := lk_of (by decide +kernel)
theorem ar_Ps_readFolder : Arity md_Ps_readFolder 1 := ⟨by decide +kernel, by decide +kernel, by decide +kernel⟩
theorem lk_X6_33 : Lk md_Ln_clear [.methodLink RX6 33 md_Ln_clear.y, .instanceMethod md_Ln_clear.y, .selects md_Ln_clear.y.cls md_Ln_clear.y md_Ln_clear.y] := lk_of (by decide +kernel)
theorem lk_X4_122 : Lk md_Sc_add [.methodLink RX4 122 md_Sc_add.y, .instanceMethod md_Sc_add.y, .selects md_Sc_add.y.cls md_Sc_add.y md_Sc_add.y] := lk_of (by decide +kernel)
theorem ar_Sc_add : Arity md_Sc_add 3 := ⟨by decide +kernel, by decide +kernel, by decide +kernel⟩
theorem lk_X4_55 : Lk md_Sc_clear [.methodLink RX4 55 md_Sc_clear.y, .instanceMethod md_Sc_clear.y, .selects md_Sc_clear.y.cls md_Sc_clear.y md_Sc_clear.y] := lk_of (by decide +kernel)
theorem ar_Sc_clear : Arity md_Sc_clear 0 := ⟨by decide +kernel, by decide +kernel, by decide +kernel⟩
theorem lk_X4_60 : Lk md_Ps_readOrder [.methodLink RX4 60 md_Ps_readOrder.y, .instanceMethod md_Ps_readOrder.y, .selects md_Ps_readOrder.y.cls md_Ps_readOrder.y md_Ps_readOrder.y] := lk_of (by decide +kernel)
theorem ar_Ps_readOrder : Arity md_Ps_readOrder 0 := ⟨by decide +kernel, by decide +kernel, by decide +kernel⟩
theorem lk_X4_64 : Lk md_Ps_readNumbers [.methodLink RX4 64 md_Ps_readNumbers.y, .instanceMethod md_Ps_readNumbers.y, .selects md_Ps_readNumbers.y.cls md_Ps_readNumbers.y md_Ps_readNumbers.y] := lk_of (by decide +kernel)
theorem ar_Ps_readNumbers : Arity md_Ps_readNumbers 2 := ⟨by decide +kernel, by decide +kernel, by decide +kernel⟩
def Hi_count (M : WM) : Int32 := M.2.2.1 8
set_option maxRecDepth 100000 in
set_option maxHeartbeats 4000000 in
theorem c_Hi_count {ad ae : Nat → Nat} (l : Launch) (g : Gl) (hC : KAll g ad ae) (σ : Hp) (B : Nat) (M : WM) {r : Int32} (hr : Hi_count M = r) : MG l g md_Hi_count [.ref (B + 15)] (putW σ B ae M) (rs (some (.int r)) (putW σ B ae M)) := by
  refine MG.intro (by decide +kernel) (Nat.le_of_ble_eq_true rfl) (fun X hx hR _ => ?_)
  unfold Hi_count at hr
  refine g_ls [0] [(0, .ref (B + 15))] rfl ?_
  refine g_aload_n hx 0 (i := 0) 0 dX1_count_0 rfl rfl ?_
  refine g_get hx 1 (C := RX1) (T := TX1) (N := 3) 2 (.int (M.2.2.1 8)) (pW σ B ae M 15 (by decide)) rfl (by decide) rfl fl_X1_21 dX1_count_1 ?_
  exact g_iret hx hR 4 dX1_count_4 ⟨by rw [← hr] <;> rfl, rfl⟩
def Hi_clear (M : WM) : WM := setWI M 8 0
set_option maxRecDepth 100000 in
set_option maxHeartbeats 4000000 in
theorem c_Hi_clear {ad ae : Nat → Nat} (l : Launch) (g : Gl) (hC : KAll g ad ae) (σ : Hp) (B : Nat) (M : WM) {r : WM} (hr : Hi_clear M = r) : MG l g md_Hi_clear [.ref (B + 15)] (putW σ B ae M) (rs none (putW σ B ae r)) := by
  refine MG.intro (by decide +kernel) (Nat.le_of_ble_eq_true rfl) (fun X hx hR _ => ?_)
  unfold Hi_clear at hr
  refine g_ls [0] [(0, .ref (B + 15))] rfl ?_
  refine g_aload_n hx 0 (i := 0) 0 dX1_clear_0 rfl rfl ?_
  refine g_iconst hx 1 (0) dX1_clear_1 rfl ?_
  refine g_put hx 2 (C := RX1) (T := TX1) (N := 3) 2 .int _ (pW σ B ae M 15 (by decide)) rfl (by decide) fl_X1_21 rfl rfl rfl rfl (Nat.le_of_ble_eq_true rfl) rfl dX1_clear_2 ?_
  refine G.heap (pW_i8 σ B ae M 0) ?_
  exact g_vret hx hR 5 dX1_clear_5 ⟨rfl, by rw [← hr] <;> rfl⟩
def Hi_keep (M : WM) : Option (WM) := if 8 ≤ M.2.2.1 8 then (some (setWI M 7 (((M.2.2.1 7) + 1) - ((M.2.2.1 7) + 1) / 9 * 9))) else (some (setWI M 8 ((M.2.2.1 8) + 1)))
set_option maxRecDepth 100000 in
set_option maxHeartbeats 4000000 in
theorem c_Hi_keep {ad ae : Nat → Nat} (l : Launch) (g : Gl) (hC : KAll g ad ae) (σ : Hp) (B : Nat) (M : WM) {r : WM} (hr : Hi_keep M = some r) : MG l g md_Hi_keep [.ref (B + 15)] (putW σ B ae M) (rs none (putW σ B ae r)) := by
  refine MG.intro (by decide +kernel) (Nat.le_of_ble_eq_true rfl) (fun X hx hR _ => ?_)
  unfold Hi_keep at hr
  refine g_ls [0] [(0, .ref (B + 15))] rfl ?_
  refine g_aload_n hx 0 (i := 0) 0 dX1_keep_0 rfl rfl ?_
  refine g_get hx 1 (C := RX1) (T := TX1) (N := 3) 2 (.int (M.2.2.1 8)) (pW σ B ae M 15 (by decide)) rfl (by decide) rfl fl_X1_21 dX1_keep_1 ?_
  refine g_bipush hx 4 (8) dX1_keep_4 rfl ?_
  refine g_icmp_ge hx 6 22 dX1_keep_6 (by decide) (fun hc_1219 => ?_) (fun hc_1219 => ?_)
  · have hr := (if_pos hc_1219).symm.trans hr
    refine g_aload_n hx 22 (i := 0) 0 dX1_keep_22 rfl rfl ?_
    refine g_aload_n hx 23 (i := 0) 0 dX1_keep_23 rfl rfl ?_
    refine g_get hx 24 (C := RX1) (T := TX1) (N := 3) 1 (.int (M.2.2.1 7)) (pW σ B ae M 15 (by decide)) rfl (by decide) rfl fl_X1_17 dX1_keep_24 ?_
    refine g_iconst hx 27 (1) dX1_keep_27 rfl ?_
    refine g_iadd hx 28 dX1_keep_28 ?_
    refine g_bipush hx 29 (9) dX1_keep_29 rfl ?_
    refine g_irem hx 31 dX1_keep_31 (by decide) ?_
    refine g_put hx 32 (C := RX1) (T := TX1) (N := 3) 1 .int _ (pW σ B ae M 15 (by decide)) rfl (by decide) fl_X1_17 rfl rfl rfl rfl (Nat.le_of_ble_eq_true rfl) rfl dX1_keep_32 ?_
    refine G.heap (pW_i7 σ B ae M (((M.2.2.1 7) + 1) - ((M.2.2.1 7) + 1) / 9 * 9)) ?_
    exact g_vret hx hR 35 dX1_keep_35 ⟨rfl, by rw [← Option.some.inj hr] <;> rfl⟩
  · have hr := (if_neg hc_1219).symm.trans hr
    refine g_aload_n hx 9 (i := 0) 0 dX1_keep_9 rfl rfl ?_
    refine g_dup hx 10 dX1_keep_10 rfl ?_
    refine g_get hx 11 (C := RX1) (T := TX1) (N := 3) 2 (.int (M.2.2.1 8)) (pW σ B ae M 15 (by decide)) rfl (by decide) rfl fl_X1_21 dX1_keep_11 ?_
    refine g_iconst hx 14 (1) dX1_keep_14 rfl ?_
    refine g_iadd hx 15 dX1_keep_15 ?_
    refine g_put hx 16 (C := RX1) (T := TX1) (N := 3) 2 .int _ (pW σ B ae M 15 (by decide)) rfl (by decide) fl_X1_21 rfl rfl rfl rfl (Nat.le_of_ble_eq_true rfl) rfl dX1_keep_16 ?_
    refine G.heap (pW_i8 σ B ae M ((M.2.2.1 8) + 1)) ?_
    refine g_goto hx 19 35 dX1_keep_19 (by decide) ?_
    exact g_vret hx hR 35 dX1_keep_35 ⟨rfl, by rw [← Option.some.inj hr] <;> rfl⟩
def Ps_errorPlace (M : WM) : Int32 := M.2.2.1 6
set_option maxRecDepth 100000 in
set_option maxHeartbeats 4000000 in
theorem c_Ps_errorPlace {ad ae : Nat → Nat} (l : Launch) (g : Gl) (hC : KAll g ad ae) (σ : Hp) (B : Nat) (M : WM) {r : Int32} (hr : Ps_errorPlace M = r) : MG l g md_Ps_errorPlace [.ref (B + 7)] (putW σ B ae M) (rs (some (.int r)) (putW σ B ae M)) := by
  refine MG.intro (by decide +kernel) (Nat.le_of_ble_eq_true rfl) (fun X hx hR _ => ?_)
  unfold Ps_errorPlace at hr
  refine g_ls [0] [(0, .ref (B + 7))] rfl ?_
  refine g_aload_n hx 0 (i := 0) 0 dX4_errorPlace_0 rfl rfl ?_
  refine g_get hx 1 (C := RX4) (T := TX4) (N := 3) 2 (.int (M.2.2.1 6)) (pW σ B ae M 7 (by decide)) rfl (by decide) rfl fl_X4_15 dX4_errorPlace_1 ?_
  exact g_iret hx hR 4 dX4_errorPlace_4 ⟨by rw [← hr] <;> rfl, rfl⟩
def Tk_begin (M : WM) (p1 : Int32) : WM := setWI (setWI M 0 p1) 1 0
set_option maxRecDepth 100000 in
set_option maxHeartbeats 4000000 in
theorem c_Tk_begin {ad ae : Nat → Nat} (l : Launch) (g : Gl) (hC : KAll g ad ae) (σ : Hp) (B : Nat) (M : WM) (p1 : Int32) {r : WM} (hr : Tk_begin M p1 = r) : MG l g md_Tk_begin [.ref (B + 8), .int p1] (putW σ B ae M) (rs none (putW σ B ae r)) := by
  refine MG.intro (by decide +kernel) (Nat.le_of_ble_eq_true rfl) (fun X hx hR _ => ?_)
  unfold Tk_begin at hr
  refine g_ls [0, 1] [(0, .ref (B + 8)), (1, .int p1)] rfl ?_
  refine g_aload_n hx 0 (i := 0) 0 dX9_begin_0 rfl rfl ?_
  refine g_iload_n hx 1 (i := 1) 1 dX9_begin_1 rfl rfl ?_
  refine g_put hx 2 (C := RX9) (T := TX9) (N := 6) 1 .int _ (pW σ B ae M 8 (by decide)) rfl (by decide) fl_X9_7 rfl rfl rfl rfl (Nat.le_of_ble_eq_true rfl) rfl dX9_begin_2 ?_
  refine G.heap (pW_i0 σ B ae M p1) ?_
  refine g_aload_n hx 5 (i := 0) 0 dX9_begin_5 rfl rfl ?_
  refine g_iconst hx 6 (0) dX9_begin_6 rfl ?_
  refine g_put hx 7 (C := RX9) (T := TX9) (N := 6) 2 .int _ (pW σ B ae (setWI M 0 p1) 8 (by decide)) rfl (by decide) fl_X9_13 rfl rfl rfl rfl (Nat.le_of_ble_eq_true rfl) rfl dX9_begin_7 ?_
  refine G.heap (pW_i1 σ B ae (setWI M 0 p1) 0) ?_
  exact g_vret hx hR 10 dX9_begin_10 ⟨rfl, by rw [← hr] <;> rfl⟩
def Ps_begin (M : WM) (p1 : Int32) : WM := lt' (Tk_begin (setWI (setWI M 5 0) 6 (-1)) p1) fun M_1220 => M_1220
set_option maxRecDepth 100000 in
set_option maxHeartbeats 4000000 in
theorem c_Ps_begin {ad ae : Nat → Nat} (l : Launch) (g : Gl) (hC : KAll g ad ae) (σ : Hp) (B : Nat) (M : WM) (p1 : Int32) {r : WM} (hr : Ps_begin M p1 = r) : MG l g md_Ps_begin [.ref (B + 7), .int p1] (putW σ B ae M) (rs none (putW σ B ae r)) := by
  refine MG.intro (by decide +kernel) (Nat.le_of_ble_eq_true rfl) (fun X hx hR _ => ?_)
  unfold Ps_begin at hr
  refine g_ls [0, 1] [(0, .ref (B + 7)), (1, .int p1)] rfl ?_
  refine g_aload_n hx 0 (i := 0) 0 dX4_begin_0 rfl rfl ?_
  refine g_iconst hx 1 (0) dX4_begin_1 rfl ?_
  refine g_put hx 2 (C := RX4) (T := TX4) (N := 3) 1 .int _ (pW σ B ae M 7 (by decide)) rfl (by decide) fl_X4_9 rfl rfl rfl rfl (Nat.le_of_ble_eq_true rfl) rfl dX4_begin_2 ?_
  refine G.heap (pW_i5 σ B ae M 0) ?_
  refine g_aload_n hx 5 (i := 0) 0 dX4_begin_5 rfl rfl ?_
  refine g_iconst hx 6 (-1) dX4_begin_6 rfl ?_
  refine g_put hx 7 (C := RX4) (T := TX4) (N := 3) 2 .int _ (pW σ B ae (setWI M 5 0) 7 (by decide)) rfl (by decide) fl_X4_15 rfl rfl rfl rfl (Nat.le_of_ble_eq_true rfl) rfl dX4_begin_7 ?_
  refine G.heap (pW_i6 σ B ae (setWI M 5 0) (-1)) ?_
  refine g_aload_n hx 10 (i := 0) 0 dX4_begin_10 rfl rfl ?_
  refine g_get hx 11 (C := RX4) (T := TX4) (N := 3) 0 (.ref (B + 8)) (pW σ B ae (setWI (setWI M 5 0) 6 (-1)) 7 (by decide)) rfl (by decide) rfl fl_X4_23 dX4_begin_11 ?_
  refine g_iload_n hx 14 (i := 1) 1 dX4_begin_14 rfl rfl ?_
  obtain ⟨M_1220, eM_1220, hr⟩ := lt'_e hr
  refine g_callVv hx (c_Tk_begin l g hC σ B (setWI (setWI M 5 0) 6 (-1)) p1 eM_1220.symm) lk_X4_68 ar_Tk_begin (pW σ B ae (setWI (setWI M 5 0) 6 (-1)) 8 (by decide)) (T := TX9) (N := 6) rfl (As := [.int p1]) (rest := []) rfl (Nat.le_of_ble_eq_true rfl) ⟨Nat.le_of_ble_eq_true rfl, Nat.le_of_ble_eq_true rfl⟩ ⟨rfl, rfl⟩ ⟨Nat.zero_le _, Nat.zero_le _⟩ dX4_begin_15 ?_
  exact g_vret hx hR 18 dX4_begin_18 ⟨rfl, by rw [← hr] <;> rfl⟩
def Tk_isBlank (p1 : Int32) : Int32 := if p1 = 32 then (1) else (if p1 = 10 then (1) else (0))
set_option maxRecDepth 100000 in
set_option maxHeartbeats 4000000 in
theorem c_Tk_isBlank (l : Launch) (g : Gl) (σ : Hp) (p1 : Int32) {r : Int32} (hr : Tk_isBlank p1 = r) : MG l g md_Tk_isBlank [.int p1] σ (rs (some (.int r)) σ) := by
  refine MG.intro (by decide +kernel) (Nat.le_of_ble_eq_true rfl) (fun X hx hR _ => ?_)
  unfold Tk_isBlank at hr
  refine g_ls [0] [(0, .int p1)] rfl ?_
  refine g_iload_n hx 0 (i := 0) 0 dX9_isBlank_0 rfl rfl ?_
  refine g_bipush hx 1 (32) dX9_isBlank_1 rfl ?_
  refine g_icmp_eq hx 3 12 dX9_isBlank_3 (by decide) (fun hc_1221 => ?_) (fun hc_1221 => ?_)
  · have hr := (if_pos hc_1221).symm.trans hr
    refine g_iconst hx 12 (1) dX9_isBlank_12 rfl ?_
    refine g_goto hx 13 17 dX9_isBlank_13 (by decide) ?_
    exact g_zret hx hR 17 (Or.inr rfl) dX9_isBlank_17 ⟨by rw [← hr] <;> rfl, rfl⟩
  · have hr := (if_neg hc_1221).symm.trans hr
    refine g_iload_n hx 6 (i := 0) 0 dX9_isBlank_6 rfl rfl ?_
    refine g_bipush hx 7 (10) dX9_isBlank_7 rfl ?_
    refine g_icmp_ne hx 9 16 dX9_isBlank_9 (by decide) (fun hc_1222 => ?_) (fun hc_1222 => ?_)
    · have hr := (if_neg hc_1222).symm.trans hr
      refine g_iconst hx 16 (0) dX9_isBlank_16 rfl ?_
      exact g_zret hx hR 17 (Or.inl rfl) dX9_isBlank_17 ⟨by rw [← hr] <;> rfl, rfl⟩
    · have hr := (if_pos hc_1222).symm.trans hr
      refine g_iconst hx 12 (1) dX9_isBlank_12 rfl ?_
      refine g_goto hx 13 17 dX9_isBlank_13 (by decide) ?_
      exact g_zret hx hR 17 (Or.inr rfl) dX9_isBlank_17 ⟨by rw [← hr] <;> rfl, rfl⟩
theorem bo_Tk_isBlank (p1 : Int32) : Tk_isBlank p1 = 0 ∨ Tk_isBlank p1 = 1 := by
  unfold Tk_isBlank
  (repeat' split) <;> first | exact Or.inl rfl | exact Or.inr rfl | exact bo_Rw_isWrong .. | exact bo_Sl_has .. | exact bo_St_hasFolder .. | exact bo_St_hasReader .. | exact bo_St_isClosed .. | exact bo_St_isRefilingDay .. | exact bo_Md_inRange .. | exact bo_Md_areDays ..
def Tk_isLetter (p1 : Int32) : Int32 := if p1 < 97 then (0) else (if 122 < p1 then (0) else (1))
set_option maxRecDepth 100000 in
set_option maxHeartbeats 4000000 in
theorem c_Tk_isLetter (l : Launch) (g : Gl) (σ : Hp) (p1 : Int32) {r : Int32} (hr : Tk_isLetter p1 = r) : MG l g md_Tk_isLetter [.int p1] σ (rs (some (.int r)) σ) := by
  refine MG.intro (by decide +kernel) (Nat.le_of_ble_eq_true rfl) (fun X hx hR _ => ?_)
  unfold Tk_isLetter at hr
  refine g_ls [0] [(0, .int p1)] rfl ?_
  refine g_iload_n hx 0 (i := 0) 0 dX9_isLetter_0 rfl rfl ?_
  refine g_bipush hx 1 (97) dX9_isLetter_1 rfl ?_
  refine g_icmp_lt hx 3 16 dX9_isLetter_3 (by decide) (fun hc_1223 => ?_) (fun hc_1223 => ?_)
  · have hr := (if_pos hc_1223).symm.trans hr
    refine g_iconst hx 16 (0) dX9_isLetter_16 rfl ?_
    exact g_zret hx hR 17 (Or.inl rfl) dX9_isLetter_17 ⟨by rw [← hr] <;> rfl, rfl⟩
  · have hr := (if_neg hc_1223).symm.trans hr
    refine g_iload_n hx 6 (i := 0) 0 dX9_isLetter_6 rfl rfl ?_
    refine g_bipush hx 7 (122) dX9_isLetter_7 rfl ?_
    refine g_icmp_gt hx 9 16 dX9_isLetter_9 (by decide) (fun hc_1224 => ?_) (fun hc_1224 => ?_)
    · have hr := (if_pos hc_1224).symm.trans hr
      refine g_iconst hx 16 (0) dX9_isLetter_16 rfl ?_
      exact g_zret hx hR 17 (Or.inl rfl) dX9_isLetter_17 ⟨by rw [← hr] <;> rfl, rfl⟩
    · have hr := (if_neg hc_1224).symm.trans hr
      refine g_iconst hx 12 (1) dX9_isLetter_12 rfl ?_
      refine g_goto hx 13 17 dX9_isLetter_13 (by decide) ?_
      exact g_zret hx hR 17 (Or.inr rfl) dX9_isLetter_17 ⟨by rw [← hr] <;> rfl, rfl⟩
theorem bo_Tk_isLetter (p1 : Int32) : Tk_isLetter p1 = 0 ∨ Tk_isLetter p1 = 1 := by
  unfold Tk_isLetter
  (repeat' split) <;> first | exact Or.inl rfl | exact Or.inr rfl | exact bo_Rw_isWrong .. | exact bo_Sl_has .. | exact bo_St_hasFolder .. | exact bo_St_hasReader .. | exact bo_St_isClosed .. | exact bo_St_isRefilingDay .. | exact bo_Md_inRange .. | exact bo_Md_areDays .. | exact bo_Tk_isBlank ..
def Tk_readWord_L5 : Nat → WM → Option (WM)
  | 0, _ => none
  | n + 1, M => if M.2.2.1 0 ≤ M.2.2.1 1 then (some (M)) else (if Tk_isLetter (lnget (M.2.1 0) (M.2.2.1 1)) = 0 then (some (M)) else (Tk_readWord_L5 n (setWI M 1 ((M.2.2.1 1) + 1))))
def Tk_readWord (M : WM) : Option (WM) := Tk_readWord_L5 FU (setWI M 3 1)
set_option maxRecDepth 100000 in
set_option maxHeartbeats 4000000 in
theorem w_Tk_readWord_L5 {ad ae : Nat → Nat} {X : Cx} {l : Launch} {g : Gl} (hx : Ok X l g RX9 cX9_readWord 1 md_Tk_readWord.rm) (hC : KAll g ad ae) {σ : Hp} {B : Nat} {r : WM} (hR : Ret X (rs none (putW σ B ae r)) 0 0 (none)) : ∀ (n : Nat) (M : WM), Tk_readWord_L5 n M = some r → G X (putW σ B ae M) 0 0 5 [(0, .ref (B + 8))] [] := by
  intro n
  induction n with
  | zero =>
    intro M hr
    rw [Tk_readWord_L5] at hr
    cases hr
  | succ n ih =>
    intro M hr
    rw [Tk_readWord_L5] at hr
    refine g_aload_n hx 5 (i := 0) 0 dX9_readWord_5 rfl rfl ?_
    refine g_get hx 6 (C := RX9) (T := TX9) (N := 6) 2 (.int (M.2.2.1 1)) (pW σ B ae M 8 (by decide)) rfl (by decide) rfl fl_X9_13 dX9_readWord_6 ?_
    refine g_aload_n hx 9 (i := 0) 0 dX9_readWord_9 rfl rfl ?_
    refine g_get hx 10 (C := RX9) (T := TX9) (N := 6) 1 (.int (M.2.2.1 0)) (pW σ B ae M 8 (by decide)) rfl (by decide) rfl fl_X9_7 dX9_readWord_10 ?_
    refine g_icmp_ge hx 13 46 dX9_readWord_13 (by decide) (fun hc_1225 => ?_) (fun hc_1225 => ?_)
    · have hr := (if_pos hc_1225).symm.trans hr
      exact g_vret hx hR 46 dX9_readWord_46 ⟨rfl, by rw [← Option.some.inj hr] <;> rfl⟩
    · have hr := (if_neg hc_1225).symm.trans hr
      refine g_aload_n hx 16 (i := 0) 0 dX9_readWord_16 rfl rfl ?_
      refine g_get hx 17 (C := RX9) (T := TX9) (N := 6) 0 (.ref (B + 1)) (pW σ B ae M 8 (by decide)) rfl (by decide) rfl fl_X9_25 dX9_readWord_17 ?_
      refine g_aload_n hx 20 (i := 0) 0 dX9_readWord_20 rfl rfl ?_
      refine g_get hx 21 (C := RX9) (T := TX9) (N := 6) 2 (.int (M.2.2.1 1)) (pW σ B ae M 8 (by decide)) rfl (by decide) rfl fl_X9_13 dX9_readWord_21 ?_
      refine g_callVr hx (k_get l g (pW_l0 σ B ae M) (by decide) (M.2.2.1 1)) lk_X9_29 ar_Ln_get (pW_l0 σ B ae M).1 (T := TX2) (N := 2) rfl (As := [.int (M.2.2.1 1)]) (rest := []) rfl (Nat.le_of_ble_eq_true rfl) ⟨Nat.le_of_ble_eq_true rfl, Nat.le_of_ble_eq_true rfl⟩ ⟨rfl, rfl⟩ ⟨Nat.zero_le _, Nat.zero_le _⟩ dX9_readWord_24 ?_
      refine g_callSr hx (c_Tk_isLetter l g _ (lnget (M.2.1 0) (M.2.2.1 1)) rfl) lk_X9_39 ar_Tk_isLetter (As := [.int (lnget (M.2.1 0) (M.2.2.1 1))]) (rest := []) rfl (Nat.le_of_ble_eq_true rfl) ⟨Nat.le_of_ble_eq_true rfl, Nat.le_of_ble_eq_true rfl⟩ ⟨rfl, rfl⟩ ⟨Nat.zero_le _, Nat.zero_le _⟩ dX9_readWord_27 ?_
      refine g_if_eq hx 30 46 dX9_readWord_30 (by decide) (fun hc_1226 => ?_) (fun hc_1226 => ?_)
      · have hr := (if_pos hc_1226).symm.trans hr
        exact g_vret hx hR 46 dX9_readWord_46 ⟨rfl, by rw [← Option.some.inj hr] <;> rfl⟩
      · have hr := (if_neg hc_1226).symm.trans hr
        refine g_aload_n hx 33 (i := 0) 0 dX9_readWord_33 rfl rfl ?_
        refine g_dup hx 34 dX9_readWord_34 rfl ?_
        refine g_get hx 35 (C := RX9) (T := TX9) (N := 6) 2 (.int (M.2.2.1 1)) (pW σ B ae M 8 (by decide)) rfl (by decide) rfl fl_X9_13 dX9_readWord_35 ?_
        refine g_iconst hx 38 (1) dX9_readWord_38 rfl ?_
        refine g_iadd hx 39 dX9_readWord_39 ?_
        refine g_put hx 40 (C := RX9) (T := TX9) (N := 6) 2 .int _ (pW σ B ae M 8 (by decide)) rfl (by decide) fl_X9_13 rfl rfl rfl rfl (Nat.le_of_ble_eq_true rfl) rfl dX9_readWord_40 ?_
        refine G.heap (pW_i1 σ B ae M ((M.2.2.1 1) + 1)) ?_
        refine g_goto hx 43 5 dX9_readWord_43 (by decide) ?_
        refine g_ls [0] [(0, .ref (B + 8))] rfl ?_
        exact ih (setWI M 1 ((M.2.2.1 1) + 1))  hr
set_option maxRecDepth 100000 in
set_option maxHeartbeats 4000000 in
theorem c_Tk_readWord {ad ae : Nat → Nat} (l : Launch) (g : Gl) (hC : KAll g ad ae) (σ : Hp) (B : Nat) (M : WM) {r : WM} (hr : Tk_readWord M = some r) : MG l g md_Tk_readWord [.ref (B + 8)] (putW σ B ae M) (rs none (putW σ B ae r)) := by
  refine MG.intro (by decide +kernel) (Nat.le_of_ble_eq_true rfl) (fun X hx hR _ => ?_)
  unfold Tk_readWord at hr
  refine g_ls [0] [(0, .ref (B + 8))] rfl ?_
  refine g_aload_n hx 0 (i := 0) 0 dX9_readWord_0 rfl rfl ?_
  refine g_iconst hx 1 (1) dX9_readWord_1 rfl ?_
  refine g_put hx 2 (C := RX9) (T := TX9) (N := 6) 4 .int _ (pW σ B ae M 8 (by decide)) rfl (by decide) fl_X9_19 rfl rfl rfl rfl (Nat.le_of_ble_eq_true rfl) rfl dX9_readWord_2 ?_
  refine G.heap (pW_i3 σ B ae M 1) ?_
  refine g_ls [0] [(0, .ref (B + 8))] rfl ?_
  exact w_Tk_readWord_L5 hx hC hR FU (setWI M 3 1)  hr
def Tk_isDigit (p1 : Int32) : Int32 := if p1 < 48 then (0) else (if 57 < p1 then (0) else (1))
set_option maxRecDepth 100000 in
set_option maxHeartbeats 4000000 in
theorem c_Tk_isDigit (l : Launch) (g : Gl) (σ : Hp) (p1 : Int32) {r : Int32} (hr : Tk_isDigit p1 = r) : MG l g md_Tk_isDigit [.int p1] σ (rs (some (.int r)) σ) := by
  refine MG.intro (by decide +kernel) (Nat.le_of_ble_eq_true rfl) (fun X hx hR _ => ?_)
  unfold Tk_isDigit at hr
  refine g_ls [0] [(0, .int p1)] rfl ?_
  refine g_iload_n hx 0 (i := 0) 0 dX9_isDigit_0 rfl rfl ?_
  refine g_bipush hx 1 (48) dX9_isDigit_1 rfl ?_
  refine g_icmp_lt hx 3 16 dX9_isDigit_3 (by decide) (fun hc_1227 => ?_) (fun hc_1227 => ?_)
  · have hr := (if_pos hc_1227).symm.trans hr
    refine g_iconst hx 16 (0) dX9_isDigit_16 rfl ?_
    exact g_zret hx hR 17 (Or.inl rfl) dX9_isDigit_17 ⟨by rw [← hr] <;> rfl, rfl⟩
  · have hr := (if_neg hc_1227).symm.trans hr
    refine g_iload_n hx 6 (i := 0) 0 dX9_isDigit_6 rfl rfl ?_
    refine g_bipush hx 7 (57) dX9_isDigit_7 rfl ?_
    refine g_icmp_gt hx 9 16 dX9_isDigit_9 (by decide) (fun hc_1228 => ?_) (fun hc_1228 => ?_)
    · have hr := (if_pos hc_1228).symm.trans hr
      refine g_iconst hx 16 (0) dX9_isDigit_16 rfl ?_
      exact g_zret hx hR 17 (Or.inl rfl) dX9_isDigit_17 ⟨by rw [← hr] <;> rfl, rfl⟩
    · have hr := (if_neg hc_1228).symm.trans hr
      refine g_iconst hx 12 (1) dX9_isDigit_12 rfl ?_
      refine g_goto hx 13 17 dX9_isDigit_13 (by decide) ?_
      exact g_zret hx hR 17 (Or.inr rfl) dX9_isDigit_17 ⟨by rw [← hr] <;> rfl, rfl⟩
theorem bo_Tk_isDigit (p1 : Int32) : Tk_isDigit p1 = 0 ∨ Tk_isDigit p1 = 1 := by
  unfold Tk_isDigit
  (repeat' split) <;> first | exact Or.inl rfl | exact Or.inr rfl | exact bo_Rw_isWrong .. | exact bo_Sl_has .. | exact bo_St_hasFolder .. | exact bo_St_hasReader .. | exact bo_St_isClosed .. | exact bo_St_isRefilingDay .. | exact bo_Md_inRange .. | exact bo_Md_areDays .. | exact bo_Tk_isBlank .. | exact bo_Tk_isLetter ..
def Tk_readNumber_L10 : Nat → WM → Option (WM)
  | 0, _ => none
  | n + 1, M => if M.2.2.1 0 ≤ M.2.2.1 1 then (some (M)) else (if Tk_isDigit (lnget (M.2.1 0) (M.2.2.1 1)) = 0 then (some (M)) else (Tk_readNumber_L10 n (setWI (setWI M 4 (if (((M.2.2.1 4) * 10) + (lnget (M.2.1 0) (M.2.2.1 1))) - 48 < 1000000 then (((M.2.2.1 4) * 10) + (lnget (M.2.1 0) (M.2.2.1 1))) - 48 else 1000000)) 1 ((M.2.2.1 1) + 1))))
def Tk_readNumber (M : WM) : Option (WM) := Tk_readNumber_L10 FU (setWI (setWI M 3 2) 4 0)
set_option maxRecDepth 100000 in
set_option maxHeartbeats 4000000 in
theorem w_Tk_readNumber_L10 {ad ae : Nat → Nat} {X : Cx} {l : Launch} {g : Gl} (hx : Ok X l g RX9 cX9_readNumber 1 md_Tk_readNumber.rm) (hC : KAll g ad ae) {σ : Hp} {B : Nat} {r : WM} (hR : Ret X (rs none (putW σ B ae r)) 0 0 (none)) : ∀ (n : Nat) (M : WM), Tk_readNumber_L10 n M = some r → G X (putW σ B ae M) 0 0 10 [(0, .ref (B + 8))] [] := by
  intro n
  induction n with
  | zero =>
    intro M hr
    rw [Tk_readNumber_L10] at hr
    cases hr
  | succ n ih =>
    intro M hr
    rw [Tk_readNumber_L10] at hr
    refine g_aload_n hx 10 (i := 0) 0 dX9_readNumber_10 rfl rfl ?_
    refine g_get hx 11 (C := RX9) (T := TX9) (N := 6) 2 (.int (M.2.2.1 1)) (pW σ B ae M 8 (by decide)) rfl (by decide) rfl fl_X9_13 dX9_readNumber_11 ?_
    refine g_aload_n hx 14 (i := 0) 0 dX9_readNumber_14 rfl rfl ?_
    refine g_get hx 15 (C := RX9) (T := TX9) (N := 6) 1 (.int (M.2.2.1 0)) (pW σ B ae M 8 (by decide)) rfl (by decide) rfl fl_X9_7 dX9_readNumber_15 ?_
    refine g_icmp_ge hx 18 82 dX9_readNumber_18 (by decide) (fun hc_1229 => ?_) (fun hc_1229 => ?_)
    · have hr := (if_pos hc_1229).symm.trans hr
      exact g_vret hx hR 82 dX9_readNumber_82 ⟨rfl, by rw [← Option.some.inj hr] <;> rfl⟩
    · have hr := (if_neg hc_1229).symm.trans hr
      refine g_aload_n hx 21 (i := 0) 0 dX9_readNumber_21 rfl rfl ?_
      refine g_get hx 22 (C := RX9) (T := TX9) (N := 6) 0 (.ref (B + 1)) (pW σ B ae M 8 (by decide)) rfl (by decide) rfl fl_X9_25 dX9_readNumber_22 ?_
      refine g_aload_n hx 25 (i := 0) 0 dX9_readNumber_25 rfl rfl ?_
      refine g_get hx 26 (C := RX9) (T := TX9) (N := 6) 2 (.int (M.2.2.1 1)) (pW σ B ae M 8 (by decide)) rfl (by decide) rfl fl_X9_13 dX9_readNumber_26 ?_
      refine g_callVr hx (k_get l g (pW_l0 σ B ae M) (by decide) (M.2.2.1 1)) lk_X9_29 ar_Ln_get (pW_l0 σ B ae M).1 (T := TX2) (N := 2) rfl (As := [.int (M.2.2.1 1)]) (rest := []) rfl (Nat.le_of_ble_eq_true rfl) ⟨Nat.le_of_ble_eq_true rfl, Nat.le_of_ble_eq_true rfl⟩ ⟨rfl, rfl⟩ ⟨Nat.zero_le _, Nat.zero_le _⟩ dX9_readNumber_29 ?_
      refine g_callSr hx (c_Tk_isDigit l g _ (lnget (M.2.1 0) (M.2.2.1 1)) rfl) lk_X9_45 ar_Tk_isDigit (As := [.int (lnget (M.2.1 0) (M.2.2.1 1))]) (rest := []) rfl (Nat.le_of_ble_eq_true rfl) ⟨Nat.le_of_ble_eq_true rfl, Nat.le_of_ble_eq_true rfl⟩ ⟨rfl, rfl⟩ ⟨Nat.zero_le _, Nat.zero_le _⟩ dX9_readNumber_32 ?_
      refine g_if_eq hx 35 82 dX9_readNumber_35 (by decide) (fun hc_1230 => ?_) (fun hc_1230 => ?_)
      · have hr := (if_pos hc_1230).symm.trans hr
        exact g_vret hx hR 82 dX9_readNumber_82 ⟨rfl, by rw [← Option.some.inj hr] <;> rfl⟩
      · have hr := (if_neg hc_1230).symm.trans hr
        refine g_aload_n hx 38 (i := 0) 0 dX9_readNumber_38 rfl rfl ?_
        refine g_ldci hx 39 dX9_readNumber_39 cn_X9_60 ?_
        refine g_aload_n hx 41 (i := 0) 0 dX9_readNumber_41 rfl rfl ?_
        refine g_get hx 42 (C := RX9) (T := TX9) (N := 6) 5 (.int (M.2.2.1 4)) (pW σ B ae M 8 (by decide)) rfl (by decide) rfl fl_X9_22 dX9_readNumber_42 ?_
        refine g_bipush hx 45 (10) dX9_readNumber_45 rfl ?_
        refine g_imul hx 47 dX9_readNumber_47 ?_
        refine g_aload_n hx 48 (i := 0) 0 dX9_readNumber_48 rfl rfl ?_
        refine g_get hx 49 (C := RX9) (T := TX9) (N := 6) 0 (.ref (B + 1)) (pW σ B ae M 8 (by decide)) rfl (by decide) rfl fl_X9_25 dX9_readNumber_49 ?_
        refine g_aload_n hx 52 (i := 0) 0 dX9_readNumber_52 rfl rfl ?_
        refine g_get hx 53 (C := RX9) (T := TX9) (N := 6) 2 (.int (M.2.2.1 1)) (pW σ B ae M 8 (by decide)) rfl (by decide) rfl fl_X9_13 dX9_readNumber_53 ?_
        refine g_callVr hx (k_get l g (pW_l0 σ B ae M) (by decide) (M.2.2.1 1)) lk_X9_29 ar_Ln_get (pW_l0 σ B ae M).1 (T := TX2) (N := 2) rfl (As := [.int (M.2.2.1 1)]) (rest := [.int ((M.2.2.1 4) * 10), .int 1000000, .ref (B + 8)]) rfl (Nat.le_of_ble_eq_true rfl) ⟨Nat.le_of_ble_eq_true rfl, Nat.le_of_ble_eq_true rfl⟩ ⟨rfl, rfl⟩ ⟨Nat.zero_le _, Nat.zero_le _⟩ dX9_readNumber_56 ?_
        refine g_iadd hx 59 dX9_readNumber_59 ?_
        refine g_bipush hx 60 (48) dX9_readNumber_60 rfl ?_
        refine g_isub hx 62 dX9_readNumber_62 ?_
        refine g_mmin hx 63 mw_X9_61 (Nat.le_of_ble_eq_true rfl) ⟨Nat.le_of_ble_eq_true rfl, Nat.le_of_ble_eq_true rfl⟩ ⟨Nat.zero_le _, Nat.zero_le _⟩ dX9_readNumber_63 ?_
        refine g_put hx 66 (C := RX9) (T := TX9) (N := 6) 5 .int _ (pW σ B ae M 8 (by decide)) rfl (by decide) fl_X9_22 rfl rfl rfl rfl (Nat.le_of_ble_eq_true rfl) rfl dX9_readNumber_66 ?_
        refine G.heap (pW_i4 σ B ae M (if (((M.2.2.1 4) * 10) + (lnget (M.2.1 0) (M.2.2.1 1))) - 48 < 1000000 then (((M.2.2.1 4) * 10) + (lnget (M.2.1 0) (M.2.2.1 1))) - 48 else 1000000)) ?_
        refine g_aload_n hx 69 (i := 0) 0 dX9_readNumber_69 rfl rfl ?_
        refine g_dup hx 70 dX9_readNumber_70 rfl ?_
        refine g_get hx 71 (C := RX9) (T := TX9) (N := 6) 2 (.int (M.2.2.1 1)) (pW σ B ae (setWI M 4 (if (((M.2.2.1 4) * 10) + (lnget (M.2.1 0) (M.2.2.1 1))) - 48 < 1000000 then (((M.2.2.1 4) * 10) + (lnget (M.2.1 0) (M.2.2.1 1))) - 48 else 1000000)) 8 (by decide)) rfl (by decide) rfl fl_X9_13 dX9_readNumber_71 ?_
        refine g_iconst hx 74 (1) dX9_readNumber_74 rfl ?_
        refine g_iadd hx 75 dX9_readNumber_75 ?_
        refine g_put hx 76 (C := RX9) (T := TX9) (N := 6) 2 .int _ (pW σ B ae (setWI M 4 (if (((M.2.2.1 4) * 10) + (lnget (M.2.1 0) (M.2.2.1 1))) - 48 < 1000000 then (((M.2.2.1 4) * 10) + (lnget (M.2.1 0) (M.2.2.1 1))) - 48 else 1000000)) 8 (by decide)) rfl (by decide) fl_X9_13 rfl rfl rfl rfl (Nat.le_of_ble_eq_true rfl) rfl dX9_readNumber_76 ?_
        refine G.heap (pW_i1 σ B ae (setWI M 4 (if (((M.2.2.1 4) * 10) + (lnget (M.2.1 0) (M.2.2.1 1))) - 48 < 1000000 then (((M.2.2.1 4) * 10) + (lnget (M.2.1 0) (M.2.2.1 1))) - 48 else 1000000)) ((M.2.2.1 1) + 1)) ?_
        refine g_goto hx 79 10 dX9_readNumber_79 (by decide) ?_
        refine g_ls [0] [(0, .ref (B + 8))] rfl ?_
        exact ih (setWI (setWI M 4 (if (((M.2.2.1 4) * 10) + (lnget (M.2.1 0) (M.2.2.1 1))) - 48 < 1000000 then (((M.2.2.1 4) * 10) + (lnget (M.2.1 0) (M.2.2.1 1))) - 48 else 1000000)) 1 ((M.2.2.1 1) + 1))  hr
set_option maxRecDepth 100000 in
set_option maxHeartbeats 4000000 in
theorem c_Tk_readNumber {ad ae : Nat → Nat} (l : Launch) (g : Gl) (hC : KAll g ad ae) (σ : Hp) (B : Nat) (M : WM) {r : WM} (hr : Tk_readNumber M = some r) : MG l g md_Tk_readNumber [.ref (B + 8)] (putW σ B ae M) (rs none (putW σ B ae r)) := by
  refine MG.intro (by decide +kernel) (Nat.le_of_ble_eq_true rfl) (fun X hx hR _ => ?_)
  unfold Tk_readNumber at hr
  refine g_ls [0] [(0, .ref (B + 8))] rfl ?_
  refine g_aload_n hx 0 (i := 0) 0 dX9_readNumber_0 rfl rfl ?_
  refine g_iconst hx 1 (2) dX9_readNumber_1 rfl ?_
  refine g_put hx 2 (C := RX9) (T := TX9) (N := 6) 4 .int _ (pW σ B ae M 8 (by decide)) rfl (by decide) fl_X9_19 rfl rfl rfl rfl (Nat.le_of_ble_eq_true rfl) rfl dX9_readNumber_2 ?_
  refine G.heap (pW_i3 σ B ae M 2) ?_
  refine g_aload_n hx 5 (i := 0) 0 dX9_readNumber_5 rfl rfl ?_
  refine g_iconst hx 6 (0) dX9_readNumber_6 rfl ?_
  refine g_put hx 7 (C := RX9) (T := TX9) (N := 6) 5 .int _ (pW σ B ae (setWI M 3 2) 8 (by decide)) rfl (by decide) fl_X9_22 rfl rfl rfl rfl (Nat.le_of_ble_eq_true rfl) rfl dX9_readNumber_7 ?_
  refine G.heap (pW_i4 σ B ae (setWI M 3 2) 0) ?_
  refine g_ls [0] [(0, .ref (B + 8))] rfl ?_
  exact w_Tk_readNumber_L10 hx hC hR FU (setWI (setWI M 3 2) 4 0)  hr
def Tk_next_L0 : Nat → WM → Option (WM)
  | 0, _ => none
  | n + 1, M => if M.2.2.1 0 ≤ M.2.2.1 1 then (if M.2.2.1 1 < M.2.2.1 0 then (lt' (lnget (M.2.1 0) (M.2.2.1 1)) fun v1_1233 => if Tk_isLetter v1_1233 = 0 then (if Tk_isDigit v1_1233 = 0 then (Option.bind (if v1_1233 = 59 then (some 3) else (some 4)) fun b_1237 => some (setWI (setWI (setWI M 2 (M.2.2.1 1)) 3 b_1237) 1 ((M.2.2.1 1) + 1))) else (Option.bind (Tk_readNumber (setWI M 2 (M.2.2.1 1))) fun M_1238 => some (M_1238))) else (Option.bind (Tk_readWord (setWI M 2 (M.2.2.1 1))) fun M_1239 => some (M_1239))) else (some (setWI (setWI M 2 (M.2.2.1 1)) 3 0))) else (if Tk_isBlank (lnget (M.2.1 0) (M.2.2.1 1)) = 0 then (if M.2.2.1 1 < M.2.2.1 0 then (lt' (lnget (M.2.1 0) (M.2.2.1 1)) fun v1_1242 => if Tk_isLetter v1_1242 = 0 then (if Tk_isDigit v1_1242 = 0 then (Option.bind (if v1_1242 = 59 then (some 3) else (some 4)) fun b_1246 => some (setWI (setWI (setWI M 2 (M.2.2.1 1)) 3 b_1246) 1 ((M.2.2.1 1) + 1))) else (Option.bind (Tk_readNumber (setWI M 2 (M.2.2.1 1))) fun M_1247 => some (M_1247))) else (Option.bind (Tk_readWord (setWI M 2 (M.2.2.1 1))) fun M_1248 => some (M_1248))) else (some (setWI (setWI M 2 (M.2.2.1 1)) 3 0))) else (Tk_next_L0 n (setWI M 1 ((M.2.2.1 1) + 1))))
def Tk_next (M : WM) : Option (WM) := Tk_next_L0 FU M
set_option maxRecDepth 100000 in
set_option maxHeartbeats 4000000 in
theorem w_Tk_next_L0 {ad ae : Nat → Nat} {X : Cx} {l : Launch} {g : Gl} (hx : Ok X l g RX9 cX9_next 2 md_Tk_next.rm) (hC : KAll g ad ae) {σ : Hp} {B : Nat} {r : WM} (hR : Ret X (rs none (putW σ B ae r)) 0 0 (none)) : ∀ (n : Nat) (M : WM), Tk_next_L0 n M = some r → G X (putW σ B ae M) 0 0 0 [(0, .ref (B + 8))] [] := by
  intro n
  induction n with
  | zero =>
    intro M hr
    rw [Tk_next_L0] at hr
    cases hr
  | succ n ih =>
    intro M hr
    rw [Tk_next_L0] at hr
    refine g_aload_n hx 0 (i := 0) 0 dX9_next_0 rfl rfl ?_
    refine g_get hx 1 (C := RX9) (T := TX9) (N := 6) 2 (.int (M.2.2.1 1)) (pW σ B ae M 8 (by decide)) rfl (by decide) rfl fl_X9_13 dX9_next_1 ?_
    refine g_aload_n hx 4 (i := 0) 0 dX9_next_4 rfl rfl ?_
    refine g_get hx 5 (C := RX9) (T := TX9) (N := 6) 1 (.int (M.2.2.1 0)) (pW σ B ae M 8 (by decide)) rfl (by decide) rfl fl_X9_7 dX9_next_5 ?_
    refine g_icmp_ge hx 8 41 dX9_next_8 (by decide) (fun hc_1231 => ?_) (fun hc_1231 => ?_)
    · have hr := (if_pos hc_1231).symm.trans hr
      refine g_aload_n hx 41 (i := 0) 0 dX9_next_41 rfl rfl ?_
      refine g_aload_n hx 42 (i := 0) 0 dX9_next_42 rfl rfl ?_
      refine g_get hx 43 (C := RX9) (T := TX9) (N := 6) 2 (.int (M.2.2.1 1)) (pW σ B ae M 8 (by decide)) rfl (by decide) rfl fl_X9_13 dX9_next_43 ?_
      refine g_put hx 46 (C := RX9) (T := TX9) (N := 6) 3 .int _ (pW σ B ae M 8 (by decide)) rfl (by decide) fl_X9_16 rfl rfl rfl rfl (Nat.le_of_ble_eq_true rfl) rfl dX9_next_46 ?_
      refine G.heap (pW_i2 σ B ae M (M.2.2.1 1)) ?_
      refine g_aload_n hx 49 (i := 0) 0 dX9_next_49 rfl rfl ?_
      refine g_get hx 50 (C := RX9) (T := TX9) (N := 6) 2 (.int (M.2.2.1 1)) (pW σ B ae (setWI M 2 (M.2.2.1 1)) 8 (by decide)) rfl (by decide) rfl fl_X9_13 dX9_next_50 ?_
      refine g_aload_n hx 53 (i := 0) 0 dX9_next_53 rfl rfl ?_
      refine g_get hx 54 (C := RX9) (T := TX9) (N := 6) 1 (.int (M.2.2.1 0)) (pW σ B ae (setWI M 2 (M.2.2.1 1)) 8 (by decide)) rfl (by decide) rfl fl_X9_7 dX9_next_54 ?_
      refine g_icmp_lt hx 57 66 dX9_next_57 (by decide) (fun hc_1232 => ?_) (fun hc_1232 => ?_)
      · have hr := (if_pos hc_1232).symm.trans hr
        refine g_aload_n hx 66 (i := 0) 0 dX9_next_66 rfl rfl ?_
        refine g_get hx 67 (C := RX9) (T := TX9) (N := 6) 0 (.ref (B + 1)) (pW σ B ae (setWI M 2 (M.2.2.1 1)) 8 (by decide)) rfl (by decide) rfl fl_X9_25 dX9_next_67 ?_
        refine g_aload_n hx 70 (i := 0) 0 dX9_next_70 rfl rfl ?_
        refine g_get hx 71 (C := RX9) (T := TX9) (N := 6) 2 (.int (M.2.2.1 1)) (pW σ B ae (setWI M 2 (M.2.2.1 1)) 8 (by decide)) rfl (by decide) rfl fl_X9_13 dX9_next_71 ?_
        refine g_callVr hx (k_get l g (pW_l0 σ B ae (setWI M 2 (M.2.2.1 1))) (by decide) (M.2.2.1 1)) lk_X9_29 ar_Ln_get (pW_l0 σ B ae (setWI M 2 (M.2.2.1 1))).1 (T := TX2) (N := 2) rfl (As := [.int (M.2.2.1 1)]) (rest := []) rfl (Nat.le_of_ble_eq_true rfl) ⟨Nat.le_of_ble_eq_true rfl, Nat.le_of_ble_eq_true rfl⟩ ⟨rfl, rfl⟩ ⟨Nat.zero_le _, Nat.zero_le _⟩ dX9_next_74 ?_
        obtain ⟨v1_1233, ev1_1233, hr⟩ := lt'_e hr
        refine g_nmi ev1_1233 ?_
        refine g_istore_n hx 77 (i := 1) [(1, .int v1_1233), (0, .ref (B + 8))] dX9_next_77 rfl (by decide) rfl ?_
        refine g_iload_n hx 78 (i := 1) 0 dX9_next_78 rfl rfl ?_
        refine g_callSr hx (c_Tk_isLetter l g _ v1_1233 rfl) lk_X9_39 ar_Tk_isLetter (As := [.int v1_1233]) (rest := []) rfl (Nat.le_of_ble_eq_true rfl) ⟨Nat.le_of_ble_eq_true rfl, Nat.le_of_ble_eq_true rfl⟩ ⟨rfl, rfl⟩ ⟨Nat.zero_le _, Nat.zero_le _⟩ dX9_next_79 ?_
        refine g_if_eq hx 82 92 dX9_next_82 (by decide) (fun hc_1234 => ?_) (fun hc_1234 => ?_)
        · have hr := (if_pos hc_1234).symm.trans hr
          refine g_iload_n hx 92 (i := 1) 0 dX9_next_92 rfl rfl ?_
          refine g_callSr hx (c_Tk_isDigit l g _ v1_1233 rfl) lk_X9_45 ar_Tk_isDigit (As := [.int v1_1233]) (rest := []) rfl (Nat.le_of_ble_eq_true rfl) ⟨Nat.le_of_ble_eq_true rfl, Nat.le_of_ble_eq_true rfl⟩ ⟨rfl, rfl⟩ ⟨Nat.zero_le _, Nat.zero_le _⟩ dX9_next_93 ?_
          refine g_if_eq hx 96 106 dX9_next_96 (by decide) (fun hc_1235 => ?_) (fun hc_1235 => ?_)
          · have hr := (if_pos hc_1235).symm.trans hr
            refine g_aload_n hx 106 (i := 0) 1 dX9_next_106 rfl rfl ?_
            refine g_iload_n hx 107 (i := 1) 0 dX9_next_107 rfl rfl ?_
            refine g_bipush hx 108 (59) dX9_next_108 rfl ?_
            obtain ⟨b_1237, eb_1237, hr⟩ := bind_e hr
            have rest : G X (putW σ B ae (setWI M 2 (M.2.2.1 1))) 0 0 118 [(1, .int v1_1233), (0, .ref (B + 8))] [.int b_1237, .ref (B + 8)] := by
              refine g_put hx 118 (C := RX9) (T := TX9) (N := 6) 4 .int _ (pW σ B ae (setWI M 2 (M.2.2.1 1)) 8 (by decide)) rfl (by decide) fl_X9_19 rfl rfl rfl rfl (Nat.le_of_ble_eq_true rfl) rfl dX9_next_118 ?_
              refine G.heap (pW_i3 σ B ae (setWI M 2 (M.2.2.1 1)) b_1237) ?_
              refine g_aload_n hx 121 (i := 0) 1 dX9_next_121 rfl rfl ?_
              refine g_dup hx 122 dX9_next_122 rfl ?_
              refine g_get hx 123 (C := RX9) (T := TX9) (N := 6) 2 (.int (M.2.2.1 1)) (pW σ B ae (setWI (setWI M 2 (M.2.2.1 1)) 3 b_1237) 8 (by decide)) rfl (by decide) rfl fl_X9_13 dX9_next_123 ?_
              refine g_iconst hx 126 (1) dX9_next_126 rfl ?_
              refine g_iadd hx 127 dX9_next_127 ?_
              refine g_put hx 128 (C := RX9) (T := TX9) (N := 6) 2 .int _ (pW σ B ae (setWI (setWI M 2 (M.2.2.1 1)) 3 b_1237) 8 (by decide)) rfl (by decide) fl_X9_13 rfl rfl rfl rfl (Nat.le_of_ble_eq_true rfl) rfl dX9_next_128 ?_
              refine G.heap (pW_i1 σ B ae (setWI (setWI M 2 (M.2.2.1 1)) 3 b_1237) ((M.2.2.1 1) + 1)) ?_
              exact g_vret hx hR 131 dX9_next_131 ⟨rfl, by rw [← Option.some.inj hr] <;> rfl⟩
            clear hr
            have hr := eb_1237
            refine g_icmp_ne hx 110 117 dX9_next_110 (by decide) (fun hc_1236 => ?_) (fun hc_1236 => ?_)
            · have hr := (if_neg hc_1236).symm.trans hr
              refine g_iconst hx 117 (4) dX9_next_117 rfl ?_
              exact g_nmi (Option.some.inj hr).symm rest
            · have hr := (if_pos hc_1236).symm.trans hr
              refine g_iconst hx 113 (3) dX9_next_113 rfl ?_
              refine g_goto hx 114 118 dX9_next_114 (by decide) ?_
              exact g_nmi (Option.some.inj hr).symm rest
          · have hr := (if_neg hc_1235).symm.trans hr
            refine g_aload_n hx 99 (i := 0) 1 dX9_next_99 rfl rfl ?_
            obtain ⟨M_1238, eM_1238, hr⟩ := bind_e hr
            refine g_callVv hx (c_Tk_readNumber l g hC σ B (setWI M 2 (M.2.2.1 1)) eM_1238) lk_X9_48 ar_Tk_readNumber (pW σ B ae (setWI M 2 (M.2.2.1 1)) 8 (by decide)) (T := TX9) (N := 6) rfl (As := []) (rest := []) rfl (Nat.le_of_ble_eq_true rfl) ⟨Nat.le_of_ble_eq_true rfl, Nat.le_of_ble_eq_true rfl⟩ ⟨rfl, rfl⟩ ⟨Nat.zero_le _, Nat.zero_le _⟩ dX9_next_100 ?_
            refine g_goto hx 103 131 dX9_next_103 (by decide) ?_
            exact g_vret hx hR 131 dX9_next_131 ⟨rfl, by rw [← Option.some.inj hr] <;> rfl⟩
        · have hr := (if_neg hc_1234).symm.trans hr
          refine g_aload_n hx 85 (i := 0) 1 dX9_next_85 rfl rfl ?_
          obtain ⟨M_1239, eM_1239, hr⟩ := bind_e hr
          refine g_callVv hx (c_Tk_readWord l g hC σ B (setWI M 2 (M.2.2.1 1)) eM_1239) lk_X9_42 ar_Tk_readWord (pW σ B ae (setWI M 2 (M.2.2.1 1)) 8 (by decide)) (T := TX9) (N := 6) rfl (As := []) (rest := []) rfl (Nat.le_of_ble_eq_true rfl) ⟨Nat.le_of_ble_eq_true rfl, Nat.le_of_ble_eq_true rfl⟩ ⟨rfl, rfl⟩ ⟨Nat.zero_le _, Nat.zero_le _⟩ dX9_next_86 ?_
          refine g_goto hx 89 131 dX9_next_89 (by decide) ?_
          exact g_vret hx hR 131 dX9_next_131 ⟨rfl, by rw [← Option.some.inj hr] <;> rfl⟩
      · have hr := (if_neg hc_1232).symm.trans hr
        refine g_aload_n hx 60 (i := 0) 0 dX9_next_60 rfl rfl ?_
        refine g_iconst hx 61 (0) dX9_next_61 rfl ?_
        refine g_put hx 62 (C := RX9) (T := TX9) (N := 6) 4 .int _ (pW σ B ae (setWI M 2 (M.2.2.1 1)) 8 (by decide)) rfl (by decide) fl_X9_19 rfl rfl rfl rfl (Nat.le_of_ble_eq_true rfl) rfl dX9_next_62 ?_
        refine G.heap (pW_i3 σ B ae (setWI M 2 (M.2.2.1 1)) 0) ?_
        exact g_vret hx hR 65 dX9_next_65 ⟨rfl, by rw [← Option.some.inj hr] <;> rfl⟩
    · have hr := (if_neg hc_1231).symm.trans hr
      refine g_aload_n hx 11 (i := 0) 0 dX9_next_11 rfl rfl ?_
      refine g_get hx 12 (C := RX9) (T := TX9) (N := 6) 0 (.ref (B + 1)) (pW σ B ae M 8 (by decide)) rfl (by decide) rfl fl_X9_25 dX9_next_12 ?_
      refine g_aload_n hx 15 (i := 0) 0 dX9_next_15 rfl rfl ?_
      refine g_get hx 16 (C := RX9) (T := TX9) (N := 6) 2 (.int (M.2.2.1 1)) (pW σ B ae M 8 (by decide)) rfl (by decide) rfl fl_X9_13 dX9_next_16 ?_
      refine g_callVr hx (k_get l g (pW_l0 σ B ae M) (by decide) (M.2.2.1 1)) lk_X9_29 ar_Ln_get (pW_l0 σ B ae M).1 (T := TX2) (N := 2) rfl (As := [.int (M.2.2.1 1)]) (rest := []) rfl (Nat.le_of_ble_eq_true rfl) ⟨Nat.le_of_ble_eq_true rfl, Nat.le_of_ble_eq_true rfl⟩ ⟨rfl, rfl⟩ ⟨Nat.zero_le _, Nat.zero_le _⟩ dX9_next_19 ?_
      refine g_callSr hx (c_Tk_isBlank l g _ (lnget (M.2.1 0) (M.2.2.1 1)) rfl) lk_X9_35 ar_Tk_isBlank (As := [.int (lnget (M.2.1 0) (M.2.2.1 1))]) (rest := []) rfl (Nat.le_of_ble_eq_true rfl) ⟨Nat.le_of_ble_eq_true rfl, Nat.le_of_ble_eq_true rfl⟩ ⟨rfl, rfl⟩ ⟨Nat.zero_le _, Nat.zero_le _⟩ dX9_next_22 ?_
      refine g_if_eq hx 25 41 dX9_next_25 (by decide) (fun hc_1240 => ?_) (fun hc_1240 => ?_)
      · have hr := (if_pos hc_1240).symm.trans hr
        refine g_aload_n hx 41 (i := 0) 0 dX9_next_41 rfl rfl ?_
        refine g_aload_n hx 42 (i := 0) 0 dX9_next_42 rfl rfl ?_
        refine g_get hx 43 (C := RX9) (T := TX9) (N := 6) 2 (.int (M.2.2.1 1)) (pW σ B ae M 8 (by decide)) rfl (by decide) rfl fl_X9_13 dX9_next_43 ?_
        refine g_put hx 46 (C := RX9) (T := TX9) (N := 6) 3 .int _ (pW σ B ae M 8 (by decide)) rfl (by decide) fl_X9_16 rfl rfl rfl rfl (Nat.le_of_ble_eq_true rfl) rfl dX9_next_46 ?_
        refine G.heap (pW_i2 σ B ae M (M.2.2.1 1)) ?_
        refine g_aload_n hx 49 (i := 0) 0 dX9_next_49 rfl rfl ?_
        refine g_get hx 50 (C := RX9) (T := TX9) (N := 6) 2 (.int (M.2.2.1 1)) (pW σ B ae (setWI M 2 (M.2.2.1 1)) 8 (by decide)) rfl (by decide) rfl fl_X9_13 dX9_next_50 ?_
        refine g_aload_n hx 53 (i := 0) 0 dX9_next_53 rfl rfl ?_
        refine g_get hx 54 (C := RX9) (T := TX9) (N := 6) 1 (.int (M.2.2.1 0)) (pW σ B ae (setWI M 2 (M.2.2.1 1)) 8 (by decide)) rfl (by decide) rfl fl_X9_7 dX9_next_54 ?_
        refine g_icmp_lt hx 57 66 dX9_next_57 (by decide) (fun hc_1241 => ?_) (fun hc_1241 => ?_)
        · have hr := (if_pos hc_1241).symm.trans hr
          refine g_aload_n hx 66 (i := 0) 0 dX9_next_66 rfl rfl ?_
          refine g_get hx 67 (C := RX9) (T := TX9) (N := 6) 0 (.ref (B + 1)) (pW σ B ae (setWI M 2 (M.2.2.1 1)) 8 (by decide)) rfl (by decide) rfl fl_X9_25 dX9_next_67 ?_
          refine g_aload_n hx 70 (i := 0) 0 dX9_next_70 rfl rfl ?_
          refine g_get hx 71 (C := RX9) (T := TX9) (N := 6) 2 (.int (M.2.2.1 1)) (pW σ B ae (setWI M 2 (M.2.2.1 1)) 8 (by decide)) rfl (by decide) rfl fl_X9_13 dX9_next_71 ?_
          refine g_callVr hx (k_get l g (pW_l0 σ B ae (setWI M 2 (M.2.2.1 1))) (by decide) (M.2.2.1 1)) lk_X9_29 ar_Ln_get (pW_l0 σ B ae (setWI M 2 (M.2.2.1 1))).1 (T := TX2) (N := 2) rfl (As := [.int (M.2.2.1 1)]) (rest := []) rfl (Nat.le_of_ble_eq_true rfl) ⟨Nat.le_of_ble_eq_true rfl, Nat.le_of_ble_eq_true rfl⟩ ⟨rfl, rfl⟩ ⟨Nat.zero_le _, Nat.zero_le _⟩ dX9_next_74 ?_
          obtain ⟨v1_1242, ev1_1242, hr⟩ := lt'_e hr
          refine g_nmi ev1_1242 ?_
          refine g_istore_n hx 77 (i := 1) [(1, .int v1_1242), (0, .ref (B + 8))] dX9_next_77 rfl (by decide) rfl ?_
          refine g_iload_n hx 78 (i := 1) 0 dX9_next_78 rfl rfl ?_
          refine g_callSr hx (c_Tk_isLetter l g _ v1_1242 rfl) lk_X9_39 ar_Tk_isLetter (As := [.int v1_1242]) (rest := []) rfl (Nat.le_of_ble_eq_true rfl) ⟨Nat.le_of_ble_eq_true rfl, Nat.le_of_ble_eq_true rfl⟩ ⟨rfl, rfl⟩ ⟨Nat.zero_le _, Nat.zero_le _⟩ dX9_next_79 ?_
          refine g_if_eq hx 82 92 dX9_next_82 (by decide) (fun hc_1243 => ?_) (fun hc_1243 => ?_)
          · have hr := (if_pos hc_1243).symm.trans hr
            refine g_iload_n hx 92 (i := 1) 0 dX9_next_92 rfl rfl ?_
            refine g_callSr hx (c_Tk_isDigit l g _ v1_1242 rfl) lk_X9_45 ar_Tk_isDigit (As := [.int v1_1242]) (rest := []) rfl (Nat.le_of_ble_eq_true rfl) ⟨Nat.le_of_ble_eq_true rfl, Nat.le_of_ble_eq_true rfl⟩ ⟨rfl, rfl⟩ ⟨Nat.zero_le _, Nat.zero_le _⟩ dX9_next_93 ?_
            refine g_if_eq hx 96 106 dX9_next_96 (by decide) (fun hc_1244 => ?_) (fun hc_1244 => ?_)
            · have hr := (if_pos hc_1244).symm.trans hr
              refine g_aload_n hx 106 (i := 0) 1 dX9_next_106 rfl rfl ?_
              refine g_iload_n hx 107 (i := 1) 0 dX9_next_107 rfl rfl ?_
              refine g_bipush hx 108 (59) dX9_next_108 rfl ?_
              obtain ⟨b_1246, eb_1246, hr⟩ := bind_e hr
              have rest : G X (putW σ B ae (setWI M 2 (M.2.2.1 1))) 0 0 118 [(1, .int v1_1242), (0, .ref (B + 8))] [.int b_1246, .ref (B + 8)] := by
                refine g_put hx 118 (C := RX9) (T := TX9) (N := 6) 4 .int _ (pW σ B ae (setWI M 2 (M.2.2.1 1)) 8 (by decide)) rfl (by decide) fl_X9_19 rfl rfl rfl rfl (Nat.le_of_ble_eq_true rfl) rfl dX9_next_118 ?_
                refine G.heap (pW_i3 σ B ae (setWI M 2 (M.2.2.1 1)) b_1246) ?_
                refine g_aload_n hx 121 (i := 0) 1 dX9_next_121 rfl rfl ?_
                refine g_dup hx 122 dX9_next_122 rfl ?_
                refine g_get hx 123 (C := RX9) (T := TX9) (N := 6) 2 (.int (M.2.2.1 1)) (pW σ B ae (setWI (setWI M 2 (M.2.2.1 1)) 3 b_1246) 8 (by decide)) rfl (by decide) rfl fl_X9_13 dX9_next_123 ?_
                refine g_iconst hx 126 (1) dX9_next_126 rfl ?_
                refine g_iadd hx 127 dX9_next_127 ?_
                refine g_put hx 128 (C := RX9) (T := TX9) (N := 6) 2 .int _ (pW σ B ae (setWI (setWI M 2 (M.2.2.1 1)) 3 b_1246) 8 (by decide)) rfl (by decide) fl_X9_13 rfl rfl rfl rfl (Nat.le_of_ble_eq_true rfl) rfl dX9_next_128 ?_
                refine G.heap (pW_i1 σ B ae (setWI (setWI M 2 (M.2.2.1 1)) 3 b_1246) ((M.2.2.1 1) + 1)) ?_
                exact g_vret hx hR 131 dX9_next_131 ⟨rfl, by rw [← Option.some.inj hr] <;> rfl⟩
              clear hr
              have hr := eb_1246
              refine g_icmp_ne hx 110 117 dX9_next_110 (by decide) (fun hc_1245 => ?_) (fun hc_1245 => ?_)
              · have hr := (if_neg hc_1245).symm.trans hr
                refine g_iconst hx 117 (4) dX9_next_117 rfl ?_
                exact g_nmi (Option.some.inj hr).symm rest
              · have hr := (if_pos hc_1245).symm.trans hr
                refine g_iconst hx 113 (3) dX9_next_113 rfl ?_
                refine g_goto hx 114 118 dX9_next_114 (by decide) ?_
                exact g_nmi (Option.some.inj hr).symm rest
            · have hr := (if_neg hc_1244).symm.trans hr
              refine g_aload_n hx 99 (i := 0) 1 dX9_next_99 rfl rfl ?_
              obtain ⟨M_1247, eM_1247, hr⟩ := bind_e hr
              refine g_callVv hx (c_Tk_readNumber l g hC σ B (setWI M 2 (M.2.2.1 1)) eM_1247) lk_X9_48 ar_Tk_readNumber (pW σ B ae (setWI M 2 (M.2.2.1 1)) 8 (by decide)) (T := TX9) (N := 6) rfl (As := []) (rest := []) rfl (Nat.le_of_ble_eq_true rfl) ⟨Nat.le_of_ble_eq_true rfl, Nat.le_of_ble_eq_true rfl⟩ ⟨rfl, rfl⟩ ⟨Nat.zero_le _, Nat.zero_le _⟩ dX9_next_100 ?_
              refine g_goto hx 103 131 dX9_next_103 (by decide) ?_
              exact g_vret hx hR 131 dX9_next_131 ⟨rfl, by rw [← Option.some.inj hr] <;> rfl⟩
          · have hr := (if_neg hc_1243).symm.trans hr
            refine g_aload_n hx 85 (i := 0) 1 dX9_next_85 rfl rfl ?_
            obtain ⟨M_1248, eM_1248, hr⟩ := bind_e hr
            refine g_callVv hx (c_Tk_readWord l g hC σ B (setWI M 2 (M.2.2.1 1)) eM_1248) lk_X9_42 ar_Tk_readWord (pW σ B ae (setWI M 2 (M.2.2.1 1)) 8 (by decide)) (T := TX9) (N := 6) rfl (As := []) (rest := []) rfl (Nat.le_of_ble_eq_true rfl) ⟨Nat.le_of_ble_eq_true rfl, Nat.le_of_ble_eq_true rfl⟩ ⟨rfl, rfl⟩ ⟨Nat.zero_le _, Nat.zero_le _⟩ dX9_next_86 ?_
            refine g_goto hx 89 131 dX9_next_89 (by decide) ?_
            exact g_vret hx hR 131 dX9_next_131 ⟨rfl, by rw [← Option.some.inj hr] <;> rfl⟩
        · have hr := (if_neg hc_1241).symm.trans hr
          refine g_aload_n hx 60 (i := 0) 0 dX9_next_60 rfl rfl ?_
          refine g_iconst hx 61 (0) dX9_next_61 rfl ?_
          refine g_put hx 62 (C := RX9) (T := TX9) (N := 6) 4 .int _ (pW σ B ae (setWI M 2 (M.2.2.1 1)) 8 (by decide)) rfl (by decide) fl_X9_19 rfl rfl rfl rfl (Nat.le_of_ble_eq_true rfl) rfl dX9_next_62 ?_
          refine G.heap (pW_i3 σ B ae (setWI M 2 (M.2.2.1 1)) 0) ?_
          exact g_vret hx hR 65 dX9_next_65 ⟨rfl, by rw [← Option.some.inj hr] <;> rfl⟩
      · have hr := (if_neg hc_1240).symm.trans hr
        refine g_aload_n hx 28 (i := 0) 0 dX9_next_28 rfl rfl ?_
        refine g_dup hx 29 dX9_next_29 rfl ?_
        refine g_get hx 30 (C := RX9) (T := TX9) (N := 6) 2 (.int (M.2.2.1 1)) (pW σ B ae M 8 (by decide)) rfl (by decide) rfl fl_X9_13 dX9_next_30 ?_
        refine g_iconst hx 33 (1) dX9_next_33 rfl ?_
        refine g_iadd hx 34 dX9_next_34 ?_
        refine g_put hx 35 (C := RX9) (T := TX9) (N := 6) 2 .int _ (pW σ B ae M 8 (by decide)) rfl (by decide) fl_X9_13 rfl rfl rfl rfl (Nat.le_of_ble_eq_true rfl) rfl dX9_next_35 ?_
        refine G.heap (pW_i1 σ B ae M ((M.2.2.1 1) + 1)) ?_
        refine g_goto hx 38 0 dX9_next_38 (by decide) ?_
        refine g_ls [0] [(0, .ref (B + 8))] rfl ?_
        exact ih (setWI M 1 ((M.2.2.1 1) + 1))  hr
set_option maxRecDepth 100000 in
set_option maxHeartbeats 4000000 in
theorem c_Tk_next {ad ae : Nat → Nat} (l : Launch) (g : Gl) (hC : KAll g ad ae) (σ : Hp) (B : Nat) (M : WM) {r : WM} (hr : Tk_next M = some r) : MG l g md_Tk_next [.ref (B + 8)] (putW σ B ae M) (rs none (putW σ B ae r)) := by
  refine MG.intro (by decide +kernel) (Nat.le_of_ble_eq_true rfl) (fun X hx hR _ => ?_)
  unfold Tk_next at hr
  refine g_ls [0] [(0, .ref (B + 8))] rfl ?_
  refine g_ls [0] [(0, .ref (B + 8))] rfl ?_
  exact w_Tk_next_L0 hx hC hR FU M  hr
def Tk_isWord_L28 (cs : List Int32) (M : WM) : Nat → Int32 → Option (Int32)
  | 0, _ => none
  | n + 1, v2_1251 => if nI cs.length ≤ v2_1251 then (some (1)) else (if inB v2_1251 cs.length then (if lnget (M.2.1 0) ((M.2.2.1 2) + v2_1251) = cs.getD v2_1251.toNatClampNeg 0 then (Tk_isWord_L28 cs M n (v2_1251 + 1)) else (some (0))) else none)
def Tk_isWord (cs : List Int32) (M : WM) : Option (Int32) := if M.2.2.1 3 = 1 then (if (M.2.2.1 1) - (M.2.2.1 2) = nI cs.length then (Tk_isWord_L28 cs M FU 0) else (some (0))) else (some (0))
set_option maxRecDepth 100000 in
set_option maxHeartbeats 4000000 in
theorem w_Tk_isWord_L28 {ad ae : Nat → Nat} {a1 : Nat} {cs : List Int32} {X : Cx} {l : Launch} {g : Gl} (hx : Ok X l g RX9 cX9_isWord 3 md_Tk_isWord.rm) (hC : KAll g ad ae) (hs : StrOK g a1 cs) {σ : Hp} {B : Nat} {M : WM} {r : Int32} (hR : Ret X (rs (some (.int r)) (putW σ B ae M)) 0 0 (some .boolean)) : ∀ (n : Nat) (v2_1251 : Int32), Tk_isWord_L28 cs M n v2_1251 = some r → G X (putW σ B ae M) 0 0 28 [(0, .ref (B + 8)), (1, .ref a1), (2, .int v2_1251)] [] := by
  intro n
  induction n with
  | zero =>
    intro v2_1251 hr
    rw [Tk_isWord_L28] at hr
    cases hr
  | succ n ih =>
    intro v2_1251 hr
    rw [Tk_isWord_L28] at hr
    refine g_iload_n hx 28 (i := 2) 2 dX9_isWord_28 rfl rfl ?_
    refine g_aload_n hx 29 (i := 1) 1 dX9_isWord_29 rfl rfl ?_
    refine g_callX hx (c_strlen l g _ hs) lk_X9_51 ar_J0_length (StrOK.obj hs) (As := []) (rest := [.int v2_1251]) rfl (Nat.le_of_ble_eq_true rfl) ⟨Nat.le_of_ble_eq_true rfl, Nat.le_of_ble_eq_true rfl⟩ ⟨rfl, rfl⟩ ⟨Nat.zero_le _, Nat.zero_le _⟩ dX9_isWord_30 ?_
    refine g_icmp_ge hx 33 65 dX9_isWord_33 (by decide) (fun hc_1252 => ?_) (fun hc_1252 => ?_)
    · have hr := (if_pos hc_1252).symm.trans hr
      refine g_iconst hx 65 (1) dX9_isWord_65 rfl ?_
      exact g_zret hx hR 66 (Or.inr rfl) dX9_isWord_66 ⟨by rw [← Option.some.inj hr] <;> rfl, rfl⟩
    · have hr := (if_neg hc_1252).symm.trans hr
      refine g_aload_n hx 36 (i := 0) 0 dX9_isWord_36 rfl rfl ?_
      refine g_get hx 37 (C := RX9) (T := TX9) (N := 6) 0 (.ref (B + 1)) (pW σ B ae M 8 (by decide)) rfl (by decide) rfl fl_X9_25 dX9_isWord_37 ?_
      refine g_aload_n hx 40 (i := 0) 0 dX9_isWord_40 rfl rfl ?_
      refine g_get hx 41 (C := RX9) (T := TX9) (N := 6) 3 (.int (M.2.2.1 2)) (pW σ B ae M 8 (by decide)) rfl (by decide) rfl fl_X9_16 dX9_isWord_41 ?_
      refine g_iload_n hx 44 (i := 2) 2 dX9_isWord_44 rfl rfl ?_
      refine g_iadd hx 45 dX9_isWord_45 ?_
      refine g_callVr hx (k_get l g (pW_l0 σ B ae M) (by decide) ((M.2.2.1 2) + v2_1251)) lk_X9_29 ar_Ln_get (pW_l0 σ B ae M).1 (T := TX2) (N := 2) rfl (As := [.int ((M.2.2.1 2) + v2_1251)]) (rest := []) rfl (Nat.le_of_ble_eq_true rfl) ⟨Nat.le_of_ble_eq_true rfl, Nat.le_of_ble_eq_true rfl⟩ ⟨rfl, rfl⟩ ⟨Nat.zero_le _, Nat.zero_le _⟩ dX9_isWord_46 ?_
      refine g_aload_n hx 49 (i := 1) 1 dX9_isWord_49 rfl rfl ?_
      refine g_iload_n hx 50 (i := 2) 2 dX9_isWord_50 rfl rfl ?_
      obtain ⟨hb_1253, hr⟩ := ob hr
      refine g_callX hx (c_strat l g _ hs v2_1251 hb_1253) lk_X9_56 ar_J0_charAt (StrOK.obj hs) (As := [.int v2_1251]) (rest := [.int (lnget (M.2.1 0) ((M.2.2.1 2) + v2_1251))]) rfl (Nat.le_of_ble_eq_true rfl) ⟨Nat.le_of_ble_eq_true rfl, Nat.le_of_ble_eq_true rfl⟩ ⟨rfl, rfl⟩ ⟨Nat.zero_le _, Nat.zero_le _⟩ dX9_isWord_51 ?_
      refine g_icmp_eq hx 54 59 dX9_isWord_54 (by decide) (fun hc_1254 => ?_) (fun hc_1254 => ?_)
      · have hr := (if_pos hc_1254).symm.trans hr
        refine g_iinc hx 59 (i := 2) 2 (v2_1251 + 1) [(2, .int (v2_1251 + 1)), (0, .ref (B + 8)), (1, .ref a1)] dX9_isWord_59 rfl rfl (by decide) rfl ?_
        refine g_goto hx 62 28 dX9_isWord_62 (by decide) ?_
        refine g_ls [1, 2, 0] [(0, .ref (B + 8)), (1, .ref a1), (2, .int (v2_1251 + 1))] rfl ?_
        exact ih (v2_1251 + 1) hr
      · have hr := (if_neg hc_1254).symm.trans hr
        refine g_iconst hx 57 (0) dX9_isWord_57 rfl ?_
        exact g_zret hx hR 58 (Or.inl rfl) dX9_isWord_58 ⟨by rw [← Option.some.inj hr] <;> rfl, rfl⟩
set_option maxRecDepth 100000 in
set_option maxHeartbeats 4000000 in
theorem c_Tk_isWord {ad ae : Nat → Nat} {a1 : Nat} {cs : List Int32} (l : Launch) (g : Gl) (hC : KAll g ad ae) (hs : StrOK g a1 cs) (σ : Hp) (B : Nat) (M : WM) {r : Int32} (hr : Tk_isWord cs M = some r) : MG l g md_Tk_isWord [.ref (B + 8), .ref a1] (putW σ B ae M) (rs (some (.int r)) (putW σ B ae M)) := by
  refine MG.intro (by decide +kernel) (Nat.le_of_ble_eq_true rfl) (fun X hx hR _ => ?_)
  unfold Tk_isWord at hr
  refine g_ls [0, 1] [(0, .ref (B + 8)), (1, .ref a1)] rfl ?_
  refine g_aload_n hx 0 (i := 0) 0 dX9_isWord_0 rfl rfl ?_
  refine g_get hx 1 (C := RX9) (T := TX9) (N := 6) 4 (.int (M.2.2.1 3)) (pW σ B ae M 8 (by decide)) rfl (by decide) rfl fl_X9_19 dX9_isWord_1 ?_
  refine g_iconst hx 4 (1) dX9_isWord_4 rfl ?_
  refine g_icmp_ne hx 5 24 dX9_isWord_5 (by decide) (fun hc_1249 => ?_) (fun hc_1249 => ?_)
  · have hr := (if_neg hc_1249).symm.trans hr
    refine g_iconst hx 24 (0) dX9_isWord_24 rfl ?_
    exact g_zret hx hR 25 (Or.inl rfl) dX9_isWord_25 ⟨by rw [← Option.some.inj hr] <;> rfl, rfl⟩
  · have hr := (if_pos hc_1249).symm.trans hr
    refine g_aload_n hx 8 (i := 0) 0 dX9_isWord_8 rfl rfl ?_
    refine g_get hx 9 (C := RX9) (T := TX9) (N := 6) 2 (.int (M.2.2.1 1)) (pW σ B ae M 8 (by decide)) rfl (by decide) rfl fl_X9_13 dX9_isWord_9 ?_
    refine g_aload_n hx 12 (i := 0) 0 dX9_isWord_12 rfl rfl ?_
    refine g_get hx 13 (C := RX9) (T := TX9) (N := 6) 3 (.int (M.2.2.1 2)) (pW σ B ae M 8 (by decide)) rfl (by decide) rfl fl_X9_16 dX9_isWord_13 ?_
    refine g_isub hx 16 dX9_isWord_16 ?_
    refine g_aload_n hx 17 (i := 1) 1 dX9_isWord_17 rfl rfl ?_
    refine g_callX hx (c_strlen l g _ hs) lk_X9_51 ar_J0_length (StrOK.obj hs) (As := []) (rest := [.int ((M.2.2.1 1) - (M.2.2.1 2))]) rfl (Nat.le_of_ble_eq_true rfl) ⟨Nat.le_of_ble_eq_true rfl, Nat.le_of_ble_eq_true rfl⟩ ⟨rfl, rfl⟩ ⟨Nat.zero_le _, Nat.zero_le _⟩ dX9_isWord_18 ?_
    refine g_icmp_eq hx 21 26 dX9_isWord_21 (by decide) (fun hc_1250 => ?_) (fun hc_1250 => ?_)
    · have hr := (if_pos hc_1250).symm.trans hr
      refine g_iconst hx 26 (0) dX9_isWord_26 rfl ?_
      refine g_istore_n hx 27 (i := 2) [(2, .int 0), (0, .ref (B + 8)), (1, .ref a1)] dX9_isWord_27 rfl (by decide) rfl ?_
      refine g_ls [1, 2, 0] [(0, .ref (B + 8)), (1, .ref a1), (2, .int 0)] rfl ?_
      exact w_Tk_isWord_L28 hx hC hs hR FU 0 hr
    · have hr := (if_neg hc_1250).symm.trans hr
      refine g_iconst hx 24 (0) dX9_isWord_24 rfl ?_
      exact g_zret hx hR 25 (Or.inl rfl) dX9_isWord_25 ⟨by rw [← Option.some.inj hr] <;> rfl, rfl⟩
def Tk_start (M : WM) : Int32 := M.2.2.1 2
set_option maxRecDepth 100000 in
set_option maxHeartbeats 4000000 in
theorem c_Tk_start {ad ae : Nat → Nat} (l : Launch) (g : Gl) (hC : KAll g ad ae) (σ : Hp) (B : Nat) (M : WM) {r : Int32} (hr : Tk_start M = r) : MG l g md_Tk_start [.ref (B + 8)] (putW σ B ae M) (rs (some (.int r)) (putW σ B ae M)) := by
  refine MG.intro (by decide +kernel) (Nat.le_of_ble_eq_true rfl) (fun X hx hR _ => ?_)
  unfold Tk_start at hr
  refine g_ls [0] [(0, .ref (B + 8))] rfl ?_
  refine g_aload_n hx 0 (i := 0) 0 dX9_start_0 rfl rfl ?_
  refine g_get hx 1 (C := RX9) (T := TX9) (N := 6) 3 (.int (M.2.2.1 2)) (pW σ B ae M 8 (by decide)) rfl (by decide) rfl fl_X9_16 dX9_start_1 ?_
  exact g_iret hx hR 4 dX9_start_4 ⟨by rw [← hr] <;> rfl, rfl⟩
def Ps_fail (M : WM) (p1 : Int32) : Int32 × WM := (0, setWI (setWI M 5 p1) 6 (Tk_start (setWI M 5 p1)))
set_option maxRecDepth 100000 in
set_option maxHeartbeats 4000000 in
theorem c_Ps_fail {ad ae : Nat → Nat} (l : Launch) (g : Gl) (hC : KAll g ad ae) (σ : Hp) (B : Nat) (M : WM) (p1 : Int32) {r : Int32 × WM} (hr : Ps_fail M p1 = r) : MG l g md_Ps_fail [.ref (B + 7), .int p1] (putW σ B ae M) (rs (some (.int r.1)) (putW σ B ae r.2)) := by
  refine MG.intro (by decide +kernel) (Nat.le_of_ble_eq_true rfl) (fun X hx hR _ => ?_)
  unfold Ps_fail at hr
  refine g_ls [0, 1] [(0, .ref (B + 7)), (1, .int p1)] rfl ?_
  refine g_aload_n hx 0 (i := 0) 0 dX4_fail_0 rfl rfl ?_
  refine g_iload_n hx 1 (i := 1) 1 dX4_fail_1 rfl rfl ?_
  refine g_put hx 2 (C := RX4) (T := TX4) (N := 3) 1 .int _ (pW σ B ae M 7 (by decide)) rfl (by decide) fl_X4_9 rfl rfl rfl rfl (Nat.le_of_ble_eq_true rfl) rfl dX4_fail_2 ?_
  refine G.heap (pW_i5 σ B ae M p1) ?_
  refine g_aload_n hx 5 (i := 0) 0 dX4_fail_5 rfl rfl ?_
  refine g_aload_n hx 6 (i := 0) 0 dX4_fail_6 rfl rfl ?_
  refine g_get hx 7 (C := RX4) (T := TX4) (N := 3) 0 (.ref (B + 8)) (pW σ B ae (setWI M 5 p1) 7 (by decide)) rfl (by decide) rfl fl_X4_23 dX4_fail_7 ?_
  refine g_callVr hx (c_Tk_start l g hC σ B (setWI M 5 p1) rfl) lk_X4_126 ar_Tk_start (pW σ B ae (setWI M 5 p1) 8 (by decide)) (T := TX9) (N := 6) rfl (As := []) (rest := [.ref (B + 7)]) rfl (Nat.le_of_ble_eq_true rfl) ⟨Nat.le_of_ble_eq_true rfl, Nat.le_of_ble_eq_true rfl⟩ ⟨rfl, rfl⟩ ⟨Nat.zero_le _, Nat.zero_le _⟩ dX4_fail_10 ?_
  refine g_put hx 13 (C := RX4) (T := TX4) (N := 3) 2 .int _ (pW σ B ae (setWI M 5 p1) 7 (by decide)) rfl (by decide) fl_X4_15 rfl rfl rfl rfl (Nat.le_of_ble_eq_true rfl) rfl dX4_fail_13 ?_
  refine G.heap (pW_i6 σ B ae (setWI M 5 p1) (Tk_start (setWI M 5 p1))) ?_
  refine g_iconst hx 16 (0) dX4_fail_16 rfl ?_
  exact g_zret hx hR 17 (Or.inl rfl) dX4_fail_17 ⟨by rw [← hr] <;> rfl, by rw [← hr] <;> rfl⟩
def Tk_kind (M : WM) : Int32 := M.2.2.1 3
set_option maxRecDepth 100000 in
set_option maxHeartbeats 4000000 in
theorem c_Tk_kind {ad ae : Nat → Nat} (l : Launch) (g : Gl) (hC : KAll g ad ae) (σ : Hp) (B : Nat) (M : WM) {r : Int32} (hr : Tk_kind M = r) : MG l g md_Tk_kind [.ref (B + 8)] (putW σ B ae M) (rs (some (.int r)) (putW σ B ae M)) := by
  refine MG.intro (by decide +kernel) (Nat.le_of_ble_eq_true rfl) (fun X hx hR _ => ?_)
  unfold Tk_kind at hr
  refine g_ls [0] [(0, .ref (B + 8))] rfl ?_
  refine g_aload_n hx 0 (i := 0) 0 dX9_kind_0 rfl rfl ?_
  refine g_get hx 1 (C := RX9) (T := TX9) (N := 6) 4 (.int (M.2.2.1 3)) (pW σ B ae M 8 (by decide)) rfl (by decide) rfl fl_X9_19 dX9_kind_1 ?_
  exact g_iret hx hR 4 dX9_kind_4 ⟨by rw [← hr] <;> rfl, rfl⟩
def Tk_value (M : WM) : Int32 := M.2.2.1 4
set_option maxRecDepth 100000 in
set_option maxHeartbeats 4000000 in
theorem c_Tk_value {ad ae : Nat → Nat} (l : Launch) (g : Gl) (hC : KAll g ad ae) (σ : Hp) (B : Nat) (M : WM) {r : Int32} (hr : Tk_value M = r) : MG l g md_Tk_value [.ref (B + 8)] (putW σ B ae M) (rs (some (.int r)) (putW σ B ae M)) := by
  refine MG.intro (by decide +kernel) (Nat.le_of_ble_eq_true rfl) (fun X hx hR _ => ?_)
  unfold Tk_value at hr
  refine g_ls [0] [(0, .ref (B + 8))] rfl ?_
  refine g_aload_n hx 0 (i := 0) 0 dX9_value_0 rfl rfl ?_
  refine g_get hx 1 (C := RX9) (T := TX9) (N := 6) 5 (.int (M.2.2.1 4)) (pW σ B ae M 8 (by decide)) rfl (by decide) rfl fl_X9_22 dX9_value_1 ?_
  exact g_iret hx hR 4 dX9_value_4 ⟨by rw [← hr] <;> rfl, rfl⟩
def Ps_readNumber (M : WM) (p1 p2 : Int32) : Option (Int32 × WM) := Option.bind (Tk_next M) fun M_1255 => if Tk_kind M_1255 = 2 then (if Tk_value M_1255 < p1 then (lt' (Ps_fail M_1255 2) fun q_1258 => if q_1258.1 = 0 ∨ q_1258.1 = 1 then (some ((q_1258.1, q_1258.2))) else none) else (if Tk_value M_1255 ≤ p2 then (some ((1, M_1255))) else (lt' (Ps_fail M_1255 2) fun q_1261 => if q_1261.1 = 0 ∨ q_1261.1 = 1 then (some ((q_1261.1, q_1261.2))) else none))) else (lt' (Ps_fail M_1255 1) fun q_1263 => if q_1263.1 = 0 ∨ q_1263.1 = 1 then (some ((q_1263.1, q_1263.2))) else none)
set_option maxRecDepth 100000 in
set_option maxHeartbeats 4000000 in
theorem c_Ps_readNumber {ad ae : Nat → Nat} (l : Launch) (g : Gl) (hC : KAll g ad ae) (σ : Hp) (B : Nat) (M : WM) (p1 p2 : Int32) {r : Int32 × WM} (hr : Ps_readNumber M p1 p2 = some r) : MG l g md_Ps_readNumber [.ref (B + 7), .int p1, .int p2] (putW σ B ae M) (rs (some (.int r.1)) (putW σ B ae r.2)) := by
  refine MG.intro (by decide +kernel) (Nat.le_of_ble_eq_true rfl) (fun X hx hR _ => ?_)
  unfold Ps_readNumber at hr
  refine g_ls [0, 1, 2] [(0, .ref (B + 7)), (1, .int p1), (2, .int p2)] rfl ?_
  refine g_aload_n hx 0 (i := 0) 0 dX4_readNumber_0 rfl rfl ?_
  refine g_get hx 1 (C := RX4) (T := TX4) (N := 3) 0 (.ref (B + 8)) (pW σ B ae M 7 (by decide)) rfl (by decide) rfl fl_X4_23 dX4_readNumber_1 ?_
  obtain ⟨M_1255, eM_1255, hr⟩ := bind_e hr
  refine g_callVv hx (c_Tk_next l g hC σ B M eM_1255) lk_X4_35 ar_Tk_next (pW σ B ae M 8 (by decide)) (T := TX9) (N := 6) rfl (As := []) (rest := []) rfl (Nat.le_of_ble_eq_true rfl) ⟨Nat.le_of_ble_eq_true rfl, Nat.le_of_ble_eq_true rfl⟩ ⟨rfl, rfl⟩ ⟨Nat.zero_le _, Nat.zero_le _⟩ dX4_readNumber_4 ?_
  refine g_aload_n hx 7 (i := 0) 0 dX4_readNumber_7 rfl rfl ?_
  refine g_get hx 8 (C := RX4) (T := TX4) (N := 3) 0 (.ref (B + 8)) (pW σ B ae M_1255 7 (by decide)) rfl (by decide) rfl fl_X4_23 dX4_readNumber_8 ?_
  refine g_callVr hx (c_Tk_kind l g hC σ B M_1255 rfl) lk_X4_38 ar_Tk_kind (pW σ B ae M_1255 8 (by decide)) (T := TX9) (N := 6) rfl (As := []) (rest := []) rfl (Nat.le_of_ble_eq_true rfl) ⟨Nat.le_of_ble_eq_true rfl, Nat.le_of_ble_eq_true rfl⟩ ⟨rfl, rfl⟩ ⟨Nat.zero_le _, Nat.zero_le _⟩ dX4_readNumber_11 ?_
  refine g_iconst hx 14 (2) dX4_readNumber_14 rfl ?_
  refine g_icmp_eq hx 15 24 dX4_readNumber_15 (by decide) (fun hc_1256 => ?_) (fun hc_1256 => ?_)
  · have hr := (if_pos hc_1256).symm.trans hr
    refine g_aload_n hx 24 (i := 0) 0 dX4_readNumber_24 rfl rfl ?_
    refine g_get hx 25 (C := RX4) (T := TX4) (N := 3) 0 (.ref (B + 8)) (pW σ B ae M_1255 7 (by decide)) rfl (by decide) rfl fl_X4_23 dX4_readNumber_25 ?_
    refine g_callVr hx (c_Tk_value l g hC σ B M_1255 rfl) lk_X4_75 ar_Tk_value (pW σ B ae M_1255 8 (by decide)) (T := TX9) (N := 6) rfl (As := []) (rest := []) rfl (Nat.le_of_ble_eq_true rfl) ⟨Nat.le_of_ble_eq_true rfl, Nat.le_of_ble_eq_true rfl⟩ ⟨rfl, rfl⟩ ⟨Nat.zero_le _, Nat.zero_le _⟩ dX4_readNumber_28 ?_
    refine g_iload_n hx 31 (i := 1) 1 dX4_readNumber_31 rfl rfl ?_
    refine g_icmp_lt hx 32 46 dX4_readNumber_32 (by decide) (fun hc_1257 => ?_) (fun hc_1257 => ?_)
    · have hr := (if_pos hc_1257).symm.trans hr
      refine g_aload_n hx 46 (i := 0) 0 dX4_readNumber_46 rfl rfl ?_
      refine g_iconst hx 47 (2) dX4_readNumber_47 rfl ?_
      obtain ⟨q_1258, eq_1258, hr⟩ := lt'_e hr
      refine g_callVr hx (c_Ps_fail l g hC σ B M_1255 2 eq_1258.symm) lk_X4_48 ar_Ps_fail (pW σ B ae M_1255 7 (by decide)) (T := TX4) (N := 3) rfl (As := [.int 2]) (rest := []) rfl (Nat.le_of_ble_eq_true rfl) ⟨Nat.le_of_ble_eq_true rfl, Nat.le_of_ble_eq_true rfl⟩ ⟨rfl, rfl⟩ ⟨Nat.zero_le _, Nat.zero_le _⟩ dX4_readNumber_48 ?_
      obtain ⟨hz_1259, hr⟩ := ob hr
      exact g_zret hx hR 51 hz_1259 dX4_readNumber_51 ⟨by rw [← Option.some.inj hr] <;> rfl, by rw [← Option.some.inj hr] <;> rfl⟩
    · have hr := (if_neg hc_1257).symm.trans hr
      refine g_aload_n hx 35 (i := 0) 0 dX4_readNumber_35 rfl rfl ?_
      refine g_get hx 36 (C := RX4) (T := TX4) (N := 3) 0 (.ref (B + 8)) (pW σ B ae M_1255 7 (by decide)) rfl (by decide) rfl fl_X4_23 dX4_readNumber_36 ?_
      refine g_callVr hx (c_Tk_value l g hC σ B M_1255 rfl) lk_X4_75 ar_Tk_value (pW σ B ae M_1255 8 (by decide)) (T := TX9) (N := 6) rfl (As := []) (rest := []) rfl (Nat.le_of_ble_eq_true rfl) ⟨Nat.le_of_ble_eq_true rfl, Nat.le_of_ble_eq_true rfl⟩ ⟨rfl, rfl⟩ ⟨Nat.zero_le _, Nat.zero_le _⟩ dX4_readNumber_39 ?_
      refine g_iload_n hx 42 (i := 2) 2 dX4_readNumber_42 rfl rfl ?_
      refine g_icmp_le hx 43 52 dX4_readNumber_43 (by decide) (fun hc_1260 => ?_) (fun hc_1260 => ?_)
      · have hr := (if_pos hc_1260).symm.trans hr
        refine g_iconst hx 52 (1) dX4_readNumber_52 rfl ?_
        exact g_zret hx hR 53 (Or.inr rfl) dX4_readNumber_53 ⟨by rw [← Option.some.inj hr] <;> rfl, by rw [← Option.some.inj hr] <;> rfl⟩
      · have hr := (if_neg hc_1260).symm.trans hr
        refine g_aload_n hx 46 (i := 0) 0 dX4_readNumber_46 rfl rfl ?_
        refine g_iconst hx 47 (2) dX4_readNumber_47 rfl ?_
        obtain ⟨q_1261, eq_1261, hr⟩ := lt'_e hr
        refine g_callVr hx (c_Ps_fail l g hC σ B M_1255 2 eq_1261.symm) lk_X4_48 ar_Ps_fail (pW σ B ae M_1255 7 (by decide)) (T := TX4) (N := 3) rfl (As := [.int 2]) (rest := []) rfl (Nat.le_of_ble_eq_true rfl) ⟨Nat.le_of_ble_eq_true rfl, Nat.le_of_ble_eq_true rfl⟩ ⟨rfl, rfl⟩ ⟨Nat.zero_le _, Nat.zero_le _⟩ dX4_readNumber_48 ?_
        obtain ⟨hz_1262, hr⟩ := ob hr
        exact g_zret hx hR 51 hz_1262 dX4_readNumber_51 ⟨by rw [← Option.some.inj hr] <;> rfl, by rw [← Option.some.inj hr] <;> rfl⟩
  · have hr := (if_neg hc_1256).symm.trans hr
    refine g_aload_n hx 18 (i := 0) 0 dX4_readNumber_18 rfl rfl ?_
    refine g_iconst hx 19 (1) dX4_readNumber_19 rfl ?_
    obtain ⟨q_1263, eq_1263, hr⟩ := lt'_e hr
    refine g_callVr hx (c_Ps_fail l g hC σ B M_1255 1 eq_1263.symm) lk_X4_48 ar_Ps_fail (pW σ B ae M_1255 7 (by decide)) (T := TX4) (N := 3) rfl (As := [.int 1]) (rest := []) rfl (Nat.le_of_ble_eq_true rfl) ⟨Nat.le_of_ble_eq_true rfl, Nat.le_of_ble_eq_true rfl⟩ ⟨rfl, rfl⟩ ⟨Nat.zero_le _, Nat.zero_le _⟩ dX4_readNumber_20 ?_
    obtain ⟨hz_1264, hr⟩ := ob hr
    exact g_zret hx hR 23 hz_1264 dX4_readNumber_23 ⟨by rw [← Option.some.inj hr] <;> rfl, by rw [← Option.some.inj hr] <;> rfl⟩
def Ps_isEnded (M : WM) : Option (Int32 × WM) := if Tk_kind M = 3 then (some ((1, M))) else (lt' (Ps_fail M 1) fun q_1266 => Option.bind (if q_1266.1 = 0 then (some 0) else (some 1)) fun b_1268 => if b_1268 = 0 ∨ b_1268 = 1 then (some ((b_1268, q_1266.2))) else none)
set_option maxRecDepth 100000 in
set_option maxHeartbeats 4000000 in
theorem c_Ps_isEnded {ad ae : Nat → Nat} (l : Launch) (g : Gl) (hC : KAll g ad ae) (σ : Hp) (B : Nat) (M : WM) {r : Int32 × WM} (hr : Ps_isEnded M = some r) : MG l g md_Ps_isEnded [.ref (B + 7)] (putW σ B ae M) (rs (some (.int r.1)) (putW σ B ae r.2)) := by
  refine MG.intro (by decide +kernel) (Nat.le_of_ble_eq_true rfl) (fun X hx hR _ => ?_)
  unfold Ps_isEnded at hr
  refine g_ls [0] [(0, .ref (B + 7))] rfl ?_
  refine g_aload_n hx 0 (i := 0) 0 dX4_isEnded_0 rfl rfl ?_
  refine g_get hx 1 (C := RX4) (T := TX4) (N := 3) 0 (.ref (B + 8)) (pW σ B ae M 7 (by decide)) rfl (by decide) rfl fl_X4_23 dX4_isEnded_1 ?_
  refine g_callVr hx (c_Tk_kind l g hC σ B M rfl) lk_X4_38 ar_Tk_kind (pW σ B ae M 8 (by decide)) (T := TX9) (N := 6) rfl (As := []) (rest := []) rfl (Nat.le_of_ble_eq_true rfl) ⟨Nat.le_of_ble_eq_true rfl, Nat.le_of_ble_eq_true rfl⟩ ⟨rfl, rfl⟩ ⟨Nat.zero_le _, Nat.zero_le _⟩ dX4_isEnded_4 ?_
  refine g_iconst hx 7 (3) dX4_isEnded_7 rfl ?_
  refine g_icmp_eq hx 8 19 dX4_isEnded_8 (by decide) (fun hc_1265 => ?_) (fun hc_1265 => ?_)
  · have hr := (if_pos hc_1265).symm.trans hr
    refine g_iconst hx 19 (1) dX4_isEnded_19 rfl ?_
    refine g_goto hx 20 24 dX4_isEnded_20 (by decide) ?_
    exact g_zret hx hR 24 (Or.inr rfl) dX4_isEnded_24 ⟨by rw [← Option.some.inj hr] <;> rfl, by rw [← Option.some.inj hr] <;> rfl⟩
  · have hr := (if_neg hc_1265).symm.trans hr
    refine g_aload_n hx 11 (i := 0) 0 dX4_isEnded_11 rfl rfl ?_
    refine g_iconst hx 12 (1) dX4_isEnded_12 rfl ?_
    obtain ⟨q_1266, eq_1266, hr⟩ := lt'_e hr
    refine g_callVr hx (c_Ps_fail l g hC σ B M 1 eq_1266.symm) lk_X4_48 ar_Ps_fail (pW σ B ae M 7 (by decide)) (T := TX4) (N := 3) rfl (As := [.int 1]) (rest := []) rfl (Nat.le_of_ble_eq_true rfl) ⟨Nat.le_of_ble_eq_true rfl, Nat.le_of_ble_eq_true rfl⟩ ⟨rfl, rfl⟩ ⟨Nat.zero_le _, Nat.zero_le _⟩ dX4_isEnded_13 ?_
    obtain ⟨b_1268, eb_1268, hr⟩ := bind_e hr
    have rest : G X (putW σ B ae q_1266.2) 0 0 24 [(0, .ref (B + 7))] [.int b_1268] := by
      obtain ⟨hz_1269, hr⟩ := ob hr
      exact g_zret hx hR 24 hz_1269 dX4_isEnded_24 ⟨by rw [← Option.some.inj hr] <;> rfl, by rw [← Option.some.inj hr] <;> rfl⟩
    clear hr
    have hr := eb_1268
    refine g_if_eq hx 16 23 dX4_isEnded_16 (by decide) (fun hc_1267 => ?_) (fun hc_1267 => ?_)
    · have hr := (if_pos hc_1267).symm.trans hr
      refine g_iconst hx 23 (0) dX4_isEnded_23 rfl ?_
      exact g_nmi (Option.some.inj hr).symm rest
    · have hr := (if_neg hc_1267).symm.trans hr
      refine g_iconst hx 19 (1) dX4_isEnded_19 rfl ?_
      refine g_goto hx 20 24 dX4_isEnded_20 (by decide) ?_
      exact g_nmi (Option.some.inj hr).symm rest
def Ps_readHead (M : WM) : Option (Int32 × WM) := Option.bind (Tk_next M) fun M_1270 => Option.bind (Tk_isWord (sx 0) M_1270) fun q_1271 => if q_1271 = 0 then (lt' (Ps_fail M_1270 1) fun q_1273 => if q_1273.1 = 0 ∨ q_1273.1 = 1 then (some ((q_1273.1, q_1273.2))) else none) else (Option.bind (Ps_readNumber M_1270 1 14) fun q_1275 => if q_1275.1 = 0 then (some ((0, q_1275.2))) else (lt' (Tk_value q_1275.2) fun v2_1277 => Option.bind (Ps_readNumber q_1275.2 1 6) fun q_1278 => if q_1278.1 = 0 then (some ((0, q_1278.2))) else (lt' (Tk_value q_1278.2) fun v3_1280 => Option.bind (Ps_readNumber q_1278.2 1 8) fun q_1281 => if q_1281.1 = 0 then (some ((0, q_1281.2))) else (lt' (Tk_value q_1281.2) fun v4_1283 => Option.bind (Ps_readNumber q_1281.2 1 5) fun q_1284 => if q_1284.1 = 0 then (some ((0, q_1284.2))) else (Option.bind (St_begin (q_1284.2.1 10) v2_1277 v3_1280 v4_1283 (Tk_value q_1284.2)) fun M_1286 => Option.bind (Tk_next (setS q_1284.2 10 M_1286)) fun M_1287 => Option.bind (Ps_isEnded M_1287) fun q_1288 => if q_1288.1 = 0 ∨ q_1288.1 = 1 then (some ((q_1288.1, q_1288.2))) else none)))))
set_option maxRecDepth 100000 in
set_option maxHeartbeats 4000000 in
theorem c_Ps_readHead {ad ae : Nat → Nat} (l : Launch) (g : Gl) (hC : KAll g ad ae) (σ : Hp) (B : Nat) (M : WM) {r : Int32 × WM} (hr : Ps_readHead M = some r) : MG l g md_Ps_readHead [.ref (B + 7), .ref (B + 367)] (putW σ B ae M) (rs (some (.int r.1)) (putW σ B ae r.2)) := by
  refine MG.intro (by decide +kernel) (Nat.le_of_ble_eq_true rfl) (fun X hx hR _ => ?_)
  unfold Ps_readHead at hr
  refine g_ls [0, 1] [(0, .ref (B + 7)), (1, .ref (B + 367))] rfl ?_
  refine g_aload_n hx 0 (i := 0) 0 dX4_readHead_0 rfl rfl ?_
  refine g_get hx 1 (C := RX4) (T := TX4) (N := 3) 0 (.ref (B + 8)) (pW σ B ae M 7 (by decide)) rfl (by decide) rfl fl_X4_23 dX4_readHead_1 ?_
  obtain ⟨M_1270, eM_1270, hr⟩ := bind_e hr
  refine g_callVv hx (c_Tk_next l g hC σ B M eM_1270) lk_X4_35 ar_Tk_next (pW σ B ae M 8 (by decide)) (T := TX9) (N := 6) rfl (As := []) (rest := []) rfl (Nat.le_of_ble_eq_true rfl) ⟨Nat.le_of_ble_eq_true rfl, Nat.le_of_ble_eq_true rfl⟩ ⟨rfl, rfl⟩ ⟨Nat.zero_le _, Nat.zero_le _⟩ dX4_readHead_4 ?_
  refine g_aload_n hx 7 (i := 0) 0 dX4_readHead_7 rfl rfl ?_
  refine g_get hx 8 (C := RX4) (T := TX4) (N := 3) 0 (.ref (B + 8)) (pW σ B ae M_1270 7 (by decide)) rfl (by decide) rfl fl_X4_23 dX4_readHead_8 ?_
  refine g_ldcS hx 11 (hC.1.2.2 _ (List.mem_of_getElem? (i := 25) rfl)) dX4_readHead_11 ?_
  obtain ⟨q_1271, eq_1271, hr⟩ := bind_e hr
  refine g_callVr hx (c_Tk_isWord l g hC (hC.1.ok 0 (by decide)) σ B M_1270 eq_1271) lk_X4_44 ar_Tk_isWord (pW σ B ae M_1270 8 (by decide)) (T := TX9) (N := 6) rfl (As := [.ref (ad 0)]) (rest := []) rfl (Nat.le_of_ble_eq_true rfl) ⟨Nat.le_of_ble_eq_true rfl, Nat.le_of_ble_eq_true rfl⟩ ⟨rfl, rfl⟩ ⟨Nat.zero_le _, Nat.zero_le _⟩ dX4_readHead_13 ?_
  refine g_if_ne hx 16 25 dX4_readHead_16 (by decide) (fun hc_1272 => ?_) (fun hc_1272 => ?_)
  · have hr := (if_neg hc_1272).symm.trans hr
    refine g_aload_n hx 25 (i := 0) 0 dX4_readHead_25 rfl rfl ?_
    refine g_iconst hx 26 (1) dX4_readHead_26 rfl ?_
    refine g_bipush hx 27 (14) dX4_readHead_27 rfl ?_
    obtain ⟨q_1275, eq_1275, hr⟩ := bind_e hr
    refine g_callVr hx (c_Ps_readNumber l g hC σ B M_1270 1 14 eq_1275) lk_X4_71 ar_Ps_readNumber (pW σ B ae M_1270 7 (by decide)) (T := TX4) (N := 3) rfl (As := [.int 1, .int 14]) (rest := []) rfl (Nat.le_of_ble_eq_true rfl) ⟨Nat.le_of_ble_eq_true rfl, Nat.le_of_ble_eq_true rfl⟩ ⟨rfl, rfl⟩ ⟨Nat.zero_le _, Nat.zero_le _⟩ dX4_readHead_29 ?_
    refine g_if_ne hx 32 37 dX4_readHead_32 (by decide) (fun hc_1276 => ?_) (fun hc_1276 => ?_)
    · have hr := (if_neg hc_1276).symm.trans hr
      refine g_aload_n hx 37 (i := 0) 0 dX4_readHead_37 rfl rfl ?_
      refine g_get hx 38 (C := RX4) (T := TX4) (N := 3) 0 (.ref (B + 8)) (pW σ B ae q_1275.2 7 (by decide)) rfl (by decide) rfl fl_X4_23 dX4_readHead_38 ?_
      refine g_callVr hx (c_Tk_value l g hC σ B q_1275.2 rfl) lk_X4_75 ar_Tk_value (pW σ B ae q_1275.2 8 (by decide)) (T := TX9) (N := 6) rfl (As := []) (rest := []) rfl (Nat.le_of_ble_eq_true rfl) ⟨Nat.le_of_ble_eq_true rfl, Nat.le_of_ble_eq_true rfl⟩ ⟨rfl, rfl⟩ ⟨Nat.zero_le _, Nat.zero_le _⟩ dX4_readHead_41 ?_
      obtain ⟨v2_1277, ev2_1277, hr⟩ := lt'_e hr
      refine g_nmi ev2_1277 ?_
      refine g_istore_n hx 44 (i := 2) [(2, .int v2_1277), (0, .ref (B + 7)), (1, .ref (B + 367))] dX4_readHead_44 rfl (by decide) rfl ?_
      refine g_aload_n hx 45 (i := 0) 1 dX4_readHead_45 rfl rfl ?_
      refine g_iconst hx 46 (1) dX4_readHead_46 rfl ?_
      refine g_bipush hx 47 (6) dX4_readHead_47 rfl ?_
      obtain ⟨q_1278, eq_1278, hr⟩ := bind_e hr
      refine g_callVr hx (c_Ps_readNumber l g hC σ B q_1275.2 1 6 eq_1278) lk_X4_71 ar_Ps_readNumber (pW σ B ae q_1275.2 7 (by decide)) (T := TX4) (N := 3) rfl (As := [.int 1, .int 6]) (rest := []) rfl (Nat.le_of_ble_eq_true rfl) ⟨Nat.le_of_ble_eq_true rfl, Nat.le_of_ble_eq_true rfl⟩ ⟨rfl, rfl⟩ ⟨Nat.zero_le _, Nat.zero_le _⟩ dX4_readHead_49 ?_
      refine g_if_ne hx 52 57 dX4_readHead_52 (by decide) (fun hc_1279 => ?_) (fun hc_1279 => ?_)
      · have hr := (if_neg hc_1279).symm.trans hr
        refine g_aload_n hx 57 (i := 0) 1 dX4_readHead_57 rfl rfl ?_
        refine g_get hx 58 (C := RX4) (T := TX4) (N := 3) 0 (.ref (B + 8)) (pW σ B ae q_1278.2 7 (by decide)) rfl (by decide) rfl fl_X4_23 dX4_readHead_58 ?_
        refine g_callVr hx (c_Tk_value l g hC σ B q_1278.2 rfl) lk_X4_75 ar_Tk_value (pW σ B ae q_1278.2 8 (by decide)) (T := TX9) (N := 6) rfl (As := []) (rest := []) rfl (Nat.le_of_ble_eq_true rfl) ⟨Nat.le_of_ble_eq_true rfl, Nat.le_of_ble_eq_true rfl⟩ ⟨rfl, rfl⟩ ⟨Nat.zero_le _, Nat.zero_le _⟩ dX4_readHead_61 ?_
        obtain ⟨v3_1280, ev3_1280, hr⟩ := lt'_e hr
        refine g_nmi ev3_1280 ?_
        refine g_istore_n hx 64 (i := 3) [(3, .int v3_1280), (2, .int v2_1277), (0, .ref (B + 7)), (1, .ref (B + 367))] dX4_readHead_64 rfl (by decide) rfl ?_
        refine g_aload_n hx 65 (i := 0) 2 dX4_readHead_65 rfl rfl ?_
        refine g_iconst hx 66 (1) dX4_readHead_66 rfl ?_
        refine g_bipush hx 67 (8) dX4_readHead_67 rfl ?_
        obtain ⟨q_1281, eq_1281, hr⟩ := bind_e hr
        refine g_callVr hx (c_Ps_readNumber l g hC σ B q_1278.2 1 8 eq_1281) lk_X4_71 ar_Ps_readNumber (pW σ B ae q_1278.2 7 (by decide)) (T := TX4) (N := 3) rfl (As := [.int 1, .int 8]) (rest := []) rfl (Nat.le_of_ble_eq_true rfl) ⟨Nat.le_of_ble_eq_true rfl, Nat.le_of_ble_eq_true rfl⟩ ⟨rfl, rfl⟩ ⟨Nat.zero_le _, Nat.zero_le _⟩ dX4_readHead_69 ?_
        refine g_if_ne hx 72 77 dX4_readHead_72 (by decide) (fun hc_1282 => ?_) (fun hc_1282 => ?_)
        · have hr := (if_neg hc_1282).symm.trans hr
          refine g_aload_n hx 77 (i := 0) 2 dX4_readHead_77 rfl rfl ?_
          refine g_get hx 78 (C := RX4) (T := TX4) (N := 3) 0 (.ref (B + 8)) (pW σ B ae q_1281.2 7 (by decide)) rfl (by decide) rfl fl_X4_23 dX4_readHead_78 ?_
          refine g_callVr hx (c_Tk_value l g hC σ B q_1281.2 rfl) lk_X4_75 ar_Tk_value (pW σ B ae q_1281.2 8 (by decide)) (T := TX9) (N := 6) rfl (As := []) (rest := []) rfl (Nat.le_of_ble_eq_true rfl) ⟨Nat.le_of_ble_eq_true rfl, Nat.le_of_ble_eq_true rfl⟩ ⟨rfl, rfl⟩ ⟨Nat.zero_le _, Nat.zero_le _⟩ dX4_readHead_81 ?_
          obtain ⟨v4_1283, ev4_1283, hr⟩ := lt'_e hr
          refine g_nmi ev4_1283 ?_
          refine g_istore hx 84 (i := 4) [(4, .int v4_1283), (3, .int v3_1280), (2, .int v2_1277), (0, .ref (B + 7)), (1, .ref (B + 367))] dX4_readHead_84 (by decide) rfl ?_
          refine g_aload_n hx 86 (i := 0) 3 dX4_readHead_86 rfl rfl ?_
          refine g_iconst hx 87 (1) dX4_readHead_87 rfl ?_
          refine g_iconst hx 88 (5) dX4_readHead_88 rfl ?_
          obtain ⟨q_1284, eq_1284, hr⟩ := bind_e hr
          refine g_callVr hx (c_Ps_readNumber l g hC σ B q_1281.2 1 5 eq_1284) lk_X4_71 ar_Ps_readNumber (pW σ B ae q_1281.2 7 (by decide)) (T := TX4) (N := 3) rfl (As := [.int 1, .int 5]) (rest := []) rfl (Nat.le_of_ble_eq_true rfl) ⟨Nat.le_of_ble_eq_true rfl, Nat.le_of_ble_eq_true rfl⟩ ⟨rfl, rfl⟩ ⟨Nat.zero_le _, Nat.zero_le _⟩ dX4_readHead_89 ?_
          refine g_if_ne hx 92 97 dX4_readHead_92 (by decide) (fun hc_1285 => ?_) (fun hc_1285 => ?_)
          · have hr := (if_neg hc_1285).symm.trans hr
            refine g_aload_n hx 97 (i := 1) 4 dX4_readHead_97 rfl rfl ?_
            refine g_iload_n hx 98 (i := 2) 2 dX4_readHead_98 rfl rfl ?_
            refine g_iload_n hx 99 (i := 3) 1 dX4_readHead_99 rfl rfl ?_
            refine g_iload hx 100 (i := 4) 0 dX4_readHead_100 rfl ?_
            refine g_aload_n hx 102 (i := 0) 3 dX4_readHead_102 rfl rfl ?_
            refine g_get hx 103 (C := RX4) (T := TX4) (N := 3) 0 (.ref (B + 8)) (pW σ B ae q_1284.2 7 (by decide)) rfl (by decide) rfl fl_X4_23 dX4_readHead_103 ?_
            refine g_callVr hx (c_Tk_value l g hC σ B q_1284.2 rfl) lk_X4_75 ar_Tk_value (pW σ B ae q_1284.2 8 (by decide)) (T := TX9) (N := 6) rfl (As := []) (rest := [.int v4_1283, .int v3_1280, .int v2_1277, .ref (B + 367)]) rfl (Nat.le_of_ble_eq_true rfl) ⟨Nat.le_of_ble_eq_true rfl, Nat.le_of_ble_eq_true rfl⟩ ⟨rfl, rfl⟩ ⟨Nat.zero_le _, Nat.zero_le _⟩ dX4_readHead_106 ?_
            obtain ⟨M_1286, eM_1286, hr⟩ := bind_e hr
            refine g_callVv hx (MG.at10 (w := q_1284.2) (c_St_begin l g (putW σ B ae q_1284.2) (B + 367) (q_1284.2.1 10) v2_1277 v3_1280 v4_1283 (Tk_value q_1284.2) eM_1286)) lk_X4_78 ar_St_begin (pW_st10 σ B ae q_1284.2 0 (by decide)) (T := TX8) (N := 15) rfl (As := [.int v2_1277, .int v3_1280, .int v4_1283, .int (Tk_value q_1284.2)]) (rest := []) rfl (Nat.le_of_ble_eq_true rfl) ⟨Nat.le_of_ble_eq_true rfl, Nat.le_of_ble_eq_true rfl⟩ ⟨rfl, rfl⟩ ⟨Nat.zero_le _, Nat.zero_le _⟩ dX4_readHead_109 ?_
            refine g_aload_n hx 112 (i := 0) 3 dX4_readHead_112 rfl rfl ?_
            refine g_get hx 113 (C := RX4) (T := TX4) (N := 3) 0 (.ref (B + 8)) (pW σ B ae (setS q_1284.2 10 M_1286) 7 (by decide)) rfl (by decide) rfl fl_X4_23 dX4_readHead_113 ?_
            obtain ⟨M_1287, eM_1287, hr⟩ := bind_e hr
            refine g_callVv hx (c_Tk_next l g hC σ B (setS q_1284.2 10 M_1286) eM_1287) lk_X4_35 ar_Tk_next (pW σ B ae (setS q_1284.2 10 M_1286) 8 (by decide)) (T := TX9) (N := 6) rfl (As := []) (rest := []) rfl (Nat.le_of_ble_eq_true rfl) ⟨Nat.le_of_ble_eq_true rfl, Nat.le_of_ble_eq_true rfl⟩ ⟨rfl, rfl⟩ ⟨Nat.zero_le _, Nat.zero_le _⟩ dX4_readHead_116 ?_
            refine g_aload_n hx 119 (i := 0) 3 dX4_readHead_119 rfl rfl ?_
            obtain ⟨q_1288, eq_1288, hr⟩ := bind_e hr
            refine g_callVr hx (c_Ps_isEnded l g hC σ B M_1287 eq_1288) lk_X4_83 ar_Ps_isEnded (pW σ B ae M_1287 7 (by decide)) (T := TX4) (N := 3) rfl (As := []) (rest := []) rfl (Nat.le_of_ble_eq_true rfl) ⟨Nat.le_of_ble_eq_true rfl, Nat.le_of_ble_eq_true rfl⟩ ⟨rfl, rfl⟩ ⟨Nat.zero_le _, Nat.zero_le _⟩ dX4_readHead_120 ?_
            obtain ⟨hz_1289, hr⟩ := ob hr
            exact g_zret hx hR 123 hz_1289 dX4_readHead_123 ⟨by rw [← Option.some.inj hr] <;> rfl, by rw [← Option.some.inj hr] <;> rfl⟩
          · have hr := (if_pos hc_1285).symm.trans hr
            refine g_iconst hx 95 (0) dX4_readHead_95 rfl ?_
            exact g_zret hx hR 96 (Or.inl rfl) dX4_readHead_96 ⟨by rw [← Option.some.inj hr] <;> rfl, by rw [← Option.some.inj hr] <;> rfl⟩
        · have hr := (if_pos hc_1282).symm.trans hr
          refine g_iconst hx 75 (0) dX4_readHead_75 rfl ?_
          exact g_zret hx hR 76 (Or.inl rfl) dX4_readHead_76 ⟨by rw [← Option.some.inj hr] <;> rfl, by rw [← Option.some.inj hr] <;> rfl⟩
      · have hr := (if_pos hc_1279).symm.trans hr
        refine g_iconst hx 55 (0) dX4_readHead_55 rfl ?_
        exact g_zret hx hR 56 (Or.inl rfl) dX4_readHead_56 ⟨by rw [← Option.some.inj hr] <;> rfl, by rw [← Option.some.inj hr] <;> rfl⟩
    · have hr := (if_pos hc_1276).symm.trans hr
      refine g_iconst hx 35 (0) dX4_readHead_35 rfl ?_
      exact g_zret hx hR 36 (Or.inl rfl) dX4_readHead_36 ⟨by rw [← Option.some.inj hr] <;> rfl, by rw [← Option.some.inj hr] <;> rfl⟩
  · have hr := (if_pos hc_1272).symm.trans hr
    refine g_aload_n hx 19 (i := 0) 0 dX4_readHead_19 rfl rfl ?_
    refine g_iconst hx 20 (1) dX4_readHead_20 rfl ?_
    obtain ⟨q_1273, eq_1273, hr⟩ := lt'_e hr
    refine g_callVr hx (c_Ps_fail l g hC σ B M_1270 1 eq_1273.symm) lk_X4_48 ar_Ps_fail (pW σ B ae M_1270 7 (by decide)) (T := TX4) (N := 3) rfl (As := [.int 1]) (rest := []) rfl (Nat.le_of_ble_eq_true rfl) ⟨Nat.le_of_ble_eq_true rfl, Nat.le_of_ble_eq_true rfl⟩ ⟨rfl, rfl⟩ ⟨Nat.zero_le _, Nat.zero_le _⟩ dX4_readHead_21 ?_
    obtain ⟨hz_1274, hr⟩ := ob hr
    exact g_zret hx hR 24 hz_1274 dX4_readHead_24 ⟨by rw [← Option.some.inj hr] <;> rfl, by rw [← Option.some.inj hr] <;> rfl⟩
def Ps_readFolder (M : WM) : Option (Int32 × WM) := Option.bind (Ps_readNumber M 0 9999) fun q_1290 => if q_1290.1 = 0 then (some ((0, q_1290.2))) else (lt' (Tk_value q_1290.2) fun v2_1292 => if lnpl ((q_1290.2.1 10).2 0) v2_1292 = (-1) then (Option.bind (Tk_next q_1290.2) fun M_1294 => Option.bind (Tk_isWord (sx 2) M_1294) fun q_1295 => if q_1295 = 0 then (lt' (St_addFolder (M_1294.1 10) v2_1292 0) fun M_1297 => Option.bind (Ps_isEnded (setS M_1294 10 M_1297)) fun q_1298 => if q_1298.1 = 0 ∨ q_1298.1 = 1 then (some ((q_1298.1, q_1298.2))) else none) else (Option.bind (Ps_readNumber M_1294 0 999) fun q_1300 => if q_1300.1 = 0 then (some ((0, q_1300.2))) else (lt' (Tk_value q_1300.2) fun v3_1302 => Option.bind (Tk_next q_1300.2) fun M_1303 => lt' (St_addFolder (M_1303.1 10) v2_1292 v3_1302) fun M_1304 => Option.bind (Ps_isEnded (setS M_1303 10 M_1304)) fun q_1305 => if q_1305.1 = 0 ∨ q_1305.1 = 1 then (some ((q_1305.1, q_1305.2))) else none))) else (lt' (Ps_fail q_1290.2 3) fun q_1307 => if q_1307.1 = 0 ∨ q_1307.1 = 1 then (some ((q_1307.1, q_1307.2))) else none))
set_option maxRecDepth 100000 in
set_option maxHeartbeats 4000000 in
theorem c_Ps_readFolder {ad ae : Nat → Nat} (l : Launch) (g : Gl) (hC : KAll g ad ae) (σ : Hp) (B : Nat) (M : WM) {r : Int32 × WM} (hr : Ps_readFolder M = some r) : MG l g md_Ps_readFolder [.ref (B + 7), .ref (B + 367)] (putW σ B ae M) (rs (some (.int r.1)) (putW σ B ae r.2)) := by
  refine MG.intro (by decide +kernel) (Nat.le_of_ble_eq_true rfl) (fun X hx hR _ => ?_)
  unfold Ps_readFolder at hr
  refine g_ls [0, 1] [(0, .ref (B + 7)), (1, .ref (B + 367))] rfl ?_
  refine g_aload_n hx 0 (i := 0) 0 dX4_readFolder_0 rfl rfl ?_
  refine g_iconst hx 1 (0) dX4_readFolder_1 rfl ?_
  refine g_sipush hx 2 (9999) dX4_readFolder_2 rfl ?_
  obtain ⟨q_1290, eq_1290, hr⟩ := bind_e hr
  refine g_callVr hx (c_Ps_readNumber l g hC σ B M 0 9999 eq_1290) lk_X4_71 ar_Ps_readNumber (pW σ B ae M 7 (by decide)) (T := TX4) (N := 3) rfl (As := [.int 0, .int 9999]) (rest := []) rfl (Nat.le_of_ble_eq_true rfl) ⟨Nat.le_of_ble_eq_true rfl, Nat.le_of_ble_eq_true rfl⟩ ⟨rfl, rfl⟩ ⟨Nat.zero_le _, Nat.zero_le _⟩ dX4_readFolder_5 ?_
  refine g_if_ne hx 8 13 dX4_readFolder_8 (by decide) (fun hc_1291 => ?_) (fun hc_1291 => ?_)
  · have hr := (if_neg hc_1291).symm.trans hr
    refine g_aload_n hx 13 (i := 0) 0 dX4_readFolder_13 rfl rfl ?_
    refine g_get hx 14 (C := RX4) (T := TX4) (N := 3) 0 (.ref (B + 8)) (pW σ B ae q_1290.2 7 (by decide)) rfl (by decide) rfl fl_X4_23 dX4_readFolder_14 ?_
    refine g_callVr hx (c_Tk_value l g hC σ B q_1290.2 rfl) lk_X4_75 ar_Tk_value (pW σ B ae q_1290.2 8 (by decide)) (T := TX9) (N := 6) rfl (As := []) (rest := []) rfl (Nat.le_of_ble_eq_true rfl) ⟨Nat.le_of_ble_eq_true rfl, Nat.le_of_ble_eq_true rfl⟩ ⟨rfl, rfl⟩ ⟨Nat.zero_le _, Nat.zero_le _⟩ dX4_readFolder_17 ?_
    obtain ⟨v2_1292, ev2_1292, hr⟩ := lt'_e hr
    refine g_nmi ev2_1292 ?_
    refine g_istore_n hx 20 (i := 2) [(2, .int v2_1292), (0, .ref (B + 7)), (1, .ref (B + 367))] dX4_readFolder_20 rfl (by decide) rfl ?_
    refine g_aload_n hx 21 (i := 1) 2 dX4_readFolder_21 rfl rfl ?_
    refine g_get hx 22 (C := RX8) (T := TX8) (N := 15) 4 (.ref (B + 367 + 1)) (pW_st10 σ B ae q_1290.2 0 (by decide)) rfl (by decide) rfl fl_X4_87 dX4_readFolder_22 ?_
    refine g_iload_n hx 25 (i := 2) 0 dX4_readFolder_25 rfl rfl ?_
    refine g_callVr hx (k_placeOf l g (st_l0 (pW_st10 σ B ae q_1290.2)) (by decide) v2_1292) lk_X4_91 ar_Ln_placeOf (st_l0 (pW_st10 σ B ae q_1290.2)).1 (T := TX2) (N := 2) rfl (As := [.int v2_1292]) (rest := []) rfl (Nat.le_of_ble_eq_true rfl) ⟨Nat.le_of_ble_eq_true rfl, Nat.le_of_ble_eq_true rfl⟩ ⟨rfl, rfl⟩ ⟨Nat.zero_le _, Nat.zero_le _⟩ dX4_readFolder_26 ?_
    refine g_iconst hx 29 (-1) dX4_readFolder_29 rfl ?_
    refine g_icmp_eq hx 30 39 dX4_readFolder_30 (by decide) (fun hc_1293 => ?_) (fun hc_1293 => ?_)
    · have hr := (if_pos hc_1293).symm.trans hr
      refine g_iconst hx 39 (0) dX4_readFolder_39 rfl ?_
      refine g_istore_n hx 40 (i := 3) [(3, .int 0), (2, .int v2_1292), (0, .ref (B + 7)), (1, .ref (B + 367))] dX4_readFolder_40 rfl (by decide) rfl ?_
      refine g_aload_n hx 41 (i := 0) 2 dX4_readFolder_41 rfl rfl ?_
      refine g_get hx 42 (C := RX4) (T := TX4) (N := 3) 0 (.ref (B + 8)) (pW σ B ae q_1290.2 7 (by decide)) rfl (by decide) rfl fl_X4_23 dX4_readFolder_42 ?_
      obtain ⟨M_1294, eM_1294, hr⟩ := bind_e hr
      refine g_callVv hx (c_Tk_next l g hC σ B q_1290.2 eM_1294) lk_X4_35 ar_Tk_next (pW σ B ae q_1290.2 8 (by decide)) (T := TX9) (N := 6) rfl (As := []) (rest := []) rfl (Nat.le_of_ble_eq_true rfl) ⟨Nat.le_of_ble_eq_true rfl, Nat.le_of_ble_eq_true rfl⟩ ⟨rfl, rfl⟩ ⟨Nat.zero_le _, Nat.zero_le _⟩ dX4_readFolder_45 ?_
      refine g_aload_n hx 48 (i := 0) 2 dX4_readFolder_48 rfl rfl ?_
      refine g_get hx 49 (C := RX4) (T := TX4) (N := 3) 0 (.ref (B + 8)) (pW σ B ae M_1294 7 (by decide)) rfl (by decide) rfl fl_X4_23 dX4_readFolder_49 ?_
      refine g_ldcS hx 52 (hC.1.2.2 _ (List.mem_of_getElem? (i := 26) rfl)) dX4_readFolder_52 ?_
      obtain ⟨q_1295, eq_1295, hr⟩ := bind_e hr
      refine g_callVr hx (c_Tk_isWord l g hC (hC.1.ok 2 (by decide)) σ B M_1294 eq_1295) lk_X4_44 ar_Tk_isWord (pW σ B ae M_1294 8 (by decide)) (T := TX9) (N := 6) rfl (As := [.ref (ad 2)]) (rest := []) rfl (Nat.le_of_ble_eq_true rfl) ⟨Nat.le_of_ble_eq_true rfl, Nat.le_of_ble_eq_true rfl⟩ ⟨rfl, rfl⟩ ⟨Nat.zero_le _, Nat.zero_le _⟩ dX4_readFolder_54 ?_
      refine g_if_eq hx 57 88 dX4_readFolder_57 (by decide) (fun hc_1296 => ?_) (fun hc_1296 => ?_)
      · have hr := (if_pos hc_1296).symm.trans hr
        refine g_aload_n hx 88 (i := 1) 3 dX4_readFolder_88 rfl rfl ?_
        refine g_iload_n hx 89 (i := 2) 1 dX4_readFolder_89 rfl rfl ?_
        refine g_iload_n hx 90 (i := 3) 0 dX4_readFolder_90 rfl rfl ?_
        obtain ⟨M_1297, eM_1297, hr⟩ := lt'_e hr
        refine g_callVv hx (MG.at10 (w := M_1294) (c_St_addFolder l g (putW σ B ae M_1294) (B + 367) (M_1294.1 10) v2_1292 0 eM_1297.symm)) lk_X4_99 ar_St_addFolder (pW_st10 σ B ae M_1294 0 (by decide)) (T := TX8) (N := 15) rfl (As := [.int v2_1292, .int 0]) (rest := []) rfl (Nat.le_of_ble_eq_true rfl) ⟨Nat.le_of_ble_eq_true rfl, Nat.le_of_ble_eq_true rfl⟩ ⟨rfl, rfl⟩ ⟨Nat.zero_le _, Nat.zero_le _⟩ dX4_readFolder_91 ?_
        refine g_aload_n hx 94 (i := 0) 2 dX4_readFolder_94 rfl rfl ?_
        obtain ⟨q_1298, eq_1298, hr⟩ := bind_e hr
        refine g_callVr hx (c_Ps_isEnded l g hC σ B (setS M_1294 10 M_1297) eq_1298) lk_X4_83 ar_Ps_isEnded (pW σ B ae (setS M_1294 10 M_1297) 7 (by decide)) (T := TX4) (N := 3) rfl (As := []) (rest := []) rfl (Nat.le_of_ble_eq_true rfl) ⟨Nat.le_of_ble_eq_true rfl, Nat.le_of_ble_eq_true rfl⟩ ⟨rfl, rfl⟩ ⟨Nat.zero_le _, Nat.zero_le _⟩ dX4_readFolder_95 ?_
        obtain ⟨hz_1299, hr⟩ := ob hr
        exact g_zret hx hR 98 hz_1299 dX4_readFolder_98 ⟨by rw [← Option.some.inj hr] <;> rfl, by rw [← Option.some.inj hr] <;> rfl⟩
      · have hr := (if_neg hc_1296).symm.trans hr
        refine g_aload_n hx 60 (i := 0) 2 dX4_readFolder_60 rfl rfl ?_
        refine g_iconst hx 61 (0) dX4_readFolder_61 rfl ?_
        refine g_sipush hx 62 (999) dX4_readFolder_62 rfl ?_
        obtain ⟨q_1300, eq_1300, hr⟩ := bind_e hr
        refine g_callVr hx (c_Ps_readNumber l g hC σ B M_1294 0 999 eq_1300) lk_X4_71 ar_Ps_readNumber (pW σ B ae M_1294 7 (by decide)) (T := TX4) (N := 3) rfl (As := [.int 0, .int 999]) (rest := []) rfl (Nat.le_of_ble_eq_true rfl) ⟨Nat.le_of_ble_eq_true rfl, Nat.le_of_ble_eq_true rfl⟩ ⟨rfl, rfl⟩ ⟨Nat.zero_le _, Nat.zero_le _⟩ dX4_readFolder_65 ?_
        refine g_if_ne hx 68 73 dX4_readFolder_68 (by decide) (fun hc_1301 => ?_) (fun hc_1301 => ?_)
        · have hr := (if_neg hc_1301).symm.trans hr
          refine g_aload_n hx 73 (i := 0) 2 dX4_readFolder_73 rfl rfl ?_
          refine g_get hx 74 (C := RX4) (T := TX4) (N := 3) 0 (.ref (B + 8)) (pW σ B ae q_1300.2 7 (by decide)) rfl (by decide) rfl fl_X4_23 dX4_readFolder_74 ?_
          refine g_callVr hx (c_Tk_value l g hC σ B q_1300.2 rfl) lk_X4_75 ar_Tk_value (pW σ B ae q_1300.2 8 (by decide)) (T := TX9) (N := 6) rfl (As := []) (rest := []) rfl (Nat.le_of_ble_eq_true rfl) ⟨Nat.le_of_ble_eq_true rfl, Nat.le_of_ble_eq_true rfl⟩ ⟨rfl, rfl⟩ ⟨Nat.zero_le _, Nat.zero_le _⟩ dX4_readFolder_77 ?_
          obtain ⟨v3_1302, ev3_1302, hr⟩ := lt'_e hr
          refine g_nmi ev3_1302 ?_
          refine g_istore_n hx 80 (i := 3) [(3, .int v3_1302), (2, .int v2_1292), (0, .ref (B + 7)), (1, .ref (B + 367))] dX4_readFolder_80 rfl (by decide) rfl ?_
          refine g_aload_n hx 81 (i := 0) 2 dX4_readFolder_81 rfl rfl ?_
          refine g_get hx 82 (C := RX4) (T := TX4) (N := 3) 0 (.ref (B + 8)) (pW σ B ae q_1300.2 7 (by decide)) rfl (by decide) rfl fl_X4_23 dX4_readFolder_82 ?_
          obtain ⟨M_1303, eM_1303, hr⟩ := bind_e hr
          refine g_callVv hx (c_Tk_next l g hC σ B q_1300.2 eM_1303) lk_X4_35 ar_Tk_next (pW σ B ae q_1300.2 8 (by decide)) (T := TX9) (N := 6) rfl (As := []) (rest := []) rfl (Nat.le_of_ble_eq_true rfl) ⟨Nat.le_of_ble_eq_true rfl, Nat.le_of_ble_eq_true rfl⟩ ⟨rfl, rfl⟩ ⟨Nat.zero_le _, Nat.zero_le _⟩ dX4_readFolder_85 ?_
          refine g_aload_n hx 88 (i := 1) 3 dX4_readFolder_88 rfl rfl ?_
          refine g_iload_n hx 89 (i := 2) 1 dX4_readFolder_89 rfl rfl ?_
          refine g_iload_n hx 90 (i := 3) 0 dX4_readFolder_90 rfl rfl ?_
          obtain ⟨M_1304, eM_1304, hr⟩ := lt'_e hr
          refine g_callVv hx (MG.at10 (w := M_1303) (c_St_addFolder l g (putW σ B ae M_1303) (B + 367) (M_1303.1 10) v2_1292 v3_1302 eM_1304.symm)) lk_X4_99 ar_St_addFolder (pW_st10 σ B ae M_1303 0 (by decide)) (T := TX8) (N := 15) rfl (As := [.int v2_1292, .int v3_1302]) (rest := []) rfl (Nat.le_of_ble_eq_true rfl) ⟨Nat.le_of_ble_eq_true rfl, Nat.le_of_ble_eq_true rfl⟩ ⟨rfl, rfl⟩ ⟨Nat.zero_le _, Nat.zero_le _⟩ dX4_readFolder_91 ?_
          refine g_aload_n hx 94 (i := 0) 2 dX4_readFolder_94 rfl rfl ?_
          obtain ⟨q_1305, eq_1305, hr⟩ := bind_e hr
          refine g_callVr hx (c_Ps_isEnded l g hC σ B (setS M_1303 10 M_1304) eq_1305) lk_X4_83 ar_Ps_isEnded (pW σ B ae (setS M_1303 10 M_1304) 7 (by decide)) (T := TX4) (N := 3) rfl (As := []) (rest := []) rfl (Nat.le_of_ble_eq_true rfl) ⟨Nat.le_of_ble_eq_true rfl, Nat.le_of_ble_eq_true rfl⟩ ⟨rfl, rfl⟩ ⟨Nat.zero_le _, Nat.zero_le _⟩ dX4_readFolder_95 ?_
          obtain ⟨hz_1306, hr⟩ := ob hr
          exact g_zret hx hR 98 hz_1306 dX4_readFolder_98 ⟨by rw [← Option.some.inj hr] <;> rfl, by rw [← Option.some.inj hr] <;> rfl⟩
        · have hr := (if_pos hc_1301).symm.trans hr
          refine g_iconst hx 71 (0) dX4_readFolder_71 rfl ?_
          exact g_zret hx hR 72 (Or.inl rfl) dX4_readFolder_72 ⟨by rw [← Option.some.inj hr] <;> rfl, by rw [← Option.some.inj hr] <;> rfl⟩
    · have hr := (if_neg hc_1293).symm.trans hr
      refine g_aload_n hx 33 (i := 0) 1 dX4_readFolder_33 rfl rfl ?_
      refine g_iconst hx 34 (3) dX4_readFolder_34 rfl ?_
      obtain ⟨q_1307, eq_1307, hr⟩ := lt'_e hr
      refine g_callVr hx (c_Ps_fail l g hC σ B q_1290.2 3 eq_1307.symm) lk_X4_48 ar_Ps_fail (pW σ B ae q_1290.2 7 (by decide)) (T := TX4) (N := 3) rfl (As := [.int 3]) (rest := []) rfl (Nat.le_of_ble_eq_true rfl) ⟨Nat.le_of_ble_eq_true rfl, Nat.le_of_ble_eq_true rfl⟩ ⟨rfl, rfl⟩ ⟨Nat.zero_le _, Nat.zero_le _⟩ dX4_readFolder_35 ?_
      obtain ⟨hz_1308, hr⟩ := ob hr
      exact g_zret hx hR 38 hz_1308 dX4_readFolder_38 ⟨by rw [← Option.some.inj hr] <;> rfl, by rw [← Option.some.inj hr] <;> rfl⟩
  · have hr := (if_pos hc_1291).symm.trans hr
    refine g_iconst hx 11 (0) dX4_readFolder_11 rfl ?_
    exact g_zret hx hR 12 (Or.inl rfl) dX4_readFolder_12 ⟨by rw [← Option.some.inj hr] <;> rfl, by rw [← Option.some.inj hr] <;> rfl⟩
def Ps_readArchive_L27 : Nat → WM → Int32 → Int32 → Option (Int32 × WM)
  | 0, _, _, _ => none
  | n + 1, M, v1_1313, v3_1314 => if 24 < v3_1314 then (some ((M.2.2.1 5, M))) else (if v3_1314 ≤ 0 then (Option.bind (Tk_isWord (sx 1) M) fun q_1317 => if q_1317 = 0 then (lt' (Ps_fail M 1) fun q_1319 => some ((q_1319.2.2.2.1 5, q_1319.2))) else (if v3_1314 = 24 then (lt' (Ps_fail M 4) fun q_1321 => some ((q_1321.2.2.2.1 5, q_1321.2))) else (Option.bind (Ps_readFolder M) fun q_1322 => if q_1322.1 = 0 then (some ((q_1322.2.2.2.1 5, q_1322.2))) else (Option.bind (Tk_next q_1322.2) fun M_1324 => Ps_readArchive_L27 n M_1324 v1_1313 (v3_1314 + 1))))) else (if Tk_kind M = 0 then (some ((0, M))) else (Option.bind (Tk_isWord (sx 1) M) fun q_1326 => if q_1326 = 0 then (lt' (Ps_fail M 1) fun q_1328 => some ((q_1328.2.2.2.1 5, q_1328.2))) else (if v3_1314 = 24 then (lt' (Ps_fail M 4) fun q_1330 => some ((q_1330.2.2.2.1 5, q_1330.2))) else (Option.bind (Ps_readFolder M) fun q_1331 => if q_1331.1 = 0 then (some ((q_1331.2.2.2.1 5, q_1331.2))) else (Option.bind (Tk_next q_1331.2) fun M_1333 => Ps_readArchive_L27 n M_1333 v1_1313 (v3_1314 + 1)))))))
def Ps_readArchive (M : WM) (p1 : Int32) : Option (Int32 × WM) := lt' (Ps_begin M p1) fun M_1309 => Option.bind (Ps_readHead M_1309) fun q_1310 => if q_1310.1 = 0 then (some ((q_1310.2.2.2.1 5, q_1310.2))) else (Option.bind (Tk_next q_1310.2) fun M_1312 => Ps_readArchive_L27 FU M_1312 p1 0)
set_option maxRecDepth 100000 in
set_option maxHeartbeats 4000000 in
theorem w_Ps_readArchive_L27 {ad ae : Nat → Nat} {X : Cx} {l : Launch} {g : Gl} (hx : Ok X l g RX4 cX4_readArchive 4 md_Ps_readArchive.rm) (hC : KAll g ad ae) {σ : Hp} {B : Nat} {r : Int32 × WM} (hR : Ret X (rs (some (.int r.1)) (putW σ B ae r.2)) 0 0 (some .int)) : ∀ (n : Nat) (M : WM) (v1_1313 v3_1314 : Int32), Ps_readArchive_L27 n M v1_1313 v3_1314 = some r → G X (putW σ B ae M) 0 0 27 [(0, .ref (B + 7)), (1, .int v1_1313), (2, .ref (B + 367)), (3, .int v3_1314)] [] := by
  intro n
  induction n with
  | zero =>
    intro M v1_1313 v3_1314 hr
    rw [Ps_readArchive_L27] at hr
    cases hr
  | succ n ih =>
    intro M v1_1313 v3_1314 hr
    rw [Ps_readArchive_L27] at hr
    refine g_iload_n hx 27 (i := 3) 3 dX4_readArchive_27 rfl rfl ?_
    refine g_bipush hx 28 (24) dX4_readArchive_28 rfl ?_
    refine g_icmp_gt hx 30 115 dX4_readArchive_30 (by decide) (fun hc_1315 => ?_) (fun hc_1315 => ?_)
    · have hr := (if_pos hc_1315).symm.trans hr
      refine g_aload_n hx 115 (i := 0) 0 dX4_readArchive_115 rfl rfl ?_
      refine g_get hx 116 (C := RX4) (T := TX4) (N := 3) 1 (.int (M.2.2.1 5)) (pW σ B ae M 7 (by decide)) rfl (by decide) rfl fl_X4_9 dX4_readArchive_116 ?_
      exact g_iret hx hR 119 dX4_readArchive_119 ⟨by rw [← Option.some.inj hr] <;> rfl, by rw [← Option.some.inj hr] <;> rfl⟩
    · have hr := (if_neg hc_1315).symm.trans hr
      refine g_iload_n hx 33 (i := 3) 3 dX4_readArchive_33 rfl rfl ?_
      refine g_if_le hx 34 49 dX4_readArchive_34 (by decide) (fun hc_1316 => ?_) (fun hc_1316 => ?_)
      · have hr := (if_pos hc_1316).symm.trans hr
        refine g_aload_n hx 49 (i := 0) 0 dX4_readArchive_49 rfl rfl ?_
        refine g_get hx 50 (C := RX4) (T := TX4) (N := 3) 0 (.ref (B + 8)) (pW σ B ae M 7 (by decide)) rfl (by decide) rfl fl_X4_23 dX4_readArchive_50 ?_
        refine g_ldcS hx 53 (hC.1.2.2 _ (List.mem_of_getElem? (i := 24) rfl)) dX4_readArchive_53 ?_
        obtain ⟨q_1317, eq_1317, hr⟩ := bind_e hr
        refine g_callVr hx (c_Tk_isWord l g hC (hC.1.ok 1 (by decide)) σ B M eq_1317) lk_X4_44 ar_Tk_isWord (pW σ B ae M 8 (by decide)) (T := TX9) (N := 6) rfl (As := [.ref (ad 1)]) (rest := []) rfl (Nat.le_of_ble_eq_true rfl) ⟨Nat.le_of_ble_eq_true rfl, Nat.le_of_ble_eq_true rfl⟩ ⟨rfl, rfl⟩ ⟨Nat.zero_le _, Nat.zero_le _⟩ dX4_readArchive_55 ?_
        refine g_if_ne hx 58 72 dX4_readArchive_58 (by decide) (fun hc_1318 => ?_) (fun hc_1318 => ?_)
        · have hr := (if_neg hc_1318).symm.trans hr
          refine g_iload_n hx 72 (i := 3) 3 dX4_readArchive_72 rfl rfl ?_
          refine g_bipush hx 73 (24) dX4_readArchive_73 rfl ?_
          refine g_icmp_ne hx 75 89 dX4_readArchive_75 (by decide) (fun hc_1320 => ?_) (fun hc_1320 => ?_)
          · have hr := (if_neg hc_1320).symm.trans hr
            refine g_aload_n hx 89 (i := 0) 0 dX4_readArchive_89 rfl rfl ?_
            refine g_aload_n hx 90 (i := 2) 2 dX4_readArchive_90 rfl rfl ?_
            obtain ⟨q_1322, eq_1322, hr⟩ := bind_e hr
            refine g_callVr hx (c_Ps_readFolder l g hC σ B M eq_1322) lk_X4_52 ar_Ps_readFolder (pW σ B ae M 7 (by decide)) (T := TX4) (N := 3) rfl (As := [.ref (B + 367)]) (rest := []) rfl (Nat.le_of_ble_eq_true rfl) ⟨Nat.le_of_ble_eq_true rfl, Nat.le_of_ble_eq_true rfl⟩ ⟨rfl, rfl⟩ ⟨Nat.zero_le _, Nat.zero_le _⟩ dX4_readArchive_91 ?_
            refine g_if_ne hx 94 102 dX4_readArchive_94 (by decide) (fun hc_1323 => ?_) (fun hc_1323 => ?_)
            · have hr := (if_neg hc_1323).symm.trans hr
              refine g_aload_n hx 102 (i := 0) 0 dX4_readArchive_102 rfl rfl ?_
              refine g_get hx 103 (C := RX4) (T := TX4) (N := 3) 0 (.ref (B + 8)) (pW σ B ae q_1322.2 7 (by decide)) rfl (by decide) rfl fl_X4_23 dX4_readArchive_103 ?_
              obtain ⟨M_1324, eM_1324, hr⟩ := bind_e hr
              refine g_callVv hx (c_Tk_next l g hC σ B q_1322.2 eM_1324) lk_X4_35 ar_Tk_next (pW σ B ae q_1322.2 8 (by decide)) (T := TX9) (N := 6) rfl (As := []) (rest := []) rfl (Nat.le_of_ble_eq_true rfl) ⟨Nat.le_of_ble_eq_true rfl, Nat.le_of_ble_eq_true rfl⟩ ⟨rfl, rfl⟩ ⟨Nat.zero_le _, Nat.zero_le _⟩ dX4_readArchive_106 ?_
              refine g_iinc hx 109 (i := 3) 3 (v3_1314 + 1) [(3, .int (v3_1314 + 1)), (0, .ref (B + 7)), (1, .int v1_1313), (2, .ref (B + 367))] dX4_readArchive_109 rfl rfl (by decide) rfl ?_
              refine g_goto hx 112 27 dX4_readArchive_112 (by decide) ?_
              refine g_ls [1, 2, 3, 0] [(0, .ref (B + 7)), (1, .int v1_1313), (2, .ref (B + 367)), (3, .int (v3_1314 + 1))] rfl ?_
              exact ih M_1324 v1_1313 (v3_1314 + 1) hr
            · have hr := (if_pos hc_1323).symm.trans hr
              refine g_aload_n hx 97 (i := 0) 0 dX4_readArchive_97 rfl rfl ?_
              refine g_get hx 98 (C := RX4) (T := TX4) (N := 3) 1 (.int (q_1322.2.2.2.1 5)) (pW σ B ae q_1322.2 7 (by decide)) rfl (by decide) rfl fl_X4_9 dX4_readArchive_98 ?_
              exact g_iret hx hR 101 dX4_readArchive_101 ⟨by rw [← Option.some.inj hr] <;> rfl, by rw [← Option.some.inj hr] <;> rfl⟩
          · have hr := (if_pos hc_1320).symm.trans hr
            refine g_aload_n hx 78 (i := 0) 0 dX4_readArchive_78 rfl rfl ?_
            refine g_iconst hx 79 (4) dX4_readArchive_79 rfl ?_
            obtain ⟨q_1321, eq_1321, hr⟩ := lt'_e hr
            refine g_callVr hx (c_Ps_fail l g hC σ B M 4 eq_1321.symm) lk_X4_48 ar_Ps_fail (pW σ B ae M 7 (by decide)) (T := TX4) (N := 3) rfl (As := [.int 4]) (rest := []) rfl (Nat.le_of_ble_eq_true rfl) ⟨Nat.le_of_ble_eq_true rfl, Nat.le_of_ble_eq_true rfl⟩ ⟨rfl, rfl⟩ ⟨Nat.zero_le _, Nat.zero_le _⟩ dX4_readArchive_80 ?_
            refine g_pop hx 83 dX4_readArchive_83 rfl ?_
            refine g_aload_n hx 84 (i := 0) 0 dX4_readArchive_84 rfl rfl ?_
            refine g_get hx 85 (C := RX4) (T := TX4) (N := 3) 1 (.int (q_1321.2.2.2.1 5)) (pW σ B ae q_1321.2 7 (by decide)) rfl (by decide) rfl fl_X4_9 dX4_readArchive_85 ?_
            exact g_iret hx hR 88 dX4_readArchive_88 ⟨by rw [← Option.some.inj hr] <;> rfl, by rw [← Option.some.inj hr] <;> rfl⟩
        · have hr := (if_pos hc_1318).symm.trans hr
          refine g_aload_n hx 61 (i := 0) 0 dX4_readArchive_61 rfl rfl ?_
          refine g_iconst hx 62 (1) dX4_readArchive_62 rfl ?_
          obtain ⟨q_1319, eq_1319, hr⟩ := lt'_e hr
          refine g_callVr hx (c_Ps_fail l g hC σ B M 1 eq_1319.symm) lk_X4_48 ar_Ps_fail (pW σ B ae M 7 (by decide)) (T := TX4) (N := 3) rfl (As := [.int 1]) (rest := []) rfl (Nat.le_of_ble_eq_true rfl) ⟨Nat.le_of_ble_eq_true rfl, Nat.le_of_ble_eq_true rfl⟩ ⟨rfl, rfl⟩ ⟨Nat.zero_le _, Nat.zero_le _⟩ dX4_readArchive_63 ?_
          refine g_pop hx 66 dX4_readArchive_66 rfl ?_
          refine g_aload_n hx 67 (i := 0) 0 dX4_readArchive_67 rfl rfl ?_
          refine g_get hx 68 (C := RX4) (T := TX4) (N := 3) 1 (.int (q_1319.2.2.2.1 5)) (pW σ B ae q_1319.2 7 (by decide)) rfl (by decide) rfl fl_X4_9 dX4_readArchive_68 ?_
          exact g_iret hx hR 71 dX4_readArchive_71 ⟨by rw [← Option.some.inj hr] <;> rfl, by rw [← Option.some.inj hr] <;> rfl⟩
      · have hr := (if_neg hc_1316).symm.trans hr
        refine g_aload_n hx 37 (i := 0) 0 dX4_readArchive_37 rfl rfl ?_
        refine g_get hx 38 (C := RX4) (T := TX4) (N := 3) 0 (.ref (B + 8)) (pW σ B ae M 7 (by decide)) rfl (by decide) rfl fl_X4_23 dX4_readArchive_38 ?_
        refine g_callVr hx (c_Tk_kind l g hC σ B M rfl) lk_X4_38 ar_Tk_kind (pW σ B ae M 8 (by decide)) (T := TX9) (N := 6) rfl (As := []) (rest := []) rfl (Nat.le_of_ble_eq_true rfl) ⟨Nat.le_of_ble_eq_true rfl, Nat.le_of_ble_eq_true rfl⟩ ⟨rfl, rfl⟩ ⟨Nat.zero_le _, Nat.zero_le _⟩ dX4_readArchive_41 ?_
        refine g_if_ne hx 44 49 dX4_readArchive_44 (by decide) (fun hc_1325 => ?_) (fun hc_1325 => ?_)
        · have hr := (if_neg hc_1325).symm.trans hr
          refine g_aload_n hx 49 (i := 0) 0 dX4_readArchive_49 rfl rfl ?_
          refine g_get hx 50 (C := RX4) (T := TX4) (N := 3) 0 (.ref (B + 8)) (pW σ B ae M 7 (by decide)) rfl (by decide) rfl fl_X4_23 dX4_readArchive_50 ?_
          refine g_ldcS hx 53 (hC.1.2.2 _ (List.mem_of_getElem? (i := 24) rfl)) dX4_readArchive_53 ?_
          obtain ⟨q_1326, eq_1326, hr⟩ := bind_e hr
          refine g_callVr hx (c_Tk_isWord l g hC (hC.1.ok 1 (by decide)) σ B M eq_1326) lk_X4_44 ar_Tk_isWord (pW σ B ae M 8 (by decide)) (T := TX9) (N := 6) rfl (As := [.ref (ad 1)]) (rest := []) rfl (Nat.le_of_ble_eq_true rfl) ⟨Nat.le_of_ble_eq_true rfl, Nat.le_of_ble_eq_true rfl⟩ ⟨rfl, rfl⟩ ⟨Nat.zero_le _, Nat.zero_le _⟩ dX4_readArchive_55 ?_
          refine g_if_ne hx 58 72 dX4_readArchive_58 (by decide) (fun hc_1327 => ?_) (fun hc_1327 => ?_)
          · have hr := (if_neg hc_1327).symm.trans hr
            refine g_iload_n hx 72 (i := 3) 3 dX4_readArchive_72 rfl rfl ?_
            refine g_bipush hx 73 (24) dX4_readArchive_73 rfl ?_
            refine g_icmp_ne hx 75 89 dX4_readArchive_75 (by decide) (fun hc_1329 => ?_) (fun hc_1329 => ?_)
            · have hr := (if_neg hc_1329).symm.trans hr
              refine g_aload_n hx 89 (i := 0) 0 dX4_readArchive_89 rfl rfl ?_
              refine g_aload_n hx 90 (i := 2) 2 dX4_readArchive_90 rfl rfl ?_
              obtain ⟨q_1331, eq_1331, hr⟩ := bind_e hr
              refine g_callVr hx (c_Ps_readFolder l g hC σ B M eq_1331) lk_X4_52 ar_Ps_readFolder (pW σ B ae M 7 (by decide)) (T := TX4) (N := 3) rfl (As := [.ref (B + 367)]) (rest := []) rfl (Nat.le_of_ble_eq_true rfl) ⟨Nat.le_of_ble_eq_true rfl, Nat.le_of_ble_eq_true rfl⟩ ⟨rfl, rfl⟩ ⟨Nat.zero_le _, Nat.zero_le _⟩ dX4_readArchive_91 ?_
              refine g_if_ne hx 94 102 dX4_readArchive_94 (by decide) (fun hc_1332 => ?_) (fun hc_1332 => ?_)
              · have hr := (if_neg hc_1332).symm.trans hr
                refine g_aload_n hx 102 (i := 0) 0 dX4_readArchive_102 rfl rfl ?_
                refine g_get hx 103 (C := RX4) (T := TX4) (N := 3) 0 (.ref (B + 8)) (pW σ B ae q_1331.2 7 (by decide)) rfl (by decide) rfl fl_X4_23 dX4_readArchive_103 ?_
                obtain ⟨M_1333, eM_1333, hr⟩ := bind_e hr
                refine g_callVv hx (c_Tk_next l g hC σ B q_1331.2 eM_1333) lk_X4_35 ar_Tk_next (pW σ B ae q_1331.2 8 (by decide)) (T := TX9) (N := 6) rfl (As := []) (rest := []) rfl (Nat.le_of_ble_eq_true rfl) ⟨Nat.le_of_ble_eq_true rfl, Nat.le_of_ble_eq_true rfl⟩ ⟨rfl, rfl⟩ ⟨Nat.zero_le _, Nat.zero_le _⟩ dX4_readArchive_106 ?_
                refine g_iinc hx 109 (i := 3) 3 (v3_1314 + 1) [(3, .int (v3_1314 + 1)), (0, .ref (B + 7)), (1, .int v1_1313), (2, .ref (B + 367))] dX4_readArchive_109 rfl rfl (by decide) rfl ?_
                refine g_goto hx 112 27 dX4_readArchive_112 (by decide) ?_
                refine g_ls [1, 2, 3, 0] [(0, .ref (B + 7)), (1, .int v1_1313), (2, .ref (B + 367)), (3, .int (v3_1314 + 1))] rfl ?_
                exact ih M_1333 v1_1313 (v3_1314 + 1) hr
              · have hr := (if_pos hc_1332).symm.trans hr
                refine g_aload_n hx 97 (i := 0) 0 dX4_readArchive_97 rfl rfl ?_
                refine g_get hx 98 (C := RX4) (T := TX4) (N := 3) 1 (.int (q_1331.2.2.2.1 5)) (pW σ B ae q_1331.2 7 (by decide)) rfl (by decide) rfl fl_X4_9 dX4_readArchive_98 ?_
                exact g_iret hx hR 101 dX4_readArchive_101 ⟨by rw [← Option.some.inj hr] <;> rfl, by rw [← Option.some.inj hr] <;> rfl⟩
            · have hr := (if_pos hc_1329).symm.trans hr
              refine g_aload_n hx 78 (i := 0) 0 dX4_readArchive_78 rfl rfl ?_
              refine g_iconst hx 79 (4) dX4_readArchive_79 rfl ?_
              obtain ⟨q_1330, eq_1330, hr⟩ := lt'_e hr
              refine g_callVr hx (c_Ps_fail l g hC σ B M 4 eq_1330.symm) lk_X4_48 ar_Ps_fail (pW σ B ae M 7 (by decide)) (T := TX4) (N := 3) rfl (As := [.int 4]) (rest := []) rfl (Nat.le_of_ble_eq_true rfl) ⟨Nat.le_of_ble_eq_true rfl, Nat.le_of_ble_eq_true rfl⟩ ⟨rfl, rfl⟩ ⟨Nat.zero_le _, Nat.zero_le _⟩ dX4_readArchive_80 ?_
              refine g_pop hx 83 dX4_readArchive_83 rfl ?_
              refine g_aload_n hx 84 (i := 0) 0 dX4_readArchive_84 rfl rfl ?_
              refine g_get hx 85 (C := RX4) (T := TX4) (N := 3) 1 (.int (q_1330.2.2.2.1 5)) (pW σ B ae q_1330.2 7 (by decide)) rfl (by decide) rfl fl_X4_9 dX4_readArchive_85 ?_
              exact g_iret hx hR 88 dX4_readArchive_88 ⟨by rw [← Option.some.inj hr] <;> rfl, by rw [← Option.some.inj hr] <;> rfl⟩
          · have hr := (if_pos hc_1327).symm.trans hr
            refine g_aload_n hx 61 (i := 0) 0 dX4_readArchive_61 rfl rfl ?_
            refine g_iconst hx 62 (1) dX4_readArchive_62 rfl ?_
            obtain ⟨q_1328, eq_1328, hr⟩ := lt'_e hr
            refine g_callVr hx (c_Ps_fail l g hC σ B M 1 eq_1328.symm) lk_X4_48 ar_Ps_fail (pW σ B ae M 7 (by decide)) (T := TX4) (N := 3) rfl (As := [.int 1]) (rest := []) rfl (Nat.le_of_ble_eq_true rfl) ⟨Nat.le_of_ble_eq_true rfl, Nat.le_of_ble_eq_true rfl⟩ ⟨rfl, rfl⟩ ⟨Nat.zero_le _, Nat.zero_le _⟩ dX4_readArchive_63 ?_
            refine g_pop hx 66 dX4_readArchive_66 rfl ?_
            refine g_aload_n hx 67 (i := 0) 0 dX4_readArchive_67 rfl rfl ?_
            refine g_get hx 68 (C := RX4) (T := TX4) (N := 3) 1 (.int (q_1328.2.2.2.1 5)) (pW σ B ae q_1328.2 7 (by decide)) rfl (by decide) rfl fl_X4_9 dX4_readArchive_68 ?_
            exact g_iret hx hR 71 dX4_readArchive_71 ⟨by rw [← Option.some.inj hr] <;> rfl, by rw [← Option.some.inj hr] <;> rfl⟩
        · have hr := (if_pos hc_1325).symm.trans hr
          refine g_iconst hx 47 (0) dX4_readArchive_47 rfl ?_
          exact g_iret hx hR 48 dX4_readArchive_48 ⟨by rw [← Option.some.inj hr] <;> rfl, by rw [← Option.some.inj hr] <;> rfl⟩
set_option maxRecDepth 100000 in
set_option maxHeartbeats 4000000 in
theorem c_Ps_readArchive {ad ae : Nat → Nat} (l : Launch) (g : Gl) (hC : KAll g ad ae) (σ : Hp) (B : Nat) (M : WM) (p1 : Int32) {r : Int32 × WM} (hr : Ps_readArchive M p1 = some r) : MG l g md_Ps_readArchive [.ref (B + 7), .int p1, .ref (B + 367)] (putW σ B ae M) (rs (some (.int r.1)) (putW σ B ae r.2)) := by
  refine MG.intro (by decide +kernel) (Nat.le_of_ble_eq_true rfl) (fun X hx hR _ => ?_)
  unfold Ps_readArchive at hr
  refine g_ls [0, 1, 2] [(0, .ref (B + 7)), (1, .int p1), (2, .ref (B + 367))] rfl ?_
  refine g_aload_n hx 0 (i := 0) 0 dX4_readArchive_0 rfl rfl ?_
  refine g_iload_n hx 1 (i := 1) 1 dX4_readArchive_1 rfl rfl ?_
  obtain ⟨M_1309, eM_1309, hr⟩ := lt'_e hr
  refine g_callVv hx (c_Ps_begin l g hC σ B M p1 eM_1309.symm) lk_X4_27 ar_Ps_begin (pW σ B ae M 7 (by decide)) (T := TX4) (N := 3) rfl (As := [.int p1]) (rest := []) rfl (Nat.le_of_ble_eq_true rfl) ⟨Nat.le_of_ble_eq_true rfl, Nat.le_of_ble_eq_true rfl⟩ ⟨rfl, rfl⟩ ⟨Nat.zero_le _, Nat.zero_le _⟩ dX4_readArchive_2 ?_
  refine g_aload_n hx 5 (i := 0) 0 dX4_readArchive_5 rfl rfl ?_
  refine g_aload_n hx 6 (i := 2) 2 dX4_readArchive_6 rfl rfl ?_
  obtain ⟨q_1310, eq_1310, hr⟩ := bind_e hr
  refine g_callVr hx (c_Ps_readHead l g hC σ B M_1309 eq_1310) lk_X4_31 ar_Ps_readHead (pW σ B ae M_1309 7 (by decide)) (T := TX4) (N := 3) rfl (As := [.ref (B + 367)]) (rest := []) rfl (Nat.le_of_ble_eq_true rfl) ⟨Nat.le_of_ble_eq_true rfl, Nat.le_of_ble_eq_true rfl⟩ ⟨rfl, rfl⟩ ⟨Nat.zero_le _, Nat.zero_le _⟩ dX4_readArchive_7 ?_
  refine g_if_ne hx 10 18 dX4_readArchive_10 (by decide) (fun hc_1311 => ?_) (fun hc_1311 => ?_)
  · have hr := (if_neg hc_1311).symm.trans hr
    refine g_aload_n hx 18 (i := 0) 0 dX4_readArchive_18 rfl rfl ?_
    refine g_get hx 19 (C := RX4) (T := TX4) (N := 3) 0 (.ref (B + 8)) (pW σ B ae q_1310.2 7 (by decide)) rfl (by decide) rfl fl_X4_23 dX4_readArchive_19 ?_
    obtain ⟨M_1312, eM_1312, hr⟩ := bind_e hr
    refine g_callVv hx (c_Tk_next l g hC σ B q_1310.2 eM_1312) lk_X4_35 ar_Tk_next (pW σ B ae q_1310.2 8 (by decide)) (T := TX9) (N := 6) rfl (As := []) (rest := []) rfl (Nat.le_of_ble_eq_true rfl) ⟨Nat.le_of_ble_eq_true rfl, Nat.le_of_ble_eq_true rfl⟩ ⟨rfl, rfl⟩ ⟨Nat.zero_le _, Nat.zero_le _⟩ dX4_readArchive_22 ?_
    refine g_iconst hx 25 (0) dX4_readArchive_25 rfl ?_
    refine g_istore_n hx 26 (i := 3) [(3, .int 0), (0, .ref (B + 7)), (1, .int p1), (2, .ref (B + 367))] dX4_readArchive_26 rfl (by decide) rfl ?_
    refine g_ls [1, 2, 3, 0] [(0, .ref (B + 7)), (1, .int p1), (2, .ref (B + 367)), (3, .int 0)] rfl ?_
    exact w_Ps_readArchive_L27 hx hC hR FU M_1312 p1 0 hr
  · have hr := (if_pos hc_1311).symm.trans hr
    refine g_aload_n hx 13 (i := 0) 0 dX4_readArchive_13 rfl rfl ?_
    refine g_get hx 14 (C := RX4) (T := TX4) (N := 3) 1 (.int (q_1310.2.2.2.1 5)) (pW σ B ae q_1310.2 7 (by decide)) rfl (by decide) rfl fl_X4_9 dX4_readArchive_14 ?_
    exact g_iret hx hR 17 dX4_readArchive_17 ⟨by rw [← Option.some.inj hr] <;> rfl, by rw [← Option.some.inj hr] <;> rfl⟩
def Sc_clear (M : WM) : WM := setWL (setWL M 3 ([])) 4 ([])
set_option maxRecDepth 100000 in
set_option maxHeartbeats 4000000 in
theorem c_Sc_clear {ad ae : Nat → Nat} (l : Launch) (g : Gl) (hC : KAll g ad ae) (σ : Hp) (B : Nat) (M : WM) {r : WM} (hr : Sc_clear M = r) : MG l g md_Sc_clear [.ref (B + 9)] (putW σ B ae M) (rs none (putW σ B ae r)) := by
  refine MG.intro (by decide +kernel) (Nat.le_of_ble_eq_true rfl) (fun X hx hR _ => ?_)
  unfold Sc_clear at hr
  refine g_ls [0] [(0, .ref (B + 9))] rfl ?_
  refine g_aload_n hx 0 (i := 0) 0 dX6_clear_0 rfl rfl ?_
  refine g_get hx 1 (C := RX6) (T := TX6) (N := 3) 1 (.ref (B + 11)) (pW σ B ae M 9 (by decide)) rfl (by decide) rfl fl_X6_22 dX6_clear_1 ?_
  refine g_callVv hx (k_clear l g (pW_l3 σ B ae M) (by decide)) lk_X6_33 ar_Ln_clear (pW_l3 σ B ae M).1 (T := TX2) (N := 2) rfl (As := []) (rest := []) rfl (Nat.le_of_ble_eq_true rfl) ⟨Nat.le_of_ble_eq_true rfl, Nat.le_of_ble_eq_true rfl⟩ ⟨rfl, rfl⟩ ⟨Nat.zero_le _, Nat.zero_le _⟩ dX6_clear_4 ?_
  refine G.heap (pW_p3 σ B ae M ([])) ?_
  refine g_aload_n hx 7 (i := 0) 0 dX6_clear_7 rfl rfl ?_
  refine g_get hx 8 (C := RX6) (T := TX6) (N := 3) 2 (.ref (B + 13)) (pW σ B ae (setWL M 3 ([])) 9 (by decide)) rfl (by decide) rfl fl_X6_26 dX6_clear_8 ?_
  refine g_callVv hx (k_clear l g (pW_l4 σ B ae (setWL M 3 ([]))) (by decide)) lk_X6_33 ar_Ln_clear (pW_l4 σ B ae (setWL M 3 ([]))).1 (T := TX2) (N := 2) rfl (As := []) (rest := []) rfl (Nat.le_of_ble_eq_true rfl) ⟨Nat.le_of_ble_eq_true rfl, Nat.le_of_ble_eq_true rfl⟩ ⟨rfl, rfl⟩ ⟨Nat.zero_le _, Nat.zero_le _⟩ dX6_clear_11 ?_
  refine G.heap (pW_p4 σ B ae (setWL M 3 ([])) ([])) ?_
  exact g_vret hx hR 14 dX6_clear_14 ⟨rfl, by rw [← hr] <;> rfl⟩
def Ps_readOrder_L9 (M : WM) : Nat → Int32 → Int32 → Option (Option Nat)
  | 0, _, _ => none
  | n + 1, v2_1335, v3_1336 => if v2_1335 ≤ v3_1336 then (some (none)) else (if inB v3_1336 7 then (Option.bind (Tk_isWord (sx (wi v3_1336.toNatClampNeg)) M) fun q_1339 => if q_1339 = 0 then (Ps_readOrder_L9 M n v2_1335 (v3_1336 + 1)) else (some (some (v3_1336.toNatClampNeg)))) else none)
def Ps_readOrder (M : WM) : Option (Option Nat) := lt' (nI 7) fun v2_1334 => Ps_readOrder_L9 M FU v2_1334 0
set_option maxRecDepth 100000 in
set_option maxHeartbeats 4000000 in
theorem w_Ps_readOrder_L9 {ad ae : Nat → Nat} {X : Cx} {l : Launch} {g : Gl} (hx : Ok X l g RX4 cX4_readOrder 5 md_Ps_readOrder.rm) (hC : KAll g ad ae) {σ : Hp} {B : Nat} {M : WM} {r : Option Nat} (hR : Ret X (rs (some (va_rf (Option.map ae r))) (putW σ B ae M)) 0 0 (some (.object "SlipArchive$Order"))) : ∀ (n : Nat) (v2_1335 v3_1336 : Int32), Ps_readOrder_L9 M n v2_1335 v3_1336 = some r → G X (putW σ B ae M) 0 0 9 [(0, .ref (B + 7)), (1, .ref (ae 7)), (2, .int v2_1335), (3, .int v3_1336)] [] := by
  intro n
  induction n with
  | zero =>
    intro v2_1335 v3_1336 hr
    rw [Ps_readOrder_L9] at hr
    cases hr
  | succ n ih =>
    intro v2_1335 v3_1336 hr
    rw [Ps_readOrder_L9] at hr
    refine g_iload_n hx 9 (i := 3) 3 dX4_readOrder_9 rfl rfl ?_
    refine g_iload_n hx 10 (i := 2) 2 dX4_readOrder_10 rfl rfl ?_
    refine g_icmp_ge hx 11 48 dX4_readOrder_11 (by decide) (fun hc_1337 => ?_) (fun hc_1337 => ?_)
    · have hr := (if_pos hc_1337).symm.trans hr
      refine g_null hx 48 dX4_readOrder_48 ?_
      exact g_aret hx hR 49 (Or.inl rfl) dX4_readOrder_49 ⟨by rw [← Option.some.inj hr] <;> rfl, rfl⟩
    · have hr := (if_neg hc_1337).symm.trans hr
      refine g_aload_n hx 14 (i := 1) 1 dX4_readOrder_14 rfl rfl ?_
      refine g_iload_n hx 15 (i := 3) 3 dX4_readOrder_15 rfl rfl ?_
      obtain ⟨hb_1338, hr⟩ := ob hr
      refine g_tq hx 16 (.ref (ae v3_1336.toNatClampNeg)) (fun U hU => (hC.2.1 U hU).2.2.1) hb_1338 rfl dX4_readOrder_16 ?_
      refine g_astore hx 17 (i := 4) [(4, .ref (ae v3_1336.toNatClampNeg)), (0, .ref (B + 7)), (1, .ref (ae 7)), (2, .int v2_1335), (3, .int v3_1336)] dX4_readOrder_17 (by decide) rfl ?_
      refine g_aload hx 19 (i := 4) 0 dX4_readOrder_19 rfl ?_
      refine g_ifnull hx 21 dX4_readOrder_21 ?_
      refine g_aload_n hx 24 (i := 0) 1 dX4_readOrder_24 rfl rfl ?_
      refine g_get hx 25 (C := RX4) (T := TX4) (N := 3) 0 (.ref (B + 8)) (pW σ B ae M 7 (by decide)) rfl (by decide) rfl fl_X4_23 dX4_readOrder_25 ?_
      refine g_aload hx 28 (i := 4) 0 dX4_readOrder_28 rfl ?_
      refine g_getXN hx 30 (.ref (ad (wi v3_1336.toNatClampNeg))) (fun U hU => ((hC.2.1 U hU).1 v3_1336.toNatClampNeg (inB_lt hb_1338)).2.2.1) (fun U hU => hC.2.2.2 U hU _ (List.mem_of_getElem? (i := 1) rfl)) dX4_readOrder_30 ?_
      obtain ⟨q_1339, eq_1339, hr⟩ := bind_e hr
      refine g_callVr hx (c_Tk_isWord l g hC (hC.1.ok (wi v3_1336.toNatClampNeg) (wi_lt _)) σ B M eq_1339) lk_X4_44 ar_Tk_isWord (pW σ B ae M 8 (by decide)) (T := TX9) (N := 6) rfl (As := [.ref (ad (wi v3_1336.toNatClampNeg))]) (rest := []) rfl (Nat.le_of_ble_eq_true rfl) ⟨Nat.le_of_ble_eq_true rfl, Nat.le_of_ble_eq_true rfl⟩ ⟨rfl, rfl⟩ ⟨Nat.zero_le _, Nat.zero_le _⟩ dX4_readOrder_33 ?_
      refine g_if_eq hx 36 42 dX4_readOrder_36 (by decide) (fun hc_1340 => ?_) (fun hc_1340 => ?_)
      · have hr := (if_pos hc_1340).symm.trans hr
        refine g_iinc hx 42 (i := 3) 4 (v3_1336 + 1) [(3, .int (v3_1336 + 1)), (4, .ref (ae v3_1336.toNatClampNeg)), (0, .ref (B + 7)), (1, .ref (ae 7)), (2, .int v2_1335)] dX4_readOrder_42 rfl rfl (by decide) rfl ?_
        refine g_goto hx 45 9 dX4_readOrder_45 (by decide) ?_
        refine g_ls [2, 3, 4, 0] [(0, .ref (B + 7)), (1, .ref (ae 7)), (2, .int v2_1335), (3, .int (v3_1336 + 1))] rfl ?_
        exact ih v2_1335 (v3_1336 + 1) hr
      · have hr := (if_neg hc_1340).symm.trans hr
        refine g_aload hx 39 (i := 4) 0 dX4_readOrder_39 rfl ?_
        exact g_aret hx hR 41 (Or.inr ⟨_, rfl⟩) dX4_readOrder_41 ⟨by rw [← Option.some.inj hr] <;> rfl, rfl⟩
set_option maxRecDepth 100000 in
set_option maxHeartbeats 4000000 in
theorem c_Ps_readOrder {ad ae : Nat → Nat} (l : Launch) (g : Gl) (hC : KAll g ad ae) (σ : Hp) (B : Nat) (M : WM) {r : Option Nat} (hr : Ps_readOrder M = some r) : MG l g md_Ps_readOrder [.ref (B + 7)] (putW σ B ae M) (rs (some (va_rf (Option.map ae r))) (putW σ B ae M)) := by
  refine MG.intro (by decide +kernel) (Nat.le_of_ble_eq_true rfl) (fun X hx hR _ => ?_)
  unfold Ps_readOrder at hr
  refine g_ls [0] [(0, .ref (B + 7))] rfl ?_
  refine g_getsN hx 0 (.ref (ae 7)) (fun U hU => (hC.2.1 U hU).2.1) (fun U hU => hC.2.2.2 U hU _ (List.mem_of_getElem? (i := 0) rfl)) dX4_readOrder_0 ?_
  refine g_astore_n hx 3 (i := 1) [(1, .ref (ae 7)), (0, .ref (B + 7))] dX4_readOrder_3 rfl (by decide) rfl ?_
  refine g_aload_n hx 4 (i := 1) 0 dX4_readOrder_4 rfl rfl ?_
  refine g_tlen hx 5 (fun U hU => (hC.2.1 U hU).2.2.1) dX4_readOrder_5 ?_
  obtain ⟨v2_1334, ev2_1334, hr⟩ := lt'_e hr
  refine g_nmi ev2_1334 ?_
  refine g_istore_n hx 6 (i := 2) [(2, .int v2_1334), (1, .ref (ae 7)), (0, .ref (B + 7))] dX4_readOrder_6 rfl (by decide) rfl ?_
  refine g_iconst hx 7 (0) dX4_readOrder_7 rfl ?_
  refine g_istore_n hx 8 (i := 3) [(3, .int 0), (2, .int v2_1334), (1, .ref (ae 7)), (0, .ref (B + 7))] dX4_readOrder_8 rfl (by decide) rfl ?_
  refine g_ls [3, 2, 1, 0] [(0, .ref (B + 7)), (1, .ref (ae 7)), (2, .int v2_1334), (3, .int 0)] rfl ?_
  exact w_Ps_readOrder_L9 hx hC hR FU v2_1334 0 hr
def Ps_readNumbers (oo : Nat) (M : WM) : Option (Int32 × WM) := Option.bind (Ps_readNumber M (oL oo) (oM oo)) fun q_1341 => if q_1341.1 = 0 then (some ((0, q_1341.2))) else (lt' (Tk_value q_1341.2) fun v3_1343 => if oS oo = (-1) then (Option.bind (Sc_add oo q_1341.2 v3_1343 (-1)) fun M_1345 => Option.bind (Tk_next M_1345) fun M_1346 => Option.bind (Ps_isEnded M_1346) fun q_1347 => if q_1347.1 = 0 ∨ q_1347.1 = 1 then (some ((q_1347.1, q_1347.2))) else none) else (Option.bind (Ps_readNumber q_1341.2 0 (oS oo)) fun q_1349 => if q_1349.1 = 0 then (some ((0, q_1349.2))) else (lt' (Tk_value q_1349.2) fun v4_1351 => Option.bind (Sc_add oo q_1349.2 v3_1343 v4_1351) fun M_1352 => Option.bind (Tk_next M_1352) fun M_1353 => Option.bind (Ps_isEnded M_1353) fun q_1354 => if q_1354.1 = 0 ∨ q_1354.1 = 1 then (some ((q_1354.1, q_1354.2))) else none)))
set_option maxRecDepth 100000 in
set_option maxHeartbeats 4000000 in
theorem c_Ps_readNumbers {ad ae : Nat → Nat} {oo : Nat} (l : Launch) (g : Gl) (hC : KAll g ad ae) (ho : oo < 7) (σ : Hp) (B : Nat) (M : WM) {r : Int32 × WM} (hr : Ps_readNumbers oo M = some r) : MG l g md_Ps_readNumbers [.ref (B + 7), .ref (ae oo), .ref (B + 9)] (putW σ B ae M) (rs (some (.int r.1)) (putW σ B ae r.2)) := by
  refine MG.intro (by decide +kernel) (Nat.le_of_ble_eq_true rfl) (fun X hx hR _ => ?_)
  unfold Ps_readNumbers at hr
  refine g_ls [0, 1, 2] [(0, .ref (B + 7)), (1, .ref (ae oo)), (2, .ref (B + 9))] rfl ?_
  refine g_aload_n hx 0 (i := 0) 0 dX4_readNumbers_0 rfl rfl ?_
  refine g_aload_n hx 1 (i := 1) 1 dX4_readNumbers_1 rfl rfl ?_
  refine g_getXN hx 2 (.int (oL oo)) (fun U hU => ((hC.2.1 U hU).1 oo ho).2.2.2.1) (fun U hU => hC.2.2.2 U hU _ (List.mem_of_getElem? (i := 2) rfl)) dX4_readNumbers_2 ?_
  refine g_aload_n hx 5 (i := 1) 1 dX4_readNumbers_5 rfl rfl ?_
  refine g_getXN hx 6 (.int (oM oo)) (fun U hU => ((hC.2.1 U hU).1 oo ho).2.2.2.2.1) (fun U hU => hC.2.2.2 U hU _ (List.mem_of_getElem? (i := 3) rfl)) dX4_readNumbers_6 ?_
  obtain ⟨q_1341, eq_1341, hr⟩ := bind_e hr
  refine g_callVr hx (c_Ps_readNumber l g hC σ B M (oL oo) (oM oo) eq_1341) lk_X4_71 ar_Ps_readNumber (pW σ B ae M 7 (by decide)) (T := TX4) (N := 3) rfl (As := [.int (oL oo), .int (oM oo)]) (rest := []) rfl (Nat.le_of_ble_eq_true rfl) ⟨Nat.le_of_ble_eq_true rfl, Nat.le_of_ble_eq_true rfl⟩ ⟨rfl, rfl⟩ ⟨Nat.zero_le _, Nat.zero_le _⟩ dX4_readNumbers_9 ?_
  refine g_if_ne hx 12 17 dX4_readNumbers_12 (by decide) (fun hc_1342 => ?_) (fun hc_1342 => ?_)
  · have hr := (if_neg hc_1342).symm.trans hr
    refine g_aload_n hx 17 (i := 0) 0 dX4_readNumbers_17 rfl rfl ?_
    refine g_get hx 18 (C := RX4) (T := TX4) (N := 3) 0 (.ref (B + 8)) (pW σ B ae q_1341.2 7 (by decide)) rfl (by decide) rfl fl_X4_23 dX4_readNumbers_18 ?_
    refine g_callVr hx (c_Tk_value l g hC σ B q_1341.2 rfl) lk_X4_75 ar_Tk_value (pW σ B ae q_1341.2 8 (by decide)) (T := TX9) (N := 6) rfl (As := []) (rest := []) rfl (Nat.le_of_ble_eq_true rfl) ⟨Nat.le_of_ble_eq_true rfl, Nat.le_of_ble_eq_true rfl⟩ ⟨rfl, rfl⟩ ⟨Nat.zero_le _, Nat.zero_le _⟩ dX4_readNumbers_21 ?_
    obtain ⟨v3_1343, ev3_1343, hr⟩ := lt'_e hr
    refine g_nmi ev3_1343 ?_
    refine g_istore_n hx 24 (i := 3) [(3, .int v3_1343), (0, .ref (B + 7)), (1, .ref (ae oo)), (2, .ref (B + 9))] dX4_readNumbers_24 rfl (by decide) rfl ?_
    refine g_iconst hx 25 (-1) dX4_readNumbers_25 rfl ?_
    refine g_istore hx 26 (i := 4) [(4, .int (-1)), (3, .int v3_1343), (0, .ref (B + 7)), (1, .ref (ae oo)), (2, .ref (B + 9))] dX4_readNumbers_26 (by decide) rfl ?_
    refine g_aload_n hx 28 (i := 1) 3 dX4_readNumbers_28 rfl rfl ?_
    refine g_getXN hx 29 (.int (oS oo)) (fun U hU => ((hC.2.1 U hU).1 oo ho).2.2.2.2.2) (fun U hU => hC.2.2.2 U hU _ (List.mem_of_getElem? (i := 4) rfl)) dX4_readNumbers_29 ?_
    refine g_iconst hx 32 (-1) dX4_readNumbers_32 rfl ?_
    refine g_icmp_eq hx 33 59 dX4_readNumbers_33 (by decide) (fun hc_1344 => ?_) (fun hc_1344 => ?_)
    · have hr := (if_pos hc_1344).symm.trans hr
      refine g_aload_n hx 59 (i := 2) 4 dX4_readNumbers_59 rfl rfl ?_
      refine g_aload_n hx 60 (i := 1) 3 dX4_readNumbers_60 rfl rfl ?_
      refine g_iload_n hx 61 (i := 3) 1 dX4_readNumbers_61 rfl rfl ?_
      refine g_iload hx 62 (i := 4) 0 dX4_readNumbers_62 rfl ?_
      obtain ⟨M_1345, eM_1345, hr⟩ := bind_e hr
      refine g_callVv hx (c_Sc_add l g hC ho σ B q_1341.2 v3_1343 (-1) eM_1345) lk_X4_122 ar_Sc_add (pW σ B ae q_1341.2 9 (by decide)) (T := TX6) (N := 3) rfl (As := [.ref (ae oo), .int v3_1343, .int (-1)]) (rest := []) rfl (Nat.le_of_ble_eq_true rfl) ⟨Nat.le_of_ble_eq_true rfl, Nat.le_of_ble_eq_true rfl⟩ ⟨rfl, rfl⟩ ⟨Nat.zero_le _, Nat.zero_le _⟩ dX4_readNumbers_64 ?_
      refine g_aload_n hx 67 (i := 0) 2 dX4_readNumbers_67 rfl rfl ?_
      refine g_get hx 68 (C := RX4) (T := TX4) (N := 3) 0 (.ref (B + 8)) (pW σ B ae M_1345 7 (by decide)) rfl (by decide) rfl fl_X4_23 dX4_readNumbers_68 ?_
      obtain ⟨M_1346, eM_1346, hr⟩ := bind_e hr
      refine g_callVv hx (c_Tk_next l g hC σ B M_1345 eM_1346) lk_X4_35 ar_Tk_next (pW σ B ae M_1345 8 (by decide)) (T := TX9) (N := 6) rfl (As := []) (rest := []) rfl (Nat.le_of_ble_eq_true rfl) ⟨Nat.le_of_ble_eq_true rfl, Nat.le_of_ble_eq_true rfl⟩ ⟨rfl, rfl⟩ ⟨Nat.zero_le _, Nat.zero_le _⟩ dX4_readNumbers_71 ?_
      refine g_aload_n hx 74 (i := 0) 2 dX4_readNumbers_74 rfl rfl ?_
      obtain ⟨q_1347, eq_1347, hr⟩ := bind_e hr
      refine g_callVr hx (c_Ps_isEnded l g hC σ B M_1346 eq_1347) lk_X4_83 ar_Ps_isEnded (pW σ B ae M_1346 7 (by decide)) (T := TX4) (N := 3) rfl (As := []) (rest := []) rfl (Nat.le_of_ble_eq_true rfl) ⟨Nat.le_of_ble_eq_true rfl, Nat.le_of_ble_eq_true rfl⟩ ⟨rfl, rfl⟩ ⟨Nat.zero_le _, Nat.zero_le _⟩ dX4_readNumbers_75 ?_
      obtain ⟨hz_1348, hr⟩ := ob hr
      exact g_zret hx hR 78 hz_1348 dX4_readNumbers_78 ⟨by rw [← Option.some.inj hr] <;> rfl, by rw [← Option.some.inj hr] <;> rfl⟩
    · have hr := (if_neg hc_1344).symm.trans hr
      refine g_aload_n hx 36 (i := 0) 2 dX4_readNumbers_36 rfl rfl ?_
      refine g_iconst hx 37 (0) dX4_readNumbers_37 rfl ?_
      refine g_aload_n hx 38 (i := 1) 3 dX4_readNumbers_38 rfl rfl ?_
      refine g_getXN hx 39 (.int (oS oo)) (fun U hU => ((hC.2.1 U hU).1 oo ho).2.2.2.2.2) (fun U hU => hC.2.2.2 U hU _ (List.mem_of_getElem? (i := 4) rfl)) dX4_readNumbers_39 ?_
      obtain ⟨q_1349, eq_1349, hr⟩ := bind_e hr
      refine g_callVr hx (c_Ps_readNumber l g hC σ B q_1341.2 0 (oS oo) eq_1349) lk_X4_71 ar_Ps_readNumber (pW σ B ae q_1341.2 7 (by decide)) (T := TX4) (N := 3) rfl (As := [.int 0, .int (oS oo)]) (rest := []) rfl (Nat.le_of_ble_eq_true rfl) ⟨Nat.le_of_ble_eq_true rfl, Nat.le_of_ble_eq_true rfl⟩ ⟨rfl, rfl⟩ ⟨Nat.zero_le _, Nat.zero_le _⟩ dX4_readNumbers_42 ?_
      refine g_if_ne hx 45 50 dX4_readNumbers_45 (by decide) (fun hc_1350 => ?_) (fun hc_1350 => ?_)
      · have hr := (if_neg hc_1350).symm.trans hr
        refine g_aload_n hx 50 (i := 0) 2 dX4_readNumbers_50 rfl rfl ?_
        refine g_get hx 51 (C := RX4) (T := TX4) (N := 3) 0 (.ref (B + 8)) (pW σ B ae q_1349.2 7 (by decide)) rfl (by decide) rfl fl_X4_23 dX4_readNumbers_51 ?_
        refine g_callVr hx (c_Tk_value l g hC σ B q_1349.2 rfl) lk_X4_75 ar_Tk_value (pW σ B ae q_1349.2 8 (by decide)) (T := TX9) (N := 6) rfl (As := []) (rest := []) rfl (Nat.le_of_ble_eq_true rfl) ⟨Nat.le_of_ble_eq_true rfl, Nat.le_of_ble_eq_true rfl⟩ ⟨rfl, rfl⟩ ⟨Nat.zero_le _, Nat.zero_le _⟩ dX4_readNumbers_54 ?_
        obtain ⟨v4_1351, ev4_1351, hr⟩ := lt'_e hr
        refine g_nmi ev4_1351 ?_
        refine g_istore hx 57 (i := 4) [(4, .int v4_1351), (3, .int v3_1343), (0, .ref (B + 7)), (1, .ref (ae oo)), (2, .ref (B + 9))] dX4_readNumbers_57 (by decide) rfl ?_
        refine g_aload_n hx 59 (i := 2) 4 dX4_readNumbers_59 rfl rfl ?_
        refine g_aload_n hx 60 (i := 1) 3 dX4_readNumbers_60 rfl rfl ?_
        refine g_iload_n hx 61 (i := 3) 1 dX4_readNumbers_61 rfl rfl ?_
        refine g_iload hx 62 (i := 4) 0 dX4_readNumbers_62 rfl ?_
        obtain ⟨M_1352, eM_1352, hr⟩ := bind_e hr
        refine g_callVv hx (c_Sc_add l g hC ho σ B q_1349.2 v3_1343 v4_1351 eM_1352) lk_X4_122 ar_Sc_add (pW σ B ae q_1349.2 9 (by decide)) (T := TX6) (N := 3) rfl (As := [.ref (ae oo), .int v3_1343, .int v4_1351]) (rest := []) rfl (Nat.le_of_ble_eq_true rfl) ⟨Nat.le_of_ble_eq_true rfl, Nat.le_of_ble_eq_true rfl⟩ ⟨rfl, rfl⟩ ⟨Nat.zero_le _, Nat.zero_le _⟩ dX4_readNumbers_64 ?_
        refine g_aload_n hx 67 (i := 0) 2 dX4_readNumbers_67 rfl rfl ?_
        refine g_get hx 68 (C := RX4) (T := TX4) (N := 3) 0 (.ref (B + 8)) (pW σ B ae M_1352 7 (by decide)) rfl (by decide) rfl fl_X4_23 dX4_readNumbers_68 ?_
        obtain ⟨M_1353, eM_1353, hr⟩ := bind_e hr
        refine g_callVv hx (c_Tk_next l g hC σ B M_1352 eM_1353) lk_X4_35 ar_Tk_next (pW σ B ae M_1352 8 (by decide)) (T := TX9) (N := 6) rfl (As := []) (rest := []) rfl (Nat.le_of_ble_eq_true rfl) ⟨Nat.le_of_ble_eq_true rfl, Nat.le_of_ble_eq_true rfl⟩ ⟨rfl, rfl⟩ ⟨Nat.zero_le _, Nat.zero_le _⟩ dX4_readNumbers_71 ?_
        refine g_aload_n hx 74 (i := 0) 2 dX4_readNumbers_74 rfl rfl ?_
        obtain ⟨q_1354, eq_1354, hr⟩ := bind_e hr
        refine g_callVr hx (c_Ps_isEnded l g hC σ B M_1353 eq_1354) lk_X4_83 ar_Ps_isEnded (pW σ B ae M_1353 7 (by decide)) (T := TX4) (N := 3) rfl (As := []) (rest := []) rfl (Nat.le_of_ble_eq_true rfl) ⟨Nat.le_of_ble_eq_true rfl, Nat.le_of_ble_eq_true rfl⟩ ⟨rfl, rfl⟩ ⟨Nat.zero_le _, Nat.zero_le _⟩ dX4_readNumbers_75 ?_
        obtain ⟨hz_1355, hr⟩ := ob hr
        exact g_zret hx hR 78 hz_1355 dX4_readNumbers_78 ⟨by rw [← Option.some.inj hr] <;> rfl, by rw [← Option.some.inj hr] <;> rfl⟩
      · have hr := (if_pos hc_1350).symm.trans hr
        refine g_iconst hx 48 (0) dX4_readNumbers_48 rfl ?_
        exact g_zret hx hR 49 (Or.inl rfl) dX4_readNumbers_49 ⟨by rw [← Option.some.inj hr] <;> rfl, by rw [← Option.some.inj hr] <;> rfl⟩
  · have hr := (if_pos hc_1342).symm.trans hr
    refine g_iconst hx 15 (0) dX4_readNumbers_15 rfl ?_
    exact g_zret hx hR 16 (Or.inl rfl) dX4_readNumbers_16 ⟨by rw [← Option.some.inj hr] <;> rfl, by rw [← Option.some.inj hr] <;> rfl⟩
def Ps_readScript_L18 : Nat → WM → Int32 → Int32 → Option (Int32 × WM)
  | 0, _, _, _ => none
  | n + 1, M, v1_1359, v3_1360 => if 20 < v3_1360 then (some ((M.2.2.1 5, M))) else (if Tk_kind M = 0 then (some ((0, M))) else (Option.bind (Ps_readOrder M) fun q_1363 => oc (q_1363) (lt' (Ps_fail M 1) fun q_1367 => some ((q_1367.2.2.2.1 5, q_1367.2))) (fun o_1365 => if o_1365 < 7 then (if v3_1360 = 20 then (lt' (Ps_fail M 4) fun q_1369 => some ((q_1369.2.2.2.1 5, q_1369.2))) else (Option.bind (Ps_readNumbers o_1365 M) fun q_1370 => if q_1370.1 = 0 then (some ((q_1370.2.2.2.1 5, q_1370.2))) else (Option.bind (Tk_next q_1370.2) fun M_1372 => Ps_readScript_L18 n M_1372 v1_1359 (v3_1360 + 1)))) else none)))
def Ps_readScript (M : WM) (p1 : Int32) : Option (Int32 × WM) := lt' (Ps_begin M p1) fun M_1356 => lt' (Sc_clear M_1356) fun M_1357 => Option.bind (Tk_next M_1357) fun M_1358 => Ps_readScript_L18 FU M_1358 p1 0
set_option maxRecDepth 100000 in
set_option maxHeartbeats 4000000 in
theorem w_Ps_readScript_L18 {ad ae : Nat → Nat} {X : Cx} {l : Launch} {g : Gl} (hx : Ok X l g RX4 cX4_readScript 5 md_Ps_readScript.rm) (hC : KAll g ad ae) {σ : Hp} {B : Nat} {r : Int32 × WM} (hR : Ret X (rs (some (.int r.1)) (putW σ B ae r.2)) 0 0 (some .int)) : ∀ (n : Nat) (M : WM) (v1_1359 v3_1360 : Int32), Ps_readScript_L18 n M v1_1359 v3_1360 = some r → G X (putW σ B ae M) 0 0 18 [(0, .ref (B + 7)), (1, .int v1_1359), (2, .ref (B + 9)), (3, .int v3_1360)] [] := by
  intro n
  induction n with
  | zero =>
    intro M v1_1359 v3_1360 hr
    rw [Ps_readScript_L18] at hr
    cases hr
  | succ n ih =>
    intro M v1_1359 v3_1360 hr
    rw [Ps_readScript_L18] at hr
    refine g_iload_n hx 18 (i := 3) 3 dX4_readScript_18 rfl rfl ?_
    refine g_bipush hx 19 (20) dX4_readScript_19 rfl ?_
    refine g_icmp_gt hx 21 103 dX4_readScript_21 (by decide) (fun hc_1361 => ?_) (fun hc_1361 => ?_)
    · have hr := (if_pos hc_1361).symm.trans hr
      refine g_aload_n hx 103 (i := 0) 0 dX4_readScript_103 rfl rfl ?_
      refine g_get hx 104 (C := RX4) (T := TX4) (N := 3) 1 (.int (M.2.2.1 5)) (pW σ B ae M 7 (by decide)) rfl (by decide) rfl fl_X4_9 dX4_readScript_104 ?_
      exact g_iret hx hR 107 dX4_readScript_107 ⟨by rw [← Option.some.inj hr] <;> rfl, by rw [← Option.some.inj hr] <;> rfl⟩
    · have hr := (if_neg hc_1361).symm.trans hr
      refine g_aload_n hx 24 (i := 0) 0 dX4_readScript_24 rfl rfl ?_
      refine g_get hx 25 (C := RX4) (T := TX4) (N := 3) 0 (.ref (B + 8)) (pW σ B ae M 7 (by decide)) rfl (by decide) rfl fl_X4_23 dX4_readScript_25 ?_
      refine g_callVr hx (c_Tk_kind l g hC σ B M rfl) lk_X4_38 ar_Tk_kind (pW σ B ae M 8 (by decide)) (T := TX9) (N := 6) rfl (As := []) (rest := []) rfl (Nat.le_of_ble_eq_true rfl) ⟨Nat.le_of_ble_eq_true rfl, Nat.le_of_ble_eq_true rfl⟩ ⟨rfl, rfl⟩ ⟨Nat.zero_le _, Nat.zero_le _⟩ dX4_readScript_28 ?_
      refine g_if_ne hx 31 36 dX4_readScript_31 (by decide) (fun hc_1362 => ?_) (fun hc_1362 => ?_)
      · have hr := (if_neg hc_1362).symm.trans hr
        refine g_aload_n hx 36 (i := 0) 0 dX4_readScript_36 rfl rfl ?_
        obtain ⟨q_1363, eq_1363, hr⟩ := bind_e hr
        refine g_callVr hx (c_Ps_readOrder l g hC σ B M eq_1363) lk_X4_60 ar_Ps_readOrder (pW σ B ae M 7 (by decide)) (T := TX4) (N := 3) rfl (As := []) (rest := []) rfl (Nat.le_of_ble_eq_true rfl) ⟨Nat.le_of_ble_eq_true rfl, Nat.le_of_ble_eq_true rfl⟩ ⟨rfl, rfl⟩ ⟨Nat.zero_le _, Nat.zero_le _⟩ dX4_readScript_37 ?_
        rcases oc_e hr with ⟨ho_1364, hr⟩ | ⟨o_1365, ho_1364, hr⟩
        · rw [ho_1364]
          show G X _ 0 0 40 [(0, .ref (B + 7)), (1, .int v1_1359), (2, .ref (B + 9)), (3, .int v3_1360)] [.null]
          refine g_astoreN hx 40 (i := 4) [(4, .null), (0, .ref (B + 7)), (1, .int v1_1359), (2, .ref (B + 9)), (3, .int v3_1360)] dX4_readScript_40 (by decide) rfl ?_
          refine g_aloadN hx 42 (i := 4) 0 dX4_readScript_42 rfl ?_
          refine g_ifnonnullN hx 44 dX4_readScript_44 ?_
          refine g_aload_n hx 47 (i := 0) 1 dX4_readScript_47 rfl rfl ?_
          refine g_iconst hx 48 (1) dX4_readScript_48 rfl ?_
          obtain ⟨q_1367, eq_1367, hr⟩ := lt'_e hr
          refine g_callVr hx (c_Ps_fail l g hC σ B M 1 eq_1367.symm) lk_X4_48 ar_Ps_fail (pW σ B ae M 7 (by decide)) (T := TX4) (N := 3) rfl (As := [.int 1]) (rest := []) rfl (Nat.le_of_ble_eq_true rfl) ⟨Nat.le_of_ble_eq_true rfl, Nat.le_of_ble_eq_true rfl⟩ ⟨rfl, rfl⟩ ⟨Nat.zero_le _, Nat.zero_le _⟩ dX4_readScript_49 ?_
          refine g_pop hx 52 dX4_readScript_52 rfl ?_
          refine g_aload_n hx 53 (i := 0) 1 dX4_readScript_53 rfl rfl ?_
          refine g_get hx 54 (C := RX4) (T := TX4) (N := 3) 1 (.int (q_1367.2.2.2.1 5)) (pW σ B ae q_1367.2 7 (by decide)) rfl (by decide) rfl fl_X4_9 dX4_readScript_54 ?_
          exact g_iret hx hR 57 dX4_readScript_57 ⟨by rw [← Option.some.inj hr] <;> rfl, by rw [← Option.some.inj hr] <;> rfl⟩
        · obtain ⟨hl_1366, hr⟩ := ob hr
          rw [ho_1364]
          show G X _ 0 0 40 [(0, .ref (B + 7)), (1, .int v1_1359), (2, .ref (B + 9)), (3, .int v3_1360)] [.ref (ae o_1365)]
          refine g_astore hx 40 (i := 4) [(4, .ref (ae o_1365)), (0, .ref (B + 7)), (1, .int v1_1359), (2, .ref (B + 9)), (3, .int v3_1360)] dX4_readScript_40 (by decide) rfl ?_
          refine g_aload hx 42 (i := 4) 0 dX4_readScript_42 rfl ?_
          refine g_ifnonnull hx 44 58 dX4_readScript_44 (by decide) ?_
          refine g_iload_n hx 58 (i := 3) 4 dX4_readScript_58 rfl rfl ?_
          refine g_bipush hx 59 (20) dX4_readScript_59 rfl ?_
          refine g_icmp_ne hx 61 75 dX4_readScript_61 (by decide) (fun hc_1368 => ?_) (fun hc_1368 => ?_)
          · have hr := (if_neg hc_1368).symm.trans hr
            refine g_aload_n hx 75 (i := 0) 1 dX4_readScript_75 rfl rfl ?_
            refine g_aload hx 76 (i := 4) 0 dX4_readScript_76 rfl ?_
            refine g_aload_n hx 78 (i := 2) 3 dX4_readScript_78 rfl rfl ?_
            obtain ⟨q_1370, eq_1370, hr⟩ := bind_e hr
            refine g_callVr hx (c_Ps_readNumbers l g hC hl_1366 σ B M eq_1370) lk_X4_64 ar_Ps_readNumbers (pW σ B ae M 7 (by decide)) (T := TX4) (N := 3) rfl (As := [.ref (ae o_1365), .ref (B + 9)]) (rest := []) rfl (Nat.le_of_ble_eq_true rfl) ⟨Nat.le_of_ble_eq_true rfl, Nat.le_of_ble_eq_true rfl⟩ ⟨rfl, rfl⟩ ⟨Nat.zero_le _, Nat.zero_le _⟩ dX4_readScript_79 ?_
            refine g_if_ne hx 82 90 dX4_readScript_82 (by decide) (fun hc_1371 => ?_) (fun hc_1371 => ?_)
            · have hr := (if_neg hc_1371).symm.trans hr
              refine g_aload_n hx 90 (i := 0) 1 dX4_readScript_90 rfl rfl ?_
              refine g_get hx 91 (C := RX4) (T := TX4) (N := 3) 0 (.ref (B + 8)) (pW σ B ae q_1370.2 7 (by decide)) rfl (by decide) rfl fl_X4_23 dX4_readScript_91 ?_
              obtain ⟨M_1372, eM_1372, hr⟩ := bind_e hr
              refine g_callVv hx (c_Tk_next l g hC σ B q_1370.2 eM_1372) lk_X4_35 ar_Tk_next (pW σ B ae q_1370.2 8 (by decide)) (T := TX9) (N := 6) rfl (As := []) (rest := []) rfl (Nat.le_of_ble_eq_true rfl) ⟨Nat.le_of_ble_eq_true rfl, Nat.le_of_ble_eq_true rfl⟩ ⟨rfl, rfl⟩ ⟨Nat.zero_le _, Nat.zero_le _⟩ dX4_readScript_94 ?_
              refine g_iinc hx 97 (i := 3) 4 (v3_1360 + 1) [(3, .int (v3_1360 + 1)), (4, .ref (ae o_1365)), (0, .ref (B + 7)), (1, .int v1_1359), (2, .ref (B + 9))] dX4_readScript_97 rfl rfl (by decide) rfl ?_
              refine g_goto hx 100 18 dX4_readScript_100 (by decide) ?_
              refine g_ls [2, 3, 4, 0] [(0, .ref (B + 7)), (1, .int v1_1359), (2, .ref (B + 9)), (3, .int (v3_1360 + 1))] rfl ?_
              exact ih M_1372 v1_1359 (v3_1360 + 1) hr
            · have hr := (if_pos hc_1371).symm.trans hr
              refine g_aload_n hx 85 (i := 0) 1 dX4_readScript_85 rfl rfl ?_
              refine g_get hx 86 (C := RX4) (T := TX4) (N := 3) 1 (.int (q_1370.2.2.2.1 5)) (pW σ B ae q_1370.2 7 (by decide)) rfl (by decide) rfl fl_X4_9 dX4_readScript_86 ?_
              exact g_iret hx hR 89 dX4_readScript_89 ⟨by rw [← Option.some.inj hr] <;> rfl, by rw [← Option.some.inj hr] <;> rfl⟩
          · have hr := (if_pos hc_1368).symm.trans hr
            refine g_aload_n hx 64 (i := 0) 1 dX4_readScript_64 rfl rfl ?_
            refine g_iconst hx 65 (4) dX4_readScript_65 rfl ?_
            obtain ⟨q_1369, eq_1369, hr⟩ := lt'_e hr
            refine g_callVr hx (c_Ps_fail l g hC σ B M 4 eq_1369.symm) lk_X4_48 ar_Ps_fail (pW σ B ae M 7 (by decide)) (T := TX4) (N := 3) rfl (As := [.int 4]) (rest := []) rfl (Nat.le_of_ble_eq_true rfl) ⟨Nat.le_of_ble_eq_true rfl, Nat.le_of_ble_eq_true rfl⟩ ⟨rfl, rfl⟩ ⟨Nat.zero_le _, Nat.zero_le _⟩ dX4_readScript_66 ?_
            refine g_pop hx 69 dX4_readScript_69 rfl ?_
            refine g_aload_n hx 70 (i := 0) 1 dX4_readScript_70 rfl rfl ?_
            refine g_get hx 71 (C := RX4) (T := TX4) (N := 3) 1 (.int (q_1369.2.2.2.1 5)) (pW σ B ae q_1369.2 7 (by decide)) rfl (by decide) rfl fl_X4_9 dX4_readScript_71 ?_
            exact g_iret hx hR 74 dX4_readScript_74 ⟨by rw [← Option.some.inj hr] <;> rfl, by rw [← Option.some.inj hr] <;> rfl⟩
      · have hr := (if_pos hc_1362).symm.trans hr
        refine g_iconst hx 34 (0) dX4_readScript_34 rfl ?_
        exact g_iret hx hR 35 dX4_readScript_35 ⟨by rw [← Option.some.inj hr] <;> rfl, by rw [← Option.some.inj hr] <;> rfl⟩
set_option maxRecDepth 100000 in
set_option maxHeartbeats 4000000 in
theorem c_Ps_readScript {ad ae : Nat → Nat} (l : Launch) (g : Gl) (hC : KAll g ad ae) (σ : Hp) (B : Nat) (M : WM) (p1 : Int32) {r : Int32 × WM} (hr : Ps_readScript M p1 = some r) : MG l g md_Ps_readScript [.ref (B + 7), .int p1, .ref (B + 9)] (putW σ B ae M) (rs (some (.int r.1)) (putW σ B ae r.2)) := by
  refine MG.intro (by decide +kernel) (Nat.le_of_ble_eq_true rfl) (fun X hx hR _ => ?_)
  unfold Ps_readScript at hr
  refine g_ls [0, 1, 2] [(0, .ref (B + 7)), (1, .int p1), (2, .ref (B + 9))] rfl ?_
  refine g_aload_n hx 0 (i := 0) 0 dX4_readScript_0 rfl rfl ?_
  refine g_iload_n hx 1 (i := 1) 1 dX4_readScript_1 rfl rfl ?_
  obtain ⟨M_1356, eM_1356, hr⟩ := lt'_e hr
  refine g_callVv hx (c_Ps_begin l g hC σ B M p1 eM_1356.symm) lk_X4_27 ar_Ps_begin (pW σ B ae M 7 (by decide)) (T := TX4) (N := 3) rfl (As := [.int p1]) (rest := []) rfl (Nat.le_of_ble_eq_true rfl) ⟨Nat.le_of_ble_eq_true rfl, Nat.le_of_ble_eq_true rfl⟩ ⟨rfl, rfl⟩ ⟨Nat.zero_le _, Nat.zero_le _⟩ dX4_readScript_2 ?_
  refine g_aload_n hx 5 (i := 2) 2 dX4_readScript_5 rfl rfl ?_
  obtain ⟨M_1357, eM_1357, hr⟩ := lt'_e hr
  refine g_callVv hx (c_Sc_clear l g hC σ B M_1356 eM_1357.symm) lk_X4_55 ar_Sc_clear (pW σ B ae M_1356 9 (by decide)) (T := TX6) (N := 3) rfl (As := []) (rest := []) rfl (Nat.le_of_ble_eq_true rfl) ⟨Nat.le_of_ble_eq_true rfl, Nat.le_of_ble_eq_true rfl⟩ ⟨rfl, rfl⟩ ⟨Nat.zero_le _, Nat.zero_le _⟩ dX4_readScript_6 ?_
  refine g_aload_n hx 9 (i := 0) 0 dX4_readScript_9 rfl rfl ?_
  refine g_get hx 10 (C := RX4) (T := TX4) (N := 3) 0 (.ref (B + 8)) (pW σ B ae M_1357 7 (by decide)) rfl (by decide) rfl fl_X4_23 dX4_readScript_10 ?_
  obtain ⟨M_1358, eM_1358, hr⟩ := bind_e hr
  refine g_callVv hx (c_Tk_next l g hC σ B M_1357 eM_1358) lk_X4_35 ar_Tk_next (pW σ B ae M_1357 8 (by decide)) (T := TX9) (N := 6) rfl (As := []) (rest := []) rfl (Nat.le_of_ble_eq_true rfl) ⟨Nat.le_of_ble_eq_true rfl, Nat.le_of_ble_eq_true rfl⟩ ⟨rfl, rfl⟩ ⟨Nat.zero_le _, Nat.zero_le _⟩ dX4_readScript_13 ?_
  refine g_iconst hx 16 (0) dX4_readScript_16 rfl ?_
  refine g_istore_n hx 17 (i := 3) [(3, .int 0), (0, .ref (B + 7)), (1, .int p1), (2, .ref (B + 9))] dX4_readScript_17 rfl (by decide) rfl ?_
  refine g_ls [1, 2, 3, 0] [(0, .ref (B + 7)), (1, .int p1), (2, .ref (B + 9)), (3, .int 0)] rfl ?_
  exact w_Ps_readScript_L18 hx hC hR FU M_1358 p1 0 hr
def Sc_count (M : WM) : Int32 := nI (M.2.1 3).length
set_option maxRecDepth 100000 in
set_option maxHeartbeats 4000000 in
theorem c_Sc_count {ad ae : Nat → Nat} (l : Launch) (g : Gl) (hC : KAll g ad ae) (σ : Hp) (B : Nat) (M : WM) {r : Int32} (hr : Sc_count M = r) : MG l g md_Sc_count [.ref (B + 9)] (putW σ B ae M) (rs (some (.int r)) (putW σ B ae M)) := by
  refine MG.intro (by decide +kernel) (Nat.le_of_ble_eq_true rfl) (fun X hx hR _ => ?_)
  unfold Sc_count at hr
  refine g_ls [0] [(0, .ref (B + 9))] rfl ?_
  refine g_aload_n hx 0 (i := 0) 0 dX6_count_0 rfl rfl ?_
  refine g_get hx 1 (C := RX6) (T := TX6) (N := 3) 1 (.ref (B + 11)) (pW σ B ae M 9 (by decide)) rfl (by decide) rfl fl_X6_22 dX6_count_1 ?_
  refine g_callVr hx (k_count l g (pW_l3 σ B ae M) (by decide)) lk_X6_29 ar_Ln_count (pW_l3 σ B ae M).1 (T := TX2) (N := 2) rfl (As := []) (rest := []) rfl (Nat.le_of_ble_eq_true rfl) ⟨Nat.le_of_ble_eq_true rfl, Nat.le_of_ble_eq_true rfl⟩ ⟨rfl, rfl⟩ ⟨Nat.zero_le _, Nat.zero_le _⟩ dX6_count_4 ?_
  exact g_iret hx hR 7 dX6_count_7 ⟨by rw [← hr] <;> rfl, rfl⟩
