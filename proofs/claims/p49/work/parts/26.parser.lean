def md_Hi_count : Md := (yX1_count, cX1_count, 1, some .int, 0, 0, 0, 0)
def md_Hi_clear : Md := (yX1_clear, cX1_clear, 1, none, 0, 0, 0, 0)
def md_Hi_keep : Md := (yX1_keep, cX1_keep, 1, none, 0, 0, 0, 0)
def md_Ps_errorPlace : Md := (yX4_errorPlace, cX4_errorPlace, 1, some .int, 0, 0, 0, 0)
def md_Tk_begin : Md := (yX9_begin, cX9_begin, 2, none, 0, 0, 0, 0)
def md_Ps_begin : Md := (yX4_begin, cX4_begin, 2, none, 1, 21, 0, 0)
def md_Tk_isBlank : Md := (yX9_isBlank, cX9_isBlank, 1, some .boolean, 0, 0, 0, 0)
def md_Tk_isLetter : Md := (yX9_isLetter, cX9_isLetter, 1, some .boolean, 0, 0, 0, 0)
def md_Tk_readWord : Md := (yX9_readWord, cX9_readWord, 1, none, 1, 21, 0, 0)
def md_Tk_isDigit : Md := (yX9_isDigit, cX9_isDigit, 1, some .boolean, 0, 0, 0, 0)
def md_Tk_readNumber : Md := (yX9_readNumber, cX9_readNumber, 1, none, 1, 60, 0, 0)
def md_Tk_next : Md := (yX9_next, cX9_next, 2, none, 2, 80, 0, 0)
def md_Tk_isWord : Md := (yX9_isWord, cX9_isWord, 3, some .boolean, 4, 100, 0, 0)
def md_Tk_start : Md := (yX9_start, cX9_start, 1, some .int, 0, 0, 0, 0)
def md_Ps_fail : Md := (yX4_fail, cX4_fail, 2, some .boolean, 1, 20, 0, 0)
def md_Tk_kind : Md := (yX9_kind, cX9_kind, 1, some .int, 0, 0, 0, 0)
def md_Tk_value : Md := (yX9_value, cX9_value, 1, some .int, 0, 0, 0, 0)
def md_Ps_readNumber : Md := (yX4_readNumber, cX4_readNumber, 3, some .boolean, 3, 101, 0, 0)
def md_Ps_isEnded : Md := (yX4_isEnded, cX4_isEnded, 1, some .boolean, 2, 41, 0, 0)
def md_Ps_readHead : Md := (yX4_readHead, cX4_readHead, 5, some .boolean, 5, 123, 0, 0)
def md_Ps_readFolder : Md := (yX4_readFolder, cX4_readFolder, 4, some .boolean, 5, 123, 0, 0)
def md_Ps_readArchive : Md := (yX4_readArchive, cX4_readArchive, 4, some .int, 6, 147, 0, 0)
theorem fl_X4_15 : Cond.fieldLink RX4 15 (TX4 2).1 (TX4 2).2.1 (TX4 2).2.2.1 ∈ aw := aw1 (by decide +kernel)
theorem fl_X9_7 : Cond.fieldLink RX9 7 (TX9 1).1 (TX9 1).2.1 (TX9 1).2.2.1 ∈ aw := aw1 (by decide +kernel)
theorem fl_X9_13 : Cond.fieldLink RX9 13 (TX9 2).1 (TX9 2).2.1 (TX9 2).2.2.1 ∈ aw := aw1 (by decide +kernel)
theorem fl_X4_9 : Cond.fieldLink RX4 9 (TX4 1).1 (TX4 1).2.1 (TX4 1).2.2.1 ∈ aw := aw1 (by decide +kernel)
theorem fl_X4_23 : Cond.fieldLink RX4 23 (TX4 0).1 (TX4 0).2.1 (TX4 0).2.2.1 ∈ aw := aw1 (by decide +kernel)
theorem lk_X4_68 : Lk md_Tk_begin [.methodLink RX4 68 md_Tk_begin.y, .instanceMethod md_Tk_begin.y, .selects md_Tk_begin.y.cls md_Tk_begin.y md_Tk_begin.y] := lk_of (by decide +kernel)
theorem ar_Tk_begin : Arity md_Tk_begin 1 := ⟨by decide +kernel, by decide +kernel, by decide +kernel⟩
theorem fl_X9_19 : Cond.fieldLink RX9 19 (TX9 4).1 (TX9 4).2.1 (TX9 4).2.2.1 ∈ aw := aw1 (by decide +kernel)
theorem fl_X9_25 : Cond.fieldLink RX9 25 (TX9 0).1 (TX9 0).2.1 (TX9 0).2.2.1 ∈ aw := aw1 (by decide +kernel)
theorem lk_X9_29 : Lk md_Ln_get [.methodLink RX9 29 md_Ln_get.y, .instanceMethod md_Ln_get.y, .selects md_Ln_get.y.cls md_Ln_get.y md_Ln_get.y] := lk_of (by decide +kernel)
theorem lk_X9_39 : Lk md_Tk_isLetter [.methodLink RX9 39 md_Tk_isLetter.y, .static md_Tk_isLetter.y] := lk_of (by decide +kernel)
theorem ar_Tk_isLetter : Arity md_Tk_isLetter 1 := ⟨by decide +kernel, by decide +kernel, by decide +kernel⟩
theorem fl_X9_22 : Cond.fieldLink RX9 22 (TX9 5).1 (TX9 5).2.1 (TX9 5).2.2.1 ∈ aw := aw1 (by decide +kernel)
theorem lk_X9_45 : Lk md_Tk_isDigit [.methodLink RX9 45 md_Tk_isDigit.y, .static md_Tk_isDigit.y] := lk_of (by decide +kernel)
theorem ar_Tk_isDigit : Arity md_Tk_isDigit 1 := ⟨by decide +kernel, by decide +kernel, by decide +kernel⟩
theorem cn_X9_60 : Cond.constant RX9 60 1000000 ∈ aw := aw1 (by decide +kernel)
theorem mw_X9_61 : ∀ w ∈ [Cond.methodLink RX9 61 Lib.Math.min.name, Cond.static Lib.Math.min.name, Cond.initialized "java/lang/Math", Cond.code Lib.Math.min.name Lib.Math.min.code 2 (some .int)], w ∈ aw := aw_of (by decide +kernel)
theorem fl_X9_16 : Cond.fieldLink RX9 16 (TX9 3).1 (TX9 3).2.1 (TX9 3).2.2.1 ∈ aw := aw1 (by decide +kernel)
theorem lk_X9_48 : Lk md_Tk_readNumber [.methodLink RX9 48 md_Tk_readNumber.y, .instanceMethod md_Tk_readNumber.y, .selects md_Tk_readNumber.y.cls md_Tk_readNumber.y md_Tk_readNumber.y] := lk_of (by decide +kernel)
theorem ar_Tk_readNumber : Arity md_Tk_readNumber 0 := ⟨by decide +kernel, by decide +kernel, by decide +kernel⟩
theorem lk_X9_42 : Lk md_Tk_readWord [.methodLink RX9 42 md_Tk_readWord.y, .instanceMethod md_Tk_readWord.y, .selects md_Tk_readWord.y.cls md_Tk_readWord.y md_Tk_readWord.y] := lk_of (by decide +kernel)
theorem ar_Tk_readWord : Arity md_Tk_readWord 0 := ⟨by decide +kernel, by decide +kernel, by decide +kernel⟩
theorem lk_X9_35 : Lk md_Tk_isBlank [.methodLink RX9 35 md_Tk_isBlank.y, .static md_Tk_isBlank.y] := lk_of (by decide +kernel)
theorem ar_Tk_isBlank : Arity md_Tk_isBlank 1 := ⟨by decide +kernel, by decide +kernel, by decide +kernel⟩
theorem lk_X9_51 : Lk md_J0_length [.methodLink RX9 51 md_J0_length.y, .instanceMethod md_J0_length.y, .selects md_J0_length.y.cls md_J0_length.y md_J0_length.y] := lk_of (by decide +kernel)
theorem lk_X9_56 : Lk md_J0_charAt [.methodLink RX9 56 md_J0_charAt.y, .instanceMethod md_J0_charAt.y, .selects md_J0_charAt.y.cls md_J0_charAt.y md_J0_charAt.y] := lk_of (by decide +kernel)
theorem lk_X4_126 : Lk md_Tk_start [.methodLink RX4 126 md_Tk_start.y, .instanceMethod md_Tk_start.y, .selects md_Tk_start.y.cls md_Tk_start.y md_Tk_start.y] := lk_of (by decide +kernel)
theorem ar_Tk_start : Arity md_Tk_start 0 := ⟨by decide +kernel, by decide +kernel, by decide +kernel⟩
theorem lk_X4_35 : Lk md_Tk_next [.methodLink RX4 35 md_Tk_next.y, .instanceMethod md_Tk_next.y, .selects md_Tk_next.y.cls md_Tk_next.y md_Tk_next.y] := lk_of (by decide +kernel)
theorem ar_Tk_next : Arity md_Tk_next 0 := ⟨by decide +kernel, by decide +kernel, by decide +kernel⟩
theorem lk_X4_38 : Lk md_Tk_kind [.methodLink RX4 38 md_Tk_kind.y, .instanceMethod md_Tk_kind.y, .selects md_Tk_kind.y.cls md_Tk_kind.y md_Tk_kind.y] := lk_of (by decide +kernel)
theorem ar_Tk_kind : Arity md_Tk_kind 0 := ⟨by decide +kernel, by decide +kernel, by decide +kernel⟩
theorem lk_X4_75 : Lk md_Tk_value [.methodLink RX4 75 md_Tk_value.y, .instanceMethod md_Tk_value.y, .selects md_Tk_value.y.cls md_Tk_value.y md_Tk_value.y] := lk_of (by decide +kernel)
theorem ar_Tk_value : Arity md_Tk_value 0 := ⟨by decide +kernel, by decide +kernel, by decide +kernel⟩
theorem lk_X4_48 : Lk md_Ps_fail [.methodLink RX4 48 md_Ps_fail.y, .instanceMethod md_Ps_fail.y, .selects md_Ps_fail.y.cls md_Ps_fail.y md_Ps_fail.y] := lk_of (by decide +kernel)
theorem ar_Ps_fail : Arity md_Ps_fail 1 := ⟨by decide +kernel, by decide +kernel, by decide +kernel⟩
theorem lk_X4_44 : Lk md_Tk_isWord [.methodLink RX4 44 md_Tk_isWord.y, .instanceMethod md_Tk_isWord.y, .selects md_Tk_isWord.y.cls md_Tk_isWord.y md_Tk_isWord.y] := lk_of (by decide +kernel)
theorem ar_Tk_isWord : Arity md_Tk_isWord 1 := ⟨by decide +kernel, by decide +kernel, by decide +kernel⟩
theorem lk_X4_71 : Lk md_Ps_readNumber [.methodLink RX4 71 md_Ps_readNumber.y, .instanceMethod md_Ps_readNumber.y, .selects md_Ps_readNumber.y.cls md_Ps_readNumber.y md_Ps_readNumber.y] := lk_of (by decide +kernel)
theorem ar_Ps_readNumber : Arity md_Ps_readNumber 2 := ⟨by decide +kernel, by decide +kernel, by decide +kernel⟩
theorem lk_X4_78 : Lk md_St_begin [.methodLink RX4 78 md_St_begin.y, .instanceMethod md_St_begin.y, .selects md_St_begin.y.cls md_St_begin.y md_St_begin.y] := lk_of (by decide +kernel)
theorem ar_St_begin : Arity md_St_begin 4 := ⟨by decide +kernel, by decide +kernel, by decide +kernel⟩
theorem lk_X4_83 : Lk md_Ps_isEnded [.methodLink RX4 83 md_Ps_isEnded.y, .instanceMethod md_Ps_isEnded.y, .selects md_Ps_isEnded.y.cls md_Ps_isEnded.y md_Ps_isEnded.y] := lk_of (by decide +kernel)
theorem ar_Ps_isEnded : Arity md_Ps_isEnded 0 := ⟨by decide +kernel, by decide +kernel, by decide +kernel⟩
theorem fl_X4_87 : Cond.fieldLink RX4 87 (TX8 4).1 (TX8 4).2.1 (TX8 4).2.2.1 ∈ aw := aw1 (by decide +kernel)
theorem lk_X4_91 : Lk md_Ln_placeOf [.methodLink RX4 91 md_Ln_placeOf.y, .instanceMethod md_Ln_placeOf.y, .selects md_Ln_placeOf.y.cls md_Ln_placeOf.y md_Ln_placeOf.y] := lk_of (by decide +kernel)
theorem lk_X4_99 : Lk md_St_addFolder [.methodLink RX4 99 md_St_addFolder.y, .instanceMethod md_St_addFolder.y, .selects md_St_addFolder.y.cls md_St_addFolder.y md_St_addFolder.y] := lk_of (by decide +kernel)
theorem ar_St_addFolder : Arity md_St_addFolder 2 := ⟨by decide +kernel, by decide +kernel, by decide +kernel⟩
theorem lk_X4_27 : Lk md_Ps_begin [.methodLink RX4 27 md_Ps_begin.y, .instanceMethod md_Ps_begin.y, .selects md_Ps_begin.y.cls md_Ps_begin.y md_Ps_begin.y] := lk_of (by decide +kernel)
theorem ar_Ps_begin : Arity md_Ps_begin 1 := ⟨by decide +kernel, by decide +kernel, by decide +kernel⟩
theorem lk_X4_31 : Lk md_Ps_readHead [.methodLink RX4 31 md_Ps_readHead.y, .instanceMethod md_Ps_readHead.y, .selects md_Ps_readHead.y.cls md_Ps_readHead.y md_Ps_readHead.y] := lk_of (by decide +kernel)
theorem ar_Ps_readHead : Arity md_Ps_readHead 1 := ⟨by decide +kernel, by decide +kernel, by decide +kernel⟩
theorem lk_X4_52 : Lk md_Ps_readFolder [.methodLink RX4 52 md_Ps_readFolder.y, .instanceMethod md_Ps_readFolder.y, .selects md_Ps_readFolder.y.cls md_Ps_readFolder.y md_Ps_readFolder.y] := lk_of (by decide +kernel)
theorem ar_Ps_readFolder : Arity md_Ps_readFolder 1 := ⟨by decide +kernel, by decide +kernel, by decide +kernel⟩
def Hi_count (M : WM) : Int32 := M.2.2.1 8
set_option maxRecDepth 100000 in
set_option maxHeartbeats 4000000 in
theorem c_Hi_count {ad ae : Nat → Nat} (l : Launch) (g : Gl) (hC : KAll g ad ae) (σ : Hp) (B : Nat) (M : WM) {r : Int32} (hr : Hi_count M = r) : MG l g md_Hi_count [.ref (B + 15)] (putW σ B ae M) (rs (some (.int r)) (putW σ B ae M)) := by
  refine MG.intro (by decide +kernel) (Nat.le_of_ble_eq_true rfl) (fun X hx hR _ => ?_)
  unfold Hi_count at hr
  refine g_ls [0] [(0, .ref (B + 15))] rfl ?_
  refine g_aload_n hx 0 (i := 0) 0 dX1_count_0 rfl rfl ?_
  refine g_get hx 1 (C := RX1) (T := TX1) (N := 3) 2 (.int (M.2.2.1 8)) (pW σ B ae M 15 (by decide)) rfl (by decide) rfl fl_X1_21 dX1_count_1 ?_
  exact g_iret hx hR 4 dX1_count_4 ⟨by rw [← hr] <;> rfl, rfl⟩
def Hi_clear (M : WM) : WM := setWI M 8 0
set_option maxRecDepth 100000 in
set_option maxHeartbeats 4000000 in
theorem c_Hi_clear {ad ae : Nat → Nat} (l : Launch) (g : Gl) (hC : KAll g ad ae) (σ : Hp) (B : Nat) (M : WM) {r : WM} (hr : Hi_clear M = r) : MG l g md_Hi_clear [.ref (B + 15)] (putW σ B ae M) (rs none (putW σ B ae r)) := by
  refine MG.intro (by decide +kernel) (Nat.le_of_ble_eq_true rfl) (fun X hx hR _ => ?_)
  unfold Hi_clear at hr
  refine g_ls [0] [(0, .ref (B + 15))] rfl ?_
  refine g_aload_n hx 0 (i := 0) 0 dX1_clear_0 rfl rfl ?_
  refine g_iconst hx 1 (0) dX1_clear_1 rfl ?_
  refine g_put hx 2 (C := RX1) (T := TX1) (N := 3) 2 .int _ (pW σ B ae M 15 (by decide)) rfl (by decide) fl_X1_21 rfl rfl rfl rfl (Nat.le_of_ble_eq_true rfl) rfl dX1_clear_2 ?_
  refine G.heap (pW_i8 σ B ae M 0) ?_
  exact g_vret hx hR 5 dX1_clear_5 ⟨rfl, by rw [← hr] <;> rfl⟩
def Hi_keep (M : WM) : Option (WM) := if 8 ≤ M.2.2.1 8 then (some (setWI M 7 (((M.2.2.1 7) + 1) - ((M.2.2.1 7) + 1) / 9 * 9))) else (some (setWI M 8 ((M.2.2.1 8) + 1)))
set_option maxRecDepth 100000 in
set_option maxHeartbeats 4000000 in
theorem c_Hi_keep {ad ae : Nat → Nat} (l : Launch) (g : Gl) (hC : KAll g ad ae) (σ : Hp) (B : Nat) (M : WM) {r : WM} (hr : Hi_keep M = some r) : MG l g md_Hi_keep [.ref (B + 15)] (putW σ B ae M) (rs none (putW σ B ae r)) := by
  refine MG.intro (by decide +kernel) (Nat.le_of_ble_eq_true rfl) (fun X hx hR _ => ?_)
  unfold Hi_keep at hr
  refine g_ls [0] [(0, .ref (B + 15))] rfl ?_
  refine g_aload_n hx 0 (i := 0) 0 dX1_keep_0 rfl rfl ?_
  refine g_get hx 1 (C := RX1) (T := TX1) (N := 3) 2 (.int (M.2.2.1 8)) (pW σ B ae M 15 (by decide)) rfl (by decide) rfl fl_X1_21 dX1_keep_1 ?_
  refine g_bipush hx 4 (8) dX1_keep_4 rfl ?_
  refine g_icmp_ge hx 6 22 dX1_keep_6 (by decide) (fun hc_248 => ?_) (fun hc_248 => ?_)
  · have hr := (if_pos hc_248).symm.trans hr
    refine g_aload_n hx 22 (i := 0) 0 dX1_keep_22 rfl rfl ?_
    refine g_aload_n hx 23 (i := 0) 0 dX1_keep_23 rfl rfl ?_
    refine g_get hx 24 (C := RX1) (T := TX1) (N := 3) 1 (.int (M.2.2.1 7)) (pW σ B ae M 15 (by decide)) rfl (by decide) rfl fl_X1_17 dX1_keep_24 ?_
    refine g_iconst hx 27 (1) dX1_keep_27 rfl ?_
    refine g_iadd hx 28 dX1_keep_28 ?_
    refine g_bipush hx 29 (9) dX1_keep_29 rfl ?_
    refine g_irem hx 31 dX1_keep_31 (by decide) ?_
    refine g_put hx 32 (C := RX1) (T := TX1) (N := 3) 1 .int _ (pW σ B ae M 15 (by decide)) rfl (by decide) fl_X1_17 rfl rfl rfl rfl (Nat.le_of_ble_eq_true rfl) rfl dX1_keep_32 ?_
    refine G.heap (pW_i7 σ B ae M (((M.2.2.1 7) + 1) - ((M.2.2.1 7) + 1) / 9 * 9)) ?_
    exact g_vret hx hR 35 dX1_keep_35 ⟨rfl, by rw [← Option.some.inj hr] <;> rfl⟩
  · have hr := (if_neg hc_248).symm.trans hr
    refine g_aload_n hx 9 (i := 0) 0 dX1_keep_9 rfl rfl ?_
    refine g_dup hx 10 dX1_keep_10 rfl ?_
    refine g_get hx 11 (C := RX1) (T := TX1) (N := 3) 2 (.int (M.2.2.1 8)) (pW σ B ae M 15 (by decide)) rfl (by decide) rfl fl_X1_21 dX1_keep_11 ?_
    refine g_iconst hx 14 (1) dX1_keep_14 rfl ?_
    refine g_iadd hx 15 dX1_keep_15 ?_
    refine g_put hx 16 (C := RX1) (T := TX1) (N := 3) 2 .int _ (pW σ B ae M 15 (by decide)) rfl (by decide) fl_X1_21 rfl rfl rfl rfl (Nat.le_of_ble_eq_true rfl) rfl dX1_keep_16 ?_
    refine G.heap (pW_i8 σ B ae M ((M.2.2.1 8) + 1)) ?_
    refine g_goto hx 19 35 dX1_keep_19 (by decide) ?_
    exact g_vret hx hR 35 dX1_keep_35 ⟨rfl, by rw [← Option.some.inj hr] <;> rfl⟩
def Ps_errorPlace (M : WM) : Int32 := M.2.2.1 6
set_option maxRecDepth 100000 in
set_option maxHeartbeats 4000000 in
theorem c_Ps_errorPlace {ad ae : Nat → Nat} (l : Launch) (g : Gl) (hC : KAll g ad ae) (σ : Hp) (B : Nat) (M : WM) {r : Int32} (hr : Ps_errorPlace M = r) : MG l g md_Ps_errorPlace [.ref (B + 7)] (putW σ B ae M) (rs (some (.int r)) (putW σ B ae M)) := by
  refine MG.intro (by decide +kernel) (Nat.le_of_ble_eq_true rfl) (fun X hx hR _ => ?_)
  unfold Ps_errorPlace at hr
  refine g_ls [0] [(0, .ref (B + 7))] rfl ?_
  refine g_aload_n hx 0 (i := 0) 0 dX4_errorPlace_0 rfl rfl ?_
  refine g_get hx 1 (C := RX4) (T := TX4) (N := 3) 2 (.int (M.2.2.1 6)) (pW σ B ae M 7 (by decide)) rfl (by decide) rfl fl_X4_15 dX4_errorPlace_1 ?_
  exact g_iret hx hR 4 dX4_errorPlace_4 ⟨by rw [← hr] <;> rfl, rfl⟩
def Tk_begin (M : WM) (p1 : Int32) : WM := setWI (setWI M 0 p1) 1 0
set_option maxRecDepth 100000 in
set_option maxHeartbeats 4000000 in
theorem c_Tk_begin {ad ae : Nat → Nat} (l : Launch) (g : Gl) (hC : KAll g ad ae) (σ : Hp) (B : Nat) (M : WM) (p1 : Int32) {r : WM} (hr : Tk_begin M p1 = r) : MG l g md_Tk_begin [.ref (B + 8), .int p1] (putW σ B ae M) (rs none (putW σ B ae r)) := by
  refine MG.intro (by decide +kernel) (Nat.le_of_ble_eq_true rfl) (fun X hx hR _ => ?_)
  unfold Tk_begin at hr
  refine g_ls [0, 1] [(0, .ref (B + 8)), (1, .int p1)] rfl ?_
  refine g_aload_n hx 0 (i := 0) 0 dX9_begin_0 rfl rfl ?_
  refine g_iload_n hx 1 (i := 1) 1 dX9_begin_1 rfl rfl ?_
  refine g_put hx 2 (C := RX9) (T := TX9) (N := 6) 1 .int _ (pW σ B ae M 8 (by decide)) rfl (by decide) fl_X9_7 rfl rfl rfl rfl (Nat.le_of_ble_eq_true rfl) rfl dX9_begin_2 ?_
  refine G.heap (pW_i0 σ B ae M p1) ?_
  refine g_aload_n hx 5 (i := 0) 0 dX9_begin_5 rfl rfl ?_
  refine g_iconst hx 6 (0) dX9_begin_6 rfl ?_
  refine g_put hx 7 (C := RX9) (T := TX9) (N := 6) 2 .int _ (pW σ B ae (setWI M 0 p1) 8 (by decide)) rfl (by decide) fl_X9_13 rfl rfl rfl rfl (Nat.le_of_ble_eq_true rfl) rfl dX9_begin_7 ?_
  refine G.heap (pW_i1 σ B ae (setWI M 0 p1) 0) ?_
  exact g_vret hx hR 10 dX9_begin_10 ⟨rfl, by rw [← hr] <;> rfl⟩
def Ps_begin (M : WM) (p1 : Int32) : WM := lt' (Tk_begin (setWI (setWI M 5 0) 6 (-1)) p1) fun M_249 => M_249
set_option maxRecDepth 100000 in
set_option maxHeartbeats 4000000 in
theorem c_Ps_begin {ad ae : Nat → Nat} (l : Launch) (g : Gl) (hC : KAll g ad ae) (σ : Hp) (B : Nat) (M : WM) (p1 : Int32) {r : WM} (hr : Ps_begin M p1 = r) : MG l g md_Ps_begin [.ref (B + 7), .int p1] (putW σ B ae M) (rs none (putW σ B ae r)) := by
  refine MG.intro (by decide +kernel) (Nat.le_of_ble_eq_true rfl) (fun X hx hR _ => ?_)
  unfold Ps_begin at hr
  refine g_ls [0, 1] [(0, .ref (B + 7)), (1, .int p1)] rfl ?_
  refine g_aload_n hx 0 (i := 0) 0 dX4_begin_0 rfl rfl ?_
  refine g_iconst hx 1 (0) dX4_begin_1 rfl ?_
  refine g_put hx 2 (C := RX4) (T := TX4) (N := 3) 1 .int _ (pW σ B ae M 7 (by decide)) rfl (by decide) fl_X4_9 rfl rfl rfl rfl (Nat.le_of_ble_eq_true rfl) rfl dX4_begin_2 ?_
  refine G.heap (pW_i5 σ B ae M 0) ?_
  refine g_aload_n hx 5 (i := 0) 0 dX4_begin_5 rfl rfl ?_
  refine g_iconst hx 6 (-1) dX4_begin_6 rfl ?_
  refine g_put hx 7 (C := RX4) (T := TX4) (N := 3) 2 .int _ (pW σ B ae (setWI M 5 0) 7 (by decide)) rfl (by decide) fl_X4_15 rfl rfl rfl rfl (Nat.le_of_ble_eq_true rfl) rfl dX4_begin_7 ?_
  refine G.heap (pW_i6 σ B ae (setWI M 5 0) (-1)) ?_
  refine g_aload_n hx 10 (i := 0) 0 dX4_begin_10 rfl rfl ?_
  refine g_get hx 11 (C := RX4) (T := TX4) (N := 3) 0 (.ref (B + 8)) (pW σ B ae (setWI (setWI M 5 0) 6 (-1)) 7 (by decide)) rfl (by decide) rfl fl_X4_23 dX4_begin_11 ?_
  refine g_iload_n hx 14 (i := 1) 1 dX4_begin_14 rfl rfl ?_
  obtain ⟨M_249, eM_249, hr⟩ := lt'_e hr
  refine g_callVv hx (c_Tk_begin l g hC σ B (setWI (setWI M 5 0) 6 (-1)) p1 eM_249.symm) lk_X4_68 ar_Tk_begin (pW σ B ae (setWI (setWI M 5 0) 6 (-1)) 8 (by decide)) (T := TX9) (N := 6) rfl (As := [.int p1]) (rest := []) rfl (Nat.le_of_ble_eq_true rfl) ⟨Nat.le_of_ble_eq_true rfl, Nat.le_of_ble_eq_true rfl⟩ ⟨rfl, rfl⟩ ⟨Nat.zero_le _, Nat.zero_le _⟩ dX4_begin_15 ?_
  exact g_vret hx hR 18 dX4_begin_18 ⟨rfl, by rw [← hr] <;> rfl⟩
def Tk_isBlank (p1 : Int32) : Int32 := if p1 = 32 then (1) else (if p1 = 10 then (1) else (0))
set_option maxRecDepth 100000 in
set_option maxHeartbeats 4000000 in
theorem c_Tk_isBlank (l : Launch) (g : Gl) (σ : Hp) (p1 : Int32) {r : Int32} (hr : Tk_isBlank p1 = r) : MG l g md_Tk_isBlank [.int p1] σ (rs (some (.int r)) σ) := by
  refine MG.intro (by decide +kernel) (Nat.le_of_ble_eq_true rfl) (fun X hx hR _ => ?_)
  unfold Tk_isBlank at hr
  refine g_ls [0] [(0, .int p1)] rfl ?_
  refine g_iload_n hx 0 (i := 0) 0 dX9_isBlank_0 rfl rfl ?_
  refine g_bipush hx 1 (32) dX9_isBlank_1 rfl ?_
  refine g_icmp_eq hx 3 12 dX9_isBlank_3 (by decide) (fun hc_250 => ?_) (fun hc_250 => ?_)
  · have hr := (if_pos hc_250).symm.trans hr
    refine g_iconst hx 12 (1) dX9_isBlank_12 rfl ?_
    refine g_goto hx 13 17 dX9_isBlank_13 (by decide) ?_
    exact g_zret hx hR 17 (Or.inr rfl) dX9_isBlank_17 ⟨by rw [← hr] <;> rfl, rfl⟩
  · have hr := (if_neg hc_250).symm.trans hr
    refine g_iload_n hx 6 (i := 0) 0 dX9_isBlank_6 rfl rfl ?_
    refine g_bipush hx 7 (10) dX9_isBlank_7 rfl ?_
    refine g_icmp_ne hx 9 16 dX9_isBlank_9 (by decide) (fun hc_251 => ?_) (fun hc_251 => ?_)
    · have hr := (if_neg hc_251).symm.trans hr
      refine g_iconst hx 16 (0) dX9_isBlank_16 rfl ?_
      exact g_zret hx hR 17 (Or.inl rfl) dX9_isBlank_17 ⟨by rw [← hr] <;> rfl, rfl⟩
    · have hr := (if_pos hc_251).symm.trans hr
      refine g_iconst hx 12 (1) dX9_isBlank_12 rfl ?_
      refine g_goto hx 13 17 dX9_isBlank_13 (by decide) ?_
      exact g_zret hx hR 17 (Or.inr rfl) dX9_isBlank_17 ⟨by rw [← hr] <;> rfl, rfl⟩
theorem bo_Tk_isBlank (p1 : Int32) : Tk_isBlank p1 = 0 ∨ Tk_isBlank p1 = 1 := by
  unfold Tk_isBlank
  (repeat' split) <;> first | exact Or.inl rfl | exact Or.inr rfl | exact bo_Rw_isWrong .. | exact bo_Sl_has .. | exact bo_St_hasFolder .. | exact bo_St_hasReader .. | exact bo_St_isClosed .. | exact bo_St_isRefilingDay ..
def Tk_isLetter (p1 : Int32) : Int32 := if p1 < 97 then (0) else (if 122 < p1 then (0) else (1))
set_option maxRecDepth 100000 in
set_option maxHeartbeats 4000000 in
theorem c_Tk_isLetter (l : Launch) (g : Gl) (σ : Hp) (p1 : Int32) {r : Int32} (hr : Tk_isLetter p1 = r) : MG l g md_Tk_isLetter [.int p1] σ (rs (some (.int r)) σ) := by
  refine MG.intro (by decide +kernel) (Nat.le_of_ble_eq_true rfl) (fun X hx hR _ => ?_)
  unfold Tk_isLetter at hr
  refine g_ls [0] [(0, .int p1)] rfl ?_
  refine g_iload_n hx 0 (i := 0) 0 dX9_isLetter_0 rfl rfl ?_
  refine g_bipush hx 1 (97) dX9_isLetter_1 rfl ?_
  refine g_icmp_lt hx 3 16 dX9_isLetter_3 (by decide) (fun hc_252 => ?_) (fun hc_252 => ?_)
  · have hr := (if_pos hc_252).symm.trans hr
    refine g_iconst hx 16 (0) dX9_isLetter_16 rfl ?_
    exact g_zret hx hR 17 (Or.inl rfl) dX9_isLetter_17 ⟨by rw [← hr] <;> rfl, rfl⟩
  · have hr := (if_neg hc_252).symm.trans hr
    refine g_iload_n hx 6 (i := 0) 0 dX9_isLetter_6 rfl rfl ?_
    refine g_bipush hx 7 (122) dX9_isLetter_7 rfl ?_
    refine g_icmp_gt hx 9 16 dX9_isLetter_9 (by decide) (fun hc_253 => ?_) (fun hc_253 => ?_)
    · have hr := (if_pos hc_253).symm.trans hr
      refine g_iconst hx 16 (0) dX9_isLetter_16 rfl ?_
      exact g_zret hx hR 17 (Or.inl rfl) dX9_isLetter_17 ⟨by rw [← hr] <;> rfl, rfl⟩
    · have hr := (if_neg hc_253).symm.trans hr
      refine g_iconst hx 12 (1) dX9_isLetter_12 rfl ?_
      refine g_goto hx 13 17 dX9_isLetter_13 (by decide) ?_
      exact g_zret hx hR 17 (Or.inr rfl) dX9_isLetter_17 ⟨by rw [← hr] <;> rfl, rfl⟩
theorem bo_Tk_isLetter (p1 : Int32) : Tk_isLetter p1 = 0 ∨ Tk_isLetter p1 = 1 := by
  unfold Tk_isLetter
  (repeat' split) <;> first | exact Or.inl rfl | exact Or.inr rfl | exact bo_Rw_isWrong .. | exact bo_Sl_has .. | exact bo_St_hasFolder .. | exact bo_St_hasReader .. | exact bo_St_isClosed .. | exact bo_St_isRefilingDay .. | exact bo_Tk_isBlank ..
def Tk_readWord_L5 : Nat → WM → Option (WM)
  | 0, _ => none
  | n + 1, M => if M.2.2.1 0 ≤ M.2.2.1 1 then (some (M)) else (if Tk_isLetter (lnget (M.2.1 0) (M.2.2.1 1)) = 0 then (some (M)) else (Tk_readWord_L5 n (setWI M 1 ((M.2.2.1 1) + 1))))
def Tk_readWord (M : WM) : Option (WM) := Tk_readWord_L5 FU (setWI M 3 1)
set_option maxRecDepth 100000 in
set_option maxHeartbeats 4000000 in
theorem w_Tk_readWord_L5 {ad ae : Nat → Nat} {X : Cx} {l : Launch} {g : Gl} (hx : Ok X l g RX9 cX9_readWord 1 md_Tk_readWord.rm) (hC : KAll g ad ae) {σ : Hp} {B : Nat} {r : WM} (hR : Ret X (rs none (putW σ B ae r)) 0 0 (none)) : ∀ (n : Nat) (M : WM), Tk_readWord_L5 n M = some r → G X (putW σ B ae M) 0 0 5 [(0, .ref (B + 8))] [] := by
  intro n
  induction n with
  | zero =>
    intro M hr
    rw [Tk_readWord_L5] at hr
    cases hr
  | succ n ih =>
    intro M hr
    rw [Tk_readWord_L5] at hr
    refine g_aload_n hx 5 (i := 0) 0 dX9_readWord_5 rfl rfl ?_
    refine g_get hx 6 (C := RX9) (T := TX9) (N := 6) 2 (.int (M.2.2.1 1)) (pW σ B ae M 8 (by decide)) rfl (by decide) rfl fl_X9_13 dX9_readWord_6 ?_
    refine g_aload_n hx 9 (i := 0) 0 dX9_readWord_9 rfl rfl ?_
    refine g_get hx 10 (C := RX9) (T := TX9) (N := 6) 1 (.int (M.2.2.1 0)) (pW σ B ae M 8 (by decide)) rfl (by decide) rfl fl_X9_7 dX9_readWord_10 ?_
    refine g_icmp_ge hx 13 46 dX9_readWord_13 (by decide) (fun hc_254 => ?_) (fun hc_254 => ?_)
    · have hr := (if_pos hc_254).symm.trans hr
      exact g_vret hx hR 46 dX9_readWord_46 ⟨rfl, by rw [← Option.some.inj hr] <;> rfl⟩
    · have hr := (if_neg hc_254).symm.trans hr
      refine g_aload_n hx 16 (i := 0) 0 dX9_readWord_16 rfl rfl ?_
      refine g_get hx 17 (C := RX9) (T := TX9) (N := 6) 0 (.ref (B + 1)) (pW σ B ae M 8 (by decide)) rfl (by decide) rfl fl_X9_25 dX9_readWord_17 ?_
      refine g_aload_n hx 20 (i := 0) 0 dX9_readWord_20 rfl rfl ?_
      refine g_get hx 21 (C := RX9) (T := TX9) (N := 6) 2 (.int (M.2.2.1 1)) (pW σ B ae M 8 (by decide)) rfl (by decide) rfl fl_X9_13 dX9_readWord_21 ?_
      refine g_callVr hx (k_get l g (pW_l0 σ B ae M) (by decide) (M.2.2.1 1)) lk_X9_29 ar_Ln_get (pW_l0 σ B ae M).1 (T := TX2) (N := 2) rfl (As := [.int (M.2.2.1 1)]) (rest := []) rfl (Nat.le_of_ble_eq_true rfl) ⟨Nat.le_of_ble_eq_true rfl, Nat.le_of_ble_eq_true rfl⟩ ⟨rfl, rfl⟩ ⟨Nat.zero_le _, Nat.zero_le _⟩ dX9_readWord_24 ?_
      refine g_callSr hx (c_Tk_isLetter l g _ (lnget (M.2.1 0) (M.2.2.1 1)) rfl) lk_X9_39 ar_Tk_isLetter (As := [.int (lnget (M.2.1 0) (M.2.2.1 1))]) (rest := []) rfl (Nat.le_of_ble_eq_true rfl) ⟨Nat.le_of_ble_eq_true rfl, Nat.le_of_ble_eq_true rfl⟩ ⟨rfl, rfl⟩ ⟨Nat.zero_le _, Nat.zero_le _⟩ dX9_readWord_27 ?_
      refine g_if_eq hx 30 46 dX9_readWord_30 (by decide) (fun hc_255 => ?_) (fun hc_255 => ?_)
      · have hr := (if_pos hc_255).symm.trans hr
        exact g_vret hx hR 46 dX9_readWord_46 ⟨rfl, by rw [← Option.some.inj hr] <;> rfl⟩
      · have hr := (if_neg hc_255).symm.trans hr
        refine g_aload_n hx 33 (i := 0) 0 dX9_readWord_33 rfl rfl ?_
        refine g_dup hx 34 dX9_readWord_34 rfl ?_
        refine g_get hx 35 (C := RX9) (T := TX9) (N := 6) 2 (.int (M.2.2.1 1)) (pW σ B ae M 8 (by decide)) rfl (by decide) rfl fl_X9_13 dX9_readWord_35 ?_
        refine g_iconst hx 38 (1) dX9_readWord_38 rfl ?_
        refine g_iadd hx 39 dX9_readWord_39 ?_
        refine g_put hx 40 (C := RX9) (T := TX9) (N := 6) 2 .int _ (pW σ B ae M 8 (by decide)) rfl (by decide) fl_X9_13 rfl rfl rfl rfl (Nat.le_of_ble_eq_true rfl) rfl dX9_readWord_40 ?_
        refine G.heap (pW_i1 σ B ae M ((M.2.2.1 1) + 1)) ?_
        refine g_goto hx 43 5 dX9_readWord_43 (by decide) ?_
        refine g_ls [0] [(0, .ref (B + 8))] rfl ?_
        exact ih (setWI M 1 ((M.2.2.1 1) + 1))  hr
set_option maxRecDepth 100000 in
set_option maxHeartbeats 4000000 in
theorem c_Tk_readWord {ad ae : Nat → Nat} (l : Launch) (g : Gl) (hC : KAll g ad ae) (σ : Hp) (B : Nat) (M : WM) {r : WM} (hr : Tk_readWord M = some r) : MG l g md_Tk_readWord [.ref (B + 8)] (putW σ B ae M) (rs none (putW σ B ae r)) := by
  refine MG.intro (by decide +kernel) (Nat.le_of_ble_eq_true rfl) (fun X hx hR _ => ?_)
  unfold Tk_readWord at hr
  refine g_ls [0] [(0, .ref (B + 8))] rfl ?_
  refine g_aload_n hx 0 (i := 0) 0 dX9_readWord_0 rfl rfl ?_
  refine g_iconst hx 1 (1) dX9_readWord_1 rfl ?_
  refine g_put hx 2 (C := RX9) (T := TX9) (N := 6) 4 .int _ (pW σ B ae M 8 (by decide)) rfl (by decide) fl_X9_19 rfl rfl rfl rfl (Nat.le_of_ble_eq_true rfl) rfl dX9_readWord_2 ?_
  refine G.heap (pW_i3 σ B ae M 1) ?_
  refine g_ls [0] [(0, .ref (B + 8))] rfl ?_
  exact w_Tk_readWord_L5 hx hC hR FU (setWI M 3 1)  hr
def Tk_isDigit (p1 : Int32) : Int32 := if p1 < 48 then (0) else (if 57 < p1 then (0) else (1))
set_option maxRecDepth 100000 in
set_option maxHeartbeats 4000000 in
theorem c_Tk_isDigit (l : Launch) (g : Gl) (σ : Hp) (p1 : Int32) {r : Int32} (hr : Tk_isDigit p1 = r) : MG l g md_Tk_isDigit [.int p1] σ (rs (some (.int r)) σ) := by
  refine MG.intro (by decide +kernel) (Nat.le_of_ble_eq_true rfl) (fun X hx hR _ => ?_)
  unfold Tk_isDigit at hr
  refine g_ls [0] [(0, .int p1)] rfl ?_
  refine g_iload_n hx 0 (i := 0) 0 dX9_isDigit_0 rfl rfl ?_
  refine g_bipush hx 1 (48) dX9_isDigit_1 rfl ?_
  refine g_icmp_lt hx 3 16 dX9_isDigit_3 (by decide) (fun hc_256 => ?_) (fun hc_256 => ?_)
  · have hr := (if_pos hc_256).symm.trans hr
    refine g_iconst hx 16 (0) dX9_isDigit_16 rfl ?_
    exact g_zret hx hR 17 (Or.inl rfl) dX9_isDigit_17 ⟨by rw [← hr] <;> rfl, rfl⟩
  · have hr := (if_neg hc_256).symm.trans hr
    refine g_iload_n hx 6 (i := 0) 0 dX9_isDigit_6 rfl rfl ?_
    refine g_bipush hx 7 (57) dX9_isDigit_7 rfl ?_
    refine g_icmp_gt hx 9 16 dX9_isDigit_9 (by decide) (fun hc_257 => ?_) (fun hc_257 => ?_)
    · have hr := (if_pos hc_257).symm.trans hr
      refine g_iconst hx 16 (0) dX9_isDigit_16 rfl ?_
      exact g_zret hx hR 17 (Or.inl rfl) dX9_isDigit_17 ⟨by rw [← hr] <;> rfl, rfl⟩
    · have hr := (if_neg hc_257).symm.trans hr
      refine g_iconst hx 12 (1) dX9_isDigit_12 rfl ?_
      refine g_goto hx 13 17 dX9_isDigit_13 (by decide) ?_
      exact g_zret hx hR 17 (Or.inr rfl) dX9_isDigit_17 ⟨by rw [← hr] <;> rfl, rfl⟩
theorem bo_Tk_isDigit (p1 : Int32) : Tk_isDigit p1 = 0 ∨ Tk_isDigit p1 = 1 := by
  unfold Tk_isDigit
  (repeat' split) <;> first | exact Or.inl rfl | exact Or.inr rfl | exact bo_Rw_isWrong .. | exact bo_Sl_has .. | exact bo_St_hasFolder .. | exact bo_St_hasReader .. | exact bo_St_isClosed .. | exact bo_St_isRefilingDay .. | exact bo_Tk_isBlank .. | exact bo_Tk_isLetter ..
def Tk_readNumber_L10 : Nat → WM → Option (WM)
  | 0, _ => none
  | n + 1, M => if M.2.2.1 0 ≤ M.2.2.1 1 then (some (M)) else (if Tk_isDigit (lnget (M.2.1 0) (M.2.2.1 1)) = 0 then (some (M)) else (Tk_readNumber_L10 n (setWI (setWI M 4 (if (((M.2.2.1 4) * 10) + (lnget (M.2.1 0) (M.2.2.1 1))) - 48 < 1000000 then (((M.2.2.1 4) * 10) + (lnget (M.2.1 0) (M.2.2.1 1))) - 48 else 1000000)) 1 ((M.2.2.1 1) + 1))))
def Tk_readNumber (M : WM) : Option (WM) := Tk_readNumber_L10 FU (setWI (setWI M 3 2) 4 0)
set_option maxRecDepth 100000 in
set_option maxHeartbeats 4000000 in
theorem w_Tk_readNumber_L10 {ad ae : Nat → Nat} {X : Cx} {l : Launch} {g : Gl} (hx : Ok X l g RX9 cX9_readNumber 1 md_Tk_readNumber.rm) (hC : KAll g ad ae) {σ : Hp} {B : Nat} {r : WM} (hR : Ret X (rs none (putW σ B ae r)) 0 0 (none)) : ∀ (n : Nat) (M : WM), Tk_readNumber_L10 n M = some r → G X (putW σ B ae M) 0 0 10 [(0, .ref (B + 8))] [] := by
  intro n
  induction n with
  | zero =>
    intro M hr
    rw [Tk_readNumber_L10] at hr
    cases hr
  | succ n ih =>
    intro M hr
    rw [Tk_readNumber_L10] at hr
    refine g_aload_n hx 10 (i := 0) 0 dX9_readNumber_10 rfl rfl ?_
    refine g_get hx 11 (C := RX9) (T := TX9) (N := 6) 2 (.int (M.2.2.1 1)) (pW σ B ae M 8 (by decide)) rfl (by decide) rfl fl_X9_13 dX9_readNumber_11 ?_
    refine g_aload_n hx 14 (i := 0) 0 dX9_readNumber_14 rfl rfl ?_
    refine g_get hx 15 (C := RX9) (T := TX9) (N := 6) 1 (.int (M.2.2.1 0)) (pW σ B ae M 8 (by decide)) rfl (by decide) rfl fl_X9_7 dX9_readNumber_15 ?_
    refine g_icmp_ge hx 18 82 dX9_readNumber_18 (by decide) (fun hc_258 => ?_) (fun hc_258 => ?_)
    · have hr := (if_pos hc_258).symm.trans hr
      exact g_vret hx hR 82 dX9_readNumber_82 ⟨rfl, by rw [← Option.some.inj hr] <;> rfl⟩
    · have hr := (if_neg hc_258).symm.trans hr
      refine g_aload_n hx 21 (i := 0) 0 dX9_readNumber_21 rfl rfl ?_
      refine g_get hx 22 (C := RX9) (T := TX9) (N := 6) 0 (.ref (B + 1)) (pW σ B ae M 8 (by decide)) rfl (by decide) rfl fl_X9_25 dX9_readNumber_22 ?_
      refine g_aload_n hx 25 (i := 0) 0 dX9_readNumber_25 rfl rfl ?_
      refine g_get hx 26 (C := RX9) (T := TX9) (N := 6) 2 (.int (M.2.2.1 1)) (pW σ B ae M 8 (by decide)) rfl (by decide) rfl fl_X9_13 dX9_readNumber_26 ?_
      refine g_callVr hx (k_get l g (pW_l0 σ B ae M) (by decide) (M.2.2.1 1)) lk_X9_29 ar_Ln_get (pW_l0 σ B ae M).1 (T := TX2) (N := 2) rfl (As := [.int (M.2.2.1 1)]) (rest := []) rfl (Nat.le_of_ble_eq_true rfl) ⟨Nat.le_of_ble_eq_true rfl, Nat.le_of_ble_eq_true rfl⟩ ⟨rfl, rfl⟩ ⟨Nat.zero_le _, Nat.zero_le _⟩ dX9_readNumber_29 ?_
      refine g_callSr hx (c_Tk_isDigit l g _ (lnget (M.2.1 0) (M.2.2.1 1)) rfl) lk_X9_45 ar_Tk_isDigit (As := [.int (lnget (M.2.1 0) (M.2.2.1 1))]) (rest := []) rfl (Nat.le_of_ble_eq_true rfl) ⟨Nat.le_of_ble_eq_true rfl, Nat.le_of_ble_eq_true rfl⟩ ⟨rfl, rfl⟩ ⟨Nat.zero_le _, Nat.zero_le _⟩ dX9_readNumber_32 ?_
      refine g_if_eq hx 35 82 dX9_readNumber_35 (by decide) (fun hc_259 => ?_) (fun hc_259 => ?_)
      · have hr := (if_pos hc_259).symm.trans hr
        exact g_vret hx hR 82 dX9_readNumber_82 ⟨rfl, by rw [← Option.some.inj hr] <;> rfl⟩
      · have hr := (if_neg hc_259).symm.trans hr
        refine g_aload_n hx 38 (i := 0) 0 dX9_readNumber_38 rfl rfl ?_
        refine g_ldci hx 39 dX9_readNumber_39 cn_X9_60 ?_
        refine g_aload_n hx 41 (i := 0) 0 dX9_readNumber_41 rfl rfl ?_
        refine g_get hx 42 (C := RX9) (T := TX9) (N := 6) 5 (.int (M.2.2.1 4)) (pW σ B ae M 8 (by decide)) rfl (by decide) rfl fl_X9_22 dX9_readNumber_42 ?_
        refine g_bipush hx 45 (10) dX9_readNumber_45 rfl ?_
        refine g_imul hx 47 dX9_readNumber_47 ?_
        refine g_aload_n hx 48 (i := 0) 0 dX9_readNumber_48 rfl rfl ?_
        refine g_get hx 49 (C := RX9) (T := TX9) (N := 6) 0 (.ref (B + 1)) (pW σ B ae M 8 (by decide)) rfl (by decide) rfl fl_X9_25 dX9_readNumber_49 ?_
        refine g_aload_n hx 52 (i := 0) 0 dX9_readNumber_52 rfl rfl ?_
        refine g_get hx 53 (C := RX9) (T := TX9) (N := 6) 2 (.int (M.2.2.1 1)) (pW σ B ae M 8 (by decide)) rfl (by decide) rfl fl_X9_13 dX9_readNumber_53 ?_
        refine g_callVr hx (k_get l g (pW_l0 σ B ae M) (by decide) (M.2.2.1 1)) lk_X9_29 ar_Ln_get (pW_l0 σ B ae M).1 (T := TX2) (N := 2) rfl (As := [.int (M.2.2.1 1)]) (rest := [.int ((M.2.2.1 4) * 10), .int 1000000, .ref (B + 8)]) rfl (Nat.le_of_ble_eq_true rfl) ⟨Nat.le_of_ble_eq_true rfl, Nat.le_of_ble_eq_true rfl⟩ ⟨rfl, rfl⟩ ⟨Nat.zero_le _, Nat.zero_le _⟩ dX9_readNumber_56 ?_
        refine g_iadd hx 59 dX9_readNumber_59 ?_
        refine g_bipush hx 60 (48) dX9_readNumber_60 rfl ?_
        refine g_isub hx 62 dX9_readNumber_62 ?_
        refine g_mmin hx 63 mw_X9_61 (Nat.le_of_ble_eq_true rfl) ⟨Nat.le_of_ble_eq_true rfl, Nat.le_of_ble_eq_true rfl⟩ ⟨Nat.zero_le _, Nat.zero_le _⟩ dX9_readNumber_63 ?_
        refine g_put hx 66 (C := RX9) (T := TX9) (N := 6) 5 .int _ (pW σ B ae M 8 (by decide)) rfl (by decide) fl_X9_22 rfl rfl rfl rfl (Nat.le_of_ble_eq_true rfl) rfl dX9_readNumber_66 ?_
        refine G.heap (pW_i4 σ B ae M (if (((M.2.2.1 4) * 10) + (lnget (M.2.1 0) (M.2.2.1 1))) - 48 < 1000000 then (((M.2.2.1 4) * 10) + (lnget (M.2.1 0) (M.2.2.1 1))) - 48 else 1000000)) ?_
        refine g_aload_n hx 69 (i := 0) 0 dX9_readNumber_69 rfl rfl ?_
        refine g_dup hx 70 dX9_readNumber_70 rfl ?_
        refine g_get hx 71 (C := RX9) (T := TX9) (N := 6) 2 (.int (M.2.2.1 1)) (pW σ B ae (setWI M 4 (if (((M.2.2.1 4) * 10) + (lnget (M.2.1 0) (M.2.2.1 1))) - 48 < 1000000 then (((M.2.2.1 4) * 10) + (lnget (M.2.1 0) (M.2.2.1 1))) - 48 else 1000000)) 8 (by decide)) rfl (by decide) rfl fl_X9_13 dX9_readNumber_71 ?_
        refine g_iconst hx 74 (1) dX9_readNumber_74 rfl ?_
        refine g_iadd hx 75 dX9_readNumber_75 ?_
        refine g_put hx 76 (C := RX9) (T := TX9) (N := 6) 2 .int _ (pW σ B ae (setWI M 4 (if (((M.2.2.1 4) * 10) + (lnget (M.2.1 0) (M.2.2.1 1))) - 48 < 1000000 then (((M.2.2.1 4) * 10) + (lnget (M.2.1 0) (M.2.2.1 1))) - 48 else 1000000)) 8 (by decide)) rfl (by decide) fl_X9_13 rfl rfl rfl rfl (Nat.le_of_ble_eq_true rfl) rfl dX9_readNumber_76 ?_
        refine G.heap (pW_i1 σ B ae (setWI M 4 (if (((M.2.2.1 4) * 10) + (lnget (M.2.1 0) (M.2.2.1 1))) - 48 < 1000000 then (((M.2.2.1 4) * 10) + (lnget (M.2.1 0) (M.2.2.1 1))) - 48 else 1000000)) ((M.2.2.1 1) + 1)) ?_
        refine g_goto hx 79 10 dX9_readNumber_79 (by decide) ?_
        refine g_ls [0] [(0, .ref (B + 8))] rfl ?_
        exact ih (setWI (setWI M 4 (if (((M.2.2.1 4) * 10) + (lnget (M.2.1 0) (M.2.2.1 1))) - 48 < 1000000 then (((M.2.2.1 4) * 10) + (lnget (M.2.1 0) (M.2.2.1 1))) - 48 else 1000000)) 1 ((M.2.2.1 1) + 1))  hr
set_option maxRecDepth 100000 in
set_option maxHeartbeats 4000000 in
theorem c_Tk_readNumber {ad ae : Nat → Nat} (l : Launch) (g : Gl) (hC : KAll g ad ae) (σ : Hp) (B : Nat) (M : WM) {r : WM} (hr : Tk_readNumber M = some r) : MG l g md_Tk_readNumber [.ref (B + 8)] (putW σ B ae M) (rs none (putW σ B ae r)) := by
  refine MG.intro (by decide +kernel) (Nat.le_of_ble_eq_true rfl) (fun X hx hR _ => ?_)
  unfold Tk_readNumber at hr
  refine g_ls [0] [(0, .ref (B + 8))] rfl ?_
  refine g_aload_n hx 0 (i := 0) 0 dX9_readNumber_0 rfl rfl ?_
  refine g_iconst hx 1 (2) dX9_readNumber_1 rfl ?_
  refine g_put hx 2 (C := RX9) (T := TX9) (N := 6) 4 .int _ (pW σ B ae M 8 (by decide)) rfl (by decide) fl_X9_19 rfl rfl rfl rfl (Nat.le_of_ble_eq_true rfl) rfl dX9_readNumber_2 ?_
  refine G.heap (pW_i3 σ B ae M 2) ?_
  refine g_aload_n hx 5 (i := 0) 0 dX9_readNumber_5 rfl rfl ?_
  refine g_iconst hx 6 (0) dX9_readNumber_6 rfl ?_
  refine g_put hx 7 (C := RX9) (T := TX9) (N := 6) 5 .int _ (pW σ B ae (setWI M 3 2) 8 (by decide)) rfl (by decide) fl_X9_22 rfl rfl rfl rfl (Nat.le_of_ble_eq_true rfl) rfl dX9_readNumber_7 ?_
  refine G.heap (pW_i4 σ B ae (setWI M 3 2) 0) ?_
  refine g_ls [0] [(0, .ref (B + 8))] rfl ?_
  exact w_Tk_readNumber_L10 hx hC hR FU (setWI (setWI M 3 2) 4 0)  hr
def Tk_next_L0 : Nat → WM → Option (WM)
  | 0, _ => none
  | n + 1, M => if M.2.2.1 0 ≤ M.2.2.1 1 then (if M.2.2.1 1 < M.2.2.1 0 then (lt' (lnget (M.2.1 0) (M.2.2.1 1)) fun v1_262 => if Tk_isLetter v1_262 = 0 then (if Tk_isDigit v1_262 = 0 then (Option.bind (if v1_262 = 59 then (some 3) else (some 4)) fun b_266 => some (setWI (setWI (setWI M 2 (M.2.2.1 1)) 3 b_266) 1 ((M.2.2.1 1) + 1))) else (Option.bind (Tk_readNumber (setWI M 2 (M.2.2.1 1))) fun M_267 => some (M_267))) else (Option.bind (Tk_readWord (setWI M 2 (M.2.2.1 1))) fun M_268 => some (M_268))) else (some (setWI (setWI M 2 (M.2.2.1 1)) 3 0))) else (if Tk_isBlank (lnget (M.2.1 0) (M.2.2.1 1)) = 0 then (if M.2.2.1 1 < M.2.2.1 0 then (lt' (lnget (M.2.1 0) (M.2.2.1 1)) fun v1_271 => if Tk_isLetter v1_271 = 0 then (if Tk_isDigit v1_271 = 0 then (Option.bind (if v1_271 = 59 then (some 3) else (some 4)) fun b_275 => some (setWI (setWI (setWI M 2 (M.2.2.1 1)) 3 b_275) 1 ((M.2.2.1 1) + 1))) else (Option.bind (Tk_readNumber (setWI M 2 (M.2.2.1 1))) fun M_276 => some (M_276))) else (Option.bind (Tk_readWord (setWI M 2 (M.2.2.1 1))) fun M_277 => some (M_277))) else (some (setWI (setWI M 2 (M.2.2.1 1)) 3 0))) else (Tk_next_L0 n (setWI M 1 ((M.2.2.1 1) + 1))))
def Tk_next (M : WM) : Option (WM) := Tk_next_L0 FU M
set_option maxRecDepth 100000 in
set_option maxHeartbeats 4000000 in
theorem w_Tk_next_L0 {ad ae : Nat → Nat} {X : Cx} {l : Launch} {g : Gl} (hx : Ok X l g RX9 cX9_next 2 md_Tk_next.rm) (hC : KAll g ad ae) {σ : Hp} {B : Nat} {r : WM} (hR : Ret X (rs none (putW σ B ae r)) 0 0 (none)) : ∀ (n : Nat) (M : WM), Tk_next_L0 n M = some r → G X (putW σ B ae M) 0 0 0 [(0, .ref (B + 8))] [] := by
  intro n
  induction n with
  | zero =>
    intro M hr
    rw [Tk_next_L0] at hr
    cases hr
  | succ n ih =>
    intro M hr
    rw [Tk_next_L0] at hr
    refine g_aload_n hx 0 (i := 0) 0 dX9_next_0 rfl rfl ?_
    refine g_get hx 1 (C := RX9) (T := TX9) (N := 6) 2 (.int (M.2.2.1 1)) (pW σ B ae M 8 (by decide)) rfl (by decide) rfl fl_X9_13 dX9_next_1 ?_
    refine g_aload_n hx 4 (i := 0) 0 dX9_next_4 rfl rfl ?_
    refine g_get hx 5 (C := RX9) (T := TX9) (N := 6) 1 (.int (M.2.2.1 0)) (pW σ B ae M 8 (by decide)) rfl (by decide) rfl fl_X9_7 dX9_next_5 ?_
    refine g_icmp_ge hx 8 41 dX9_next_8 (by decide) (fun hc_260 => ?_) (fun hc_260 => ?_)
    · have hr := (if_pos hc_260).symm.trans hr
      refine g_aload_n hx 41 (i := 0) 0 dX9_next_41 rfl rfl ?_
      refine g_aload_n hx 42 (i := 0) 0 dX9_next_42 rfl rfl ?_
      refine g_get hx 43 (C := RX9) (T := TX9) (N := 6) 2 (.int (M.2.2.1 1)) (pW σ B ae M 8 (by decide)) rfl (by decide) rfl fl_X9_13 dX9_next_43 ?_
      refine g_put hx 46 (C := RX9) (T := TX9) (N := 6) 3 .int _ (pW σ B ae M 8 (by decide)) rfl (by decide) fl_X9_16 rfl rfl rfl rfl (Nat.le_of_ble_eq_true rfl) rfl dX9_next_46 ?_
      refine G.heap (pW_i2 σ B ae M (M.2.2.1 1)) ?_
      refine g_aload_n hx 49 (i := 0) 0 dX9_next_49 rfl rfl ?_
      refine g_get hx 50 (C := RX9) (T := TX9) (N := 6) 2 (.int (M.2.2.1 1)) (pW σ B ae (setWI M 2 (M.2.2.1 1)) 8 (by decide)) rfl (by decide) rfl fl_X9_13 dX9_next_50 ?_
      refine g_aload_n hx 53 (i := 0) 0 dX9_next_53 rfl rfl ?_
      refine g_get hx 54 (C := RX9) (T := TX9) (N := 6) 1 (.int (M.2.2.1 0)) (pW σ B ae (setWI M 2 (M.2.2.1 1)) 8 (by decide)) rfl (by decide) rfl fl_X9_7 dX9_next_54 ?_
      refine g_icmp_lt hx 57 66 dX9_next_57 (by decide) (fun hc_261 => ?_) (fun hc_261 => ?_)
      · have hr := (if_pos hc_261).symm.trans hr
        refine g_aload_n hx 66 (i := 0) 0 dX9_next_66 rfl rfl ?_
        refine g_get hx 67 (C := RX9) (T := TX9) (N := 6) 0 (.ref (B + 1)) (pW σ B ae (setWI M 2 (M.2.2.1 1)) 8 (by decide)) rfl (by decide) rfl fl_X9_25 dX9_next_67 ?_
        refine g_aload_n hx 70 (i := 0) 0 dX9_next_70 rfl rfl ?_
        refine g_get hx 71 (C := RX9) (T := TX9) (N := 6) 2 (.int (M.2.2.1 1)) (pW σ B ae (setWI M 2 (M.2.2.1 1)) 8 (by decide)) rfl (by decide) rfl fl_X9_13 dX9_next_71 ?_
        refine g_callVr hx (k_get l g (pW_l0 σ B ae (setWI M 2 (M.2.2.1 1))) (by decide) (M.2.2.1 1)) lk_X9_29 ar_Ln_get (pW_l0 σ B ae (setWI M 2 (M.2.2.1 1))).1 (T := TX2) (N := 2) rfl (As := [.int (M.2.2.1 1)]) (rest := []) rfl (Nat.le_of_ble_eq_true rfl) ⟨Nat.le_of_ble_eq_true rfl, Nat.le_of_ble_eq_true rfl⟩ ⟨rfl, rfl⟩ ⟨Nat.zero_le _, Nat.zero_le _⟩ dX9_next_74 ?_
        obtain ⟨v1_262, ev1_262, hr⟩ := lt'_e hr
        refine g_nmi ev1_262 ?_
        refine g_istore_n hx 77 (i := 1) [(1, .int v1_262), (0, .ref (B + 8))] dX9_next_77 rfl (by decide) rfl ?_
        refine g_iload_n hx 78 (i := 1) 0 dX9_next_78 rfl rfl ?_
        refine g_callSr hx (c_Tk_isLetter l g _ v1_262 rfl) lk_X9_39 ar_Tk_isLetter (As := [.int v1_262]) (rest := []) rfl (Nat.le_of_ble_eq_true rfl) ⟨Nat.le_of_ble_eq_true rfl, Nat.le_of_ble_eq_true rfl⟩ ⟨rfl, rfl⟩ ⟨Nat.zero_le _, Nat.zero_le _⟩ dX9_next_79 ?_
        refine g_if_eq hx 82 92 dX9_next_82 (by decide) (fun hc_263 => ?_) (fun hc_263 => ?_)
        · have hr := (if_pos hc_263).symm.trans hr
          refine g_iload_n hx 92 (i := 1) 0 dX9_next_92 rfl rfl ?_
          refine g_callSr hx (c_Tk_isDigit l g _ v1_262 rfl) lk_X9_45 ar_Tk_isDigit (As := [.int v1_262]) (rest := []) rfl (Nat.le_of_ble_eq_true rfl) ⟨Nat.le_of_ble_eq_true rfl, Nat.le_of_ble_eq_true rfl⟩ ⟨rfl, rfl⟩ ⟨Nat.zero_le _, Nat.zero_le _⟩ dX9_next_93 ?_
          refine g_if_eq hx 96 106 dX9_next_96 (by decide) (fun hc_264 => ?_) (fun hc_264 => ?_)
          · have hr := (if_pos hc_264).symm.trans hr
            refine g_aload_n hx 106 (i := 0) 1 dX9_next_106 rfl rfl ?_
            refine g_iload_n hx 107 (i := 1) 0 dX9_next_107 rfl rfl ?_
            refine g_bipush hx 108 (59) dX9_next_108 rfl ?_
            obtain ⟨b_266, eb_266, hr⟩ := bind_e hr
            have rest : G X (putW σ B ae (setWI M 2 (M.2.2.1 1))) 0 0 118 [(1, .int v1_262), (0, .ref (B + 8))] [.int b_266, .ref (B + 8)] := by
              refine g_put hx 118 (C := RX9) (T := TX9) (N := 6) 4 .int _ (pW σ B ae (setWI M 2 (M.2.2.1 1)) 8 (by decide)) rfl (by decide) fl_X9_19 rfl rfl rfl rfl (Nat.le_of_ble_eq_true rfl) rfl dX9_next_118 ?_
              refine G.heap (pW_i3 σ B ae (setWI M 2 (M.2.2.1 1)) b_266) ?_
              refine g_aload_n hx 121 (i := 0) 1 dX9_next_121 rfl rfl ?_
              refine g_dup hx 122 dX9_next_122 rfl ?_
              refine g_get hx 123 (C := RX9) (T := TX9) (N := 6) 2 (.int (M.2.2.1 1)) (pW σ B ae (setWI (setWI M 2 (M.2.2.1 1)) 3 b_266) 8 (by decide)) rfl (by decide) rfl fl_X9_13 dX9_next_123 ?_
              refine g_iconst hx 126 (1) dX9_next_126 rfl ?_
              refine g_iadd hx 127 dX9_next_127 ?_
              refine g_put hx 128 (C := RX9) (T := TX9) (N := 6) 2 .int _ (pW σ B ae (setWI (setWI M 2 (M.2.2.1 1)) 3 b_266) 8 (by decide)) rfl (by decide) fl_X9_13 rfl rfl rfl rfl (Nat.le_of_ble_eq_true rfl) rfl dX9_next_128 ?_
              refine G.heap (pW_i1 σ B ae (setWI (setWI M 2 (M.2.2.1 1)) 3 b_266) ((M.2.2.1 1) + 1)) ?_
              exact g_vret hx hR 131 dX9_next_131 ⟨rfl, by rw [← Option.some.inj hr] <;> rfl⟩
            clear hr
            have hr := eb_266
            refine g_icmp_ne hx 110 117 dX9_next_110 (by decide) (fun hc_265 => ?_) (fun hc_265 => ?_)
            · have hr := (if_neg hc_265).symm.trans hr
              refine g_iconst hx 117 (4) dX9_next_117 rfl ?_
              exact g_nmi (Option.some.inj hr).symm rest
            · have hr := (if_pos hc_265).symm.trans hr
              refine g_iconst hx 113 (3) dX9_next_113 rfl ?_
              refine g_goto hx 114 118 dX9_next_114 (by decide) ?_
              exact g_nmi (Option.some.inj hr).symm rest
          · have hr := (if_neg hc_264).symm.trans hr
            refine g_aload_n hx 99 (i := 0) 1 dX9_next_99 rfl rfl ?_
            obtain ⟨M_267, eM_267, hr⟩ := bind_e hr
            refine g_callVv hx (c_Tk_readNumber l g hC σ B (setWI M 2 (M.2.2.1 1)) eM_267) lk_X9_48 ar_Tk_readNumber (pW σ B ae (setWI M 2 (M.2.2.1 1)) 8 (by decide)) (T := TX9) (N := 6) rfl (As := []) (rest := []) rfl (Nat.le_of_ble_eq_true rfl) ⟨Nat.le_of_ble_eq_true rfl, Nat.le_of_ble_eq_true rfl⟩ ⟨rfl, rfl⟩ ⟨Nat.zero_le _, Nat.zero_le _⟩ dX9_next_100 ?_
            refine g_goto hx 103 131 dX9_next_103 (by decide) ?_
            exact g_vret hx hR 131 dX9_next_131 ⟨rfl, by rw [← Option.some.inj hr] <;> rfl⟩
        · have hr := (if_neg hc_263).symm.trans hr
          refine g_aload_n hx 85 (i := 0) 1 dX9_next_85 rfl rfl ?_
          obtain ⟨M_268, eM_268, hr⟩ := bind_e hr
          refine g_callVv hx (c_Tk_readWord l g hC σ B (setWI M 2 (M.2.2.1 1)) eM_268) lk_X9_42 ar_Tk_readWord (pW σ B ae (setWI M 2 (M.2.2.1 1)) 8 (by decide)) (T := TX9) (N := 6) rfl (As := []) (rest := []) rfl (Nat.le_of_ble_eq_true rfl) ⟨Nat.le_of_ble_eq_true rfl, Nat.le_of_ble_eq_true rfl⟩ ⟨rfl, rfl⟩ ⟨Nat.zero_le _, Nat.zero_le _⟩ dX9_next_86 ?_
          refine g_goto hx 89 131 dX9_next_89 (by decide) ?_
          exact g_vret hx hR 131 dX9_next_131 ⟨rfl, by rw [← Option.some.inj hr] <;> rfl⟩
      · have hr := (if_neg hc_261).symm.trans hr
        refine g_aload_n hx 60 (i := 0) 0 dX9_next_60 rfl rfl ?_
        refine g_iconst hx 61 (0) dX9_next_61 rfl ?_
        refine g_put hx 62 (C := RX9) (T := TX9) (N := 6) 4 .int _ (pW σ B ae (setWI M 2 (M.2.2.1 1)) 8 (by decide)) rfl (by decide) fl_X9_19 rfl rfl rfl rfl (Nat.le_of_ble_eq_true rfl) rfl dX9_next_62 ?_
        refine G.heap (pW_i3 σ B ae (setWI M 2 (M.2.2.1 1)) 0) ?_
        exact g_vret hx hR 65 dX9_next_65 ⟨rfl, by rw [← Option.some.inj hr] <;> rfl⟩
    · have hr := (if_neg hc_260).symm.trans hr
      refine g_aload_n hx 11 (i := 0) 0 dX9_next_11 rfl rfl ?_
      refine g_get hx 12 (C := RX9) (T := TX9) (N := 6) 0 (.ref (B + 1)) (pW σ B ae M 8 (by decide)) rfl (by decide) rfl fl_X9_25 dX9_next_12 ?_
      refine g_aload_n hx 15 (i := 0) 0 dX9_next_15 rfl rfl ?_
      refine g_get hx 16 (C := RX9) (T := TX9) (N := 6) 2 (.int (M.2.2.1 1)) (pW σ B ae M 8 (by decide)) rfl (by decide) rfl fl_X9_13 dX9_next_16 ?_
      refine g_callVr hx (k_get l g (pW_l0 σ B ae M) (by decide) (M.2.2.1 1)) lk_X9_29 ar_Ln_get (pW_l0 σ B ae M).1 (T := TX2) (N := 2) rfl (As := [.int (M.2.2.1 1)]) (rest := []) rfl (Nat.le_of_ble_eq_true rfl) ⟨Nat.le_of_ble_eq_true rfl, Nat.le_of_ble_eq_true rfl⟩ ⟨rfl, rfl⟩ ⟨Nat.zero_le _, Nat.zero_le _⟩ dX9_next_19 ?_
      refine g_callSr hx (c_Tk_isBlank l g _ (lnget (M.2.1 0) (M.2.2.1 1)) rfl) lk_X9_35 ar_Tk_isBlank (As := [.int (lnget (M.2.1 0) (M.2.2.1 1))]) (rest := []) rfl (Nat.le_of_ble_eq_true rfl) ⟨Nat.le_of_ble_eq_true rfl, Nat.le_of_ble_eq_true rfl⟩ ⟨rfl, rfl⟩ ⟨Nat.zero_le _, Nat.zero_le _⟩ dX9_next_22 ?_
      refine g_if_eq hx 25 41 dX9_next_25 (by decide) (fun hc_269 => ?_) (fun hc_269 => ?_)
      · have hr := (if_pos hc_269).symm.trans hr
        refine g_aload_n hx 41 (i := 0) 0 dX9_next_41 rfl rfl ?_
        refine g_aload_n hx 42 (i := 0) 0 dX9_next_42 rfl rfl ?_
        refine g_get hx 43 (C := RX9) (T := TX9) (N := 6) 2 (.int (M.2.2.1 1)) (pW σ B ae M 8 (by decide)) rfl (by decide) rfl fl_X9_13 dX9_next_43 ?_
        refine g_put hx 46 (C := RX9) (T := TX9) (N := 6) 3 .int _ (pW σ B ae M 8 (by decide)) rfl (by decide) fl_X9_16 rfl rfl rfl rfl (Nat.le_of_ble_eq_true rfl) rfl dX9_next_46 ?_
        refine G.heap (pW_i2 σ B ae M (M.2.2.1 1)) ?_
        refine g_aload_n hx 49 (i := 0) 0 dX9_next_49 rfl rfl ?_
        refine g_get hx 50 (C := RX9) (T := TX9) (N := 6) 2 (.int (M.2.2.1 1)) (pW σ B ae (setWI M 2 (M.2.2.1 1)) 8 (by decide)) rfl (by decide) rfl fl_X9_13 dX9_next_50 ?_
        refine g_aload_n hx 53 (i := 0) 0 dX9_next_53 rfl rfl ?_
        refine g_get hx 54 (C := RX9) (T := TX9) (N := 6) 1 (.int (M.2.2.1 0)) (pW σ B ae (setWI M 2 (M.2.2.1 1)) 8 (by decide)) rfl (by decide) rfl fl_X9_7 dX9_next_54 ?_
        refine g_icmp_lt hx 57 66 dX9_next_57 (by decide) (fun hc_270 => ?_) (fun hc_270 => ?_)
        · have hr := (if_pos hc_270).symm.trans hr
          refine g_aload_n hx 66 (i := 0) 0 dX9_next_66 rfl rfl ?_
          refine g_get hx 67 (C := RX9) (T := TX9) (N := 6) 0 (.ref (B + 1)) (pW σ B ae (setWI M 2 (M.2.2.1 1)) 8 (by decide)) rfl (by decide) rfl fl_X9_25 dX9_next_67 ?_
          refine g_aload_n hx 70 (i := 0) 0 dX9_next_70 rfl rfl ?_
          refine g_get hx 71 (C := RX9) (T := TX9) (N := 6) 2 (.int (M.2.2.1 1)) (pW σ B ae (setWI M 2 (M.2.2.1 1)) 8 (by decide)) rfl (by decide) rfl fl_X9_13 dX9_next_71 ?_
          refine g_callVr hx (k_get l g (pW_l0 σ B ae (setWI M 2 (M.2.2.1 1))) (by decide) (M.2.2.1 1)) lk_X9_29 ar_Ln_get (pW_l0 σ B ae (setWI M 2 (M.2.2.1 1))).1 (T := TX2) (N := 2) rfl (As := [.int (M.2.2.1 1)]) (rest := []) rfl (Nat.le_of_ble_eq_true rfl) ⟨Nat.le_of_ble_eq_true rfl, Nat.le_of_ble_eq_true rfl⟩ ⟨rfl, rfl⟩ ⟨Nat.zero_le _, Nat.zero_le _⟩ dX9_next_74 ?_
          obtain ⟨v1_271, ev1_271, hr⟩ := lt'_e hr
          refine g_nmi ev1_271 ?_
          refine g_istore_n hx 77 (i := 1) [(1, .int v1_271), (0, .ref (B + 8))] dX9_next_77 rfl (by decide) rfl ?_
          refine g_iload_n hx 78 (i := 1) 0 dX9_next_78 rfl rfl ?_
          refine g_callSr hx (c_Tk_isLetter l g _ v1_271 rfl) lk_X9_39 ar_Tk_isLetter (As := [.int v1_271]) (rest := []) rfl (Nat.le_of_ble_eq_true rfl) ⟨Nat.le_of_ble_eq_true rfl, Nat.le_of_ble_eq_true rfl⟩ ⟨rfl, rfl⟩ ⟨Nat.zero_le _, Nat.zero_le _⟩ dX9_next_79 ?_
          refine g_if_eq hx 82 92 dX9_next_82 (by decide) (fun hc_272 => ?_) (fun hc_272 => ?_)
          · have hr := (if_pos hc_272).symm.trans hr
            refine g_iload_n hx 92 (i := 1) 0 dX9_next_92 rfl rfl ?_
            refine g_callSr hx (c_Tk_isDigit l g _ v1_271 rfl) lk_X9_45 ar_Tk_isDigit (As := [.int v1_271]) (rest := []) rfl (Nat.le_of_ble_eq_true rfl) ⟨Nat.le_of_ble_eq_true rfl, Nat.le_of_ble_eq_true rfl⟩ ⟨rfl, rfl⟩ ⟨Nat.zero_le _, Nat.zero_le _⟩ dX9_next_93 ?_
            refine g_if_eq hx 96 106 dX9_next_96 (by decide) (fun hc_273 => ?_) (fun hc_273 => ?_)
            · have hr := (if_pos hc_273).symm.trans hr
              refine g_aload_n hx 106 (i := 0) 1 dX9_next_106 rfl rfl ?_
              refine g_iload_n hx 107 (i := 1) 0 dX9_next_107 rfl rfl ?_
              refine g_bipush hx 108 (59) dX9_next_108 rfl ?_
              obtain ⟨b_275, eb_275, hr⟩ := bind_e hr
              have rest : G X (putW σ B ae (setWI M 2 (M.2.2.1 1))) 0 0 118 [(1, .int v1_271), (0, .ref (B + 8))] [.int b_275, .ref (B + 8)] := by
                refine g_put hx 118 (C := RX9) (T := TX9) (N := 6) 4 .int _ (pW σ B ae (setWI M 2 (M.2.2.1 1)) 8 (by decide)) rfl (by decide) fl_X9_19 rfl rfl rfl rfl (Nat.le_of_ble_eq_true rfl) rfl dX9_next_118 ?_
                refine G.heap (pW_i3 σ B ae (setWI M 2 (M.2.2.1 1)) b_275) ?_
                refine g_aload_n hx 121 (i := 0) 1 dX9_next_121 rfl rfl ?_
                refine g_dup hx 122 dX9_next_122 rfl ?_
                refine g_get hx 123 (C := RX9) (T := TX9) (N := 6) 2 (.int (M.2.2.1 1)) (pW σ B ae (setWI (setWI M 2 (M.2.2.1 1)) 3 b_275) 8 (by decide)) rfl (by decide) rfl fl_X9_13 dX9_next_123 ?_
                refine g_iconst hx 126 (1) dX9_next_126 rfl ?_
                refine g_iadd hx 127 dX9_next_127 ?_
                refine g_put hx 128 (C := RX9) (T := TX9) (N := 6) 2 .int _ (pW σ B ae (setWI (setWI M 2 (M.2.2.1 1)) 3 b_275) 8 (by decide)) rfl (by decide) fl_X9_13 rfl rfl rfl rfl (Nat.le_of_ble_eq_true rfl) rfl dX9_next_128 ?_
                refine G.heap (pW_i1 σ B ae (setWI (setWI M 2 (M.2.2.1 1)) 3 b_275) ((M.2.2.1 1) + 1)) ?_
                exact g_vret hx hR 131 dX9_next_131 ⟨rfl, by rw [← Option.some.inj hr] <;> rfl⟩
              clear hr
              have hr := eb_275
              refine g_icmp_ne hx 110 117 dX9_next_110 (by decide) (fun hc_274 => ?_) (fun hc_274 => ?_)
              · have hr := (if_neg hc_274).symm.trans hr
                refine g_iconst hx 117 (4) dX9_next_117 rfl ?_
                exact g_nmi (Option.some.inj hr).symm rest
              · have hr := (if_pos hc_274).symm.trans hr
                refine g_iconst hx 113 (3) dX9_next_113 rfl ?_
                refine g_goto hx 114 118 dX9_next_114 (by decide) ?_
                exact g_nmi (Option.some.inj hr).symm rest
            · have hr := (if_neg hc_273).symm.trans hr
              refine g_aload_n hx 99 (i := 0) 1 dX9_next_99 rfl rfl ?_
              obtain ⟨M_276, eM_276, hr⟩ := bind_e hr
              refine g_callVv hx (c_Tk_readNumber l g hC σ B (setWI M 2 (M.2.2.1 1)) eM_276) lk_X9_48 ar_Tk_readNumber (pW σ B ae (setWI M 2 (M.2.2.1 1)) 8 (by decide)) (T := TX9) (N := 6) rfl (As := []) (rest := []) rfl (Nat.le_of_ble_eq_true rfl) ⟨Nat.le_of_ble_eq_true rfl, Nat.le_of_ble_eq_true rfl⟩ ⟨rfl, rfl⟩ ⟨Nat.zero_le _, Nat.zero_le _⟩ dX9_next_100 ?_
              refine g_goto hx 103 131 dX9_next_103 (by decide) ?_
              exact g_vret hx hR 131 dX9_next_131 ⟨rfl, by rw [← Option.some.inj hr] <;> rfl⟩
          · have hr := (if_neg hc_272).symm.trans hr
            refine g_aload_n hx 85 (i := 0) 1 dX9_next_85 rfl rfl ?_
            obtain ⟨M_277, eM_277, hr⟩ := bind_e hr
            refine g_callVv hx (c_Tk_readWord l g hC σ B (setWI M 2 (M.2.2.1 1)) eM_277) lk_X9_42 ar_Tk_readWord (pW σ B ae (setWI M 2 (M.2.2.1 1)) 8 (by decide)) (T := TX9) (N := 6) rfl (As := []) (rest := []) rfl (Nat.le_of_ble_eq_true rfl) ⟨Nat.le_of_ble_eq_true rfl, Nat.le_of_ble_eq_true rfl⟩ ⟨rfl, rfl⟩ ⟨Nat.zero_le _, Nat.zero_le _⟩ dX9_next_86 ?_
            refine g_goto hx 89 131 dX9_next_89 (by decide) ?_
            exact g_vret hx hR 131 dX9_next_131 ⟨rfl, by rw [← Option.some.inj hr] <;> rfl⟩
        · have hr := (if_neg hc_270).symm.trans hr
          refine g_aload_n hx 60 (i := 0) 0 dX9_next_60 rfl rfl ?_
          refine g_iconst hx 61 (0) dX9_next_61 rfl ?_
          refine g_put hx 62 (C := RX9) (T := TX9) (N := 6) 4 .int _ (pW σ B ae (setWI M 2 (M.2.2.1 1)) 8 (by decide)) rfl (by decide) fl_X9_19 rfl rfl rfl rfl (Nat.le_of_ble_eq_true rfl) rfl dX9_next_62 ?_
          refine G.heap (pW_i3 σ B ae (setWI M 2 (M.2.2.1 1)) 0) ?_
          exact g_vret hx hR 65 dX9_next_65 ⟨rfl, by rw [← Option.some.inj hr] <;> rfl⟩
      · have hr := (if_neg hc_269).symm.trans hr
        refine g_aload_n hx 28 (i := 0) 0 dX9_next_28 rfl rfl ?_
        refine g_dup hx 29 dX9_next_29 rfl ?_
        refine g_get hx 30 (C := RX9) (T := TX9) (N := 6) 2 (.int (M.2.2.1 1)) (pW σ B ae M 8 (by decide)) rfl (by decide) rfl fl_X9_13 dX9_next_30 ?_
        refine g_iconst hx 33 (1) dX9_next_33 rfl ?_
        refine g_iadd hx 34 dX9_next_34 ?_
        refine g_put hx 35 (C := RX9) (T := TX9) (N := 6) 2 .int _ (pW σ B ae M 8 (by decide)) rfl (by decide) fl_X9_13 rfl rfl rfl rfl (Nat.le_of_ble_eq_true rfl) rfl dX9_next_35 ?_
        refine G.heap (pW_i1 σ B ae M ((M.2.2.1 1) + 1)) ?_
        refine g_goto hx 38 0 dX9_next_38 (by decide) ?_
        refine g_ls [0] [(0, .ref (B + 8))] rfl ?_
        exact ih (setWI M 1 ((M.2.2.1 1) + 1))  hr
set_option maxRecDepth 100000 in
set_option maxHeartbeats 4000000 in
theorem c_Tk_next {ad ae : Nat → Nat} (l : Launch) (g : Gl) (hC : KAll g ad ae) (σ : Hp) (B : Nat) (M : WM) {r : WM} (hr : Tk_next M = some r) : MG l g md_Tk_next [.ref (B + 8)] (putW σ B ae M) (rs none (putW σ B ae r)) := by
  refine MG.intro (by decide +kernel) (Nat.le_of_ble_eq_true rfl) (fun X hx hR _ => ?_)
  unfold Tk_next at hr
  refine g_ls [0] [(0, .ref (B + 8))] rfl ?_
  refine g_ls [0] [(0, .ref (B + 8))] rfl ?_
  exact w_Tk_next_L0 hx hC hR FU M  hr
def Tk_isWord_L28 (cs : List Int32) (M : WM) : Nat → Int32 → Option (Int32)
  | 0, _ => none
  | n + 1, v2_280 => if nI cs.length ≤ v2_280 then (some (1)) else (if inB v2_280 cs.length then (if lnget (M.2.1 0) ((M.2.2.1 2) + v2_280) = cs.getD v2_280.toNatClampNeg 0 then (Tk_isWord_L28 cs M n (v2_280 + 1)) else (some (0))) else none)
def Tk_isWord (cs : List Int32) (M : WM) : Option (Int32) := if M.2.2.1 3 = 1 then (if (M.2.2.1 1) - (M.2.2.1 2) = nI cs.length then (Tk_isWord_L28 cs M FU 0) else (some (0))) else (some (0))
set_option maxRecDepth 100000 in
set_option maxHeartbeats 4000000 in
theorem w_Tk_isWord_L28 {ad ae : Nat → Nat} {a1 : Nat} {cs : List Int32} {X : Cx} {l : Launch} {g : Gl} (hx : Ok X l g RX9 cX9_isWord 3 md_Tk_isWord.rm) (hC : KAll g ad ae) (hs : StrOK g a1 cs) {σ : Hp} {B : Nat} {M : WM} {r : Int32} (hR : Ret X (rs (some (.int r)) (putW σ B ae M)) 0 0 (some .boolean)) : ∀ (n : Nat) (v2_280 : Int32), Tk_isWord_L28 cs M n v2_280 = some r → G X (putW σ B ae M) 0 0 28 [(0, .ref (B + 8)), (1, .ref a1), (2, .int v2_280)] [] := by
  intro n
  induction n with
  | zero =>
    intro v2_280 hr
    rw [Tk_isWord_L28] at hr
    cases hr
  | succ n ih =>
    intro v2_280 hr
    rw [Tk_isWord_L28] at hr
    refine g_iload_n hx 28 (i := 2) 2 dX9_isWord_28 rfl rfl ?_
    refine g_aload_n hx 29 (i := 1) 1 dX9_isWord_29 rfl rfl ?_
    refine g_callX hx (c_strlen l g _ hs) lk_X9_51 ar_J0_length (StrOK.obj hs) (As := []) (rest := [.int v2_280]) rfl (Nat.le_of_ble_eq_true rfl) ⟨Nat.le_of_ble_eq_true rfl, Nat.le_of_ble_eq_true rfl⟩ ⟨rfl, rfl⟩ ⟨Nat.zero_le _, Nat.zero_le _⟩ dX9_isWord_30 ?_
    refine g_icmp_ge hx 33 65 dX9_isWord_33 (by decide) (fun hc_281 => ?_) (fun hc_281 => ?_)
    · have hr := (if_pos hc_281).symm.trans hr
      refine g_iconst hx 65 (1) dX9_isWord_65 rfl ?_
      exact g_zret hx hR 66 (Or.inr rfl) dX9_isWord_66 ⟨by rw [← Option.some.inj hr] <;> rfl, rfl⟩
    · have hr := (if_neg hc_281).symm.trans hr
      refine g_aload_n hx 36 (i := 0) 0 dX9_isWord_36 rfl rfl ?_
      refine g_get hx 37 (C := RX9) (T := TX9) (N := 6) 0 (.ref (B + 1)) (pW σ B ae M 8 (by decide)) rfl (by decide) rfl fl_X9_25 dX9_isWord_37 ?_
      refine g_aload_n hx 40 (i := 0) 0 dX9_isWord_40 rfl rfl ?_
      refine g_get hx 41 (C := RX9) (T := TX9) (N := 6) 3 (.int (M.2.2.1 2)) (pW σ B ae M 8 (by decide)) rfl (by decide) rfl fl_X9_16 dX9_isWord_41 ?_
      refine g_iload_n hx 44 (i := 2) 2 dX9_isWord_44 rfl rfl ?_
      refine g_iadd hx 45 dX9_isWord_45 ?_
      refine g_callVr hx (k_get l g (pW_l0 σ B ae M) (by decide) ((M.2.2.1 2) + v2_280)) lk_X9_29 ar_Ln_get (pW_l0 σ B ae M).1 (T := TX2) (N := 2) rfl (As := [.int ((M.2.2.1 2) + v2_280)]) (rest := []) rfl (Nat.le_of_ble_eq_true rfl) ⟨Nat.le_of_ble_eq_true rfl, Nat.le_of_ble_eq_true rfl⟩ ⟨rfl, rfl⟩ ⟨Nat.zero_le _, Nat.zero_le _⟩ dX9_isWord_46 ?_
      refine g_aload_n hx 49 (i := 1) 1 dX9_isWord_49 rfl rfl ?_
      refine g_iload_n hx 50 (i := 2) 2 dX9_isWord_50 rfl rfl ?_
      obtain ⟨hb_282, hr⟩ := ob hr
      refine g_callX hx (c_strat l g _ hs v2_280 hb_282) lk_X9_56 ar_J0_charAt (StrOK.obj hs) (As := [.int v2_280]) (rest := [.int (lnget (M.2.1 0) ((M.2.2.1 2) + v2_280))]) rfl (Nat.le_of_ble_eq_true rfl) ⟨Nat.le_of_ble_eq_true rfl, Nat.le_of_ble_eq_true rfl⟩ ⟨rfl, rfl⟩ ⟨Nat.zero_le _, Nat.zero_le _⟩ dX9_isWord_51 ?_
      refine g_icmp_eq hx 54 59 dX9_isWord_54 (by decide) (fun hc_283 => ?_) (fun hc_283 => ?_)
      · have hr := (if_pos hc_283).symm.trans hr
        refine g_iinc hx 59 (i := 2) 2 (v2_280 + 1) [(2, .int (v2_280 + 1)), (0, .ref (B + 8)), (1, .ref a1)] dX9_isWord_59 rfl rfl (by decide) rfl ?_
        refine g_goto hx 62 28 dX9_isWord_62 (by decide) ?_
        refine g_ls [1, 2, 0] [(0, .ref (B + 8)), (1, .ref a1), (2, .int (v2_280 + 1))] rfl ?_
        exact ih (v2_280 + 1) hr
      · have hr := (if_neg hc_283).symm.trans hr
        refine g_iconst hx 57 (0) dX9_isWord_57 rfl ?_
        exact g_zret hx hR 58 (Or.inl rfl) dX9_isWord_58 ⟨by rw [← Option.some.inj hr] <;> rfl, rfl⟩
set_option maxRecDepth 100000 in
set_option maxHeartbeats 4000000 in
theorem c_Tk_isWord {ad ae : Nat → Nat} {a1 : Nat} {cs : List Int32} (l : Launch) (g : Gl) (hC : KAll g ad ae) (hs : StrOK g a1 cs) (σ : Hp) (B : Nat) (M : WM) {r : Int32} (hr : Tk_isWord cs M = some r) : MG l g md_Tk_isWord [.ref (B + 8), .ref a1] (putW σ B ae M) (rs (some (.int r)) (putW σ B ae M)) := by
  refine MG.intro (by decide +kernel) (Nat.le_of_ble_eq_true rfl) (fun X hx hR _ => ?_)
  unfold Tk_isWord at hr
  refine g_ls [0, 1] [(0, .ref (B + 8)), (1, .ref a1)] rfl ?_
  refine g_aload_n hx 0 (i := 0) 0 dX9_isWord_0 rfl rfl ?_
  refine g_get hx 1 (C := RX9) (T := TX9) (N := 6) 4 (.int (M.2.2.1 3)) (pW σ B ae M 8 (by decide)) rfl (by decide) rfl fl_X9_19 dX9_isWord_1 ?_
  refine g_iconst hx 4 (1) dX9_isWord_4 rfl ?_
  refine g_icmp_ne hx 5 24 dX9_isWord_5 (by decide) (fun hc_278 => ?_) (fun hc_278 => ?_)
  · have hr := (if_neg hc_278).symm.trans hr
    refine g_iconst hx 24 (0) dX9_isWord_24 rfl ?_
    exact g_zret hx hR 25 (Or.inl rfl) dX9_isWord_25 ⟨by rw [← Option.some.inj hr] <;> rfl, rfl⟩
  · have hr := (if_pos hc_278).symm.trans hr
    refine g_aload_n hx 8 (i := 0) 0 dX9_isWord_8 rfl rfl ?_
    refine g_get hx 9 (C := RX9) (T := TX9) (N := 6) 2 (.int (M.2.2.1 1)) (pW σ B ae M 8 (by decide)) rfl (by decide) rfl fl_X9_13 dX9_isWord_9 ?_
    refine g_aload_n hx 12 (i := 0) 0 dX9_isWord_12 rfl rfl ?_
    refine g_get hx 13 (C := RX9) (T := TX9) (N := 6) 3 (.int (M.2.2.1 2)) (pW σ B ae M 8 (by decide)) rfl (by decide) rfl fl_X9_16 dX9_isWord_13 ?_
    refine g_isub hx 16 dX9_isWord_16 ?_
    refine g_aload_n hx 17 (i := 1) 1 dX9_isWord_17 rfl rfl ?_
    refine g_callX hx (c_strlen l g _ hs) lk_X9_51 ar_J0_length (StrOK.obj hs) (As := []) (rest := [.int ((M.2.2.1 1) - (M.2.2.1 2))]) rfl (Nat.le_of_ble_eq_true rfl) ⟨Nat.le_of_ble_eq_true rfl, Nat.le_of_ble_eq_true rfl⟩ ⟨rfl, rfl⟩ ⟨Nat.zero_le _, Nat.zero_le _⟩ dX9_isWord_18 ?_
    refine g_icmp_eq hx 21 26 dX9_isWord_21 (by decide) (fun hc_279 => ?_) (fun hc_279 => ?_)
    · have hr := (if_pos hc_279).symm.trans hr
      refine g_iconst hx 26 (0) dX9_isWord_26 rfl ?_
      refine g_istore_n hx 27 (i := 2) [(2, .int 0), (0, .ref (B + 8)), (1, .ref a1)] dX9_isWord_27 rfl (by decide) rfl ?_
      refine g_ls [1, 2, 0] [(0, .ref (B + 8)), (1, .ref a1), (2, .int 0)] rfl ?_
      exact w_Tk_isWord_L28 hx hC hs hR FU 0 hr
    · have hr := (if_neg hc_279).symm.trans hr
      refine g_iconst hx 24 (0) dX9_isWord_24 rfl ?_
      exact g_zret hx hR 25 (Or.inl rfl) dX9_isWord_25 ⟨by rw [← Option.some.inj hr] <;> rfl, rfl⟩
def Tk_start (M : WM) : Int32 := M.2.2.1 2
set_option maxRecDepth 100000 in
set_option maxHeartbeats 4000000 in
theorem c_Tk_start {ad ae : Nat → Nat} (l : Launch) (g : Gl) (hC : KAll g ad ae) (σ : Hp) (B : Nat) (M : WM) {r : Int32} (hr : Tk_start M = r) : MG l g md_Tk_start [.ref (B + 8)] (putW σ B ae M) (rs (some (.int r)) (putW σ B ae M)) := by
  refine MG.intro (by decide +kernel) (Nat.le_of_ble_eq_true rfl) (fun X hx hR _ => ?_)
  unfold Tk_start at hr
  refine g_ls [0] [(0, .ref (B + 8))] rfl ?_
  refine g_aload_n hx 0 (i := 0) 0 dX9_start_0 rfl rfl ?_
  refine g_get hx 1 (C := RX9) (T := TX9) (N := 6) 3 (.int (M.2.2.1 2)) (pW σ B ae M 8 (by decide)) rfl (by decide) rfl fl_X9_16 dX9_start_1 ?_
  exact g_iret hx hR 4 dX9_start_4 ⟨by rw [← hr] <;> rfl, rfl⟩
def Ps_fail (M : WM) (p1 : Int32) : Int32 × WM := (0, setWI (setWI M 5 p1) 6 (Tk_start (setWI M 5 p1)))
set_option maxRecDepth 100000 in
set_option maxHeartbeats 4000000 in
theorem c_Ps_fail {ad ae : Nat → Nat} (l : Launch) (g : Gl) (hC : KAll g ad ae) (σ : Hp) (B : Nat) (M : WM) (p1 : Int32) {r : Int32 × WM} (hr : Ps_fail M p1 = r) : MG l g md_Ps_fail [.ref (B + 7), .int p1] (putW σ B ae M) (rs (some (.int r.1)) (putW σ B ae r.2)) := by
  refine MG.intro (by decide +kernel) (Nat.le_of_ble_eq_true rfl) (fun X hx hR _ => ?_)
  unfold Ps_fail at hr
  refine g_ls [0, 1] [(0, .ref (B + 7)), (1, .int p1)] rfl ?_
  refine g_aload_n hx 0 (i := 0) 0 dX4_fail_0 rfl rfl ?_
  refine g_iload_n hx 1 (i := 1) 1 dX4_fail_1 rfl rfl ?_
  refine g_put hx 2 (C := RX4) (T := TX4) (N := 3) 1 .int _ (pW σ B ae M 7 (by decide)) rfl (by decide) fl_X4_9 rfl rfl rfl rfl (Nat.le_of_ble_eq_true rfl) rfl dX4_fail_2 ?_
  refine G.heap (pW_i5 σ B ae M p1) ?_
  refine g_aload_n hx 5 (i := 0) 0 dX4_fail_5 rfl rfl ?_
  refine g_aload_n hx 6 (i := 0) 0 dX4_fail_6 rfl rfl ?_
  refine g_get hx 7 (C := RX4) (T := TX4) (N := 3) 0 (.ref (B + 8)) (pW σ B ae (setWI M 5 p1) 7 (by decide)) rfl (by decide) rfl fl_X4_23 dX4_fail_7 ?_
  refine g_callVr hx (c_Tk_start l g hC σ B (setWI M 5 p1) rfl) lk_X4_126 ar_Tk_start (pW σ B ae (setWI M 5 p1) 8 (by decide)) (T := TX9) (N := 6) rfl (As := []) (rest := [.ref (B + 7)]) rfl (Nat.le_of_ble_eq_true rfl) ⟨Nat.le_of_ble_eq_true rfl, Nat.le_of_ble_eq_true rfl⟩ ⟨rfl, rfl⟩ ⟨Nat.zero_le _, Nat.zero_le _⟩ dX4_fail_10 ?_
  refine g_put hx 13 (C := RX4) (T := TX4) (N := 3) 2 .int _ (pW σ B ae (setWI M 5 p1) 7 (by decide)) rfl (by decide) fl_X4_15 rfl rfl rfl rfl (Nat.le_of_ble_eq_true rfl) rfl dX4_fail_13 ?_
  refine G.heap (pW_i6 σ B ae (setWI M 5 p1) (Tk_start (setWI M 5 p1))) ?_
  refine g_iconst hx 16 (0) dX4_fail_16 rfl ?_
  exact g_zret hx hR 17 (Or.inl rfl) dX4_fail_17 ⟨by rw [← hr] <;> rfl, by rw [← hr] <;> rfl⟩
def Tk_kind (M : WM) : Int32 := M.2.2.1 3
set_option maxRecDepth 100000 in
set_option maxHeartbeats 4000000 in
theorem c_Tk_kind {ad ae : Nat → Nat} (l : Launch) (g : Gl) (hC : KAll g ad ae) (σ : Hp) (B : Nat) (M : WM) {r : Int32} (hr : Tk_kind M = r) : MG l g md_Tk_kind [.ref (B + 8)] (putW σ B ae M) (rs (some (.int r)) (putW σ B ae M)) := by
  refine MG.intro (by decide +kernel) (Nat.le_of_ble_eq_true rfl) (fun X hx hR _ => ?_)
  unfold Tk_kind at hr
  refine g_ls [0] [(0, .ref (B + 8))] rfl ?_
  refine g_aload_n hx 0 (i := 0) 0 dX9_kind_0 rfl rfl ?_
  refine g_get hx 1 (C := RX9) (T := TX9) (N := 6) 4 (.int (M.2.2.1 3)) (pW σ B ae M 8 (by decide)) rfl (by decide) rfl fl_X9_19 dX9_kind_1 ?_
  exact g_iret hx hR 4 dX9_kind_4 ⟨by rw [← hr] <;> rfl, rfl⟩
def Tk_value (M : WM) : Int32 := M.2.2.1 4
set_option maxRecDepth 100000 in
set_option maxHeartbeats 4000000 in
theorem c_Tk_value {ad ae : Nat → Nat} (l : Launch) (g : Gl) (hC : KAll g ad ae) (σ : Hp) (B : Nat) (M : WM) {r : Int32} (hr : Tk_value M = r) : MG l g md_Tk_value [.ref (B + 8)] (putW σ B ae M) (rs (some (.int r)) (putW σ B ae M)) := by
  refine MG.intro (by decide +kernel) (Nat.le_of_ble_eq_true rfl) (fun X hx hR _ => ?_)
  unfold Tk_value at hr
  refine g_ls [0] [(0, .ref (B + 8))] rfl ?_
  refine g_aload_n hx 0 (i := 0) 0 dX9_value_0 rfl rfl ?_
  refine g_get hx 1 (C := RX9) (T := TX9) (N := 6) 5 (.int (M.2.2.1 4)) (pW σ B ae M 8 (by decide)) rfl (by decide) rfl fl_X9_22 dX9_value_1 ?_
  exact g_iret hx hR 4 dX9_value_4 ⟨by rw [← hr] <;> rfl, rfl⟩
def Ps_readNumber (M : WM) (p1 p2 : Int32) : Option (Int32 × WM) := Option.bind (Tk_next M) fun M_284 => if Tk_kind M_284 = 2 then (if Tk_value M_284 < p1 then (lt' (Ps_fail M_284 2) fun q_287 => if q_287.1 = 0 ∨ q_287.1 = 1 then (some ((q_287.1, q_287.2))) else none) else (if Tk_value M_284 ≤ p2 then (some ((1, M_284))) else (lt' (Ps_fail M_284 2) fun q_290 => if q_290.1 = 0 ∨ q_290.1 = 1 then (some ((q_290.1, q_290.2))) else none))) else (lt' (Ps_fail M_284 1) fun q_292 => if q_292.1 = 0 ∨ q_292.1 = 1 then (some ((q_292.1, q_292.2))) else none)
set_option maxRecDepth 100000 in
set_option maxHeartbeats 4000000 in
theorem c_Ps_readNumber {ad ae : Nat → Nat} (l : Launch) (g : Gl) (hC : KAll g ad ae) (σ : Hp) (B : Nat) (M : WM) (p1 p2 : Int32) {r : Int32 × WM} (hr : Ps_readNumber M p1 p2 = some r) : MG l g md_Ps_readNumber [.ref (B + 7), .int p1, .int p2] (putW σ B ae M) (rs (some (.int r.1)) (putW σ B ae r.2)) := by
  refine MG.intro (by decide +kernel) (Nat.le_of_ble_eq_true rfl) (fun X hx hR _ => ?_)
  unfold Ps_readNumber at hr
  refine g_ls [0, 1, 2] [(0, .ref (B + 7)), (1, .int p1), (2, .int p2)] rfl ?_
  refine g_aload_n hx 0 (i := 0) 0 dX4_readNumber_0 rfl rfl ?_
  refine g_get hx 1 (C := RX4) (T := TX4) (N := 3) 0 (.ref (B + 8)) (pW σ B ae M 7 (by decide)) rfl (by decide) rfl fl_X4_23 dX4_readNumber_1 ?_
  obtain ⟨M_284, eM_284, hr⟩ := bind_e hr
  refine g_callVv hx (c_Tk_next l g hC σ B M eM_284) lk_X4_35 ar_Tk_next (pW σ B ae M 8 (by decide)) (T := TX9) (N := 6) rfl (As := []) (rest := []) rfl (Nat.le_of_ble_eq_true rfl) ⟨Nat.le_of_ble_eq_true rfl, Nat.le_of_ble_eq_true rfl⟩ ⟨rfl, rfl⟩ ⟨Nat.zero_le _, Nat.zero_le _⟩ dX4_readNumber_4 ?_
  refine g_aload_n hx 7 (i := 0) 0 dX4_readNumber_7 rfl rfl ?_
  refine g_get hx 8 (C := RX4) (T := TX4) (N := 3) 0 (.ref (B + 8)) (pW σ B ae M_284 7 (by decide)) rfl (by decide) rfl fl_X4_23 dX4_readNumber_8 ?_
  refine g_callVr hx (c_Tk_kind l g hC σ B M_284 rfl) lk_X4_38 ar_Tk_kind (pW σ B ae M_284 8 (by decide)) (T := TX9) (N := 6) rfl (As := []) (rest := []) rfl (Nat.le_of_ble_eq_true rfl) ⟨Nat.le_of_ble_eq_true rfl, Nat.le_of_ble_eq_true rfl⟩ ⟨rfl, rfl⟩ ⟨Nat.zero_le _, Nat.zero_le _⟩ dX4_readNumber_11 ?_
  refine g_iconst hx 14 (2) dX4_readNumber_14 rfl ?_
  refine g_icmp_eq hx 15 24 dX4_readNumber_15 (by decide) (fun hc_285 => ?_) (fun hc_285 => ?_)
  · have hr := (if_pos hc_285).symm.trans hr
    refine g_aload_n hx 24 (i := 0) 0 dX4_readNumber_24 rfl rfl ?_
    refine g_get hx 25 (C := RX4) (T := TX4) (N := 3) 0 (.ref (B + 8)) (pW σ B ae M_284 7 (by decide)) rfl (by decide) rfl fl_X4_23 dX4_readNumber_25 ?_
    refine g_callVr hx (c_Tk_value l g hC σ B M_284 rfl) lk_X4_75 ar_Tk_value (pW σ B ae M_284 8 (by decide)) (T := TX9) (N := 6) rfl (As := []) (rest := []) rfl (Nat.le_of_ble_eq_true rfl) ⟨Nat.le_of_ble_eq_true rfl, Nat.le_of_ble_eq_true rfl⟩ ⟨rfl, rfl⟩ ⟨Nat.zero_le _, Nat.zero_le _⟩ dX4_readNumber_28 ?_
    refine g_iload_n hx 31 (i := 1) 1 dX4_readNumber_31 rfl rfl ?_
    refine g_icmp_lt hx 32 46 dX4_readNumber_32 (by decide) (fun hc_286 => ?_) (fun hc_286 => ?_)
    · have hr := (if_pos hc_286).symm.trans hr
      refine g_aload_n hx 46 (i := 0) 0 dX4_readNumber_46 rfl rfl ?_
      refine g_iconst hx 47 (2) dX4_readNumber_47 rfl ?_
      obtain ⟨q_287, eq_287, hr⟩ := lt'_e hr
      refine g_callVr hx (c_Ps_fail l g hC σ B M_284 2 eq_287.symm) lk_X4_48 ar_Ps_fail (pW σ B ae M_284 7 (by decide)) (T := TX4) (N := 3) rfl (As := [.int 2]) (rest := []) rfl (Nat.le_of_ble_eq_true rfl) ⟨Nat.le_of_ble_eq_true rfl, Nat.le_of_ble_eq_true rfl⟩ ⟨rfl, rfl⟩ ⟨Nat.zero_le _, Nat.zero_le _⟩ dX4_readNumber_48 ?_
      obtain ⟨hz_288, hr⟩ := ob hr
      exact g_zret hx hR 51 hz_288 dX4_readNumber_51 ⟨by rw [← Option.some.inj hr] <;> rfl, by rw [← Option.some.inj hr] <;> rfl⟩
    · have hr := (if_neg hc_286).symm.trans hr
      refine g_aload_n hx 35 (i := 0) 0 dX4_readNumber_35 rfl rfl ?_
      refine g_get hx 36 (C := RX4) (T := TX4) (N := 3) 0 (.ref (B + 8)) (pW σ B ae M_284 7 (by decide)) rfl (by decide) rfl fl_X4_23 dX4_readNumber_36 ?_
      refine g_callVr hx (c_Tk_value l g hC σ B M_284 rfl) lk_X4_75 ar_Tk_value (pW σ B ae M_284 8 (by decide)) (T := TX9) (N := 6) rfl (As := []) (rest := []) rfl (Nat.le_of_ble_eq_true rfl) ⟨Nat.le_of_ble_eq_true rfl, Nat.le_of_ble_eq_true rfl⟩ ⟨rfl, rfl⟩ ⟨Nat.zero_le _, Nat.zero_le _⟩ dX4_readNumber_39 ?_
      refine g_iload_n hx 42 (i := 2) 2 dX4_readNumber_42 rfl rfl ?_
      refine g_icmp_le hx 43 52 dX4_readNumber_43 (by decide) (fun hc_289 => ?_) (fun hc_289 => ?_)
      · have hr := (if_pos hc_289).symm.trans hr
        refine g_iconst hx 52 (1) dX4_readNumber_52 rfl ?_
        exact g_zret hx hR 53 (Or.inr rfl) dX4_readNumber_53 ⟨by rw [← Option.some.inj hr] <;> rfl, by rw [← Option.some.inj hr] <;> rfl⟩
      · have hr := (if_neg hc_289).symm.trans hr
        refine g_aload_n hx 46 (i := 0) 0 dX4_readNumber_46 rfl rfl ?_
        refine g_iconst hx 47 (2) dX4_readNumber_47 rfl ?_
        obtain ⟨q_290, eq_290, hr⟩ := lt'_e hr
        refine g_callVr hx (c_Ps_fail l g hC σ B M_284 2 eq_290.symm) lk_X4_48 ar_Ps_fail (pW σ B ae M_284 7 (by decide)) (T := TX4) (N := 3) rfl (As := [.int 2]) (rest := []) rfl (Nat.le_of_ble_eq_true rfl) ⟨Nat.le_of_ble_eq_true rfl, Nat.le_of_ble_eq_true rfl⟩ ⟨rfl, rfl⟩ ⟨Nat.zero_le _, Nat.zero_le _⟩ dX4_readNumber_48 ?_
        obtain ⟨hz_291, hr⟩ := ob hr
        exact g_zret hx hR 51 hz_291 dX4_readNumber_51 ⟨by rw [← Option.some.inj hr] <;> rfl, by rw [← Option.some.inj hr] <;> rfl⟩
  · have hr := (if_neg hc_285).symm.trans hr
    refine g_aload_n hx 18 (i := 0) 0 dX4_readNumber_18 rfl rfl ?_
    refine g_iconst hx 19 (1) dX4_readNumber_19 rfl ?_
    obtain ⟨q_292, eq_292, hr⟩ := lt'_e hr
    refine g_callVr hx (c_Ps_fail l g hC σ B M_284 1 eq_292.symm) lk_X4_48 ar_Ps_fail (pW σ B ae M_284 7 (by decide)) (T := TX4) (N := 3) rfl (As := [.int 1]) (rest := []) rfl (Nat.le_of_ble_eq_true rfl) ⟨Nat.le_of_ble_eq_true rfl, Nat.le_of_ble_eq_true rfl⟩ ⟨rfl, rfl⟩ ⟨Nat.zero_le _, Nat.zero_le _⟩ dX4_readNumber_20 ?_
    obtain ⟨hz_293, hr⟩ := ob hr
    exact g_zret hx hR 23 hz_293 dX4_readNumber_23 ⟨by rw [← Option.some.inj hr] <;> rfl, by rw [← Option.some.inj hr] <;> rfl⟩
def Ps_isEnded (M : WM) : Option (Int32 × WM) := if Tk_kind M = 3 then (some ((1, M))) else (lt' (Ps_fail M 1) fun q_295 => Option.bind (if q_295.1 = 0 then (some 0) else (some 1)) fun b_297 => if b_297 = 0 ∨ b_297 = 1 then (some ((b_297, q_295.2))) else none)
set_option maxRecDepth 100000 in
set_option maxHeartbeats 4000000 in
theorem c_Ps_isEnded {ad ae : Nat → Nat} (l : Launch) (g : Gl) (hC : KAll g ad ae) (σ : Hp) (B : Nat) (M : WM) {r : Int32 × WM} (hr : Ps_isEnded M = some r) : MG l g md_Ps_isEnded [.ref (B + 7)] (putW σ B ae M) (rs (some (.int r.1)) (putW σ B ae r.2)) := by
  refine MG.intro (by decide +kernel) (Nat.le_of_ble_eq_true rfl) (fun X hx hR _ => ?_)
  unfold Ps_isEnded at hr
  refine g_ls [0] [(0, .ref (B + 7))] rfl ?_
  refine g_aload_n hx 0 (i := 0) 0 dX4_isEnded_0 rfl rfl ?_
  refine g_get hx 1 (C := RX4) (T := TX4) (N := 3) 0 (.ref (B + 8)) (pW σ B ae M 7 (by decide)) rfl (by decide) rfl fl_X4_23 dX4_isEnded_1 ?_
  refine g_callVr hx (c_Tk_kind l g hC σ B M rfl) lk_X4_38 ar_Tk_kind (pW σ B ae M 8 (by decide)) (T := TX9) (N := 6) rfl (As := []) (rest := []) rfl (Nat.le_of_ble_eq_true rfl) ⟨Nat.le_of_ble_eq_true rfl, Nat.le_of_ble_eq_true rfl⟩ ⟨rfl, rfl⟩ ⟨Nat.zero_le _, Nat.zero_le _⟩ dX4_isEnded_4 ?_
  refine g_iconst hx 7 (3) dX4_isEnded_7 rfl ?_
  refine g_icmp_eq hx 8 19 dX4_isEnded_8 (by decide) (fun hc_294 => ?_) (fun hc_294 => ?_)
  · have hr := (if_pos hc_294).symm.trans hr
    refine g_iconst hx 19 (1) dX4_isEnded_19 rfl ?_
    refine g_goto hx 20 24 dX4_isEnded_20 (by decide) ?_
    exact g_zret hx hR 24 (Or.inr rfl) dX4_isEnded_24 ⟨by rw [← Option.some.inj hr] <;> rfl, by rw [← Option.some.inj hr] <;> rfl⟩
  · have hr := (if_neg hc_294).symm.trans hr
    refine g_aload_n hx 11 (i := 0) 0 dX4_isEnded_11 rfl rfl ?_
    refine g_iconst hx 12 (1) dX4_isEnded_12 rfl ?_
    obtain ⟨q_295, eq_295, hr⟩ := lt'_e hr
    refine g_callVr hx (c_Ps_fail l g hC σ B M 1 eq_295.symm) lk_X4_48 ar_Ps_fail (pW σ B ae M 7 (by decide)) (T := TX4) (N := 3) rfl (As := [.int 1]) (rest := []) rfl (Nat.le_of_ble_eq_true rfl) ⟨Nat.le_of_ble_eq_true rfl, Nat.le_of_ble_eq_true rfl⟩ ⟨rfl, rfl⟩ ⟨Nat.zero_le _, Nat.zero_le _⟩ dX4_isEnded_13 ?_
    obtain ⟨b_297, eb_297, hr⟩ := bind_e hr
    have rest : G X (putW σ B ae q_295.2) 0 0 24 [(0, .ref (B + 7))] [.int b_297] := by
      obtain ⟨hz_298, hr⟩ := ob hr
      exact g_zret hx hR 24 hz_298 dX4_isEnded_24 ⟨by rw [← Option.some.inj hr] <;> rfl, by rw [← Option.some.inj hr] <;> rfl⟩
    clear hr
    have hr := eb_297
    refine g_if_eq hx 16 23 dX4_isEnded_16 (by decide) (fun hc_296 => ?_) (fun hc_296 => ?_)
    · have hr := (if_pos hc_296).symm.trans hr
      refine g_iconst hx 23 (0) dX4_isEnded_23 rfl ?_
      exact g_nmi (Option.some.inj hr).symm rest
    · have hr := (if_neg hc_296).symm.trans hr
      refine g_iconst hx 19 (1) dX4_isEnded_19 rfl ?_
      refine g_goto hx 20 24 dX4_isEnded_20 (by decide) ?_
      exact g_nmi (Option.some.inj hr).symm rest
def Ps_readHead (M : WM) : Option (Int32 × WM) := Option.bind (Tk_next M) fun M_299 => Option.bind (Tk_isWord (sx 0) M_299) fun q_300 => if q_300 = 0 then (lt' (Ps_fail M_299 1) fun q_302 => if q_302.1 = 0 ∨ q_302.1 = 1 then (some ((q_302.1, q_302.2))) else none) else (Option.bind (Ps_readNumber M_299 1 14) fun q_304 => if q_304.1 = 0 then (some ((0, q_304.2))) else (lt' (Tk_value q_304.2) fun v2_306 => Option.bind (Ps_readNumber q_304.2 1 6) fun q_307 => if q_307.1 = 0 then (some ((0, q_307.2))) else (lt' (Tk_value q_307.2) fun v3_309 => Option.bind (Ps_readNumber q_307.2 1 8) fun q_310 => if q_310.1 = 0 then (some ((0, q_310.2))) else (lt' (Tk_value q_310.2) fun v4_312 => Option.bind (Ps_readNumber q_310.2 1 5) fun q_313 => if q_313.1 = 0 then (some ((0, q_313.2))) else (Option.bind (St_begin (q_313.2.1 10) v2_306 v3_309 v4_312 (Tk_value q_313.2)) fun M_315 => Option.bind (Tk_next (setS q_313.2 10 M_315)) fun M_316 => Option.bind (Ps_isEnded M_316) fun q_317 => if q_317.1 = 0 ∨ q_317.1 = 1 then (some ((q_317.1, q_317.2))) else none)))))
set_option maxRecDepth 100000 in
set_option maxHeartbeats 4000000 in
theorem c_Ps_readHead {ad ae : Nat → Nat} (l : Launch) (g : Gl) (hC : KAll g ad ae) (σ : Hp) (B : Nat) (M : WM) {r : Int32 × WM} (hr : Ps_readHead M = some r) : MG l g md_Ps_readHead [.ref (B + 7), .ref (B + 367)] (putW σ B ae M) (rs (some (.int r.1)) (putW σ B ae r.2)) := by
  refine MG.intro (by decide +kernel) (Nat.le_of_ble_eq_true rfl) (fun X hx hR _ => ?_)
  unfold Ps_readHead at hr
  refine g_ls [0, 1] [(0, .ref (B + 7)), (1, .ref (B + 367))] rfl ?_
  refine g_aload_n hx 0 (i := 0) 0 dX4_readHead_0 rfl rfl ?_
  refine g_get hx 1 (C := RX4) (T := TX4) (N := 3) 0 (.ref (B + 8)) (pW σ B ae M 7 (by decide)) rfl (by decide) rfl fl_X4_23 dX4_readHead_1 ?_
  obtain ⟨M_299, eM_299, hr⟩ := bind_e hr
  refine g_callVv hx (c_Tk_next l g hC σ B M eM_299) lk_X4_35 ar_Tk_next (pW σ B ae M 8 (by decide)) (T := TX9) (N := 6) rfl (As := []) (rest := []) rfl (Nat.le_of_ble_eq_true rfl) ⟨Nat.le_of_ble_eq_true rfl, Nat.le_of_ble_eq_true rfl⟩ ⟨rfl, rfl⟩ ⟨Nat.zero_le _, Nat.zero_le _⟩ dX4_readHead_4 ?_
  refine g_aload_n hx 7 (i := 0) 0 dX4_readHead_7 rfl rfl ?_
  refine g_get hx 8 (C := RX4) (T := TX4) (N := 3) 0 (.ref (B + 8)) (pW σ B ae M_299 7 (by decide)) rfl (by decide) rfl fl_X4_23 dX4_readHead_8 ?_
  refine g_ldcS hx 11 (hC.1.2.2 _ (List.mem_of_getElem? (i := 5) rfl)) dX4_readHead_11 ?_
  obtain ⟨q_300, eq_300, hr⟩ := bind_e hr
  refine g_callVr hx (c_Tk_isWord l g hC (hC.1.ok 0 (by decide)) σ B M_299 eq_300) lk_X4_44 ar_Tk_isWord (pW σ B ae M_299 8 (by decide)) (T := TX9) (N := 6) rfl (As := [.ref (ad 0)]) (rest := []) rfl (Nat.le_of_ble_eq_true rfl) ⟨Nat.le_of_ble_eq_true rfl, Nat.le_of_ble_eq_true rfl⟩ ⟨rfl, rfl⟩ ⟨Nat.zero_le _, Nat.zero_le _⟩ dX4_readHead_13 ?_
  refine g_if_ne hx 16 25 dX4_readHead_16 (by decide) (fun hc_301 => ?_) (fun hc_301 => ?_)
  · have hr := (if_neg hc_301).symm.trans hr
    refine g_aload_n hx 25 (i := 0) 0 dX4_readHead_25 rfl rfl ?_
    refine g_iconst hx 26 (1) dX4_readHead_26 rfl ?_
    refine g_bipush hx 27 (14) dX4_readHead_27 rfl ?_
    obtain ⟨q_304, eq_304, hr⟩ := bind_e hr
    refine g_callVr hx (c_Ps_readNumber l g hC σ B M_299 1 14 eq_304) lk_X4_71 ar_Ps_readNumber (pW σ B ae M_299 7 (by decide)) (T := TX4) (N := 3) rfl (As := [.int 1, .int 14]) (rest := []) rfl (Nat.le_of_ble_eq_true rfl) ⟨Nat.le_of_ble_eq_true rfl, Nat.le_of_ble_eq_true rfl⟩ ⟨rfl, rfl⟩ ⟨Nat.zero_le _, Nat.zero_le _⟩ dX4_readHead_29 ?_
    refine g_if_ne hx 32 37 dX4_readHead_32 (by decide) (fun hc_305 => ?_) (fun hc_305 => ?_)
    · have hr := (if_neg hc_305).symm.trans hr
      refine g_aload_n hx 37 (i := 0) 0 dX4_readHead_37 rfl rfl ?_
      refine g_get hx 38 (C := RX4) (T := TX4) (N := 3) 0 (.ref (B + 8)) (pW σ B ae q_304.2 7 (by decide)) rfl (by decide) rfl fl_X4_23 dX4_readHead_38 ?_
      refine g_callVr hx (c_Tk_value l g hC σ B q_304.2 rfl) lk_X4_75 ar_Tk_value (pW σ B ae q_304.2 8 (by decide)) (T := TX9) (N := 6) rfl (As := []) (rest := []) rfl (Nat.le_of_ble_eq_true rfl) ⟨Nat.le_of_ble_eq_true rfl, Nat.le_of_ble_eq_true rfl⟩ ⟨rfl, rfl⟩ ⟨Nat.zero_le _, Nat.zero_le _⟩ dX4_readHead_41 ?_
      obtain ⟨v2_306, ev2_306, hr⟩ := lt'_e hr
      refine g_nmi ev2_306 ?_
      refine g_istore_n hx 44 (i := 2) [(2, .int v2_306), (0, .ref (B + 7)), (1, .ref (B + 367))] dX4_readHead_44 rfl (by decide) rfl ?_
      refine g_aload_n hx 45 (i := 0) 1 dX4_readHead_45 rfl rfl ?_
      refine g_iconst hx 46 (1) dX4_readHead_46 rfl ?_
      refine g_bipush hx 47 (6) dX4_readHead_47 rfl ?_
      obtain ⟨q_307, eq_307, hr⟩ := bind_e hr
      refine g_callVr hx (c_Ps_readNumber l g hC σ B q_304.2 1 6 eq_307) lk_X4_71 ar_Ps_readNumber (pW σ B ae q_304.2 7 (by decide)) (T := TX4) (N := 3) rfl (As := [.int 1, .int 6]) (rest := []) rfl (Nat.le_of_ble_eq_true rfl) ⟨Nat.le_of_ble_eq_true rfl, Nat.le_of_ble_eq_true rfl⟩ ⟨rfl, rfl⟩ ⟨Nat.zero_le _, Nat.zero_le _⟩ dX4_readHead_49 ?_
      refine g_if_ne hx 52 57 dX4_readHead_52 (by decide) (fun hc_308 => ?_) (fun hc_308 => ?_)
      · have hr := (if_neg hc_308).symm.trans hr
        refine g_aload_n hx 57 (i := 0) 1 dX4_readHead_57 rfl rfl ?_
        refine g_get hx 58 (C := RX4) (T := TX4) (N := 3) 0 (.ref (B + 8)) (pW σ B ae q_307.2 7 (by decide)) rfl (by decide) rfl fl_X4_23 dX4_readHead_58 ?_
        refine g_callVr hx (c_Tk_value l g hC σ B q_307.2 rfl) lk_X4_75 ar_Tk_value (pW σ B ae q_307.2 8 (by decide)) (T := TX9) (N := 6) rfl (As := []) (rest := []) rfl (Nat.le_of_ble_eq_true rfl) ⟨Nat.le_of_ble_eq_true rfl, Nat.le_of_ble_eq_true rfl⟩ ⟨rfl, rfl⟩ ⟨Nat.zero_le _, Nat.zero_le _⟩ dX4_readHead_61 ?_
        obtain ⟨v3_309, ev3_309, hr⟩ := lt'_e hr
        refine g_nmi ev3_309 ?_
        refine g_istore_n hx 64 (i := 3) [(3, .int v3_309), (2, .int v2_306), (0, .ref (B + 7)), (1, .ref (B + 367))] dX4_readHead_64 rfl (by decide) rfl ?_
        refine g_aload_n hx 65 (i := 0) 2 dX4_readHead_65 rfl rfl ?_
        refine g_iconst hx 66 (1) dX4_readHead_66 rfl ?_
        refine g_bipush hx 67 (8) dX4_readHead_67 rfl ?_
        obtain ⟨q_310, eq_310, hr⟩ := bind_e hr
        refine g_callVr hx (c_Ps_readNumber l g hC σ B q_307.2 1 8 eq_310) lk_X4_71 ar_Ps_readNumber (pW σ B ae q_307.2 7 (by decide)) (T := TX4) (N := 3) rfl (As := [.int 1, .int 8]) (rest := []) rfl (Nat.le_of_ble_eq_true rfl) ⟨Nat.le_of_ble_eq_true rfl, Nat.le_of_ble_eq_true rfl⟩ ⟨rfl, rfl⟩ ⟨Nat.zero_le _, Nat.zero_le _⟩ dX4_readHead_69 ?_
        refine g_if_ne hx 72 77 dX4_readHead_72 (by decide) (fun hc_311 => ?_) (fun hc_311 => ?_)
        · have hr := (if_neg hc_311).symm.trans hr
          refine g_aload_n hx 77 (i := 0) 2 dX4_readHead_77 rfl rfl ?_
          refine g_get hx 78 (C := RX4) (T := TX4) (N := 3) 0 (.ref (B + 8)) (pW σ B ae q_310.2 7 (by decide)) rfl (by decide) rfl fl_X4_23 dX4_readHead_78 ?_
          refine g_callVr hx (c_Tk_value l g hC σ B q_310.2 rfl) lk_X4_75 ar_Tk_value (pW σ B ae q_310.2 8 (by decide)) (T := TX9) (N := 6) rfl (As := []) (rest := []) rfl (Nat.le_of_ble_eq_true rfl) ⟨Nat.le_of_ble_eq_true rfl, Nat.le_of_ble_eq_true rfl⟩ ⟨rfl, rfl⟩ ⟨Nat.zero_le _, Nat.zero_le _⟩ dX4_readHead_81 ?_
          obtain ⟨v4_312, ev4_312, hr⟩ := lt'_e hr
          refine g_nmi ev4_312 ?_
          refine g_istore hx 84 (i := 4) [(4, .int v4_312), (3, .int v3_309), (2, .int v2_306), (0, .ref (B + 7)), (1, .ref (B + 367))] dX4_readHead_84 (by decide) rfl ?_
          refine g_aload_n hx 86 (i := 0) 3 dX4_readHead_86 rfl rfl ?_
          refine g_iconst hx 87 (1) dX4_readHead_87 rfl ?_
          refine g_iconst hx 88 (5) dX4_readHead_88 rfl ?_
          obtain ⟨q_313, eq_313, hr⟩ := bind_e hr
          refine g_callVr hx (c_Ps_readNumber l g hC σ B q_310.2 1 5 eq_313) lk_X4_71 ar_Ps_readNumber (pW σ B ae q_310.2 7 (by decide)) (T := TX4) (N := 3) rfl (As := [.int 1, .int 5]) (rest := []) rfl (Nat.le_of_ble_eq_true rfl) ⟨Nat.le_of_ble_eq_true rfl, Nat.le_of_ble_eq_true rfl⟩ ⟨rfl, rfl⟩ ⟨Nat.zero_le _, Nat.zero_le _⟩ dX4_readHead_89 ?_
          refine g_if_ne hx 92 97 dX4_readHead_92 (by decide) (fun hc_314 => ?_) (fun hc_314 => ?_)
          · have hr := (if_neg hc_314).symm.trans hr
            refine g_aload_n hx 97 (i := 1) 4 dX4_readHead_97 rfl rfl ?_
            refine g_iload_n hx 98 (i := 2) 2 dX4_readHead_98 rfl rfl ?_
            refine g_iload_n hx 99 (i := 3) 1 dX4_readHead_99 rfl rfl ?_
            refine g_iload hx 100 (i := 4) 0 dX4_readHead_100 rfl ?_
            refine g_aload_n hx 102 (i := 0) 3 dX4_readHead_102 rfl rfl ?_
            refine g_get hx 103 (C := RX4) (T := TX4) (N := 3) 0 (.ref (B + 8)) (pW σ B ae q_313.2 7 (by decide)) rfl (by decide) rfl fl_X4_23 dX4_readHead_103 ?_
            refine g_callVr hx (c_Tk_value l g hC σ B q_313.2 rfl) lk_X4_75 ar_Tk_value (pW σ B ae q_313.2 8 (by decide)) (T := TX9) (N := 6) rfl (As := []) (rest := [.int v4_312, .int v3_309, .int v2_306, .ref (B + 367)]) rfl (Nat.le_of_ble_eq_true rfl) ⟨Nat.le_of_ble_eq_true rfl, Nat.le_of_ble_eq_true rfl⟩ ⟨rfl, rfl⟩ ⟨Nat.zero_le _, Nat.zero_le _⟩ dX4_readHead_106 ?_
            obtain ⟨M_315, eM_315, hr⟩ := bind_e hr
            refine g_callVv hx (MG.at10 (w := q_313.2) (c_St_begin l g (putW σ B ae q_313.2) (B + 367) (q_313.2.1 10) v2_306 v3_309 v4_312 (Tk_value q_313.2) eM_315)) lk_X4_78 ar_St_begin (pW_st10 σ B ae q_313.2 0 (by decide)) (T := TX8) (N := 15) rfl (As := [.int v2_306, .int v3_309, .int v4_312, .int (Tk_value q_313.2)]) (rest := []) rfl (Nat.le_of_ble_eq_true rfl) ⟨Nat.le_of_ble_eq_true rfl, Nat.le_of_ble_eq_true rfl⟩ ⟨rfl, rfl⟩ ⟨Nat.zero_le _, Nat.zero_le _⟩ dX4_readHead_109 ?_
            refine g_aload_n hx 112 (i := 0) 3 dX4_readHead_112 rfl rfl ?_
            refine g_get hx 113 (C := RX4) (T := TX4) (N := 3) 0 (.ref (B + 8)) (pW σ B ae (setS q_313.2 10 M_315) 7 (by decide)) rfl (by decide) rfl fl_X4_23 dX4_readHead_113 ?_
            obtain ⟨M_316, eM_316, hr⟩ := bind_e hr
            refine g_callVv hx (c_Tk_next l g hC σ B (setS q_313.2 10 M_315) eM_316) lk_X4_35 ar_Tk_next (pW σ B ae (setS q_313.2 10 M_315) 8 (by decide)) (T := TX9) (N := 6) rfl (As := []) (rest := []) rfl (Nat.le_of_ble_eq_true rfl) ⟨Nat.le_of_ble_eq_true rfl, Nat.le_of_ble_eq_true rfl⟩ ⟨rfl, rfl⟩ ⟨Nat.zero_le _, Nat.zero_le _⟩ dX4_readHead_116 ?_
            refine g_aload_n hx 119 (i := 0) 3 dX4_readHead_119 rfl rfl ?_
            obtain ⟨q_317, eq_317, hr⟩ := bind_e hr
            refine g_callVr hx (c_Ps_isEnded l g hC σ B M_316 eq_317) lk_X4_83 ar_Ps_isEnded (pW σ B ae M_316 7 (by decide)) (T := TX4) (N := 3) rfl (As := []) (rest := []) rfl (Nat.le_of_ble_eq_true rfl) ⟨Nat.le_of_ble_eq_true rfl, Nat.le_of_ble_eq_true rfl⟩ ⟨rfl, rfl⟩ ⟨Nat.zero_le _, Nat.zero_le _⟩ dX4_readHead_120 ?_
            obtain ⟨hz_318, hr⟩ := ob hr
            exact g_zret hx hR 123 hz_318 dX4_readHead_123 ⟨by rw [← Option.some.inj hr] <;> rfl, by rw [← Option.some.inj hr] <;> rfl⟩
          · have hr := (if_pos hc_314).symm.trans hr
            refine g_iconst hx 95 (0) dX4_readHead_95 rfl ?_
            exact g_zret hx hR 96 (Or.inl rfl) dX4_readHead_96 ⟨by rw [← Option.some.inj hr] <;> rfl, by rw [← Option.some.inj hr] <;> rfl⟩
        · have hr := (if_pos hc_311).symm.trans hr
          refine g_iconst hx 75 (0) dX4_readHead_75 rfl ?_
          exact g_zret hx hR 76 (Or.inl rfl) dX4_readHead_76 ⟨by rw [← Option.some.inj hr] <;> rfl, by rw [← Option.some.inj hr] <;> rfl⟩
      · have hr := (if_pos hc_308).symm.trans hr
        refine g_iconst hx 55 (0) dX4_readHead_55 rfl ?_
        exact g_zret hx hR 56 (Or.inl rfl) dX4_readHead_56 ⟨by rw [← Option.some.inj hr] <;> rfl, by rw [← Option.some.inj hr] <;> rfl⟩
    · have hr := (if_pos hc_305).symm.trans hr
      refine g_iconst hx 35 (0) dX4_readHead_35 rfl ?_
      exact g_zret hx hR 36 (Or.inl rfl) dX4_readHead_36 ⟨by rw [← Option.some.inj hr] <;> rfl, by rw [← Option.some.inj hr] <;> rfl⟩
  · have hr := (if_pos hc_301).symm.trans hr
    refine g_aload_n hx 19 (i := 0) 0 dX4_readHead_19 rfl rfl ?_
    refine g_iconst hx 20 (1) dX4_readHead_20 rfl ?_
    obtain ⟨q_302, eq_302, hr⟩ := lt'_e hr
    refine g_callVr hx (c_Ps_fail l g hC σ B M_299 1 eq_302.symm) lk_X4_48 ar_Ps_fail (pW σ B ae M_299 7 (by decide)) (T := TX4) (N := 3) rfl (As := [.int 1]) (rest := []) rfl (Nat.le_of_ble_eq_true rfl) ⟨Nat.le_of_ble_eq_true rfl, Nat.le_of_ble_eq_true rfl⟩ ⟨rfl, rfl⟩ ⟨Nat.zero_le _, Nat.zero_le _⟩ dX4_readHead_21 ?_
    obtain ⟨hz_303, hr⟩ := ob hr
    exact g_zret hx hR 24 hz_303 dX4_readHead_24 ⟨by rw [← Option.some.inj hr] <;> rfl, by rw [← Option.some.inj hr] <;> rfl⟩
def Ps_readFolder (M : WM) : Option (Int32 × WM) := Option.bind (Ps_readNumber M 0 9999) fun q_319 => if q_319.1 = 0 then (some ((0, q_319.2))) else (lt' (Tk_value q_319.2) fun v2_321 => if lnpl ((q_319.2.1 10).2 0) v2_321 = (-1) then (Option.bind (Tk_next q_319.2) fun M_323 => Option.bind (Tk_isWord (sx 2) M_323) fun q_324 => if q_324 = 0 then (lt' (St_addFolder (M_323.1 10) v2_321 0) fun M_326 => Option.bind (Ps_isEnded (setS M_323 10 M_326)) fun q_327 => if q_327.1 = 0 ∨ q_327.1 = 1 then (some ((q_327.1, q_327.2))) else none) else (Option.bind (Ps_readNumber M_323 0 999) fun q_329 => if q_329.1 = 0 then (some ((0, q_329.2))) else (lt' (Tk_value q_329.2) fun v3_331 => Option.bind (Tk_next q_329.2) fun M_332 => lt' (St_addFolder (M_332.1 10) v2_321 v3_331) fun M_333 => Option.bind (Ps_isEnded (setS M_332 10 M_333)) fun q_334 => if q_334.1 = 0 ∨ q_334.1 = 1 then (some ((q_334.1, q_334.2))) else none))) else (lt' (Ps_fail q_319.2 3) fun q_336 => if q_336.1 = 0 ∨ q_336.1 = 1 then (some ((q_336.1, q_336.2))) else none))
set_option maxRecDepth 100000 in
set_option maxHeartbeats 4000000 in
theorem c_Ps_readFolder {ad ae : Nat → Nat} (l : Launch) (g : Gl) (hC : KAll g ad ae) (σ : Hp) (B : Nat) (M : WM) {r : Int32 × WM} (hr : Ps_readFolder M = some r) : MG l g md_Ps_readFolder [.ref (B + 7), .ref (B + 367)] (putW σ B ae M) (rs (some (.int r.1)) (putW σ B ae r.2)) := by
  refine MG.intro (by decide +kernel) (Nat.le_of_ble_eq_true rfl) (fun X hx hR _ => ?_)
  unfold Ps_readFolder at hr
  refine g_ls [0, 1] [(0, .ref (B + 7)), (1, .ref (B + 367))] rfl ?_
  refine g_aload_n hx 0 (i := 0) 0 dX4_readFolder_0 rfl rfl ?_
  refine g_iconst hx 1 (0) dX4_readFolder_1 rfl ?_
  refine g_sipush hx 2 (9999) dX4_readFolder_2 rfl ?_
  obtain ⟨q_319, eq_319, hr⟩ := bind_e hr
  refine g_callVr hx (c_Ps_readNumber l g hC σ B M 0 9999 eq_319) lk_X4_71 ar_Ps_readNumber (pW σ B ae M 7 (by decide)) (T := TX4) (N := 3) rfl (As := [.int 0, .int 9999]) (rest := []) rfl (Nat.le_of_ble_eq_true rfl) ⟨Nat.le_of_ble_eq_true rfl, Nat.le_of_ble_eq_true rfl⟩ ⟨rfl, rfl⟩ ⟨Nat.zero_le _, Nat.zero_le _⟩ dX4_readFolder_5 ?_
  refine g_if_ne hx 8 13 dX4_readFolder_8 (by decide) (fun hc_320 => ?_) (fun hc_320 => ?_)
  · have hr := (if_neg hc_320).symm.trans hr
    refine g_aload_n hx 13 (i := 0) 0 dX4_readFolder_13 rfl rfl ?_
    refine g_get hx 14 (C := RX4) (T := TX4) (N := 3) 0 (.ref (B + 8)) (pW σ B ae q_319.2 7 (by decide)) rfl (by decide) rfl fl_X4_23 dX4_readFolder_14 ?_
    refine g_callVr hx (c_Tk_value l g hC σ B q_319.2 rfl) lk_X4_75 ar_Tk_value (pW σ B ae q_319.2 8 (by decide)) (T := TX9) (N := 6) rfl (As := []) (rest := []) rfl (Nat.le_of_ble_eq_true rfl) ⟨Nat.le_of_ble_eq_true rfl, Nat.le_of_ble_eq_true rfl⟩ ⟨rfl, rfl⟩ ⟨Nat.zero_le _, Nat.zero_le _⟩ dX4_readFolder_17 ?_
    obtain ⟨v2_321, ev2_321, hr⟩ := lt'_e hr
    refine g_nmi ev2_321 ?_
    refine g_istore_n hx 20 (i := 2) [(2, .int v2_321), (0, .ref (B + 7)), (1, .ref (B + 367))] dX4_readFolder_20 rfl (by decide) rfl ?_
    refine g_aload_n hx 21 (i := 1) 2 dX4_readFolder_21 rfl rfl ?_
    refine g_get hx 22 (C := RX8) (T := TX8) (N := 15) 4 (.ref (B + 367 + 1)) (pW_st10 σ B ae q_319.2 0 (by decide)) rfl (by decide) rfl fl_X4_87 dX4_readFolder_22 ?_
    refine g_iload_n hx 25 (i := 2) 0 dX4_readFolder_25 rfl rfl ?_
    refine g_callVr hx (k_placeOf l g (st_l0 (pW_st10 σ B ae q_319.2)) (by decide) v2_321) lk_X4_91 ar_Ln_placeOf (st_l0 (pW_st10 σ B ae q_319.2)).1 (T := TX2) (N := 2) rfl (As := [.int v2_321]) (rest := []) rfl (Nat.le_of_ble_eq_true rfl) ⟨Nat.le_of_ble_eq_true rfl, Nat.le_of_ble_eq_true rfl⟩ ⟨rfl, rfl⟩ ⟨Nat.zero_le _, Nat.zero_le _⟩ dX4_readFolder_26 ?_
    refine g_iconst hx 29 (-1) dX4_readFolder_29 rfl ?_
    refine g_icmp_eq hx 30 39 dX4_readFolder_30 (by decide) (fun hc_322 => ?_) (fun hc_322 => ?_)
    · have hr := (if_pos hc_322).symm.trans hr
      refine g_iconst hx 39 (0) dX4_readFolder_39 rfl ?_
      refine g_istore_n hx 40 (i := 3) [(3, .int 0), (2, .int v2_321), (0, .ref (B + 7)), (1, .ref (B + 367))] dX4_readFolder_40 rfl (by decide) rfl ?_
      refine g_aload_n hx 41 (i := 0) 2 dX4_readFolder_41 rfl rfl ?_
      refine g_get hx 42 (C := RX4) (T := TX4) (N := 3) 0 (.ref (B + 8)) (pW σ B ae q_319.2 7 (by decide)) rfl (by decide) rfl fl_X4_23 dX4_readFolder_42 ?_
      obtain ⟨M_323, eM_323, hr⟩ := bind_e hr
      refine g_callVv hx (c_Tk_next l g hC σ B q_319.2 eM_323) lk_X4_35 ar_Tk_next (pW σ B ae q_319.2 8 (by decide)) (T := TX9) (N := 6) rfl (As := []) (rest := []) rfl (Nat.le_of_ble_eq_true rfl) ⟨Nat.le_of_ble_eq_true rfl, Nat.le_of_ble_eq_true rfl⟩ ⟨rfl, rfl⟩ ⟨Nat.zero_le _, Nat.zero_le _⟩ dX4_readFolder_45 ?_
      refine g_aload_n hx 48 (i := 0) 2 dX4_readFolder_48 rfl rfl ?_
      refine g_get hx 49 (C := RX4) (T := TX4) (N := 3) 0 (.ref (B + 8)) (pW σ B ae M_323 7 (by decide)) rfl (by decide) rfl fl_X4_23 dX4_readFolder_49 ?_
      refine g_ldcS hx 52 (hC.1.2.2 _ (List.mem_of_getElem? (i := 6) rfl)) dX4_readFolder_52 ?_
      obtain ⟨q_324, eq_324, hr⟩ := bind_e hr
      refine g_callVr hx (c_Tk_isWord l g hC (hC.1.ok 2 (by decide)) σ B M_323 eq_324) lk_X4_44 ar_Tk_isWord (pW σ B ae M_323 8 (by decide)) (T := TX9) (N := 6) rfl (As := [.ref (ad 2)]) (rest := []) rfl (Nat.le_of_ble_eq_true rfl) ⟨Nat.le_of_ble_eq_true rfl, Nat.le_of_ble_eq_true rfl⟩ ⟨rfl, rfl⟩ ⟨Nat.zero_le _, Nat.zero_le _⟩ dX4_readFolder_54 ?_
      refine g_if_eq hx 57 88 dX4_readFolder_57 (by decide) (fun hc_325 => ?_) (fun hc_325 => ?_)
      · have hr := (if_pos hc_325).symm.trans hr
        refine g_aload_n hx 88 (i := 1) 3 dX4_readFolder_88 rfl rfl ?_
        refine g_iload_n hx 89 (i := 2) 1 dX4_readFolder_89 rfl rfl ?_
        refine g_iload_n hx 90 (i := 3) 0 dX4_readFolder_90 rfl rfl ?_
        obtain ⟨M_326, eM_326, hr⟩ := lt'_e hr
        refine g_callVv hx (MG.at10 (w := M_323) (c_St_addFolder l g (putW σ B ae M_323) (B + 367) (M_323.1 10) v2_321 0 eM_326.symm)) lk_X4_99 ar_St_addFolder (pW_st10 σ B ae M_323 0 (by decide)) (T := TX8) (N := 15) rfl (As := [.int v2_321, .int 0]) (rest := []) rfl (Nat.le_of_ble_eq_true rfl) ⟨Nat.le_of_ble_eq_true rfl, Nat.le_of_ble_eq_true rfl⟩ ⟨rfl, rfl⟩ ⟨Nat.zero_le _, Nat.zero_le _⟩ dX4_readFolder_91 ?_
        refine g_aload_n hx 94 (i := 0) 2 dX4_readFolder_94 rfl rfl ?_
        obtain ⟨q_327, eq_327, hr⟩ := bind_e hr
        refine g_callVr hx (c_Ps_isEnded l g hC σ B (setS M_323 10 M_326) eq_327) lk_X4_83 ar_Ps_isEnded (pW σ B ae (setS M_323 10 M_326) 7 (by decide)) (T := TX4) (N := 3) rfl (As := []) (rest := []) rfl (Nat.le_of_ble_eq_true rfl) ⟨Nat.le_of_ble_eq_true rfl, Nat.le_of_ble_eq_true rfl⟩ ⟨rfl, rfl⟩ ⟨Nat.zero_le _, Nat.zero_le _⟩ dX4_readFolder_95 ?_
        obtain ⟨hz_328, hr⟩ := ob hr
        exact g_zret hx hR 98 hz_328 dX4_readFolder_98 ⟨by rw [← Option.some.inj hr] <;> rfl, by rw [← Option.some.inj hr] <;> rfl⟩
      · have hr := (if_neg hc_325).symm.trans hr
        refine g_aload_n hx 60 (i := 0) 2 dX4_readFolder_60 rfl rfl ?_
        refine g_iconst hx 61 (0) dX4_readFolder_61 rfl ?_
        refine g_sipush hx 62 (999) dX4_readFolder_62 rfl ?_
        obtain ⟨q_329, eq_329, hr⟩ := bind_e hr
        refine g_callVr hx (c_Ps_readNumber l g hC σ B M_323 0 999 eq_329) lk_X4_71 ar_Ps_readNumber (pW σ B ae M_323 7 (by decide)) (T := TX4) (N := 3) rfl (As := [.int 0, .int 999]) (rest := []) rfl (Nat.le_of_ble_eq_true rfl) ⟨Nat.le_of_ble_eq_true rfl, Nat.le_of_ble_eq_true rfl⟩ ⟨rfl, rfl⟩ ⟨Nat.zero_le _, Nat.zero_le _⟩ dX4_readFolder_65 ?_
        refine g_if_ne hx 68 73 dX4_readFolder_68 (by decide) (fun hc_330 => ?_) (fun hc_330 => ?_)
        · have hr := (if_neg hc_330).symm.trans hr
          refine g_aload_n hx 73 (i := 0) 2 dX4_readFolder_73 rfl rfl ?_
          refine g_get hx 74 (C := RX4) (T := TX4) (N := 3) 0 (.ref (B + 8)) (pW σ B ae q_329.2 7 (by decide)) rfl (by decide) rfl fl_X4_23 dX4_readFolder_74 ?_
          refine g_callVr hx (c_Tk_value l g hC σ B q_329.2 rfl) lk_X4_75 ar_Tk_value (pW σ B ae q_329.2 8 (by decide)) (T := TX9) (N := 6) rfl (As := []) (rest := []) rfl (Nat.le_of_ble_eq_true rfl) ⟨Nat.le_of_ble_eq_true rfl, Nat.le_of_ble_eq_true rfl⟩ ⟨rfl, rfl⟩ ⟨Nat.zero_le _, Nat.zero_le _⟩ dX4_readFolder_77 ?_
          obtain ⟨v3_331, ev3_331, hr⟩ := lt'_e hr
          refine g_nmi ev3_331 ?_
          refine g_istore_n hx 80 (i := 3) [(3, .int v3_331), (2, .int v2_321), (0, .ref (B + 7)), (1, .ref (B + 367))] dX4_readFolder_80 rfl (by decide) rfl ?_
          refine g_aload_n hx 81 (i := 0) 2 dX4_readFolder_81 rfl rfl ?_
          refine g_get hx 82 (C := RX4) (T := TX4) (N := 3) 0 (.ref (B + 8)) (pW σ B ae q_329.2 7 (by decide)) rfl (by decide) rfl fl_X4_23 dX4_readFolder_82 ?_
          obtain ⟨M_332, eM_332, hr⟩ := bind_e hr
          refine g_callVv hx (c_Tk_next l g hC σ B q_329.2 eM_332) lk_X4_35 ar_Tk_next (pW σ B ae q_329.2 8 (by decide)) (T := TX9) (N := 6) rfl (As := []) (rest := []) rfl (Nat.le_of_ble_eq_true rfl) ⟨Nat.le_of_ble_eq_true rfl, Nat.le_of_ble_eq_true rfl⟩ ⟨rfl, rfl⟩ ⟨Nat.zero_le _, Nat.zero_le _⟩ dX4_readFolder_85 ?_
          refine g_aload_n hx 88 (i := 1) 3 dX4_readFolder_88 rfl rfl ?_
          refine g_iload_n hx 89 (i := 2) 1 dX4_readFolder_89 rfl rfl ?_
          refine g_iload_n hx 90 (i := 3) 0 dX4_readFolder_90 rfl rfl ?_
          obtain ⟨M_333, eM_333, hr⟩ := lt'_e hr
          refine g_callVv hx (MG.at10 (w := M_332) (c_St_addFolder l g (putW σ B ae M_332) (B + 367) (M_332.1 10) v2_321 v3_331 eM_333.symm)) lk_X4_99 ar_St_addFolder (pW_st10 σ B ae M_332 0 (by decide)) (T := TX8) (N := 15) rfl (As := [.int v2_321, .int v3_331]) (rest := []) rfl (Nat.le_of_ble_eq_true rfl) ⟨Nat.le_of_ble_eq_true rfl, Nat.le_of_ble_eq_true rfl⟩ ⟨rfl, rfl⟩ ⟨Nat.zero_le _, Nat.zero_le _⟩ dX4_readFolder_91 ?_
          refine g_aload_n hx 94 (i := 0) 2 dX4_readFolder_94 rfl rfl ?_
          obtain ⟨q_334, eq_334, hr⟩ := bind_e hr
          refine g_callVr hx (c_Ps_isEnded l g hC σ B (setS M_332 10 M_333) eq_334) lk_X4_83 ar_Ps_isEnded (pW σ B ae (setS M_332 10 M_333) 7 (by decide)) (T := TX4) (N := 3) rfl (As := []) (rest := []) rfl (Nat.le_of_ble_eq_true rfl) ⟨Nat.le_of_ble_eq_true rfl, Nat.le_of_ble_eq_true rfl⟩ ⟨rfl, rfl⟩ ⟨Nat.zero_le _, Nat.zero_le _⟩ dX4_readFolder_95 ?_
          obtain ⟨hz_335, hr⟩ := ob hr
          exact g_zret hx hR 98 hz_335 dX4_readFolder_98 ⟨by rw [← Option.some.inj hr] <;> rfl, by rw [← Option.some.inj hr] <;> rfl⟩
        · have hr := (if_pos hc_330).symm.trans hr
          refine g_iconst hx 71 (0) dX4_readFolder_71 rfl ?_
          exact g_zret hx hR 72 (Or.inl rfl) dX4_readFolder_72 ⟨by rw [← Option.some.inj hr] <;> rfl, by rw [← Option.some.inj hr] <;> rfl⟩
    · have hr := (if_neg hc_322).symm.trans hr
      refine g_aload_n hx 33 (i := 0) 1 dX4_readFolder_33 rfl rfl ?_
      refine g_iconst hx 34 (3) dX4_readFolder_34 rfl ?_
      obtain ⟨q_336, eq_336, hr⟩ := lt'_e hr
      refine g_callVr hx (c_Ps_fail l g hC σ B q_319.2 3 eq_336.symm) lk_X4_48 ar_Ps_fail (pW σ B ae q_319.2 7 (by decide)) (T := TX4) (N := 3) rfl (As := [.int 3]) (rest := []) rfl (Nat.le_of_ble_eq_true rfl) ⟨Nat.le_of_ble_eq_true rfl, Nat.le_of_ble_eq_true rfl⟩ ⟨rfl, rfl⟩ ⟨Nat.zero_le _, Nat.zero_le _⟩ dX4_readFolder_35 ?_
      obtain ⟨hz_337, hr⟩ := ob hr
      exact g_zret hx hR 38 hz_337 dX4_readFolder_38 ⟨by rw [← Option.some.inj hr] <;> rfl, by rw [← Option.some.inj hr] <;> rfl⟩
  · have hr := (if_pos hc_320).symm.trans hr
    refine g_iconst hx 11 (0) dX4_readFolder_11 rfl ?_
    exact g_zret hx hR 12 (Or.inl rfl) dX4_readFolder_12 ⟨by rw [← Option.some.inj hr] <;> rfl, by rw [← Option.some.inj hr] <;> rfl⟩
def Ps_readArchive_L27 : Nat → WM → Int32 → Int32 → Option (Int32 × WM)
  | 0, _, _, _ => none
  | n + 1, M, v1_342, v3_343 => if 24 < v3_343 then (some ((M.2.2.1 5, M))) else (if v3_343 ≤ 0 then (Option.bind (Tk_isWord (sx 1) M) fun q_346 => if q_346 = 0 then (lt' (Ps_fail M 1) fun q_348 => some ((q_348.2.2.2.1 5, q_348.2))) else (if v3_343 = 24 then (lt' (Ps_fail M 4) fun q_350 => some ((q_350.2.2.2.1 5, q_350.2))) else (Option.bind (Ps_readFolder M) fun q_351 => if q_351.1 = 0 then (some ((q_351.2.2.2.1 5, q_351.2))) else (Option.bind (Tk_next q_351.2) fun M_353 => Ps_readArchive_L27 n M_353 v1_342 (v3_343 + 1))))) else (if Tk_kind M = 0 then (some ((0, M))) else (Option.bind (Tk_isWord (sx 1) M) fun q_355 => if q_355 = 0 then (lt' (Ps_fail M 1) fun q_357 => some ((q_357.2.2.2.1 5, q_357.2))) else (if v3_343 = 24 then (lt' (Ps_fail M 4) fun q_359 => some ((q_359.2.2.2.1 5, q_359.2))) else (Option.bind (Ps_readFolder M) fun q_360 => if q_360.1 = 0 then (some ((q_360.2.2.2.1 5, q_360.2))) else (Option.bind (Tk_next q_360.2) fun M_362 => Ps_readArchive_L27 n M_362 v1_342 (v3_343 + 1)))))))
def Ps_readArchive (M : WM) (p1 : Int32) : Option (Int32 × WM) := lt' (Ps_begin M p1) fun M_338 => Option.bind (Ps_readHead M_338) fun q_339 => if q_339.1 = 0 then (some ((q_339.2.2.2.1 5, q_339.2))) else (Option.bind (Tk_next q_339.2) fun M_341 => Ps_readArchive_L27 FU M_341 p1 0)
set_option maxRecDepth 100000 in
set_option maxHeartbeats 4000000 in
theorem w_Ps_readArchive_L27 {ad ae : Nat → Nat} {X : Cx} {l : Launch} {g : Gl} (hx : Ok X l g RX4 cX4_readArchive 4 md_Ps_readArchive.rm) (hC : KAll g ad ae) {σ : Hp} {B : Nat} {r : Int32 × WM} (hR : Ret X (rs (some (.int r.1)) (putW σ B ae r.2)) 0 0 (some .int)) : ∀ (n : Nat) (M : WM) (v1_342 v3_343 : Int32), Ps_readArchive_L27 n M v1_342 v3_343 = some r → G X (putW σ B ae M) 0 0 27 [(0, .ref (B + 7)), (1, .int v1_342), (2, .ref (B + 367)), (3, .int v3_343)] [] := by
  intro n
  induction n with
  | zero =>
    intro M v1_342 v3_343 hr
    rw [Ps_readArchive_L27] at hr
    cases hr
  | succ n ih =>
    intro M v1_342 v3_343 hr
    rw [Ps_readArchive_L27] at hr
    refine g_iload_n hx 27 (i := 3) 3 dX4_readArchive_27 rfl rfl ?_
    refine g_bipush hx 28 (24) dX4_readArchive_28 rfl ?_
    refine g_icmp_gt hx 30 115 dX4_readArchive_30 (by decide) (fun hc_344 => ?_) (fun hc_344 => ?_)
    · have hr := (if_pos hc_344).symm.trans hr
      refine g_aload_n hx 115 (i := 0) 0 dX4_readArchive_115 rfl rfl ?_
      refine g_get hx 116 (C := RX4) (T := TX4) (N := 3) 1 (.int (M.2.2.1 5)) (pW σ B ae M 7 (by decide)) rfl (by decide) rfl fl_X4_9 dX4_readArchive_116 ?_
      exact g_iret hx hR 119 dX4_readArchive_119 ⟨by rw [← Option.some.inj hr] <;> rfl, by rw [← Option.some.inj hr] <;> rfl⟩
    · have hr := (if_neg hc_344).symm.trans hr
      refine g_iload_n hx 33 (i := 3) 3 dX4_readArchive_33 rfl rfl ?_
      refine g_if_le hx 34 49 dX4_readArchive_34 (by decide) (fun hc_345 => ?_) (fun hc_345 => ?_)
      · have hr := (if_pos hc_345).symm.trans hr
        refine g_aload_n hx 49 (i := 0) 0 dX4_readArchive_49 rfl rfl ?_
        refine g_get hx 50 (C := RX4) (T := TX4) (N := 3) 0 (.ref (B + 8)) (pW σ B ae M 7 (by decide)) rfl (by decide) rfl fl_X4_23 dX4_readArchive_50 ?_
        refine g_ldcS hx 53 (hC.1.2.2 _ (List.mem_of_getElem? (i := 4) rfl)) dX4_readArchive_53 ?_
        obtain ⟨q_346, eq_346, hr⟩ := bind_e hr
        refine g_callVr hx (c_Tk_isWord l g hC (hC.1.ok 1 (by decide)) σ B M eq_346) lk_X4_44 ar_Tk_isWord (pW σ B ae M 8 (by decide)) (T := TX9) (N := 6) rfl (As := [.ref (ad 1)]) (rest := []) rfl (Nat.le_of_ble_eq_true rfl) ⟨Nat.le_of_ble_eq_true rfl, Nat.le_of_ble_eq_true rfl⟩ ⟨rfl, rfl⟩ ⟨Nat.zero_le _, Nat.zero_le _⟩ dX4_readArchive_55 ?_
        refine g_if_ne hx 58 72 dX4_readArchive_58 (by decide) (fun hc_347 => ?_) (fun hc_347 => ?_)
        · have hr := (if_neg hc_347).symm.trans hr
          refine g_iload_n hx 72 (i := 3) 3 dX4_readArchive_72 rfl rfl ?_
          refine g_bipush hx 73 (24) dX4_readArchive_73 rfl ?_
          refine g_icmp_ne hx 75 89 dX4_readArchive_75 (by decide) (fun hc_349 => ?_) (fun hc_349 => ?_)
          · have hr := (if_neg hc_349).symm.trans hr
            refine g_aload_n hx 89 (i := 0) 0 dX4_readArchive_89 rfl rfl ?_
            refine g_aload_n hx 90 (i := 2) 2 dX4_readArchive_90 rfl rfl ?_
            obtain ⟨q_351, eq_351, hr⟩ := bind_e hr
            refine g_callVr hx (c_Ps_readFolder l g hC σ B M eq_351) lk_X4_52 ar_Ps_readFolder (pW σ B ae M 7 (by decide)) (T := TX4) (N := 3) rfl (As := [.ref (B + 367)]) (rest := []) rfl (Nat.le_of_ble_eq_true rfl) ⟨Nat.le_of_ble_eq_true rfl, Nat.le_of_ble_eq_true rfl⟩ ⟨rfl, rfl⟩ ⟨Nat.zero_le _, Nat.zero_le _⟩ dX4_readArchive_91 ?_
            refine g_if_ne hx 94 102 dX4_readArchive_94 (by decide) (fun hc_352 => ?_) (fun hc_352 => ?_)
            · have hr := (if_neg hc_352).symm.trans hr
              refine g_aload_n hx 102 (i := 0) 0 dX4_readArchive_102 rfl rfl ?_
              refine g_get hx 103 (C := RX4) (T := TX4) (N := 3) 0 (.ref (B + 8)) (pW σ B ae q_351.2 7 (by decide)) rfl (by decide) rfl fl_X4_23 dX4_readArchive_103 ?_
              obtain ⟨M_353, eM_353, hr⟩ := bind_e hr
              refine g_callVv hx (c_Tk_next l g hC σ B q_351.2 eM_353) lk_X4_35 ar_Tk_next (pW σ B ae q_351.2 8 (by decide)) (T := TX9) (N := 6) rfl (As := []) (rest := []) rfl (Nat.le_of_ble_eq_true rfl) ⟨Nat.le_of_ble_eq_true rfl, Nat.le_of_ble_eq_true rfl⟩ ⟨rfl, rfl⟩ ⟨Nat.zero_le _, Nat.zero_le _⟩ dX4_readArchive_106 ?_
              refine g_iinc hx 109 (i := 3) 3 (v3_343 + 1) [(3, .int (v3_343 + 1)), (0, .ref (B + 7)), (1, .int v1_342), (2, .ref (B + 367))] dX4_readArchive_109 rfl rfl (by decide) rfl ?_
              refine g_goto hx 112 27 dX4_readArchive_112 (by decide) ?_
              refine g_ls [1, 2, 3, 0] [(0, .ref (B + 7)), (1, .int v1_342), (2, .ref (B + 367)), (3, .int (v3_343 + 1))] rfl ?_
              exact ih M_353 v1_342 (v3_343 + 1) hr
            · have hr := (if_pos hc_352).symm.trans hr
              refine g_aload_n hx 97 (i := 0) 0 dX4_readArchive_97 rfl rfl ?_
              refine g_get hx 98 (C := RX4) (T := TX4) (N := 3) 1 (.int (q_351.2.2.2.1 5)) (pW σ B ae q_351.2 7 (by decide)) rfl (by decide) rfl fl_X4_9 dX4_readArchive_98 ?_
              exact g_iret hx hR 101 dX4_readArchive_101 ⟨by rw [← Option.some.inj hr] <;> rfl, by rw [← Option.some.inj hr] <;> rfl⟩
          · have hr := (if_pos hc_349).symm.trans hr
            refine g_aload_n hx 78 (i := 0) 0 dX4_readArchive_78 rfl rfl ?_
            refine g_iconst hx 79 (4) dX4_readArchive_79 rfl ?_
            obtain ⟨q_350, eq_350, hr⟩ := lt'_e hr
            refine g_callVr hx (c_Ps_fail l g hC σ B M 4 eq_350.symm) lk_X4_48 ar_Ps_fail (pW σ B ae M 7 (by decide)) (T := TX4) (N := 3) rfl (As := [.int 4]) (rest := []) rfl (Nat.le_of_ble_eq_true rfl) ⟨Nat.le_of_ble_eq_true rfl, Nat.le_of_ble_eq_true rfl⟩ ⟨rfl, rfl⟩ ⟨Nat.zero_le _, Nat.zero_le _⟩ dX4_readArchive_80 ?_
            refine g_pop hx 83 dX4_readArchive_83 rfl ?_
            refine g_aload_n hx 84 (i := 0) 0 dX4_readArchive_84 rfl rfl ?_
            refine g_get hx 85 (C := RX4) (T := TX4) (N := 3) 1 (.int (q_350.2.2.2.1 5)) (pW σ B ae q_350.2 7 (by decide)) rfl (by decide) rfl fl_X4_9 dX4_readArchive_85 ?_
            exact g_iret hx hR 88 dX4_readArchive_88 ⟨by rw [← Option.some.inj hr] <;> rfl, by rw [← Option.some.inj hr] <;> rfl⟩
        · have hr := (if_pos hc_347).symm.trans hr
          refine g_aload_n hx 61 (i := 0) 0 dX4_readArchive_61 rfl rfl ?_
          refine g_iconst hx 62 (1) dX4_readArchive_62 rfl ?_
          obtain ⟨q_348, eq_348, hr⟩ := lt'_e hr
          refine g_callVr hx (c_Ps_fail l g hC σ B M 1 eq_348.symm) lk_X4_48 ar_Ps_fail (pW σ B ae M 7 (by decide)) (T := TX4) (N := 3) rfl (As := [.int 1]) (rest := []) rfl (Nat.le_of_ble_eq_true rfl) ⟨Nat.le_of_ble_eq_true rfl, Nat.le_of_ble_eq_true rfl⟩ ⟨rfl, rfl⟩ ⟨Nat.zero_le _, Nat.zero_le _⟩ dX4_readArchive_63 ?_
          refine g_pop hx 66 dX4_readArchive_66 rfl ?_
          refine g_aload_n hx 67 (i := 0) 0 dX4_readArchive_67 rfl rfl ?_
          refine g_get hx 68 (C := RX4) (T := TX4) (N := 3) 1 (.int (q_348.2.2.2.1 5)) (pW σ B ae q_348.2 7 (by decide)) rfl (by decide) rfl fl_X4_9 dX4_readArchive_68 ?_
          exact g_iret hx hR 71 dX4_readArchive_71 ⟨by rw [← Option.some.inj hr] <;> rfl, by rw [← Option.some.inj hr] <;> rfl⟩
      · have hr := (if_neg hc_345).symm.trans hr
        refine g_aload_n hx 37 (i := 0) 0 dX4_readArchive_37 rfl rfl ?_
        refine g_get hx 38 (C := RX4) (T := TX4) (N := 3) 0 (.ref (B + 8)) (pW σ B ae M 7 (by decide)) rfl (by decide) rfl fl_X4_23 dX4_readArchive_38 ?_
        refine g_callVr hx (c_Tk_kind l g hC σ B M rfl) lk_X4_38 ar_Tk_kind (pW σ B ae M 8 (by decide)) (T := TX9) (N := 6) rfl (As := []) (rest := []) rfl (Nat.le_of_ble_eq_true rfl) ⟨Nat.le_of_ble_eq_true rfl, Nat.le_of_ble_eq_true rfl⟩ ⟨rfl, rfl⟩ ⟨Nat.zero_le _, Nat.zero_le _⟩ dX4_readArchive_41 ?_
        refine g_if_ne hx 44 49 dX4_readArchive_44 (by decide) (fun hc_354 => ?_) (fun hc_354 => ?_)
        · have hr := (if_neg hc_354).symm.trans hr
          refine g_aload_n hx 49 (i := 0) 0 dX4_readArchive_49 rfl rfl ?_
          refine g_get hx 50 (C := RX4) (T := TX4) (N := 3) 0 (.ref (B + 8)) (pW σ B ae M 7 (by decide)) rfl (by decide) rfl fl_X4_23 dX4_readArchive_50 ?_
          refine g_ldcS hx 53 (hC.1.2.2 _ (List.mem_of_getElem? (i := 4) rfl)) dX4_readArchive_53 ?_
          obtain ⟨q_355, eq_355, hr⟩ := bind_e hr
          refine g_callVr hx (c_Tk_isWord l g hC (hC.1.ok 1 (by decide)) σ B M eq_355) lk_X4_44 ar_Tk_isWord (pW σ B ae M 8 (by decide)) (T := TX9) (N := 6) rfl (As := [.ref (ad 1)]) (rest := []) rfl (Nat.le_of_ble_eq_true rfl) ⟨Nat.le_of_ble_eq_true rfl, Nat.le_of_ble_eq_true rfl⟩ ⟨rfl, rfl⟩ ⟨Nat.zero_le _, Nat.zero_le _⟩ dX4_readArchive_55 ?_
          refine g_if_ne hx 58 72 dX4_readArchive_58 (by decide) (fun hc_356 => ?_) (fun hc_356 => ?_)
          · have hr := (if_neg hc_356).symm.trans hr
            refine g_iload_n hx 72 (i := 3) 3 dX4_readArchive_72 rfl rfl ?_
            refine g_bipush hx 73 (24) dX4_readArchive_73 rfl ?_
            refine g_icmp_ne hx 75 89 dX4_readArchive_75 (by decide) (fun hc_358 => ?_) (fun hc_358 => ?_)
            · have hr := (if_neg hc_358).symm.trans hr
              refine g_aload_n hx 89 (i := 0) 0 dX4_readArchive_89 rfl rfl ?_
              refine g_aload_n hx 90 (i := 2) 2 dX4_readArchive_90 rfl rfl ?_
              obtain ⟨q_360, eq_360, hr⟩ := bind_e hr
              refine g_callVr hx (c_Ps_readFolder l g hC σ B M eq_360) lk_X4_52 ar_Ps_readFolder (pW σ B ae M 7 (by decide)) (T := TX4) (N := 3) rfl (As := [.ref (B + 367)]) (rest := []) rfl (Nat.le_of_ble_eq_true rfl) ⟨Nat.le_of_ble_eq_true rfl, Nat.le_of_ble_eq_true rfl⟩ ⟨rfl, rfl⟩ ⟨Nat.zero_le _, Nat.zero_le _⟩ dX4_readArchive_91 ?_
              refine g_if_ne hx 94 102 dX4_readArchive_94 (by decide) (fun hc_361 => ?_) (fun hc_361 => ?_)
              · have hr := (if_neg hc_361).symm.trans hr
                refine g_aload_n hx 102 (i := 0) 0 dX4_readArchive_102 rfl rfl ?_
                refine g_get hx 103 (C := RX4) (T := TX4) (N := 3) 0 (.ref (B + 8)) (pW σ B ae q_360.2 7 (by decide)) rfl (by decide) rfl fl_X4_23 dX4_readArchive_103 ?_
                obtain ⟨M_362, eM_362, hr⟩ := bind_e hr
                refine g_callVv hx (c_Tk_next l g hC σ B q_360.2 eM_362) lk_X4_35 ar_Tk_next (pW σ B ae q_360.2 8 (by decide)) (T := TX9) (N := 6) rfl (As := []) (rest := []) rfl (Nat.le_of_ble_eq_true rfl) ⟨Nat.le_of_ble_eq_true rfl, Nat.le_of_ble_eq_true rfl⟩ ⟨rfl, rfl⟩ ⟨Nat.zero_le _, Nat.zero_le _⟩ dX4_readArchive_106 ?_
                refine g_iinc hx 109 (i := 3) 3 (v3_343 + 1) [(3, .int (v3_343 + 1)), (0, .ref (B + 7)), (1, .int v1_342), (2, .ref (B + 367))] dX4_readArchive_109 rfl rfl (by decide) rfl ?_
                refine g_goto hx 112 27 dX4_readArchive_112 (by decide) ?_
                refine g_ls [1, 2, 3, 0] [(0, .ref (B + 7)), (1, .int v1_342), (2, .ref (B + 367)), (3, .int (v3_343 + 1))] rfl ?_
                exact ih M_362 v1_342 (v3_343 + 1) hr
              · have hr := (if_pos hc_361).symm.trans hr
                refine g_aload_n hx 97 (i := 0) 0 dX4_readArchive_97 rfl rfl ?_
                refine g_get hx 98 (C := RX4) (T := TX4) (N := 3) 1 (.int (q_360.2.2.2.1 5)) (pW σ B ae q_360.2 7 (by decide)) rfl (by decide) rfl fl_X4_9 dX4_readArchive_98 ?_
                exact g_iret hx hR 101 dX4_readArchive_101 ⟨by rw [← Option.some.inj hr] <;> rfl, by rw [← Option.some.inj hr] <;> rfl⟩
            · have hr := (if_pos hc_358).symm.trans hr
              refine g_aload_n hx 78 (i := 0) 0 dX4_readArchive_78 rfl rfl ?_
              refine g_iconst hx 79 (4) dX4_readArchive_79 rfl ?_
              obtain ⟨q_359, eq_359, hr⟩ := lt'_e hr
              refine g_callVr hx (c_Ps_fail l g hC σ B M 4 eq_359.symm) lk_X4_48 ar_Ps_fail (pW σ B ae M 7 (by decide)) (T := TX4) (N := 3) rfl (As := [.int 4]) (rest := []) rfl (Nat.le_of_ble_eq_true rfl) ⟨Nat.le_of_ble_eq_true rfl, Nat.le_of_ble_eq_true rfl⟩ ⟨rfl, rfl⟩ ⟨Nat.zero_le _, Nat.zero_le _⟩ dX4_readArchive_80 ?_
              refine g_pop hx 83 dX4_readArchive_83 rfl ?_
              refine g_aload_n hx 84 (i := 0) 0 dX4_readArchive_84 rfl rfl ?_
              refine g_get hx 85 (C := RX4) (T := TX4) (N := 3) 1 (.int (q_359.2.2.2.1 5)) (pW σ B ae q_359.2 7 (by decide)) rfl (by decide) rfl fl_X4_9 dX4_readArchive_85 ?_
              exact g_iret hx hR 88 dX4_readArchive_88 ⟨by rw [← Option.some.inj hr] <;> rfl, by rw [← Option.some.inj hr] <;> rfl⟩
          · have hr := (if_pos hc_356).symm.trans hr
            refine g_aload_n hx 61 (i := 0) 0 dX4_readArchive_61 rfl rfl ?_
            refine g_iconst hx 62 (1) dX4_readArchive_62 rfl ?_
            obtain ⟨q_357, eq_357, hr⟩ := lt'_e hr
            refine g_callVr hx (c_Ps_fail l g hC σ B M 1 eq_357.symm) lk_X4_48 ar_Ps_fail (pW σ B ae M 7 (by decide)) (T := TX4) (N := 3) rfl (As := [.int 1]) (rest := []) rfl (Nat.le_of_ble_eq_true rfl) ⟨Nat.le_of_ble_eq_true rfl, Nat.le_of_ble_eq_true rfl⟩ ⟨rfl, rfl⟩ ⟨Nat.zero_le _, Nat.zero_le _⟩ dX4_readArchive_63 ?_
            refine g_pop hx 66 dX4_readArchive_66 rfl ?_
            refine g_aload_n hx 67 (i := 0) 0 dX4_readArchive_67 rfl rfl ?_
            refine g_get hx 68 (C := RX4) (T := TX4) (N := 3) 1 (.int (q_357.2.2.2.1 5)) (pW σ B ae q_357.2 7 (by decide)) rfl (by decide) rfl fl_X4_9 dX4_readArchive_68 ?_
            exact g_iret hx hR 71 dX4_readArchive_71 ⟨by rw [← Option.some.inj hr] <;> rfl, by rw [← Option.some.inj hr] <;> rfl⟩
        · have hr := (if_pos hc_354).symm.trans hr
          refine g_iconst hx 47 (0) dX4_readArchive_47 rfl ?_
          exact g_iret hx hR 48 dX4_readArchive_48 ⟨by rw [← Option.some.inj hr] <;> rfl, by rw [← Option.some.inj hr] <;> rfl⟩
set_option maxRecDepth 100000 in
set_option maxHeartbeats 4000000 in
theorem c_Ps_readArchive {ad ae : Nat → Nat} (l : Launch) (g : Gl) (hC : KAll g ad ae) (σ : Hp) (B : Nat) (M : WM) (p1 : Int32) {r : Int32 × WM} (hr : Ps_readArchive M p1 = some r) : MG l g md_Ps_readArchive [.ref (B + 7), .int p1, .ref (B + 367)] (putW σ B ae M) (rs (some (.int r.1)) (putW σ B ae r.2)) := by
  refine MG.intro (by decide +kernel) (Nat.le_of_ble_eq_true rfl) (fun X hx hR _ => ?_)
  unfold Ps_readArchive at hr
  refine g_ls [0, 1, 2] [(0, .ref (B + 7)), (1, .int p1), (2, .ref (B + 367))] rfl ?_
  refine g_aload_n hx 0 (i := 0) 0 dX4_readArchive_0 rfl rfl ?_
  refine g_iload_n hx 1 (i := 1) 1 dX4_readArchive_1 rfl rfl ?_
  obtain ⟨M_338, eM_338, hr⟩ := lt'_e hr
  refine g_callVv hx (c_Ps_begin l g hC σ B M p1 eM_338.symm) lk_X4_27 ar_Ps_begin (pW σ B ae M 7 (by decide)) (T := TX4) (N := 3) rfl (As := [.int p1]) (rest := []) rfl (Nat.le_of_ble_eq_true rfl) ⟨Nat.le_of_ble_eq_true rfl, Nat.le_of_ble_eq_true rfl⟩ ⟨rfl, rfl⟩ ⟨Nat.zero_le _, Nat.zero_le _⟩ dX4_readArchive_2 ?_
  refine g_aload_n hx 5 (i := 0) 0 dX4_readArchive_5 rfl rfl ?_
  refine g_aload_n hx 6 (i := 2) 2 dX4_readArchive_6 rfl rfl ?_
  obtain ⟨q_339, eq_339, hr⟩ := bind_e hr
  refine g_callVr hx (c_Ps_readHead l g hC σ B M_338 eq_339) lk_X4_31 ar_Ps_readHead (pW σ B ae M_338 7 (by decide)) (T := TX4) (N := 3) rfl (As := [.ref (B + 367)]) (rest := []) rfl (Nat.le_of_ble_eq_true rfl) ⟨Nat.le_of_ble_eq_true rfl, Nat.le_of_ble_eq_true rfl⟩ ⟨rfl, rfl⟩ ⟨Nat.zero_le _, Nat.zero_le _⟩ dX4_readArchive_7 ?_
  refine g_if_ne hx 10 18 dX4_readArchive_10 (by decide) (fun hc_340 => ?_) (fun hc_340 => ?_)
  · have hr := (if_neg hc_340).symm.trans hr
    refine g_aload_n hx 18 (i := 0) 0 dX4_readArchive_18 rfl rfl ?_
    refine g_get hx 19 (C := RX4) (T := TX4) (N := 3) 0 (.ref (B + 8)) (pW σ B ae q_339.2 7 (by decide)) rfl (by decide) rfl fl_X4_23 dX4_readArchive_19 ?_
    obtain ⟨M_341, eM_341, hr⟩ := bind_e hr
    refine g_callVv hx (c_Tk_next l g hC σ B q_339.2 eM_341) lk_X4_35 ar_Tk_next (pW σ B ae q_339.2 8 (by decide)) (T := TX9) (N := 6) rfl (As := []) (rest := []) rfl (Nat.le_of_ble_eq_true rfl) ⟨Nat.le_of_ble_eq_true rfl, Nat.le_of_ble_eq_true rfl⟩ ⟨rfl, rfl⟩ ⟨Nat.zero_le _, Nat.zero_le _⟩ dX4_readArchive_22 ?_
    refine g_iconst hx 25 (0) dX4_readArchive_25 rfl ?_
    refine g_istore_n hx 26 (i := 3) [(3, .int 0), (0, .ref (B + 7)), (1, .int p1), (2, .ref (B + 367))] dX4_readArchive_26 rfl (by decide) rfl ?_
    refine g_ls [1, 2, 3, 0] [(0, .ref (B + 7)), (1, .int p1), (2, .ref (B + 367)), (3, .int 0)] rfl ?_
    exact w_Ps_readArchive_L27 hx hC hR FU M_341 p1 0 hr
  · have hr := (if_pos hc_340).symm.trans hr
    refine g_aload_n hx 13 (i := 0) 0 dX4_readArchive_13 rfl rfl ?_
    refine g_get hx 14 (C := RX4) (T := TX4) (N := 3) 1 (.int (q_339.2.2.2.1 5)) (pW σ B ae q_339.2 7 (by decide)) rfl (by decide) rfl fl_X4_9 dX4_readArchive_14 ?_
    exact g_iret hx hR 17 dX4_readArchive_17 ⟨by rw [← Option.some.inj hr] <;> rfl, by rw [← Option.some.inj hr] <;> rfl⟩
