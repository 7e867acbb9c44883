def md_Rw_markAt : Md := (yX5_markAt, cX5_markAt, 2, some .int, 1, 21, 0, 0)
def md_Rw_halve : Md := (yX5_halve, cX5_halve, 7, some .int, 1, 21, 0, 0)
def md_Rw_placeBehindMiss : Md := (yX5_placeBehindMiss, cX5_placeBehindMiss, 3, some .int, 1, 21, 0, 0)
def md_Rw_missedByHalving : Md := (yX5_missedByHalving, cX5_missedByHalving, 3, some .int, 2, 47, 0, 0)
def md_Rw_isWrong : Md := (yX5_isWrong, cX5_isWrong, 2, some .boolean, 1, 21, 0, 0)
def md_Rw_wrongPairs : Md := (yX5_wrongPairs, cX5_wrongPairs, 3, some .int, 2, 42, 0, 0)
def md_Rw_pairsInWrongOrder : Md := (yX5_pairsInWrongOrder, cX5_pairsInWrongOrder, 5, some .int, 2, 42, 0, 0)
def md_Rw_longestRun : Md := (yX5_longestRun, cX5_longestRun, 5, some .int, 2, 60, 0, 0)
def md_Rw_placeInOrder : Md := (yX5_placeInOrder, cX5_placeInOrder, 4, some .int, 2, 42, 0, 0)
def md_Rw_farthestFromOrder : Md := (yX5_farthestFromOrder, cX5_farthestFromOrder, 6, some .int, 3, 65, 0, 0)
def md_Rw_moveTo : Md := (yX5_moveTo, cX5_moveTo, 4, some .int, 1, 23, 0, 0)
def md_Rw_moveToOrder : Md := (yX5_moveToOrder, cX5_moveToOrder, 4, some .int, 3, 65, 0, 0)
def md_Rw_firstWrong : Md := (yX5_firstWrong, cX5_firstWrong, 2, some .int, 2, 42, 0, 0)
def md_Rw_swapWrongPairs : Md := (yX5_swapWrongPairs, cX5_swapWrongPairs, 5, some .int, 3, 63, 0, 0)
def md_Sl_count : Md := (yX7_count, cX7_count, 1, some .int, 1, 20, 0, 0)
def md_Sl_has : Md := (yX7_has, cX7_has, 2, some .boolean, 1, 20, 0, 0)
def md_Sl_add : Md := (yX7_add, cX7_add, 4, none, 1, 21, 0, 0)
def md_Sl_removeAt : Md := (yX7_removeAt, cX7_removeAt, 2, none, 1, 22, 0, 0)
def md_Sl_placeFor : Md := (yX7_placeFor, cX7_placeFor, 4, some .int, 1, 21, 0, 0)
def md_Sl_clear : Md := (yX7_clear, cX7_clear, 1, none, 1, 20, 0, 0)
def md_Sl_copyFrom : Md := (yX7_copyFrom, cX7_copyFrom, 2, none, 2, 82, 0, 0)
theorem fl_X5_26 : Cond.fieldLink RX5 26 (TX5 3).1 (TX5 3).2.1 (TX5 3).2.2.1 ∈ aw := aw1 (by decide +kernel)
theorem fl_X5_14 : Cond.fieldLink RX5 14 (TX5 0).1 (TX5 0).2.1 (TX5 0).2.2.1 ∈ aw := aw1 (by decide +kernel)
theorem lk_X5_29 : Lk md_Ln_get [.methodLink RX5 29 md_Ln_get.y, .instanceMethod md_Ln_get.y, .selects md_Ln_get.y.cls md_Ln_get.y md_Ln_get.y] := lk_of (by decide +kernel)
theorem ar_Ln_get : Arity md_Ln_get 1 := ⟨by decide +kernel, by decide +kernel, by decide +kernel⟩
theorem fl_X5_20 : Cond.fieldLink RX5 20 (TX5 1).1 (TX5 1).2.1 (TX5 1).2.2.1 ∈ aw := aw1 (by decide +kernel)
theorem lk_X5_33 : Lk md_Ln_clear [.methodLink RX5 33 md_Ln_clear.y, .instanceMethod md_Ln_clear.y, .selects md_Ln_clear.y.cls md_Ln_clear.y md_Ln_clear.y] := lk_of (by decide +kernel)
theorem lk_X5_36 : Lk md_Ln_count [.methodLink RX5 36 md_Ln_count.y, .instanceMethod md_Ln_count.y, .selects md_Ln_count.y.cls md_Ln_count.y md_Ln_count.y] := lk_of (by decide +kernel)
theorem ar_Ln_count : Arity md_Ln_count 0 := ⟨by decide +kernel, by decide +kernel, by decide +kernel⟩
theorem lk_X5_40 : Lk md_Ln_add [.methodLink RX5 40 md_Ln_add.y, .instanceMethod md_Ln_add.y, .selects md_Ln_add.y.cls md_Ln_add.y md_Ln_add.y] := lk_of (by decide +kernel)
theorem lk_X5_43 : Lk md_Rw_markAt [.methodLink RX5 43 md_Rw_markAt.y, .instanceMethod md_Rw_markAt.y, .selects md_Rw_markAt.y.cls md_Rw_markAt.y md_Rw_markAt.y] := lk_of (by decide +kernel)
theorem ar_Rw_markAt : Arity md_Rw_markAt 1 := ⟨by decide +kernel, by decide +kernel, by decide +kernel⟩
theorem lk_X5_46 : Lk md_Rw_halve [.methodLink RX5 46 md_Rw_halve.y, .instanceMethod md_Rw_halve.y, .selects md_Rw_halve.y.cls md_Rw_halve.y md_Rw_halve.y] := lk_of (by decide +kernel)
theorem ar_Rw_halve : Arity md_Rw_halve 1 := ⟨by decide +kernel, by decide +kernel, by decide +kernel⟩
theorem lk_X5_49 : Lk md_Rw_isWrong [.methodLink RX5 49 md_Rw_isWrong.y, .instanceMethod md_Rw_isWrong.y, .selects md_Rw_isWrong.y.cls md_Rw_isWrong.y md_Rw_isWrong.y] := lk_of (by decide +kernel)
theorem ar_Rw_isWrong : Arity md_Rw_isWrong 1 := ⟨by decide +kernel, by decide +kernel, by decide +kernel⟩
theorem fl_X5_23 : Cond.fieldLink RX5 23 (TX5 2).1 (TX5 2).2.1 (TX5 2).2.2.1 ∈ aw := aw1 (by decide +kernel)
theorem mw_X5_53 : ∀ w ∈ [Cond.methodLink RX5 53 Lib.Math.max.name, Cond.static Lib.Math.max.name, Cond.initialized "java/lang/Math", Cond.code Lib.Math.max.name Lib.Math.max.code 2 (some .int)], w ∈ aw := aw_of (by decide +kernel)
theorem lk_X5_59 : Lk md_Rw_placeInOrder [.methodLink RX5 59 md_Rw_placeInOrder.y, .instanceMethod md_Rw_placeInOrder.y, .selects md_Rw_placeInOrder.y.cls md_Rw_placeInOrder.y md_Rw_placeInOrder.y] := lk_of (by decide +kernel)
theorem ar_Rw_placeInOrder : Arity md_Rw_placeInOrder 1 := ⟨by decide +kernel, by decide +kernel, by decide +kernel⟩
theorem mw_X5_62 : ∀ w ∈ [Cond.methodLink RX5 62 Lib.Math.abs.name, Cond.static Lib.Math.abs.name, Cond.initialized "java/lang/Math", Cond.code Lib.Math.abs.name Lib.Math.abs.code 1 (some .int)], w ∈ aw := aw_of (by decide +kernel)
theorem lk_X5_65 : Lk md_Ln_placeOf [.methodLink RX5 65 md_Ln_placeOf.y, .instanceMethod md_Ln_placeOf.y, .selects md_Ln_placeOf.y.cls md_Ln_placeOf.y md_Ln_placeOf.y] := lk_of (by decide +kernel)
theorem ar_Ln_placeOf : Arity md_Ln_placeOf 1 := ⟨by decide +kernel, by decide +kernel, by decide +kernel⟩
theorem lk_X5_68 : Lk md_Ln_removeAt [.methodLink RX5 68 md_Ln_removeAt.y, .instanceMethod md_Ln_removeAt.y, .selects md_Ln_removeAt.y.cls md_Ln_removeAt.y md_Ln_removeAt.y] := lk_of (by decide +kernel)
theorem ar_Ln_removeAt : Arity md_Ln_removeAt 1 := ⟨by decide +kernel, by decide +kernel, by decide +kernel⟩
theorem lk_X5_71 : Lk md_Ln_insert [.methodLink RX5 71 md_Ln_insert.y, .instanceMethod md_Ln_insert.y, .selects md_Ln_insert.y.cls md_Ln_insert.y md_Ln_insert.y] := lk_of (by decide +kernel)
theorem ar_Ln_insert : Arity md_Ln_insert 2 := ⟨by decide +kernel, by decide +kernel, by decide +kernel⟩
theorem lk_X5_75 : Lk md_Rw_firstWrong [.methodLink RX5 75 md_Rw_firstWrong.y, .instanceMethod md_Rw_firstWrong.y, .selects md_Rw_firstWrong.y.cls md_Rw_firstWrong.y md_Rw_firstWrong.y] := lk_of (by decide +kernel)
theorem ar_Rw_firstWrong : Arity md_Rw_firstWrong 0 := ⟨by decide +kernel, by decide +kernel, by decide +kernel⟩
theorem lk_X5_78 : Lk md_Ln_set [.methodLink RX5 78 md_Ln_set.y, .instanceMethod md_Ln_set.y, .selects md_Ln_set.y.cls md_Ln_set.y md_Ln_set.y] := lk_of (by decide +kernel)
theorem ar_Ln_set : Arity md_Ln_set 2 := ⟨by decide +kernel, by decide +kernel, by decide +kernel⟩
theorem fl_X7_14 : Cond.fieldLink RX7 14 (TX7 0).1 (TX7 0).2.1 (TX7 0).2.2.1 ∈ aw := aw1 (by decide +kernel)
theorem lk_X7_29 : Lk md_Ln_count [.methodLink RX7 29 md_Ln_count.y, .instanceMethod md_Ln_count.y, .selects md_Ln_count.y.cls md_Ln_count.y md_Ln_count.y] := lk_of (by decide +kernel)
theorem lk_X7_33 : Lk md_Ln_add [.methodLink RX7 33 md_Ln_add.y, .instanceMethod md_Ln_add.y, .selects md_Ln_add.y.cls md_Ln_add.y md_Ln_add.y] := lk_of (by decide +kernel)
theorem fl_X7_20 : Cond.fieldLink RX7 20 (TX7 1).1 (TX7 1).2.1 (TX7 1).2.2.1 ∈ aw := aw1 (by decide +kernel)
theorem fl_X7_23 : Cond.fieldLink RX7 23 (TX7 2).1 (TX7 2).2.1 (TX7 2).2.2.1 ∈ aw := aw1 (by decide +kernel)
theorem fl_X7_26 : Cond.fieldLink RX7 26 (TX7 3).1 (TX7 3).2.1 (TX7 3).2.2.1 ∈ aw := aw1 (by decide +kernel)
theorem lk_X7_36 : Lk md_Ln_removeAt [.methodLink RX7 36 md_Ln_removeAt.y, .instanceMethod md_Ln_removeAt.y, .selects md_Ln_removeAt.y.cls md_Ln_removeAt.y md_Ln_removeAt.y] := lk_of (by decide +kernel)
theorem lk_X7_39 : Lk md_Ln_get [.methodLink RX7 39 md_Ln_get.y, .instanceMethod md_Ln_get.y, .selects md_Ln_get.y.cls md_Ln_get.y md_Ln_get.y] := lk_of (by decide +kernel)
theorem lk_X7_43 : Lk md_Ln_clear [.methodLink RX7 43 md_Ln_clear.y, .instanceMethod md_Ln_clear.y, .selects md_Ln_clear.y.cls md_Ln_clear.y md_Ln_clear.y] := lk_of (by decide +kernel)
theorem lk_X7_46 : Lk md_Ln_copyFrom [.methodLink RX7 46 md_Ln_copyFrom.y, .instanceMethod md_Ln_copyFrom.y, .selects md_Ln_copyFrom.y.cls md_Ln_copyFrom.y md_Ln_copyFrom.y] := lk_of (by decide +kernel)
theorem ar_Ln_copyFrom : Arity md_Ln_copyFrom 1 := ⟨by decide +kernel, by decide +kernel, by decide +kernel⟩
def Rw_markAt (M : StM) (p1 : Int32) : Int32 := lnget (M.2 0) (lnget (M.2 7) p1)
set_option maxRecDepth 100000 in
set_option maxHeartbeats 4000000 in
theorem c_Rw_markAt (l : Launch) (g : Gl) (σ : Hp) (S : Nat) (M : StM) (p1 : Int32) {r : Int32} (hr : Rw_markAt M p1 = r) : MG l g md_Rw_markAt [.ref (S + 15), .int p1] (putSt σ S M) (rs (some (.int r)) (putSt σ S M)) := by
  refine MG.intro (by decide +kernel) (Nat.le_of_ble_eq_true rfl) (fun X hx hR _ => ?_)
  unfold Rw_markAt at hr
  refine g_ls [0, 1] [(0, .ref (S + 15)), (1, .int p1)] rfl ?_
  refine g_aload_n hx 0 (i := 0) 0 dX5_markAt_0 rfl rfl ?_
  refine g_get hx 1 (C := RX5) (T := TX5) (N := 4) 3 (.ref (S + 1)) (pS σ S M 15 (by decide)) rfl (by decide) rfl fl_X5_26 dX5_markAt_1 ?_
  refine g_aload_n hx 4 (i := 0) 0 dX5_markAt_4 rfl rfl ?_
  refine g_get hx 5 (C := RX5) (T := TX5) (N := 4) 0 (.ref (S + 16)) (pS σ S M 15 (by decide)) rfl (by decide) rfl fl_X5_14 dX5_markAt_5 ?_
  refine g_iload_n hx 8 (i := 1) 1 dX5_markAt_8 rfl rfl ?_
  refine g_callVr hx (k_get l g (pS_l7 σ S M) (by decide) p1) lk_X5_29 ar_Ln_get (pS_l7 σ S M).1 (T := TX2) (N := 2) rfl (As := [.int p1]) (rest := [.ref (S + 1)]) rfl (Nat.le_of_ble_eq_true rfl) ⟨Nat.le_of_ble_eq_true rfl, Nat.le_of_ble_eq_true rfl⟩ ⟨rfl, rfl⟩ ⟨Nat.zero_le _, Nat.zero_le _⟩ dX5_markAt_9 ?_
  refine g_callVr hx (k_get l g (pS_l0 σ S M) (by decide) (lnget (M.2 7) p1)) lk_X5_29 ar_Ln_get (pS_l0 σ S M).1 (T := TX2) (N := 2) rfl (As := [.int (lnget (M.2 7) p1)]) (rest := []) rfl (Nat.le_of_ble_eq_true rfl) ⟨Nat.le_of_ble_eq_true rfl, Nat.le_of_ble_eq_true rfl⟩ ⟨rfl, rfl⟩ ⟨Nat.zero_le _, Nat.zero_le _⟩ dX5_markAt_12 ?_
  exact g_iret hx hR 15 dX5_markAt_15 ⟨by rw [← hr] <;> rfl, rfl⟩
def Rw_halve_L22 : Nat → StM → Int32 → Int32 → Int32 → Int32 → Option (Int32 × StM)
  | 0, _, _, _, _, _ => none
  | n + 1, M, v1_53, v2_54, v3_55, v4_56 => if 24 ≤ v4_56 then (some (((-1), M))) else (if v3_55 < v2_54 then (some (((-1), M))) else (lt' ((v2_54 + v3_55) / 2) fun v5_59 => lt' (lnget (M.2 0) (lnget (M.2 7) v5_59)) fun v6_60 => if v6_60 = v1_53 then (some ((v5_59, setL M 8 (lnadd 24 (M.2 8) v5_59)))) else (if v6_60 ≤ v1_53 then (lt' (v5_59 + 1) fun v2_63 => Rw_halve_L22 n (setL M 8 (lnadd 24 (M.2 8) v5_59)) v1_53 v2_63 v3_55 (v4_56 + 1)) else (lt' (v5_59 - 1) fun v3_64 => Rw_halve_L22 n (setL M 8 (lnadd 24 (M.2 8) v5_59)) v1_53 v2_54 v3_64 (v4_56 + 1)))))
def Rw_halve (M : StM) (p1 : Int32) : Option (Int32 × StM) := lt' ((nI (M.2 7).length) - 1) fun v3_52 => Rw_halve_L22 FU (setL M 8 ([])) p1 0 v3_52 0
set_option maxRecDepth 100000 in
set_option maxHeartbeats 4000000 in
theorem w_Rw_halve_L22 {X : Cx} {l : Launch} {g : Gl} (hx : Ok X l g RX5 cX5_halve 7 md_Rw_halve.rm) {σ : Hp} {S : Nat} {r : Int32 × StM} (hR : Ret X (rs (some (.int r.1)) (putSt σ S r.2)) 0 0 (some .int)) : ∀ (n : Nat) (M : StM) (v1_53 v2_54 v3_55 v4_56 : Int32), Rw_halve_L22 n M v1_53 v2_54 v3_55 v4_56 = some r → G X (putSt σ S M) 0 0 22 [(0, .ref (S + 15)), (1, .int v1_53), (2, .int v2_54), (3, .int v3_55), (4, .int v4_56)] [] := by
  intro n
  induction n with
  | zero =>
    intro M v1_53 v2_54 v3_55 v4_56 hr
    rw [Rw_halve_L22] at hr
    cases hr
  | succ n ih =>
    intro M v1_53 v2_54 v3_55 v4_56 hr
    rw [Rw_halve_L22] at hr
    refine g_iload hx 22 (i := 4) 4 dX5_halve_22 rfl ?_
    refine g_bipush hx 24 (24) dX5_halve_24 rfl ?_
    refine g_icmp_ge hx 26 102 dX5_halve_26 (by decide) (fun hc_57 => ?_) (fun hc_57 => ?_)
    · have hr := (if_pos hc_57).symm.trans hr
      refine g_iconst hx 102 (-1) dX5_halve_102 rfl ?_
      exact g_iret hx hR 103 dX5_halve_103 ⟨by rw [← Option.some.inj hr] <;> rfl, by rw [← Option.some.inj hr] <;> rfl⟩
    · have hr := (if_neg hc_57).symm.trans hr
      refine g_iload_n hx 29 (i := 2) 2 dX5_halve_29 rfl rfl ?_
      refine g_iload_n hx 30 (i := 3) 3 dX5_halve_30 rfl rfl ?_
      refine g_icmp_gt hx 31 102 dX5_halve_31 (by decide) (fun hc_58 => ?_) (fun hc_58 => ?_)
      · have hr := (if_pos hc_58).symm.trans hr
        refine g_iconst hx 102 (-1) dX5_halve_102 rfl ?_
        exact g_iret hx hR 103 dX5_halve_103 ⟨by rw [← Option.some.inj hr] <;> rfl, by rw [← Option.some.inj hr] <;> rfl⟩
      · have hr := (if_neg hc_58).symm.trans hr
        refine g_iload_n hx 34 (i := 2) 2 dX5_halve_34 rfl rfl ?_
        refine g_iload_n hx 35 (i := 3) 3 dX5_halve_35 rfl rfl ?_
        refine g_iadd hx 36 dX5_halve_36 ?_
        refine g_iconst hx 37 (2) dX5_halve_37 rfl ?_
        refine g_idiv hx 38 dX5_halve_38 (by decide) ?_
        obtain ⟨v5_59, ev5_59, hr⟩ := lt'_e hr
        refine g_nmi ev5_59 ?_
        refine g_istore hx 39 (i := 5) [(5, .int v5_59), (0, .ref (S + 15)), (1, .int v1_53), (2, .int v2_54), (3, .int v3_55), (4, .int v4_56)] dX5_halve_39 (by decide) rfl ?_
        refine g_aload_n hx 41 (i := 0) 1 dX5_halve_41 rfl rfl ?_
        refine g_get hx 42 (C := RX5) (T := TX5) (N := 4) 3 (.ref (S + 1)) (pS σ S M 15 (by decide)) rfl (by decide) rfl fl_X5_26 dX5_halve_42 ?_
        refine g_aload_n hx 45 (i := 0) 1 dX5_halve_45 rfl rfl ?_
        refine g_get hx 46 (C := RX5) (T := TX5) (N := 4) 0 (.ref (S + 16)) (pS σ S M 15 (by decide)) rfl (by decide) rfl fl_X5_14 dX5_halve_46 ?_
        refine g_iload hx 49 (i := 5) 0 dX5_halve_49 rfl ?_
        refine g_callVr hx (k_get l g (pS_l7 σ S M) (by decide) v5_59) lk_X5_29 ar_Ln_get (pS_l7 σ S M).1 (T := TX2) (N := 2) rfl (As := [.int v5_59]) (rest := [.ref (S + 1)]) rfl (Nat.le_of_ble_eq_true rfl) ⟨Nat.le_of_ble_eq_true rfl, Nat.le_of_ble_eq_true rfl⟩ ⟨rfl, rfl⟩ ⟨Nat.zero_le _, Nat.zero_le _⟩ dX5_halve_51 ?_
        refine g_callVr hx (k_get l g (pS_l0 σ S M) (by decide) (lnget (M.2 7) v5_59)) lk_X5_29 ar_Ln_get (pS_l0 σ S M).1 (T := TX2) (N := 2) rfl (As := [.int (lnget (M.2 7) v5_59)]) (rest := []) rfl (Nat.le_of_ble_eq_true rfl) ⟨Nat.le_of_ble_eq_true rfl, Nat.le_of_ble_eq_true rfl⟩ ⟨rfl, rfl⟩ ⟨Nat.zero_le _, Nat.zero_le _⟩ dX5_halve_54 ?_
        obtain ⟨v6_60, ev6_60, hr⟩ := lt'_e hr
        refine g_nmi ev6_60 ?_
        refine g_istore hx 57 (i := 6) [(6, .int v6_60), (5, .int v5_59), (0, .ref (S + 15)), (1, .int v1_53), (2, .int v2_54), (3, .int v3_55), (4, .int v4_56)] dX5_halve_57 (by decide) rfl ?_
        refine g_aload_n hx 59 (i := 0) 2 dX5_halve_59 rfl rfl ?_
        refine g_get hx 60 (C := RX5) (T := TX5) (N := 4) 1 (.ref (S + 18)) (pS σ S M 15 (by decide)) rfl (by decide) rfl fl_X5_20 dX5_halve_60 ?_
        refine g_iload hx 63 (i := 5) 1 dX5_halve_63 rfl ?_
        refine g_callVv hx (k_add l g (pS_l8 σ S M) (by decide) v5_59) lk_X5_40 ar_Ln_add (pS_l8 σ S M).1 (T := TX2) (N := 2) rfl (As := [.int v5_59]) (rest := []) rfl (Nat.le_of_ble_eq_true rfl) ⟨Nat.le_of_ble_eq_true rfl, Nat.le_of_ble_eq_true rfl⟩ ⟨rfl, rfl⟩ ⟨Nat.zero_le _, Nat.zero_le _⟩ dX5_halve_65 ?_
        refine G.heap (pS_p8 σ S M (lnadd 24 (M.2 8) v5_59)) ?_
        refine g_iload hx 68 (i := 6) 0 dX5_halve_68 rfl ?_
        refine g_iload_n hx 70 (i := 1) 3 dX5_halve_70 rfl rfl ?_
        refine g_icmp_ne hx 71 77 dX5_halve_71 (by decide) (fun hc_61 => ?_) (fun hc_61 => ?_)
        · have hr := (if_neg hc_61).symm.trans hr
          refine g_iload hx 77 (i := 6) 0 dX5_halve_77 rfl ?_
          refine g_iload_n hx 79 (i := 1) 3 dX5_halve_79 rfl rfl ?_
          refine g_icmp_le hx 80 91 dX5_halve_80 (by decide) (fun hc_62 => ?_) (fun hc_62 => ?_)
          · have hr := (if_pos hc_62).symm.trans hr
            refine g_iload hx 91 (i := 5) 1 dX5_halve_91 rfl ?_
            refine g_iconst hx 93 (1) dX5_halve_93 rfl ?_
            refine g_iadd hx 94 dX5_halve_94 ?_
            obtain ⟨v2_63, ev2_63, hr⟩ := lt'_e hr
            refine g_nmi ev2_63 ?_
            refine g_istore_n hx 95 (i := 2) [(2, .int v2_63), (6, .int v6_60), (5, .int v5_59), (0, .ref (S + 15)), (1, .int v1_53), (3, .int v3_55), (4, .int v4_56)] dX5_halve_95 rfl (by decide) rfl ?_
            refine g_iinc hx 96 (i := 4) 6 (v4_56 + 1) [(4, .int (v4_56 + 1)), (2, .int v2_63), (6, .int v6_60), (5, .int v5_59), (0, .ref (S + 15)), (1, .int v1_53), (3, .int v3_55)] dX5_halve_96 rfl rfl (by decide) rfl ?_
            refine g_goto hx 99 22 dX5_halve_99 (by decide) ?_
            refine g_ls [4, 5, 1, 6, 0] [(0, .ref (S + 15)), (1, .int v1_53), (2, .int v2_63), (3, .int v3_55), (4, .int (v4_56 + 1))] rfl ?_
            exact ih (setL M 8 (lnadd 24 (M.2 8) v5_59)) v1_53 v2_63 v3_55 (v4_56 + 1) hr
          · have hr := (if_neg hc_62).symm.trans hr
            refine g_iload hx 83 (i := 5) 1 dX5_halve_83 rfl ?_
            refine g_iconst hx 85 (1) dX5_halve_85 rfl ?_
            refine g_isub hx 86 dX5_halve_86 ?_
            obtain ⟨v3_64, ev3_64, hr⟩ := lt'_e hr
            refine g_nmi ev3_64 ?_
            refine g_istore_n hx 87 (i := 3) [(3, .int v3_64), (6, .int v6_60), (5, .int v5_59), (0, .ref (S + 15)), (1, .int v1_53), (2, .int v2_54), (4, .int v4_56)] dX5_halve_87 rfl (by decide) rfl ?_
            refine g_goto hx 88 96 dX5_halve_88 (by decide) ?_
            refine g_iinc hx 96 (i := 4) 6 (v4_56 + 1) [(4, .int (v4_56 + 1)), (3, .int v3_64), (6, .int v6_60), (5, .int v5_59), (0, .ref (S + 15)), (1, .int v1_53), (2, .int v2_54)] dX5_halve_96 rfl rfl (by decide) rfl ?_
            refine g_goto hx 99 22 dX5_halve_99 (by decide) ?_
            refine g_ls [4, 5, 6, 1, 0] [(0, .ref (S + 15)), (1, .int v1_53), (2, .int v2_54), (3, .int v3_64), (4, .int (v4_56 + 1))] rfl ?_
            exact ih (setL M 8 (lnadd 24 (M.2 8) v5_59)) v1_53 v2_54 v3_64 (v4_56 + 1) hr
        · have hr := (if_pos hc_61).symm.trans hr
          refine g_iload hx 74 (i := 5) 1 dX5_halve_74 rfl ?_
          exact g_iret hx hR 76 dX5_halve_76 ⟨by rw [← Option.some.inj hr] <;> rfl, by rw [← Option.some.inj hr] <;> rfl⟩
set_option maxRecDepth 100000 in
set_option maxHeartbeats 4000000 in
theorem c_Rw_halve (l : Launch) (g : Gl) (σ : Hp) (S : Nat) (M : StM) (p1 : Int32) {r : Int32 × StM} (hr : Rw_halve M p1 = some r) : MG l g md_Rw_halve [.ref (S + 15), .int p1] (putSt σ S M) (rs (some (.int r.1)) (putSt σ S r.2)) := by
  refine MG.intro (by decide +kernel) (Nat.le_of_ble_eq_true rfl) (fun X hx hR _ => ?_)
  unfold Rw_halve at hr
  refine g_ls [0, 1] [(0, .ref (S + 15)), (1, .int p1)] rfl ?_
  refine g_aload_n hx 0 (i := 0) 0 dX5_halve_0 rfl rfl ?_
  refine g_get hx 1 (C := RX5) (T := TX5) (N := 4) 1 (.ref (S + 18)) (pS σ S M 15 (by decide)) rfl (by decide) rfl fl_X5_20 dX5_halve_1 ?_
  refine g_callVv hx (k_clear l g (pS_l8 σ S M) (by decide)) lk_X5_33 ar_Ln_clear (pS_l8 σ S M).1 (T := TX2) (N := 2) rfl (As := []) (rest := []) rfl (Nat.le_of_ble_eq_true rfl) ⟨Nat.le_of_ble_eq_true rfl, Nat.le_of_ble_eq_true rfl⟩ ⟨rfl, rfl⟩ ⟨Nat.zero_le _, Nat.zero_le _⟩ dX5_halve_4 ?_
  refine G.heap (pS_p8 σ S M ([])) ?_
  refine g_iconst hx 7 (0) dX5_halve_7 rfl ?_
  refine g_istore_n hx 8 (i := 2) [(2, .int 0), (0, .ref (S + 15)), (1, .int p1)] dX5_halve_8 rfl (by decide) rfl ?_
  refine g_aload_n hx 9 (i := 0) 1 dX5_halve_9 rfl rfl ?_
  refine g_get hx 10 (C := RX5) (T := TX5) (N := 4) 0 (.ref (S + 16)) (pS σ S (setL M 8 ([])) 15 (by decide)) rfl (by decide) rfl fl_X5_14 dX5_halve_10 ?_
  refine g_callVr hx (k_count l g (pS_l7 σ S (setL M 8 ([]))) (by decide) ) lk_X5_36 ar_Ln_count (pS_l7 σ S (setL M 8 ([]))).1 (T := TX2) (N := 2) rfl (As := []) (rest := []) rfl (Nat.le_of_ble_eq_true rfl) ⟨Nat.le_of_ble_eq_true rfl, Nat.le_of_ble_eq_true rfl⟩ ⟨rfl, rfl⟩ ⟨Nat.zero_le _, Nat.zero_le _⟩ dX5_halve_13 ?_
  refine g_iconst hx 16 (1) dX5_halve_16 rfl ?_
  refine g_isub hx 17 dX5_halve_17 ?_
  obtain ⟨v3_52, ev3_52, hr⟩ := lt'_e hr
  refine g_nmi ev3_52 ?_
  refine g_istore_n hx 18 (i := 3) [(3, .int v3_52), (2, .int 0), (0, .ref (S + 15)), (1, .int p1)] dX5_halve_18 rfl (by decide) rfl ?_
  refine g_iconst hx 19 (0) dX5_halve_19 rfl ?_
  refine g_istore hx 20 (i := 4) [(4, .int 0), (3, .int v3_52), (2, .int 0), (0, .ref (S + 15)), (1, .int p1)] dX5_halve_20 (by decide) rfl ?_
  refine g_ls [3, 4, 2, 1, 0] [(0, .ref (S + 15)), (1, .int p1), (2, .int 0), (3, .int v3_52), (4, .int 0)] rfl ?_
  exact w_Rw_halve_L22 hx hR FU (setL M 8 ([])) p1 0 v3_52 0 hr
def Rw_placeBehindMiss (M : StM) (p1 : Int32) : Int32 := lt' (lnget (M.2 8) ((nI (M.2 8).length) - 1)) fun v2_65 => if v2_65 = (-1) then (0) else (if lnget (M.2 0) (lnget (M.2 7) v2_65) ≤ p1 then (v2_65 + 1) else (v2_65))
set_option maxRecDepth 100000 in
set_option maxHeartbeats 4000000 in
theorem c_Rw_placeBehindMiss (l : Launch) (g : Gl) (σ : Hp) (S : Nat) (M : StM) (p1 : Int32) {r : Int32} (hr : Rw_placeBehindMiss M p1 = r) : MG l g md_Rw_placeBehindMiss [.ref (S + 15), .int p1] (putSt σ S M) (rs (some (.int r)) (putSt σ S M)) := by
  refine MG.intro (by decide +kernel) (Nat.le_of_ble_eq_true rfl) (fun X hx hR _ => ?_)
  unfold Rw_placeBehindMiss at hr
  refine g_ls [0, 1] [(0, .ref (S + 15)), (1, .int p1)] rfl ?_
  refine g_aload_n hx 0 (i := 0) 0 dX5_placeBehindMiss_0 rfl rfl ?_
  refine g_get hx 1 (C := RX5) (T := TX5) (N := 4) 1 (.ref (S + 18)) (pS σ S M 15 (by decide)) rfl (by decide) rfl fl_X5_20 dX5_placeBehindMiss_1 ?_
  refine g_aload_n hx 4 (i := 0) 0 dX5_placeBehindMiss_4 rfl rfl ?_
  refine g_get hx 5 (C := RX5) (T := TX5) (N := 4) 1 (.ref (S + 18)) (pS σ S M 15 (by decide)) rfl (by decide) rfl fl_X5_20 dX5_placeBehindMiss_5 ?_
  refine g_callVr hx (k_count l g (pS_l8 σ S M) (by decide) ) lk_X5_36 ar_Ln_count (pS_l8 σ S M).1 (T := TX2) (N := 2) rfl (As := []) (rest := [.ref (S + 18)]) rfl (Nat.le_of_ble_eq_true rfl) ⟨Nat.le_of_ble_eq_true rfl, Nat.le_of_ble_eq_true rfl⟩ ⟨rfl, rfl⟩ ⟨Nat.zero_le _, Nat.zero_le _⟩ dX5_placeBehindMiss_8 ?_
  refine g_iconst hx 11 (1) dX5_placeBehindMiss_11 rfl ?_
  refine g_isub hx 12 dX5_placeBehindMiss_12 ?_
  refine g_callVr hx (k_get l g (pS_l8 σ S M) (by decide) ((nI (M.2 8).length) - 1)) lk_X5_29 ar_Ln_get (pS_l8 σ S M).1 (T := TX2) (N := 2) rfl (As := [.int ((nI (M.2 8).length) - 1)]) (rest := []) rfl (Nat.le_of_ble_eq_true rfl) ⟨Nat.le_of_ble_eq_true rfl, Nat.le_of_ble_eq_true rfl⟩ ⟨rfl, rfl⟩ ⟨Nat.zero_le _, Nat.zero_le _⟩ dX5_placeBehindMiss_13 ?_
  obtain ⟨v2_65, ev2_65, hr⟩ := lt'_e hr
  refine g_nmi ev2_65 ?_
  refine g_istore_n hx 16 (i := 2) [(2, .int v2_65), (0, .ref (S + 15)), (1, .int p1)] dX5_placeBehindMiss_16 rfl (by decide) rfl ?_
  refine g_iload_n hx 17 (i := 2) 0 dX5_placeBehindMiss_17 rfl rfl ?_
  refine g_iconst hx 18 (-1) dX5_placeBehindMiss_18 rfl ?_
  refine g_icmp_ne hx 19 24 dX5_placeBehindMiss_19 (by decide) (fun hc_66 => ?_) (fun hc_66 => ?_)
  · have hr := (if_neg hc_66).symm.trans hr
    refine g_aload_n hx 24 (i := 0) 1 dX5_placeBehindMiss_24 rfl rfl ?_
    refine g_get hx 25 (C := RX5) (T := TX5) (N := 4) 3 (.ref (S + 1)) (pS σ S M 15 (by decide)) rfl (by decide) rfl fl_X5_26 dX5_placeBehindMiss_25 ?_
    refine g_aload_n hx 28 (i := 0) 1 dX5_placeBehindMiss_28 rfl rfl ?_
    refine g_get hx 29 (C := RX5) (T := TX5) (N := 4) 0 (.ref (S + 16)) (pS σ S M 15 (by decide)) rfl (by decide) rfl fl_X5_14 dX5_placeBehindMiss_29 ?_
    refine g_iload_n hx 32 (i := 2) 0 dX5_placeBehindMiss_32 rfl rfl ?_
    refine g_callVr hx (k_get l g (pS_l7 σ S M) (by decide) v2_65) lk_X5_29 ar_Ln_get (pS_l7 σ S M).1 (T := TX2) (N := 2) rfl (As := [.int v2_65]) (rest := [.ref (S + 1)]) rfl (Nat.le_of_ble_eq_true rfl) ⟨Nat.le_of_ble_eq_true rfl, Nat.le_of_ble_eq_true rfl⟩ ⟨rfl, rfl⟩ ⟨Nat.zero_le _, Nat.zero_le _⟩ dX5_placeBehindMiss_33 ?_
    refine g_callVr hx (k_get l g (pS_l0 σ S M) (by decide) (lnget (M.2 7) v2_65)) lk_X5_29 ar_Ln_get (pS_l0 σ S M).1 (T := TX2) (N := 2) rfl (As := [.int (lnget (M.2 7) v2_65)]) (rest := []) rfl (Nat.le_of_ble_eq_true rfl) ⟨Nat.le_of_ble_eq_true rfl, Nat.le_of_ble_eq_true rfl⟩ ⟨rfl, rfl⟩ ⟨Nat.zero_le _, Nat.zero_le _⟩ dX5_placeBehindMiss_36 ?_
    refine g_iload_n hx 39 (i := 1) 2 dX5_placeBehindMiss_39 rfl rfl ?_
    refine g_icmp_le hx 40 47 dX5_placeBehindMiss_40 (by decide) (fun hc_67 => ?_) (fun hc_67 => ?_)
    · have hr := (if_pos hc_67).symm.trans hr
      refine g_iload_n hx 47 (i := 2) 0 dX5_placeBehindMiss_47 rfl rfl ?_
      refine g_iconst hx 48 (1) dX5_placeBehindMiss_48 rfl ?_
      refine g_iadd hx 49 dX5_placeBehindMiss_49 ?_
      exact g_iret hx hR 50 dX5_placeBehindMiss_50 ⟨by rw [← hr] <;> rfl, rfl⟩
    · have hr := (if_neg hc_67).symm.trans hr
      refine g_iload_n hx 43 (i := 2) 0 dX5_placeBehindMiss_43 rfl rfl ?_
      refine g_goto hx 44 50 dX5_placeBehindMiss_44 (by decide) ?_
      exact g_iret hx hR 50 dX5_placeBehindMiss_50 ⟨by rw [← hr] <;> rfl, rfl⟩
  · have hr := (if_pos hc_66).symm.trans hr
    refine g_iconst hx 22 (0) dX5_placeBehindMiss_22 rfl ?_
    exact g_iret hx hR 23 dX5_placeBehindMiss_23 ⟨by rw [← hr] <;> rfl, rfl⟩
def Rw_missedByHalving_L4 : Nat → StM → Int32 → Int32 → Option (Int32 × StM)
  | 0, _, _, _ => none
  | n + 1, M, v1_68, v2_69 => if nI (M.2 7).length ≤ v2_69 then (some ((v1_68, M))) else (Option.bind (Rw_halve M (Rw_markAt M v2_69)) fun q_71 => if q_71.1 = (-1) then (Rw_missedByHalving_L4 n q_71.2 (v1_68 + 1) (v2_69 + 1)) else (Rw_missedByHalving_L4 n q_71.2 v1_68 (v2_69 + 1)))
def Rw_missedByHalving (M : StM) : Option (Int32 × StM) := Rw_missedByHalving_L4 FU M 0 0
set_option maxRecDepth 100000 in
set_option maxHeartbeats 4000000 in
theorem w_Rw_missedByHalving_L4 {X : Cx} {l : Launch} {g : Gl} (hx : Ok X l g RX5 cX5_missedByHalving 3 md_Rw_missedByHalving.rm) {σ : Hp} {S : Nat} {r : Int32 × StM} (hR : Ret X (rs (some (.int r.1)) (putSt σ S r.2)) 0 0 (some .int)) : ∀ (n : Nat) (M : StM) (v1_68 v2_69 : Int32), Rw_missedByHalving_L4 n M v1_68 v2_69 = some r → G X (putSt σ S M) 0 0 4 [(0, .ref (S + 15)), (1, .int v1_68), (2, .int v2_69)] [] := by
  intro n
  induction n with
  | zero =>
    intro M v1_68 v2_69 hr
    rw [Rw_missedByHalving_L4] at hr
    cases hr
  | succ n ih =>
    intro M v1_68 v2_69 hr
    rw [Rw_missedByHalving_L4] at hr
    refine g_iload_n hx 4 (i := 2) 2 dX5_missedByHalving_4 rfl rfl ?_
    refine g_aload_n hx 5 (i := 0) 0 dX5_missedByHalving_5 rfl rfl ?_
    refine g_get hx 6 (C := RX5) (T := TX5) (N := 4) 0 (.ref (S + 16)) (pS σ S M 15 (by decide)) rfl (by decide) rfl fl_X5_14 dX5_missedByHalving_6 ?_
    refine g_callVr hx (k_count l g (pS_l7 σ S M) (by decide) ) lk_X5_36 ar_Ln_count (pS_l7 σ S M).1 (T := TX2) (N := 2) rfl (As := []) (rest := [.int v2_69]) rfl (Nat.le_of_ble_eq_true rfl) ⟨Nat.le_of_ble_eq_true rfl, Nat.le_of_ble_eq_true rfl⟩ ⟨rfl, rfl⟩ ⟨Nat.zero_le _, Nat.zero_le _⟩ dX5_missedByHalving_9 ?_
    refine g_icmp_ge hx 12 37 dX5_missedByHalving_12 (by decide) (fun hc_70 => ?_) (fun hc_70 => ?_)
    · have hr := (if_pos hc_70).symm.trans hr
      refine g_iload_n hx 37 (i := 1) 1 dX5_missedByHalving_37 rfl rfl ?_
      exact g_iret hx hR 38 dX5_missedByHalving_38 ⟨by rw [← Option.some.inj hr] <;> rfl, by rw [← Option.some.inj hr] <;> rfl⟩
    · have hr := (if_neg hc_70).symm.trans hr
      refine g_aload_n hx 15 (i := 0) 0 dX5_missedByHalving_15 rfl rfl ?_
      refine g_aload_n hx 16 (i := 0) 0 dX5_missedByHalving_16 rfl rfl ?_
      refine g_iload_n hx 17 (i := 2) 2 dX5_missedByHalving_17 rfl rfl ?_
      refine g_callVr hx (c_Rw_markAt l g σ S M v2_69 rfl) lk_X5_43 ar_Rw_markAt (pS σ S M 15 (by decide)) (T := TX5) (N := 4) rfl (As := [.int v2_69]) (rest := [.ref (S + 15)]) rfl (Nat.le_of_ble_eq_true rfl) ⟨Nat.le_of_ble_eq_true rfl, Nat.le_of_ble_eq_true rfl⟩ ⟨rfl, rfl⟩ ⟨Nat.zero_le _, Nat.zero_le _⟩ dX5_missedByHalving_18 ?_
      obtain ⟨q_71, eq_71, hr⟩ := bind_e hr
      refine g_callVr hx (c_Rw_halve l g σ S M (Rw_markAt M v2_69) eq_71) lk_X5_46 ar_Rw_halve (pS σ S M 15 (by decide)) (T := TX5) (N := 4) rfl (As := [.int (Rw_markAt M v2_69)]) (rest := []) rfl (Nat.le_of_ble_eq_true rfl) ⟨Nat.le_of_ble_eq_true rfl, Nat.le_of_ble_eq_true rfl⟩ ⟨rfl, rfl⟩ ⟨Nat.zero_le _, Nat.zero_le _⟩ dX5_missedByHalving_21 ?_
      refine g_iconst hx 24 (-1) dX5_missedByHalving_24 rfl ?_
      refine g_icmp_ne hx 25 31 dX5_missedByHalving_25 (by decide) (fun hc_72 => ?_) (fun hc_72 => ?_)
      · have hr := (if_neg hc_72).symm.trans hr
        refine g_iinc hx 31 (i := 2) 2 (v2_69 + 1) [(2, .int (v2_69 + 1)), (0, .ref (S + 15)), (1, .int v1_68)] dX5_missedByHalving_31 rfl rfl (by decide) rfl ?_
        refine g_goto hx 34 4 dX5_missedByHalving_34 (by decide) ?_
        refine g_ls [1, 2, 0] [(0, .ref (S + 15)), (1, .int v1_68), (2, .int (v2_69 + 1))] rfl ?_
        exact ih q_71.2 v1_68 (v2_69 + 1) hr
      · have hr := (if_pos hc_72).symm.trans hr
        refine g_iinc hx 28 (i := 1) 1 (v1_68 + 1) [(1, .int (v1_68 + 1)), (0, .ref (S + 15)), (2, .int v2_69)] dX5_missedByHalving_28 rfl rfl (by decide) rfl ?_
        refine g_iinc hx 31 (i := 2) 2 (v2_69 + 1) [(2, .int (v2_69 + 1)), (1, .int (v1_68 + 1)), (0, .ref (S + 15))] dX5_missedByHalving_31 rfl rfl (by decide) rfl ?_
        refine g_goto hx 34 4 dX5_missedByHalving_34 (by decide) ?_
        refine g_ls [2, 1, 0] [(0, .ref (S + 15)), (1, .int (v1_68 + 1)), (2, .int (v2_69 + 1))] rfl ?_
        exact ih q_71.2 (v1_68 + 1) (v2_69 + 1) hr
set_option maxRecDepth 100000 in
set_option maxHeartbeats 4000000 in
theorem c_Rw_missedByHalving (l : Launch) (g : Gl) (σ : Hp) (S : Nat) (M : StM) {r : Int32 × StM} (hr : Rw_missedByHalving M = some r) : MG l g md_Rw_missedByHalving [.ref (S + 15)] (putSt σ S M) (rs (some (.int r.1)) (putSt σ S r.2)) := by
  refine MG.intro (by decide +kernel) (Nat.le_of_ble_eq_true rfl) (fun X hx hR _ => ?_)
  unfold Rw_missedByHalving at hr
  refine g_ls [0] [(0, .ref (S + 15))] rfl ?_
  refine g_iconst hx 0 (0) dX5_missedByHalving_0 rfl ?_
  refine g_istore_n hx 1 (i := 1) [(1, .int 0), (0, .ref (S + 15))] dX5_missedByHalving_1 rfl (by decide) rfl ?_
  refine g_iconst hx 2 (0) dX5_missedByHalving_2 rfl ?_
  refine g_istore_n hx 3 (i := 2) [(2, .int 0), (1, .int 0), (0, .ref (S + 15))] dX5_missedByHalving_3 rfl (by decide) rfl ?_
  refine g_ls [2, 1, 0] [(0, .ref (S + 15)), (1, .int 0), (2, .int 0)] rfl ?_
  exact w_Rw_missedByHalving_L4 hx hR FU M 0 0 hr
def Rw_isWrong (M : StM) (p1 : Int32) : Int32 := if p1 ≤ 0 then (0) else (if lnget (M.2 0) (lnget (M.2 7) (p1 - 1)) ≤ lnget (M.2 0) (lnget (M.2 7) p1) then (0) else (1))
set_option maxRecDepth 100000 in
set_option maxHeartbeats 4000000 in
theorem c_Rw_isWrong (l : Launch) (g : Gl) (σ : Hp) (S : Nat) (M : StM) (p1 : Int32) {r : Int32} (hr : Rw_isWrong M p1 = r) : MG l g md_Rw_isWrong [.ref (S + 15), .int p1] (putSt σ S M) (rs (some (.int r)) (putSt σ S M)) := by
  refine MG.intro (by decide +kernel) (Nat.le_of_ble_eq_true rfl) (fun X hx hR _ => ?_)
  unfold Rw_isWrong at hr
  refine g_ls [0, 1] [(0, .ref (S + 15)), (1, .int p1)] rfl ?_
  refine g_iload_n hx 0 (i := 1) 1 dX5_isWrong_0 rfl rfl ?_
  refine g_if_le hx 1 43 dX5_isWrong_1 (by decide) (fun hc_73 => ?_) (fun hc_73 => ?_)
  · have hr := (if_pos hc_73).symm.trans hr
    refine g_iconst hx 43 (0) dX5_isWrong_43 rfl ?_
    exact g_zret hx hR 44 (Or.inl rfl) dX5_isWrong_44 ⟨by rw [← hr] <;> rfl, rfl⟩
  · have hr := (if_neg hc_73).symm.trans hr
    refine g_aload_n hx 4 (i := 0) 0 dX5_isWrong_4 rfl rfl ?_
    refine g_get hx 5 (C := RX5) (T := TX5) (N := 4) 3 (.ref (S + 1)) (pS σ S M 15 (by decide)) rfl (by decide) rfl fl_X5_26 dX5_isWrong_5 ?_
    refine g_aload_n hx 8 (i := 0) 0 dX5_isWrong_8 rfl rfl ?_
    refine g_get hx 9 (C := RX5) (T := TX5) (N := 4) 0 (.ref (S + 16)) (pS σ S M 15 (by decide)) rfl (by decide) rfl fl_X5_14 dX5_isWrong_9 ?_
    refine g_iload_n hx 12 (i := 1) 1 dX5_isWrong_12 rfl rfl ?_
    refine g_callVr hx (k_get l g (pS_l7 σ S M) (by decide) p1) lk_X5_29 ar_Ln_get (pS_l7 σ S M).1 (T := TX2) (N := 2) rfl (As := [.int p1]) (rest := [.ref (S + 1)]) rfl (Nat.le_of_ble_eq_true rfl) ⟨Nat.le_of_ble_eq_true rfl, Nat.le_of_ble_eq_true rfl⟩ ⟨rfl, rfl⟩ ⟨Nat.zero_le _, Nat.zero_le _⟩ dX5_isWrong_13 ?_
    refine g_callVr hx (k_get l g (pS_l0 σ S M) (by decide) (lnget (M.2 7) p1)) lk_X5_29 ar_Ln_get (pS_l0 σ S M).1 (T := TX2) (N := 2) rfl (As := [.int (lnget (M.2 7) p1)]) (rest := []) rfl (Nat.le_of_ble_eq_true rfl) ⟨Nat.le_of_ble_eq_true rfl, Nat.le_of_ble_eq_true rfl⟩ ⟨rfl, rfl⟩ ⟨Nat.zero_le _, Nat.zero_le _⟩ dX5_isWrong_16 ?_
    refine g_aload_n hx 19 (i := 0) 0 dX5_isWrong_19 rfl rfl ?_
    refine g_get hx 20 (C := RX5) (T := TX5) (N := 4) 3 (.ref (S + 1)) (pS σ S M 15 (by decide)) rfl (by decide) rfl fl_X5_26 dX5_isWrong_20 ?_
    refine g_aload_n hx 23 (i := 0) 0 dX5_isWrong_23 rfl rfl ?_
    refine g_get hx 24 (C := RX5) (T := TX5) (N := 4) 0 (.ref (S + 16)) (pS σ S M 15 (by decide)) rfl (by decide) rfl fl_X5_14 dX5_isWrong_24 ?_
    refine g_iload_n hx 27 (i := 1) 1 dX5_isWrong_27 rfl rfl ?_
    refine g_iconst hx 28 (1) dX5_isWrong_28 rfl ?_
    refine g_isub hx 29 dX5_isWrong_29 ?_
    refine g_callVr hx (k_get l g (pS_l7 σ S M) (by decide) (p1 - 1)) lk_X5_29 ar_Ln_get (pS_l7 σ S M).1 (T := TX2) (N := 2) rfl (As := [.int (p1 - 1)]) (rest := [.ref (S + 1), .int (lnget (M.2 0) (lnget (M.2 7) p1))]) rfl (Nat.le_of_ble_eq_true rfl) ⟨Nat.le_of_ble_eq_true rfl, Nat.le_of_ble_eq_true rfl⟩ ⟨rfl, rfl⟩ ⟨Nat.zero_le _, Nat.zero_le _⟩ dX5_isWrong_30 ?_
    refine g_callVr hx (k_get l g (pS_l0 σ S M) (by decide) (lnget (M.2 7) (p1 - 1))) lk_X5_29 ar_Ln_get (pS_l0 σ S M).1 (T := TX2) (N := 2) rfl (As := [.int (lnget (M.2 7) (p1 - 1))]) (rest := [.int (lnget (M.2 0) (lnget (M.2 7) p1))]) rfl (Nat.le_of_ble_eq_true rfl) ⟨Nat.le_of_ble_eq_true rfl, Nat.le_of_ble_eq_true rfl⟩ ⟨rfl, rfl⟩ ⟨Nat.zero_le _, Nat.zero_le _⟩ dX5_isWrong_33 ?_
    refine g_icmp_ge hx 36 43 dX5_isWrong_36 (by decide) (fun hc_74 => ?_) (fun hc_74 => ?_)
    · have hr := (if_pos hc_74).symm.trans hr
      refine g_iconst hx 43 (0) dX5_isWrong_43 rfl ?_
      exact g_zret hx hR 44 (Or.inl rfl) dX5_isWrong_44 ⟨by rw [← hr] <;> rfl, rfl⟩
    · have hr := (if_neg hc_74).symm.trans hr
      refine g_iconst hx 39 (1) dX5_isWrong_39 rfl ?_
      refine g_goto hx 40 44 dX5_isWrong_40 (by decide) ?_
      exact g_zret hx hR 44 (Or.inr rfl) dX5_isWrong_44 ⟨by rw [← hr] <;> rfl, rfl⟩
theorem bo_Rw_isWrong (M : StM) (p1 : Int32) : Rw_isWrong M p1 = 0 ∨ Rw_isWrong M p1 = 1 := by
  unfold Rw_isWrong
  (repeat' split) <;> first | exact Or.inl rfl | exact Or.inr rfl
def Rw_wrongPairs_L4 (M : StM) : Nat → Int32 → Int32 → Option (Int32)
  | 0, _, _ => none
  | n + 1, v1_75, v2_76 => if nI (M.2 7).length ≤ v2_76 then (some (v1_75)) else (if Rw_isWrong M v2_76 = 0 then (Rw_wrongPairs_L4 M n v1_75 (v2_76 + 1)) else (Rw_wrongPairs_L4 M n (v1_75 + 1) (v2_76 + 1)))
def Rw_wrongPairs (M : StM) : Option (Int32) := Rw_wrongPairs_L4 M FU 0 1
set_option maxRecDepth 100000 in
set_option maxHeartbeats 4000000 in
theorem w_Rw_wrongPairs_L4 {X : Cx} {l : Launch} {g : Gl} (hx : Ok X l g RX5 cX5_wrongPairs 3 md_Rw_wrongPairs.rm) {σ : Hp} {S : Nat} {M : StM} {r : Int32} (hR : Ret X (rs (some (.int r)) (putSt σ S M)) 0 0 (some .int)) : ∀ (n : Nat) (v1_75 v2_76 : Int32), Rw_wrongPairs_L4 M n v1_75 v2_76 = some r → G X (putSt σ S M) 0 0 4 [(0, .ref (S + 15)), (1, .int v1_75), (2, .int v2_76)] [] := by
  intro n
  induction n with
  | zero =>
    intro v1_75 v2_76 hr
    rw [Rw_wrongPairs_L4] at hr
    cases hr
  | succ n ih =>
    intro v1_75 v2_76 hr
    rw [Rw_wrongPairs_L4] at hr
    refine g_iload_n hx 4 (i := 2) 2 dX5_wrongPairs_4 rfl rfl ?_
    refine g_aload_n hx 5 (i := 0) 0 dX5_wrongPairs_5 rfl rfl ?_
    refine g_get hx 6 (C := RX5) (T := TX5) (N := 4) 0 (.ref (S + 16)) (pS σ S M 15 (by decide)) rfl (by decide) rfl fl_X5_14 dX5_wrongPairs_6 ?_
    refine g_callVr hx (k_count l g (pS_l7 σ S M) (by decide) ) lk_X5_36 ar_Ln_count (pS_l7 σ S M).1 (T := TX2) (N := 2) rfl (As := []) (rest := [.int v2_76]) rfl (Nat.le_of_ble_eq_true rfl) ⟨Nat.le_of_ble_eq_true rfl, Nat.le_of_ble_eq_true rfl⟩ ⟨rfl, rfl⟩ ⟨Nat.zero_le _, Nat.zero_le _⟩ dX5_wrongPairs_9 ?_
    refine g_icmp_ge hx 12 32 dX5_wrongPairs_12 (by decide) (fun hc_77 => ?_) (fun hc_77 => ?_)
    · have hr := (if_pos hc_77).symm.trans hr
      refine g_iload_n hx 32 (i := 1) 1 dX5_wrongPairs_32 rfl rfl ?_
      exact g_iret hx hR 33 dX5_wrongPairs_33 ⟨by rw [← Option.some.inj hr] <;> rfl, rfl⟩
    · have hr := (if_neg hc_77).symm.trans hr
      refine g_aload_n hx 15 (i := 0) 0 dX5_wrongPairs_15 rfl rfl ?_
      refine g_iload_n hx 16 (i := 2) 2 dX5_wrongPairs_16 rfl rfl ?_
      refine g_callVr hx (c_Rw_isWrong l g σ S M v2_76 rfl) lk_X5_49 ar_Rw_isWrong (pS σ S M 15 (by decide)) (T := TX5) (N := 4) rfl (As := [.int v2_76]) (rest := []) rfl (Nat.le_of_ble_eq_true rfl) ⟨Nat.le_of_ble_eq_true rfl, Nat.le_of_ble_eq_true rfl⟩ ⟨rfl, rfl⟩ ⟨Nat.zero_le _, Nat.zero_le _⟩ dX5_wrongPairs_17 ?_
      refine g_if_eq hx 20 26 dX5_wrongPairs_20 (by decide) (fun hc_78 => ?_) (fun hc_78 => ?_)
      · have hr := (if_pos hc_78).symm.trans hr
        refine g_iinc hx 26 (i := 2) 2 (v2_76 + 1) [(2, .int (v2_76 + 1)), (0, .ref (S + 15)), (1, .int v1_75)] dX5_wrongPairs_26 rfl rfl (by decide) rfl ?_
        refine g_goto hx 29 4 dX5_wrongPairs_29 (by decide) ?_
        refine g_ls [1, 2, 0] [(0, .ref (S + 15)), (1, .int v1_75), (2, .int (v2_76 + 1))] rfl ?_
        exact ih v1_75 (v2_76 + 1) hr
      · have hr := (if_neg hc_78).symm.trans hr
        refine g_iinc hx 23 (i := 1) 1 (v1_75 + 1) [(1, .int (v1_75 + 1)), (0, .ref (S + 15)), (2, .int v2_76)] dX5_wrongPairs_23 rfl rfl (by decide) rfl ?_
        refine g_iinc hx 26 (i := 2) 2 (v2_76 + 1) [(2, .int (v2_76 + 1)), (1, .int (v1_75 + 1)), (0, .ref (S + 15))] dX5_wrongPairs_26 rfl rfl (by decide) rfl ?_
        refine g_goto hx 29 4 dX5_wrongPairs_29 (by decide) ?_
        refine g_ls [2, 1, 0] [(0, .ref (S + 15)), (1, .int (v1_75 + 1)), (2, .int (v2_76 + 1))] rfl ?_
        exact ih (v1_75 + 1) (v2_76 + 1) hr
set_option maxRecDepth 100000 in
set_option maxHeartbeats 4000000 in
theorem c_Rw_wrongPairs (l : Launch) (g : Gl) (σ : Hp) (S : Nat) (M : StM) {r : Int32} (hr : Rw_wrongPairs M = some r) : MG l g md_Rw_wrongPairs [.ref (S + 15)] (putSt σ S M) (rs (some (.int r)) (putSt σ S M)) := by
  refine MG.intro (by decide +kernel) (Nat.le_of_ble_eq_true rfl) (fun X hx hR _ => ?_)
  unfold Rw_wrongPairs at hr
  refine g_ls [0] [(0, .ref (S + 15))] rfl ?_
  refine g_iconst hx 0 (0) dX5_wrongPairs_0 rfl ?_
  refine g_istore_n hx 1 (i := 1) [(1, .int 0), (0, .ref (S + 15))] dX5_wrongPairs_1 rfl (by decide) rfl ?_
  refine g_iconst hx 2 (1) dX5_wrongPairs_2 rfl ?_
  refine g_istore_n hx 3 (i := 2) [(2, .int 1), (1, .int 0), (0, .ref (S + 15))] dX5_wrongPairs_3 rfl (by decide) rfl ?_
  refine g_ls [2, 1, 0] [(0, .ref (S + 15)), (1, .int 0), (2, .int 1)] rfl ?_
  exact w_Rw_wrongPairs_L4 hx hR FU 0 1 hr
def Rw_pairsInWrongOrder_L24 (M : StM) (k : Int32 → Int32 → Int32 → Int32 → Option (Int32)) : Nat → Int32 → Int32 → Int32 → Int32 → Option (Int32)
  | 0, _, _, _, _ => none
  | n + 1, v1_83, v2_84, v3_85, v4_86 => if v2_84 ≤ v4_86 then (k v1_83 v2_84 v3_85 v4_86) else (if Rw_markAt M v4_86 ≤ v3_85 then (Rw_pairsInWrongOrder_L24 M k n v1_83 v2_84 v3_85 (v4_86 + 1)) else (Rw_pairsInWrongOrder_L24 M k n (v1_83 + 1) v2_84 v3_85 (v4_86 + 1)))
def Rw_pairsInWrongOrder_L4 (M : StM) : Nat → Int32 → Int32 → Option (Int32)
  | 0, _, _ => none
  | n + 1, v1_79, v2_80 => if nI (M.2 7).length ≤ v2_80 then (some (v1_79)) else (lt' (Rw_markAt M v2_80) fun v3_82 => Rw_pairsInWrongOrder_L24 M (fun v1_93 v2_94 v3_95 v4_96 => Rw_pairsInWrongOrder_L4 M n v1_93 (v2_94 + 1)) FU v1_79 v2_80 v3_82 0)
def Rw_pairsInWrongOrder (M : StM) : Option (Int32) := Rw_pairsInWrongOrder_L4 M FU 0 1
set_option maxRecDepth 100000 in
set_option maxHeartbeats 4000000 in
theorem w_Rw_pairsInWrongOrder_L24 {X : Cx} {l : Launch} {g : Gl} (hx : Ok X l g RX5 cX5_pairsInWrongOrder 5 md_Rw_pairsInWrongOrder.rm) {σ : Hp} {S : Nat} {M : StM} {r : Int32} (hR : Ret X (rs (some (.int r)) (putSt σ S M)) 0 0 (some .int)) (k : Int32 → Int32 → Int32 → Int32 → Option (Int32)) (hk : ∀ (w1_89 w2_90 w3_91 w4_92 : Int32), k w1_89 w2_90 w3_91 w4_92 = some r → G X (putSt σ S M) 0 0 49 [(0, .ref (S + 15)), (1, .int w1_89), (2, .int w2_90), (3, .int w3_91), (4, .int w4_92)] []) : ∀ (n : Nat) (v1_83 v2_84 v3_85 v4_86 : Int32), Rw_pairsInWrongOrder_L24 M k n v1_83 v2_84 v3_85 v4_86 = some r → G X (putSt σ S M) 0 0 24 [(0, .ref (S + 15)), (1, .int v1_83), (2, .int v2_84), (3, .int v3_85), (4, .int v4_86)] [] := by
  intro n
  induction n with
  | zero =>
    intro v1_83 v2_84 v3_85 v4_86 hr
    rw [Rw_pairsInWrongOrder_L24] at hr
    cases hr
  | succ n ih =>
    intro v1_83 v2_84 v3_85 v4_86 hr
    rw [Rw_pairsInWrongOrder_L24] at hr
    refine g_iload hx 24 (i := 4) 4 dX5_pairsInWrongOrder_24 rfl ?_
    refine g_iload_n hx 26 (i := 2) 2 dX5_pairsInWrongOrder_26 rfl rfl ?_
    refine g_icmp_ge hx 27 49 dX5_pairsInWrongOrder_27 (by decide) (fun hc_87 => ?_) (fun hc_87 => ?_)
    · have hr := (if_pos hc_87).symm.trans hr
      refine g_ls [0, 1, 2, 3, 4] [(0, .ref (S + 15)), (1, .int v1_83), (2, .int v2_84), (3, .int v3_85), (4, .int v4_86)] rfl ?_
      exact hk v1_83 v2_84 v3_85 v4_86 hr
    · have hr := (if_neg hc_87).symm.trans hr
      refine g_iload_n hx 30 (i := 3) 3 dX5_pairsInWrongOrder_30 rfl rfl ?_
      refine g_aload_n hx 31 (i := 0) 0 dX5_pairsInWrongOrder_31 rfl rfl ?_
      refine g_iload hx 32 (i := 4) 4 dX5_pairsInWrongOrder_32 rfl ?_
      refine g_callVr hx (c_Rw_markAt l g σ S M v4_86 rfl) lk_X5_43 ar_Rw_markAt (pS σ S M 15 (by decide)) (T := TX5) (N := 4) rfl (As := [.int v4_86]) (rest := [.int v3_85]) rfl (Nat.le_of_ble_eq_true rfl) ⟨Nat.le_of_ble_eq_true rfl, Nat.le_of_ble_eq_true rfl⟩ ⟨rfl, rfl⟩ ⟨Nat.zero_le _, Nat.zero_le _⟩ dX5_pairsInWrongOrder_34 ?_
      refine g_icmp_ge hx 37 43 dX5_pairsInWrongOrder_37 (by decide) (fun hc_88 => ?_) (fun hc_88 => ?_)
      · have hr := (if_pos hc_88).symm.trans hr
        refine g_iinc hx 43 (i := 4) 4 (v4_86 + 1) [(4, .int (v4_86 + 1)), (0, .ref (S + 15)), (1, .int v1_83), (2, .int v2_84), (3, .int v3_85)] dX5_pairsInWrongOrder_43 rfl rfl (by decide) rfl ?_
        refine g_goto hx 46 24 dX5_pairsInWrongOrder_46 (by decide) ?_
        refine g_ls [1, 2, 3, 4, 0] [(0, .ref (S + 15)), (1, .int v1_83), (2, .int v2_84), (3, .int v3_85), (4, .int (v4_86 + 1))] rfl ?_
        exact ih v1_83 v2_84 v3_85 (v4_86 + 1) hr
      · have hr := (if_neg hc_88).symm.trans hr
        refine g_iinc hx 40 (i := 1) 1 (v1_83 + 1) [(1, .int (v1_83 + 1)), (0, .ref (S + 15)), (2, .int v2_84), (3, .int v3_85), (4, .int v4_86)] dX5_pairsInWrongOrder_40 rfl rfl (by decide) rfl ?_
        refine g_iinc hx 43 (i := 4) 4 (v4_86 + 1) [(4, .int (v4_86 + 1)), (1, .int (v1_83 + 1)), (0, .ref (S + 15)), (2, .int v2_84), (3, .int v3_85)] dX5_pairsInWrongOrder_43 rfl rfl (by decide) rfl ?_
        refine g_goto hx 46 24 dX5_pairsInWrongOrder_46 (by decide) ?_
        refine g_ls [2, 1, 3, 4, 0] [(0, .ref (S + 15)), (1, .int (v1_83 + 1)), (2, .int v2_84), (3, .int v3_85), (4, .int (v4_86 + 1))] rfl ?_
        exact ih (v1_83 + 1) v2_84 v3_85 (v4_86 + 1) hr
set_option maxRecDepth 100000 in
set_option maxHeartbeats 4000000 in
theorem w_Rw_pairsInWrongOrder_L4 {X : Cx} {l : Launch} {g : Gl} (hx : Ok X l g RX5 cX5_pairsInWrongOrder 5 md_Rw_pairsInWrongOrder.rm) {σ : Hp} {S : Nat} {M : StM} {r : Int32} (hR : Ret X (rs (some (.int r)) (putSt σ S M)) 0 0 (some .int)) : ∀ (n : Nat) (v1_79 v2_80 : Int32), Rw_pairsInWrongOrder_L4 M n v1_79 v2_80 = some r → G X (putSt σ S M) 0 0 4 [(0, .ref (S + 15)), (1, .int v1_79), (2, .int v2_80)] [] := by
  intro n
  induction n with
  | zero =>
    intro v1_79 v2_80 hr
    rw [Rw_pairsInWrongOrder_L4] at hr
    cases hr
  | succ n ih =>
    intro v1_79 v2_80 hr
    rw [Rw_pairsInWrongOrder_L4] at hr
    refine g_iload_n hx 4 (i := 2) 2 dX5_pairsInWrongOrder_4 rfl rfl ?_
    refine g_aload_n hx 5 (i := 0) 0 dX5_pairsInWrongOrder_5 rfl rfl ?_
    refine g_get hx 6 (C := RX5) (T := TX5) (N := 4) 0 (.ref (S + 16)) (pS σ S M 15 (by decide)) rfl (by decide) rfl fl_X5_14 dX5_pairsInWrongOrder_6 ?_
    refine g_callVr hx (k_count l g (pS_l7 σ S M) (by decide) ) lk_X5_36 ar_Ln_count (pS_l7 σ S M).1 (T := TX2) (N := 2) rfl (As := []) (rest := [.int v2_80]) rfl (Nat.le_of_ble_eq_true rfl) ⟨Nat.le_of_ble_eq_true rfl, Nat.le_of_ble_eq_true rfl⟩ ⟨rfl, rfl⟩ ⟨Nat.zero_le _, Nat.zero_le _⟩ dX5_pairsInWrongOrder_9 ?_
    refine g_icmp_ge hx 12 55 dX5_pairsInWrongOrder_12 (by decide) (fun hc_81 => ?_) (fun hc_81 => ?_)
    · have hr := (if_pos hc_81).symm.trans hr
      refine g_iload_n hx 55 (i := 1) 1 dX5_pairsInWrongOrder_55 rfl rfl ?_
      exact g_iret hx hR 56 dX5_pairsInWrongOrder_56 ⟨by rw [← Option.some.inj hr] <;> rfl, rfl⟩
    · have hr := (if_neg hc_81).symm.trans hr
      refine g_aload_n hx 15 (i := 0) 0 dX5_pairsInWrongOrder_15 rfl rfl ?_
      refine g_iload_n hx 16 (i := 2) 2 dX5_pairsInWrongOrder_16 rfl rfl ?_
      refine g_callVr hx (c_Rw_markAt l g σ S M v2_80 rfl) lk_X5_43 ar_Rw_markAt (pS σ S M 15 (by decide)) (T := TX5) (N := 4) rfl (As := [.int v2_80]) (rest := []) rfl (Nat.le_of_ble_eq_true rfl) ⟨Nat.le_of_ble_eq_true rfl, Nat.le_of_ble_eq_true rfl⟩ ⟨rfl, rfl⟩ ⟨Nat.zero_le _, Nat.zero_le _⟩ dX5_pairsInWrongOrder_17 ?_
      obtain ⟨v3_82, ev3_82, hr⟩ := lt'_e hr
      refine g_nmi ev3_82 ?_
      refine g_istore_n hx 20 (i := 3) [(3, .int v3_82), (0, .ref (S + 15)), (1, .int v1_79), (2, .int v2_80)] dX5_pairsInWrongOrder_20 rfl (by decide) rfl ?_
      refine g_iconst hx 21 (0) dX5_pairsInWrongOrder_21 rfl ?_
      refine g_istore hx 22 (i := 4) [(4, .int 0), (3, .int v3_82), (0, .ref (S + 15)), (1, .int v1_79), (2, .int v2_80)] dX5_pairsInWrongOrder_22 (by decide) rfl ?_
      refine g_ls [2, 3, 4, 1, 0] [(0, .ref (S + 15)), (1, .int v1_79), (2, .int v2_80), (3, .int v3_82), (4, .int 0)] rfl ?_
      refine w_Rw_pairsInWrongOrder_L24 hx hR _ (fun v1_93 v2_94 v3_95 v4_96 hr => ?_) FU v1_79 v2_80 v3_82 0 hr
      refine g_iinc hx 49 (i := 2) 2 (v2_94 + 1) [(2, .int (v2_94 + 1)), (0, .ref (S + 15)), (1, .int v1_93), (3, .int v3_95), (4, .int v4_96)] dX5_pairsInWrongOrder_49 rfl rfl (by decide) rfl ?_
      refine g_goto hx 52 4 dX5_pairsInWrongOrder_52 (by decide) ?_
      refine g_ls [1, 2, 0] [(0, .ref (S + 15)), (1, .int v1_93), (2, .int (v2_94 + 1))] rfl ?_
      exact ih v1_93 (v2_94 + 1) hr
set_option maxRecDepth 100000 in
set_option maxHeartbeats 4000000 in
theorem c_Rw_pairsInWrongOrder (l : Launch) (g : Gl) (σ : Hp) (S : Nat) (M : StM) {r : Int32} (hr : Rw_pairsInWrongOrder M = some r) : MG l g md_Rw_pairsInWrongOrder [.ref (S + 15)] (putSt σ S M) (rs (some (.int r)) (putSt σ S M)) := by
  refine MG.intro (by decide +kernel) (Nat.le_of_ble_eq_true rfl) (fun X hx hR _ => ?_)
  unfold Rw_pairsInWrongOrder at hr
  refine g_ls [0] [(0, .ref (S + 15))] rfl ?_
  refine g_iconst hx 0 (0) dX5_pairsInWrongOrder_0 rfl ?_
  refine g_istore_n hx 1 (i := 1) [(1, .int 0), (0, .ref (S + 15))] dX5_pairsInWrongOrder_1 rfl (by decide) rfl ?_
  refine g_iconst hx 2 (1) dX5_pairsInWrongOrder_2 rfl ?_
  refine g_istore_n hx 3 (i := 2) [(2, .int 1), (1, .int 0), (0, .ref (S + 15))] dX5_pairsInWrongOrder_3 rfl (by decide) rfl ?_
  refine g_ls [2, 1, 0] [(0, .ref (S + 15)), (1, .int 0), (2, .int 1)] rfl ?_
  exact w_Rw_pairsInWrongOrder_L4 hx hR FU 0 1 hr
def Rw_longestRun_L27 (k : StM → Int32 → Int32 → Int32 → Int32 → Option (Int32 × StM)) : Nat → StM → Int32 → Int32 → Int32 → Int32 → Option (Int32 × StM)
  | 0, _, _, _, _, _ => none
  | n + 1, M, v1_100, v2_101, v3_102, v4_103 => if v2_101 ≤ v4_103 then (k M v1_100 v2_101 v3_102 v4_103) else (if Rw_markAt M v2_101 ≤ Rw_markAt M v4_103 then (Rw_longestRun_L27 k n M v1_100 v2_101 v3_102 (v4_103 + 1)) else (lt' (if v3_102 < lnget (M.2 9) v4_103 then lnget (M.2 9) v4_103 else v3_102) fun v3_106 => Rw_longestRun_L27 k n M v1_100 v2_101 v3_106 (v4_103 + 1)))
def Rw_longestRun_L11 : Nat → StM → Int32 → Int32 → Option (Int32 × StM)
  | 0, _, _, _ => none
  | n + 1, M, v1_97, v2_98 => if nI (M.2 7).length ≤ v2_98 then (some ((v1_97, M))) else (Rw_longestRun_L27 (fun M_115 v1_111 v2_112 v3_113 v4_114 => lt' (if v1_111 < v3_113 + 1 then v3_113 + 1 else v1_111) fun v1_116 => Rw_longestRun_L11 n (setL M_115 9 (lnadd 24 (M_115.2 9) (v3_113 + 1))) v1_116 (v2_112 + 1)) FU M v1_97 v2_98 0 0)
def Rw_longestRun (M : StM) : Option (Int32 × StM) := Rw_longestRun_L11 FU (setL M 9 ([])) 0 0
set_option maxRecDepth 100000 in
set_option maxHeartbeats 4000000 in
theorem w_Rw_longestRun_L27 {X : Cx} {l : Launch} {g : Gl} (hx : Ok X l g RX5 cX5_longestRun 5 md_Rw_longestRun.rm) {σ : Hp} {S : Nat} {r : Int32 × StM} (hR : Ret X (rs (some (.int r.1)) (putSt σ S r.2)) 0 0 (some .int)) (k : StM → Int32 → Int32 → Int32 → Int32 → Option (Int32 × StM)) (hk : ∀ (M : StM) (w1_107 w2_108 w3_109 w4_110 : Int32), k M w1_107 w2_108 w3_109 w4_110 = some r → G X (putSt σ S M) 0 0 67 [(0, .ref (S + 15)), (1, .int w1_107), (2, .int w2_108), (3, .int w3_109), (4, .int w4_110)] []) : ∀ (n : Nat) (M : StM) (v1_100 v2_101 v3_102 v4_103 : Int32), Rw_longestRun_L27 k n M v1_100 v2_101 v3_102 v4_103 = some r → G X (putSt σ S M) 0 0 27 [(0, .ref (S + 15)), (1, .int v1_100), (2, .int v2_101), (3, .int v3_102), (4, .int v4_103)] [] := by
  intro n
  induction n with
  | zero =>
    intro M v1_100 v2_101 v3_102 v4_103 hr
    rw [Rw_longestRun_L27] at hr
    cases hr
  | succ n ih =>
    intro M v1_100 v2_101 v3_102 v4_103 hr
    rw [Rw_longestRun_L27] at hr
    refine g_iload hx 27 (i := 4) 4 dX5_longestRun_27 rfl ?_
    refine g_iload_n hx 29 (i := 2) 2 dX5_longestRun_29 rfl rfl ?_
    refine g_icmp_ge hx 30 67 dX5_longestRun_30 (by decide) (fun hc_104 => ?_) (fun hc_104 => ?_)
    · have hr := (if_pos hc_104).symm.trans hr
      refine g_ls [0, 1, 2, 3, 4] [(0, .ref (S + 15)), (1, .int v1_100), (2, .int v2_101), (3, .int v3_102), (4, .int v4_103)] rfl ?_
      exact hk M v1_100 v2_101 v3_102 v4_103 hr
    · have hr := (if_neg hc_104).symm.trans hr
      refine g_aload_n hx 33 (i := 0) 0 dX5_longestRun_33 rfl rfl ?_
      refine g_iload hx 34 (i := 4) 4 dX5_longestRun_34 rfl ?_
      refine g_callVr hx (c_Rw_markAt l g σ S M v4_103 rfl) lk_X5_43 ar_Rw_markAt (pS σ S M 15 (by decide)) (T := TX5) (N := 4) rfl (As := [.int v4_103]) (rest := []) rfl (Nat.le_of_ble_eq_true rfl) ⟨Nat.le_of_ble_eq_true rfl, Nat.le_of_ble_eq_true rfl⟩ ⟨rfl, rfl⟩ ⟨Nat.zero_le _, Nat.zero_le _⟩ dX5_longestRun_36 ?_
      refine g_aload_n hx 39 (i := 0) 0 dX5_longestRun_39 rfl rfl ?_
      refine g_iload_n hx 40 (i := 2) 2 dX5_longestRun_40 rfl rfl ?_
      refine g_callVr hx (c_Rw_markAt l g σ S M v2_101 rfl) lk_X5_43 ar_Rw_markAt (pS σ S M 15 (by decide)) (T := TX5) (N := 4) rfl (As := [.int v2_101]) (rest := [.int (Rw_markAt M v4_103)]) rfl (Nat.le_of_ble_eq_true rfl) ⟨Nat.le_of_ble_eq_true rfl, Nat.le_of_ble_eq_true rfl⟩ ⟨rfl, rfl⟩ ⟨Nat.zero_le _, Nat.zero_le _⟩ dX5_longestRun_41 ?_
      refine g_icmp_ge hx 44 61 dX5_longestRun_44 (by decide) (fun hc_105 => ?_) (fun hc_105 => ?_)
      · have hr := (if_pos hc_105).symm.trans hr
        refine g_iinc hx 61 (i := 4) 4 (v4_103 + 1) [(4, .int (v4_103 + 1)), (0, .ref (S + 15)), (1, .int v1_100), (2, .int v2_101), (3, .int v3_102)] dX5_longestRun_61 rfl rfl (by decide) rfl ?_
        refine g_goto hx 64 27 dX5_longestRun_64 (by decide) ?_
        refine g_ls [1, 2, 3, 4, 0] [(0, .ref (S + 15)), (1, .int v1_100), (2, .int v2_101), (3, .int v3_102), (4, .int (v4_103 + 1))] rfl ?_
        exact ih M v1_100 v2_101 v3_102 (v4_103 + 1) hr
      · have hr := (if_neg hc_105).symm.trans hr
        refine g_iload_n hx 47 (i := 3) 3 dX5_longestRun_47 rfl rfl ?_
        refine g_aload_n hx 48 (i := 0) 0 dX5_longestRun_48 rfl rfl ?_
        refine g_get hx 49 (C := RX5) (T := TX5) (N := 4) 2 (.ref (S + 20)) (pS σ S M 15 (by decide)) rfl (by decide) rfl fl_X5_23 dX5_longestRun_49 ?_
        refine g_iload hx 52 (i := 4) 4 dX5_longestRun_52 rfl ?_
        refine g_callVr hx (k_get l g (pS_l9 σ S M) (by decide) v4_103) lk_X5_29 ar_Ln_get (pS_l9 σ S M).1 (T := TX2) (N := 2) rfl (As := [.int v4_103]) (rest := [.int v3_102]) rfl (Nat.le_of_ble_eq_true rfl) ⟨Nat.le_of_ble_eq_true rfl, Nat.le_of_ble_eq_true rfl⟩ ⟨rfl, rfl⟩ ⟨Nat.zero_le _, Nat.zero_le _⟩ dX5_longestRun_54 ?_
        refine g_mmax hx 57 mw_X5_53 (Nat.le_of_ble_eq_true rfl) ⟨Nat.le_of_ble_eq_true rfl, Nat.le_of_ble_eq_true rfl⟩ ⟨Nat.zero_le _, Nat.zero_le _⟩ dX5_longestRun_57 ?_
        obtain ⟨v3_106, ev3_106, hr⟩ := lt'_e hr
        refine g_nmi ev3_106 ?_
        refine g_istore_n hx 60 (i := 3) [(3, .int v3_106), (0, .ref (S + 15)), (1, .int v1_100), (2, .int v2_101), (4, .int v4_103)] dX5_longestRun_60 rfl (by decide) rfl ?_
        refine g_iinc hx 61 (i := 4) 4 (v4_103 + 1) [(4, .int (v4_103 + 1)), (3, .int v3_106), (0, .ref (S + 15)), (1, .int v1_100), (2, .int v2_101)] dX5_longestRun_61 rfl rfl (by decide) rfl ?_
        refine g_goto hx 64 27 dX5_longestRun_64 (by decide) ?_
        refine g_ls [2, 3, 4, 1, 0] [(0, .ref (S + 15)), (1, .int v1_100), (2, .int v2_101), (3, .int v3_106), (4, .int (v4_103 + 1))] rfl ?_
        exact ih M v1_100 v2_101 v3_106 (v4_103 + 1) hr
set_option maxRecDepth 100000 in
set_option maxHeartbeats 4000000 in
theorem w_Rw_longestRun_L11 {X : Cx} {l : Launch} {g : Gl} (hx : Ok X l g RX5 cX5_longestRun 5 md_Rw_longestRun.rm) {σ : Hp} {S : Nat} {r : Int32 × StM} (hR : Ret X (rs (some (.int r.1)) (putSt σ S r.2)) 0 0 (some .int)) : ∀ (n : Nat) (M : StM) (v1_97 v2_98 : Int32), Rw_longestRun_L11 n M v1_97 v2_98 = some r → G X (putSt σ S M) 0 0 11 [(0, .ref (S + 15)), (1, .int v1_97), (2, .int v2_98)] [] := by
  intro n
  induction n with
  | zero =>
    intro M v1_97 v2_98 hr
    rw [Rw_longestRun_L11] at hr
    cases hr
  | succ n ih =>
    intro M v1_97 v2_98 hr
    rw [Rw_longestRun_L11] at hr
    refine g_iload_n hx 11 (i := 2) 2 dX5_longestRun_11 rfl rfl ?_
    refine g_aload_n hx 12 (i := 0) 0 dX5_longestRun_12 rfl rfl ?_
    refine g_get hx 13 (C := RX5) (T := TX5) (N := 4) 0 (.ref (S + 16)) (pS σ S M 15 (by decide)) rfl (by decide) rfl fl_X5_14 dX5_longestRun_13 ?_
    refine g_callVr hx (k_count l g (pS_l7 σ S M) (by decide) ) lk_X5_36 ar_Ln_count (pS_l7 σ S M).1 (T := TX2) (N := 2) rfl (As := []) (rest := [.int v2_98]) rfl (Nat.le_of_ble_eq_true rfl) ⟨Nat.le_of_ble_eq_true rfl, Nat.le_of_ble_eq_true rfl⟩ ⟨rfl, rfl⟩ ⟨Nat.zero_le _, Nat.zero_le _⟩ dX5_longestRun_16 ?_
    refine g_icmp_ge hx 19 91 dX5_longestRun_19 (by decide) (fun hc_99 => ?_) (fun hc_99 => ?_)
    · have hr := (if_pos hc_99).symm.trans hr
      refine g_iload_n hx 91 (i := 1) 1 dX5_longestRun_91 rfl rfl ?_
      exact g_iret hx hR 92 dX5_longestRun_92 ⟨by rw [← Option.some.inj hr] <;> rfl, by rw [← Option.some.inj hr] <;> rfl⟩
    · have hr := (if_neg hc_99).symm.trans hr
      refine g_iconst hx 22 (0) dX5_longestRun_22 rfl ?_
      refine g_istore_n hx 23 (i := 3) [(3, .int 0), (0, .ref (S + 15)), (1, .int v1_97), (2, .int v2_98)] dX5_longestRun_23 rfl (by decide) rfl ?_
      refine g_iconst hx 24 (0) dX5_longestRun_24 rfl ?_
      refine g_istore hx 25 (i := 4) [(4, .int 0), (3, .int 0), (0, .ref (S + 15)), (1, .int v1_97), (2, .int v2_98)] dX5_longestRun_25 (by decide) rfl ?_
      refine g_ls [2, 3, 4, 1, 0] [(0, .ref (S + 15)), (1, .int v1_97), (2, .int v2_98), (3, .int 0), (4, .int 0)] rfl ?_
      refine w_Rw_longestRun_L27 hx hR _ (fun M_115 v1_111 v2_112 v3_113 v4_114 hr => ?_) FU M v1_97 v2_98 0 0 hr
      refine g_aload_n hx 67 (i := 0) 0 dX5_longestRun_67 rfl rfl ?_
      refine g_get hx 68 (C := RX5) (T := TX5) (N := 4) 2 (.ref (S + 20)) (pS σ S M_115 15 (by decide)) rfl (by decide) rfl fl_X5_23 dX5_longestRun_68 ?_
      refine g_iload_n hx 71 (i := 3) 3 dX5_longestRun_71 rfl rfl ?_
      refine g_iconst hx 72 (1) dX5_longestRun_72 rfl ?_
      refine g_iadd hx 73 dX5_longestRun_73 ?_
      refine g_callVv hx (k_add l g (pS_l9 σ S M_115) (by decide) (v3_113 + 1)) lk_X5_40 ar_Ln_add (pS_l9 σ S M_115).1 (T := TX2) (N := 2) rfl (As := [.int (v3_113 + 1)]) (rest := []) rfl (Nat.le_of_ble_eq_true rfl) ⟨Nat.le_of_ble_eq_true rfl, Nat.le_of_ble_eq_true rfl⟩ ⟨rfl, rfl⟩ ⟨Nat.zero_le _, Nat.zero_le _⟩ dX5_longestRun_74 ?_
      refine G.heap (pS_p9 σ S M_115 (lnadd 24 (M_115.2 9) (v3_113 + 1))) ?_
      refine g_iload_n hx 77 (i := 1) 1 dX5_longestRun_77 rfl rfl ?_
      refine g_iload_n hx 78 (i := 3) 3 dX5_longestRun_78 rfl rfl ?_
      refine g_iconst hx 79 (1) dX5_longestRun_79 rfl ?_
      refine g_iadd hx 80 dX5_longestRun_80 ?_
      refine g_mmax hx 81 mw_X5_53 (Nat.le_of_ble_eq_true rfl) ⟨Nat.le_of_ble_eq_true rfl, Nat.le_of_ble_eq_true rfl⟩ ⟨Nat.zero_le _, Nat.zero_le _⟩ dX5_longestRun_81 ?_
      obtain ⟨v1_116, ev1_116, hr⟩ := lt'_e hr
      refine g_nmi ev1_116 ?_
      refine g_istore_n hx 84 (i := 1) [(1, .int v1_116), (0, .ref (S + 15)), (2, .int v2_112), (3, .int v3_113), (4, .int v4_114)] dX5_longestRun_84 rfl (by decide) rfl ?_
      refine g_iinc hx 85 (i := 2) 2 (v2_112 + 1) [(2, .int (v2_112 + 1)), (1, .int v1_116), (0, .ref (S + 15)), (3, .int v3_113), (4, .int v4_114)] dX5_longestRun_85 rfl rfl (by decide) rfl ?_
      refine g_goto hx 88 11 dX5_longestRun_88 (by decide) ?_
      refine g_ls [2, 1, 0] [(0, .ref (S + 15)), (1, .int v1_116), (2, .int (v2_112 + 1))] rfl ?_
      exact ih (setL M_115 9 (lnadd 24 (M_115.2 9) (v3_113 + 1))) v1_116 (v2_112 + 1) hr
set_option maxRecDepth 100000 in
set_option maxHeartbeats 4000000 in
theorem c_Rw_longestRun (l : Launch) (g : Gl) (σ : Hp) (S : Nat) (M : StM) {r : Int32 × StM} (hr : Rw_longestRun M = some r) : MG l g md_Rw_longestRun [.ref (S + 15)] (putSt σ S M) (rs (some (.int r.1)) (putSt σ S r.2)) := by
  refine MG.intro (by decide +kernel) (Nat.le_of_ble_eq_true rfl) (fun X hx hR _ => ?_)
  unfold Rw_longestRun at hr
  refine g_ls [0] [(0, .ref (S + 15))] rfl ?_
  refine g_iconst hx 0 (0) dX5_longestRun_0 rfl ?_
  refine g_istore_n hx 1 (i := 1) [(1, .int 0), (0, .ref (S + 15))] dX5_longestRun_1 rfl (by decide) rfl ?_
  refine g_aload_n hx 2 (i := 0) 1 dX5_longestRun_2 rfl rfl ?_
  refine g_get hx 3 (C := RX5) (T := TX5) (N := 4) 2 (.ref (S + 20)) (pS σ S M 15 (by decide)) rfl (by decide) rfl fl_X5_23 dX5_longestRun_3 ?_
  refine g_callVv hx (k_clear l g (pS_l9 σ S M) (by decide)) lk_X5_33 ar_Ln_clear (pS_l9 σ S M).1 (T := TX2) (N := 2) rfl (As := []) (rest := []) rfl (Nat.le_of_ble_eq_true rfl) ⟨Nat.le_of_ble_eq_true rfl, Nat.le_of_ble_eq_true rfl⟩ ⟨rfl, rfl⟩ ⟨Nat.zero_le _, Nat.zero_le _⟩ dX5_longestRun_6 ?_
  refine G.heap (pS_p9 σ S M ([])) ?_
  refine g_iconst hx 9 (0) dX5_longestRun_9 rfl ?_
  refine g_istore_n hx 10 (i := 2) [(2, .int 0), (1, .int 0), (0, .ref (S + 15))] dX5_longestRun_10 rfl (by decide) rfl ?_
  refine g_ls [2, 1, 0] [(0, .ref (S + 15)), (1, .int 0), (2, .int 0)] rfl ?_
  exact w_Rw_longestRun_L11 hx hR FU (setL M 9 ([])) 0 0 hr
def Rw_placeInOrder_L4 (M : StM) : Nat → Int32 → Int32 → Int32 → Option (Int32)
  | 0, _, _, _ => none
  | n + 1, v1_117, v2_118, v3_119 => if nI (M.2 7).length ≤ v3_119 then (some (v2_118)) else (if v1_117 ≤ Rw_markAt M v3_119 then (Rw_placeInOrder_L4 M n v1_117 v2_118 (v3_119 + 1)) else (Rw_placeInOrder_L4 M n v1_117 (v2_118 + 1) (v3_119 + 1)))
def Rw_placeInOrder (M : StM) (p1 : Int32) : Option (Int32) := Rw_placeInOrder_L4 M FU p1 0 0
set_option maxRecDepth 100000 in
set_option maxHeartbeats 4000000 in
theorem w_Rw_placeInOrder_L4 {X : Cx} {l : Launch} {g : Gl} (hx : Ok X l g RX5 cX5_placeInOrder 4 md_Rw_placeInOrder.rm) {σ : Hp} {S : Nat} {M : StM} {r : Int32} (hR : Ret X (rs (some (.int r)) (putSt σ S M)) 0 0 (some .int)) : ∀ (n : Nat) (v1_117 v2_118 v3_119 : Int32), Rw_placeInOrder_L4 M n v1_117 v2_118 v3_119 = some r → G X (putSt σ S M) 0 0 4 [(0, .ref (S + 15)), (1, .int v1_117), (2, .int v2_118), (3, .int v3_119)] [] := by
  intro n
  induction n with
  | zero =>
    intro v1_117 v2_118 v3_119 hr
    rw [Rw_placeInOrder_L4] at hr
    cases hr
  | succ n ih =>
    intro v1_117 v2_118 v3_119 hr
    rw [Rw_placeInOrder_L4] at hr
    refine g_iload_n hx 4 (i := 3) 3 dX5_placeInOrder_4 rfl rfl ?_
    refine g_aload_n hx 5 (i := 0) 0 dX5_placeInOrder_5 rfl rfl ?_
    refine g_get hx 6 (C := RX5) (T := TX5) (N := 4) 0 (.ref (S + 16)) (pS σ S M 15 (by decide)) rfl (by decide) rfl fl_X5_14 dX5_placeInOrder_6 ?_
    refine g_callVr hx (k_count l g (pS_l7 σ S M) (by decide) ) lk_X5_36 ar_Ln_count (pS_l7 σ S M).1 (T := TX2) (N := 2) rfl (As := []) (rest := [.int v3_119]) rfl (Nat.le_of_ble_eq_true rfl) ⟨Nat.le_of_ble_eq_true rfl, Nat.le_of_ble_eq_true rfl⟩ ⟨rfl, rfl⟩ ⟨Nat.zero_le _, Nat.zero_le _⟩ dX5_placeInOrder_9 ?_
    refine g_icmp_ge hx 12 33 dX5_placeInOrder_12 (by decide) (fun hc_120 => ?_) (fun hc_120 => ?_)
    · have hr := (if_pos hc_120).symm.trans hr
      refine g_iload_n hx 33 (i := 2) 2 dX5_placeInOrder_33 rfl rfl ?_
      exact g_iret hx hR 34 dX5_placeInOrder_34 ⟨by rw [← Option.some.inj hr] <;> rfl, rfl⟩
    · have hr := (if_neg hc_120).symm.trans hr
      refine g_aload_n hx 15 (i := 0) 0 dX5_placeInOrder_15 rfl rfl ?_
      refine g_iload_n hx 16 (i := 3) 3 dX5_placeInOrder_16 rfl rfl ?_
      refine g_callVr hx (c_Rw_markAt l g σ S M v3_119 rfl) lk_X5_43 ar_Rw_markAt (pS σ S M 15 (by decide)) (T := TX5) (N := 4) rfl (As := [.int v3_119]) (rest := []) rfl (Nat.le_of_ble_eq_true rfl) ⟨Nat.le_of_ble_eq_true rfl, Nat.le_of_ble_eq_true rfl⟩ ⟨rfl, rfl⟩ ⟨Nat.zero_le _, Nat.zero_le _⟩ dX5_placeInOrder_17 ?_
      refine g_iload_n hx 20 (i := 1) 1 dX5_placeInOrder_20 rfl rfl ?_
      refine g_icmp_ge hx 21 27 dX5_placeInOrder_21 (by decide) (fun hc_121 => ?_) (fun hc_121 => ?_)
      · have hr := (if_pos hc_121).symm.trans hr
        refine g_iinc hx 27 (i := 3) 3 (v3_119 + 1) [(3, .int (v3_119 + 1)), (0, .ref (S + 15)), (1, .int v1_117), (2, .int v2_118)] dX5_placeInOrder_27 rfl rfl (by decide) rfl ?_
        refine g_goto hx 30 4 dX5_placeInOrder_30 (by decide) ?_
        refine g_ls [1, 2, 3, 0] [(0, .ref (S + 15)), (1, .int v1_117), (2, .int v2_118), (3, .int (v3_119 + 1))] rfl ?_
        exact ih v1_117 v2_118 (v3_119 + 1) hr
      · have hr := (if_neg hc_121).symm.trans hr
        refine g_iinc hx 24 (i := 2) 2 (v2_118 + 1) [(2, .int (v2_118 + 1)), (0, .ref (S + 15)), (1, .int v1_117), (3, .int v3_119)] dX5_placeInOrder_24 rfl rfl (by decide) rfl ?_
        refine g_iinc hx 27 (i := 3) 3 (v3_119 + 1) [(3, .int (v3_119 + 1)), (2, .int (v2_118 + 1)), (0, .ref (S + 15)), (1, .int v1_117)] dX5_placeInOrder_27 rfl rfl (by decide) rfl ?_
        refine g_goto hx 30 4 dX5_placeInOrder_30 (by decide) ?_
        refine g_ls [2, 3, 1, 0] [(0, .ref (S + 15)), (1, .int v1_117), (2, .int (v2_118 + 1)), (3, .int (v3_119 + 1))] rfl ?_
        exact ih v1_117 (v2_118 + 1) (v3_119 + 1) hr
set_option maxRecDepth 100000 in
set_option maxHeartbeats 4000000 in
theorem c_Rw_placeInOrder (l : Launch) (g : Gl) (σ : Hp) (S : Nat) (M : StM) (p1 : Int32) {r : Int32} (hr : Rw_placeInOrder M p1 = some r) : MG l g md_Rw_placeInOrder [.ref (S + 15), .int p1] (putSt σ S M) (rs (some (.int r)) (putSt σ S M)) := by
  refine MG.intro (by decide +kernel) (Nat.le_of_ble_eq_true rfl) (fun X hx hR _ => ?_)
  unfold Rw_placeInOrder at hr
  refine g_ls [0, 1] [(0, .ref (S + 15)), (1, .int p1)] rfl ?_
  refine g_iconst hx 0 (0) dX5_placeInOrder_0 rfl ?_
  refine g_istore_n hx 1 (i := 2) [(2, .int 0), (0, .ref (S + 15)), (1, .int p1)] dX5_placeInOrder_1 rfl (by decide) rfl ?_
  refine g_iconst hx 2 (0) dX5_placeInOrder_2 rfl ?_
  refine g_istore_n hx 3 (i := 3) [(3, .int 0), (2, .int 0), (0, .ref (S + 15)), (1, .int p1)] dX5_placeInOrder_3 rfl (by decide) rfl ?_
  refine g_ls [2, 3, 1, 0] [(0, .ref (S + 15)), (1, .int p1), (2, .int 0), (3, .int 0)] rfl ?_
  exact w_Rw_placeInOrder_L4 hx hR FU p1 0 0 hr
def Rw_farthestFromOrder_L6 (M : StM) : Nat → Int32 → Int32 → Int32 → Option (Int32)
  | 0, _, _, _ => none
  | n + 1, v1_122, v2_123, v3_124 => if nI (M.2 7).length ≤ v3_124 then (some (v2_123)) else (lt' (lnget (M.2 7) v3_124) fun v4_126 => Option.bind (Rw_placeInOrder M (Rw_markAt M v3_124)) fun q_127 => lt' (if 0 ≤ v3_124 - q_127 then v3_124 - q_127 else 0 - (v3_124 - q_127)) fun v5_128 => if v1_122 < v5_128 then (Rw_farthestFromOrder_L6 M n v5_128 v4_126 (v3_124 + 1)) else (if v5_128 ≤ 0 then (Rw_farthestFromOrder_L6 M n v1_122 v2_123 (v3_124 + 1)) else (if v5_128 = v1_122 then (if v2_123 ≤ v4_126 then (Rw_farthestFromOrder_L6 M n v1_122 v2_123 (v3_124 + 1)) else (Rw_farthestFromOrder_L6 M n v5_128 v4_126 (v3_124 + 1))) else (Rw_farthestFromOrder_L6 M n v1_122 v2_123 (v3_124 + 1)))))
def Rw_farthestFromOrder (M : StM) : Option (Int32) := Rw_farthestFromOrder_L6 M FU 0 (-1) 0
set_option maxRecDepth 100000 in
set_option maxHeartbeats 4000000 in
theorem w_Rw_farthestFromOrder_L6 {X : Cx} {l : Launch} {g : Gl} (hx : Ok X l g RX5 cX5_farthestFromOrder 6 md_Rw_farthestFromOrder.rm) {σ : Hp} {S : Nat} {M : StM} {r : Int32} (hR : Ret X (rs (some (.int r)) (putSt σ S M)) 0 0 (some .int)) : ∀ (n : Nat) (v1_122 v2_123 v3_124 : Int32), Rw_farthestFromOrder_L6 M n v1_122 v2_123 v3_124 = some r → G X (putSt σ S M) 0 0 6 [(0, .ref (S + 15)), (1, .int v1_122), (2, .int v2_123), (3, .int v3_124)] [] := by
  intro n
  induction n with
  | zero =>
    intro v1_122 v2_123 v3_124 hr
    rw [Rw_farthestFromOrder_L6] at hr
    cases hr
  | succ n ih =>
    intro v1_122 v2_123 v3_124 hr
    rw [Rw_farthestFromOrder_L6] at hr
    refine g_iload_n hx 6 (i := 3) 3 dX5_farthestFromOrder_6 rfl rfl ?_
    refine g_aload_n hx 7 (i := 0) 0 dX5_farthestFromOrder_7 rfl rfl ?_
    refine g_get hx 8 (C := RX5) (T := TX5) (N := 4) 0 (.ref (S + 16)) (pS σ S M 15 (by decide)) rfl (by decide) rfl fl_X5_14 dX5_farthestFromOrder_8 ?_
    refine g_callVr hx (k_count l g (pS_l7 σ S M) (by decide) ) lk_X5_36 ar_Ln_count (pS_l7 σ S M).1 (T := TX2) (N := 2) rfl (As := []) (rest := [.int v3_124]) rfl (Nat.le_of_ble_eq_true rfl) ⟨Nat.le_of_ble_eq_true rfl, Nat.le_of_ble_eq_true rfl⟩ ⟨rfl, rfl⟩ ⟨Nat.zero_le _, Nat.zero_le _⟩ dX5_farthestFromOrder_11 ?_
    refine g_icmp_ge hx 14 78 dX5_farthestFromOrder_14 (by decide) (fun hc_125 => ?_) (fun hc_125 => ?_)
    · have hr := (if_pos hc_125).symm.trans hr
      refine g_iload_n hx 78 (i := 2) 2 dX5_farthestFromOrder_78 rfl rfl ?_
      exact g_iret hx hR 79 dX5_farthestFromOrder_79 ⟨by rw [← Option.some.inj hr] <;> rfl, rfl⟩
    · have hr := (if_neg hc_125).symm.trans hr
      refine g_aload_n hx 17 (i := 0) 0 dX5_farthestFromOrder_17 rfl rfl ?_
      refine g_get hx 18 (C := RX5) (T := TX5) (N := 4) 0 (.ref (S + 16)) (pS σ S M 15 (by decide)) rfl (by decide) rfl fl_X5_14 dX5_farthestFromOrder_18 ?_
      refine g_iload_n hx 21 (i := 3) 3 dX5_farthestFromOrder_21 rfl rfl ?_
      refine g_callVr hx (k_get l g (pS_l7 σ S M) (by decide) v3_124) lk_X5_29 ar_Ln_get (pS_l7 σ S M).1 (T := TX2) (N := 2) rfl (As := [.int v3_124]) (rest := []) rfl (Nat.le_of_ble_eq_true rfl) ⟨Nat.le_of_ble_eq_true rfl, Nat.le_of_ble_eq_true rfl⟩ ⟨rfl, rfl⟩ ⟨Nat.zero_le _, Nat.zero_le _⟩ dX5_farthestFromOrder_22 ?_
      obtain ⟨v4_126, ev4_126, hr⟩ := lt'_e hr
      refine g_nmi ev4_126 ?_
      refine g_istore hx 25 (i := 4) [(4, .int v4_126), (0, .ref (S + 15)), (1, .int v1_122), (2, .int v2_123), (3, .int v3_124)] dX5_farthestFromOrder_25 (by decide) rfl ?_
      refine g_iload_n hx 27 (i := 3) 4 dX5_farthestFromOrder_27 rfl rfl ?_
      refine g_aload_n hx 28 (i := 0) 1 dX5_farthestFromOrder_28 rfl rfl ?_
      refine g_aload_n hx 29 (i := 0) 1 dX5_farthestFromOrder_29 rfl rfl ?_
      refine g_iload_n hx 30 (i := 3) 4 dX5_farthestFromOrder_30 rfl rfl ?_
      refine g_callVr hx (c_Rw_markAt l g σ S M v3_124 rfl) lk_X5_43 ar_Rw_markAt (pS σ S M 15 (by decide)) (T := TX5) (N := 4) rfl (As := [.int v3_124]) (rest := [.ref (S + 15), .int v3_124]) rfl (Nat.le_of_ble_eq_true rfl) ⟨Nat.le_of_ble_eq_true rfl, Nat.le_of_ble_eq_true rfl⟩ ⟨rfl, rfl⟩ ⟨Nat.zero_le _, Nat.zero_le _⟩ dX5_farthestFromOrder_31 ?_
      obtain ⟨q_127, eq_127, hr⟩ := bind_e hr
      refine g_callVr hx (c_Rw_placeInOrder l g σ S M (Rw_markAt M v3_124) eq_127) lk_X5_59 ar_Rw_placeInOrder (pS σ S M 15 (by decide)) (T := TX5) (N := 4) rfl (As := [.int (Rw_markAt M v3_124)]) (rest := [.int v3_124]) rfl (Nat.le_of_ble_eq_true rfl) ⟨Nat.le_of_ble_eq_true rfl, Nat.le_of_ble_eq_true rfl⟩ ⟨rfl, rfl⟩ ⟨Nat.zero_le _, Nat.zero_le _⟩ dX5_farthestFromOrder_34 ?_
      refine g_isub hx 37 dX5_farthestFromOrder_37 ?_
      refine g_mabs hx 38 mw_X5_62 (Nat.le_of_ble_eq_true rfl) ⟨Nat.le_of_ble_eq_true rfl, Nat.le_of_ble_eq_true rfl⟩ ⟨Nat.zero_le _, Nat.zero_le _⟩ dX5_farthestFromOrder_38 ?_
      obtain ⟨v5_128, ev5_128, hr⟩ := lt'_e hr
      refine g_nmi ev5_128 ?_
      refine g_istore hx 41 (i := 5) [(5, .int v5_128), (4, .int v4_126), (0, .ref (S + 15)), (1, .int v1_122), (2, .int v2_123), (3, .int v3_124)] dX5_farthestFromOrder_41 (by decide) rfl ?_
      refine g_iload hx 43 (i := 5) 0 dX5_farthestFromOrder_43 rfl ?_
      refine g_iload_n hx 45 (i := 1) 3 dX5_farthestFromOrder_45 rfl rfl ?_
      refine g_icmp_gt hx 46 66 dX5_farthestFromOrder_46 (by decide) (fun hc_129 => ?_) (fun hc_129 => ?_)
      · have hr := (if_pos hc_129).symm.trans hr
        refine g_iload hx 66 (i := 5) 0 dX5_farthestFromOrder_66 rfl ?_
        refine g_istore_n hx 68 (i := 1) [(1, .int v5_128), (5, .int v5_128), (4, .int v4_126), (0, .ref (S + 15)), (2, .int v2_123), (3, .int v3_124)] dX5_farthestFromOrder_68 rfl (by decide) rfl ?_
        refine g_iload hx 69 (i := 4) 2 dX5_farthestFromOrder_69 rfl ?_
        refine g_istore_n hx 71 (i := 2) [(2, .int v4_126), (1, .int v5_128), (5, .int v5_128), (4, .int v4_126), (0, .ref (S + 15)), (3, .int v3_124)] dX5_farthestFromOrder_71 rfl (by decide) rfl ?_
        refine g_iinc hx 72 (i := 3) 5 (v3_124 + 1) [(3, .int (v3_124 + 1)), (2, .int v4_126), (1, .int v5_128), (5, .int v5_128), (4, .int v4_126), (0, .ref (S + 15))] dX5_farthestFromOrder_72 rfl rfl (by decide) rfl ?_
        refine g_goto hx 75 6 dX5_farthestFromOrder_75 (by decide) ?_
        refine g_ls [5, 2, 1, 0] [(0, .ref (S + 15)), (1, .int v5_128), (2, .int v4_126), (3, .int (v3_124 + 1))] rfl ?_
        exact ih v5_128 v4_126 (v3_124 + 1) hr
      · have hr := (if_neg hc_129).symm.trans hr
        refine g_iload hx 49 (i := 5) 0 dX5_farthestFromOrder_49 rfl ?_
        refine g_if_le hx 51 72 dX5_farthestFromOrder_51 (by decide) (fun hc_130 => ?_) (fun hc_130 => ?_)
        · have hr := (if_pos hc_130).symm.trans hr
          refine g_iinc hx 72 (i := 3) 5 (v3_124 + 1) [(3, .int (v3_124 + 1)), (5, .int v5_128), (4, .int v4_126), (0, .ref (S + 15)), (1, .int v1_122), (2, .int v2_123)] dX5_farthestFromOrder_72 rfl rfl (by decide) rfl ?_
          refine g_goto hx 75 6 dX5_farthestFromOrder_75 (by decide) ?_
          refine g_ls [3, 4, 5, 0] [(0, .ref (S + 15)), (1, .int v1_122), (2, .int v2_123), (3, .int (v3_124 + 1))] rfl ?_
          exact ih v1_122 v2_123 (v3_124 + 1) hr
        · have hr := (if_neg hc_130).symm.trans hr
          refine g_iload hx 54 (i := 5) 0 dX5_farthestFromOrder_54 rfl ?_
          refine g_iload_n hx 56 (i := 1) 3 dX5_farthestFromOrder_56 rfl rfl ?_
          refine g_icmp_ne hx 57 72 dX5_farthestFromOrder_57 (by decide) (fun hc_131 => ?_) (fun hc_131 => ?_)
          · have hr := (if_neg hc_131).symm.trans hr
            refine g_iinc hx 72 (i := 3) 5 (v3_124 + 1) [(3, .int (v3_124 + 1)), (5, .int v5_128), (4, .int v4_126), (0, .ref (S + 15)), (1, .int v1_122), (2, .int v2_123)] dX5_farthestFromOrder_72 rfl rfl (by decide) rfl ?_
            refine g_goto hx 75 6 dX5_farthestFromOrder_75 (by decide) ?_
            refine g_ls [3, 4, 5, 0] [(0, .ref (S + 15)), (1, .int v1_122), (2, .int v2_123), (3, .int (v3_124 + 1))] rfl ?_
            exact ih v1_122 v2_123 (v3_124 + 1) hr
          · have hr := (if_pos hc_131).symm.trans hr
            refine g_iload hx 60 (i := 4) 1 dX5_farthestFromOrder_60 rfl ?_
            refine g_iload_n hx 62 (i := 2) 4 dX5_farthestFromOrder_62 rfl rfl ?_
            refine g_icmp_ge hx 63 72 dX5_farthestFromOrder_63 (by decide) (fun hc_132 => ?_) (fun hc_132 => ?_)
            · have hr := (if_pos hc_132).symm.trans hr
              refine g_iinc hx 72 (i := 3) 5 (v3_124 + 1) [(3, .int (v3_124 + 1)), (5, .int v5_128), (4, .int v4_126), (0, .ref (S + 15)), (1, .int v1_122), (2, .int v2_123)] dX5_farthestFromOrder_72 rfl rfl (by decide) rfl ?_
              refine g_goto hx 75 6 dX5_farthestFromOrder_75 (by decide) ?_
              refine g_ls [3, 4, 5, 0] [(0, .ref (S + 15)), (1, .int v1_122), (2, .int v2_123), (3, .int (v3_124 + 1))] rfl ?_
              exact ih v1_122 v2_123 (v3_124 + 1) hr
            · have hr := (if_neg hc_132).symm.trans hr
              refine g_iload hx 66 (i := 5) 0 dX5_farthestFromOrder_66 rfl ?_
              refine g_istore_n hx 68 (i := 1) [(1, .int v5_128), (5, .int v5_128), (4, .int v4_126), (0, .ref (S + 15)), (2, .int v2_123), (3, .int v3_124)] dX5_farthestFromOrder_68 rfl (by decide) rfl ?_
              refine g_iload hx 69 (i := 4) 2 dX5_farthestFromOrder_69 rfl ?_
              refine g_istore_n hx 71 (i := 2) [(2, .int v4_126), (1, .int v5_128), (5, .int v5_128), (4, .int v4_126), (0, .ref (S + 15)), (3, .int v3_124)] dX5_farthestFromOrder_71 rfl (by decide) rfl ?_
              refine g_iinc hx 72 (i := 3) 5 (v3_124 + 1) [(3, .int (v3_124 + 1)), (2, .int v4_126), (1, .int v5_128), (5, .int v5_128), (4, .int v4_126), (0, .ref (S + 15))] dX5_farthestFromOrder_72 rfl rfl (by decide) rfl ?_
              refine g_goto hx 75 6 dX5_farthestFromOrder_75 (by decide) ?_
              refine g_ls [5, 2, 1, 0] [(0, .ref (S + 15)), (1, .int v5_128), (2, .int v4_126), (3, .int (v3_124 + 1))] rfl ?_
              exact ih v5_128 v4_126 (v3_124 + 1) hr
set_option maxRecDepth 100000 in
set_option maxHeartbeats 4000000 in
theorem c_Rw_farthestFromOrder (l : Launch) (g : Gl) (σ : Hp) (S : Nat) (M : StM) {r : Int32} (hr : Rw_farthestFromOrder M = some r) : MG l g md_Rw_farthestFromOrder [.ref (S + 15)] (putSt σ S M) (rs (some (.int r)) (putSt σ S M)) := by
  refine MG.intro (by decide +kernel) (Nat.le_of_ble_eq_true rfl) (fun X hx hR _ => ?_)
  unfold Rw_farthestFromOrder at hr
  refine g_ls [0] [(0, .ref (S + 15))] rfl ?_
  refine g_iconst hx 0 (0) dX5_farthestFromOrder_0 rfl ?_
  refine g_istore_n hx 1 (i := 1) [(1, .int 0), (0, .ref (S + 15))] dX5_farthestFromOrder_1 rfl (by decide) rfl ?_
  refine g_iconst hx 2 (-1) dX5_farthestFromOrder_2 rfl ?_
  refine g_istore_n hx 3 (i := 2) [(2, .int (-1)), (1, .int 0), (0, .ref (S + 15))] dX5_farthestFromOrder_3 rfl (by decide) rfl ?_
  refine g_iconst hx 4 (0) dX5_farthestFromOrder_4 rfl ?_
  refine g_istore_n hx 5 (i := 3) [(3, .int 0), (2, .int (-1)), (1, .int 0), (0, .ref (S + 15))] dX5_farthestFromOrder_5 rfl (by decide) rfl ?_
  refine g_ls [3, 2, 1, 0] [(0, .ref (S + 15)), (1, .int 0), (2, .int (-1)), (3, .int 0)] rfl ?_
  exact w_Rw_farthestFromOrder_L6 hx hR FU 0 (-1) 0 hr
def Rw_moveTo (M : StM) (p1 p2 : Int32) : Int32 × StM := lt' (lnpl (M.2 7) p1) fun v3_133 => if v3_133 = (-1) then (((-2), M)) else (if p2 < 0 then (((-3), M)) else (if p2 < nI (M.2 7).length then ((v3_133, setL (setL M 7 (lnrem (M.2 7) v3_133)) 7 (lnins 24 (lnrem (M.2 7) v3_133) p2 p1))) else (((-3), M))))
set_option maxRecDepth 100000 in
set_option maxHeartbeats 4000000 in
theorem c_Rw_moveTo (l : Launch) (g : Gl) (σ : Hp) (S : Nat) (M : StM) (p1 p2 : Int32) {r : Int32 × StM} (hr : Rw_moveTo M p1 p2 = r) : MG l g md_Rw_moveTo [.ref (S + 15), .int p1, .int p2] (putSt σ S M) (rs (some (.int r.1)) (putSt σ S r.2)) := by
  refine MG.intro (by decide +kernel) (Nat.le_of_ble_eq_true rfl) (fun X hx hR _ => ?_)
  unfold Rw_moveTo at hr
  refine g_ls [0, 1, 2] [(0, .ref (S + 15)), (1, .int p1), (2, .int p2)] rfl ?_
  refine g_aload_n hx 0 (i := 0) 0 dX5_moveTo_0 rfl rfl ?_
  refine g_get hx 1 (C := RX5) (T := TX5) (N := 4) 0 (.ref (S + 16)) (pS σ S M 15 (by decide)) rfl (by decide) rfl fl_X5_14 dX5_moveTo_1 ?_
  refine g_iload_n hx 4 (i := 1) 1 dX5_moveTo_4 rfl rfl ?_
  refine g_callVr hx (k_placeOf l g (pS_l7 σ S M) (by decide) p1) lk_X5_65 ar_Ln_placeOf (pS_l7 σ S M).1 (T := TX2) (N := 2) rfl (As := [.int p1]) (rest := []) rfl (Nat.le_of_ble_eq_true rfl) ⟨Nat.le_of_ble_eq_true rfl, Nat.le_of_ble_eq_true rfl⟩ ⟨rfl, rfl⟩ ⟨Nat.zero_le _, Nat.zero_le _⟩ dX5_moveTo_5 ?_
  obtain ⟨v3_133, ev3_133, hr⟩ := lt'_e hr
  refine g_nmi ev3_133 ?_
  refine g_istore_n hx 8 (i := 3) [(3, .int v3_133), (0, .ref (S + 15)), (1, .int p1), (2, .int p2)] dX5_moveTo_8 rfl (by decide) rfl ?_
  refine g_iload_n hx 9 (i := 3) 0 dX5_moveTo_9 rfl rfl ?_
  refine g_iconst hx 10 (-1) dX5_moveTo_10 rfl ?_
  refine g_icmp_ne hx 11 17 dX5_moveTo_11 (by decide) (fun hc_134 => ?_) (fun hc_134 => ?_)
  · have hr := (if_neg hc_134).symm.trans hr
    refine g_iload_n hx 17 (i := 2) 3 dX5_moveTo_17 rfl rfl ?_
    refine g_if_lt hx 18 32 dX5_moveTo_18 (by decide) (fun hc_135 => ?_) (fun hc_135 => ?_)
    · have hr := (if_pos hc_135).symm.trans hr
      refine g_bipush hx 32 (-3) dX5_moveTo_32 rfl ?_
      exact g_iret hx hR 34 dX5_moveTo_34 ⟨by rw [← hr] <;> rfl, by rw [← hr] <;> rfl⟩
    · have hr := (if_neg hc_135).symm.trans hr
      refine g_iload_n hx 21 (i := 2) 3 dX5_moveTo_21 rfl rfl ?_
      refine g_aload_n hx 22 (i := 0) 1 dX5_moveTo_22 rfl rfl ?_
      refine g_get hx 23 (C := RX5) (T := TX5) (N := 4) 0 (.ref (S + 16)) (pS σ S M 15 (by decide)) rfl (by decide) rfl fl_X5_14 dX5_moveTo_23 ?_
      refine g_callVr hx (k_count l g (pS_l7 σ S M) (by decide) ) lk_X5_36 ar_Ln_count (pS_l7 σ S M).1 (T := TX2) (N := 2) rfl (As := []) (rest := [.int p2]) rfl (Nat.le_of_ble_eq_true rfl) ⟨Nat.le_of_ble_eq_true rfl, Nat.le_of_ble_eq_true rfl⟩ ⟨rfl, rfl⟩ ⟨Nat.zero_le _, Nat.zero_le _⟩ dX5_moveTo_26 ?_
      refine g_icmp_lt hx 29 35 dX5_moveTo_29 (by decide) (fun hc_136 => ?_) (fun hc_136 => ?_)
      · have hr := (if_pos hc_136).symm.trans hr
        refine g_aload_n hx 35 (i := 0) 1 dX5_moveTo_35 rfl rfl ?_
        refine g_get hx 36 (C := RX5) (T := TX5) (N := 4) 0 (.ref (S + 16)) (pS σ S M 15 (by decide)) rfl (by decide) rfl fl_X5_14 dX5_moveTo_36 ?_
        refine g_iload_n hx 39 (i := 3) 0 dX5_moveTo_39 rfl rfl ?_
        refine g_callVv hx (k_removeAt l g (pS_l7 σ S M) (by decide) v3_133) lk_X5_68 ar_Ln_removeAt (pS_l7 σ S M).1 (T := TX2) (N := 2) rfl (As := [.int v3_133]) (rest := []) rfl (Nat.le_of_ble_eq_true rfl) ⟨Nat.le_of_ble_eq_true rfl, Nat.le_of_ble_eq_true rfl⟩ ⟨rfl, rfl⟩ ⟨Nat.zero_le _, Nat.zero_le _⟩ dX5_moveTo_40 ?_
        refine G.heap (pS_p7 σ S M (lnrem (M.2 7) v3_133)) ?_
        refine g_aload_n hx 43 (i := 0) 1 dX5_moveTo_43 rfl rfl ?_
        refine g_get hx 44 (C := RX5) (T := TX5) (N := 4) 0 (.ref (S + 16)) (pS σ S (setL M 7 (lnrem (M.2 7) v3_133)) 15 (by decide)) rfl (by decide) rfl fl_X5_14 dX5_moveTo_44 ?_
        refine g_iload_n hx 47 (i := 2) 3 dX5_moveTo_47 rfl rfl ?_
        refine g_iload_n hx 48 (i := 1) 2 dX5_moveTo_48 rfl rfl ?_
        refine g_callVv hx (k_insert l g (pS_l7 σ S (setL M 7 (lnrem (M.2 7) v3_133))) (by decide) p2 p1) lk_X5_71 ar_Ln_insert (pS_l7 σ S (setL M 7 (lnrem (M.2 7) v3_133))).1 (T := TX2) (N := 2) rfl (As := [.int p2, .int p1]) (rest := []) rfl (Nat.le_of_ble_eq_true rfl) ⟨Nat.le_of_ble_eq_true rfl, Nat.le_of_ble_eq_true rfl⟩ ⟨rfl, rfl⟩ ⟨Nat.zero_le _, Nat.zero_le _⟩ dX5_moveTo_49 ?_
        refine G.heap (pS_p7 σ S (setL M 7 (lnrem (M.2 7) v3_133)) (lnins 24 (lnrem (M.2 7) v3_133) p2 p1)) ?_
        refine g_iload_n hx 52 (i := 3) 0 dX5_moveTo_52 rfl rfl ?_
        exact g_iret hx hR 53 dX5_moveTo_53 ⟨by rw [← hr] <;> rfl, by rw [← hr] <;> rfl⟩
      · have hr := (if_neg hc_136).symm.trans hr
        refine g_bipush hx 32 (-3) dX5_moveTo_32 rfl ?_
        exact g_iret hx hR 34 dX5_moveTo_34 ⟨by rw [← hr] <;> rfl, by rw [← hr] <;> rfl⟩
  · have hr := (if_pos hc_134).symm.trans hr
    refine g_bipush hx 14 (-2) dX5_moveTo_14 rfl ?_
    exact g_iret hx hR 16 dX5_moveTo_16 ⟨by rw [← hr] <;> rfl, by rw [← hr] <;> rfl⟩
def Rw_moveToOrder (M : StM) (p1 : Int32) : Option (Int32 × StM) := lt' (lnpl (M.2 7) p1) fun v2_137 => if v2_137 = (-1) then (some (((-2), M))) else (Option.bind (Rw_placeInOrder M (lnget (M.2 0) p1)) fun q_139 => some ((q_139, setL (setL M 7 (lnrem (M.2 7) v2_137)) 7 (lnins 24 (lnrem (M.2 7) v2_137) q_139 p1))))
set_option maxRecDepth 100000 in
set_option maxHeartbeats 4000000 in
theorem c_Rw_moveToOrder (l : Launch) (g : Gl) (σ : Hp) (S : Nat) (M : StM) (p1 : Int32) {r : Int32 × StM} (hr : Rw_moveToOrder M p1 = some r) : MG l g md_Rw_moveToOrder [.ref (S + 15), .int p1] (putSt σ S M) (rs (some (.int r.1)) (putSt σ S r.2)) := by
  refine MG.intro (by decide +kernel) (Nat.le_of_ble_eq_true rfl) (fun X hx hR _ => ?_)
  unfold Rw_moveToOrder at hr
  refine g_ls [0, 1] [(0, .ref (S + 15)), (1, .int p1)] rfl ?_
  refine g_aload_n hx 0 (i := 0) 0 dX5_moveToOrder_0 rfl rfl ?_
  refine g_get hx 1 (C := RX5) (T := TX5) (N := 4) 0 (.ref (S + 16)) (pS σ S M 15 (by decide)) rfl (by decide) rfl fl_X5_14 dX5_moveToOrder_1 ?_
  refine g_iload_n hx 4 (i := 1) 1 dX5_moveToOrder_4 rfl rfl ?_
  refine g_callVr hx (k_placeOf l g (pS_l7 σ S M) (by decide) p1) lk_X5_65 ar_Ln_placeOf (pS_l7 σ S M).1 (T := TX2) (N := 2) rfl (As := [.int p1]) (rest := []) rfl (Nat.le_of_ble_eq_true rfl) ⟨Nat.le_of_ble_eq_true rfl, Nat.le_of_ble_eq_true rfl⟩ ⟨rfl, rfl⟩ ⟨Nat.zero_le _, Nat.zero_le _⟩ dX5_moveToOrder_5 ?_
  obtain ⟨v2_137, ev2_137, hr⟩ := lt'_e hr
  refine g_nmi ev2_137 ?_
  refine g_istore_n hx 8 (i := 2) [(2, .int v2_137), (0, .ref (S + 15)), (1, .int p1)] dX5_moveToOrder_8 rfl (by decide) rfl ?_
  refine g_iload_n hx 9 (i := 2) 0 dX5_moveToOrder_9 rfl rfl ?_
  refine g_iconst hx 10 (-1) dX5_moveToOrder_10 rfl ?_
  refine g_icmp_ne hx 11 17 dX5_moveToOrder_11 (by decide) (fun hc_138 => ?_) (fun hc_138 => ?_)
  · have hr := (if_neg hc_138).symm.trans hr
    refine g_aload_n hx 17 (i := 0) 1 dX5_moveToOrder_17 rfl rfl ?_
    refine g_aload_n hx 18 (i := 0) 1 dX5_moveToOrder_18 rfl rfl ?_
    refine g_get hx 19 (C := RX5) (T := TX5) (N := 4) 3 (.ref (S + 1)) (pS σ S M 15 (by decide)) rfl (by decide) rfl fl_X5_26 dX5_moveToOrder_19 ?_
    refine g_iload_n hx 22 (i := 1) 2 dX5_moveToOrder_22 rfl rfl ?_
    refine g_callVr hx (k_get l g (pS_l0 σ S M) (by decide) p1) lk_X5_29 ar_Ln_get (pS_l0 σ S M).1 (T := TX2) (N := 2) rfl (As := [.int p1]) (rest := [.ref (S + 15)]) rfl (Nat.le_of_ble_eq_true rfl) ⟨Nat.le_of_ble_eq_true rfl, Nat.le_of_ble_eq_true rfl⟩ ⟨rfl, rfl⟩ ⟨Nat.zero_le _, Nat.zero_le _⟩ dX5_moveToOrder_23 ?_
    obtain ⟨q_139, eq_139, hr⟩ := bind_e hr
    refine g_callVr hx (c_Rw_placeInOrder l g σ S M (lnget (M.2 0) p1) eq_139) lk_X5_59 ar_Rw_placeInOrder (pS σ S M 15 (by decide)) (T := TX5) (N := 4) rfl (As := [.int (lnget (M.2 0) p1)]) (rest := []) rfl (Nat.le_of_ble_eq_true rfl) ⟨Nat.le_of_ble_eq_true rfl, Nat.le_of_ble_eq_true rfl⟩ ⟨rfl, rfl⟩ ⟨Nat.zero_le _, Nat.zero_le _⟩ dX5_moveToOrder_26 ?_
    refine g_istore_n hx 29 (i := 3) [(3, .int q_139), (2, .int v2_137), (0, .ref (S + 15)), (1, .int p1)] dX5_moveToOrder_29 rfl (by decide) rfl ?_
    refine g_aload_n hx 30 (i := 0) 2 dX5_moveToOrder_30 rfl rfl ?_
    refine g_get hx 31 (C := RX5) (T := TX5) (N := 4) 0 (.ref (S + 16)) (pS σ S M 15 (by decide)) rfl (by decide) rfl fl_X5_14 dX5_moveToOrder_31 ?_
    refine g_iload_n hx 34 (i := 2) 1 dX5_moveToOrder_34 rfl rfl ?_
    refine g_callVv hx (k_removeAt l g (pS_l7 σ S M) (by decide) v2_137) lk_X5_68 ar_Ln_removeAt (pS_l7 σ S M).1 (T := TX2) (N := 2) rfl (As := [.int v2_137]) (rest := []) rfl (Nat.le_of_ble_eq_true rfl) ⟨Nat.le_of_ble_eq_true rfl, Nat.le_of_ble_eq_true rfl⟩ ⟨rfl, rfl⟩ ⟨Nat.zero_le _, Nat.zero_le _⟩ dX5_moveToOrder_35 ?_
    refine G.heap (pS_p7 σ S M (lnrem (M.2 7) v2_137)) ?_
    refine g_aload_n hx 38 (i := 0) 2 dX5_moveToOrder_38 rfl rfl ?_
    refine g_get hx 39 (C := RX5) (T := TX5) (N := 4) 0 (.ref (S + 16)) (pS σ S (setL M 7 (lnrem (M.2 7) v2_137)) 15 (by decide)) rfl (by decide) rfl fl_X5_14 dX5_moveToOrder_39 ?_
    refine g_iload_n hx 42 (i := 3) 0 dX5_moveToOrder_42 rfl rfl ?_
    refine g_iload_n hx 43 (i := 1) 3 dX5_moveToOrder_43 rfl rfl ?_
    refine g_callVv hx (k_insert l g (pS_l7 σ S (setL M 7 (lnrem (M.2 7) v2_137))) (by decide) q_139 p1) lk_X5_71 ar_Ln_insert (pS_l7 σ S (setL M 7 (lnrem (M.2 7) v2_137))).1 (T := TX2) (N := 2) rfl (As := [.int q_139, .int p1]) (rest := []) rfl (Nat.le_of_ble_eq_true rfl) ⟨Nat.le_of_ble_eq_true rfl, Nat.le_of_ble_eq_true rfl⟩ ⟨rfl, rfl⟩ ⟨Nat.zero_le _, Nat.zero_le _⟩ dX5_moveToOrder_44 ?_
    refine G.heap (pS_p7 σ S (setL M 7 (lnrem (M.2 7) v2_137)) (lnins 24 (lnrem (M.2 7) v2_137) q_139 p1)) ?_
    refine g_iload_n hx 47 (i := 3) 0 dX5_moveToOrder_47 rfl rfl ?_
    exact g_iret hx hR 48 dX5_moveToOrder_48 ⟨by rw [← Option.some.inj hr] <;> rfl, by rw [← Option.some.inj hr] <;> rfl⟩
  · have hr := (if_pos hc_138).symm.trans hr
    refine g_bipush hx 14 (-2) dX5_moveToOrder_14 rfl ?_
    exact g_iret hx hR 16 dX5_moveToOrder_16 ⟨by rw [← Option.some.inj hr] <;> rfl, by rw [← Option.some.inj hr] <;> rfl⟩
def Rw_firstWrong_L2 (M : StM) : Nat → Int32 → Option (Int32)
  | 0, _ => none
  | n + 1, v1_140 => if nI (M.2 7).length ≤ v1_140 then (some ((-1))) else (if Rw_isWrong M v1_140 = 0 then (Rw_firstWrong_L2 M n (v1_140 + 1)) else (some (v1_140)))
def Rw_firstWrong (M : StM) : Option (Int32) := Rw_firstWrong_L2 M FU 1
set_option maxRecDepth 100000 in
set_option maxHeartbeats 4000000 in
theorem w_Rw_firstWrong_L2 {X : Cx} {l : Launch} {g : Gl} (hx : Ok X l g RX5 cX5_firstWrong 2 md_Rw_firstWrong.rm) {σ : Hp} {S : Nat} {M : StM} {r : Int32} (hR : Ret X (rs (some (.int r)) (putSt σ S M)) 0 0 (some .int)) : ∀ (n : Nat) (v1_140 : Int32), Rw_firstWrong_L2 M n v1_140 = some r → G X (putSt σ S M) 0 0 2 [(0, .ref (S + 15)), (1, .int v1_140)] [] := by
  intro n
  induction n with
  | zero =>
    intro v1_140 hr
    rw [Rw_firstWrong_L2] at hr
    cases hr
  | succ n ih =>
    intro v1_140 hr
    rw [Rw_firstWrong_L2] at hr
    refine g_iload_n hx 2 (i := 1) 1 dX5_firstWrong_2 rfl rfl ?_
    refine g_aload_n hx 3 (i := 0) 0 dX5_firstWrong_3 rfl rfl ?_
    refine g_get hx 4 (C := RX5) (T := TX5) (N := 4) 0 (.ref (S + 16)) (pS σ S M 15 (by decide)) rfl (by decide) rfl fl_X5_14 dX5_firstWrong_4 ?_
    refine g_callVr hx (k_count l g (pS_l7 σ S M) (by decide) ) lk_X5_36 ar_Ln_count (pS_l7 σ S M).1 (T := TX2) (N := 2) rfl (As := []) (rest := [.int v1_140]) rfl (Nat.le_of_ble_eq_true rfl) ⟨Nat.le_of_ble_eq_true rfl, Nat.le_of_ble_eq_true rfl⟩ ⟨rfl, rfl⟩ ⟨Nat.zero_le _, Nat.zero_le _⟩ dX5_firstWrong_7 ?_
    refine g_icmp_ge hx 10 29 dX5_firstWrong_10 (by decide) (fun hc_141 => ?_) (fun hc_141 => ?_)
    · have hr := (if_pos hc_141).symm.trans hr
      refine g_iconst hx 29 (-1) dX5_firstWrong_29 rfl ?_
      exact g_iret hx hR 30 dX5_firstWrong_30 ⟨by rw [← Option.some.inj hr] <;> rfl, rfl⟩
    · have hr := (if_neg hc_141).symm.trans hr
      refine g_aload_n hx 13 (i := 0) 0 dX5_firstWrong_13 rfl rfl ?_
      refine g_iload_n hx 14 (i := 1) 1 dX5_firstWrong_14 rfl rfl ?_
      refine g_callVr hx (c_Rw_isWrong l g σ S M v1_140 rfl) lk_X5_49 ar_Rw_isWrong (pS σ S M 15 (by decide)) (T := TX5) (N := 4) rfl (As := [.int v1_140]) (rest := []) rfl (Nat.le_of_ble_eq_true rfl) ⟨Nat.le_of_ble_eq_true rfl, Nat.le_of_ble_eq_true rfl⟩ ⟨rfl, rfl⟩ ⟨Nat.zero_le _, Nat.zero_le _⟩ dX5_firstWrong_15 ?_
      refine g_if_eq hx 18 23 dX5_firstWrong_18 (by decide) (fun hc_142 => ?_) (fun hc_142 => ?_)
      · have hr := (if_pos hc_142).symm.trans hr
        refine g_iinc hx 23 (i := 1) 1 (v1_140 + 1) [(1, .int (v1_140 + 1)), (0, .ref (S + 15))] dX5_firstWrong_23 rfl rfl (by decide) rfl ?_
        refine g_goto hx 26 2 dX5_firstWrong_26 (by decide) ?_
        refine g_ls [1, 0] [(0, .ref (S + 15)), (1, .int (v1_140 + 1))] rfl ?_
        exact ih (v1_140 + 1) hr
      · have hr := (if_neg hc_142).symm.trans hr
        refine g_iload_n hx 21 (i := 1) 1 dX5_firstWrong_21 rfl rfl ?_
        exact g_iret hx hR 22 dX5_firstWrong_22 ⟨by rw [← Option.some.inj hr] <;> rfl, rfl⟩
set_option maxRecDepth 100000 in
set_option maxHeartbeats 4000000 in
theorem c_Rw_firstWrong (l : Launch) (g : Gl) (σ : Hp) (S : Nat) (M : StM) {r : Int32} (hr : Rw_firstWrong M = some r) : MG l g md_Rw_firstWrong [.ref (S + 15)] (putSt σ S M) (rs (some (.int r)) (putSt σ S M)) := by
  refine MG.intro (by decide +kernel) (Nat.le_of_ble_eq_true rfl) (fun X hx hR _ => ?_)
  unfold Rw_firstWrong at hr
  refine g_ls [0] [(0, .ref (S + 15))] rfl ?_
  refine g_iconst hx 0 (1) dX5_firstWrong_0 rfl ?_
  refine g_istore_n hx 1 (i := 1) [(1, .int 1), (0, .ref (S + 15))] dX5_firstWrong_1 rfl (by decide) rfl ?_
  refine g_ls [1, 0] [(0, .ref (S + 15)), (1, .int 1)] rfl ?_
  exact w_Rw_firstWrong_L2 hx hR FU 1 hr
def Rw_swapWrongPairs_L2 : Nat → StM → Int32 → Int32 → Option (Int32 × StM)
  | 0, _, _, _ => none
  | n + 1, M, v1_143, v2_144 => if v1_143 ≤ v2_144 then (some ((v1_143, M))) else (Option.bind (Rw_firstWrong M) fun q_146 => if q_146 = (-1) then (some ((v2_144, M))) else (lt' (lnget (M.2 7) q_146) fun v4_148 => Rw_swapWrongPairs_L2 n (setL (setL M 7 (lnset (M.2 7) q_146 (lnget (M.2 7) (q_146 - 1)))) 7 (lnset (lnset (M.2 7) q_146 (lnget (M.2 7) (q_146 - 1))) (q_146 - 1) v4_148)) v1_143 (v2_144 + 1)))
def Rw_swapWrongPairs (M : StM) (p1 : Int32) : Option (Int32 × StM) := Rw_swapWrongPairs_L2 FU M p1 0
set_option maxRecDepth 100000 in
set_option maxHeartbeats 4000000 in
theorem w_Rw_swapWrongPairs_L2 {X : Cx} {l : Launch} {g : Gl} (hx : Ok X l g RX5 cX5_swapWrongPairs 5 md_Rw_swapWrongPairs.rm) {σ : Hp} {S : Nat} {r : Int32 × StM} (hR : Ret X (rs (some (.int r.1)) (putSt σ S r.2)) 0 0 (some .int)) : ∀ (n : Nat) (M : StM) (v1_143 v2_144 : Int32), Rw_swapWrongPairs_L2 n M v1_143 v2_144 = some r → G X (putSt σ S M) 0 0 2 [(0, .ref (S + 15)), (1, .int v1_143), (2, .int v2_144)] [] := by
  intro n
  induction n with
  | zero =>
    intro M v1_143 v2_144 hr
    rw [Rw_swapWrongPairs_L2] at hr
    cases hr
  | succ n ih =>
    intro M v1_143 v2_144 hr
    rw [Rw_swapWrongPairs_L2] at hr
    refine g_iload_n hx 2 (i := 2) 2 dX5_swapWrongPairs_2 rfl rfl ?_
    refine g_iload_n hx 3 (i := 1) 1 dX5_swapWrongPairs_3 rfl rfl ?_
    refine g_icmp_ge hx 4 65 dX5_swapWrongPairs_4 (by decide) (fun hc_145 => ?_) (fun hc_145 => ?_)
    · have hr := (if_pos hc_145).symm.trans hr
      refine g_iload_n hx 65 (i := 1) 1 dX5_swapWrongPairs_65 rfl rfl ?_
      exact g_iret hx hR 66 dX5_swapWrongPairs_66 ⟨by rw [← Option.some.inj hr] <;> rfl, by rw [← Option.some.inj hr] <;> rfl⟩
    · have hr := (if_neg hc_145).symm.trans hr
      refine g_aload_n hx 7 (i := 0) 0 dX5_swapWrongPairs_7 rfl rfl ?_
      obtain ⟨q_146, eq_146, hr⟩ := bind_e hr
      refine g_callVr hx (c_Rw_firstWrong l g σ S M eq_146) lk_X5_75 ar_Rw_firstWrong (pS σ S M 15 (by decide)) (T := TX5) (N := 4) rfl (As := []) (rest := []) rfl (Nat.le_of_ble_eq_true rfl) ⟨Nat.le_of_ble_eq_true rfl, Nat.le_of_ble_eq_true rfl⟩ ⟨rfl, rfl⟩ ⟨Nat.zero_le _, Nat.zero_le _⟩ dX5_swapWrongPairs_8 ?_
      refine g_istore_n hx 11 (i := 3) [(3, .int q_146), (0, .ref (S + 15)), (1, .int v1_143), (2, .int v2_144)] dX5_swapWrongPairs_11 rfl (by decide) rfl ?_
      refine g_iload_n hx 12 (i := 3) 0 dX5_swapWrongPairs_12 rfl rfl ?_
      refine g_iconst hx 13 (-1) dX5_swapWrongPairs_13 rfl ?_
      refine g_icmp_ne hx 14 19 dX5_swapWrongPairs_14 (by decide) (fun hc_147 => ?_) (fun hc_147 => ?_)
      · have hr := (if_neg hc_147).symm.trans hr
        refine g_aload_n hx 19 (i := 0) 1 dX5_swapWrongPairs_19 rfl rfl ?_
        refine g_get hx 20 (C := RX5) (T := TX5) (N := 4) 0 (.ref (S + 16)) (pS σ S M 15 (by decide)) rfl (by decide) rfl fl_X5_14 dX5_swapWrongPairs_20 ?_
        refine g_iload_n hx 23 (i := 3) 0 dX5_swapWrongPairs_23 rfl rfl ?_
        refine g_callVr hx (k_get l g (pS_l7 σ S M) (by decide) q_146) lk_X5_29 ar_Ln_get (pS_l7 σ S M).1 (T := TX2) (N := 2) rfl (As := [.int q_146]) (rest := []) rfl (Nat.le_of_ble_eq_true rfl) ⟨Nat.le_of_ble_eq_true rfl, Nat.le_of_ble_eq_true rfl⟩ ⟨rfl, rfl⟩ ⟨Nat.zero_le _, Nat.zero_le _⟩ dX5_swapWrongPairs_24 ?_
        obtain ⟨v4_148, ev4_148, hr⟩ := lt'_e hr
        refine g_nmi ev4_148 ?_
        refine g_istore hx 27 (i := 4) [(4, .int v4_148), (3, .int q_146), (0, .ref (S + 15)), (1, .int v1_143), (2, .int v2_144)] dX5_swapWrongPairs_27 (by decide) rfl ?_
        refine g_aload_n hx 29 (i := 0) 2 dX5_swapWrongPairs_29 rfl rfl ?_
        refine g_get hx 30 (C := RX5) (T := TX5) (N := 4) 0 (.ref (S + 16)) (pS σ S M 15 (by decide)) rfl (by decide) rfl fl_X5_14 dX5_swapWrongPairs_30 ?_
        refine g_iload_n hx 33 (i := 3) 1 dX5_swapWrongPairs_33 rfl rfl ?_
        refine g_aload_n hx 34 (i := 0) 2 dX5_swapWrongPairs_34 rfl rfl ?_
        refine g_get hx 35 (C := RX5) (T := TX5) (N := 4) 0 (.ref (S + 16)) (pS σ S M 15 (by decide)) rfl (by decide) rfl fl_X5_14 dX5_swapWrongPairs_35 ?_
        refine g_iload_n hx 38 (i := 3) 1 dX5_swapWrongPairs_38 rfl rfl ?_
        refine g_iconst hx 39 (1) dX5_swapWrongPairs_39 rfl ?_
        refine g_isub hx 40 dX5_swapWrongPairs_40 ?_
        refine g_callVr hx (k_get l g (pS_l7 σ S M) (by decide) (q_146 - 1)) lk_X5_29 ar_Ln_get (pS_l7 σ S M).1 (T := TX2) (N := 2) rfl (As := [.int (q_146 - 1)]) (rest := [.int q_146, .ref (S + 16)]) rfl (Nat.le_of_ble_eq_true rfl) ⟨Nat.le_of_ble_eq_true rfl, Nat.le_of_ble_eq_true rfl⟩ ⟨rfl, rfl⟩ ⟨Nat.zero_le _, Nat.zero_le _⟩ dX5_swapWrongPairs_41 ?_
        refine g_callVv hx (k_set l g (pS_l7 σ S M) (by decide) q_146 (lnget (M.2 7) (q_146 - 1))) lk_X5_78 ar_Ln_set (pS_l7 σ S M).1 (T := TX2) (N := 2) rfl (As := [.int q_146, .int (lnget (M.2 7) (q_146 - 1))]) (rest := []) rfl (Nat.le_of_ble_eq_true rfl) ⟨Nat.le_of_ble_eq_true rfl, Nat.le_of_ble_eq_true rfl⟩ ⟨rfl, rfl⟩ ⟨Nat.zero_le _, Nat.zero_le _⟩ dX5_swapWrongPairs_44 ?_
        refine G.heap (pS_p7 σ S M (lnset (M.2 7) q_146 (lnget (M.2 7) (q_146 - 1)))) ?_
        refine g_aload_n hx 47 (i := 0) 2 dX5_swapWrongPairs_47 rfl rfl ?_
        refine g_get hx 48 (C := RX5) (T := TX5) (N := 4) 0 (.ref (S + 16)) (pS σ S (setL M 7 (lnset (M.2 7) q_146 (lnget (M.2 7) (q_146 - 1)))) 15 (by decide)) rfl (by decide) rfl fl_X5_14 dX5_swapWrongPairs_48 ?_
        refine g_iload_n hx 51 (i := 3) 1 dX5_swapWrongPairs_51 rfl rfl ?_
        refine g_iconst hx 52 (1) dX5_swapWrongPairs_52 rfl ?_
        refine g_isub hx 53 dX5_swapWrongPairs_53 ?_
        refine g_iload hx 54 (i := 4) 0 dX5_swapWrongPairs_54 rfl ?_
        refine g_callVv hx (k_set l g (pS_l7 σ S (setL M 7 (lnset (M.2 7) q_146 (lnget (M.2 7) (q_146 - 1))))) (by decide) (q_146 - 1) v4_148) lk_X5_78 ar_Ln_set (pS_l7 σ S (setL M 7 (lnset (M.2 7) q_146 (lnget (M.2 7) (q_146 - 1))))).1 (T := TX2) (N := 2) rfl (As := [.int (q_146 - 1), .int v4_148]) (rest := []) rfl (Nat.le_of_ble_eq_true rfl) ⟨Nat.le_of_ble_eq_true rfl, Nat.le_of_ble_eq_true rfl⟩ ⟨rfl, rfl⟩ ⟨Nat.zero_le _, Nat.zero_le _⟩ dX5_swapWrongPairs_56 ?_
        refine G.heap (pS_p7 σ S (setL M 7 (lnset (M.2 7) q_146 (lnget (M.2 7) (q_146 - 1)))) (lnset (lnset (M.2 7) q_146 (lnget (M.2 7) (q_146 - 1))) (q_146 - 1) v4_148)) ?_
        refine g_iinc hx 59 (i := 2) 4 (v2_144 + 1) [(2, .int (v2_144 + 1)), (4, .int v4_148), (3, .int q_146), (0, .ref (S + 15)), (1, .int v1_143)] dX5_swapWrongPairs_59 rfl rfl (by decide) rfl ?_
        refine g_goto hx 62 2 dX5_swapWrongPairs_62 (by decide) ?_
        refine g_ls [3, 4, 0] [(0, .ref (S + 15)), (1, .int v1_143), (2, .int (v2_144 + 1))] rfl ?_
        exact ih (setL (setL M 7 (lnset (M.2 7) q_146 (lnget (M.2 7) (q_146 - 1)))) 7 (lnset (lnset (M.2 7) q_146 (lnget (M.2 7) (q_146 - 1))) (q_146 - 1) v4_148)) v1_143 (v2_144 + 1) hr
      · have hr := (if_pos hc_147).symm.trans hr
        refine g_iload_n hx 17 (i := 2) 3 dX5_swapWrongPairs_17 rfl rfl ?_
        exact g_iret hx hR 18 dX5_swapWrongPairs_18 ⟨by rw [← Option.some.inj hr] <;> rfl, by rw [← Option.some.inj hr] <;> rfl⟩
set_option maxRecDepth 100000 in
set_option maxHeartbeats 4000000 in
theorem c_Rw_swapWrongPairs (l : Launch) (g : Gl) (σ : Hp) (S : Nat) (M : StM) (p1 : Int32) {r : Int32 × StM} (hr : Rw_swapWrongPairs M p1 = some r) : MG l g md_Rw_swapWrongPairs [.ref (S + 15), .int p1] (putSt σ S M) (rs (some (.int r.1)) (putSt σ S r.2)) := by
  refine MG.intro (by decide +kernel) (Nat.le_of_ble_eq_true rfl) (fun X hx hR _ => ?_)
  unfold Rw_swapWrongPairs at hr
  refine g_ls [0, 1] [(0, .ref (S + 15)), (1, .int p1)] rfl ?_
  refine g_iconst hx 0 (0) dX5_swapWrongPairs_0 rfl ?_
  refine g_istore_n hx 1 (i := 2) [(2, .int 0), (0, .ref (S + 15)), (1, .int p1)] dX5_swapWrongPairs_1 rfl (by decide) rfl ?_
  refine g_ls [1, 2, 0] [(0, .ref (S + 15)), (1, .int p1), (2, .int 0)] rfl ?_
  exact w_Rw_swapWrongPairs_L2 hx hR FU M p1 0 hr
def Sl_count (M : StM) : Int32 := nI (M.2 11).length
set_option maxRecDepth 100000 in
set_option maxHeartbeats 4000000 in
theorem c_Sl_count (l : Launch) (g : Gl) (σ : Hp) (S : Nat) (M : StM) {r : Int32} (hr : Sl_count M = r) : MG l g md_Sl_count [.ref (S + 24)] (putSt σ S M) (rs (some (.int r)) (putSt σ S M)) := by
  refine MG.intro (by decide +kernel) (Nat.le_of_ble_eq_true rfl) (fun X hx hR _ => ?_)
  unfold Sl_count at hr
  refine g_ls [0] [(0, .ref (S + 24))] rfl ?_
  refine g_aload_n hx 0 (i := 0) 0 dX7_count_0 rfl rfl ?_
  refine g_get hx 1 (C := RX7) (T := TX7) (N := 4) 0 (.ref (S + 25)) (pS σ S M 24 (by decide)) rfl (by decide) rfl fl_X7_14 dX7_count_1 ?_
  refine g_callVr hx (k_count l g (pS_l11 σ S M) (by decide) ) lk_X7_29 ar_Ln_count (pS_l11 σ S M).1 (T := TX2) (N := 2) rfl (As := []) (rest := []) rfl (Nat.le_of_ble_eq_true rfl) ⟨Nat.le_of_ble_eq_true rfl, Nat.le_of_ble_eq_true rfl⟩ ⟨rfl, rfl⟩ ⟨Nat.zero_le _, Nat.zero_le _⟩ dX7_count_4 ?_
  exact g_iret hx hR 7 dX7_count_7 ⟨by rw [← hr] <;> rfl, rfl⟩
def Sl_has (M : StM) (p1 : Int32) : Int32 := if p1 < 0 then (0) else (if nI (M.2 11).length ≤ p1 then (0) else (1))
set_option maxRecDepth 100000 in
set_option maxHeartbeats 4000000 in
theorem c_Sl_has (l : Launch) (g : Gl) (σ : Hp) (S : Nat) (M : StM) (p1 : Int32) {r : Int32} (hr : Sl_has M p1 = r) : MG l g md_Sl_has [.ref (S + 24), .int p1] (putSt σ S M) (rs (some (.int r)) (putSt σ S M)) := by
  refine MG.intro (by decide +kernel) (Nat.le_of_ble_eq_true rfl) (fun X hx hR _ => ?_)
  unfold Sl_has at hr
  refine g_ls [0, 1] [(0, .ref (S + 24)), (1, .int p1)] rfl ?_
  refine g_iload_n hx 0 (i := 1) 1 dX7_has_0 rfl rfl ?_
  refine g_if_lt hx 1 19 dX7_has_1 (by decide) (fun hc_149 => ?_) (fun hc_149 => ?_)
  · have hr := (if_pos hc_149).symm.trans hr
    refine g_iconst hx 19 (0) dX7_has_19 rfl ?_
    exact g_zret hx hR 20 (Or.inl rfl) dX7_has_20 ⟨by rw [← hr] <;> rfl, rfl⟩
  · have hr := (if_neg hc_149).symm.trans hr
    refine g_iload_n hx 4 (i := 1) 1 dX7_has_4 rfl rfl ?_
    refine g_aload_n hx 5 (i := 0) 0 dX7_has_5 rfl rfl ?_
    refine g_get hx 6 (C := RX7) (T := TX7) (N := 4) 0 (.ref (S + 25)) (pS σ S M 24 (by decide)) rfl (by decide) rfl fl_X7_14 dX7_has_6 ?_
    refine g_callVr hx (k_count l g (pS_l11 σ S M) (by decide) ) lk_X7_29 ar_Ln_count (pS_l11 σ S M).1 (T := TX2) (N := 2) rfl (As := []) (rest := [.int p1]) rfl (Nat.le_of_ble_eq_true rfl) ⟨Nat.le_of_ble_eq_true rfl, Nat.le_of_ble_eq_true rfl⟩ ⟨rfl, rfl⟩ ⟨Nat.zero_le _, Nat.zero_le _⟩ dX7_has_9 ?_
    refine g_icmp_ge hx 12 19 dX7_has_12 (by decide) (fun hc_150 => ?_) (fun hc_150 => ?_)
    · have hr := (if_pos hc_150).symm.trans hr
      refine g_iconst hx 19 (0) dX7_has_19 rfl ?_
      exact g_zret hx hR 20 (Or.inl rfl) dX7_has_20 ⟨by rw [← hr] <;> rfl, rfl⟩
    · have hr := (if_neg hc_150).symm.trans hr
      refine g_iconst hx 15 (1) dX7_has_15 rfl ?_
      refine g_goto hx 16 20 dX7_has_16 (by decide) ?_
      exact g_zret hx hR 20 (Or.inr rfl) dX7_has_20 ⟨by rw [← hr] <;> rfl, rfl⟩
theorem bo_Sl_has (M : StM) (p1 : Int32) : Sl_has M p1 = 0 ∨ Sl_has M p1 = 1 := by
  unfold Sl_has
  (repeat' split) <;> first | exact Or.inl rfl | exact Or.inr rfl | exact bo_Rw_isWrong ..
def Sl_add (M : StM) (p1 p2 p3 : Int32) : StM := setL (setL (setL (setL M 11 (lnadd 16 (M.2 11) p1)) 12 (lnadd 16 (M.2 12) p2)) 13 (lnadd 16 (M.2 13) p3)) 14 (lnadd 16 (M.2 14) 0)
set_option maxRecDepth 100000 in
set_option maxHeartbeats 4000000 in
theorem c_Sl_add (l : Launch) (g : Gl) (σ : Hp) (S : Nat) (M : StM) (p1 p2 p3 : Int32) {r : StM} (hr : Sl_add M p1 p2 p3 = r) : MG l g md_Sl_add [.ref (S + 24), .int p1, .int p2, .int p3] (putSt σ S M) (rs none (putSt σ S r)) := by
  refine MG.intro (by decide +kernel) (Nat.le_of_ble_eq_true rfl) (fun X hx hR _ => ?_)
  unfold Sl_add at hr
  refine g_ls [0, 1, 2, 3] [(0, .ref (S + 24)), (1, .int p1), (2, .int p2), (3, .int p3)] rfl ?_
  refine g_aload_n hx 0 (i := 0) 0 dX7_add_0 rfl rfl ?_
  refine g_get hx 1 (C := RX7) (T := TX7) (N := 4) 0 (.ref (S + 25)) (pS σ S M 24 (by decide)) rfl (by decide) rfl fl_X7_14 dX7_add_1 ?_
  refine g_iload_n hx 4 (i := 1) 1 dX7_add_4 rfl rfl ?_
  refine g_callVv hx (k_add l g (pS_l11 σ S M) (by decide) p1) lk_X7_33 ar_Ln_add (pS_l11 σ S M).1 (T := TX2) (N := 2) rfl (As := [.int p1]) (rest := []) rfl (Nat.le_of_ble_eq_true rfl) ⟨Nat.le_of_ble_eq_true rfl, Nat.le_of_ble_eq_true rfl⟩ ⟨rfl, rfl⟩ ⟨Nat.zero_le _, Nat.zero_le _⟩ dX7_add_5 ?_
  refine G.heap (pS_p11 σ S M (lnadd 16 (M.2 11) p1)) ?_
  refine g_aload_n hx 8 (i := 0) 0 dX7_add_8 rfl rfl ?_
  refine g_get hx 9 (C := RX7) (T := TX7) (N := 4) 1 (.ref (S + 27)) (pS σ S (setL M 11 (lnadd 16 (M.2 11) p1)) 24 (by decide)) rfl (by decide) rfl fl_X7_20 dX7_add_9 ?_
  refine g_iload_n hx 12 (i := 2) 2 dX7_add_12 rfl rfl ?_
  refine g_callVv hx (k_add l g (pS_l12 σ S (setL M 11 (lnadd 16 (M.2 11) p1))) (by decide) p2) lk_X7_33 ar_Ln_add (pS_l12 σ S (setL M 11 (lnadd 16 (M.2 11) p1))).1 (T := TX2) (N := 2) rfl (As := [.int p2]) (rest := []) rfl (Nat.le_of_ble_eq_true rfl) ⟨Nat.le_of_ble_eq_true rfl, Nat.le_of_ble_eq_true rfl⟩ ⟨rfl, rfl⟩ ⟨Nat.zero_le _, Nat.zero_le _⟩ dX7_add_13 ?_
  refine G.heap (pS_p12 σ S (setL M 11 (lnadd 16 (M.2 11) p1)) (lnadd 16 (M.2 12) p2)) ?_
  refine g_aload_n hx 16 (i := 0) 0 dX7_add_16 rfl rfl ?_
  refine g_get hx 17 (C := RX7) (T := TX7) (N := 4) 2 (.ref (S + 29)) (pS σ S (setL (setL M 11 (lnadd 16 (M.2 11) p1)) 12 (lnadd 16 (M.2 12) p2)) 24 (by decide)) rfl (by decide) rfl fl_X7_23 dX7_add_17 ?_
  refine g_iload_n hx 20 (i := 3) 3 dX7_add_20 rfl rfl ?_
  refine g_callVv hx (k_add l g (pS_l13 σ S (setL (setL M 11 (lnadd 16 (M.2 11) p1)) 12 (lnadd 16 (M.2 12) p2))) (by decide) p3) lk_X7_33 ar_Ln_add (pS_l13 σ S (setL (setL M 11 (lnadd 16 (M.2 11) p1)) 12 (lnadd 16 (M.2 12) p2))).1 (T := TX2) (N := 2) rfl (As := [.int p3]) (rest := []) rfl (Nat.le_of_ble_eq_true rfl) ⟨Nat.le_of_ble_eq_true rfl, Nat.le_of_ble_eq_true rfl⟩ ⟨rfl, rfl⟩ ⟨Nat.zero_le _, Nat.zero_le _⟩ dX7_add_21 ?_
  refine G.heap (pS_p13 σ S (setL (setL M 11 (lnadd 16 (M.2 11) p1)) 12 (lnadd 16 (M.2 12) p2)) (lnadd 16 (M.2 13) p3)) ?_
  refine g_aload_n hx 24 (i := 0) 0 dX7_add_24 rfl rfl ?_
  refine g_get hx 25 (C := RX7) (T := TX7) (N := 4) 3 (.ref (S + 31)) (pS σ S (setL (setL (setL M 11 (lnadd 16 (M.2 11) p1)) 12 (lnadd 16 (M.2 12) p2)) 13 (lnadd 16 (M.2 13) p3)) 24 (by decide)) rfl (by decide) rfl fl_X7_26 dX7_add_25 ?_
  refine g_iconst hx 28 (0) dX7_add_28 rfl ?_
  refine g_callVv hx (k_add l g (pS_l14 σ S (setL (setL (setL M 11 (lnadd 16 (M.2 11) p1)) 12 (lnadd 16 (M.2 12) p2)) 13 (lnadd 16 (M.2 13) p3))) (by decide) 0) lk_X7_33 ar_Ln_add (pS_l14 σ S (setL (setL (setL M 11 (lnadd 16 (M.2 11) p1)) 12 (lnadd 16 (M.2 12) p2)) 13 (lnadd 16 (M.2 13) p3))).1 (T := TX2) (N := 2) rfl (As := [.int 0]) (rest := []) rfl (Nat.le_of_ble_eq_true rfl) ⟨Nat.le_of_ble_eq_true rfl, Nat.le_of_ble_eq_true rfl⟩ ⟨rfl, rfl⟩ ⟨Nat.zero_le _, Nat.zero_le _⟩ dX7_add_29 ?_
  refine G.heap (pS_p14 σ S (setL (setL (setL M 11 (lnadd 16 (M.2 11) p1)) 12 (lnadd 16 (M.2 12) p2)) 13 (lnadd 16 (M.2 13) p3)) (lnadd 16 (M.2 14) 0)) ?_
  exact g_vret hx hR 32 dX7_add_32 ⟨rfl, by rw [← hr] <;> rfl⟩
def Sl_removeAt (M : StM) (p1 : Int32) : StM := setL (setL (setL (setL M 11 (lnrem (M.2 11) p1)) 12 (lnrem (M.2 12) p1)) 13 (lnrem (M.2 13) p1)) 14 (lnrem (M.2 14) p1)
set_option maxRecDepth 100000 in
set_option maxHeartbeats 4000000 in
theorem c_Sl_removeAt (l : Launch) (g : Gl) (σ : Hp) (S : Nat) (M : StM) (p1 : Int32) {r : StM} (hr : Sl_removeAt M p1 = r) : MG l g md_Sl_removeAt [.ref (S + 24), .int p1] (putSt σ S M) (rs none (putSt σ S r)) := by
  refine MG.intro (by decide +kernel) (Nat.le_of_ble_eq_true rfl) (fun X hx hR _ => ?_)
  unfold Sl_removeAt at hr
  refine g_ls [0, 1] [(0, .ref (S + 24)), (1, .int p1)] rfl ?_
  refine g_aload_n hx 0 (i := 0) 0 dX7_removeAt_0 rfl rfl ?_
  refine g_get hx 1 (C := RX7) (T := TX7) (N := 4) 0 (.ref (S + 25)) (pS σ S M 24 (by decide)) rfl (by decide) rfl fl_X7_14 dX7_removeAt_1 ?_
  refine g_iload_n hx 4 (i := 1) 1 dX7_removeAt_4 rfl rfl ?_
  refine g_callVv hx (k_removeAt l g (pS_l11 σ S M) (by decide) p1) lk_X7_36 ar_Ln_removeAt (pS_l11 σ S M).1 (T := TX2) (N := 2) rfl (As := [.int p1]) (rest := []) rfl (Nat.le_of_ble_eq_true rfl) ⟨Nat.le_of_ble_eq_true rfl, Nat.le_of_ble_eq_true rfl⟩ ⟨rfl, rfl⟩ ⟨Nat.zero_le _, Nat.zero_le _⟩ dX7_removeAt_5 ?_
  refine G.heap (pS_p11 σ S M (lnrem (M.2 11) p1)) ?_
  refine g_aload_n hx 8 (i := 0) 0 dX7_removeAt_8 rfl rfl ?_
  refine g_get hx 9 (C := RX7) (T := TX7) (N := 4) 1 (.ref (S + 27)) (pS σ S (setL M 11 (lnrem (M.2 11) p1)) 24 (by decide)) rfl (by decide) rfl fl_X7_20 dX7_removeAt_9 ?_
  refine g_iload_n hx 12 (i := 1) 1 dX7_removeAt_12 rfl rfl ?_
  refine g_callVv hx (k_removeAt l g (pS_l12 σ S (setL M 11 (lnrem (M.2 11) p1))) (by decide) p1) lk_X7_36 ar_Ln_removeAt (pS_l12 σ S (setL M 11 (lnrem (M.2 11) p1))).1 (T := TX2) (N := 2) rfl (As := [.int p1]) (rest := []) rfl (Nat.le_of_ble_eq_true rfl) ⟨Nat.le_of_ble_eq_true rfl, Nat.le_of_ble_eq_true rfl⟩ ⟨rfl, rfl⟩ ⟨Nat.zero_le _, Nat.zero_le _⟩ dX7_removeAt_13 ?_
  refine G.heap (pS_p12 σ S (setL M 11 (lnrem (M.2 11) p1)) (lnrem (M.2 12) p1)) ?_
  refine g_aload_n hx 16 (i := 0) 0 dX7_removeAt_16 rfl rfl ?_
  refine g_get hx 17 (C := RX7) (T := TX7) (N := 4) 2 (.ref (S + 29)) (pS σ S (setL (setL M 11 (lnrem (M.2 11) p1)) 12 (lnrem (M.2 12) p1)) 24 (by decide)) rfl (by decide) rfl fl_X7_23 dX7_removeAt_17 ?_
  refine g_iload_n hx 20 (i := 1) 1 dX7_removeAt_20 rfl rfl ?_
  refine g_callVv hx (k_removeAt l g (pS_l13 σ S (setL (setL M 11 (lnrem (M.2 11) p1)) 12 (lnrem (M.2 12) p1))) (by decide) p1) lk_X7_36 ar_Ln_removeAt (pS_l13 σ S (setL (setL M 11 (lnrem (M.2 11) p1)) 12 (lnrem (M.2 12) p1))).1 (T := TX2) (N := 2) rfl (As := [.int p1]) (rest := []) rfl (Nat.le_of_ble_eq_true rfl) ⟨Nat.le_of_ble_eq_true rfl, Nat.le_of_ble_eq_true rfl⟩ ⟨rfl, rfl⟩ ⟨Nat.zero_le _, Nat.zero_le _⟩ dX7_removeAt_21 ?_
  refine G.heap (pS_p13 σ S (setL (setL M 11 (lnrem (M.2 11) p1)) 12 (lnrem (M.2 12) p1)) (lnrem (M.2 13) p1)) ?_
  refine g_aload_n hx 24 (i := 0) 0 dX7_removeAt_24 rfl rfl ?_
  refine g_get hx 25 (C := RX7) (T := TX7) (N := 4) 3 (.ref (S + 31)) (pS σ S (setL (setL (setL M 11 (lnrem (M.2 11) p1)) 12 (lnrem (M.2 12) p1)) 13 (lnrem (M.2 13) p1)) 24 (by decide)) rfl (by decide) rfl fl_X7_26 dX7_removeAt_25 ?_
  refine g_iload_n hx 28 (i := 1) 1 dX7_removeAt_28 rfl rfl ?_
  refine g_callVv hx (k_removeAt l g (pS_l14 σ S (setL (setL (setL M 11 (lnrem (M.2 11) p1)) 12 (lnrem (M.2 12) p1)) 13 (lnrem (M.2 13) p1))) (by decide) p1) lk_X7_36 ar_Ln_removeAt (pS_l14 σ S (setL (setL (setL M 11 (lnrem (M.2 11) p1)) 12 (lnrem (M.2 12) p1)) 13 (lnrem (M.2 13) p1))).1 (T := TX2) (N := 2) rfl (As := [.int p1]) (rest := []) rfl (Nat.le_of_ble_eq_true rfl) ⟨Nat.le_of_ble_eq_true rfl, Nat.le_of_ble_eq_true rfl⟩ ⟨rfl, rfl⟩ ⟨Nat.zero_le _, Nat.zero_le _⟩ dX7_removeAt_29 ?_
  refine G.heap (pS_p14 σ S (setL (setL (setL M 11 (lnrem (M.2 11) p1)) 12 (lnrem (M.2 12) p1)) 13 (lnrem (M.2 13) p1)) (lnrem (M.2 14) p1)) ?_
  exact g_vret hx hR 32 dX7_removeAt_32 ⟨rfl, by rw [← hr] <;> rfl⟩
def Sl_placeFor_L2 (M : StM) : Nat → Int32 → Int32 → Int32 → Option (Int32)
  | 0, _, _, _ => none
  | n + 1, v1_151, v2_152, v3_153 => if nI (M.2 11).length ≤ v3_153 then (some ((-1))) else (if lnget (M.2 11) v3_153 = v1_151 then (if lnget (M.2 12) v3_153 = v2_152 then (some (v3_153)) else (Sl_placeFor_L2 M n v1_151 v2_152 (v3_153 + 1))) else (Sl_placeFor_L2 M n v1_151 v2_152 (v3_153 + 1)))
def Sl_placeFor (M : StM) (p1 p2 : Int32) : Option (Int32) := Sl_placeFor_L2 M FU p1 p2 0
set_option maxRecDepth 100000 in
set_option maxHeartbeats 4000000 in
theorem w_Sl_placeFor_L2 {X : Cx} {l : Launch} {g : Gl} (hx : Ok X l g RX7 cX7_placeFor 4 md_Sl_placeFor.rm) {σ : Hp} {S : Nat} {M : StM} {r : Int32} (hR : Ret X (rs (some (.int r)) (putSt σ S M)) 0 0 (some .int)) : ∀ (n : Nat) (v1_151 v2_152 v3_153 : Int32), Sl_placeFor_L2 M n v1_151 v2_152 v3_153 = some r → G X (putSt σ S M) 0 0 2 [(0, .ref (S + 24)), (1, .int v1_151), (2, .int v2_152), (3, .int v3_153)] [] := by
  intro n
  induction n with
  | zero =>
    intro v1_151 v2_152 v3_153 hr
    rw [Sl_placeFor_L2] at hr
    cases hr
  | succ n ih =>
    intro v1_151 v2_152 v3_153 hr
    rw [Sl_placeFor_L2] at hr
    refine g_iload_n hx 2 (i := 3) 3 dX7_placeFor_2 rfl rfl ?_
    refine g_aload_n hx 3 (i := 0) 0 dX7_placeFor_3 rfl rfl ?_
    refine g_get hx 4 (C := RX7) (T := TX7) (N := 4) 0 (.ref (S + 25)) (pS σ S M 24 (by decide)) rfl (by decide) rfl fl_X7_14 dX7_placeFor_4 ?_
    refine g_callVr hx (k_count l g (pS_l11 σ S M) (by decide) ) lk_X7_29 ar_Ln_count (pS_l11 σ S M).1 (T := TX2) (N := 2) rfl (As := []) (rest := [.int v3_153]) rfl (Nat.le_of_ble_eq_true rfl) ⟨Nat.le_of_ble_eq_true rfl, Nat.le_of_ble_eq_true rfl⟩ ⟨rfl, rfl⟩ ⟨Nat.zero_le _, Nat.zero_le _⟩ dX7_placeFor_7 ?_
    refine g_icmp_ge hx 10 45 dX7_placeFor_10 (by decide) (fun hc_154 => ?_) (fun hc_154 => ?_)
    · have hr := (if_pos hc_154).symm.trans hr
      refine g_iconst hx 45 (-1) dX7_placeFor_45 rfl ?_
      exact g_iret hx hR 46 dX7_placeFor_46 ⟨by rw [← Option.some.inj hr] <;> rfl, rfl⟩
    · have hr := (if_neg hc_154).symm.trans hr
      refine g_aload_n hx 13 (i := 0) 0 dX7_placeFor_13 rfl rfl ?_
      refine g_get hx 14 (C := RX7) (T := TX7) (N := 4) 0 (.ref (S + 25)) (pS σ S M 24 (by decide)) rfl (by decide) rfl fl_X7_14 dX7_placeFor_14 ?_
      refine g_iload_n hx 17 (i := 3) 3 dX7_placeFor_17 rfl rfl ?_
      refine g_callVr hx (k_get l g (pS_l11 σ S M) (by decide) v3_153) lk_X7_39 ar_Ln_get (pS_l11 σ S M).1 (T := TX2) (N := 2) rfl (As := [.int v3_153]) (rest := []) rfl (Nat.le_of_ble_eq_true rfl) ⟨Nat.le_of_ble_eq_true rfl, Nat.le_of_ble_eq_true rfl⟩ ⟨rfl, rfl⟩ ⟨Nat.zero_le _, Nat.zero_le _⟩ dX7_placeFor_18 ?_
      refine g_iload_n hx 21 (i := 1) 1 dX7_placeFor_21 rfl rfl ?_
      refine g_icmp_ne hx 22 39 dX7_placeFor_22 (by decide) (fun hc_155 => ?_) (fun hc_155 => ?_)
      · have hr := (if_neg hc_155).symm.trans hr
        refine g_iinc hx 39 (i := 3) 3 (v3_153 + 1) [(3, .int (v3_153 + 1)), (0, .ref (S + 24)), (1, .int v1_151), (2, .int v2_152)] dX7_placeFor_39 rfl rfl (by decide) rfl ?_
        refine g_goto hx 42 2 dX7_placeFor_42 (by decide) ?_
        refine g_ls [1, 2, 3, 0] [(0, .ref (S + 24)), (1, .int v1_151), (2, .int v2_152), (3, .int (v3_153 + 1))] rfl ?_
        exact ih v1_151 v2_152 (v3_153 + 1) hr
      · have hr := (if_pos hc_155).symm.trans hr
        refine g_aload_n hx 25 (i := 0) 0 dX7_placeFor_25 rfl rfl ?_
        refine g_get hx 26 (C := RX7) (T := TX7) (N := 4) 1 (.ref (S + 27)) (pS σ S M 24 (by decide)) rfl (by decide) rfl fl_X7_20 dX7_placeFor_26 ?_
        refine g_iload_n hx 29 (i := 3) 3 dX7_placeFor_29 rfl rfl ?_
        refine g_callVr hx (k_get l g (pS_l12 σ S M) (by decide) v3_153) lk_X7_39 ar_Ln_get (pS_l12 σ S M).1 (T := TX2) (N := 2) rfl (As := [.int v3_153]) (rest := []) rfl (Nat.le_of_ble_eq_true rfl) ⟨Nat.le_of_ble_eq_true rfl, Nat.le_of_ble_eq_true rfl⟩ ⟨rfl, rfl⟩ ⟨Nat.zero_le _, Nat.zero_le _⟩ dX7_placeFor_30 ?_
        refine g_iload_n hx 33 (i := 2) 2 dX7_placeFor_33 rfl rfl ?_
        refine g_icmp_ne hx 34 39 dX7_placeFor_34 (by decide) (fun hc_156 => ?_) (fun hc_156 => ?_)
        · have hr := (if_neg hc_156).symm.trans hr
          refine g_iinc hx 39 (i := 3) 3 (v3_153 + 1) [(3, .int (v3_153 + 1)), (0, .ref (S + 24)), (1, .int v1_151), (2, .int v2_152)] dX7_placeFor_39 rfl rfl (by decide) rfl ?_
          refine g_goto hx 42 2 dX7_placeFor_42 (by decide) ?_
          refine g_ls [1, 2, 3, 0] [(0, .ref (S + 24)), (1, .int v1_151), (2, .int v2_152), (3, .int (v3_153 + 1))] rfl ?_
          exact ih v1_151 v2_152 (v3_153 + 1) hr
        · have hr := (if_pos hc_156).symm.trans hr
          refine g_iload_n hx 37 (i := 3) 3 dX7_placeFor_37 rfl rfl ?_
          exact g_iret hx hR 38 dX7_placeFor_38 ⟨by rw [← Option.some.inj hr] <;> rfl, rfl⟩
set_option maxRecDepth 100000 in
set_option maxHeartbeats 4000000 in
theorem c_Sl_placeFor (l : Launch) (g : Gl) (σ : Hp) (S : Nat) (M : StM) (p1 p2 : Int32) {r : Int32} (hr : Sl_placeFor M p1 p2 = some r) : MG l g md_Sl_placeFor [.ref (S + 24), .int p1, .int p2] (putSt σ S M) (rs (some (.int r)) (putSt σ S M)) := by
  refine MG.intro (by decide +kernel) (Nat.le_of_ble_eq_true rfl) (fun X hx hR _ => ?_)
  unfold Sl_placeFor at hr
  refine g_ls [0, 1, 2] [(0, .ref (S + 24)), (1, .int p1), (2, .int p2)] rfl ?_
  refine g_iconst hx 0 (0) dX7_placeFor_0 rfl ?_
  refine g_istore_n hx 1 (i := 3) [(3, .int 0), (0, .ref (S + 24)), (1, .int p1), (2, .int p2)] dX7_placeFor_1 rfl (by decide) rfl ?_
  refine g_ls [1, 2, 3, 0] [(0, .ref (S + 24)), (1, .int p1), (2, .int p2), (3, .int 0)] rfl ?_
  exact w_Sl_placeFor_L2 hx hR FU p1 p2 0 hr
def Sl_clear (M : StM) : StM := setL (setL (setL (setL M 11 ([])) 12 ([])) 13 ([])) 14 ([])
set_option maxRecDepth 100000 in
set_option maxHeartbeats 4000000 in
theorem c_Sl_clear (l : Launch) (g : Gl) (σ : Hp) (S : Nat) (M : StM) {r : StM} (hr : Sl_clear M = r) : MG l g md_Sl_clear [.ref (S + 24)] (putSt σ S M) (rs none (putSt σ S r)) := by
  refine MG.intro (by decide +kernel) (Nat.le_of_ble_eq_true rfl) (fun X hx hR _ => ?_)
  unfold Sl_clear at hr
  refine g_ls [0] [(0, .ref (S + 24))] rfl ?_
  refine g_aload_n hx 0 (i := 0) 0 dX7_clear_0 rfl rfl ?_
  refine g_get hx 1 (C := RX7) (T := TX7) (N := 4) 0 (.ref (S + 25)) (pS σ S M 24 (by decide)) rfl (by decide) rfl fl_X7_14 dX7_clear_1 ?_
  refine g_callVv hx (k_clear l g (pS_l11 σ S M) (by decide)) lk_X7_43 ar_Ln_clear (pS_l11 σ S M).1 (T := TX2) (N := 2) rfl (As := []) (rest := []) rfl (Nat.le_of_ble_eq_true rfl) ⟨Nat.le_of_ble_eq_true rfl, Nat.le_of_ble_eq_true rfl⟩ ⟨rfl, rfl⟩ ⟨Nat.zero_le _, Nat.zero_le _⟩ dX7_clear_4 ?_
  refine G.heap (pS_p11 σ S M ([])) ?_
  refine g_aload_n hx 7 (i := 0) 0 dX7_clear_7 rfl rfl ?_
  refine g_get hx 8 (C := RX7) (T := TX7) (N := 4) 1 (.ref (S + 27)) (pS σ S (setL M 11 ([])) 24 (by decide)) rfl (by decide) rfl fl_X7_20 dX7_clear_8 ?_
  refine g_callVv hx (k_clear l g (pS_l12 σ S (setL M 11 ([]))) (by decide)) lk_X7_43 ar_Ln_clear (pS_l12 σ S (setL M 11 ([]))).1 (T := TX2) (N := 2) rfl (As := []) (rest := []) rfl (Nat.le_of_ble_eq_true rfl) ⟨Nat.le_of_ble_eq_true rfl, Nat.le_of_ble_eq_true rfl⟩ ⟨rfl, rfl⟩ ⟨Nat.zero_le _, Nat.zero_le _⟩ dX7_clear_11 ?_
  refine G.heap (pS_p12 σ S (setL M 11 ([])) ([])) ?_
  refine g_aload_n hx 14 (i := 0) 0 dX7_clear_14 rfl rfl ?_
  refine g_get hx 15 (C := RX7) (T := TX7) (N := 4) 2 (.ref (S + 29)) (pS σ S (setL (setL M 11 ([])) 12 ([])) 24 (by decide)) rfl (by decide) rfl fl_X7_23 dX7_clear_15 ?_
  refine g_callVv hx (k_clear l g (pS_l13 σ S (setL (setL M 11 ([])) 12 ([]))) (by decide)) lk_X7_43 ar_Ln_clear (pS_l13 σ S (setL (setL M 11 ([])) 12 ([]))).1 (T := TX2) (N := 2) rfl (As := []) (rest := []) rfl (Nat.le_of_ble_eq_true rfl) ⟨Nat.le_of_ble_eq_true rfl, Nat.le_of_ble_eq_true rfl⟩ ⟨rfl, rfl⟩ ⟨Nat.zero_le _, Nat.zero_le _⟩ dX7_clear_18 ?_
  refine G.heap (pS_p13 σ S (setL (setL M 11 ([])) 12 ([])) ([])) ?_
  refine g_aload_n hx 21 (i := 0) 0 dX7_clear_21 rfl rfl ?_
  refine g_get hx 22 (C := RX7) (T := TX7) (N := 4) 3 (.ref (S + 31)) (pS σ S (setL (setL (setL M 11 ([])) 12 ([])) 13 ([])) 24 (by decide)) rfl (by decide) rfl fl_X7_26 dX7_clear_22 ?_
  refine g_callVv hx (k_clear l g (pS_l14 σ S (setL (setL (setL M 11 ([])) 12 ([])) 13 ([]))) (by decide)) lk_X7_43 ar_Ln_clear (pS_l14 σ S (setL (setL (setL M 11 ([])) 12 ([])) 13 ([]))).1 (T := TX2) (N := 2) rfl (As := []) (rest := []) rfl (Nat.le_of_ble_eq_true rfl) ⟨Nat.le_of_ble_eq_true rfl, Nat.le_of_ble_eq_true rfl⟩ ⟨rfl, rfl⟩ ⟨Nat.zero_le _, Nat.zero_le _⟩ dX7_clear_25 ?_
  refine G.heap (pS_p14 σ S (setL (setL (setL M 11 ([])) 12 ([])) 13 ([])) ([])) ?_
  exact g_vret hx hR 28 dX7_clear_28 ⟨rfl, by rw [← hr] <;> rfl⟩
def Sl_copyFrom (M2 : StM) (M : StM) : StM := setL (setL (setL (setL M 11 ((M2.2 11).take 16)) 12 ((M2.2 12).take 16)) 13 ((M2.2 13).take 16)) 14 ((M2.2 14).take 16)
set_option maxRecDepth 100000 in
set_option maxHeartbeats 4000000 in
theorem c_Sl_copyFrom {S2 : Nat} {M2 : StM} {σ : Hp} {S : Nat} (h2 : isSt σ S2 M2) (hd : S2 + 35 ≤ S ∨ S + 35 ≤ S2) (l : Launch) (g : Gl) (M : StM) {r : StM} (hr : Sl_copyFrom M2 M = r) : MG l g md_Sl_copyFrom [.ref (S + 24), .ref (S2 + 24)] (putSt σ S M) (rs none (putSt σ S r)) := by
  refine MG.intro (by decide +kernel) (Nat.le_of_ble_eq_true rfl) (fun X hx hR _ => ?_)
  unfold Sl_copyFrom at hr
  refine g_ls [0, 1] [(0, .ref (S + 24)), (1, .ref (S2 + 24))] rfl ?_
  refine g_aload_n hx 0 (i := 0) 0 dX7_copyFrom_0 rfl rfl ?_
  refine g_get hx 1 (C := RX7) (T := TX7) (N := 4) 0 (.ref (S + 25)) (pS σ S M 24 (by decide)) rfl (by decide) rfl fl_X7_14 dX7_copyFrom_1 ?_
  refine g_aload_n hx 4 (i := 1) 1 dX7_copyFrom_4 rfl rfl ?_
  refine g_get hx 5 (C := RX7) (T := TX7) (N := 4) 0 (.ref (S2 + 25)) (pO (M := M) h2 hd 24 (by decide)) rfl (by decide) rfl fl_X7_14 dX7_copyFrom_5 ?_
  refine g_callVv hx (k_copyFrom l g (pS_l11 σ S M) (pO_l11 (M := M) h2 hd) (by decide) (by decide) ⟨by omega, by omega, by omega, by omega⟩) lk_X7_46 ar_Ln_copyFrom (pS_l11 σ S M).1 (T := TX2) (N := 2) rfl (As := [.ref (S2 + 25)]) (rest := []) rfl (Nat.le_of_ble_eq_true rfl) ⟨Nat.le_of_ble_eq_true rfl, Nat.le_of_ble_eq_true rfl⟩ ⟨rfl, rfl⟩ ⟨Nat.zero_le _, Nat.zero_le _⟩ dX7_copyFrom_8 ?_
  refine G.heap (pS_p11 σ S M ((M2.2 11).take 16)) ?_
  refine g_aload_n hx 11 (i := 0) 0 dX7_copyFrom_11 rfl rfl ?_
  refine g_get hx 12 (C := RX7) (T := TX7) (N := 4) 1 (.ref (S + 27)) (pS σ S (setL M 11 ((M2.2 11).take 16)) 24 (by decide)) rfl (by decide) rfl fl_X7_20 dX7_copyFrom_12 ?_
  refine g_aload_n hx 15 (i := 1) 1 dX7_copyFrom_15 rfl rfl ?_
  refine g_get hx 16 (C := RX7) (T := TX7) (N := 4) 1 (.ref (S2 + 27)) (pO (M := setL M 11 ((M2.2 11).take 16)) h2 hd 24 (by decide)) rfl (by decide) rfl fl_X7_20 dX7_copyFrom_16 ?_
  refine g_callVv hx (k_copyFrom l g (pS_l12 σ S (setL M 11 ((M2.2 11).take 16))) (pO_l12 (M := setL M 11 ((M2.2 11).take 16)) h2 hd) (by decide) (by decide) ⟨by omega, by omega, by omega, by omega⟩) lk_X7_46 ar_Ln_copyFrom (pS_l12 σ S (setL M 11 ((M2.2 11).take 16))).1 (T := TX2) (N := 2) rfl (As := [.ref (S2 + 27)]) (rest := []) rfl (Nat.le_of_ble_eq_true rfl) ⟨Nat.le_of_ble_eq_true rfl, Nat.le_of_ble_eq_true rfl⟩ ⟨rfl, rfl⟩ ⟨Nat.zero_le _, Nat.zero_le _⟩ dX7_copyFrom_19 ?_
  refine G.heap (pS_p12 σ S (setL M 11 ((M2.2 11).take 16)) ((M2.2 12).take 16)) ?_
  refine g_aload_n hx 22 (i := 0) 0 dX7_copyFrom_22 rfl rfl ?_
  refine g_get hx 23 (C := RX7) (T := TX7) (N := 4) 2 (.ref (S + 29)) (pS σ S (setL (setL M 11 ((M2.2 11).take 16)) 12 ((M2.2 12).take 16)) 24 (by decide)) rfl (by decide) rfl fl_X7_23 dX7_copyFrom_23 ?_
  refine g_aload_n hx 26 (i := 1) 1 dX7_copyFrom_26 rfl rfl ?_
  refine g_get hx 27 (C := RX7) (T := TX7) (N := 4) 2 (.ref (S2 + 29)) (pO (M := setL (setL M 11 ((M2.2 11).take 16)) 12 ((M2.2 12).take 16)) h2 hd 24 (by decide)) rfl (by decide) rfl fl_X7_23 dX7_copyFrom_27 ?_
  refine g_callVv hx (k_copyFrom l g (pS_l13 σ S (setL (setL M 11 ((M2.2 11).take 16)) 12 ((M2.2 12).take 16))) (pO_l13 (M := setL (setL M 11 ((M2.2 11).take 16)) 12 ((M2.2 12).take 16)) h2 hd) (by decide) (by decide) ⟨by omega, by omega, by omega, by omega⟩) lk_X7_46 ar_Ln_copyFrom (pS_l13 σ S (setL (setL M 11 ((M2.2 11).take 16)) 12 ((M2.2 12).take 16))).1 (T := TX2) (N := 2) rfl (As := [.ref (S2 + 29)]) (rest := []) rfl (Nat.le_of_ble_eq_true rfl) ⟨Nat.le_of_ble_eq_true rfl, Nat.le_of_ble_eq_true rfl⟩ ⟨rfl, rfl⟩ ⟨Nat.zero_le _, Nat.zero_le _⟩ dX7_copyFrom_30 ?_
  refine G.heap (pS_p13 σ S (setL (setL M 11 ((M2.2 11).take 16)) 12 ((M2.2 12).take 16)) ((M2.2 13).take 16)) ?_
  refine g_aload_n hx 33 (i := 0) 0 dX7_copyFrom_33 rfl rfl ?_
  refine g_get hx 34 (C := RX7) (T := TX7) (N := 4) 3 (.ref (S + 31)) (pS σ S (setL (setL (setL M 11 ((M2.2 11).take 16)) 12 ((M2.2 12).take 16)) 13 ((M2.2 13).take 16)) 24 (by decide)) rfl (by decide) rfl fl_X7_26 dX7_copyFrom_34 ?_
  refine g_aload_n hx 37 (i := 1) 1 dX7_copyFrom_37 rfl rfl ?_
  refine g_get hx 38 (C := RX7) (T := TX7) (N := 4) 3 (.ref (S2 + 31)) (pO (M := setL (setL (setL M 11 ((M2.2 11).take 16)) 12 ((M2.2 12).take 16)) 13 ((M2.2 13).take 16)) h2 hd 24 (by decide)) rfl (by decide) rfl fl_X7_26 dX7_copyFrom_38 ?_
  refine g_callVv hx (k_copyFrom l g (pS_l14 σ S (setL (setL (setL M 11 ((M2.2 11).take 16)) 12 ((M2.2 12).take 16)) 13 ((M2.2 13).take 16))) (pO_l14 (M := setL (setL (setL M 11 ((M2.2 11).take 16)) 12 ((M2.2 12).take 16)) 13 ((M2.2 13).take 16)) h2 hd) (by decide) (by decide) ⟨by omega, by omega, by omega, by omega⟩) lk_X7_46 ar_Ln_copyFrom (pS_l14 σ S (setL (setL (setL M 11 ((M2.2 11).take 16)) 12 ((M2.2 12).take 16)) 13 ((M2.2 13).take 16))).1 (T := TX2) (N := 2) rfl (As := [.ref (S2 + 31)]) (rest := []) rfl (Nat.le_of_ble_eq_true rfl) ⟨Nat.le_of_ble_eq_true rfl, Nat.le_of_ble_eq_true rfl⟩ ⟨rfl, rfl⟩ ⟨Nat.zero_le _, Nat.zero_le _⟩ dX7_copyFrom_41 ?_
  refine G.heap (pS_p14 σ S (setL (setL (setL M 11 ((M2.2 11).take 16)) 12 ((M2.2 12).take 16)) 13 ((M2.2 13).take 16)) ((M2.2 14).take 16)) ?_
  exact g_vret hx hR 44 dX7_copyFrom_44 ⟨rfl, by rw [← hr] <;> rfl⟩
