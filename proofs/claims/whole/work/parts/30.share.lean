def md_SA_foundShare : Md := (yX10_foundShare, cX10_foundShare, 2, some .float, 3, 69, 0, 0)
def md_SA_meanWait : Md := (yX10_meanWait, cX10_meanWait, 2, some .double, 1, 21, 0, 0)
def md_Md_foundShare : Md := (yX11_foundShare, cX11_foundShare, 1, some .float, 4, 90, 0, 0)
def md_Md_meanWait : Md := (yX11_meanWait, cX11_meanWait, 2, some .double, 1, 21, 0, 0)
def SA_foundShare (M : WM) : Option (UInt32 × WM) := lt' (nI ((M.1 9).2 7).length) fun v1_1597 => if v1_1597 = 0 then (some ((FP.fconst0, M))) else (Option.bind (Rw_missedByHalving (M.1 9)) fun q_1599 => if isNaN32 (FP.fdiv (FP.i2f (v1_1597 - q_1599.1)) (FP.i2f v1_1597)) = false then (some ((FP.fdiv (FP.i2f (v1_1597 - q_1599.1)) (FP.i2f v1_1597), setS M 9 q_1599.2))) else none)
set_option maxRecDepth 100000 in
set_option maxHeartbeats 4000000 in
theorem c_SA_foundShare {ad ae : Nat → Nat} (l : Launch) (g : Gl) (hC : KAll g ad ae) (σ : Hp) (B : Nat) (M : WM) {r : UInt32 × WM} (hr : SA_foundShare M = some r) : MG l g md_SA_foundShare [.ref B] (putW σ B ae M) (rs (some (.float r.1)) (putW σ B ae r.2)) := by
  refine MG.intro (by decide +kernel) (Nat.le_of_ble_eq_true rfl) (fun X hx hR _ => ?_)
  unfold SA_foundShare at hr
  refine g_ls [0] [(0, .ref B)] rfl ?_
  refine g_aload_n hx 0 (i := 0) 0 dX10_foundShare_0 rfl rfl ?_
  refine g_get hx 1 (C := RX10) (T := TX10) (N := 11) 6 (.ref (B + 332)) (pW σ B ae M 0 (by decide)) rfl (by decide) rfl fl_X10_50 dX10_foundShare_1 ?_
  refine g_get hx 4 (C := RX8) (T := TX8) (N := 15) 11 (.ref (B + 332 + 15)) (pW_st9 σ B ae M 0 (by decide)) rfl (by decide) rfl fl_X10_129 dX10_foundShare_4 ?_
  refine g_get hx 7 (C := RX5) (T := TX5) (N := 4) 0 (.ref (B + 332 + 16)) (pW_st9 σ B ae M 15 (by decide)) rfl (by decide) rfl fl_X10_133 dX10_foundShare_7 ?_
  refine g_callVr hx (k_count l g (st_l7 (pW_st9 σ B ae M)) (by decide)) lk_X10_79 ar_Ln_count (st_l7 (pW_st9 σ B ae M)).1 (T := TX2) (N := 2) rfl (As := []) (rest := []) rfl (Nat.le_of_ble_eq_true rfl) ⟨Nat.le_of_ble_eq_true rfl, Nat.le_of_ble_eq_true rfl⟩ ⟨rfl, rfl⟩ ⟨Nat.zero_le _, Nat.zero_le _⟩ dX10_foundShare_10 ?_
  obtain ⟨v1_1597, ev1_1597, hr⟩ := lt'_e hr
  refine g_nmi ev1_1597 ?_
  refine g_istore_n hx 13 (i := 1) [(1, .int v1_1597), (0, .ref B)] dX10_foundShare_13 rfl (by decide) rfl ?_
  refine g_iload_n hx 14 (i := 1) 0 dX10_foundShare_14 rfl rfl ?_
  refine g_if_ne hx 15 20 dX10_foundShare_15 (by decide) (fun hc_1598 => ?_) (fun hc_1598 => ?_)
  · have hr := (if_neg hc_1598).symm.trans hr
    refine g_iload_n hx 20 (i := 1) 0 dX10_foundShare_20 rfl rfl ?_
    refine g_aload_n hx 21 (i := 0) 1 dX10_foundShare_21 rfl rfl ?_
    refine g_get hx 22 (C := RX10) (T := TX10) (N := 11) 6 (.ref (B + 332)) (pW σ B ae M 0 (by decide)) rfl (by decide) rfl fl_X10_50 dX10_foundShare_22 ?_
    refine g_get hx 25 (C := RX8) (T := TX8) (N := 15) 11 (.ref (B + 332 + 15)) (pW_st9 σ B ae M 0 (by decide)) rfl (by decide) rfl fl_X10_129 dX10_foundShare_25 ?_
    obtain ⟨q_1599, eq_1599, hr⟩ := bind_e hr
    refine g_callVr hx (MG.at9 (w := M) (c_Rw_missedByHalving l g (putW σ B ae M) (B + 332) (M.1 9) eq_1599)) lk_X10_240 ar_Rw_missedByHalving (pW_st9 σ B ae M 15 (by decide)) (T := TX5) (N := 4) rfl (As := []) (rest := [.int v1_1597]) rfl (Nat.le_of_ble_eq_true rfl) ⟨Nat.le_of_ble_eq_true rfl, Nat.le_of_ble_eq_true rfl⟩ ⟨rfl, rfl⟩ ⟨Nat.zero_le _, Nat.zero_le _⟩ dX10_foundShare_28 ?_
    refine g_isub hx 31 dX10_foundShare_31 ?_
    refine g_i2f hx 32 dX10_foundShare_32 ?_
    refine g_iload_n hx 33 (i := 1) 0 dX10_foundShare_33 rfl rfl ?_
    refine g_i2f hx 34 dX10_foundShare_34 ?_
    obtain ⟨hn_1600, hr⟩ := ob hr
    refine g_fdiv hx 35 hn_1600 dX10_foundShare_35 ?_
    exact g_fret hx hR 36 dX10_foundShare_36 ⟨by rw [← Option.some.inj hr] <;> rfl, by rw [← Option.some.inj hr] <;> rfl⟩
  · have hr := (if_pos hc_1598).symm.trans hr
    refine g_fconst0 hx 18 dX10_foundShare_18 ?_
    exact g_fret hx hR 19 dX10_foundShare_19 ⟨by rw [← Option.some.inj hr] <;> rfl, by rw [← Option.some.inj hr] <;> rfl⟩
def SA_meanWait (M : WM) : Option (UInt64) := lt' (lnget ((M.1 9).2 15) 4) fun v1_1601 => if v1_1601 = 0 then (some (FP.dconst0)) else (if isNaN64 (FP.ddiv (FP.i2d (lnget ((M.1 9).2 15) 10)) (FP.i2d v1_1601)) = false then (some (FP.ddiv (FP.i2d (lnget ((M.1 9).2 15) 10)) (FP.i2d v1_1601))) else none)
set_option maxRecDepth 100000 in
set_option maxHeartbeats 4000000 in
theorem c_SA_meanWait {ad ae : Nat → Nat} (l : Launch) (g : Gl) (hC : KAll g ad ae) (σ : Hp) (B : Nat) (M : WM) {r : UInt64} (hr : SA_meanWait M = some r) : MG l g md_SA_meanWait [.ref B] (putW σ B ae M) (rs (some (.double r)) (putW σ B ae M)) := by
  refine MG.intro (by decide +kernel) (Nat.le_of_ble_eq_true rfl) (fun X hx hR _ => ?_)
  unfold SA_meanWait at hr
  refine g_ls [0] [(0, .ref B)] rfl ?_
  refine g_aload_n hx 0 (i := 0) 0 dX10_meanWait_0 rfl rfl ?_
  refine g_get hx 1 (C := RX10) (T := TX10) (N := 11) 6 (.ref (B + 332)) (pW σ B ae M 0 (by decide)) rfl (by decide) rfl fl_X10_50 dX10_meanWait_1 ?_
  refine g_get hx 4 (C := RX8) (T := TX8) (N := 15) 14 (.ref (B + 332 + 33)) (pW_st9 σ B ae M 0 (by decide)) rfl (by decide) rfl fl_X10_168 dX10_meanWait_4 ?_
  refine g_iconst hx 7 (4) dX10_meanWait_7 rfl ?_
  refine g_callVr hx (k_get l g (st_l15 (pW_st9 σ B ae M)) (by decide) 4) lk_X10_165 ar_Ln_get (st_l15 (pW_st9 σ B ae M)).1 (T := TX2) (N := 2) rfl (As := [.int 4]) (rest := []) rfl (Nat.le_of_ble_eq_true rfl) ⟨Nat.le_of_ble_eq_true rfl, Nat.le_of_ble_eq_true rfl⟩ ⟨rfl, rfl⟩ ⟨Nat.zero_le _, Nat.zero_le _⟩ dX10_meanWait_8 ?_
  obtain ⟨v1_1601, ev1_1601, hr⟩ := lt'_e hr
  refine g_nmi ev1_1601 ?_
  refine g_istore_n hx 11 (i := 1) [(1, .int v1_1601), (0, .ref B)] dX10_meanWait_11 rfl (by decide) rfl ?_
  refine g_iload_n hx 12 (i := 1) 0 dX10_meanWait_12 rfl rfl ?_
  refine g_if_ne hx 13 18 dX10_meanWait_13 (by decide) (fun hc_1602 => ?_) (fun hc_1602 => ?_)
  · have hr := (if_neg hc_1602).symm.trans hr
    refine g_aload_n hx 18 (i := 0) 1 dX10_meanWait_18 rfl rfl ?_
    refine g_get hx 19 (C := RX10) (T := TX10) (N := 11) 6 (.ref (B + 332)) (pW σ B ae M 0 (by decide)) rfl (by decide) rfl fl_X10_50 dX10_meanWait_19 ?_
    refine g_get hx 22 (C := RX8) (T := TX8) (N := 15) 14 (.ref (B + 332 + 33)) (pW_st9 σ B ae M 0 (by decide)) rfl (by decide) rfl fl_X10_168 dX10_meanWait_22 ?_
    refine g_bipush hx 25 (10) dX10_meanWait_25 rfl ?_
    refine g_callVr hx (k_get l g (st_l15 (pW_st9 σ B ae M)) (by decide) 10) lk_X10_165 ar_Ln_get (st_l15 (pW_st9 σ B ae M)).1 (T := TX2) (N := 2) rfl (As := [.int 10]) (rest := []) rfl (Nat.le_of_ble_eq_true rfl) ⟨Nat.le_of_ble_eq_true rfl, Nat.le_of_ble_eq_true rfl⟩ ⟨rfl, rfl⟩ ⟨Nat.zero_le _, Nat.zero_le _⟩ dX10_meanWait_27 ?_
    refine g_i2d hx 30 dX10_meanWait_30 ?_
    refine g_iload_n hx 31 (i := 1) 0 dX10_meanWait_31 rfl rfl ?_
    refine g_i2d hx 32 dX10_meanWait_32 ?_
    obtain ⟨hn_1603, hr⟩ := ob hr
    refine g_ddiv hx 33 hn_1603 dX10_meanWait_33 ?_
    exact g_dret hx hR 34 dX10_meanWait_34 ⟨by rw [← Option.some.inj hr] <;> rfl, rfl⟩
  · have hr := (if_pos hc_1602).symm.trans hr
    refine g_dconst0 hx 16 dX10_meanWait_16 ?_
    exact g_dret hx hR 17 dX10_meanWait_17 ⟨by rw [← Option.some.inj hr] <;> rfl, rfl⟩
def Md_foundShare (ρ : Nat) (M : MdM) : Option (UInt32 × MdM) := if (M.2 ρ) (6 : Int32).toNatClampNeg = 0 then (some ((FP.fconst0, setF M 9 0))) else (Option.bind (Md_countMissed ρ (setF M 9 0)) fun q_1607 => if isNaN32 (FP.fdiv (FP.i2f (((M.2 ρ) (6 : Int32).toNatClampNeg) - q_1607.1)) (FP.i2f ((q_1607.2.2 ρ) (6 : Int32).toNatClampNeg))) = false then (some ((FP.fdiv (FP.i2f (((M.2 ρ) (6 : Int32).toNatClampNeg) - q_1607.1)) (FP.i2f ((q_1607.2.2 ρ) (6 : Int32).toNatClampNeg)), q_1607.2))) else none)
set_option maxRecDepth 100000 in
set_option maxHeartbeats 4000000 in
theorem c_Md_foundShare {ρ : Nat} (hρ : ρ < 2) (l : Launch) (g : Gl) (σ : Hp) (T : Nat) (ow : Nat → Option Nat) (M : MdM) {r : UInt32 × MdM} (hr : Md_foundShare ρ M = some r) : MG l g md_Md_foundShare [.ref T] (putMd σ T ow ρ M) (rs (some (.float r.1)) (putMd σ T ow ρ r.2)) := by
  refine MG.intro (by decide +kernel) (Nat.le_of_ble_eq_true rfl) (fun X hx hR _ => ?_)
  unfold Md_foundShare at hr
  refine g_ls [0] [(0, .ref T)] rfl ?_
  refine g_aload_n hx 0 (i := 0) 0 dX11_foundShare_0 rfl rfl ?_
  refine g_iconst hx 1 (0) dX11_foundShare_1 rfl ?_
  refine g_put hx 2 (C := RX11) (T := TX11) (N := 30) 9 .int _ (pM_o σ T ow ρ M) rfl (by decide) fl_X11_81 rfl rfl rfl rfl (Nat.le_of_ble_eq_true rfl) rfl dX11_foundShare_2 ?_
  refine G.heap (pM_f σ T ow ρ M 9 0) ?_
  refine g_aload_n hx 5 (i := 0) 0 dX11_foundShare_5 rfl rfl ?_
  refine g_get hx 6 (C := RX11) (T := TX11) (N := 30) 7 (.ref (T + 1 + ρ)) (pM_o σ T ow ρ (setF M 9 0)) rfl (by decide) rfl fl_X11_31 dX11_foundShare_6 ?_
  refine g_bipush hx 9 (6) dX11_foundShare_9 rfl ?_
  refine g_iald hx 11 (pM_row hρ σ T ow (setF M 9 0)) (by decide : inB 6 257) dX11_foundShare_11 ?_
  refine g_if_ne hx 12 19 dX11_foundShare_12 (by decide) (fun hc_1605 => ?_) (fun hc_1605 => ?_)
  · have hr := (if_neg hc_1605).symm.trans hr
    refine g_aload_n hx 19 (i := 0) 0 dX11_foundShare_19 rfl rfl ?_
    refine g_get hx 20 (C := RX11) (T := TX11) (N := 30) 7 (.ref (T + 1 + ρ)) (pM_o σ T ow ρ (setF M 9 0)) rfl (by decide) rfl fl_X11_31 dX11_foundShare_20 ?_
    refine g_bipush hx 23 (6) dX11_foundShare_23 rfl ?_
    refine g_iald hx 25 (pM_row hρ σ T ow (setF M 9 0)) (by decide : inB 6 257) dX11_foundShare_25 ?_
    refine g_aload_n hx 26 (i := 0) 0 dX11_foundShare_26 rfl rfl ?_
    obtain ⟨q_1607, eq_1607, hr⟩ := bind_e hr
    refine g_callVr hx (c_Md_countMissed hρ l g σ T ow (setF M 9 0) eq_1607) lk_X11_211 ar_Md_countMissed (pM_o σ T ow ρ (setF M 9 0)) (T := TX11) (N := 30) rfl (As := []) (rest := [.int ((M.2 ρ) (6 : Int32).toNatClampNeg)]) rfl (Nat.le_of_ble_eq_true rfl) ⟨Nat.le_of_ble_eq_true rfl, Nat.le_of_ble_eq_true rfl⟩ ⟨rfl, rfl⟩ ⟨Nat.zero_le _, Nat.zero_le _⟩ dX11_foundShare_27 ?_
    refine g_isub hx 30 dX11_foundShare_30 ?_
    refine g_i2f hx 31 dX11_foundShare_31 ?_
    refine g_aload_n hx 32 (i := 0) 0 dX11_foundShare_32 rfl rfl ?_
    refine g_get hx 33 (C := RX11) (T := TX11) (N := 30) 7 (.ref (T + 1 + ρ)) (pM_o σ T ow ρ q_1607.2) rfl (by decide) rfl fl_X11_31 dX11_foundShare_33 ?_
    refine g_bipush hx 36 (6) dX11_foundShare_36 rfl ?_
    refine g_iald hx 38 (pM_row hρ σ T ow q_1607.2) (by decide : inB 6 257) dX11_foundShare_38 ?_
    refine g_i2f hx 39 dX11_foundShare_39 ?_
    obtain ⟨hn_1609, hr⟩ := ob hr
    refine g_fdiv hx 40 hn_1609 dX11_foundShare_40 ?_
    exact g_fret hx hR 41 dX11_foundShare_41 ⟨by rw [← Option.some.inj hr] <;> rfl, by rw [← Option.some.inj hr] <;> rfl⟩
  · have hr := (if_pos hc_1605).symm.trans hr
    refine g_fconst0 hx 15 dX11_foundShare_15 ?_
    refine g_goto hx 16 41 dX11_foundShare_16 (by decide) ?_
    exact g_fret hx hR 41 dX11_foundShare_41 ⟨by rw [← Option.some.inj hr] <;> rfl, by rw [← Option.some.inj hr] <;> rfl⟩
def Md_meanWait (ρ : Nat) (M : MdM) : Option (UInt64 × MdM) := Option.bind (Md_tallied ρ (setF M 9 0) 4) fun q_1610 => if q_1610 = 0 then (some ((FP.dconst0, setF M 9 0))) else (Option.bind (Md_tallied ρ (setF M 9 0) 10) fun q_1612 => if isNaN64 (FP.ddiv (FP.i2d q_1612) (FP.i2d q_1610)) = false then (some ((FP.ddiv (FP.i2d q_1612) (FP.i2d q_1610), setF M 9 0))) else none)
set_option maxRecDepth 100000 in
set_option maxHeartbeats 4000000 in
theorem c_Md_meanWait {ρ : Nat} (hρ : ρ < 2) (l : Launch) (g : Gl) (σ : Hp) (T : Nat) (ow : Nat → Option Nat) (M : MdM) {r : UInt64 × MdM} (hr : Md_meanWait ρ M = some r) : MG l g md_Md_meanWait [.ref T] (putMd σ T ow ρ M) (rs (some (.double r.1)) (putMd σ T ow ρ r.2)) := by
  refine MG.intro (by decide +kernel) (Nat.le_of_ble_eq_true rfl) (fun X hx hR _ => ?_)
  unfold Md_meanWait at hr
  refine g_ls [0] [(0, .ref T)] rfl ?_
  refine g_aload_n hx 0 (i := 0) 0 dX11_meanWait_0 rfl rfl ?_
  refine g_iconst hx 1 (0) dX11_meanWait_1 rfl ?_
  refine g_put hx 2 (C := RX11) (T := TX11) (N := 30) 9 .int _ (pM_o σ T ow ρ M) rfl (by decide) fl_X11_81 rfl rfl rfl rfl (Nat.le_of_ble_eq_true rfl) rfl dX11_meanWait_2 ?_
  refine G.heap (pM_f σ T ow ρ M 9 0) ?_
  refine g_aload_n hx 5 (i := 0) 0 dX11_meanWait_5 rfl rfl ?_
  refine g_iconst hx 6 (4) dX11_meanWait_6 rfl ?_
  obtain ⟨q_1610, eq_1610, hr⟩ := bind_e hr
  refine g_callVr hx (c_Md_tallied hρ l g σ T ow (setF M 9 0) 4 eq_1610) lk_X11_164 ar_Md_tallied (pM_o σ T ow ρ (setF M 9 0)) (T := TX11) (N := 30) rfl (As := [.int 4]) (rest := []) rfl (Nat.le_of_ble_eq_true rfl) ⟨Nat.le_of_ble_eq_true rfl, Nat.le_of_ble_eq_true rfl⟩ ⟨rfl, rfl⟩ ⟨Nat.zero_le _, Nat.zero_le _⟩ dX11_meanWait_7 ?_
  refine g_istore_n hx 10 (i := 1) [(1, .int q_1610), (0, .ref T)] dX11_meanWait_10 rfl (by decide) rfl ?_
  refine g_iload_n hx 11 (i := 1) 0 dX11_meanWait_11 rfl rfl ?_
  refine g_if_ne hx 12 19 dX11_meanWait_12 (by decide) (fun hc_1611 => ?_) (fun hc_1611 => ?_)
  · have hr := (if_neg hc_1611).symm.trans hr
    refine g_aload_n hx 19 (i := 0) 1 dX11_meanWait_19 rfl rfl ?_
    refine g_bipush hx 20 (10) dX11_meanWait_20 rfl ?_
    obtain ⟨q_1612, eq_1612, hr⟩ := bind_e hr
    refine g_callVr hx (c_Md_tallied hρ l g σ T ow (setF M 9 0) 10 eq_1612) lk_X11_164 ar_Md_tallied (pM_o σ T ow ρ (setF M 9 0)) (T := TX11) (N := 30) rfl (As := [.int 10]) (rest := []) rfl (Nat.le_of_ble_eq_true rfl) ⟨Nat.le_of_ble_eq_true rfl, Nat.le_of_ble_eq_true rfl⟩ ⟨rfl, rfl⟩ ⟨Nat.zero_le _, Nat.zero_le _⟩ dX11_meanWait_22 ?_
    refine g_i2d hx 25 dX11_meanWait_25 ?_
    refine g_iload_n hx 26 (i := 1) 0 dX11_meanWait_26 rfl rfl ?_
    refine g_i2d hx 27 dX11_meanWait_27 ?_
    obtain ⟨hn_1613, hr⟩ := ob hr
    refine g_ddiv hx 28 hn_1613 dX11_meanWait_28 ?_
    exact g_dret hx hR 29 dX11_meanWait_29 ⟨by rw [← Option.some.inj hr] <;> rfl, by rw [← Option.some.inj hr] <;> rfl⟩
  · have hr := (if_pos hc_1611).symm.trans hr
    refine g_dconst0 hx 15 dX11_meanWait_15 ?_
    refine g_goto hx 16 29 dX11_meanWait_16 (by decide) ?_
    exact g_dret hx hR 29 dX11_meanWait_29 ⟨by rw [← Option.some.inj hr] <;> rfl, by rw [← Option.some.inj hr] <;> rfl⟩
