/-! what the walks over the whole component need of constants; the history's methods -/
def KAll (g : Gl) (ad _ae : Nat → Nat) : Prop := KS g ad ∧ True
theorem inB_lt {i : Int32} {n : Nat} (h : inB i n) : i.toNatClampNeg < n := Nat.not_le.mp fun q => h (Or.inr q)
def md_Hi_slotBehindKept : Md := (yX1_slotBehindKept, cX1_slotBehindKept, 2, some (.object "SlipArchive$Stacks"), 0, 0, 0, 0)
def md_Hi_prepare : Md := (yX1_prepare, cX1_prepare, 3, none, 4, 124, 0, 0)
def md_Hi_takeBack : Md := (yX1_takeBack, cX1_takeBack, 3, some .boolean, 4, 124, 0, 0)
theorem fl_X1_17 : Cond.fieldLink RX1 17 (TX1 1).1 (TX1 1).2.1 (TX1 1).2.2.1 ∈ aw := aw1 (by decide +kernel)
theorem fl_X1_21 : Cond.fieldLink RX1 21 (TX1 2).1 (TX1 2).2.1 (TX1 2).2.2.1 ∈ aw := aw1 (by decide +kernel)
theorem fl_X1_13 : Cond.fieldLink RX1 13 (TX1 0).1 (TX1 0).2.1 (TX1 0).2.2.1 ∈ aw := aw1 (by decide +kernel)
theorem lk_X1_25 : Lk md_Hi_slotBehindKept [.methodLink RX1 25 md_Hi_slotBehindKept.y, .instanceMethod md_Hi_slotBehindKept.y, .selects md_Hi_slotBehindKept.y.cls md_Hi_slotBehindKept.y md_Hi_slotBehindKept.y] := lk_of (by decide +kernel)
theorem ar_Hi_slotBehindKept : Arity md_Hi_slotBehindKept 0 := ⟨by decide +kernel, by decide +kernel, by decide +kernel⟩
theorem ar_St_copyFrom : Arity md_St_copyFrom 1 := ⟨by decide +kernel, by decide +kernel, by decide +kernel⟩
theorem lk_X1_29 : Lk md_St_copyFrom [.methodLink RX1 29 md_St_copyFrom.y, .instanceMethod md_St_copyFrom.y, .selects md_St_copyFrom.y.cls md_St_copyFrom.y md_St_copyFrom.y] := lk_of (by decide +kernel)
def hix (M : WM) : Int32 := (M.2.2.1 7 + M.2.2.1 8) - (M.2.2.1 7 + M.2.2.1 8) / 9 * 9
set_option maxRecDepth 100000 in
set_option maxHeartbeats 4000000 in
theorem c_Hi_slotBehindKept {ae : Nat → Nat} (l : Launch) (g : Gl) (σ : Hp) (B : Nat) (M : WM) (hb : inB (hix M) 9) : MG l g md_Hi_slotBehindKept [.ref (B + 15)] (putW σ B ae M) (rs (some (.ref (B + 17 + 35 * (hix M).toNatClampNeg))) (putW σ B ae M)) := by
  obtain ⟨j, hj, ej⟩ := vp_in_of hb (by decide)
  refine MG.intro (by decide +kernel) (Nat.le_of_ble_eq_true rfl) (fun X hx hR _ => ?_)
  refine g_ls [0] [(0, .ref (B + 15))] rfl ?_
  refine g_aload_n hx 0 (i := 0) 0 dX1_slotBehindKept_0 rfl rfl ?_
  refine g_get hx 1 (C := RX1) (T := TX1) (N := 3) 1 (.int (M.2.2.1 7)) (pW σ B ae M 15 (by decide)) rfl (by decide) rfl fl_X1_17 dX1_slotBehindKept_1 ?_
  refine g_aload_n hx 4 (i := 0) 0 dX1_slotBehindKept_4 rfl rfl ?_
  refine g_get hx 5 (C := RX1) (T := TX1) (N := 3) 2 (.int (M.2.2.1 8)) (pW σ B ae M 15 (by decide)) rfl (by decide) rfl fl_X1_21 dX1_slotBehindKept_5 ?_
  refine g_iadd hx 8 dX1_slotBehindKept_8 ?_
  refine g_bipush hx 9 9 dX1_slotBehindKept_9 rfl ?_
  refine g_irem hx 11 dX1_slotBehindKept_11 (by decide) ?_
  refine g_istore_n hx 12 (i := 1) [(1, .int (hix M)), (0, .ref (B + 15))] dX1_slotBehindKept_12 rfl (by decide) rfl ?_
  refine g_iload_n hx 13 (i := 1) 0 dX1_slotBehindKept_13 rfl rfl ?_
  refine g_if_lt hx 14 35 dX1_slotBehindKept_14 (by decide) (fun hc => absurd hc (by rw [ej]; exact nI_pos (by omega))) (fun _ => ?_)
  refine g_iload_n hx 17 (i := 1) 0 dX1_slotBehindKept_17 rfl rfl ?_
  refine g_aload_n hx 18 (i := 0) 1 dX1_slotBehindKept_18 rfl rfl ?_
  refine g_get hx 19 (C := RX1) (T := TX1) (N := 3) 0 (.ref (B + 16)) (pW σ B ae M 15 (by decide)) rfl (by decide) rfl fl_X1_13 dX1_slotBehindKept_19 ?_
  refine g_alenq hx 22 1 (pW σ B ae M 16 (by decide)) rfl rfl dX1_slotBehindKept_22 ?_
  refine g_icmp_ge hx 23 35 dX1_slotBehindKept_23 (by decide) (fun hc => absurd hc (by rw [ej]; exact nI_ge hj (by decide))) (fun _ => ?_)
  refine g_aload_n hx 26 (i := 0) 1 dX1_slotBehindKept_26 rfl rfl ?_
  refine g_get hx 27 (C := RX1) (T := TX1) (N := 3) 0 (.ref (B + 16)) (pW σ B ae M 15 (by decide)) rfl (by decide) rfl fl_X1_13 dX1_slotBehindKept_27 ?_
  refine g_iload_n hx 30 (i := 1) 0 dX1_slotBehindKept_30 rfl rfl ?_
  refine g_aldq hx 31 1 (pW σ B ae M 16 (by decide)) rfl rfl hb dX1_slotBehindKept_31 ?_
  refine g_goto hx 32 36 dX1_slotBehindKept_32 (by decide) ?_
  exact g_aret hx hR 36 (Or.inr ⟨_, rfl⟩) dX1_slotBehindKept_36 ⟨rfl, rfl⟩
theorem MG.atI {l : Launch} {g : Gl} {md : Md} {av : List Value} {σ : Hp} {B : Nat} {ae : Nat → Nat} {w : WM} {v : Option Value} {M' : StM} (i : Nat) (hi : i < 12) (h : MG l g md av (putSt (putW σ B ae w) (B + 17 + 35 * i) (w.1 i)) (rs v (putSt (putW σ B ae w) (B + 17 + 35 * i) M'))) : MG l g md av (putW σ B ae w) (rs v (putW σ B ae (setS w i M'))) := by
  rw [putSt_id (pW_st σ B ae w i hi), pW_put σ B ae w i hi] at h
  exact h
def Hi_prepare (M : WM) : Option WM := if inB (hix M) 9 then some (setS M (hix M).toNatClampNeg (St_copyFrom (M.1 9) (M.1 (hix M).toNatClampNeg))) else none
set_option maxRecDepth 100000 in
set_option maxHeartbeats 4000000 in
theorem c_Hi_prepare {ad ae : Nat → Nat} (l : Launch) (g : Gl) (_ : KAll g ad ae) (σ : Hp) (B : Nat) (M : WM) {r : WM} (hr : Hi_prepare M = some r) : MG l g md_Hi_prepare [.ref (B + 15), .ref (B + 332)] (putW σ B ae M) (rs none (putW σ B ae r)) := by
  obtain ⟨hb, hr⟩ := ob hr
  have hlt := inB_lt hb
  refine MG.intro (by decide +kernel) (Nat.le_of_ble_eq_true rfl) (fun X hx hR _ => ?_)
  refine g_ls [0, 1] [(0, .ref (B + 15)), (1, .ref (B + 332))] rfl ?_
  refine g_aload_n hx 0 (i := 0) 0 dX1_prepare_0 rfl rfl ?_
  refine g_callVr hx (c_Hi_slotBehindKept l g σ B M hb) lk_X1_25 ar_Hi_slotBehindKept (pW σ B ae M 15 (by decide)) (T := TX1) (N := 3) rfl (As := []) (rest := []) rfl (Nat.le_of_ble_eq_true rfl) ⟨Nat.le_of_ble_eq_true rfl, Nat.le_of_ble_eq_true rfl⟩ ⟨rfl, rfl⟩ ⟨Nat.zero_le _, Nat.zero_le _⟩ dX1_prepare_1 ?_
  refine g_astore_n hx 4 (i := 2) [(2, .ref (B + 17 + 35 * (hix M).toNatClampNeg)), (0, .ref (B + 15)), (1, .ref (B + 332))] dX1_prepare_4 rfl (by decide) rfl ?_
  refine g_aload_n hx 5 (i := 2) 0 dX1_prepare_5 rfl rfl ?_
  refine g_ifnull hx 6 dX1_prepare_6 ?_
  refine g_aload_n hx 9 (i := 2) 0 dX1_prepare_9 rfl rfl ?_
  refine g_aload_n hx 10 (i := 1) 2 dX1_prepare_10 rfl rfl ?_
  refine g_callVv hx (MG.atI (hix M).toNatClampNeg (by omega) (c_St_copyFrom (pW_st9 σ B ae M) (by omega) l g (M.1 (hix M).toNatClampNeg) rfl)) lk_X1_29 ar_St_copyFrom ((pW_st σ B ae M (hix M).toNatClampNeg (by omega)) 0 (by decide)) (T := TX8) (N := 15) rfl (As := [.ref (B + 332)]) (rest := []) rfl (Nat.le_of_ble_eq_true rfl) ⟨Nat.le_of_ble_eq_true rfl, Nat.le_of_ble_eq_true rfl⟩ ⟨rfl, rfl⟩ ⟨Nat.zero_le _, Nat.zero_le _⟩ dX1_prepare_11 ?_
  exact g_vret hx hR 14 dX1_prepare_14 ⟨rfl, by rw [← Option.some.inj hr]⟩
def Hi_takeBack (M : WM) : Option (Int32 × WM) := if M.2.2.1 8 = 0 then some (0, M) else lt' (setWI M 8 (M.2.2.1 8 - 1)) fun M1 => if inB (hix M1) 9 then some (1, setS M1 9 (St_copyFrom (M1.1 (hix M1).toNatClampNeg) (M1.1 9))) else none
set_option maxRecDepth 100000 in
set_option maxHeartbeats 4000000 in
theorem c_Hi_takeBack {ad ae : Nat → Nat} (l : Launch) (g : Gl) (_ : KAll g ad ae) (σ : Hp) (B : Nat) (M : WM) {r : Int32 × WM} (hr : Hi_takeBack M = some r) : MG l g md_Hi_takeBack [.ref (B + 15), .ref (B + 332)] (putW σ B ae M) (rs (some (.int r.1)) (putW σ B ae r.2)) := by
  refine MG.intro (by decide +kernel) (Nat.le_of_ble_eq_true rfl) (fun X hx hR _ => ?_)
  unfold Hi_takeBack at hr
  refine g_ls [0, 1] [(0, .ref (B + 15)), (1, .ref (B + 332))] rfl ?_
  refine g_aload_n hx 0 (i := 0) 0 dX1_takeBack_0 rfl rfl ?_
  refine g_get hx 1 (C := RX1) (T := TX1) (N := 3) 2 (.int (M.2.2.1 8)) (pW σ B ae M 15 (by decide)) rfl (by decide) rfl fl_X1_21 dX1_takeBack_1 ?_
  refine g_if_ne hx 4 9 dX1_takeBack_4 (by decide) (fun hc => ?_) (fun hc => ?_)
  · have hr := (if_neg hc).symm.trans hr
    obtain ⟨M1, eM1, hr⟩ := lt'_e hr
    obtain ⟨hb, hr⟩ := ob hr
    have hlt := inB_lt hb
    refine g_aload_n hx 9 (i := 0) 0 dX1_takeBack_9 rfl rfl ?_
    refine g_dup hx 10 dX1_takeBack_10 rfl ?_
    refine g_get hx 11 (C := RX1) (T := TX1) (N := 3) 2 (.int (M.2.2.1 8)) (pW σ B ae M 15 (by decide)) rfl (by decide) rfl fl_X1_21 dX1_takeBack_11 ?_
    refine g_iconst hx 14 1 dX1_takeBack_14 rfl ?_
    refine g_isub hx 15 dX1_takeBack_15 ?_
    refine g_put hx 16 (C := RX1) (T := TX1) (N := 3) 2 .int _ (pW σ B ae M 15 (by decide)) rfl (by decide) fl_X1_21 rfl rfl rfl rfl (Nat.le_of_ble_eq_true rfl) rfl dX1_takeBack_16 ?_
    refine G.heap ((pW_i8 σ B ae M (M.2.2.1 8 - 1)).trans (by rw [← eM1])) ?_
    refine g_aload_n hx 19 (i := 0) 0 dX1_takeBack_19 rfl rfl ?_
    refine g_callVr hx (c_Hi_slotBehindKept l g σ B M1 hb) lk_X1_25 ar_Hi_slotBehindKept (pW σ B ae M1 15 (by decide)) (T := TX1) (N := 3) rfl (As := []) (rest := []) rfl (Nat.le_of_ble_eq_true rfl) ⟨Nat.le_of_ble_eq_true rfl, Nat.le_of_ble_eq_true rfl⟩ ⟨rfl, rfl⟩ ⟨Nat.zero_le _, Nat.zero_le _⟩ dX1_takeBack_20 ?_
    refine g_astore_n hx 23 (i := 2) [(2, .ref (B + 17 + 35 * (hix M1).toNatClampNeg)), (0, .ref (B + 15)), (1, .ref (B + 332))] dX1_takeBack_23 rfl (by decide) rfl ?_
    refine g_aload_n hx 24 (i := 2) 0 dX1_takeBack_24 rfl rfl ?_
    refine g_ifnull hx 25 dX1_takeBack_25 ?_
    refine g_aload_n hx 28 (i := 1) 2 dX1_takeBack_28 rfl rfl ?_
    refine g_aload_n hx 29 (i := 2) 0 dX1_takeBack_29 rfl rfl ?_
    refine g_callVv hx (MG.at9 (w := M1) (c_St_copyFrom (pW_st σ B ae M1 (hix M1).toNatClampNeg (by omega)) (by omega) l g (M1.1 9) rfl)) lk_X1_29 ar_St_copyFrom ((pW_st9 σ B ae M1) 0 (by decide)) (T := TX8) (N := 15) rfl (As := [.ref (B + 17 + 35 * (hix M1).toNatClampNeg)]) (rest := []) rfl (Nat.le_of_ble_eq_true rfl) ⟨Nat.le_of_ble_eq_true rfl, Nat.le_of_ble_eq_true rfl⟩ ⟨rfl, rfl⟩ ⟨Nat.zero_le _, Nat.zero_le _⟩ dX1_takeBack_30 ?_
    refine g_iconst hx 33 1 dX1_takeBack_33 rfl ?_
    exact g_zret hx hR 34 (Or.inr rfl) dX1_takeBack_34 ⟨by rw [← Option.some.inj hr], by rw [← Option.some.inj hr]⟩
  · have hr := (if_pos hc).symm.trans hr
    refine g_iconst hx 7 0 dX1_takeBack_7 rfl ?_
    exact g_zret hx hR 8 (Or.inl rfl) dX1_takeBack_8 ⟨by rw [← Option.some.inj hr], by rw [← Option.some.inj hr]⟩
