/-! the law: its own methods -/
def md_Lw_isServed : Md := (yL_isServed, cL_isServed, 13, some .boolean, 6, 168, 0, 0)
theorem lk_L_98 : Lk md_SA_saveSnapshot [.methodLink RL 98 md_SA_saveSnapshot.y, .instanceMethod md_SA_saveSnapshot.y, .selects md_SA_saveSnapshot.y.cls md_SA_saveSnapshot.y md_SA_saveSnapshot.y] := lk_of (by decide +kernel)
theorem ar_SA_saveSnapshot : Arity md_SA_saveSnapshot 0 := ⟨by decide +kernel, by decide +kernel, by decide +kernel⟩
theorem lk_L_34 : Lk md_SA_account [.methodLink RL 34 md_SA_account.y, .instanceMethod md_SA_account.y, .selects md_SA_account.y.cls md_SA_account.y md_SA_account.y] := lk_of (by decide +kernel)
theorem ar_SA_account : Arity md_SA_account 1 := ⟨by decide +kernel, by decide +kernel, by decide +kernel⟩
theorem lk_L_116 : Lk md_SA_restoreSnapshot [.methodLink RL 116 md_SA_restoreSnapshot.y, .instanceMethod md_SA_restoreSnapshot.y, .selects md_SA_restoreSnapshot.y.cls md_SA_restoreSnapshot.y md_SA_restoreSnapshot.y] := lk_of (by decide +kernel)
theorem ar_SA_restoreSnapshot : Arity md_SA_restoreSnapshot 0 := ⟨by decide +kernel, by decide +kernel, by decide +kernel⟩
theorem lk_L_110 : Lk md_SA_servedIn [.methodLink RL 110 md_SA_servedIn.y, .instanceMethod md_SA_servedIn.y, .selects md_SA_servedIn.y.cls md_SA_servedIn.y md_SA_servedIn.y] := lk_of (by decide +kernel)
theorem ar_SA_servedIn : Arity md_SA_servedIn 1 := ⟨by decide +kernel, by decide +kernel, by decide +kernel⟩
theorem lk_L_56 : Lk md_SA_found [.methodLink RL 56 md_SA_found.y, .instanceMethod md_SA_found.y, .selects md_SA_found.y.cls md_SA_found.y md_SA_found.y] := lk_of (by decide +kernel)
theorem ar_SA_found : Arity md_SA_found 1 := ⟨by decide +kernel, by decide +kernel, by decide +kernel⟩
def Lw_isServed_L72 (k : WM → Int32 → Int32 → Int32 → Int32 → Int32 → Int32 → Int32 → Int32 → Int32 → Option (Int32 × WM)) : Nat → WM → Int32 → Int32 → Int32 → Int32 → Int32 → Int32 → Int32 → Int32 → Int32 → Option (Int32 × WM)
  | 0, _, _, _, _, _, _, _, _, _, _ => none
  | n + 1, M, v1_727, v2_728, v3_729, v4_730, v5_731, v6_732, v7_733, v8_734, v9_735 => if v2_728 < v9_735 then (k M v1_727 v2_728 v3_729 v4_730 v5_731 v6_732 v7_733 v8_734 v9_735) else (Option.bind (SA_days M 1) fun q_737 => if 0 ≤ q_737.1 then (lt' ((Lw_isServed_L72 k n q_737.2 v1_727 v2_728 v3_729 v4_730 v5_731 v6_732 v7_733 v8_734 (v9_735 + 1) : Option (Int32 × WM))) fun c_739 => if v7_733 < 0 then (c_739) else (lt' (fun (t_742 : Int32) => (Option.bind (SA_why q_737.2 v7_733 v8_734) fun q_745 => lt' (fun (t_746 : Int32) => (if t_742 = t_746 then (c_739) else (some ((0, q_737.2))) : Option (Int32 × WM))) fun c_747 => if q_745 = (-3) then (c_747 0) else (c_747 1) : Option (Int32 × WM))) fun c_743 => lt' ((c_743 0 : Option (Int32 × WM))) fun c_751 => if v6_732 < 0 then (c_751) else (if v9_735 < v6_732 then (c_751) else (c_743 1)))) else (some ((0, q_737.2))))
def Lw_isServed_L171 (k : WM → Int32 → Int32 → Int32 → Int32 → Int32 → Int32 → Int32 → Int32 → Int32 → Option (Int32 × WM)) : Nat → WM → Int32 → Int32 → Int32 → Int32 → Int32 → Int32 → Int32 → Int32 → Int32 → Option (Int32 × WM)
  | 0, _, _, _, _, _, _, _, _, _, _ => none
  | n + 1, M, v1_780, v2_781, v3_782, v4_783, v5_784, v6_785, v7_786, v8_787, v9_788 => Option.bind (SA_size M 9) fun q_789 => if q_789 ≤ 0 then (k M v1_780 v2_781 v3_782 v4_783 v5_784 v6_785 v7_786 v8_787 v9_788) else (Option.bind (SA_dropSlip M 0) fun q_791 => if 0 ≤ q_791.1 then (Lw_isServed_L171 k n q_791.2 v1_780 v2_781 v3_782 v4_783 v5_784 v6_785 v7_786 v8_787 v9_788) else (some ((0, q_791.2))))
def Lw_isServed (M : WM) (p2 : Int32) : Option (Int32 × WM) := lt' (SA_saveSnapshot M) fun M_712 => Option.bind (Lw_most p2 8) fun q_713 => lt' (1 + q_713) fun v2_714 => Option.bind (SA_servedBy M_712 v2_714) fun q_715 => lt' (q_715.1) fun v3_716 => Option.bind (SA_waitingIn q_715.2 v2_714) fun q_717 => lt' (q_717.1) fun v4_718 => Option.bind (SA_account q_717.2 4) fun q_719 => Option.bind (SA_size q_717.2 9) fun q_720 => lt' (fun (M_722 : WM) (t_721 : Int32) => (Option.bind (SA_waiting M_722 0 0) fun q_725 => Option.bind (SA_waiting M_722 0 1) fun q_726 => Lw_isServed_L72 (fun M_773 v1_764 v2_765 v3_766 v4_767 v5_768 v6_769 v7_770 v8_771 v9_772 => Option.bind (SA_account M_773 4) fun q_774 => if q_774 = v5_768 + v3_766 then (Option.bind (SA_size M_773 9) fun q_776 => if q_776 = v4_767 then (lt' (SA_restoreSnapshot M_773) fun q_778 => if q_778.1 = 0 then (some ((0, q_778.2))) else (Lw_isServed_L171 (fun M_811 v1_802 v2_803 v3_804 v4_805 v5_806 v6_807 v7_808 v8_809 v9_810 => Option.bind (SA_size M_811 6) fun q_812 => lt' (fun (t_813 : Int32) => (lt' (fun (M_816 : WM) => (lt' (SA_restoreSnapshot M_816) fun q_819 => if q_819.1 = 0 ∨ q_819.1 = 1 then (some ((q_819.1, q_819.2))) else none : Option (Int32 × WM))) fun c_817 => if t_813 < 0 then (c_817 M_811) else (Option.bind (SA_size M_811 3) fun q_822 => Option.bind (Lw_most (v1_802 >>> (2 &&& 31)) q_822) fun q_823 => Option.bind (SA_setEmbargo M_811 t_813 0) fun q_824 => lt' (q_824.1) fun v11_825 => if v11_825 < 0 then (some ((0, q_824.2))) else (Option.bind (SA_slip q_824.2 q_823 t_813) fun q_827 => if q_827.1 = 0 then (Option.bind (SA_waiting q_827.2 0 4) fun q_829 => if q_829 = 0 then (Option.bind (SA_size q_827.2 8) fun q_831 => if q_831 = 0 then (Option.bind (SA_servedIn q_827.2 0) fun q_833 => lt' (q_833.1) fun v12_834 => Option.bind (SA_folder q_833.2 t_813 0) fun q_835 => Option.bind (SA_found q_833.2 q_835) fun q_836 => lt' (fun (t_837 : Int32) => (if v12_834 = t_837 then (Option.bind (SA_days q_836.2 3) fun q_841 => if q_841.1 = 1 then (Option.bind (SA_folder q_841.2 t_813 2) fun q_843 => if q_843 = 1 then (Option.bind (SA_folder q_841.2 t_813 3) fun q_845 => if q_845 = q_823 then (c_817 q_841.2) else (some ((0, q_841.2)))) else (some ((0, q_841.2)))) else (some ((0, q_841.2)))) else (some ((0, q_836.2))) : Option (Int32 × WM))) fun c_838 => if q_836.1 < 0 then (c_838 3) else (c_838 1)) else (c_817 q_827.2)) else (c_817 q_827.2)) else (some ((0, q_827.2))))) : Option (Int32 × WM))) fun c_814 => if q_812 ≤ 0 then (c_814 (-1)) else (Option.bind (SA_size M_811 6) fun q_849 => Option.bind (Lw_most v1_802 q_849) fun q_850 => c_814 (SA_at M_811 q_850))) FU q_778.2 v1_764 v2_765 v3_766 v4_767 v5_768 v6_769 v7_770 v8_771 v9_772)) else (some ((0, M_773)))) else (some ((0, M_773)))) FU M_722 p2 v2_714 v3_716 v4_718 q_719 t_721 q_725 q_726 1 : Option (Int32 × WM))) fun c_723 => if q_720 ≤ 0 then (c_723 q_717.2 (-1)) else (Option.bind (SA_servedIn q_717.2 0) fun q_852 => c_723 q_852.2 q_852.1)
set_option maxRecDepth 100000 in
set_option maxHeartbeats 4000000 in
theorem w_Lw_isServed_L72 {ad ae : Nat → Nat} {X : Cx} {l : Launch} {g : Gl} (hx : Ok X l g RL cL_isServed 13 md_Lw_isServed.rm) (hC : KAll g ad ae) {σ : Hp} {B : Nat} {r : Int32 × WM} (hR : Ret X (rs (some (.int r.1)) (putW σ B ae r.2)) 0 0 (some .boolean)) (k : WM → Int32 → Int32 → Int32 → Int32 → Int32 → Int32 → Int32 → Int32 → Int32 → Option (Int32 × WM)) (hk : ∀ (M : WM) (w1_755 w2_756 w3_757 w4_758 w5_759 w6_760 w7_761 w8_762 w9_763 : Int32), k M w1_755 w2_756 w3_757 w4_758 w5_759 w6_760 w7_761 w8_762 w9_763 = some r → G X (putW σ B ae M) 0 0 139 [(0, .ref B), (1, .int w1_755), (2, .int w2_756), (3, .int w3_757), (4, .int w4_758), (5, .int w5_759), (6, .int w6_760), (7, .int w7_761), (8, .int w8_762), (9, .int w9_763)] []) : ∀ (n : Nat) (M : WM) (v1_727 v2_728 v3_729 v4_730 v5_731 v6_732 v7_733 v8_734 v9_735 : Int32), Lw_isServed_L72 k n M v1_727 v2_728 v3_729 v4_730 v5_731 v6_732 v7_733 v8_734 v9_735 = some r → G X (putW σ B ae M) 0 0 72 [(0, .ref B), (1, .int v1_727), (2, .int v2_728), (3, .int v3_729), (4, .int v4_730), (5, .int v5_731), (6, .int v6_732), (7, .int v7_733), (8, .int v8_734), (9, .int v9_735)] [] := by
  intro n
  induction n with
  | zero =>
    intro M v1_727 v2_728 v3_729 v4_730 v5_731 v6_732 v7_733 v8_734 v9_735 hr
    rw [Lw_isServed_L72] at hr
    cases hr
  | succ n ih =>
    intro M v1_727 v2_728 v3_729 v4_730 v5_731 v6_732 v7_733 v8_734 v9_735 hr
    rw [Lw_isServed_L72] at hr
    refine g_iload hx 72 (i := 9) 9 dL_isServed_72 rfl ?_
    refine g_iload_n hx 74 (i := 2) 2 dL_isServed_74 rfl rfl ?_
    refine g_icmp_gt hx 75 139 dL_isServed_75 (by decide) (fun hc_736 => ?_) (fun hc_736 => ?_)
    · have hr := (if_pos hc_736).symm.trans hr
      refine g_ls [0, 1, 2, 3, 4, 5, 6, 7, 8, 9] [(0, .ref B), (1, .int v1_727), (2, .int v2_728), (3, .int v3_729), (4, .int v4_730), (5, .int v5_731), (6, .int v6_732), (7, .int v7_733), (8, .int v8_734), (9, .int v9_735)] rfl ?_
      exact hk M v1_727 v2_728 v3_729 v4_730 v5_731 v6_732 v7_733 v8_734 v9_735 hr
    · have hr := (if_neg hc_736).symm.trans hr
      refine g_aload_n hx 78 (i := 0) 0 dL_isServed_78 rfl rfl ?_
      refine g_iconst hx 79 (1) dL_isServed_79 rfl ?_
      obtain ⟨q_737, eq_737, hr⟩ := bind_e hr
      refine g_callVr hx (c_SA_days l g hC σ B M 1 eq_737) lk_L_113 ar_SA_days (pW σ B ae M 0 (by decide)) (T := TX10) (N := 11) rfl (As := [.int 1]) (rest := []) rfl (Nat.le_of_ble_eq_true rfl) ⟨Nat.le_of_ble_eq_true rfl, Nat.le_of_ble_eq_true rfl⟩ ⟨rfl, rfl⟩ ⟨Nat.zero_le _, Nat.zero_le _⟩ dL_isServed_80 ?_
      refine g_if_ge hx 83 88 dL_isServed_83 (by decide) (fun hc_738 => ?_) (fun hc_738 => ?_)
      · have hr := (if_pos hc_738).symm.trans hr
        refine g_iload hx 88 (i := 7) 7 dL_isServed_88 rfl ?_
        obtain ⟨c_739, ec_739, hr⟩ := lt'_e hr
        have J_740 : c_739 = some r → G X (putW σ B ae q_737.2) 0 0 133 [(0, .ref B), (1, .int v1_727), (2, .int v2_728), (3, .int v3_729), (4, .int v4_730), (5, .int v5_731), (6, .int v6_732), (7, .int v7_733), (8, .int v8_734), (9, .int v9_735)] [] := by
          intro hr
          have hr := ec_739.symm.trans hr
          refine g_iinc hx 133 (i := 9) 9 (v9_735 + 1) [(9, .int (v9_735 + 1)), (0, .ref B), (1, .int v1_727), (2, .int v2_728), (3, .int v3_729), (4, .int v4_730), (5, .int v5_731), (6, .int v6_732), (7, .int v7_733), (8, .int v8_734)] dL_isServed_133 rfl rfl (by decide) rfl ?_
          refine g_goto hx 136 72 dL_isServed_136 (by decide) ?_
          refine g_ls [1, 2, 3, 4, 5, 6, 7, 8, 9, 0] [(0, .ref B), (1, .int v1_727), (2, .int v2_728), (3, .int v3_729), (4, .int v4_730), (5, .int v5_731), (6, .int v6_732), (7, .int v7_733), (8, .int v8_734), (9, .int (v9_735 + 1))] rfl ?_
          exact ih q_737.2 v1_727 v2_728 v3_729 v4_730 v5_731 v6_732 v7_733 v8_734 (v9_735 + 1) hr
        refine g_if_lt hx 90 133 dL_isServed_90 (by decide) (fun hc_741 => ?_) (fun hc_741 => ?_)
        · have hr := (if_pos hc_741).symm.trans hr
          refine g_ls [0, 1, 2, 3, 4, 5, 6, 7, 8, 9] [(0, .ref B), (1, .int v1_727), (2, .int v2_728), (3, .int v3_729), (4, .int v4_730), (5, .int v5_731), (6, .int v6_732), (7, .int v7_733), (8, .int v8_734), (9, .int v9_735)] rfl ?_
          exact J_740 hr
        · have hr := (if_neg hc_741).symm.trans hr
          refine g_iload hx 93 (i := 6) 6 dL_isServed_93 rfl ?_
          obtain ⟨c_743, ec_743, hr⟩ := lt'_e hr
          have J_744 : ∀ (t_742 : Int32), c_743 t_742 = some r → G X (putW σ B ae q_737.2) 0 0 110 [(0, .ref B), (1, .int v1_727), (2, .int v2_728), (3, .int v3_729), (4, .int v4_730), (5, .int v5_731), (6, .int v6_732), (7, .int v7_733), (8, .int v8_734), (9, .int v9_735)] [.int t_742] := by
            intro t_742 hr
            have hr := (congrFun ec_743 t_742).symm.trans hr
            refine g_aload_n hx 110 (i := 0) 0 dL_isServed_110 rfl rfl ?_
            refine g_iload hx 111 (i := 7) 7 dL_isServed_111 rfl ?_
            refine g_iload hx 113 (i := 8) 8 dL_isServed_113 rfl ?_
            obtain ⟨q_745, eq_745, hr⟩ := bind_e hr
            refine g_callVr hx (c_SA_why l g hC σ B q_737.2 v7_733 v8_734 eq_745) lk_L_68 ar_SA_why (pW σ B ae q_737.2 0 (by decide)) (T := TX10) (N := 11) rfl (As := [.int v7_733, .int v8_734]) (rest := [.int t_742]) rfl (Nat.le_of_ble_eq_true rfl) ⟨Nat.le_of_ble_eq_true rfl, Nat.le_of_ble_eq_true rfl⟩ ⟨rfl, rfl⟩ ⟨Nat.zero_le _, Nat.zero_le _⟩ dL_isServed_115 ?_
            refine g_bipush hx 118 (-3) dL_isServed_118 rfl ?_
            obtain ⟨c_747, ec_747, hr⟩ := lt'_e hr
            have J_748 : ∀ (t_746 : Int32), c_747 t_746 = some r → G X (putW σ B ae q_737.2) 0 0 128 [(0, .ref B), (1, .int v1_727), (2, .int v2_728), (3, .int v3_729), (4, .int v4_730), (5, .int v5_731), (6, .int v6_732), (7, .int v7_733), (8, .int v8_734), (9, .int v9_735)] [.int t_746, .int t_742] := by
              intro t_746 hr
              have hr := (congrFun ec_747 t_746).symm.trans hr
              refine g_icmp_eq hx 128 133 dL_isServed_128 (by decide) (fun hc_749 => ?_) (fun hc_749 => ?_)
              · have hr := (if_pos hc_749).symm.trans hr
                refine g_ls [0, 1, 2, 3, 4, 5, 6, 7, 8, 9] [(0, .ref B), (1, .int v1_727), (2, .int v2_728), (3, .int v3_729), (4, .int v4_730), (5, .int v5_731), (6, .int v6_732), (7, .int v7_733), (8, .int v8_734), (9, .int v9_735)] rfl ?_
                exact J_740 hr
              · have hr := (if_neg hc_749).symm.trans hr
                refine g_iconst hx 131 (0) dL_isServed_131 rfl ?_
                exact g_zret hx hR 132 (Or.inl rfl) dL_isServed_132 ⟨by rw [← Option.some.inj hr] <;> rfl, by rw [← Option.some.inj hr] <;> rfl⟩
            refine g_icmp_eq hx 120 127 dL_isServed_120 (by decide) (fun hc_750 => ?_) (fun hc_750 => ?_)
            · have hr := (if_pos hc_750).symm.trans hr
              refine g_iconst hx 127 (0) dL_isServed_127 rfl ?_
              refine g_ls [0, 1, 2, 3, 4, 5, 6, 7, 8, 9] [(0, .ref B), (1, .int v1_727), (2, .int v2_728), (3, .int v3_729), (4, .int v4_730), (5, .int v5_731), (6, .int v6_732), (7, .int v7_733), (8, .int v8_734), (9, .int v9_735)] rfl ?_
              exact J_748 0 hr
            · have hr := (if_neg hc_750).symm.trans hr
              refine g_iconst hx 123 (1) dL_isServed_123 rfl ?_
              refine g_goto hx 124 128 dL_isServed_124 (by decide) ?_
              refine g_ls [0, 1, 2, 3, 4, 5, 6, 7, 8, 9] [(0, .ref B), (1, .int v1_727), (2, .int v2_728), (3, .int v3_729), (4, .int v4_730), (5, .int v5_731), (6, .int v6_732), (7, .int v7_733), (8, .int v8_734), (9, .int v9_735)] rfl ?_
              exact J_748 1 hr
          obtain ⟨c_751, ec_751, hr⟩ := lt'_e hr
          have J_752 : c_751 = some r → G X (putW σ B ae q_737.2) 0 0 109 [(0, .ref B), (1, .int v1_727), (2, .int v2_728), (3, .int v3_729), (4, .int v4_730), (5, .int v5_731), (6, .int v6_732), (7, .int v7_733), (8, .int v8_734), (9, .int v9_735)] [] := by
            intro hr
            have hr := ec_751.symm.trans hr
            refine g_iconst hx 109 (0) dL_isServed_109 rfl ?_
            refine g_ls [0, 1, 2, 3, 4, 5, 6, 7, 8, 9] [(0, .ref B), (1, .int v1_727), (2, .int v2_728), (3, .int v3_729), (4, .int v4_730), (5, .int v5_731), (6, .int v6_732), (7, .int v7_733), (8, .int v8_734), (9, .int v9_735)] rfl ?_
            exact J_744 0 hr
          refine g_if_lt hx 95 109 dL_isServed_95 (by decide) (fun hc_753 => ?_) (fun hc_753 => ?_)
          · have hr := (if_pos hc_753).symm.trans hr
            refine g_ls [0, 1, 2, 3, 4, 5, 6, 7, 8, 9] [(0, .ref B), (1, .int v1_727), (2, .int v2_728), (3, .int v3_729), (4, .int v4_730), (5, .int v5_731), (6, .int v6_732), (7, .int v7_733), (8, .int v8_734), (9, .int v9_735)] rfl ?_
            exact J_752 hr
          · have hr := (if_neg hc_753).symm.trans hr
            refine g_iload hx 98 (i := 6) 6 dL_isServed_98 rfl ?_
            refine g_iload hx 100 (i := 9) 9 dL_isServed_100 rfl ?_
            refine g_icmp_gt hx 102 109 dL_isServed_102 (by decide) (fun hc_754 => ?_) (fun hc_754 => ?_)
            · have hr := (if_pos hc_754).symm.trans hr
              refine g_ls [0, 1, 2, 3, 4, 5, 6, 7, 8, 9] [(0, .ref B), (1, .int v1_727), (2, .int v2_728), (3, .int v3_729), (4, .int v4_730), (5, .int v5_731), (6, .int v6_732), (7, .int v7_733), (8, .int v8_734), (9, .int v9_735)] rfl ?_
              exact J_752 hr
            · have hr := (if_neg hc_754).symm.trans hr
              refine g_iconst hx 105 (1) dL_isServed_105 rfl ?_
              refine g_goto hx 106 110 dL_isServed_106 (by decide) ?_
              refine g_ls [0, 1, 2, 3, 4, 5, 6, 7, 8, 9] [(0, .ref B), (1, .int v1_727), (2, .int v2_728), (3, .int v3_729), (4, .int v4_730), (5, .int v5_731), (6, .int v6_732), (7, .int v7_733), (8, .int v8_734), (9, .int v9_735)] rfl ?_
              exact J_744 1 hr
      · have hr := (if_neg hc_738).symm.trans hr
        refine g_iconst hx 86 (0) dL_isServed_86 rfl ?_
        exact g_zret hx hR 87 (Or.inl rfl) dL_isServed_87 ⟨by rw [← Option.some.inj hr] <;> rfl, by rw [← Option.some.inj hr] <;> rfl⟩
set_option maxRecDepth 100000 in
set_option maxHeartbeats 4000000 in
theorem w_Lw_isServed_L171 {ad ae : Nat → Nat} {X : Cx} {l : Launch} {g : Gl} (hx : Ok X l g RL cL_isServed 13 md_Lw_isServed.rm) (hC : KAll g ad ae) {σ : Hp} {B : Nat} {r : Int32 × WM} (hR : Ret X (rs (some (.int r.1)) (putW σ B ae r.2)) 0 0 (some .boolean)) (k : WM → Int32 → Int32 → Int32 → Int32 → Int32 → Int32 → Int32 → Int32 → Int32 → Option (Int32 × WM)) (hk : ∀ (M : WM) (w1_793 w2_794 w3_795 w4_796 w5_797 w6_798 w7_799 w8_800 w9_801 : Int32), k M w1_793 w2_794 w3_795 w4_796 w5_797 w6_798 w7_799 w8_800 w9_801 = some r → G X (putW σ B ae M) 0 0 190 [(0, .ref B), (1, .int w1_793), (2, .int w2_794), (3, .int w3_795), (4, .int w4_796), (5, .int w5_797), (6, .int w6_798), (7, .int w7_799), (8, .int w8_800), (9, .int w9_801)] []) : ∀ (n : Nat) (M : WM) (v1_780 v2_781 v3_782 v4_783 v5_784 v6_785 v7_786 v8_787 v9_788 : Int32), Lw_isServed_L171 k n M v1_780 v2_781 v3_782 v4_783 v5_784 v6_785 v7_786 v8_787 v9_788 = some r → G X (putW σ B ae M) 0 0 171 [(0, .ref B), (1, .int v1_780), (2, .int v2_781), (3, .int v3_782), (4, .int v4_783), (5, .int v5_784), (6, .int v6_785), (7, .int v7_786), (8, .int v8_787), (9, .int v9_788)] [] := by
  intro n
  induction n with
  | zero =>
    intro M v1_780 v2_781 v3_782 v4_783 v5_784 v6_785 v7_786 v8_787 v9_788 hr
    rw [Lw_isServed_L171] at hr
    cases hr
  | succ n ih =>
    intro M v1_780 v2_781 v3_782 v4_783 v5_784 v6_785 v7_786 v8_787 v9_788 hr
    rw [Lw_isServed_L171] at hr
    refine g_aload_n hx 171 (i := 0) 0 dL_isServed_171 rfl rfl ?_
    refine g_bipush hx 172 (9) dL_isServed_172 rfl ?_
    obtain ⟨q_789, eq_789, hr⟩ := bind_e hr
    refine g_callVr hx (c_SA_size l g hC σ B M 9 eq_789) lk_L_30 ar_SA_size (pW σ B ae M 0 (by decide)) (T := TX10) (N := 11) rfl (As := [.int 9]) (rest := []) rfl (Nat.le_of_ble_eq_true rfl) ⟨Nat.le_of_ble_eq_true rfl, Nat.le_of_ble_eq_true rfl⟩ ⟨rfl, rfl⟩ ⟨Nat.zero_le _, Nat.zero_le _⟩ dL_isServed_174 ?_
    refine g_if_le hx 177 190 dL_isServed_177 (by decide) (fun hc_790 => ?_) (fun hc_790 => ?_)
    · have hr := (if_pos hc_790).symm.trans hr
      refine g_ls [0, 1, 2, 3, 4, 5, 6, 7, 8, 9] [(0, .ref B), (1, .int v1_780), (2, .int v2_781), (3, .int v3_782), (4, .int v4_783), (5, .int v5_784), (6, .int v6_785), (7, .int v7_786), (8, .int v8_787), (9, .int v9_788)] rfl ?_
      exact hk M v1_780 v2_781 v3_782 v4_783 v5_784 v6_785 v7_786 v8_787 v9_788 hr
    · have hr := (if_neg hc_790).symm.trans hr
      refine g_aload_n hx 180 (i := 0) 0 dL_isServed_180 rfl rfl ?_
      refine g_iconst hx 181 (0) dL_isServed_181 rfl ?_
      obtain ⟨q_791, eq_791, hr⟩ := bind_e hr
      refine g_callVr hx (c_SA_dropSlip l g hC σ B M 0 eq_791) lk_L_120 ar_SA_dropSlip (pW σ B ae M 0 (by decide)) (T := TX10) (N := 11) rfl (As := [.int 0]) (rest := []) rfl (Nat.le_of_ble_eq_true rfl) ⟨Nat.le_of_ble_eq_true rfl, Nat.le_of_ble_eq_true rfl⟩ ⟨rfl, rfl⟩ ⟨Nat.zero_le _, Nat.zero_le _⟩ dL_isServed_182 ?_
      refine g_if_ge hx 185 171 dL_isServed_185 (by decide) (fun hc_792 => ?_) (fun hc_792 => ?_)
      · have hr := (if_pos hc_792).symm.trans hr
        refine g_ls [0, 1, 2, 3, 4, 5, 6, 7, 8, 9] [(0, .ref B), (1, .int v1_780), (2, .int v2_781), (3, .int v3_782), (4, .int v4_783), (5, .int v5_784), (6, .int v6_785), (7, .int v7_786), (8, .int v8_787), (9, .int v9_788)] rfl ?_
        exact ih q_791.2 v1_780 v2_781 v3_782 v4_783 v5_784 v6_785 v7_786 v8_787 v9_788 hr
      · have hr := (if_neg hc_792).symm.trans hr
        refine g_iconst hx 188 (0) dL_isServed_188 rfl ?_
        exact g_zret hx hR 189 (Or.inl rfl) dL_isServed_189 ⟨by rw [← Option.some.inj hr] <;> rfl, by rw [← Option.some.inj hr] <;> rfl⟩
set_option maxRecDepth 100000 in
set_option maxHeartbeats 4000000 in
theorem c_Lw_isServed {ad ae : Nat → Nat} (l : Launch) (g : Gl) (hC : KAll g ad ae) (σ : Hp) (B : Nat) (M : WM) (p2 : Int32) {r : Int32 × WM} (hr : Lw_isServed M p2 = some r) : MG l g md_Lw_isServed [.ref B, .int p2] (putW σ B ae M) (rs (some (.int r.1)) (putW σ B ae r.2)) := by
  refine MG.intro (by decide +kernel) (Nat.le_of_ble_eq_true rfl) (fun X hx hR _ => ?_)
  unfold Lw_isServed at hr
  refine g_ls [0, 1] [(0, .ref B), (1, .int p2)] rfl ?_
  refine g_aload_n hx 0 (i := 0) 0 dL_isServed_0 rfl rfl ?_
  obtain ⟨M_712, eM_712, hr⟩ := lt'_e hr
  refine g_callVv hx (c_SA_saveSnapshot l g hC σ B M eM_712.symm) lk_L_98 ar_SA_saveSnapshot (pW σ B ae M 0 (by decide)) (T := TX10) (N := 11) rfl (As := []) (rest := []) rfl (Nat.le_of_ble_eq_true rfl) ⟨Nat.le_of_ble_eq_true rfl, Nat.le_of_ble_eq_true rfl⟩ ⟨rfl, rfl⟩ ⟨Nat.zero_le _, Nat.zero_le _⟩ dL_isServed_1 ?_
  refine g_iconst hx 4 (1) dL_isServed_4 rfl ?_
  refine g_iload_n hx 5 (i := 1) 1 dL_isServed_5 rfl rfl ?_
  refine g_bipush hx 6 (8) dL_isServed_6 rfl ?_
  obtain ⟨q_713, eq_713, hr⟩ := bind_e hr
  refine g_callSr hx (c_Lw_most l g _ p2 8 eq_713) lk_L_101 ar_Lw_most (As := [.int p2, .int 8]) (rest := [.int 1]) rfl (Nat.le_of_ble_eq_true rfl) ⟨Nat.le_of_ble_eq_true rfl, Nat.le_of_ble_eq_true rfl⟩ ⟨rfl, rfl⟩ ⟨Nat.zero_le _, Nat.zero_le _⟩ dL_isServed_8 ?_
  refine g_iadd hx 11 dL_isServed_11 ?_
  obtain ⟨v2_714, ev2_714, hr⟩ := lt'_e hr
  refine g_nmi ev2_714 ?_
  refine g_istore_n hx 12 (i := 2) [(2, .int v2_714), (0, .ref B), (1, .int p2)] dL_isServed_12 rfl (by decide) rfl ?_
  refine g_aload_n hx 13 (i := 0) 1 dL_isServed_13 rfl rfl ?_
  refine g_iload_n hx 14 (i := 2) 0 dL_isServed_14 rfl rfl ?_
  obtain ⟨q_715, eq_715, hr⟩ := bind_e hr
  refine g_callVr hx (c_SA_servedBy l g hC σ B M_712 v2_714 eq_715) lk_L_104 ar_SA_servedBy (pW σ B ae M_712 0 (by decide)) (T := TX10) (N := 11) rfl (As := [.int v2_714]) (rest := []) rfl (Nat.le_of_ble_eq_true rfl) ⟨Nat.le_of_ble_eq_true rfl, Nat.le_of_ble_eq_true rfl⟩ ⟨rfl, rfl⟩ ⟨Nat.zero_le _, Nat.zero_le _⟩ dL_isServed_15 ?_
  obtain ⟨v3_716, ev3_716, hr⟩ := lt'_e hr
  refine g_nmi ev3_716 ?_
  refine g_istore_n hx 18 (i := 3) [(3, .int v3_716), (2, .int v2_714), (0, .ref B), (1, .int p2)] dL_isServed_18 rfl (by decide) rfl ?_
  refine g_aload_n hx 19 (i := 0) 2 dL_isServed_19 rfl rfl ?_
  refine g_iload_n hx 20 (i := 2) 1 dL_isServed_20 rfl rfl ?_
  obtain ⟨q_717, eq_717, hr⟩ := bind_e hr
  refine g_callVr hx (c_SA_waitingIn l g hC σ B q_715.2 v2_714 eq_717) lk_L_107 ar_SA_waitingIn (pW σ B ae q_715.2 0 (by decide)) (T := TX10) (N := 11) rfl (As := [.int v2_714]) (rest := []) rfl (Nat.le_of_ble_eq_true rfl) ⟨Nat.le_of_ble_eq_true rfl, Nat.le_of_ble_eq_true rfl⟩ ⟨rfl, rfl⟩ ⟨Nat.zero_le _, Nat.zero_le _⟩ dL_isServed_21 ?_
  obtain ⟨v4_718, ev4_718, hr⟩ := lt'_e hr
  refine g_nmi ev4_718 ?_
  refine g_istore hx 24 (i := 4) [(4, .int v4_718), (3, .int v3_716), (2, .int v2_714), (0, .ref B), (1, .int p2)] dL_isServed_24 (by decide) rfl ?_
  refine g_aload_n hx 26 (i := 0) 3 dL_isServed_26 rfl rfl ?_
  refine g_iconst hx 27 (4) dL_isServed_27 rfl ?_
  obtain ⟨q_719, eq_719, hr⟩ := bind_e hr
  refine g_callVr hx (c_SA_account l g hC σ B q_717.2 4 eq_719) lk_L_34 ar_SA_account (pW σ B ae q_717.2 0 (by decide)) (T := TX10) (N := 11) rfl (As := [.int 4]) (rest := []) rfl (Nat.le_of_ble_eq_true rfl) ⟨Nat.le_of_ble_eq_true rfl, Nat.le_of_ble_eq_true rfl⟩ ⟨rfl, rfl⟩ ⟨Nat.zero_le _, Nat.zero_le _⟩ dL_isServed_28 ?_
  refine g_istore hx 31 (i := 5) [(5, .int q_719), (4, .int v4_718), (3, .int v3_716), (2, .int v2_714), (0, .ref B), (1, .int p2)] dL_isServed_31 (by decide) rfl ?_
  refine g_aload_n hx 33 (i := 0) 4 dL_isServed_33 rfl rfl ?_
  refine g_bipush hx 34 (9) dL_isServed_34 rfl ?_
  obtain ⟨q_720, eq_720, hr⟩ := bind_e hr
  refine g_callVr hx (c_SA_size l g hC σ B q_717.2 9 eq_720) lk_L_30 ar_SA_size (pW σ B ae q_717.2 0 (by decide)) (T := TX10) (N := 11) rfl (As := [.int 9]) (rest := []) rfl (Nat.le_of_ble_eq_true rfl) ⟨Nat.le_of_ble_eq_true rfl, Nat.le_of_ble_eq_true rfl⟩ ⟨rfl, rfl⟩ ⟨Nat.zero_le _, Nat.zero_le _⟩ dL_isServed_36 ?_
  obtain ⟨c_723, ec_723, hr⟩ := lt'_e hr
  have J_724 : ∀ (M_722 : WM) (t_721 : Int32), c_723 M_722 t_721 = some r → G X (putW σ B ae M_722) 0 0 51 [(0, .ref B), (1, .int p2), (2, .int v2_714), (3, .int v3_716), (4, .int v4_718), (5, .int q_719)] [.int t_721] := by
    intro M_722 t_721 hr
    have hr := (congrFun (congrFun ec_723 M_722) t_721).symm.trans hr
    refine g_istore hx 51 (i := 6) [(6, .int t_721), (0, .ref B), (1, .int p2), (2, .int v2_714), (3, .int v3_716), (4, .int v4_718), (5, .int q_719)] dL_isServed_51 (by decide) rfl ?_
    refine g_aload_n hx 53 (i := 0) 1 dL_isServed_53 rfl rfl ?_
    refine g_iconst hx 54 (0) dL_isServed_54 rfl ?_
    refine g_iconst hx 55 (0) dL_isServed_55 rfl ?_
    obtain ⟨q_725, eq_725, hr⟩ := bind_e hr
    refine g_callVr hx (c_SA_waiting l g hC σ B M_722 0 0 eq_725) lk_L_41 ar_SA_waiting (pW σ B ae M_722 0 (by decide)) (T := TX10) (N := 11) rfl (As := [.int 0, .int 0]) (rest := []) rfl (Nat.le_of_ble_eq_true rfl) ⟨Nat.le_of_ble_eq_true rfl, Nat.le_of_ble_eq_true rfl⟩ ⟨rfl, rfl⟩ ⟨Nat.zero_le _, Nat.zero_le _⟩ dL_isServed_56 ?_
    refine g_istore hx 59 (i := 7) [(7, .int q_725), (6, .int t_721), (0, .ref B), (1, .int p2), (2, .int v2_714), (3, .int v3_716), (4, .int v4_718), (5, .int q_719)] dL_isServed_59 (by decide) rfl ?_
    refine g_aload_n hx 61 (i := 0) 2 dL_isServed_61 rfl rfl ?_
    refine g_iconst hx 62 (0) dL_isServed_62 rfl ?_
    refine g_iconst hx 63 (1) dL_isServed_63 rfl ?_
    obtain ⟨q_726, eq_726, hr⟩ := bind_e hr
    refine g_callVr hx (c_SA_waiting l g hC σ B M_722 0 1 eq_726) lk_L_41 ar_SA_waiting (pW σ B ae M_722 0 (by decide)) (T := TX10) (N := 11) rfl (As := [.int 0, .int 1]) (rest := []) rfl (Nat.le_of_ble_eq_true rfl) ⟨Nat.le_of_ble_eq_true rfl, Nat.le_of_ble_eq_true rfl⟩ ⟨rfl, rfl⟩ ⟨Nat.zero_le _, Nat.zero_le _⟩ dL_isServed_64 ?_
    refine g_istore hx 67 (i := 8) [(8, .int q_726), (7, .int q_725), (6, .int t_721), (0, .ref B), (1, .int p2), (2, .int v2_714), (3, .int v3_716), (4, .int v4_718), (5, .int q_719)] dL_isServed_67 (by decide) rfl ?_
    refine g_iconst hx 69 (1) dL_isServed_69 rfl ?_
    refine g_istore hx 70 (i := 9) [(9, .int 1), (8, .int q_726), (7, .int q_725), (6, .int t_721), (0, .ref B), (1, .int p2), (2, .int v2_714), (3, .int v3_716), (4, .int v4_718), (5, .int q_719)] dL_isServed_70 (by decide) rfl ?_
    refine g_ls [4, 5, 6, 7, 8, 9, 3, 2, 1, 0] [(0, .ref B), (1, .int p2), (2, .int v2_714), (3, .int v3_716), (4, .int v4_718), (5, .int q_719), (6, .int t_721), (7, .int q_725), (8, .int q_726), (9, .int 1)] rfl ?_
    refine w_Lw_isServed_L72 hx hC hR _ (fun M_773 v1_764 v2_765 v3_766 v4_767 v5_768 v6_769 v7_770 v8_771 v9_772 hr => ?_) FU M_722 p2 v2_714 v3_716 v4_718 q_719 t_721 q_725 q_726 1 hr
    refine g_aload_n hx 139 (i := 0) 0 dL_isServed_139 rfl rfl ?_
    refine g_iconst hx 140 (4) dL_isServed_140 rfl ?_
    obtain ⟨q_774, eq_774, hr⟩ := bind_e hr
    refine g_callVr hx (c_SA_account l g hC σ B M_773 4 eq_774) lk_L_34 ar_SA_account (pW σ B ae M_773 0 (by decide)) (T := TX10) (N := 11) rfl (As := [.int 4]) (rest := []) rfl (Nat.le_of_ble_eq_true rfl) ⟨Nat.le_of_ble_eq_true rfl, Nat.le_of_ble_eq_true rfl⟩ ⟨rfl, rfl⟩ ⟨Nat.zero_le _, Nat.zero_le _⟩ dL_isServed_141 ?_
    refine g_iload hx 144 (i := 5) 5 dL_isServed_144 rfl ?_
    refine g_iload_n hx 146 (i := 3) 3 dL_isServed_146 rfl rfl ?_
    refine g_iadd hx 147 dL_isServed_147 ?_
    refine g_icmp_ne hx 148 169 dL_isServed_148 (by decide) (fun hc_775 => ?_) (fun hc_775 => ?_)
    · have hr := (if_neg hc_775).symm.trans hr
      refine g_iconst hx 169 (0) dL_isServed_169 rfl ?_
      exact g_zret hx hR 170 (Or.inl rfl) dL_isServed_170 ⟨by rw [← Option.some.inj hr] <;> rfl, by rw [← Option.some.inj hr] <;> rfl⟩
    · have hr := (if_pos hc_775).symm.trans hr
      refine g_aload_n hx 151 (i := 0) 0 dL_isServed_151 rfl rfl ?_
      refine g_bipush hx 152 (9) dL_isServed_152 rfl ?_
      obtain ⟨q_776, eq_776, hr⟩ := bind_e hr
      refine g_callVr hx (c_SA_size l g hC σ B M_773 9 eq_776) lk_L_30 ar_SA_size (pW σ B ae M_773 0 (by decide)) (T := TX10) (N := 11) rfl (As := [.int 9]) (rest := []) rfl (Nat.le_of_ble_eq_true rfl) ⟨Nat.le_of_ble_eq_true rfl, Nat.le_of_ble_eq_true rfl⟩ ⟨rfl, rfl⟩ ⟨Nat.zero_le _, Nat.zero_le _⟩ dL_isServed_154 ?_
      refine g_iload hx 157 (i := 4) 4 dL_isServed_157 rfl ?_
      refine g_icmp_ne hx 159 169 dL_isServed_159 (by decide) (fun hc_777 => ?_) (fun hc_777 => ?_)
      · have hr := (if_neg hc_777).symm.trans hr
        refine g_iconst hx 169 (0) dL_isServed_169 rfl ?_
        exact g_zret hx hR 170 (Or.inl rfl) dL_isServed_170 ⟨by rw [← Option.some.inj hr] <;> rfl, by rw [← Option.some.inj hr] <;> rfl⟩
      · have hr := (if_pos hc_777).symm.trans hr
        refine g_aload_n hx 162 (i := 0) 0 dL_isServed_162 rfl rfl ?_
        obtain ⟨q_778, eq_778, hr⟩ := lt'_e hr
        refine g_callVr hx (c_SA_restoreSnapshot l g hC σ B M_773 eq_778.symm) lk_L_116 ar_SA_restoreSnapshot (pW σ B ae M_773 0 (by decide)) (T := TX10) (N := 11) rfl (As := []) (rest := []) rfl (Nat.le_of_ble_eq_true rfl) ⟨Nat.le_of_ble_eq_true rfl, Nat.le_of_ble_eq_true rfl⟩ ⟨rfl, rfl⟩ ⟨Nat.zero_le _, Nat.zero_le _⟩ dL_isServed_163 ?_
        refine g_if_ne hx 166 171 dL_isServed_166 (by decide) (fun hc_779 => ?_) (fun hc_779 => ?_)
        · have hr := (if_neg hc_779).symm.trans hr
          refine g_ls [0, 1, 2, 3, 4, 5, 6, 7, 8, 9] [(0, .ref B), (1, .int v1_764), (2, .int v2_765), (3, .int v3_766), (4, .int v4_767), (5, .int v5_768), (6, .int v6_769), (7, .int v7_770), (8, .int v8_771), (9, .int v9_772)] rfl ?_
          refine w_Lw_isServed_L171 hx hC hR _ (fun M_811 v1_802 v2_803 v3_804 v4_805 v5_806 v6_807 v7_808 v8_809 v9_810 hr => ?_) FU q_778.2 v1_764 v2_765 v3_766 v4_767 v5_768 v6_769 v7_770 v8_771 v9_772 hr
          refine g_aload_n hx 190 (i := 0) 0 dL_isServed_190 rfl rfl ?_
          refine g_bipush hx 191 (6) dL_isServed_191 rfl ?_
          obtain ⟨q_812, eq_812, hr⟩ := bind_e hr
          refine g_callVr hx (c_SA_size l g hC σ B M_811 6 eq_812) lk_L_30 ar_SA_size (pW σ B ae M_811 0 (by decide)) (T := TX10) (N := 11) rfl (As := [.int 6]) (rest := []) rfl (Nat.le_of_ble_eq_true rfl) ⟨Nat.le_of_ble_eq_true rfl, Nat.le_of_ble_eq_true rfl⟩ ⟨rfl, rfl⟩ ⟨Nat.zero_le _, Nat.zero_le _⟩ dL_isServed_193 ?_
          obtain ⟨c_814, ec_814, hr⟩ := lt'_e hr
          have J_815 : ∀ (t_813 : Int32), c_814 t_813 = some r → G X (putW σ B ae M_811) 0 0 217 [(0, .ref B), (1, .int v1_802)] [.int t_813] := by
            intro t_813 hr
            have hr := (congrFun ec_814 t_813).symm.trans hr
            refine g_istore hx 217 (i := 9) [(9, .int t_813), (0, .ref B), (1, .int v1_802)] dL_isServed_217 (by decide) rfl ?_
            refine g_iload hx 219 (i := 9) 0 dL_isServed_219 rfl ?_
            obtain ⟨c_817, ec_817, hr⟩ := lt'_e hr
            have J_818 : ∀ (M_816 : WM), c_817 M_816 = some r → G X (putW σ B ae M_816) 0 0 347 [(0, .ref B)] [] := by
              intro M_816 hr
              have hr := (congrFun ec_817 M_816).symm.trans hr
              refine g_aload_n hx 347 (i := 0) 0 dL_isServed_347 rfl rfl ?_
              obtain ⟨q_819, eq_819, hr⟩ := lt'_e hr
              refine g_callVr hx (c_SA_restoreSnapshot l g hC σ B M_816 eq_819.symm) lk_L_116 ar_SA_restoreSnapshot (pW σ B ae M_816 0 (by decide)) (T := TX10) (N := 11) rfl (As := []) (rest := []) rfl (Nat.le_of_ble_eq_true rfl) ⟨Nat.le_of_ble_eq_true rfl, Nat.le_of_ble_eq_true rfl⟩ ⟨rfl, rfl⟩ ⟨Nat.zero_le _, Nat.zero_le _⟩ dL_isServed_348 ?_
              obtain ⟨hz_820, hr⟩ := ob hr
              exact g_zret hx hR 351 hz_820 dL_isServed_351 ⟨by rw [← Option.some.inj hr] <;> rfl, by rw [← Option.some.inj hr] <;> rfl⟩
            refine g_if_lt hx 221 347 dL_isServed_221 (by decide) (fun hc_821 => ?_) (fun hc_821 => ?_)
            · have hr := (if_pos hc_821).symm.trans hr
              refine g_ls [1] [(0, .ref B)] rfl ?_
              exact J_818 M_811 hr
            · have hr := (if_neg hc_821).symm.trans hr
              refine g_iload_n hx 224 (i := 1) 2 dL_isServed_224 rfl rfl ?_
              refine g_iconst hx 225 (2) dL_isServed_225 rfl ?_
              refine g_ishr hx 226 dL_isServed_226 ?_
              refine g_aload_n hx 227 (i := 0) 1 dL_isServed_227 rfl rfl ?_
              refine g_iconst hx 228 (3) dL_isServed_228 rfl ?_
              obtain ⟨q_822, eq_822, hr⟩ := bind_e hr
              refine g_callVr hx (c_SA_size l g hC σ B M_811 3 eq_822) lk_L_30 ar_SA_size (pW σ B ae M_811 0 (by decide)) (T := TX10) (N := 11) rfl (As := [.int 3]) (rest := [.int (v1_802 >>> (2 &&& 31))]) rfl (Nat.le_of_ble_eq_true rfl) ⟨Nat.le_of_ble_eq_true rfl, Nat.le_of_ble_eq_true rfl⟩ ⟨rfl, rfl⟩ ⟨Nat.zero_le _, Nat.zero_le _⟩ dL_isServed_229 ?_
              obtain ⟨q_823, eq_823, hr⟩ := bind_e hr
              refine g_callSr hx (c_Lw_most l g _ (v1_802 >>> (2 &&& 31)) q_822 eq_823) lk_L_101 ar_Lw_most (As := [.int (v1_802 >>> (2 &&& 31)), .int q_822]) (rest := []) rfl (Nat.le_of_ble_eq_true rfl) ⟨Nat.le_of_ble_eq_true rfl, Nat.le_of_ble_eq_true rfl⟩ ⟨rfl, rfl⟩ ⟨Nat.zero_le _, Nat.zero_le _⟩ dL_isServed_232 ?_
              refine g_istore hx 235 (i := 10) [(10, .int q_823), (9, .int t_813), (0, .ref B), (1, .int v1_802)] dL_isServed_235 (by decide) rfl ?_
              refine g_aload_n hx 237 (i := 0) 2 dL_isServed_237 rfl rfl ?_
              refine g_iload hx 238 (i := 9) 1 dL_isServed_238 rfl ?_
              refine g_iconst hx 240 (0) dL_isServed_240 rfl ?_
              obtain ⟨q_824, eq_824, hr⟩ := bind_e hr
              refine g_callVr hx (c_SA_setEmbargo l g hC σ B M_811 t_813 0 eq_824) lk_L_123 ar_SA_setEmbargo (pW σ B ae M_811 0 (by decide)) (T := TX10) (N := 11) rfl (As := [.int t_813, .int 0]) (rest := []) rfl (Nat.le_of_ble_eq_true rfl) ⟨Nat.le_of_ble_eq_true rfl, Nat.le_of_ble_eq_true rfl⟩ ⟨rfl, rfl⟩ ⟨Nat.zero_le _, Nat.zero_le _⟩ dL_isServed_241 ?_
              obtain ⟨v11_825, ev11_825, hr⟩ := lt'_e hr
              refine g_nmi ev11_825 ?_
              refine g_istore hx 244 (i := 11) [(11, .int v11_825), (10, .int q_823), (9, .int t_813), (0, .ref B), (1, .int v1_802)] dL_isServed_244 (by decide) rfl ?_
              refine g_iload hx 246 (i := 11) 0 dL_isServed_246 rfl ?_
              refine g_if_lt hx 248 262 dL_isServed_248 (by decide) (fun hc_826 => ?_) (fun hc_826 => ?_)
              · have hr := (if_pos hc_826).symm.trans hr
                refine g_iconst hx 262 (0) dL_isServed_262 rfl ?_
                exact g_zret hx hR 263 (Or.inl rfl) dL_isServed_263 ⟨by rw [← Option.some.inj hr] <;> rfl, by rw [← Option.some.inj hr] <;> rfl⟩
              · have hr := (if_neg hc_826).symm.trans hr
                refine g_aload_n hx 251 (i := 0) 3 dL_isServed_251 rfl rfl ?_
                refine g_iload hx 252 (i := 10) 1 dL_isServed_252 rfl ?_
                refine g_iload hx 254 (i := 9) 2 dL_isServed_254 rfl ?_
                obtain ⟨q_827, eq_827, hr⟩ := bind_e hr
                refine g_callVr hx (c_SA_slip l g hC σ B q_824.2 q_823 t_813 eq_827) lk_L_126 ar_SA_slip (pW σ B ae q_824.2 0 (by decide)) (T := TX10) (N := 11) rfl (As := [.int q_823, .int t_813]) (rest := []) rfl (Nat.le_of_ble_eq_true rfl) ⟨Nat.le_of_ble_eq_true rfl, Nat.le_of_ble_eq_true rfl⟩ ⟨rfl, rfl⟩ ⟨Nat.zero_le _, Nat.zero_le _⟩ dL_isServed_256 ?_
                refine g_if_eq hx 259 264 dL_isServed_259 (by decide) (fun hc_828 => ?_) (fun hc_828 => ?_)
                · have hr := (if_pos hc_828).symm.trans hr
                  refine g_aload_n hx 264 (i := 0) 3 dL_isServed_264 rfl rfl ?_
                  refine g_iconst hx 265 (0) dL_isServed_265 rfl ?_
                  refine g_iconst hx 266 (4) dL_isServed_266 rfl ?_
                  obtain ⟨q_829, eq_829, hr⟩ := bind_e hr
                  refine g_callVr hx (c_SA_waiting l g hC σ B q_827.2 0 4 eq_829) lk_L_41 ar_SA_waiting (pW σ B ae q_827.2 0 (by decide)) (T := TX10) (N := 11) rfl (As := [.int 0, .int 4]) (rest := []) rfl (Nat.le_of_ble_eq_true rfl) ⟨Nat.le_of_ble_eq_true rfl, Nat.le_of_ble_eq_true rfl⟩ ⟨rfl, rfl⟩ ⟨Nat.zero_le _, Nat.zero_le _⟩ dL_isServed_267 ?_
                  refine g_if_ne hx 270 347 dL_isServed_270 (by decide) (fun hc_830 => ?_) (fun hc_830 => ?_)
                  · have hr := (if_neg hc_830).symm.trans hr
                    refine g_ls [3] [(0, .ref B)] rfl ?_
                    exact J_818 q_827.2 hr
                  · have hr := (if_pos hc_830).symm.trans hr
                    refine g_aload_n hx 273 (i := 0) 3 dL_isServed_273 rfl rfl ?_
                    refine g_bipush hx 274 (8) dL_isServed_274 rfl ?_
                    obtain ⟨q_831, eq_831, hr⟩ := bind_e hr
                    refine g_callVr hx (c_SA_size l g hC σ B q_827.2 8 eq_831) lk_L_30 ar_SA_size (pW σ B ae q_827.2 0 (by decide)) (T := TX10) (N := 11) rfl (As := [.int 8]) (rest := []) rfl (Nat.le_of_ble_eq_true rfl) ⟨Nat.le_of_ble_eq_true rfl, Nat.le_of_ble_eq_true rfl⟩ ⟨rfl, rfl⟩ ⟨Nat.zero_le _, Nat.zero_le _⟩ dL_isServed_276 ?_
                    refine g_if_ne hx 279 347 dL_isServed_279 (by decide) (fun hc_832 => ?_) (fun hc_832 => ?_)
                    · have hr := (if_neg hc_832).symm.trans hr
                      refine g_ls [3] [(0, .ref B)] rfl ?_
                      exact J_818 q_827.2 hr
                    · have hr := (if_pos hc_832).symm.trans hr
                      refine g_aload_n hx 282 (i := 0) 3 dL_isServed_282 rfl rfl ?_
                      refine g_iconst hx 283 (0) dL_isServed_283 rfl ?_
                      obtain ⟨q_833, eq_833, hr⟩ := bind_e hr
                      refine g_callVr hx (c_SA_servedIn l g hC σ B q_827.2 0 eq_833) lk_L_110 ar_SA_servedIn (pW σ B ae q_827.2 0 (by decide)) (T := TX10) (N := 11) rfl (As := [.int 0]) (rest := []) rfl (Nat.le_of_ble_eq_true rfl) ⟨Nat.le_of_ble_eq_true rfl, Nat.le_of_ble_eq_true rfl⟩ ⟨rfl, rfl⟩ ⟨Nat.zero_le _, Nat.zero_le _⟩ dL_isServed_284 ?_
                      obtain ⟨v12_834, ev12_834, hr⟩ := lt'_e hr
                      refine g_nmi ev12_834 ?_
                      refine g_istore hx 287 (i := 12) [(12, .int v12_834), (11, .int v11_825), (10, .int q_823), (9, .int t_813), (0, .ref B), (1, .int v1_802)] dL_isServed_287 (by decide) rfl ?_
                      refine g_iload hx 289 (i := 12) 0 dL_isServed_289 rfl ?_
                      refine g_aload_n hx 291 (i := 0) 4 dL_isServed_291 rfl rfl ?_
                      refine g_aload_n hx 292 (i := 0) 4 dL_isServed_292 rfl rfl ?_
                      refine g_iload hx 293 (i := 9) 3 dL_isServed_293 rfl ?_
                      refine g_iconst hx 295 (0) dL_isServed_295 rfl ?_
                      obtain ⟨q_835, eq_835, hr⟩ := bind_e hr
                      refine g_callVr hx (c_SA_folder l g hC σ B q_833.2 t_813 0 eq_835) lk_L_37 ar_SA_folder (pW σ B ae q_833.2 0 (by decide)) (T := TX10) (N := 11) rfl (As := [.int t_813, .int 0]) (rest := [.ref B, .int v12_834]) rfl (Nat.le_of_ble_eq_true rfl) ⟨Nat.le_of_ble_eq_true rfl, Nat.le_of_ble_eq_true rfl⟩ ⟨rfl, rfl⟩ ⟨Nat.zero_le _, Nat.zero_le _⟩ dL_isServed_296 ?_
                      obtain ⟨q_836, eq_836, hr⟩ := bind_e hr
                      refine g_callVr hx (c_SA_found l g hC σ B q_833.2 q_835 eq_836) lk_L_56 ar_SA_found (pW σ B ae q_833.2 0 (by decide)) (T := TX10) (N := 11) rfl (As := [.int q_835]) (rest := [.int v12_834]) rfl (Nat.le_of_ble_eq_true rfl) ⟨Nat.le_of_ble_eq_true rfl, Nat.le_of_ble_eq_true rfl⟩ ⟨rfl, rfl⟩ ⟨Nat.zero_le _, Nat.zero_le _⟩ dL_isServed_299 ?_
                      obtain ⟨c_838, ec_838, hr⟩ := lt'_e hr
                      have J_839 : ∀ (t_837 : Int32), c_838 t_837 = some r → G X (putW σ B ae q_836.2) 0 0 310 [(0, .ref B), (9, .int t_813), (10, .int q_823)] [.int t_837, .int v12_834] := by
                        intro t_837 hr
                        have hr := (congrFun ec_838 t_837).symm.trans hr
                        refine g_icmp_ne hx 310 345 dL_isServed_310 (by decide) (fun hc_840 => ?_) (fun hc_840 => ?_)
                        · have hr := (if_neg hc_840).symm.trans hr
                          refine g_iconst hx 345 (0) dL_isServed_345 rfl ?_
                          exact g_zret hx hR 346 (Or.inl rfl) dL_isServed_346 ⟨by rw [← Option.some.inj hr] <;> rfl, by rw [← Option.some.inj hr] <;> rfl⟩
                        · have hr := (if_pos hc_840).symm.trans hr
                          refine g_aload_n hx 313 (i := 0) 0 dL_isServed_313 rfl rfl ?_
                          refine g_iconst hx 314 (3) dL_isServed_314 rfl ?_
                          obtain ⟨q_841, eq_841, hr⟩ := bind_e hr
                          refine g_callVr hx (c_SA_days l g hC σ B q_836.2 3 eq_841) lk_L_113 ar_SA_days (pW σ B ae q_836.2 0 (by decide)) (T := TX10) (N := 11) rfl (As := [.int 3]) (rest := []) rfl (Nat.le_of_ble_eq_true rfl) ⟨Nat.le_of_ble_eq_true rfl, Nat.le_of_ble_eq_true rfl⟩ ⟨rfl, rfl⟩ ⟨Nat.zero_le _, Nat.zero_le _⟩ dL_isServed_315 ?_
                          refine g_iconst hx 318 (1) dL_isServed_318 rfl ?_
                          refine g_icmp_ne hx 319 345 dL_isServed_319 (by decide) (fun hc_842 => ?_) (fun hc_842 => ?_)
                          · have hr := (if_neg hc_842).symm.trans hr
                            refine g_iconst hx 345 (0) dL_isServed_345 rfl ?_
                            exact g_zret hx hR 346 (Or.inl rfl) dL_isServed_346 ⟨by rw [← Option.some.inj hr] <;> rfl, by rw [← Option.some.inj hr] <;> rfl⟩
                          · have hr := (if_pos hc_842).symm.trans hr
                            refine g_aload_n hx 322 (i := 0) 0 dL_isServed_322 rfl rfl ?_
                            refine g_iload hx 323 (i := 9) 1 dL_isServed_323 rfl ?_
                            refine g_iconst hx 325 (2) dL_isServed_325 rfl ?_
                            obtain ⟨q_843, eq_843, hr⟩ := bind_e hr
                            refine g_callVr hx (c_SA_folder l g hC σ B q_841.2 t_813 2 eq_843) lk_L_37 ar_SA_folder (pW σ B ae q_841.2 0 (by decide)) (T := TX10) (N := 11) rfl (As := [.int t_813, .int 2]) (rest := []) rfl (Nat.le_of_ble_eq_true rfl) ⟨Nat.le_of_ble_eq_true rfl, Nat.le_of_ble_eq_true rfl⟩ ⟨rfl, rfl⟩ ⟨Nat.zero_le _, Nat.zero_le _⟩ dL_isServed_326 ?_
                            refine g_iconst hx 329 (1) dL_isServed_329 rfl ?_
                            refine g_icmp_ne hx 330 345 dL_isServed_330 (by decide) (fun hc_844 => ?_) (fun hc_844 => ?_)
                            · have hr := (if_neg hc_844).symm.trans hr
                              refine g_iconst hx 345 (0) dL_isServed_345 rfl ?_
                              exact g_zret hx hR 346 (Or.inl rfl) dL_isServed_346 ⟨by rw [← Option.some.inj hr] <;> rfl, by rw [← Option.some.inj hr] <;> rfl⟩
                            · have hr := (if_pos hc_844).symm.trans hr
                              refine g_aload_n hx 333 (i := 0) 0 dL_isServed_333 rfl rfl ?_
                              refine g_iload hx 334 (i := 9) 1 dL_isServed_334 rfl ?_
                              refine g_iconst hx 336 (3) dL_isServed_336 rfl ?_
                              obtain ⟨q_845, eq_845, hr⟩ := bind_e hr
                              refine g_callVr hx (c_SA_folder l g hC σ B q_841.2 t_813 3 eq_845) lk_L_37 ar_SA_folder (pW σ B ae q_841.2 0 (by decide)) (T := TX10) (N := 11) rfl (As := [.int t_813, .int 3]) (rest := []) rfl (Nat.le_of_ble_eq_true rfl) ⟨Nat.le_of_ble_eq_true rfl, Nat.le_of_ble_eq_true rfl⟩ ⟨rfl, rfl⟩ ⟨Nat.zero_le _, Nat.zero_le _⟩ dL_isServed_337 ?_
                              refine g_iload hx 340 (i := 10) 2 dL_isServed_340 rfl ?_
                              refine g_icmp_eq hx 342 347 dL_isServed_342 (by decide) (fun hc_846 => ?_) (fun hc_846 => ?_)
                              · have hr := (if_pos hc_846).symm.trans hr
                                refine g_ls [0] [(0, .ref B)] rfl ?_
                                exact J_818 q_841.2 hr
                              · have hr := (if_neg hc_846).symm.trans hr
                                refine g_iconst hx 345 (0) dL_isServed_345 rfl ?_
                                exact g_zret hx hR 346 (Or.inl rfl) dL_isServed_346 ⟨by rw [← Option.some.inj hr] <;> rfl, by rw [← Option.some.inj hr] <;> rfl⟩
                      refine g_if_lt hx 302 309 dL_isServed_302 (by decide) (fun hc_847 => ?_) (fun hc_847 => ?_)
                      · have hr := (if_pos hc_847).symm.trans hr
                        refine g_iconst hx 309 (3) dL_isServed_309 rfl ?_
                        refine g_ls [4, 3, 2] [(0, .ref B), (9, .int t_813), (10, .int q_823)] rfl ?_
                        exact J_839 3 hr
                      · have hr := (if_neg hc_847).symm.trans hr
                        refine g_iconst hx 305 (1) dL_isServed_305 rfl ?_
                        refine g_goto hx 306 310 dL_isServed_306 (by decide) ?_
                        refine g_ls [4, 3, 2] [(0, .ref B), (9, .int t_813), (10, .int q_823)] rfl ?_
                        exact J_839 1 hr
                · have hr := (if_neg hc_828).symm.trans hr
                  refine g_iconst hx 262 (0) dL_isServed_262 rfl ?_
                  exact g_zret hx hR 263 (Or.inl rfl) dL_isServed_263 ⟨by rw [← Option.some.inj hr] <;> rfl, by rw [← Option.some.inj hr] <;> rfl⟩
          refine g_if_le hx 196 216 dL_isServed_196 (by decide) (fun hc_848 => ?_) (fun hc_848 => ?_)
          · have hr := (if_pos hc_848).symm.trans hr
            refine g_iconst hx 216 (-1) dL_isServed_216 rfl ?_
            refine g_ls [0, 1] [(0, .ref B), (1, .int v1_802)] rfl ?_
            exact J_815 (-1) hr
          · have hr := (if_neg hc_848).symm.trans hr
            refine g_aload_n hx 199 (i := 0) 0 dL_isServed_199 rfl rfl ?_
            refine g_iload_n hx 200 (i := 1) 1 dL_isServed_200 rfl rfl ?_
            refine g_aload_n hx 201 (i := 0) 0 dL_isServed_201 rfl rfl ?_
            refine g_bipush hx 202 (6) dL_isServed_202 rfl ?_
            obtain ⟨q_849, eq_849, hr⟩ := bind_e hr
            refine g_callVr hx (c_SA_size l g hC σ B M_811 6 eq_849) lk_L_30 ar_SA_size (pW σ B ae M_811 0 (by decide)) (T := TX10) (N := 11) rfl (As := [.int 6]) (rest := [.int v1_802, .ref B]) rfl (Nat.le_of_ble_eq_true rfl) ⟨Nat.le_of_ble_eq_true rfl, Nat.le_of_ble_eq_true rfl⟩ ⟨rfl, rfl⟩ ⟨Nat.zero_le _, Nat.zero_le _⟩ dL_isServed_204 ?_
            obtain ⟨q_850, eq_850, hr⟩ := bind_e hr
            refine g_callSr hx (c_Lw_most l g _ v1_802 q_849 eq_850) lk_L_101 ar_Lw_most (As := [.int v1_802, .int q_849]) (rest := [.ref B]) rfl (Nat.le_of_ble_eq_true rfl) ⟨Nat.le_of_ble_eq_true rfl, Nat.le_of_ble_eq_true rfl⟩ ⟨rfl, rfl⟩ ⟨Nat.zero_le _, Nat.zero_le _⟩ dL_isServed_207 ?_
            refine g_callVr hx (c_SA_at l g hC σ B M_811 q_850 rfl) lk_L_50 ar_SA_at (pW σ B ae M_811 0 (by decide)) (T := TX10) (N := 11) rfl (As := [.int q_850]) (rest := []) rfl (Nat.le_of_ble_eq_true rfl) ⟨Nat.le_of_ble_eq_true rfl, Nat.le_of_ble_eq_true rfl⟩ ⟨rfl, rfl⟩ ⟨Nat.zero_le _, Nat.zero_le _⟩ dL_isServed_210 ?_
            refine g_goto hx 213 217 dL_isServed_213 (by decide) ?_
            refine g_ls [0, 1] [(0, .ref B), (1, .int v1_802)] rfl ?_
            exact J_815 (SA_at M_811 q_850) hr
        · have hr := (if_pos hc_779).symm.trans hr
          refine g_iconst hx 169 (0) dL_isServed_169 rfl ?_
          exact g_zret hx hR 170 (Or.inl rfl) dL_isServed_170 ⟨by rw [← Option.some.inj hr] <;> rfl, by rw [← Option.some.inj hr] <;> rfl⟩
  refine g_if_le hx 39 50 dL_isServed_39 (by decide) (fun hc_851 => ?_) (fun hc_851 => ?_)
  · have hr := (if_pos hc_851).symm.trans hr
    refine g_iconst hx 50 (-1) dL_isServed_50 rfl ?_
    refine g_ls [4, 5, 3, 2, 1, 0] [(0, .ref B), (1, .int p2), (2, .int v2_714), (3, .int v3_716), (4, .int v4_718), (5, .int q_719)] rfl ?_
    exact J_724 q_717.2 (-1) hr
  · have hr := (if_neg hc_851).symm.trans hr
    refine g_aload_n hx 42 (i := 0) 4 dL_isServed_42 rfl rfl ?_
    refine g_iconst hx 43 (0) dL_isServed_43 rfl ?_
    obtain ⟨q_852, eq_852, hr⟩ := bind_e hr
    refine g_callVr hx (c_SA_servedIn l g hC σ B q_717.2 0 eq_852) lk_L_110 ar_SA_servedIn (pW σ B ae q_717.2 0 (by decide)) (T := TX10) (N := 11) rfl (As := [.int 0]) (rest := []) rfl (Nat.le_of_ble_eq_true rfl) ⟨Nat.le_of_ble_eq_true rfl, Nat.le_of_ble_eq_true rfl⟩ ⟨rfl, rfl⟩ ⟨Nat.zero_le _, Nat.zero_le _⟩ dL_isServed_44 ?_
    refine g_goto hx 47 51 dL_isServed_47 (by decide) ?_
    refine g_ls [4, 5, 3, 2, 1, 0] [(0, .ref B), (1, .int p2), (2, .int v2_714), (3, .int v3_716), (4, .int v4_718), (5, .int q_719)] rfl ?_
    exact J_724 q_852.2 q_852.1 hr
