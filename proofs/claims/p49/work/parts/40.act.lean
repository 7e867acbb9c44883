/-! the law: its own methods -/
def md_Lw_act : Md := (yL_act, cL_act, 13, some .boolean, 6, 168, 0, 0)
def md_Lw_most : Md := (yL_most, cL_most, 2, some .int, 0, 0, 0, 0)
theorem cn_L_7 : Cond.constant RL 7 2147483647 ∈ aw := aw1 (by decide +kernel)
def Lw_most (p0 p1 : Int32) : Option Int32 := if ¬ p1 = 0 then some ((p0 &&& 2147483647) - (p0 &&& 2147483647) / p1 * p1) else none
theorem c_Lw_most (l : Launch) (g : Gl) (σ : Hp) (p0 p1 : Int32) {r : Int32} (hr : Lw_most p0 p1 = some r) : MG l g md_Lw_most [.int p0, .int p1] σ (rs (some (.int r)) σ) := by
  obtain ⟨h0, hr⟩ := ob hr
  refine MG.intro (by decide +kernel) (Nat.le_of_ble_eq_true rfl) (fun X hx hR _ => ?_)
  refine g_ls [0, 1] [(0, .int p0), (1, .int p1)] rfl ?_
  refine g_iload_n hx 0 (i := 0) 0 dL_most_0 rfl rfl ?_
  refine g_ldci hx 1 dL_most_1 cn_L_7 ?_
  refine g_iand hx 3 dL_most_3 ?_
  refine g_iload_n hx 4 (i := 1) 1 dL_most_4 rfl rfl ?_
  refine g_irem hx 5 dL_most_5 h0 ?_
  exact g_iret hx hR 6 dL_most_6 ⟨by rw [← Option.some.inj hr], rfl⟩
theorem lk_L_101 : Lk md_Lw_most [.methodLink RL 101 md_Lw_most.y, .static md_Lw_most.y] := lk_of (by decide +kernel)
theorem ar_Lw_most : Arity md_Lw_most 2 := ⟨by decide +kernel, by decide +kernel, by decide +kernel⟩
theorem lk_L_30 : Lk md_SA_size [.methodLink RL 30 md_SA_size.y, .instanceMethod md_SA_size.y, .selects md_SA_size.y.cls md_SA_size.y md_SA_size.y] := lk_of (by decide +kernel)
theorem ar_SA_size : Arity md_SA_size 1 := ⟨by decide +kernel, by decide +kernel, by decide +kernel⟩
theorem lk_L_37 : Lk md_SA_folder [.methodLink RL 37 md_SA_folder.y, .instanceMethod md_SA_folder.y, .selects md_SA_folder.y.cls md_SA_folder.y md_SA_folder.y] := lk_of (by decide +kernel)
theorem ar_SA_folder : Arity md_SA_folder 2 := ⟨by decide +kernel, by decide +kernel, by decide +kernel⟩
theorem lk_L_120 : Lk md_SA_dropSlip [.methodLink RL 120 md_SA_dropSlip.y, .instanceMethod md_SA_dropSlip.y, .selects md_SA_dropSlip.y.cls md_SA_dropSlip.y md_SA_dropSlip.y] := lk_of (by decide +kernel)
theorem ar_SA_dropSlip : Arity md_SA_dropSlip 1 := ⟨by decide +kernel, by decide +kernel, by decide +kernel⟩
theorem lk_L_77 : Lk md_SA_inversions [.methodLink RL 77 md_SA_inversions.y, .instanceMethod md_SA_inversions.y, .selects md_SA_inversions.y.cls md_SA_inversions.y md_SA_inversions.y] := lk_of (by decide +kernel)
theorem ar_SA_inversions : Arity md_SA_inversions 0 := ⟨by decide +kernel, by decide +kernel, by decide +kernel⟩
theorem lk_L_86 : Lk md_SA_missedAfter [.methodLink RL 86 md_SA_missedAfter.y, .instanceMethod md_SA_missedAfter.y, .selects md_SA_missedAfter.y.cls md_SA_missedAfter.y md_SA_missedAfter.y] := lk_of (by decide +kernel)
theorem ar_SA_missedAfter : Arity md_SA_missedAfter 1 := ⟨by decide +kernel, by decide +kernel, by decide +kernel⟩
theorem lk_L_135 : Lk md_SA_check [.methodLink RL 135 md_SA_check.y, .instanceMethod md_SA_check.y, .selects md_SA_check.y.cls md_SA_check.y md_SA_check.y] := lk_of (by decide +kernel)
theorem ar_SA_check : Arity md_SA_check 1 := ⟨by decide +kernel, by decide +kernel, by decide +kernel⟩
theorem mw_L_138 : ∀ w ∈ [Cond.methodLink RL 138 Lib.Math.min.name, Cond.static Lib.Math.min.name, Cond.initialized "java/lang/Math", Cond.code Lib.Math.min.name Lib.Math.min.code 2 (some .int)], w ∈ aw := aw_of (by decide +kernel)
theorem mw_L_143 : ∀ w ∈ [Cond.methodLink RL 143 Lib.Math.max.name, Cond.static Lib.Math.max.name, Cond.initialized "java/lang/Math", Cond.code Lib.Math.max.name Lib.Math.max.code 2 (some .int)], w ∈ aw := aw_of (by decide +kernel)
theorem lk_L_92 : Lk md_SA_missed [.methodLink RL 92 md_SA_missed.y, .instanceMethod md_SA_missed.y, .selects md_SA_missed.y.cls md_SA_missed.y md_SA_missed.y] := lk_of (by decide +kernel)
theorem ar_SA_missed : Arity md_SA_missed 0 := ⟨by decide +kernel, by decide +kernel, by decide +kernel⟩
theorem lk_L_123 : Lk md_SA_setEmbargo [.methodLink RL 123 md_SA_setEmbargo.y, .instanceMethod md_SA_setEmbargo.y, .selects md_SA_setEmbargo.y.cls md_SA_setEmbargo.y md_SA_setEmbargo.y] := lk_of (by decide +kernel)
theorem ar_SA_setEmbargo : Arity md_SA_setEmbargo 2 := ⟨by decide +kernel, by decide +kernel, by decide +kernel⟩
theorem lk_L_83 : Lk md_SA_mostMisplaced [.methodLink RL 83 md_SA_mostMisplaced.y, .instanceMethod md_SA_mostMisplaced.y, .selects md_SA_mostMisplaced.y.cls md_SA_mostMisplaced.y md_SA_mostMisplaced.y] := lk_of (by decide +kernel)
theorem ar_SA_mostMisplaced : Arity md_SA_mostMisplaced 0 := ⟨by decide +kernel, by decide +kernel, by decide +kernel⟩
theorem lk_L_50 : Lk md_SA_at [.methodLink RL 50 md_SA_at.y, .instanceMethod md_SA_at.y, .selects md_SA_at.y.cls md_SA_at.y md_SA_at.y] := lk_of (by decide +kernel)
theorem ar_SA_at : Arity md_SA_at 1 := ⟨by decide +kernel, by decide +kernel, by decide +kernel⟩
theorem lk_L_146 : Lk md_SA_straighten [.methodLink RL 146 md_SA_straighten.y, .instanceMethod md_SA_straighten.y, .selects md_SA_straighten.y.cls md_SA_straighten.y md_SA_straighten.y] := lk_of (by decide +kernel)
theorem ar_SA_straighten : Arity md_SA_straighten 1 := ⟨by decide +kernel, by decide +kernel, by decide +kernel⟩
theorem lk_L_132 : Lk md_SA_misfile [.methodLink RL 132 md_SA_misfile.y, .instanceMethod md_SA_misfile.y, .selects md_SA_misfile.y.cls md_SA_misfile.y md_SA_misfile.y] := lk_of (by decide +kernel)
theorem ar_SA_misfile : Arity md_SA_misfile 2 := ⟨by decide +kernel, by decide +kernel, by decide +kernel⟩
theorem lk_L_104 : Lk md_SA_servedBy [.methodLink RL 104 md_SA_servedBy.y, .instanceMethod md_SA_servedBy.y, .selects md_SA_servedBy.y.cls md_SA_servedBy.y md_SA_servedBy.y] := lk_of (by decide +kernel)
theorem ar_SA_servedBy : Arity md_SA_servedBy 1 := ⟨by decide +kernel, by decide +kernel, by decide +kernel⟩
theorem lk_L_107 : Lk md_SA_waitingIn [.methodLink RL 107 md_SA_waitingIn.y, .instanceMethod md_SA_waitingIn.y, .selects md_SA_waitingIn.y.cls md_SA_waitingIn.y md_SA_waitingIn.y] := lk_of (by decide +kernel)
theorem ar_SA_waitingIn : Arity md_SA_waitingIn 1 := ⟨by decide +kernel, by decide +kernel, by decide +kernel⟩
theorem lk_L_113 : Lk md_SA_days [.methodLink RL 113 md_SA_days.y, .instanceMethod md_SA_days.y, .selects md_SA_days.y.cls md_SA_days.y md_SA_days.y] := lk_of (by decide +kernel)
theorem ar_SA_days : Arity md_SA_days 1 := ⟨by decide +kernel, by decide +kernel, by decide +kernel⟩
theorem lk_L_129 : Lk md_SA_giveBack [.methodLink RL 129 md_SA_giveBack.y, .instanceMethod md_SA_giveBack.y, .selects md_SA_giveBack.y.cls md_SA_giveBack.y md_SA_giveBack.y] := lk_of (by decide +kernel)
theorem ar_SA_giveBack : Arity md_SA_giveBack 1 := ⟨by decide +kernel, by decide +kernel, by decide +kernel⟩
theorem lk_L_68 : Lk md_SA_why [.methodLink RL 68 md_SA_why.y, .instanceMethod md_SA_why.y, .selects md_SA_why.y.cls md_SA_why.y md_SA_why.y] := lk_of (by decide +kernel)
theorem ar_SA_why : Arity md_SA_why 2 := ⟨by decide +kernel, by decide +kernel, by decide +kernel⟩
theorem lk_L_126 : Lk md_SA_slip [.methodLink RL 126 md_SA_slip.y, .instanceMethod md_SA_slip.y, .selects md_SA_slip.y.cls md_SA_slip.y md_SA_slip.y] := lk_of (by decide +kernel)
theorem ar_SA_slip : Arity md_SA_slip 2 := ⟨by decide +kernel, by decide +kernel, by decide +kernel⟩
theorem lk_L_41 : Lk md_SA_waiting [.methodLink RL 41 md_SA_waiting.y, .instanceMethod md_SA_waiting.y, .selects md_SA_waiting.y.cls md_SA_waiting.y md_SA_waiting.y] := lk_of (by decide +kernel)
theorem ar_SA_waiting : Arity md_SA_waiting 2 := ⟨by decide +kernel, by decide +kernel, by decide +kernel⟩
def Lw_act_L724 (k : WM → Int32 → Int32 → Int32 → Int32 → Option (Int32 × WM)) : Nat → WM → Int32 → Int32 → Int32 → Int32 → Option (Int32 × WM)
  | 0, _, _, _, _, _ => none
  | n + 1, M, v5_585, v6_586, v10_587, v11_588 => if v6_586 ≤ v11_588 then (k M v5_585 v6_586 v10_587 v11_588) else (Option.bind (SA_folder M (SA_at M v11_588) 0) fun q_590 => Option.bind (SA_folder M v5_585 0) fun q_591 => lt' (fun (t_592 : Int32) => (lt' (v10_587 + t_592) fun v10_595 => Lw_act_L724 k n M v5_585 v6_586 v10_595 (v11_588 + 1) : Option (Int32 × WM))) fun c_593 => if q_591 ≤ q_590 then (c_593 0) else (c_593 1))
def Lw_act_L224 (k : WM → Int32 → Int32 → Int32 → Int32 → Int32 → Int32 → Int32 → Int32 → Option (Int32 × WM)) : Nat → WM → Int32 → Int32 → Int32 → Int32 → Int32 → Int32 → Int32 → Int32 → Option (Int32 × WM)
  | 0, _, _, _, _, _, _, _, _, _ => none
  | n + 1, M, v2_649, v3_650, v4_651, v5_652, v6_653, v7_654, v8_655, v9_656 => if v4_651 ≤ v9_656 then (k M v2_649 v3_650 v4_651 v5_652 v6_653 v7_654 v8_655 v9_656) else (Option.bind (SA_folder M v5_652 2) fun q_658 => if q_658 = 1 then (k M v2_649 v3_650 v4_651 v5_652 v6_653 v7_654 v8_655 v9_656) else (if ¬ v4_651 = 0 then (lt' ((v5_652 + 1) - (v5_652 + 1) / v4_651 * v4_651) fun v5_661 => Lw_act_L224 k n M v2_649 v3_650 v4_651 v5_661 v6_653 v7_654 v8_655 (v9_656 + 1)) else none))
def Lw_act (M : WM) (p2 : Int32) : Option (Int32 × WM) := Option.bind (Lw_most p2 20) fun q_534 => lt' (p2 >>> (4 &&& 31)) fun v3_535 => Option.bind (SA_size M 5) fun q_536 => Option.bind (Lw_most (v3_535 >>> (2 &&& 31)) q_536) fun q_537 => Option.bind (SA_size M 6) fun q_538 => Option.bind (SA_size M 9) fun q_539 => Option.bind (SA_folder M q_537 2) fun q_540 => lt' (fun (t_541 : Int32) => (if 7 ≤ q_534 then (if q_534 = 7 then (Option.bind (Lw_most v3_535 (q_539 + 1)) fun q_546 => Option.bind (SA_dropSlip M q_546) fun q_547 => lt' (fun (t_548 : Int32) => (if q_547.1 = t_548 then (some ((1, q_547.2))) else (some ((0, q_547.2))) : Option (Int32 × WM))) fun c_549 => if q_539 ≤ q_546 then (c_549 (-2)) else (c_549 (q_539 - 1))) else (if 11 ≤ q_534 then (if 15 ≤ q_534 then (if 17 ≤ q_534 then (if q_534 = 17 then (Option.bind (Lw_most v3_535 12) fun q_557 => lt' (1 + q_557) fun v9_558 => Option.bind (SA_inversions M) fun q_559 => Option.bind (SA_missedAfter M v9_558) fun q_560 => lt' (q_560.1) fun v11_561 => Option.bind (SA_check q_560.2 v9_558) fun q_562 => if q_562.1 = (if q_559 < v9_558 then q_559 else v9_558) then (Option.bind (SA_inversions q_562.2) fun q_564 => if q_564 = (if 0 < q_559 - v9_558 then q_559 - v9_558 else 0) then (Option.bind (SA_missed q_562.2) fun q_566 => if q_566.1 = v11_561 then (some ((1, q_566.2))) else (some ((0, q_566.2)))) else (some ((0, q_562.2)))) else (some ((0, q_562.2)))) else (if q_534 = 18 then (Option.bind (SA_folder M q_537 1) fun q_569 => Option.bind (Lw_most v3_535 2) fun q_570 => lt' (fun (t_571 : Int32) => (Option.bind (SA_setEmbargo M q_537 t_571) fun q_574 => if q_574.1 = q_569 then (Option.bind (SA_folder q_574.2 q_537 1) fun q_576 => if q_576 = t_571 then (some ((1, q_574.2))) else (some ((0, q_574.2)))) else (some ((0, q_574.2))) : Option (Int32 × WM))) fun c_572 => if q_570 = 0 then (c_572 0) else (Option.bind (SA_size M 0) fun q_579 => Option.bind (Lw_most (v3_535 >>> (1 &&& 31)) 6) fun q_580 => c_572 (if q_579 + q_580 < 999 then q_579 + q_580 else 999))) else (Option.bind (SA_mostMisplaced M) fun q_581 => lt' (fun (j5_582 : Int32) => (Lw_act_L724 (fun M_605 v5_601 v6_602 v10_603 v11_604 => Option.bind (SA_folder M_605 v5_601 2) fun q_606 => lt' (fun (t_607 : Int32) => (Option.bind (SA_straighten M_605 v5_601) fun q_610 => lt' (q_610.1) fun v11_611 => if t_607 = 0 then (if v11_611 = (-2) then (some ((1, q_610.2))) else (some ((0, q_610.2)))) else (lt' ((some ((0, q_610.2)) : Option (Int32 × WM))) fun c_614 => if v11_611 = v10_603 then (Option.bind (SA_folder q_610.2 v5_601 3) fun q_617 => if q_617 = v10_603 then (some ((1, q_610.2))) else (c_614)) else (c_614)) : Option (Int32 × WM))) fun c_608 => if q_606 = 0 then (c_608 1) else (c_608 0)) FU M j5_582 q_538 0 0 : Option (Int32 × WM))) fun c_583 => if q_581 < 0 then (c_583 q_537) else (c_583 q_581)))) else (Option.bind (Lw_most v3_535 (q_538 + 1)) fun q_621 => lt' (fun (t_622 : Int32) => (Option.bind (SA_misfile M q_537 q_621) fun q_625 => lt' (q_625.1) fun v11_626 => if t_541 = 0 then (if v11_626 = (-2) then (some ((1, q_625.2))) else (some ((0, q_625.2)))) else (if q_621 < q_538 then (if v11_626 = t_622 then (Option.bind (SA_folder q_625.2 q_537 3) fun q_631 => if q_631 = q_621 then (some ((1, q_625.2))) else (some ((0, q_625.2)))) else (some ((0, q_625.2)))) else (if v11_626 = (-3) then (some ((1, q_625.2))) else (some ((0, q_625.2))))) : Option (Int32 × WM))) fun c_623 => if t_541 = 0 then (c_623 (-1)) else (Option.bind (SA_folder M q_537 3) fun q_635 => c_623 q_635))) else (Option.bind (Lw_most v3_535 4) fun q_636 => lt' (1 + q_636) fun v9_637 => Option.bind (SA_servedBy M v9_637) fun q_638 => lt' (q_638.1) fun v10_639 => Option.bind (SA_waitingIn q_638.2 v9_637) fun q_640 => lt' (q_640.1) fun v11_641 => Option.bind (SA_size q_640.2 0) fun q_642 => Option.bind (SA_days q_640.2 v9_637) fun q_643 => if q_643.1 = v10_639 then (Option.bind (SA_size q_643.2 9) fun q_645 => if q_645 = v11_641 then (Option.bind (SA_size q_643.2 0) fun q_647 => if q_647 = q_642 + v9_637 then (some ((1, q_643.2))) else (some ((0, q_643.2)))) else (some ((0, q_643.2)))) else (some ((0, q_643.2))))) else (Lw_act_L224 (fun M_678 v2_670 v3_671 v4_672 v5_673 v6_674 v7_675 v8_676 v9_677 => Option.bind (SA_folder M_678 v5_673 2) fun q_679 => lt' (fun (t_680 : Int32) => (Option.bind (SA_folder M_678 v5_673 3) fun q_683 => Option.bind (SA_size M_678 8) fun q_684 => Option.bind (SA_giveBack M_678 v5_673) fun q_685 => lt' (q_685.1) fun v12_686 => if t_680 = 0 then (if v12_686 = (-2) then (some ((1, q_685.2))) else (some ((0, q_685.2)))) else (lt' ((some ((0, q_685.2)) : Option (Int32 × WM))) fun c_689 => if v12_686 = q_683 then (Option.bind (SA_folder q_685.2 v5_673 2) fun q_692 => if q_692 = 2 then (Option.bind (SA_folder q_685.2 v5_673 3) fun q_694 => if q_694 = q_684 then (some ((1, q_685.2))) else (c_689)) else (c_689)) else (c_689)) : Option (Int32 × WM))) fun c_681 => if q_679 = 1 then (c_681 1) else (c_681 0)) FU M q_534 v3_535 q_536 q_537 q_538 q_539 t_541 0))) else (Option.bind (SA_size M 3) fun q_697 => Option.bind (Lw_most v3_535 q_697) fun q_698 => Option.bind (SA_why M q_698 q_537) fun q_699 => Option.bind (SA_slip M q_698 q_537) fun q_700 => lt' (q_700.1) fun v11_701 => if 0 ≤ q_699 then (if v11_701 = q_539 then (Option.bind (SA_size q_700.2 9) fun q_704 => if q_704 = q_539 + 1 then (Option.bind (SA_waiting q_700.2 q_539 1) fun q_706 => if q_706 = q_537 then (Option.bind (SA_waiting q_700.2 q_539 0) fun q_708 => if q_708 = q_698 then (some ((1, q_700.2))) else (some ((0, q_700.2)))) else (some ((0, q_700.2)))) else (some ((0, q_700.2)))) else (some ((0, q_700.2)))) else (if v11_701 = q_699 then (some ((1, q_700.2))) else (some ((0, q_700.2))))) : Option (Int32 × WM))) fun c_542 => if q_540 = 0 then (c_542 1) else (c_542 0)
set_option maxRecDepth 100000 in
set_option maxHeartbeats 4000000 in
theorem w_Lw_act_L724 {ad ae : Nat → Nat} {X : Cx} {l : Launch} {g : Gl} (hx : Ok X l g RL cL_act 13 md_Lw_act.rm) (hC : KAll g ad ae) {σ : Hp} {B : Nat} {r : Int32 × WM} (hR : Ret X (rs (some (.int r.1)) (putW σ B ae r.2)) 0 0 (some .boolean)) (k : WM → Int32 → Int32 → Int32 → Int32 → Option (Int32 × WM)) (hk : ∀ (M : WM) (w5_597 w6_598 w10_599 w11_600 : Int32), k M w5_597 w6_598 w10_599 w11_600 = some r → G X (putW σ B ae M) 0 0 768 [(0, .ref B), (5, .int w5_597), (6, .int w6_598), (10, .int w10_599), (11, .int w11_600)] []) : ∀ (n : Nat) (M : WM) (v5_585 v6_586 v10_587 v11_588 : Int32), Lw_act_L724 k n M v5_585 v6_586 v10_587 v11_588 = some r → G X (putW σ B ae M) 0 0 724 [(0, .ref B), (5, .int v5_585), (6, .int v6_586), (10, .int v10_587), (11, .int v11_588)] [] := by
  intro n
  induction n with
  | zero =>
    intro M v5_585 v6_586 v10_587 v11_588 hr
    rw [Lw_act_L724] at hr
    cases hr
  | succ n ih =>
    intro M v5_585 v6_586 v10_587 v11_588 hr
    rw [Lw_act_L724] at hr
    refine g_iload hx 724 (i := 11) 4 dL_act_724 rfl ?_
    refine g_iload hx 726 (i := 6) 2 dL_act_726 rfl ?_
    refine g_icmp_ge hx 728 768 dL_act_728 (by decide) (fun hc_589 => ?_) (fun hc_589 => ?_)
    · have hr := (if_pos hc_589).symm.trans hr
      refine g_ls [0, 1, 2, 3, 4] [(0, .ref B), (5, .int v5_585), (6, .int v6_586), (10, .int v10_587), (11, .int v11_588)] rfl ?_
      exact hk M v5_585 v6_586 v10_587 v11_588 hr
    · have hr := (if_neg hc_589).symm.trans hr
      refine g_iload hx 731 (i := 10) 3 dL_act_731 rfl ?_
      refine g_aload_n hx 733 (i := 0) 0 dL_act_733 rfl rfl ?_
      refine g_aload_n hx 734 (i := 0) 0 dL_act_734 rfl rfl ?_
      refine g_iload hx 735 (i := 11) 4 dL_act_735 rfl ?_
      refine g_callVr hx (c_SA_at l g hC σ B M v11_588 rfl) lk_L_50 ar_SA_at (pW σ B ae M 0 (by decide)) (T := TX10) (N := 11) rfl (As := [.int v11_588]) (rest := [.ref B, .int v10_587]) rfl (Nat.le_of_ble_eq_true rfl) ⟨Nat.le_of_ble_eq_true rfl, Nat.le_of_ble_eq_true rfl⟩ ⟨rfl, rfl⟩ ⟨Nat.zero_le _, Nat.zero_le _⟩ dL_act_737 ?_
      refine g_iconst hx 740 (0) dL_act_740 rfl ?_
      obtain ⟨q_590, eq_590, hr⟩ := bind_e hr
      refine g_callVr hx (c_SA_folder l g hC σ B M (SA_at M v11_588) 0 eq_590) lk_L_37 ar_SA_folder (pW σ B ae M 0 (by decide)) (T := TX10) (N := 11) rfl (As := [.int (SA_at M v11_588), .int 0]) (rest := [.int v10_587]) rfl (Nat.le_of_ble_eq_true rfl) ⟨Nat.le_of_ble_eq_true rfl, Nat.le_of_ble_eq_true rfl⟩ ⟨rfl, rfl⟩ ⟨Nat.zero_le _, Nat.zero_le _⟩ dL_act_741 ?_
      refine g_aload_n hx 744 (i := 0) 0 dL_act_744 rfl rfl ?_
      refine g_iload hx 745 (i := 5) 1 dL_act_745 rfl ?_
      refine g_iconst hx 747 (0) dL_act_747 rfl ?_
      obtain ⟨q_591, eq_591, hr⟩ := bind_e hr
      refine g_callVr hx (c_SA_folder l g hC σ B M v5_585 0 eq_591) lk_L_37 ar_SA_folder (pW σ B ae M 0 (by decide)) (T := TX10) (N := 11) rfl (As := [.int v5_585, .int 0]) (rest := [.int q_590, .int v10_587]) rfl (Nat.le_of_ble_eq_true rfl) ⟨Nat.le_of_ble_eq_true rfl, Nat.le_of_ble_eq_true rfl⟩ ⟨rfl, rfl⟩ ⟨Nat.zero_le _, Nat.zero_le _⟩ dL_act_748 ?_
      obtain ⟨c_593, ec_593, hr⟩ := lt'_e hr
      have J_594 : ∀ (t_592 : Int32), c_593 t_592 = some r → G X (putW σ B ae M) 0 0 759 [(0, .ref B), (5, .int v5_585), (6, .int v6_586), (11, .int v11_588)] [.int t_592, .int v10_587] := by
        intro t_592 hr
        have hr := (congrFun ec_593 t_592).symm.trans hr
        refine g_iadd hx 759 dL_act_759 ?_
        obtain ⟨v10_595, ev10_595, hr⟩ := lt'_e hr
        refine g_nmi ev10_595 ?_
        refine g_istore hx 760 (i := 10) [(10, .int v10_595), (0, .ref B), (5, .int v5_585), (6, .int v6_586), (11, .int v11_588)] dL_act_760 (by decide) rfl ?_
        refine g_iinc hx 762 (i := 11) 4 (v11_588 + 1) [(11, .int (v11_588 + 1)), (10, .int v10_595), (0, .ref B), (5, .int v5_585), (6, .int v6_586)] dL_act_762 rfl rfl (by decide) rfl ?_
        refine g_goto hx 765 724 dL_act_765 (by decide) ?_
        refine g_ls [2, 3, 4, 1, 0] [(0, .ref B), (5, .int v5_585), (6, .int v6_586), (10, .int v10_595), (11, .int (v11_588 + 1))] rfl ?_
        exact ih M v5_585 v6_586 v10_595 (v11_588 + 1) hr
      refine g_icmp_ge hx 751 758 dL_act_751 (by decide) (fun hc_596 => ?_) (fun hc_596 => ?_)
      · have hr := (if_pos hc_596).symm.trans hr
        refine g_iconst hx 758 (0) dL_act_758 rfl ?_
        refine g_ls [0, 1, 2, 4] [(0, .ref B), (5, .int v5_585), (6, .int v6_586), (11, .int v11_588)] rfl ?_
        exact J_594 0 hr
      · have hr := (if_neg hc_596).symm.trans hr
        refine g_iconst hx 754 (1) dL_act_754 rfl ?_
        refine g_goto hx 755 759 dL_act_755 (by decide) ?_
        refine g_ls [0, 1, 2, 4] [(0, .ref B), (5, .int v5_585), (6, .int v6_586), (11, .int v11_588)] rfl ?_
        exact J_594 1 hr
set_option maxRecDepth 100000 in
set_option maxHeartbeats 4000000 in
theorem w_Lw_act_L224 {ad ae : Nat → Nat} {X : Cx} {l : Launch} {g : Gl} (hx : Ok X l g RL cL_act 13 md_Lw_act.rm) (hC : KAll g ad ae) {σ : Hp} {B : Nat} {r : Int32 × WM} (hR : Ret X (rs (some (.int r.1)) (putW σ B ae r.2)) 0 0 (some .boolean)) (k : WM → Int32 → Int32 → Int32 → Int32 → Int32 → Int32 → Int32 → Int32 → Option (Int32 × WM)) (hk : ∀ (M : WM) (w2_662 w3_663 w4_664 w5_665 w6_666 w7_667 w8_668 w9_669 : Int32), k M w2_662 w3_663 w4_664 w5_665 w6_666 w7_667 w8_668 w9_669 = some r → G X (putW σ B ae M) 0 0 257 [(0, .ref B), (2, .int w2_662), (3, .int w3_663), (4, .int w4_664), (5, .int w5_665), (6, .int w6_666), (7, .int w7_667), (8, .int w8_668), (9, .int w9_669)] []) : ∀ (n : Nat) (M : WM) (v2_649 v3_650 v4_651 v5_652 v6_653 v7_654 v8_655 v9_656 : Int32), Lw_act_L224 k n M v2_649 v3_650 v4_651 v5_652 v6_653 v7_654 v8_655 v9_656 = some r → G X (putW σ B ae M) 0 0 224 [(0, .ref B), (2, .int v2_649), (3, .int v3_650), (4, .int v4_651), (5, .int v5_652), (6, .int v6_653), (7, .int v7_654), (8, .int v8_655), (9, .int v9_656)] [] := by
  intro n
  induction n with
  | zero =>
    intro M v2_649 v3_650 v4_651 v5_652 v6_653 v7_654 v8_655 v9_656 hr
    rw [Lw_act_L224] at hr
    cases hr
  | succ n ih =>
    intro M v2_649 v3_650 v4_651 v5_652 v6_653 v7_654 v8_655 v9_656 hr
    rw [Lw_act_L224] at hr
    refine g_iload hx 224 (i := 9) 8 dL_act_224 rfl ?_
    refine g_iload hx 226 (i := 4) 3 dL_act_226 rfl ?_
    refine g_icmp_ge hx 228 257 dL_act_228 (by decide) (fun hc_657 => ?_) (fun hc_657 => ?_)
    · have hr := (if_pos hc_657).symm.trans hr
      refine g_ls [0, 1, 2, 3, 4, 5, 6, 7, 8] [(0, .ref B), (2, .int v2_649), (3, .int v3_650), (4, .int v4_651), (5, .int v5_652), (6, .int v6_653), (7, .int v7_654), (8, .int v8_655), (9, .int v9_656)] rfl ?_
      exact hk M v2_649 v3_650 v4_651 v5_652 v6_653 v7_654 v8_655 v9_656 hr
    · have hr := (if_neg hc_657).symm.trans hr
      refine g_aload_n hx 231 (i := 0) 0 dL_act_231 rfl rfl ?_
      refine g_iload hx 232 (i := 5) 4 dL_act_232 rfl ?_
      refine g_iconst hx 234 (2) dL_act_234 rfl ?_
      obtain ⟨q_658, eq_658, hr⟩ := bind_e hr
      refine g_callVr hx (c_SA_folder l g hC σ B M v5_652 2 eq_658) lk_L_37 ar_SA_folder (pW σ B ae M 0 (by decide)) (T := TX10) (N := 11) rfl (As := [.int v5_652, .int 2]) (rest := []) rfl (Nat.le_of_ble_eq_true rfl) ⟨Nat.le_of_ble_eq_true rfl, Nat.le_of_ble_eq_true rfl⟩ ⟨rfl, rfl⟩ ⟨Nat.zero_le _, Nat.zero_le _⟩ dL_act_235 ?_
      refine g_iconst hx 238 (1) dL_act_238 rfl ?_
      refine g_icmp_eq hx 239 257 dL_act_239 (by decide) (fun hc_659 => ?_) (fun hc_659 => ?_)
      · have hr := (if_pos hc_659).symm.trans hr
        refine g_ls [0, 1, 2, 3, 4, 5, 6, 7, 8] [(0, .ref B), (2, .int v2_649), (3, .int v3_650), (4, .int v4_651), (5, .int v5_652), (6, .int v6_653), (7, .int v7_654), (8, .int v8_655), (9, .int v9_656)] rfl ?_
        exact hk M v2_649 v3_650 v4_651 v5_652 v6_653 v7_654 v8_655 v9_656 hr
      · have hr := (if_neg hc_659).symm.trans hr
        refine g_iload hx 242 (i := 5) 4 dL_act_242 rfl ?_
        refine g_iconst hx 244 (1) dL_act_244 rfl ?_
        refine g_iadd hx 245 dL_act_245 ?_
        refine g_iload hx 246 (i := 4) 3 dL_act_246 rfl ?_
        obtain ⟨hz_660, hr⟩ := ob hr
        refine g_irem hx 248 dL_act_248 hz_660 ?_
        obtain ⟨v5_661, ev5_661, hr⟩ := lt'_e hr
        refine g_nmi ev5_661 ?_
        refine g_istore hx 249 (i := 5) [(5, .int v5_661), (0, .ref B), (2, .int v2_649), (3, .int v3_650), (4, .int v4_651), (6, .int v6_653), (7, .int v7_654), (8, .int v8_655), (9, .int v9_656)] dL_act_249 (by decide) rfl ?_
        refine g_iinc hx 251 (i := 9) 8 (v9_656 + 1) [(9, .int (v9_656 + 1)), (5, .int v5_661), (0, .ref B), (2, .int v2_649), (3, .int v3_650), (4, .int v4_651), (6, .int v6_653), (7, .int v7_654), (8, .int v8_655)] dL_act_251 rfl rfl (by decide) rfl ?_
        refine g_goto hx 254 224 dL_act_254 (by decide) ?_
        refine g_ls [2, 3, 4, 5, 1, 6, 7, 8, 0] [(0, .ref B), (2, .int v2_649), (3, .int v3_650), (4, .int v4_651), (5, .int v5_661), (6, .int v6_653), (7, .int v7_654), (8, .int v8_655), (9, .int (v9_656 + 1))] rfl ?_
        exact ih M v2_649 v3_650 v4_651 v5_661 v6_653 v7_654 v8_655 (v9_656 + 1) hr
set_option maxRecDepth 100000 in
set_option maxHeartbeats 4000000 in
theorem c_Lw_act {ad ae : Nat → Nat} (l : Launch) (g : Gl) (hC : KAll g ad ae) (σ : Hp) (B : Nat) (M : WM) (p2 : Int32) {r : Int32 × WM} (hr : Lw_act M p2 = some r) : MG l g md_Lw_act [.ref B, .int p2] (putW σ B ae M) (rs (some (.int r.1)) (putW σ B ae r.2)) := by
  refine MG.intro (by decide +kernel) (Nat.le_of_ble_eq_true rfl) (fun X hx hR _ => ?_)
  unfold Lw_act at hr
  refine g_ls [0, 1] [(0, .ref B), (1, .int p2)] rfl ?_
  refine g_iload_n hx 0 (i := 1) 1 dL_act_0 rfl rfl ?_
  refine g_bipush hx 1 (20) dL_act_1 rfl ?_
  obtain ⟨q_534, eq_534, hr⟩ := bind_e hr
  refine g_callSr hx (c_Lw_most l g _ p2 20 eq_534) lk_L_101 ar_Lw_most (As := [.int p2, .int 20]) (rest := []) rfl (Nat.le_of_ble_eq_true rfl) ⟨Nat.le_of_ble_eq_true rfl, Nat.le_of_ble_eq_true rfl⟩ ⟨rfl, rfl⟩ ⟨Nat.zero_le _, Nat.zero_le _⟩ dL_act_3 ?_
  refine g_istore_n hx 6 (i := 2) [(2, .int q_534), (0, .ref B), (1, .int p2)] dL_act_6 rfl (by decide) rfl ?_
  refine g_iload_n hx 7 (i := 1) 2 dL_act_7 rfl rfl ?_
  refine g_iconst hx 8 (4) dL_act_8 rfl ?_
  refine g_ishr hx 9 dL_act_9 ?_
  obtain ⟨v3_535, ev3_535, hr⟩ := lt'_e hr
  refine g_nmi ev3_535 ?_
  refine g_istore_n hx 10 (i := 3) [(3, .int v3_535), (2, .int q_534), (0, .ref B), (1, .int p2)] dL_act_10 rfl (by decide) rfl ?_
  refine g_aload_n hx 11 (i := 0) 2 dL_act_11 rfl rfl ?_
  refine g_iconst hx 12 (5) dL_act_12 rfl ?_
  obtain ⟨q_536, eq_536, hr⟩ := bind_e hr
  refine g_callVr hx (c_SA_size l g hC σ B M 5 eq_536) lk_L_30 ar_SA_size (pW σ B ae M 0 (by decide)) (T := TX10) (N := 11) rfl (As := [.int 5]) (rest := []) rfl (Nat.le_of_ble_eq_true rfl) ⟨Nat.le_of_ble_eq_true rfl, Nat.le_of_ble_eq_true rfl⟩ ⟨rfl, rfl⟩ ⟨Nat.zero_le _, Nat.zero_le _⟩ dL_act_13 ?_
  refine g_istore hx 16 (i := 4) [(4, .int q_536), (3, .int v3_535), (2, .int q_534), (0, .ref B), (1, .int p2)] dL_act_16 (by decide) rfl ?_
  refine g_iload_n hx 18 (i := 3) 1 dL_act_18 rfl rfl ?_
  refine g_iconst hx 19 (2) dL_act_19 rfl ?_
  refine g_ishr hx 20 dL_act_20 ?_
  refine g_iload hx 21 (i := 4) 0 dL_act_21 rfl ?_
  obtain ⟨q_537, eq_537, hr⟩ := bind_e hr
  refine g_callSr hx (c_Lw_most l g _ (v3_535 >>> (2 &&& 31)) q_536 eq_537) lk_L_101 ar_Lw_most (As := [.int (v3_535 >>> (2 &&& 31)), .int q_536]) (rest := []) rfl (Nat.le_of_ble_eq_true rfl) ⟨Nat.le_of_ble_eq_true rfl, Nat.le_of_ble_eq_true rfl⟩ ⟨rfl, rfl⟩ ⟨Nat.zero_le _, Nat.zero_le _⟩ dL_act_23 ?_
  refine g_istore hx 26 (i := 5) [(5, .int q_537), (4, .int q_536), (3, .int v3_535), (2, .int q_534), (0, .ref B), (1, .int p2)] dL_act_26 (by decide) rfl ?_
  refine g_aload_n hx 28 (i := 0) 4 dL_act_28 rfl rfl ?_
  refine g_bipush hx 29 (6) dL_act_29 rfl ?_
  obtain ⟨q_538, eq_538, hr⟩ := bind_e hr
  refine g_callVr hx (c_SA_size l g hC σ B M 6 eq_538) lk_L_30 ar_SA_size (pW σ B ae M 0 (by decide)) (T := TX10) (N := 11) rfl (As := [.int 6]) (rest := []) rfl (Nat.le_of_ble_eq_true rfl) ⟨Nat.le_of_ble_eq_true rfl, Nat.le_of_ble_eq_true rfl⟩ ⟨rfl, rfl⟩ ⟨Nat.zero_le _, Nat.zero_le _⟩ dL_act_31 ?_
  refine g_istore hx 34 (i := 6) [(6, .int q_538), (5, .int q_537), (4, .int q_536), (3, .int v3_535), (2, .int q_534), (0, .ref B), (1, .int p2)] dL_act_34 (by decide) rfl ?_
  refine g_aload_n hx 36 (i := 0) 5 dL_act_36 rfl rfl ?_
  refine g_bipush hx 37 (9) dL_act_37 rfl ?_
  obtain ⟨q_539, eq_539, hr⟩ := bind_e hr
  refine g_callVr hx (c_SA_size l g hC σ B M 9 eq_539) lk_L_30 ar_SA_size (pW σ B ae M 0 (by decide)) (T := TX10) (N := 11) rfl (As := [.int 9]) (rest := []) rfl (Nat.le_of_ble_eq_true rfl) ⟨Nat.le_of_ble_eq_true rfl, Nat.le_of_ble_eq_true rfl⟩ ⟨rfl, rfl⟩ ⟨Nat.zero_le _, Nat.zero_le _⟩ dL_act_39 ?_
  refine g_istore hx 42 (i := 7) [(7, .int q_539), (6, .int q_538), (5, .int q_537), (4, .int q_536), (3, .int v3_535), (2, .int q_534), (0, .ref B), (1, .int p2)] dL_act_42 (by decide) rfl ?_
  refine g_aload_n hx 44 (i := 0) 6 dL_act_44 rfl rfl ?_
  refine g_iload hx 45 (i := 5) 2 dL_act_45 rfl ?_
  refine g_iconst hx 47 (2) dL_act_47 rfl ?_
  obtain ⟨q_540, eq_540, hr⟩ := bind_e hr
  refine g_callVr hx (c_SA_folder l g hC σ B M q_537 2 eq_540) lk_L_37 ar_SA_folder (pW σ B ae M 0 (by decide)) (T := TX10) (N := 11) rfl (As := [.int q_537, .int 2]) (rest := []) rfl (Nat.le_of_ble_eq_true rfl) ⟨Nat.le_of_ble_eq_true rfl, Nat.le_of_ble_eq_true rfl⟩ ⟨rfl, rfl⟩ ⟨Nat.zero_le _, Nat.zero_le _⟩ dL_act_48 ?_
  obtain ⟨c_542, ec_542, hr⟩ := lt'_e hr
  have J_543 : ∀ (t_541 : Int32), c_542 t_541 = some r → G X (putW σ B ae M) 0 0 59 [(0, .ref B), (2, .int q_534), (3, .int v3_535), (4, .int q_536), (5, .int q_537), (6, .int q_538), (7, .int q_539)] [.int t_541] := by
    intro t_541 hr
    have hr := (congrFun ec_542 t_541).symm.trans hr
    refine g_istore hx 59 (i := 8) [(8, .int t_541), (0, .ref B), (2, .int q_534), (3, .int v3_535), (4, .int q_536), (5, .int q_537), (6, .int q_538), (7, .int q_539)] dL_act_59 (by decide) rfl ?_
    refine g_iload_n hx 61 (i := 2) 2 dL_act_61 rfl rfl ?_
    refine g_bipush hx 62 (7) dL_act_62 rfl ?_
    refine g_icmp_ge hx 64 168 dL_act_64 (by decide) (fun hc_544 => ?_) (fun hc_544 => ?_)
    · have hr := (if_pos hc_544).symm.trans hr
      refine g_iload_n hx 168 (i := 2) 2 dL_act_168 rfl rfl ?_
      refine g_bipush hx 169 (7) dL_act_169 rfl ?_
      refine g_icmp_ne hx 171 215 dL_act_171 (by decide) (fun hc_545 => ?_) (fun hc_545 => ?_)
      · have hr := (if_neg hc_545).symm.trans hr
        refine g_iload_n hx 215 (i := 2) 2 dL_act_215 rfl rfl ?_
        refine g_bipush hx 216 (11) dL_act_216 rfl ?_
        refine g_icmp_ge hx 218 356 dL_act_218 (by decide) (fun hc_553 => ?_) (fun hc_553 => ?_)
        · have hr := (if_pos hc_553).symm.trans hr
          refine g_iload_n hx 356 (i := 2) 2 dL_act_356 rfl rfl ?_
          refine g_bipush hx 357 (15) dL_act_357 rfl ?_
          refine g_icmp_ge hx 359 435 dL_act_359 (by decide) (fun hc_554 => ?_) (fun hc_554 => ?_)
          · have hr := (if_pos hc_554).symm.trans hr
            refine g_iload_n hx 435 (i := 2) 2 dL_act_435 rfl rfl ?_
            refine g_bipush hx 436 (17) dL_act_436 rfl ?_
            refine g_icmp_ge hx 438 546 dL_act_438 (by decide) (fun hc_555 => ?_) (fun hc_555 => ?_)
            · have hr := (if_pos hc_555).symm.trans hr
              refine g_iload_n hx 546 (i := 2) 2 dL_act_546 rfl rfl ?_
              refine g_bipush hx 547 (17) dL_act_547 rfl ?_
              refine g_icmp_ne hx 549 623 dL_act_549 (by decide) (fun hc_556 => ?_) (fun hc_556 => ?_)
              · have hr := (if_neg hc_556).symm.trans hr
                refine g_iload_n hx 623 (i := 2) 2 dL_act_623 rfl rfl ?_
                refine g_bipush hx 624 (18) dL_act_624 rfl ?_
                refine g_icmp_ne hx 626 703 dL_act_626 (by decide) (fun hc_568 => ?_) (fun hc_568 => ?_)
                · have hr := (if_neg hc_568).symm.trans hr
                  refine g_aload_n hx 703 (i := 0) 1 dL_act_703 rfl rfl ?_
                  obtain ⟨q_581, eq_581, hr⟩ := bind_e hr
                  refine g_callVr hx (c_SA_mostMisplaced l g hC σ B M eq_581) lk_L_83 ar_SA_mostMisplaced (pW σ B ae M 0 (by decide)) (T := TX10) (N := 11) rfl (As := []) (rest := []) rfl (Nat.le_of_ble_eq_true rfl) ⟨Nat.le_of_ble_eq_true rfl, Nat.le_of_ble_eq_true rfl⟩ ⟨rfl, rfl⟩ ⟨Nat.zero_le _, Nat.zero_le _⟩ dL_act_704 ?_
                  refine g_istore hx 707 (i := 9) [(9, .int q_581), (8, .int t_541), (0, .ref B), (2, .int q_534), (3, .int v3_535), (4, .int q_536), (5, .int q_537), (6, .int q_538), (7, .int q_539)] dL_act_707 (by decide) rfl ?_
                  refine g_iload hx 709 (i := 9) 0 dL_act_709 rfl ?_
                  obtain ⟨c_583, ec_583, hr⟩ := lt'_e hr
                  have J_584 : ∀ (j5_582 : Int32), c_583 j5_582 = some r → G X (putW σ B ae M) 0 0 718 [(0, .ref B), (5, .int j5_582), (6, .int q_538)] [] := by
                    intro j5_582 hr
                    have hr := (congrFun ec_583 j5_582).symm.trans hr
                    refine g_iconst hx 718 (0) dL_act_718 rfl ?_
                    refine g_istore hx 719 (i := 10) [(10, .int 0), (0, .ref B), (5, .int j5_582), (6, .int q_538)] dL_act_719 (by decide) rfl ?_
                    refine g_iconst hx 721 (0) dL_act_721 rfl ?_
                    refine g_istore hx 722 (i := 11) [(11, .int 0), (10, .int 0), (0, .ref B), (5, .int j5_582), (6, .int q_538)] dL_act_722 (by decide) rfl ?_
                    refine g_ls [2, 3, 4, 1, 0] [(0, .ref B), (5, .int j5_582), (6, .int q_538), (10, .int 0), (11, .int 0)] rfl ?_
                    refine w_Lw_act_L724 hx hC hR _ (fun M_605 v5_601 v6_602 v10_603 v11_604 hr => ?_) FU M j5_582 q_538 0 0 hr
                    refine g_aload_n hx 768 (i := 0) 0 dL_act_768 rfl rfl ?_
                    refine g_iload hx 769 (i := 5) 1 dL_act_769 rfl ?_
                    refine g_iconst hx 771 (2) dL_act_771 rfl ?_
                    obtain ⟨q_606, eq_606, hr⟩ := bind_e hr
                    refine g_callVr hx (c_SA_folder l g hC σ B M_605 v5_601 2 eq_606) lk_L_37 ar_SA_folder (pW σ B ae M_605 0 (by decide)) (T := TX10) (N := 11) rfl (As := [.int v5_601, .int 2]) (rest := []) rfl (Nat.le_of_ble_eq_true rfl) ⟨Nat.le_of_ble_eq_true rfl, Nat.le_of_ble_eq_true rfl⟩ ⟨rfl, rfl⟩ ⟨Nat.zero_le _, Nat.zero_le _⟩ dL_act_772 ?_
                    obtain ⟨c_608, ec_608, hr⟩ := lt'_e hr
                    have J_609 : ∀ (t_607 : Int32), c_608 t_607 = some r → G X (putW σ B ae M_605) 0 0 783 [(0, .ref B), (5, .int v5_601), (10, .int v10_603)] [.int t_607] := by
                      intro t_607 hr
                      have hr := (congrFun ec_608 t_607).symm.trans hr
                      refine g_istore hx 783 (i := 8) [(8, .int t_607), (0, .ref B), (5, .int v5_601), (10, .int v10_603)] dL_act_783 (by decide) rfl ?_
                      refine g_aload_n hx 785 (i := 0) 1 dL_act_785 rfl rfl ?_
                      refine g_iload hx 786 (i := 5) 2 dL_act_786 rfl ?_
                      obtain ⟨q_610, eq_610, hr⟩ := bind_e hr
                      refine g_callVr hx (c_SA_straighten l g hC σ B M_605 v5_601 eq_610) lk_L_146 ar_SA_straighten (pW σ B ae M_605 0 (by decide)) (T := TX10) (N := 11) rfl (As := [.int v5_601]) (rest := []) rfl (Nat.le_of_ble_eq_true rfl) ⟨Nat.le_of_ble_eq_true rfl, Nat.le_of_ble_eq_true rfl⟩ ⟨rfl, rfl⟩ ⟨Nat.zero_le _, Nat.zero_le _⟩ dL_act_788 ?_
                      obtain ⟨v11_611, ev11_611, hr⟩ := lt'_e hr
                      refine g_nmi ev11_611 ?_
                      refine g_istore hx 791 (i := 11) [(11, .int v11_611), (8, .int t_607), (0, .ref B), (5, .int v5_601), (10, .int v10_603)] dL_act_791 (by decide) rfl ?_
                      refine g_iload hx 793 (i := 8) 1 dL_act_793 rfl ?_
                      refine g_if_eq hx 795 825 dL_act_795 (by decide) (fun hc_612 => ?_) (fun hc_612 => ?_)
                      · have hr := (if_pos hc_612).symm.trans hr
                        refine g_iload hx 825 (i := 11) 0 dL_act_825 rfl ?_
                        refine g_bipush hx 827 (-2) dL_act_827 rfl ?_
                        refine g_icmp_ne hx 829 836 dL_act_829 (by decide) (fun hc_613 => ?_) (fun hc_613 => ?_)
                        · have hr := (if_neg hc_613).symm.trans hr
                          refine g_iconst hx 836 (0) dL_act_836 rfl ?_
                          exact g_zret hx hR 837 (Or.inl rfl) dL_act_837 ⟨by rw [← Option.some.inj hr] <;> rfl, by rw [← Option.some.inj hr] <;> rfl⟩
                        · have hr := (if_pos hc_613).symm.trans hr
                          refine g_iconst hx 832 (1) dL_act_832 rfl ?_
                          refine g_goto hx 833 837 dL_act_833 (by decide) ?_
                          exact g_zret hx hR 837 (Or.inr rfl) dL_act_837 ⟨by rw [← Option.some.inj hr] <;> rfl, by rw [← Option.some.inj hr] <;> rfl⟩
                      · have hr := (if_neg hc_612).symm.trans hr
                        refine g_iload hx 798 (i := 11) 0 dL_act_798 rfl ?_
                        refine g_iload hx 800 (i := 10) 4 dL_act_800 rfl ?_
                        obtain ⟨c_614, ec_614, hr⟩ := lt'_e hr
                        have J_615 : c_614 = some r → G X (putW σ B ae q_610.2) 0 0 821 [] [] := by
                          intro hr
                          have hr := ec_614.symm.trans hr
                          refine g_iconst hx 821 (0) dL_act_821 rfl ?_
                          refine g_goto hx 822 837 dL_act_822 (by decide) ?_
                          exact g_zret hx hR 837 (Or.inl rfl) dL_act_837 ⟨by rw [← Option.some.inj hr] <;> rfl, by rw [← Option.some.inj hr] <;> rfl⟩
                        refine g_icmp_ne hx 802 821 dL_act_802 (by decide) (fun hc_616 => ?_) (fun hc_616 => ?_)
                        · have hr := (if_neg hc_616).symm.trans hr
                          refine g_ls [] [] rfl ?_
                          exact J_615 hr
                        · have hr := (if_pos hc_616).symm.trans hr
                          refine g_aload_n hx 805 (i := 0) 2 dL_act_805 rfl rfl ?_
                          refine g_iload hx 806 (i := 5) 3 dL_act_806 rfl ?_
                          refine g_iconst hx 808 (3) dL_act_808 rfl ?_
                          obtain ⟨q_617, eq_617, hr⟩ := bind_e hr
                          refine g_callVr hx (c_SA_folder l g hC σ B q_610.2 v5_601 3 eq_617) lk_L_37 ar_SA_folder (pW σ B ae q_610.2 0 (by decide)) (T := TX10) (N := 11) rfl (As := [.int v5_601, .int 3]) (rest := []) rfl (Nat.le_of_ble_eq_true rfl) ⟨Nat.le_of_ble_eq_true rfl, Nat.le_of_ble_eq_true rfl⟩ ⟨rfl, rfl⟩ ⟨Nat.zero_le _, Nat.zero_le _⟩ dL_act_809 ?_
                          refine g_iload hx 812 (i := 10) 4 dL_act_812 rfl ?_
                          refine g_icmp_ne hx 814 821 dL_act_814 (by decide) (fun hc_618 => ?_) (fun hc_618 => ?_)
                          · have hr := (if_neg hc_618).symm.trans hr
                            refine g_ls [] [] rfl ?_
                            exact J_615 hr
                          · have hr := (if_pos hc_618).symm.trans hr
                            refine g_iconst hx 817 (1) dL_act_817 rfl ?_
                            refine g_goto hx 818 837 dL_act_818 (by decide) ?_
                            exact g_zret hx hR 837 (Or.inr rfl) dL_act_837 ⟨by rw [← Option.some.inj hr] <;> rfl, by rw [← Option.some.inj hr] <;> rfl⟩
                    refine g_if_ne hx 775 782 dL_act_775 (by decide) (fun hc_619 => ?_) (fun hc_619 => ?_)
                    · have hr := (if_neg hc_619).symm.trans hr
                      refine g_iconst hx 782 (0) dL_act_782 rfl ?_
                      refine g_ls [0, 1, 3] [(0, .ref B), (5, .int v5_601), (10, .int v10_603)] rfl ?_
                      exact J_609 0 hr
                    · have hr := (if_pos hc_619).symm.trans hr
                      refine g_iconst hx 778 (1) dL_act_778 rfl ?_
                      refine g_goto hx 779 783 dL_act_779 (by decide) ?_
                      refine g_ls [0, 1, 3] [(0, .ref B), (5, .int v5_601), (10, .int v10_603)] rfl ?_
                      exact J_609 1 hr
                  refine g_if_lt hx 711 718 dL_act_711 (by decide) (fun hc_620 => ?_) (fun hc_620 => ?_)
                  · have hr := (if_pos hc_620).symm.trans hr
                    refine g_ls [2, 6, 7] [(0, .ref B), (5, .int q_537), (6, .int q_538)] rfl ?_
                    exact J_584 q_537 hr
                  · have hr := (if_neg hc_620).symm.trans hr
                    refine g_iload hx 714 (i := 9) 0 dL_act_714 rfl ?_
                    refine g_istore hx 716 (i := 5) [(5, .int q_581), (9, .int q_581), (8, .int t_541), (0, .ref B), (2, .int q_534), (3, .int v3_535), (4, .int q_536), (6, .int q_538), (7, .int q_539)] dL_act_716 (by decide) rfl ?_
                    refine g_ls [3, 0, 7] [(0, .ref B), (5, .int q_581), (6, .int q_538)] rfl ?_
                    exact J_584 q_581 hr
                · have hr := (if_pos hc_568).symm.trans hr
                  refine g_aload_n hx 629 (i := 0) 1 dL_act_629 rfl rfl ?_
                  refine g_iload hx 630 (i := 5) 5 dL_act_630 rfl ?_
                  refine g_iconst hx 632 (1) dL_act_632 rfl ?_
                  obtain ⟨q_569, eq_569, hr⟩ := bind_e hr
                  refine g_callVr hx (c_SA_folder l g hC σ B M q_537 1 eq_569) lk_L_37 ar_SA_folder (pW σ B ae M 0 (by decide)) (T := TX10) (N := 11) rfl (As := [.int q_537, .int 1]) (rest := []) rfl (Nat.le_of_ble_eq_true rfl) ⟨Nat.le_of_ble_eq_true rfl, Nat.le_of_ble_eq_true rfl⟩ ⟨rfl, rfl⟩ ⟨Nat.zero_le _, Nat.zero_le _⟩ dL_act_633 ?_
                  refine g_istore hx 636 (i := 9) [(9, .int q_569), (8, .int t_541), (0, .ref B), (2, .int q_534), (3, .int v3_535), (4, .int q_536), (5, .int q_537), (6, .int q_538), (7, .int q_539)] dL_act_636 (by decide) rfl ?_
                  refine g_iload_n hx 638 (i := 3) 4 dL_act_638 rfl rfl ?_
                  refine g_iconst hx 639 (2) dL_act_639 rfl ?_
                  obtain ⟨q_570, eq_570, hr⟩ := bind_e hr
                  refine g_callSr hx (c_Lw_most l g _ v3_535 2 eq_570) lk_L_101 ar_Lw_most (As := [.int v3_535, .int 2]) (rest := []) rfl (Nat.le_of_ble_eq_true rfl) ⟨Nat.le_of_ble_eq_true rfl, Nat.le_of_ble_eq_true rfl⟩ ⟨rfl, rfl⟩ ⟨Nat.zero_le _, Nat.zero_le _⟩ dL_act_640 ?_
                  obtain ⟨c_572, ec_572, hr⟩ := lt'_e hr
                  have J_573 : ∀ (t_571 : Int32), c_572 t_571 = some r → G X (putW σ B ae M) 0 0 670 [(0, .ref B), (5, .int q_537), (9, .int q_569)] [.int t_571] := by
                    intro t_571 hr
                    have hr := (congrFun ec_572 t_571).symm.trans hr
                    refine g_istore hx 670 (i := 10) [(10, .int t_571), (0, .ref B), (5, .int q_537), (9, .int q_569)] dL_act_670 (by decide) rfl ?_
                    refine g_aload_n hx 672 (i := 0) 1 dL_act_672 rfl rfl ?_
                    refine g_iload hx 673 (i := 5) 2 dL_act_673 rfl ?_
                    refine g_iload hx 675 (i := 10) 0 dL_act_675 rfl ?_
                    obtain ⟨q_574, eq_574, hr⟩ := bind_e hr
                    refine g_callVr hx (c_SA_setEmbargo l g hC σ B M q_537 t_571 eq_574) lk_L_123 ar_SA_setEmbargo (pW σ B ae M 0 (by decide)) (T := TX10) (N := 11) rfl (As := [.int q_537, .int t_571]) (rest := []) rfl (Nat.le_of_ble_eq_true rfl) ⟨Nat.le_of_ble_eq_true rfl, Nat.le_of_ble_eq_true rfl⟩ ⟨rfl, rfl⟩ ⟨Nat.zero_le _, Nat.zero_le _⟩ dL_act_677 ?_
                    refine g_iload hx 680 (i := 9) 3 dL_act_680 rfl ?_
                    refine g_icmp_ne hx 682 701 dL_act_682 (by decide) (fun hc_575 => ?_) (fun hc_575 => ?_)
                    · have hr := (if_neg hc_575).symm.trans hr
                      refine g_iconst hx 701 (0) dL_act_701 rfl ?_
                      exact g_zret hx hR 702 (Or.inl rfl) dL_act_702 ⟨by rw [← Option.some.inj hr] <;> rfl, by rw [← Option.some.inj hr] <;> rfl⟩
                    · have hr := (if_pos hc_575).symm.trans hr
                      refine g_aload_n hx 685 (i := 0) 1 dL_act_685 rfl rfl ?_
                      refine g_iload hx 686 (i := 5) 2 dL_act_686 rfl ?_
                      refine g_iconst hx 688 (1) dL_act_688 rfl ?_
                      obtain ⟨q_576, eq_576, hr⟩ := bind_e hr
                      refine g_callVr hx (c_SA_folder l g hC σ B q_574.2 q_537 1 eq_576) lk_L_37 ar_SA_folder (pW σ B ae q_574.2 0 (by decide)) (T := TX10) (N := 11) rfl (As := [.int q_537, .int 1]) (rest := []) rfl (Nat.le_of_ble_eq_true rfl) ⟨Nat.le_of_ble_eq_true rfl, Nat.le_of_ble_eq_true rfl⟩ ⟨rfl, rfl⟩ ⟨Nat.zero_le _, Nat.zero_le _⟩ dL_act_689 ?_
                      refine g_iload hx 692 (i := 10) 0 dL_act_692 rfl ?_
                      refine g_icmp_ne hx 694 701 dL_act_694 (by decide) (fun hc_577 => ?_) (fun hc_577 => ?_)
                      · have hr := (if_neg hc_577).symm.trans hr
                        refine g_iconst hx 701 (0) dL_act_701 rfl ?_
                        exact g_zret hx hR 702 (Or.inl rfl) dL_act_702 ⟨by rw [← Option.some.inj hr] <;> rfl, by rw [← Option.some.inj hr] <;> rfl⟩
                      · have hr := (if_pos hc_577).symm.trans hr
                        refine g_iconst hx 697 (1) dL_act_697 rfl ?_
                        refine g_goto hx 698 702 dL_act_698 (by decide) ?_
                        exact g_zret hx hR 702 (Or.inr rfl) dL_act_702 ⟨by rw [← Option.some.inj hr] <;> rfl, by rw [← Option.some.inj hr] <;> rfl⟩
                  refine g_if_ne hx 643 650 dL_act_643 (by decide) (fun hc_578 => ?_) (fun hc_578 => ?_)
                  · have hr := (if_neg hc_578).symm.trans hr
                    refine g_sipush hx 650 (999) dL_act_650 rfl ?_
                    refine g_aload_n hx 653 (i := 0) 2 dL_act_653 rfl rfl ?_
                    refine g_iconst hx 654 (0) dL_act_654 rfl ?_
                    obtain ⟨q_579, eq_579, hr⟩ := bind_e hr
                    refine g_callVr hx (c_SA_size l g hC σ B M 0 eq_579) lk_L_30 ar_SA_size (pW σ B ae M 0 (by decide)) (T := TX10) (N := 11) rfl (As := [.int 0]) (rest := [.int 999]) rfl (Nat.le_of_ble_eq_true rfl) ⟨Nat.le_of_ble_eq_true rfl, Nat.le_of_ble_eq_true rfl⟩ ⟨rfl, rfl⟩ ⟨Nat.zero_le _, Nat.zero_le _⟩ dL_act_655 ?_
                    refine g_iload_n hx 658 (i := 3) 4 dL_act_658 rfl rfl ?_
                    refine g_iconst hx 659 (1) dL_act_659 rfl ?_
                    refine g_ishr hx 660 dL_act_660 ?_
                    refine g_bipush hx 661 (6) dL_act_661 rfl ?_
                    obtain ⟨q_580, eq_580, hr⟩ := bind_e hr
                    refine g_callSr hx (c_Lw_most l g _ (v3_535 >>> (1 &&& 31)) 6 eq_580) lk_L_101 ar_Lw_most (As := [.int (v3_535 >>> (1 &&& 31)), .int 6]) (rest := [.int q_579, .int 999]) rfl (Nat.le_of_ble_eq_true rfl) ⟨Nat.le_of_ble_eq_true rfl, Nat.le_of_ble_eq_true rfl⟩ ⟨rfl, rfl⟩ ⟨Nat.zero_le _, Nat.zero_le _⟩ dL_act_663 ?_
                    refine g_iadd hx 666 dL_act_666 ?_
                    refine g_mmin hx 667 mw_L_138 (Nat.le_of_ble_eq_true rfl) ⟨Nat.le_of_ble_eq_true rfl, Nat.le_of_ble_eq_true rfl⟩ ⟨Nat.zero_le _, Nat.zero_le _⟩ dL_act_667 ?_
                    refine g_ls [2, 6, 0] [(0, .ref B), (5, .int q_537), (9, .int q_569)] rfl ?_
                    exact J_573 (if q_579 + q_580 < 999 then q_579 + q_580 else 999) hr
                  · have hr := (if_pos hc_578).symm.trans hr
                    refine g_iconst hx 646 (0) dL_act_646 rfl ?_
                    refine g_goto hx 647 670 dL_act_647 (by decide) ?_
                    refine g_ls [2, 6, 0] [(0, .ref B), (5, .int q_537), (9, .int q_569)] rfl ?_
                    exact J_573 0 hr
              · have hr := (if_pos hc_556).symm.trans hr
                refine g_iconst hx 552 (1) dL_act_552 rfl ?_
                refine g_iload_n hx 553 (i := 3) 3 dL_act_553 rfl rfl ?_
                refine g_bipush hx 554 (12) dL_act_554 rfl ?_
                obtain ⟨q_557, eq_557, hr⟩ := bind_e hr
                refine g_callSr hx (c_Lw_most l g _ v3_535 12 eq_557) lk_L_101 ar_Lw_most (As := [.int v3_535, .int 12]) (rest := [.int 1]) rfl (Nat.le_of_ble_eq_true rfl) ⟨Nat.le_of_ble_eq_true rfl, Nat.le_of_ble_eq_true rfl⟩ ⟨rfl, rfl⟩ ⟨Nat.zero_le _, Nat.zero_le _⟩ dL_act_556 ?_
                refine g_iadd hx 559 dL_act_559 ?_
                obtain ⟨v9_558, ev9_558, hr⟩ := lt'_e hr
                refine g_nmi ev9_558 ?_
                refine g_istore hx 560 (i := 9) [(9, .int v9_558), (8, .int t_541), (0, .ref B), (2, .int q_534), (3, .int v3_535), (4, .int q_536), (5, .int q_537), (6, .int q_538), (7, .int q_539)] dL_act_560 (by decide) rfl ?_
                refine g_aload_n hx 562 (i := 0) 2 dL_act_562 rfl rfl ?_
                obtain ⟨q_559, eq_559, hr⟩ := bind_e hr
                refine g_callVr hx (c_SA_inversions l g hC σ B M eq_559) lk_L_77 ar_SA_inversions (pW σ B ae M 0 (by decide)) (T := TX10) (N := 11) rfl (As := []) (rest := []) rfl (Nat.le_of_ble_eq_true rfl) ⟨Nat.le_of_ble_eq_true rfl, Nat.le_of_ble_eq_true rfl⟩ ⟨rfl, rfl⟩ ⟨Nat.zero_le _, Nat.zero_le _⟩ dL_act_563 ?_
                refine g_istore hx 566 (i := 10) [(10, .int q_559), (9, .int v9_558), (8, .int t_541), (0, .ref B), (2, .int q_534), (3, .int v3_535), (4, .int q_536), (5, .int q_537), (6, .int q_538), (7, .int q_539)] dL_act_566 (by decide) rfl ?_
                refine g_aload_n hx 568 (i := 0) 3 dL_act_568 rfl rfl ?_
                refine g_iload hx 569 (i := 9) 1 dL_act_569 rfl ?_
                obtain ⟨q_560, eq_560, hr⟩ := bind_e hr
                refine g_callVr hx (c_SA_missedAfter l g hC σ B M v9_558 eq_560) lk_L_86 ar_SA_missedAfter (pW σ B ae M 0 (by decide)) (T := TX10) (N := 11) rfl (As := [.int v9_558]) (rest := []) rfl (Nat.le_of_ble_eq_true rfl) ⟨Nat.le_of_ble_eq_true rfl, Nat.le_of_ble_eq_true rfl⟩ ⟨rfl, rfl⟩ ⟨Nat.zero_le _, Nat.zero_le _⟩ dL_act_571 ?_
                obtain ⟨v11_561, ev11_561, hr⟩ := lt'_e hr
                refine g_nmi ev11_561 ?_
                refine g_istore hx 574 (i := 11) [(11, .int v11_561), (10, .int q_559), (9, .int v9_558), (8, .int t_541), (0, .ref B), (2, .int q_534), (3, .int v3_535), (4, .int q_536), (5, .int q_537), (6, .int q_538), (7, .int q_539)] dL_act_574 (by decide) rfl ?_
                refine g_aload_n hx 576 (i := 0) 4 dL_act_576 rfl rfl ?_
                refine g_iload hx 577 (i := 9) 2 dL_act_577 rfl ?_
                obtain ⟨q_562, eq_562, hr⟩ := bind_e hr
                refine g_callVr hx (c_SA_check l g hC σ B q_560.2 v9_558 eq_562) lk_L_135 ar_SA_check (pW σ B ae q_560.2 0 (by decide)) (T := TX10) (N := 11) rfl (As := [.int v9_558]) (rest := []) rfl (Nat.le_of_ble_eq_true rfl) ⟨Nat.le_of_ble_eq_true rfl, Nat.le_of_ble_eq_true rfl⟩ ⟨rfl, rfl⟩ ⟨Nat.zero_le _, Nat.zero_le _⟩ dL_act_579 ?_
                refine g_iload hx 582 (i := 9) 2 dL_act_582 rfl ?_
                refine g_iload hx 584 (i := 10) 1 dL_act_584 rfl ?_
                refine g_mmin hx 586 mw_L_138 (Nat.le_of_ble_eq_true rfl) ⟨Nat.le_of_ble_eq_true rfl, Nat.le_of_ble_eq_true rfl⟩ ⟨Nat.zero_le _, Nat.zero_le _⟩ dL_act_586 ?_
                refine g_icmp_ne hx 589 621 dL_act_589 (by decide) (fun hc_563 => ?_) (fun hc_563 => ?_)
                · have hr := (if_neg hc_563).symm.trans hr
                  refine g_iconst hx 621 (0) dL_act_621 rfl ?_
                  exact g_zret hx hR 622 (Or.inl rfl) dL_act_622 ⟨by rw [← Option.some.inj hr] <;> rfl, by rw [← Option.some.inj hr] <;> rfl⟩
                · have hr := (if_pos hc_563).symm.trans hr
                  refine g_aload_n hx 592 (i := 0) 4 dL_act_592 rfl rfl ?_
                  obtain ⟨q_564, eq_564, hr⟩ := bind_e hr
                  refine g_callVr hx (c_SA_inversions l g hC σ B q_562.2 eq_564) lk_L_77 ar_SA_inversions (pW σ B ae q_562.2 0 (by decide)) (T := TX10) (N := 11) rfl (As := []) (rest := []) rfl (Nat.le_of_ble_eq_true rfl) ⟨Nat.le_of_ble_eq_true rfl, Nat.le_of_ble_eq_true rfl⟩ ⟨rfl, rfl⟩ ⟨Nat.zero_le _, Nat.zero_le _⟩ dL_act_593 ?_
                  refine g_iconst hx 596 (0) dL_act_596 rfl ?_
                  refine g_iload hx 597 (i := 10) 1 dL_act_597 rfl ?_
                  refine g_iload hx 599 (i := 9) 2 dL_act_599 rfl ?_
                  refine g_isub hx 601 dL_act_601 ?_
                  refine g_mmax hx 602 mw_L_143 (Nat.le_of_ble_eq_true rfl) ⟨Nat.le_of_ble_eq_true rfl, Nat.le_of_ble_eq_true rfl⟩ ⟨Nat.zero_le _, Nat.zero_le _⟩ dL_act_602 ?_
                  refine g_icmp_ne hx 605 621 dL_act_605 (by decide) (fun hc_565 => ?_) (fun hc_565 => ?_)
                  · have hr := (if_neg hc_565).symm.trans hr
                    refine g_iconst hx 621 (0) dL_act_621 rfl ?_
                    exact g_zret hx hR 622 (Or.inl rfl) dL_act_622 ⟨by rw [← Option.some.inj hr] <;> rfl, by rw [← Option.some.inj hr] <;> rfl⟩
                  · have hr := (if_pos hc_565).symm.trans hr
                    refine g_aload_n hx 608 (i := 0) 4 dL_act_608 rfl rfl ?_
                    obtain ⟨q_566, eq_566, hr⟩ := bind_e hr
                    refine g_callVr hx (c_SA_missed l g hC σ B q_562.2 eq_566) lk_L_92 ar_SA_missed (pW σ B ae q_562.2 0 (by decide)) (T := TX10) (N := 11) rfl (As := []) (rest := []) rfl (Nat.le_of_ble_eq_true rfl) ⟨Nat.le_of_ble_eq_true rfl, Nat.le_of_ble_eq_true rfl⟩ ⟨rfl, rfl⟩ ⟨Nat.zero_le _, Nat.zero_le _⟩ dL_act_609 ?_
                    refine g_iload hx 612 (i := 11) 0 dL_act_612 rfl ?_
                    refine g_icmp_ne hx 614 621 dL_act_614 (by decide) (fun hc_567 => ?_) (fun hc_567 => ?_)
                    · have hr := (if_neg hc_567).symm.trans hr
                      refine g_iconst hx 621 (0) dL_act_621 rfl ?_
                      exact g_zret hx hR 622 (Or.inl rfl) dL_act_622 ⟨by rw [← Option.some.inj hr] <;> rfl, by rw [← Option.some.inj hr] <;> rfl⟩
                    · have hr := (if_pos hc_567).symm.trans hr
                      refine g_iconst hx 617 (1) dL_act_617 rfl ?_
                      refine g_goto hx 618 622 dL_act_618 (by decide) ?_
                      exact g_zret hx hR 622 (Or.inr rfl) dL_act_622 ⟨by rw [← Option.some.inj hr] <;> rfl, by rw [← Option.some.inj hr] <;> rfl⟩
            · have hr := (if_neg hc_555).symm.trans hr
              refine g_iload_n hx 441 (i := 3) 3 dL_act_441 rfl rfl ?_
              refine g_iload hx 442 (i := 6) 6 dL_act_442 rfl ?_
              refine g_iconst hx 444 (1) dL_act_444 rfl ?_
              refine g_iadd hx 445 dL_act_445 ?_
              obtain ⟨q_621, eq_621, hr⟩ := bind_e hr
              refine g_callSr hx (c_Lw_most l g _ v3_535 (q_538 + 1) eq_621) lk_L_101 ar_Lw_most (As := [.int v3_535, .int (q_538 + 1)]) (rest := []) rfl (Nat.le_of_ble_eq_true rfl) ⟨Nat.le_of_ble_eq_true rfl, Nat.le_of_ble_eq_true rfl⟩ ⟨rfl, rfl⟩ ⟨Nat.zero_le _, Nat.zero_le _⟩ dL_act_446 ?_
              refine g_istore hx 449 (i := 9) [(9, .int q_621), (8, .int t_541), (0, .ref B), (2, .int q_534), (3, .int v3_535), (4, .int q_536), (5, .int q_537), (6, .int q_538), (7, .int q_539)] dL_act_449 (by decide) rfl ?_
              refine g_iload hx 451 (i := 8) 1 dL_act_451 rfl ?_
              obtain ⟨c_623, ec_623, hr⟩ := lt'_e hr
              have J_624 : ∀ (t_622 : Int32), c_623 t_622 = some r → G X (putW σ B ae M) 0 0 467 [(0, .ref B), (5, .int q_537), (6, .int q_538), (8, .int t_541), (9, .int q_621)] [.int t_622] := by
                intro t_622 hr
                have hr := (congrFun ec_623 t_622).symm.trans hr
                refine g_istore hx 467 (i := 10) [(10, .int t_622), (0, .ref B), (5, .int q_537), (6, .int q_538), (8, .int t_541), (9, .int q_621)] dL_act_467 (by decide) rfl ?_
                refine g_aload_n hx 469 (i := 0) 1 dL_act_469 rfl rfl ?_
                refine g_iload hx 470 (i := 5) 2 dL_act_470 rfl ?_
                refine g_iload hx 472 (i := 9) 5 dL_act_472 rfl ?_
                obtain ⟨q_625, eq_625, hr⟩ := bind_e hr
                refine g_callVr hx (c_SA_misfile l g hC σ B M q_537 q_621 eq_625) lk_L_132 ar_SA_misfile (pW σ B ae M 0 (by decide)) (T := TX10) (N := 11) rfl (As := [.int q_537, .int q_621]) (rest := []) rfl (Nat.le_of_ble_eq_true rfl) ⟨Nat.le_of_ble_eq_true rfl, Nat.le_of_ble_eq_true rfl⟩ ⟨rfl, rfl⟩ ⟨Nat.zero_le _, Nat.zero_le _⟩ dL_act_474 ?_
                obtain ⟨v11_626, ev11_626, hr⟩ := lt'_e hr
                refine g_nmi ev11_626 ?_
                refine g_istore hx 477 (i := 11) [(11, .int v11_626), (10, .int t_622), (0, .ref B), (5, .int q_537), (6, .int q_538), (8, .int t_541), (9, .int q_621)] dL_act_477 (by decide) rfl ?_
                refine g_iload hx 479 (i := 8) 5 dL_act_479 rfl ?_
                refine g_if_ne hx 481 499 dL_act_481 (by decide) (fun hc_627 => ?_) (fun hc_627 => ?_)
                · have hr := (if_neg hc_627).symm.trans hr
                  refine g_iload hx 499 (i := 9) 6 dL_act_499 rfl ?_
                  refine g_iload hx 501 (i := 6) 4 dL_act_501 rfl ?_
                  refine g_icmp_lt hx 503 521 dL_act_503 (by decide) (fun hc_629 => ?_) (fun hc_629 => ?_)
                  · have hr := (if_pos hc_629).symm.trans hr
                    refine g_iload hx 521 (i := 11) 0 dL_act_521 rfl ?_
                    refine g_iload hx 523 (i := 10) 1 dL_act_523 rfl ?_
                    refine g_icmp_ne hx 525 544 dL_act_525 (by decide) (fun hc_630 => ?_) (fun hc_630 => ?_)
                    · have hr := (if_neg hc_630).symm.trans hr
                      refine g_iconst hx 544 (0) dL_act_544 rfl ?_
                      exact g_zret hx hR 545 (Or.inl rfl) dL_act_545 ⟨by rw [← Option.some.inj hr] <;> rfl, by rw [← Option.some.inj hr] <;> rfl⟩
                    · have hr := (if_pos hc_630).symm.trans hr
                      refine g_aload_n hx 528 (i := 0) 2 dL_act_528 rfl rfl ?_
                      refine g_iload hx 529 (i := 5) 3 dL_act_529 rfl ?_
                      refine g_iconst hx 531 (3) dL_act_531 rfl ?_
                      obtain ⟨q_631, eq_631, hr⟩ := bind_e hr
                      refine g_callVr hx (c_SA_folder l g hC σ B q_625.2 q_537 3 eq_631) lk_L_37 ar_SA_folder (pW σ B ae q_625.2 0 (by decide)) (T := TX10) (N := 11) rfl (As := [.int q_537, .int 3]) (rest := []) rfl (Nat.le_of_ble_eq_true rfl) ⟨Nat.le_of_ble_eq_true rfl, Nat.le_of_ble_eq_true rfl⟩ ⟨rfl, rfl⟩ ⟨Nat.zero_le _, Nat.zero_le _⟩ dL_act_532 ?_
                      refine g_iload hx 535 (i := 9) 6 dL_act_535 rfl ?_
                      refine g_icmp_ne hx 537 544 dL_act_537 (by decide) (fun hc_632 => ?_) (fun hc_632 => ?_)
                      · have hr := (if_neg hc_632).symm.trans hr
                        refine g_iconst hx 544 (0) dL_act_544 rfl ?_
                        exact g_zret hx hR 545 (Or.inl rfl) dL_act_545 ⟨by rw [← Option.some.inj hr] <;> rfl, by rw [← Option.some.inj hr] <;> rfl⟩
                      · have hr := (if_pos hc_632).symm.trans hr
                        refine g_iconst hx 540 (1) dL_act_540 rfl ?_
                        refine g_goto hx 541 545 dL_act_541 (by decide) ?_
                        exact g_zret hx hR 545 (Or.inr rfl) dL_act_545 ⟨by rw [← Option.some.inj hr] <;> rfl, by rw [← Option.some.inj hr] <;> rfl⟩
                  · have hr := (if_neg hc_629).symm.trans hr
                    refine g_iload hx 506 (i := 11) 0 dL_act_506 rfl ?_
                    refine g_bipush hx 508 (-3) dL_act_508 rfl ?_
                    refine g_icmp_ne hx 510 517 dL_act_510 (by decide) (fun hc_633 => ?_) (fun hc_633 => ?_)
                    · have hr := (if_neg hc_633).symm.trans hr
                      refine g_iconst hx 517 (0) dL_act_517 rfl ?_
                      refine g_goto hx 518 545 dL_act_518 (by decide) ?_
                      exact g_zret hx hR 545 (Or.inl rfl) dL_act_545 ⟨by rw [← Option.some.inj hr] <;> rfl, by rw [← Option.some.inj hr] <;> rfl⟩
                    · have hr := (if_pos hc_633).symm.trans hr
                      refine g_iconst hx 513 (1) dL_act_513 rfl ?_
                      refine g_goto hx 514 545 dL_act_514 (by decide) ?_
                      exact g_zret hx hR 545 (Or.inr rfl) dL_act_545 ⟨by rw [← Option.some.inj hr] <;> rfl, by rw [← Option.some.inj hr] <;> rfl⟩
                · have hr := (if_pos hc_627).symm.trans hr
                  refine g_iload hx 484 (i := 11) 0 dL_act_484 rfl ?_
                  refine g_bipush hx 486 (-2) dL_act_486 rfl ?_
                  refine g_icmp_ne hx 488 495 dL_act_488 (by decide) (fun hc_628 => ?_) (fun hc_628 => ?_)
                  · have hr := (if_neg hc_628).symm.trans hr
                    refine g_iconst hx 495 (0) dL_act_495 rfl ?_
                    refine g_goto hx 496 545 dL_act_496 (by decide) ?_
                    exact g_zret hx hR 545 (Or.inl rfl) dL_act_545 ⟨by rw [← Option.some.inj hr] <;> rfl, by rw [← Option.some.inj hr] <;> rfl⟩
                  · have hr := (if_pos hc_628).symm.trans hr
                    refine g_iconst hx 491 (1) dL_act_491 rfl ?_
                    refine g_goto hx 492 545 dL_act_492 (by decide) ?_
                    exact g_zret hx hR 545 (Or.inr rfl) dL_act_545 ⟨by rw [← Option.some.inj hr] <;> rfl, by rw [← Option.some.inj hr] <;> rfl⟩
              refine g_if_eq hx 453 466 dL_act_453 (by decide) (fun hc_634 => ?_) (fun hc_634 => ?_)
              · have hr := (if_pos hc_634).symm.trans hr
                refine g_iconst hx 466 (-1) dL_act_466 rfl ?_
                refine g_ls [2, 6, 7, 1, 0] [(0, .ref B), (5, .int q_537), (6, .int q_538), (8, .int t_541), (9, .int q_621)] rfl ?_
                exact J_624 (-1) hr
              · have hr := (if_neg hc_634).symm.trans hr
                refine g_aload_n hx 456 (i := 0) 2 dL_act_456 rfl rfl ?_
                refine g_iload hx 457 (i := 5) 6 dL_act_457 rfl ?_
                refine g_iconst hx 459 (3) dL_act_459 rfl ?_
                obtain ⟨q_635, eq_635, hr⟩ := bind_e hr
                refine g_callVr hx (c_SA_folder l g hC σ B M q_537 3 eq_635) lk_L_37 ar_SA_folder (pW σ B ae M 0 (by decide)) (T := TX10) (N := 11) rfl (As := [.int q_537, .int 3]) (rest := []) rfl (Nat.le_of_ble_eq_true rfl) ⟨Nat.le_of_ble_eq_true rfl, Nat.le_of_ble_eq_true rfl⟩ ⟨rfl, rfl⟩ ⟨Nat.zero_le _, Nat.zero_le _⟩ dL_act_460 ?_
                refine g_goto hx 463 467 dL_act_463 (by decide) ?_
                refine g_ls [2, 6, 7, 1, 0] [(0, .ref B), (5, .int q_537), (6, .int q_538), (8, .int t_541), (9, .int q_621)] rfl ?_
                exact J_624 q_635 hr
          · have hr := (if_neg hc_554).symm.trans hr
            refine g_iconst hx 362 (1) dL_act_362 rfl ?_
            refine g_iload_n hx 363 (i := 3) 3 dL_act_363 rfl rfl ?_
            refine g_iconst hx 364 (4) dL_act_364 rfl ?_
            obtain ⟨q_636, eq_636, hr⟩ := bind_e hr
            refine g_callSr hx (c_Lw_most l g _ v3_535 4 eq_636) lk_L_101 ar_Lw_most (As := [.int v3_535, .int 4]) (rest := [.int 1]) rfl (Nat.le_of_ble_eq_true rfl) ⟨Nat.le_of_ble_eq_true rfl, Nat.le_of_ble_eq_true rfl⟩ ⟨rfl, rfl⟩ ⟨Nat.zero_le _, Nat.zero_le _⟩ dL_act_365 ?_
            refine g_iadd hx 368 dL_act_368 ?_
            obtain ⟨v9_637, ev9_637, hr⟩ := lt'_e hr
            refine g_nmi ev9_637 ?_
            refine g_istore hx 369 (i := 9) [(9, .int v9_637), (8, .int t_541), (0, .ref B), (2, .int q_534), (3, .int v3_535), (4, .int q_536), (5, .int q_537), (6, .int q_538), (7, .int q_539)] dL_act_369 (by decide) rfl ?_
            refine g_aload_n hx 371 (i := 0) 2 dL_act_371 rfl rfl ?_
            refine g_iload hx 372 (i := 9) 0 dL_act_372 rfl ?_
            obtain ⟨q_638, eq_638, hr⟩ := bind_e hr
            refine g_callVr hx (c_SA_servedBy l g hC σ B M v9_637 eq_638) lk_L_104 ar_SA_servedBy (pW σ B ae M 0 (by decide)) (T := TX10) (N := 11) rfl (As := [.int v9_637]) (rest := []) rfl (Nat.le_of_ble_eq_true rfl) ⟨Nat.le_of_ble_eq_true rfl, Nat.le_of_ble_eq_true rfl⟩ ⟨rfl, rfl⟩ ⟨Nat.zero_le _, Nat.zero_le _⟩ dL_act_374 ?_
            obtain ⟨v10_639, ev10_639, hr⟩ := lt'_e hr
            refine g_nmi ev10_639 ?_
            refine g_istore hx 377 (i := 10) [(10, .int v10_639), (9, .int v9_637), (8, .int t_541), (0, .ref B), (2, .int q_534), (3, .int v3_535), (4, .int q_536), (5, .int q_537), (6, .int q_538), (7, .int q_539)] dL_act_377 (by decide) rfl ?_
            refine g_aload_n hx 379 (i := 0) 3 dL_act_379 rfl rfl ?_
            refine g_iload hx 380 (i := 9) 1 dL_act_380 rfl ?_
            obtain ⟨q_640, eq_640, hr⟩ := bind_e hr
            refine g_callVr hx (c_SA_waitingIn l g hC σ B q_638.2 v9_637 eq_640) lk_L_107 ar_SA_waitingIn (pW σ B ae q_638.2 0 (by decide)) (T := TX10) (N := 11) rfl (As := [.int v9_637]) (rest := []) rfl (Nat.le_of_ble_eq_true rfl) ⟨Nat.le_of_ble_eq_true rfl, Nat.le_of_ble_eq_true rfl⟩ ⟨rfl, rfl⟩ ⟨Nat.zero_le _, Nat.zero_le _⟩ dL_act_382 ?_
            obtain ⟨v11_641, ev11_641, hr⟩ := lt'_e hr
            refine g_nmi ev11_641 ?_
            refine g_istore hx 385 (i := 11) [(11, .int v11_641), (10, .int v10_639), (9, .int v9_637), (8, .int t_541), (0, .ref B), (2, .int q_534), (3, .int v3_535), (4, .int q_536), (5, .int q_537), (6, .int q_538), (7, .int q_539)] dL_act_385 (by decide) rfl ?_
            refine g_aload_n hx 387 (i := 0) 4 dL_act_387 rfl rfl ?_
            refine g_iconst hx 388 (0) dL_act_388 rfl ?_
            obtain ⟨q_642, eq_642, hr⟩ := bind_e hr
            refine g_callVr hx (c_SA_size l g hC σ B q_640.2 0 eq_642) lk_L_30 ar_SA_size (pW σ B ae q_640.2 0 (by decide)) (T := TX10) (N := 11) rfl (As := [.int 0]) (rest := []) rfl (Nat.le_of_ble_eq_true rfl) ⟨Nat.le_of_ble_eq_true rfl, Nat.le_of_ble_eq_true rfl⟩ ⟨rfl, rfl⟩ ⟨Nat.zero_le _, Nat.zero_le _⟩ dL_act_389 ?_
            refine g_istore hx 392 (i := 12) [(12, .int q_642), (11, .int v11_641), (10, .int v10_639), (9, .int v9_637), (8, .int t_541), (0, .ref B), (2, .int q_534), (3, .int v3_535), (4, .int q_536), (5, .int q_537), (6, .int q_538), (7, .int q_539)] dL_act_392 (by decide) rfl ?_
            refine g_aload_n hx 394 (i := 0) 5 dL_act_394 rfl rfl ?_
            refine g_iload hx 395 (i := 9) 3 dL_act_395 rfl ?_
            obtain ⟨q_643, eq_643, hr⟩ := bind_e hr
            refine g_callVr hx (c_SA_days l g hC σ B q_640.2 v9_637 eq_643) lk_L_113 ar_SA_days (pW σ B ae q_640.2 0 (by decide)) (T := TX10) (N := 11) rfl (As := [.int v9_637]) (rest := []) rfl (Nat.le_of_ble_eq_true rfl) ⟨Nat.le_of_ble_eq_true rfl, Nat.le_of_ble_eq_true rfl⟩ ⟨rfl, rfl⟩ ⟨Nat.zero_le _, Nat.zero_le _⟩ dL_act_397 ?_
            refine g_iload hx 400 (i := 10) 2 dL_act_400 rfl ?_
            refine g_icmp_ne hx 402 433 dL_act_402 (by decide) (fun hc_644 => ?_) (fun hc_644 => ?_)
            · have hr := (if_neg hc_644).symm.trans hr
              refine g_iconst hx 433 (0) dL_act_433 rfl ?_
              exact g_zret hx hR 434 (Or.inl rfl) dL_act_434 ⟨by rw [← Option.some.inj hr] <;> rfl, by rw [← Option.some.inj hr] <;> rfl⟩
            · have hr := (if_pos hc_644).symm.trans hr
              refine g_aload_n hx 405 (i := 0) 5 dL_act_405 rfl rfl ?_
              refine g_bipush hx 406 (9) dL_act_406 rfl ?_
              obtain ⟨q_645, eq_645, hr⟩ := bind_e hr
              refine g_callVr hx (c_SA_size l g hC σ B q_643.2 9 eq_645) lk_L_30 ar_SA_size (pW σ B ae q_643.2 0 (by decide)) (T := TX10) (N := 11) rfl (As := [.int 9]) (rest := []) rfl (Nat.le_of_ble_eq_true rfl) ⟨Nat.le_of_ble_eq_true rfl, Nat.le_of_ble_eq_true rfl⟩ ⟨rfl, rfl⟩ ⟨Nat.zero_le _, Nat.zero_le _⟩ dL_act_408 ?_
              refine g_iload hx 411 (i := 11) 1 dL_act_411 rfl ?_
              refine g_icmp_ne hx 413 433 dL_act_413 (by decide) (fun hc_646 => ?_) (fun hc_646 => ?_)
              · have hr := (if_neg hc_646).symm.trans hr
                refine g_iconst hx 433 (0) dL_act_433 rfl ?_
                exact g_zret hx hR 434 (Or.inl rfl) dL_act_434 ⟨by rw [← Option.some.inj hr] <;> rfl, by rw [← Option.some.inj hr] <;> rfl⟩
              · have hr := (if_pos hc_646).symm.trans hr
                refine g_aload_n hx 416 (i := 0) 5 dL_act_416 rfl rfl ?_
                refine g_iconst hx 417 (0) dL_act_417 rfl ?_
                obtain ⟨q_647, eq_647, hr⟩ := bind_e hr
                refine g_callVr hx (c_SA_size l g hC σ B q_643.2 0 eq_647) lk_L_30 ar_SA_size (pW σ B ae q_643.2 0 (by decide)) (T := TX10) (N := 11) rfl (As := [.int 0]) (rest := []) rfl (Nat.le_of_ble_eq_true rfl) ⟨Nat.le_of_ble_eq_true rfl, Nat.le_of_ble_eq_true rfl⟩ ⟨rfl, rfl⟩ ⟨Nat.zero_le _, Nat.zero_le _⟩ dL_act_418 ?_
                refine g_iload hx 421 (i := 12) 0 dL_act_421 rfl ?_
                refine g_iload hx 423 (i := 9) 3 dL_act_423 rfl ?_
                refine g_iadd hx 425 dL_act_425 ?_
                refine g_icmp_ne hx 426 433 dL_act_426 (by decide) (fun hc_648 => ?_) (fun hc_648 => ?_)
                · have hr := (if_neg hc_648).symm.trans hr
                  refine g_iconst hx 433 (0) dL_act_433 rfl ?_
                  exact g_zret hx hR 434 (Or.inl rfl) dL_act_434 ⟨by rw [← Option.some.inj hr] <;> rfl, by rw [← Option.some.inj hr] <;> rfl⟩
                · have hr := (if_pos hc_648).symm.trans hr
                  refine g_iconst hx 429 (1) dL_act_429 rfl ?_
                  refine g_goto hx 430 434 dL_act_430 (by decide) ?_
                  exact g_zret hx hR 434 (Or.inr rfl) dL_act_434 ⟨by rw [← Option.some.inj hr] <;> rfl, by rw [← Option.some.inj hr] <;> rfl⟩
        · have hr := (if_neg hc_553).symm.trans hr
          refine g_iconst hx 221 (0) dL_act_221 rfl ?_
          refine g_istore hx 222 (i := 9) [(9, .int 0), (8, .int t_541), (0, .ref B), (2, .int q_534), (3, .int v3_535), (4, .int q_536), (5, .int q_537), (6, .int q_538), (7, .int q_539)] dL_act_222 (by decide) rfl ?_
          refine g_ls [2, 3, 4, 5, 6, 7, 8, 1, 0] [(0, .ref B), (2, .int q_534), (3, .int v3_535), (4, .int q_536), (5, .int q_537), (6, .int q_538), (7, .int q_539), (8, .int t_541), (9, .int 0)] rfl ?_
          refine w_Lw_act_L224 hx hC hR _ (fun M_678 v2_670 v3_671 v4_672 v5_673 v6_674 v7_675 v8_676 v9_677 hr => ?_) FU M q_534 v3_535 q_536 q_537 q_538 q_539 t_541 0 hr
          refine g_aload_n hx 257 (i := 0) 0 dL_act_257 rfl rfl ?_
          refine g_iload hx 258 (i := 5) 4 dL_act_258 rfl ?_
          refine g_iconst hx 260 (2) dL_act_260 rfl ?_
          obtain ⟨q_679, eq_679, hr⟩ := bind_e hr
          refine g_callVr hx (c_SA_folder l g hC σ B M_678 v5_673 2 eq_679) lk_L_37 ar_SA_folder (pW σ B ae M_678 0 (by decide)) (T := TX10) (N := 11) rfl (As := [.int v5_673, .int 2]) (rest := []) rfl (Nat.le_of_ble_eq_true rfl) ⟨Nat.le_of_ble_eq_true rfl, Nat.le_of_ble_eq_true rfl⟩ ⟨rfl, rfl⟩ ⟨Nat.zero_le _, Nat.zero_le _⟩ dL_act_261 ?_
          refine g_iconst hx 264 (1) dL_act_264 rfl ?_
          obtain ⟨c_681, ec_681, hr⟩ := lt'_e hr
          have J_682 : ∀ (t_680 : Int32), c_681 t_680 = some r → G X (putW σ B ae M_678) 0 0 273 [(0, .ref B), (5, .int v5_673)] [.int t_680] := by
            intro t_680 hr
            have hr := (congrFun ec_681 t_680).symm.trans hr
            refine g_istore hx 273 (i := 9) [(9, .int t_680), (0, .ref B), (5, .int v5_673)] dL_act_273 (by decide) rfl ?_
            refine g_aload_n hx 275 (i := 0) 1 dL_act_275 rfl rfl ?_
            refine g_iload hx 276 (i := 5) 2 dL_act_276 rfl ?_
            refine g_iconst hx 278 (3) dL_act_278 rfl ?_
            obtain ⟨q_683, eq_683, hr⟩ := bind_e hr
            refine g_callVr hx (c_SA_folder l g hC σ B M_678 v5_673 3 eq_683) lk_L_37 ar_SA_folder (pW σ B ae M_678 0 (by decide)) (T := TX10) (N := 11) rfl (As := [.int v5_673, .int 3]) (rest := []) rfl (Nat.le_of_ble_eq_true rfl) ⟨Nat.le_of_ble_eq_true rfl, Nat.le_of_ble_eq_true rfl⟩ ⟨rfl, rfl⟩ ⟨Nat.zero_le _, Nat.zero_le _⟩ dL_act_279 ?_
            refine g_istore hx 282 (i := 10) [(10, .int q_683), (9, .int t_680), (0, .ref B), (5, .int v5_673)] dL_act_282 (by decide) rfl ?_
            refine g_aload_n hx 284 (i := 0) 2 dL_act_284 rfl rfl ?_
            refine g_bipush hx 285 (8) dL_act_285 rfl ?_
            obtain ⟨q_684, eq_684, hr⟩ := bind_e hr
            refine g_callVr hx (c_SA_size l g hC σ B M_678 8 eq_684) lk_L_30 ar_SA_size (pW σ B ae M_678 0 (by decide)) (T := TX10) (N := 11) rfl (As := [.int 8]) (rest := []) rfl (Nat.le_of_ble_eq_true rfl) ⟨Nat.le_of_ble_eq_true rfl, Nat.le_of_ble_eq_true rfl⟩ ⟨rfl, rfl⟩ ⟨Nat.zero_le _, Nat.zero_le _⟩ dL_act_287 ?_
            refine g_istore hx 290 (i := 11) [(11, .int q_684), (10, .int q_683), (9, .int t_680), (0, .ref B), (5, .int v5_673)] dL_act_290 (by decide) rfl ?_
            refine g_aload_n hx 292 (i := 0) 3 dL_act_292 rfl rfl ?_
            refine g_iload hx 293 (i := 5) 4 dL_act_293 rfl ?_
            obtain ⟨q_685, eq_685, hr⟩ := bind_e hr
            refine g_callVr hx (c_SA_giveBack l g hC σ B M_678 v5_673 eq_685) lk_L_129 ar_SA_giveBack (pW σ B ae M_678 0 (by decide)) (T := TX10) (N := 11) rfl (As := [.int v5_673]) (rest := []) rfl (Nat.le_of_ble_eq_true rfl) ⟨Nat.le_of_ble_eq_true rfl, Nat.le_of_ble_eq_true rfl⟩ ⟨rfl, rfl⟩ ⟨Nat.zero_le _, Nat.zero_le _⟩ dL_act_295 ?_
            obtain ⟨v12_686, ev12_686, hr⟩ := lt'_e hr
            refine g_nmi ev12_686 ?_
            refine g_istore hx 298 (i := 12) [(12, .int v12_686), (11, .int q_684), (10, .int q_683), (9, .int t_680), (0, .ref B), (5, .int v5_673)] dL_act_298 (by decide) rfl ?_
            refine g_iload hx 300 (i := 9) 3 dL_act_300 rfl ?_
            refine g_if_eq hx 302 343 dL_act_302 (by decide) (fun hc_687 => ?_) (fun hc_687 => ?_)
            · have hr := (if_pos hc_687).symm.trans hr
              refine g_iload hx 343 (i := 12) 0 dL_act_343 rfl ?_
              refine g_bipush hx 345 (-2) dL_act_345 rfl ?_
              refine g_icmp_ne hx 347 354 dL_act_347 (by decide) (fun hc_688 => ?_) (fun hc_688 => ?_)
              · have hr := (if_neg hc_688).symm.trans hr
                refine g_iconst hx 354 (0) dL_act_354 rfl ?_
                exact g_zret hx hR 355 (Or.inl rfl) dL_act_355 ⟨by rw [← Option.some.inj hr] <;> rfl, by rw [← Option.some.inj hr] <;> rfl⟩
              · have hr := (if_pos hc_688).symm.trans hr
                refine g_iconst hx 350 (1) dL_act_350 rfl ?_
                refine g_goto hx 351 355 dL_act_351 (by decide) ?_
                exact g_zret hx hR 355 (Or.inr rfl) dL_act_355 ⟨by rw [← Option.some.inj hr] <;> rfl, by rw [← Option.some.inj hr] <;> rfl⟩
            · have hr := (if_neg hc_687).symm.trans hr
              refine g_iload hx 305 (i := 12) 0 dL_act_305 rfl ?_
              refine g_iload hx 307 (i := 10) 2 dL_act_307 rfl ?_
              obtain ⟨c_689, ec_689, hr⟩ := lt'_e hr
              have J_690 : c_689 = some r → G X (putW σ B ae q_685.2) 0 0 339 [] [] := by
                intro hr
                have hr := ec_689.symm.trans hr
                refine g_iconst hx 339 (0) dL_act_339 rfl ?_
                refine g_goto hx 340 355 dL_act_340 (by decide) ?_
                exact g_zret hx hR 355 (Or.inl rfl) dL_act_355 ⟨by rw [← Option.some.inj hr] <;> rfl, by rw [← Option.some.inj hr] <;> rfl⟩
              refine g_icmp_ne hx 309 339 dL_act_309 (by decide) (fun hc_691 => ?_) (fun hc_691 => ?_)
              · have hr := (if_neg hc_691).symm.trans hr
                refine g_ls [] [] rfl ?_
                exact J_690 hr
              · have hr := (if_pos hc_691).symm.trans hr
                refine g_aload_n hx 312 (i := 0) 4 dL_act_312 rfl rfl ?_
                refine g_iload hx 313 (i := 5) 5 dL_act_313 rfl ?_
                refine g_iconst hx 315 (2) dL_act_315 rfl ?_
                obtain ⟨q_692, eq_692, hr⟩ := bind_e hr
                refine g_callVr hx (c_SA_folder l g hC σ B q_685.2 v5_673 2 eq_692) lk_L_37 ar_SA_folder (pW σ B ae q_685.2 0 (by decide)) (T := TX10) (N := 11) rfl (As := [.int v5_673, .int 2]) (rest := []) rfl (Nat.le_of_ble_eq_true rfl) ⟨Nat.le_of_ble_eq_true rfl, Nat.le_of_ble_eq_true rfl⟩ ⟨rfl, rfl⟩ ⟨Nat.zero_le _, Nat.zero_le _⟩ dL_act_316 ?_
                refine g_iconst hx 319 (2) dL_act_319 rfl ?_
                refine g_icmp_ne hx 320 339 dL_act_320 (by decide) (fun hc_693 => ?_) (fun hc_693 => ?_)
                · have hr := (if_neg hc_693).symm.trans hr
                  refine g_ls [] [] rfl ?_
                  exact J_690 hr
                · have hr := (if_pos hc_693).symm.trans hr
                  refine g_aload_n hx 323 (i := 0) 4 dL_act_323 rfl rfl ?_
                  refine g_iload hx 324 (i := 5) 5 dL_act_324 rfl ?_
                  refine g_iconst hx 326 (3) dL_act_326 rfl ?_
                  obtain ⟨q_694, eq_694, hr⟩ := bind_e hr
                  refine g_callVr hx (c_SA_folder l g hC σ B q_685.2 v5_673 3 eq_694) lk_L_37 ar_SA_folder (pW σ B ae q_685.2 0 (by decide)) (T := TX10) (N := 11) rfl (As := [.int v5_673, .int 3]) (rest := []) rfl (Nat.le_of_ble_eq_true rfl) ⟨Nat.le_of_ble_eq_true rfl, Nat.le_of_ble_eq_true rfl⟩ ⟨rfl, rfl⟩ ⟨Nat.zero_le _, Nat.zero_le _⟩ dL_act_327 ?_
                  refine g_iload hx 330 (i := 11) 1 dL_act_330 rfl ?_
                  refine g_icmp_ne hx 332 339 dL_act_332 (by decide) (fun hc_695 => ?_) (fun hc_695 => ?_)
                  · have hr := (if_neg hc_695).symm.trans hr
                    refine g_ls [] [] rfl ?_
                    exact J_690 hr
                  · have hr := (if_pos hc_695).symm.trans hr
                    refine g_iconst hx 335 (1) dL_act_335 rfl ?_
                    refine g_goto hx 336 355 dL_act_336 (by decide) ?_
                    exact g_zret hx hR 355 (Or.inr rfl) dL_act_355 ⟨by rw [← Option.some.inj hr] <;> rfl, by rw [← Option.some.inj hr] <;> rfl⟩
          refine g_icmp_ne hx 265 272 dL_act_265 (by decide) (fun hc_696 => ?_) (fun hc_696 => ?_)
          · have hr := (if_neg hc_696).symm.trans hr
            refine g_iconst hx 272 (0) dL_act_272 rfl ?_
            refine g_ls [0, 4] [(0, .ref B), (5, .int v5_673)] rfl ?_
            exact J_682 0 hr
          · have hr := (if_pos hc_696).symm.trans hr
            refine g_iconst hx 268 (1) dL_act_268 rfl ?_
            refine g_goto hx 269 273 dL_act_269 (by decide) ?_
            refine g_ls [0, 4] [(0, .ref B), (5, .int v5_673)] rfl ?_
            exact J_682 1 hr
      · have hr := (if_pos hc_545).symm.trans hr
        refine g_iload_n hx 174 (i := 3) 3 dL_act_174 rfl rfl ?_
        refine g_iload hx 175 (i := 7) 7 dL_act_175 rfl ?_
        refine g_iconst hx 177 (1) dL_act_177 rfl ?_
        refine g_iadd hx 178 dL_act_178 ?_
        obtain ⟨q_546, eq_546, hr⟩ := bind_e hr
        refine g_callSr hx (c_Lw_most l g _ v3_535 (q_539 + 1) eq_546) lk_L_101 ar_Lw_most (As := [.int v3_535, .int (q_539 + 1)]) (rest := []) rfl (Nat.le_of_ble_eq_true rfl) ⟨Nat.le_of_ble_eq_true rfl, Nat.le_of_ble_eq_true rfl⟩ ⟨rfl, rfl⟩ ⟨Nat.zero_le _, Nat.zero_le _⟩ dL_act_179 ?_
        refine g_istore hx 182 (i := 9) [(9, .int q_546), (8, .int t_541), (0, .ref B), (2, .int q_534), (3, .int v3_535), (4, .int q_536), (5, .int q_537), (6, .int q_538), (7, .int q_539)] dL_act_182 (by decide) rfl ?_
        refine g_aload_n hx 184 (i := 0) 2 dL_act_184 rfl rfl ?_
        refine g_iload hx 185 (i := 9) 0 dL_act_185 rfl ?_
        obtain ⟨q_547, eq_547, hr⟩ := bind_e hr
        refine g_callVr hx (c_SA_dropSlip l g hC σ B M q_546 eq_547) lk_L_120 ar_SA_dropSlip (pW σ B ae M 0 (by decide)) (T := TX10) (N := 11) rfl (As := [.int q_546]) (rest := []) rfl (Nat.le_of_ble_eq_true rfl) ⟨Nat.le_of_ble_eq_true rfl, Nat.le_of_ble_eq_true rfl⟩ ⟨rfl, rfl⟩ ⟨Nat.zero_le _, Nat.zero_le _⟩ dL_act_187 ?_
        refine g_iload hx 190 (i := 9) 0 dL_act_190 rfl ?_
        refine g_iload hx 192 (i := 7) 8 dL_act_192 rfl ?_
        obtain ⟨c_549, ec_549, hr⟩ := lt'_e hr
        have J_550 : ∀ (t_548 : Int32), c_549 t_548 = some r → G X (putW σ B ae q_547.2) 0 0 206 [] [.int t_548, .int q_547.1] := by
          intro t_548 hr
          have hr := (congrFun ec_549 t_548).symm.trans hr
          refine g_icmp_ne hx 206 213 dL_act_206 (by decide) (fun hc_551 => ?_) (fun hc_551 => ?_)
          · have hr := (if_neg hc_551).symm.trans hr
            refine g_iconst hx 213 (0) dL_act_213 rfl ?_
            exact g_zret hx hR 214 (Or.inl rfl) dL_act_214 ⟨by rw [← Option.some.inj hr] <;> rfl, by rw [← Option.some.inj hr] <;> rfl⟩
          · have hr := (if_pos hc_551).symm.trans hr
            refine g_iconst hx 209 (1) dL_act_209 rfl ?_
            refine g_goto hx 210 214 dL_act_210 (by decide) ?_
            exact g_zret hx hR 214 (Or.inr rfl) dL_act_214 ⟨by rw [← Option.some.inj hr] <;> rfl, by rw [← Option.some.inj hr] <;> rfl⟩
        refine g_icmp_ge hx 194 204 dL_act_194 (by decide) (fun hc_552 => ?_) (fun hc_552 => ?_)
        · have hr := (if_pos hc_552).symm.trans hr
          refine g_bipush hx 204 (-2) dL_act_204 rfl ?_
          refine g_ls [] [] rfl ?_
          exact J_550 (-2) hr
        · have hr := (if_neg hc_552).symm.trans hr
          refine g_iload hx 197 (i := 7) 8 dL_act_197 rfl ?_
          refine g_iconst hx 199 (1) dL_act_199 rfl ?_
          refine g_isub hx 200 dL_act_200 ?_
          refine g_goto hx 201 206 dL_act_201 (by decide) ?_
          refine g_ls [] [] rfl ?_
          exact J_550 (q_539 - 1) hr
    · have hr := (if_neg hc_544).symm.trans hr
      refine g_iload_n hx 67 (i := 3) 3 dL_act_67 rfl rfl ?_
      refine g_aload_n hx 68 (i := 0) 1 dL_act_68 rfl rfl ?_
      refine g_iconst hx 69 (3) dL_act_69 rfl ?_
      obtain ⟨q_697, eq_697, hr⟩ := bind_e hr
      refine g_callVr hx (c_SA_size l g hC σ B M 3 eq_697) lk_L_30 ar_SA_size (pW σ B ae M 0 (by decide)) (T := TX10) (N := 11) rfl (As := [.int 3]) (rest := [.int v3_535]) rfl (Nat.le_of_ble_eq_true rfl) ⟨Nat.le_of_ble_eq_true rfl, Nat.le_of_ble_eq_true rfl⟩ ⟨rfl, rfl⟩ ⟨Nat.zero_le _, Nat.zero_le _⟩ dL_act_70 ?_
      obtain ⟨q_698, eq_698, hr⟩ := bind_e hr
      refine g_callSr hx (c_Lw_most l g _ v3_535 q_697 eq_698) lk_L_101 ar_Lw_most (As := [.int v3_535, .int q_697]) (rest := []) rfl (Nat.le_of_ble_eq_true rfl) ⟨Nat.le_of_ble_eq_true rfl, Nat.le_of_ble_eq_true rfl⟩ ⟨rfl, rfl⟩ ⟨Nat.zero_le _, Nat.zero_le _⟩ dL_act_73 ?_
      refine g_istore hx 76 (i := 9) [(9, .int q_698), (8, .int t_541), (0, .ref B), (2, .int q_534), (3, .int v3_535), (4, .int q_536), (5, .int q_537), (6, .int q_538), (7, .int q_539)] dL_act_76 (by decide) rfl ?_
      refine g_aload_n hx 78 (i := 0) 2 dL_act_78 rfl rfl ?_
      refine g_iload hx 79 (i := 9) 0 dL_act_79 rfl ?_
      refine g_iload hx 81 (i := 5) 6 dL_act_81 rfl ?_
      obtain ⟨q_699, eq_699, hr⟩ := bind_e hr
      refine g_callVr hx (c_SA_why l g hC σ B M q_698 q_537 eq_699) lk_L_68 ar_SA_why (pW σ B ae M 0 (by decide)) (T := TX10) (N := 11) rfl (As := [.int q_698, .int q_537]) (rest := []) rfl (Nat.le_of_ble_eq_true rfl) ⟨Nat.le_of_ble_eq_true rfl, Nat.le_of_ble_eq_true rfl⟩ ⟨rfl, rfl⟩ ⟨Nat.zero_le _, Nat.zero_le _⟩ dL_act_83 ?_
      refine g_istore hx 86 (i := 10) [(10, .int q_699), (9, .int q_698), (8, .int t_541), (0, .ref B), (2, .int q_534), (3, .int v3_535), (4, .int q_536), (5, .int q_537), (6, .int q_538), (7, .int q_539)] dL_act_86 (by decide) rfl ?_
      refine g_aload_n hx 88 (i := 0) 3 dL_act_88 rfl rfl ?_
      refine g_iload hx 89 (i := 9) 1 dL_act_89 rfl ?_
      refine g_iload hx 91 (i := 5) 7 dL_act_91 rfl ?_
      obtain ⟨q_700, eq_700, hr⟩ := bind_e hr
      refine g_callVr hx (c_SA_slip l g hC σ B M q_698 q_537 eq_700) lk_L_126 ar_SA_slip (pW σ B ae M 0 (by decide)) (T := TX10) (N := 11) rfl (As := [.int q_698, .int q_537]) (rest := []) rfl (Nat.le_of_ble_eq_true rfl) ⟨Nat.le_of_ble_eq_true rfl, Nat.le_of_ble_eq_true rfl⟩ ⟨rfl, rfl⟩ ⟨Nat.zero_le _, Nat.zero_le _⟩ dL_act_93 ?_
      obtain ⟨v11_701, ev11_701, hr⟩ := lt'_e hr
      refine g_nmi ev11_701 ?_
      refine g_istore hx 96 (i := 11) [(11, .int v11_701), (10, .int q_699), (9, .int q_698), (8, .int t_541), (0, .ref B), (2, .int q_534), (3, .int v3_535), (4, .int q_536), (5, .int q_537), (6, .int q_538), (7, .int q_539)] dL_act_96 (by decide) rfl ?_
      refine g_iload hx 98 (i := 10) 1 dL_act_98 rfl ?_
      refine g_if_ge hx 100 118 dL_act_100 (by decide) (fun hc_702 => ?_) (fun hc_702 => ?_)
      · have hr := (if_pos hc_702).symm.trans hr
        refine g_iload hx 118 (i := 11) 0 dL_act_118 rfl ?_
        refine g_iload hx 120 (i := 7) 10 dL_act_120 rfl ?_
        refine g_icmp_ne hx 122 166 dL_act_122 (by decide) (fun hc_703 => ?_) (fun hc_703 => ?_)
        · have hr := (if_neg hc_703).symm.trans hr
          refine g_iconst hx 166 (0) dL_act_166 rfl ?_
          exact g_zret hx hR 167 (Or.inl rfl) dL_act_167 ⟨by rw [← Option.some.inj hr] <;> rfl, by rw [← Option.some.inj hr] <;> rfl⟩
        · have hr := (if_pos hc_703).symm.trans hr
          refine g_aload_n hx 125 (i := 0) 4 dL_act_125 rfl rfl ?_
          refine g_bipush hx 126 (9) dL_act_126 rfl ?_
          obtain ⟨q_704, eq_704, hr⟩ := bind_e hr
          refine g_callVr hx (c_SA_size l g hC σ B q_700.2 9 eq_704) lk_L_30 ar_SA_size (pW σ B ae q_700.2 0 (by decide)) (T := TX10) (N := 11) rfl (As := [.int 9]) (rest := []) rfl (Nat.le_of_ble_eq_true rfl) ⟨Nat.le_of_ble_eq_true rfl, Nat.le_of_ble_eq_true rfl⟩ ⟨rfl, rfl⟩ ⟨Nat.zero_le _, Nat.zero_le _⟩ dL_act_128 ?_
          refine g_iload hx 131 (i := 7) 10 dL_act_131 rfl ?_
          refine g_iconst hx 133 (1) dL_act_133 rfl ?_
          refine g_iadd hx 134 dL_act_134 ?_
          refine g_icmp_ne hx 135 166 dL_act_135 (by decide) (fun hc_705 => ?_) (fun hc_705 => ?_)
          · have hr := (if_neg hc_705).symm.trans hr
            refine g_iconst hx 166 (0) dL_act_166 rfl ?_
            exact g_zret hx hR 167 (Or.inl rfl) dL_act_167 ⟨by rw [← Option.some.inj hr] <;> rfl, by rw [← Option.some.inj hr] <;> rfl⟩
          · have hr := (if_pos hc_705).symm.trans hr
            refine g_aload_n hx 138 (i := 0) 4 dL_act_138 rfl rfl ?_
            refine g_iload hx 139 (i := 7) 10 dL_act_139 rfl ?_
            refine g_iconst hx 141 (1) dL_act_141 rfl ?_
            obtain ⟨q_706, eq_706, hr⟩ := bind_e hr
            refine g_callVr hx (c_SA_waiting l g hC σ B q_700.2 q_539 1 eq_706) lk_L_41 ar_SA_waiting (pW σ B ae q_700.2 0 (by decide)) (T := TX10) (N := 11) rfl (As := [.int q_539, .int 1]) (rest := []) rfl (Nat.le_of_ble_eq_true rfl) ⟨Nat.le_of_ble_eq_true rfl, Nat.le_of_ble_eq_true rfl⟩ ⟨rfl, rfl⟩ ⟨Nat.zero_le _, Nat.zero_le _⟩ dL_act_142 ?_
            refine g_iload hx 145 (i := 5) 8 dL_act_145 rfl ?_
            refine g_icmp_ne hx 147 166 dL_act_147 (by decide) (fun hc_707 => ?_) (fun hc_707 => ?_)
            · have hr := (if_neg hc_707).symm.trans hr
              refine g_iconst hx 166 (0) dL_act_166 rfl ?_
              exact g_zret hx hR 167 (Or.inl rfl) dL_act_167 ⟨by rw [← Option.some.inj hr] <;> rfl, by rw [← Option.some.inj hr] <;> rfl⟩
            · have hr := (if_pos hc_707).symm.trans hr
              refine g_aload_n hx 150 (i := 0) 4 dL_act_150 rfl rfl ?_
              refine g_iload hx 151 (i := 7) 10 dL_act_151 rfl ?_
              refine g_iconst hx 153 (0) dL_act_153 rfl ?_
              obtain ⟨q_708, eq_708, hr⟩ := bind_e hr
              refine g_callVr hx (c_SA_waiting l g hC σ B q_700.2 q_539 0 eq_708) lk_L_41 ar_SA_waiting (pW σ B ae q_700.2 0 (by decide)) (T := TX10) (N := 11) rfl (As := [.int q_539, .int 0]) (rest := []) rfl (Nat.le_of_ble_eq_true rfl) ⟨Nat.le_of_ble_eq_true rfl, Nat.le_of_ble_eq_true rfl⟩ ⟨rfl, rfl⟩ ⟨Nat.zero_le _, Nat.zero_le _⟩ dL_act_154 ?_
              refine g_iload hx 157 (i := 9) 2 dL_act_157 rfl ?_
              refine g_icmp_ne hx 159 166 dL_act_159 (by decide) (fun hc_709 => ?_) (fun hc_709 => ?_)
              · have hr := (if_neg hc_709).symm.trans hr
                refine g_iconst hx 166 (0) dL_act_166 rfl ?_
                exact g_zret hx hR 167 (Or.inl rfl) dL_act_167 ⟨by rw [← Option.some.inj hr] <;> rfl, by rw [← Option.some.inj hr] <;> rfl⟩
              · have hr := (if_pos hc_709).symm.trans hr
                refine g_iconst hx 162 (1) dL_act_162 rfl ?_
                refine g_goto hx 163 167 dL_act_163 (by decide) ?_
                exact g_zret hx hR 167 (Or.inr rfl) dL_act_167 ⟨by rw [← Option.some.inj hr] <;> rfl, by rw [← Option.some.inj hr] <;> rfl⟩
      · have hr := (if_neg hc_702).symm.trans hr
        refine g_iload hx 103 (i := 11) 0 dL_act_103 rfl ?_
        refine g_iload hx 105 (i := 10) 1 dL_act_105 rfl ?_
        refine g_icmp_ne hx 107 114 dL_act_107 (by decide) (fun hc_710 => ?_) (fun hc_710 => ?_)
        · have hr := (if_neg hc_710).symm.trans hr
          refine g_iconst hx 114 (0) dL_act_114 rfl ?_
          refine g_goto hx 115 167 dL_act_115 (by decide) ?_
          exact g_zret hx hR 167 (Or.inl rfl) dL_act_167 ⟨by rw [← Option.some.inj hr] <;> rfl, by rw [← Option.some.inj hr] <;> rfl⟩
        · have hr := (if_pos hc_710).symm.trans hr
          refine g_iconst hx 110 (1) dL_act_110 rfl ?_
          refine g_goto hx 111 167 dL_act_111 (by decide) ?_
          exact g_zret hx hR 167 (Or.inr rfl) dL_act_167 ⟨by rw [← Option.some.inj hr] <;> rfl, by rw [← Option.some.inj hr] <;> rfl⟩
  refine g_if_ne hx 51 58 dL_act_51 (by decide) (fun hc_711 => ?_) (fun hc_711 => ?_)
  · have hr := (if_neg hc_711).symm.trans hr
    refine g_iconst hx 58 (0) dL_act_58 rfl ?_
    refine g_ls [6, 5, 4, 3, 2, 1, 0] [(0, .ref B), (2, .int q_534), (3, .int v3_535), (4, .int q_536), (5, .int q_537), (6, .int q_538), (7, .int q_539)] rfl ?_
    exact J_543 0 hr
  · have hr := (if_pos hc_711).symm.trans hr
    refine g_iconst hx 54 (1) dL_act_54 rfl ?_
    refine g_goto hx 55 59 dL_act_55 (by decide) ?_
    refine g_ls [6, 5, 4, 3, 2, 1, 0] [(0, .ref B), (2, .int q_534), (3, .int v3_535), (4, .int q_536), (5, .int q_537), (6, .int q_538), (7, .int q_539)] rfl ?_
    exact J_543 1 hr
