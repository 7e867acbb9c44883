/-! which exception each method throws -/
theorem ki_playL : ∀ (n : Nat) (M : WM) (a b c d : Int32), Kin (fun k => k = 0) (SA_play_L81 n M a b c d) := by
  intro n
  induction n with
  | zero => intro M a b c d; exact Kin.n
  | succ n ih =>
    intro M a b c d
    unfold SA_play_L81
    repeat (first | exact Kin.l rfl | exact Kin.r _ | exact ih _ _ _ _ _ | apply Kin.ite | refine Kin.bind fun _ => ?_ | refine Kin.lt fun _ => ?_)
theorem ki_load (W : WM) (p : Int32) : Kin (fun k => k = 0) (SA_load W p) := by
  unfold SA_load
  repeat (first | exact Kin.l rfl | exact Kin.r _ | apply Kin.ite | refine Kin.bind fun _ => ?_ | refine Kin.lt fun _ => ?_)
theorem ki_size (W : WM) (p : Int32) : Kin (fun k => k = 0) (SA_size W p) := by
  unfold SA_size
  repeat (first | exact Kin.l rfl | exact Kin.r _ | apply Kin.ite | refine Kin.bind fun _ => ?_ | refine Kin.lt fun _ => ?_)
theorem ki_account (W : WM) (p : Int32) : Kin (fun k => k = 0) (SA_account W p) := by
  unfold SA_account
  repeat (first | exact Kin.l rfl | exact Kin.r _ | apply Kin.ite | refine Kin.bind fun _ => ?_ | refine Kin.lt fun _ => ?_)
theorem ki_waiting (W : WM) (p q : Int32) : Kin (fun k => k = 0) (SA_waiting W p q) := by
  unfold SA_waiting
  repeat (first | exact Kin.l rfl | exact Kin.r _ | apply Kin.ite | refine Kin.bind fun _ => ?_ | refine Kin.lt fun _ => ?_)
theorem ki_why (W : WM) (p q : Int32) : Kin (fun k => k ≠ 0) (SA_why W p q) := by
  unfold SA_why
  repeat (first | exact Kin.l (by decide) | exact Kin.r _ | apply Kin.ite | refine Kin.bind fun _ => ?_ | refine Kin.lt fun _ => ?_)
theorem ki_cause (W : WM) (p q : Int32) : Kin (fun k => k ≠ 0) (SA_cause W p q) := by
  unfold SA_cause
  repeat (first | exact Kin.l (by decide) | exact Kin.r _ | apply Kin.ite | refine Kin.bind fun _ => ?_ | refine Kin.lt fun _ => ?_)
theorem ki_servedBy (W : WM) (p : Int32) : Kin (fun k => k = 0) (SA_servedBy W p) := by
  unfold SA_servedBy
  repeat (first | exact Kin.l rfl | exact Kin.r _ | apply Kin.ite | refine Kin.bind fun _ => ?_ | refine Kin.lt fun _ => ?_)
theorem ki_waitingIn (W : WM) (p : Int32) : Kin (fun k => k = 0) (SA_waitingIn W p) := by
  unfold SA_waitingIn
  repeat (first | exact Kin.l rfl | exact Kin.r _ | apply Kin.ite | refine Kin.bind fun _ => ?_ | refine Kin.lt fun _ => ?_)
theorem ki_servedWith (W : WM) (p : Int32) : Kin (fun k => k = 0) (SA_servedWith W p) := by
  unfold SA_servedWith
  repeat (first | exact Kin.l rfl | exact Kin.r _ | apply Kin.ite | refine Kin.bind fun _ => ?_ | refine Kin.lt fun _ => ?_)
theorem ki_missedAfter (W : WM) (p : Int32) : Kin (fun k => k = 0) (SA_missedAfter W p) := by
  unfold SA_missedAfter
  repeat (first | exact Kin.l rfl | exact Kin.r _ | apply Kin.ite | refine Kin.bind fun _ => ?_ | refine Kin.lt fun _ => ?_)
theorem ki_slip (W : WM) (p q : Int32) : Kin (fun k => k ≠ 0) (SA_slip W p q) := by
  unfold SA_slip
  repeat (first | exact Kin.l (by decide) | exact Kin.r _ | apply Kin.ite | refine Kin.bind fun _ => ?_ | refine Kin.lt fun _ => ?_)
theorem ki_giveBack (W : WM) (p : Int32) : Kin (fun k => k ≠ 0) (SA_giveBack W p) := by
  unfold SA_giveBack
  repeat (first | exact Kin.l (by decide) | exact Kin.r _ | apply Kin.ite | refine Kin.bind fun _ => ?_ | refine Kin.lt fun _ => ?_)
theorem ki_days (W : WM) (p : Int32) : Kin (fun k => k = 0) (SA_days W p) := by
  unfold SA_days
  repeat (first | exact Kin.l rfl | exact Kin.r _ | apply Kin.ite | refine Kin.bind fun _ => ?_ | refine Kin.lt fun _ => ?_)
theorem ki_misfile (W : WM) (p q : Int32) : Kin (fun k => k ≠ 0) (SA_misfile W p q) := by
  unfold SA_misfile
  repeat (first | exact Kin.l (by decide) | exact Kin.r _ | apply Kin.ite | refine Kin.bind fun _ => ?_ | refine Kin.lt fun _ => ?_)
theorem ki_straighten (W : WM) (p : Int32) : Kin (fun k => k ≠ 0) (SA_straighten W p) := by
  unfold SA_straighten
  repeat (first | exact Kin.l (by decide) | exact Kin.r _ | apply Kin.ite | refine Kin.bind fun _ => ?_ | refine Kin.lt fun _ => ?_)
theorem ki_check (W : WM) (p : Int32) : Kin (fun k => k = 0) (SA_check W p) := by
  unfold SA_check
  repeat (first | exact Kin.l rfl | exact Kin.r _ | apply Kin.ite | refine Kin.bind fun _ => ?_ | refine Kin.lt fun _ => ?_)
theorem ki_play (W : WM) (p : Int32) : Kin (fun k => k = 0) (SA_play W p) := by
  unfold SA_play
  repeat (first | exact Kin.l rfl | exact Kin.r _ | exact ki_playL _ _ _ _ _ _ | apply Kin.ite | refine Kin.bind fun _ => ?_ | refine Kin.lt fun _ => ?_)
