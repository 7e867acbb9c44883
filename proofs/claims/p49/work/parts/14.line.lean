theorem ob {α : Type} {c : Prop} [Decidable c] {a : Option α} {r : α} (h : (if c then a else none) = some r) : c ∧ a = some r := by
  by_cases hc : c
  · exact ⟨hc, by rw [if_pos hc] at h; exact h⟩
  · rw [if_neg hc] at h; cases h
theorem bind_e {α β : Type} {a : Option α} {f : α → Option β} {r : β} (h : Option.bind a f = some r) : ∃ x, a = some x ∧ f x = some r := by
  cases a with
  | none => cases h
  | some x => exact ⟨x, rfl, h⟩
abbrev inB (i : Int32) (n : Nat) : Prop := ¬ (i < 0 ∨ n ≤ i.toNatClampNeg)
def isRaw (σ : Hp) (k N : Nat) (s : LnR) : Prop := σ.2 k = some (eO 1 [.ref (k + 1), .int s.2]) ∧ σ.2 (k + 1) = some (eI N s.1)
abbrev farL (k j : Nat) : Prop := j ≠ k ∧ j ≠ k + 1 ∧ j + 1 ≠ k ∧ j + 1 ≠ k + 1
theorem rR_o {σ : Hp} {a0 N0 a1 N1 : Nat} {s O : LnR} (h2 : isRaw σ a1 N1 O) (hd : farL a0 a1) : (rawLn σ a0 N0 s).2 a1 = some (eO 1 [.ref (a1 + 1), .int O.2]) := (rL_n _ _ _ _ hd.1 hd.2.1).trans h2.1
theorem rR_a {σ : Hp} {a0 N0 a1 N1 : Nat} {s O : LnR} (h2 : isRaw σ a1 N1 O) (hd : farL a0 a1) : (rawLn σ a0 N0 s).2 (a1 + 1) = some (eI N1 O.1) := (rL_n _ _ _ _ hd.2.2.1 hd.2.2.2).trans h2.2
/-! what a Line's methods do to its list -/
def lnget (xs : List Int32) (p : Int32) : Int32 := if 0 ≤ p ∧ p < nI xs.length then xs.getD p.toNatClampNeg 0 else (-1)
def lnset (xs : List Int32) (p v : Int32) : List Int32 := if 0 ≤ p ∧ p < nI xs.length then xs.set p.toNatClampNeg v else xs
def lnraise (xs : List Int32) (p v : Int32) : List Int32 := if 0 ≤ p ∧ p < nI xs.length then xs.set p.toNatClampNeg (xs.getD p.toNatClampNeg 0 + v) else xs
def lnadd (N : Nat) (xs : List Int32) (v : Int32) : List Int32 := if xs.length < N then xs ++ [v] else xs
def lnins (N : Nat) (xs : List Int32) (p v : Int32) : List Int32 := if p < 0 ∨ nI xs.length < p ∨ N ≤ xs.length then xs else xs.take p.toNatClampNeg ++ v :: xs.drop p.toNatClampNeg
def lnrem (xs : List Int32) (p : Int32) : List Int32 := if p < 0 ∨ nI xs.length ≤ p then xs else xs.take p.toNatClampNeg ++ xs.drop (p.toNatClampNeg + 1)
def lnplN : List Int32 → Int32 → Nat → Int32
  | [], _, _ => -1
  | x :: xs, v, i => if x = v then nI i else lnplN xs v (i + 1)
def lnpl (xs : List Int32) (v : Int32) : Int32 := lnplN xs v 0
def lncnt (xs : List Int32) (v : Int32) : Int32 := nI (xs.count v)
def lnfill (N : Nat) (m : Int32) : List Int32 := List.replicate (min m.toNatClampNeg N) 0
def md_Ln_count : Md := (yX2_count, cX2_count, 1, some .int, 0, 0, 0, 0)
def md_Ln_get : Md := (yX2_get, cX2_get, 2, some .int, 0, 0, 0, 0)
def md_Ln_set : Md := (yX2_set, cX2_set, 3, none, 0, 0, 0, 0)
def md_Ln_raise : Md := (yX2_raise, cX2_raise, 3, none, 0, 0, 0, 0)
def md_Ln_add : Md := (yX2_add, cX2_add, 2, none, 0, 0, 0, 0)
def md_Ln_insert : Md := (yX2_insert, cX2_insert, 4, none, 0, 0, 0, 0)
def md_Ln_removeAt : Md := (yX2_removeAt, cX2_removeAt, 3, none, 0, 0, 0, 0)
def md_Ln_placeOf : Md := (yX2_placeOf, cX2_placeOf, 3, some .int, 0, 0, 0, 0)
def md_Ln_countOf : Md := (yX2_countOf, cX2_countOf, 4, some .int, 0, 0, 0, 0)
def md_Ln_clear : Md := (yX2_clear, cX2_clear, 1, none, 0, 0, 0, 0)
def md_Ln_fillWithZeros : Md := (yX2_fillWithZeros, cX2_fillWithZeros, 3, none, 1, 21, 0, 0)
def md_Ln_copyFrom : Md := (yX2_copyFrom, cX2_copyFrom, 3, none, 1, 60, 0, 0)
theorem fl_X2_9 : Cond.fieldLink RX2 9 (TX2 1).1 (TX2 1).2.1 (TX2 1).2.2.1 ∈ aw := aw1 (by decide +kernel)
theorem fl_X2_15 : Cond.fieldLink RX2 15 (TX2 0).1 (TX2 0).2.1 (TX2 0).2.2.1 ∈ aw := aw1 (by decide +kernel)
theorem lk_X2_19 : Lk md_Ln_clear [.methodLink RX2 19 md_Ln_clear.y, .instanceMethod md_Ln_clear.y, .selects md_Ln_clear.y.cls md_Ln_clear.y md_Ln_clear.y] := lk_of (by decide +kernel)
theorem ar_Ln_clear : Arity md_Ln_clear 0 := ⟨by decide +kernel, by decide +kernel, by decide +kernel⟩
theorem lk_X2_22 : Lk md_Ln_add [.methodLink RX2 22 md_Ln_add.y, .instanceMethod md_Ln_add.y, .selects md_Ln_add.y.cls md_Ln_add.y md_Ln_add.y] := lk_of (by decide +kernel)
theorem ar_Ln_add : Arity md_Ln_add 1 := ⟨by decide +kernel, by decide +kernel, by decide +kernel⟩
theorem mw_X2_26 : ∀ w ∈ [Cond.methodLink RX2 26 Lib.Math.min.name, Cond.static Lib.Math.min.name, Cond.initialized "java/lang/Math", Cond.code Lib.Math.min.name Lib.Math.min.code 2 (some .int)], w ∈ aw := aw_of (by decide +kernel)
def Ln_count (N0 : Nat) (M : LnR) : Int32 := M.2
set_option maxRecDepth 100000 in
set_option maxHeartbeats 4000000 in
theorem c_Ln_count (l : Launch) (g : Gl) (σ : Hp) (a0 N0 : Nat) (M : LnR) {r : Int32} (hr : Ln_count N0 M = r) : MG l g md_Ln_count [.ref a0] (rawLn σ a0 N0 M) (rs (some (.int r)) (rawLn σ a0 N0 M)) := by
  refine MG.intro (by decide +kernel) (Nat.le_of_ble_eq_true rfl) (fun X hx hR _ => ?_)
  unfold Ln_count at hr
  refine g_ls [0] [(0, .ref a0)] rfl ?_
  refine g_aload_n hx 0 (i := 0) 0 dX2_count_0 rfl rfl ?_
  refine g_get hx 1 (C := RX2) (T := TX2) (N := 2) 1 (.int M.2) (rL_o σ a0 N0 M) rfl (by decide) rfl fl_X2_9 dX2_count_1 ?_
  exact g_iret hx hR 4 dX2_count_4 ⟨by rw [← hr] <;> rfl, rfl⟩
def Ln_get (N0 : Nat) (M : LnR) (p1 : Int32) : Option (Int32) := if p1 < 0 then (some ((-1))) else (if M.2 ≤ p1 then (some ((-1))) else (if inB p1 N0 then (some (M.1 p1.toNatClampNeg)) else none))
set_option maxRecDepth 100000 in
set_option maxHeartbeats 4000000 in
theorem c_Ln_get (l : Launch) (g : Gl) (σ : Hp) (a0 N0 : Nat) (M : LnR) (p1 : Int32) {r : Int32} (hr : Ln_get N0 M p1 = some r) : MG l g md_Ln_get [.ref a0, .int p1] (rawLn σ a0 N0 M) (rs (some (.int r)) (rawLn σ a0 N0 M)) := by
  refine MG.intro (by decide +kernel) (Nat.le_of_ble_eq_true rfl) (fun X hx hR _ => ?_)
  unfold Ln_get at hr
  refine g_ls [0, 1] [(0, .ref a0), (1, .int p1)] rfl ?_
  refine g_iload_n hx 0 (i := 1) 1 dX2_get_0 rfl rfl ?_
  refine g_if_lt hx 1 21 dX2_get_1 (by decide) (fun hc_1 => ?_) (fun hc_1 => ?_)
  · have hr := (if_pos hc_1).symm.trans hr
    refine g_iconst hx 21 (-1) dX2_get_21 rfl ?_
    exact g_iret hx hR 22 dX2_get_22 ⟨by rw [← Option.some.inj hr] <;> rfl, rfl⟩
  · have hr := (if_neg hc_1).symm.trans hr
    refine g_iload_n hx 4 (i := 1) 1 dX2_get_4 rfl rfl ?_
    refine g_aload_n hx 5 (i := 0) 0 dX2_get_5 rfl rfl ?_
    refine g_get hx 6 (C := RX2) (T := TX2) (N := 2) 1 (.int M.2) (rL_o σ a0 N0 M) rfl (by decide) rfl fl_X2_9 dX2_get_6 ?_
    refine g_icmp_ge hx 9 21 dX2_get_9 (by decide) (fun hc_2 => ?_) (fun hc_2 => ?_)
    · have hr := (if_pos hc_2).symm.trans hr
      refine g_iconst hx 21 (-1) dX2_get_21 rfl ?_
      exact g_iret hx hR 22 dX2_get_22 ⟨by rw [← Option.some.inj hr] <;> rfl, rfl⟩
    · have hr := (if_neg hc_2).symm.trans hr
      refine g_aload_n hx 12 (i := 0) 0 dX2_get_12 rfl rfl ?_
      refine g_get hx 13 (C := RX2) (T := TX2) (N := 2) 0 (.ref (a0 + 1)) (rL_o σ a0 N0 M) rfl (by decide) rfl fl_X2_15 dX2_get_13 ?_
      refine g_iload_n hx 16 (i := 1) 1 dX2_get_16 rfl rfl ?_
      obtain ⟨hb_3, hr⟩ := ob hr
      refine g_iald hx 17 (rL_a σ a0 N0 M) hb_3 dX2_get_17 ?_
      refine g_goto hx 18 22 dX2_get_18 (by decide) ?_
      exact g_iret hx hR 22 dX2_get_22 ⟨by rw [← Option.some.inj hr] <;> rfl, rfl⟩
def Ln_set (N0 : Nat) (M : LnR) (p1 p2 : Int32) : Option (LnR) := if p1 < 0 then (some (M)) else (if M.2 ≤ p1 then (some (M)) else (if inB p1 N0 then (some ((upd M.1 p1.toNatClampNeg p2, M.2))) else none))
set_option maxRecDepth 100000 in
set_option maxHeartbeats 4000000 in
theorem c_Ln_set (l : Launch) (g : Gl) (σ : Hp) (a0 N0 : Nat) (M : LnR) (p1 p2 : Int32) {r : LnR} (hr : Ln_set N0 M p1 p2 = some r) : MG l g md_Ln_set [.ref a0, .int p1, .int p2] (rawLn σ a0 N0 M) (rs none (rawLn σ a0 N0 r)) := by
  refine MG.intro (by decide +kernel) (Nat.le_of_ble_eq_true rfl) (fun X hx hR _ => ?_)
  unfold Ln_set at hr
  refine g_ls [0, 1, 2] [(0, .ref a0), (1, .int p1), (2, .int p2)] rfl ?_
  refine g_iload_n hx 0 (i := 1) 1 dX2_set_0 rfl rfl ?_
  refine g_if_lt hx 1 19 dX2_set_1 (by decide) (fun hc_4 => ?_) (fun hc_4 => ?_)
  · have hr := (if_pos hc_4).symm.trans hr
    exact g_vret hx hR 19 dX2_set_19 ⟨rfl, by rw [← Option.some.inj hr] <;> rfl⟩
  · have hr := (if_neg hc_4).symm.trans hr
    refine g_iload_n hx 4 (i := 1) 1 dX2_set_4 rfl rfl ?_
    refine g_aload_n hx 5 (i := 0) 0 dX2_set_5 rfl rfl ?_
    refine g_get hx 6 (C := RX2) (T := TX2) (N := 2) 1 (.int M.2) (rL_o σ a0 N0 M) rfl (by decide) rfl fl_X2_9 dX2_set_6 ?_
    refine g_icmp_ge hx 9 19 dX2_set_9 (by decide) (fun hc_5 => ?_) (fun hc_5 => ?_)
    · have hr := (if_pos hc_5).symm.trans hr
      exact g_vret hx hR 19 dX2_set_19 ⟨rfl, by rw [← Option.some.inj hr] <;> rfl⟩
    · have hr := (if_neg hc_5).symm.trans hr
      refine g_aload_n hx 12 (i := 0) 0 dX2_set_12 rfl rfl ?_
      refine g_get hx 13 (C := RX2) (T := TX2) (N := 2) 0 (.ref (a0 + 1)) (rL_o σ a0 N0 M) rfl (by decide) rfl fl_X2_15 dX2_set_13 ?_
      refine g_iload_n hx 16 (i := 1) 1 dX2_set_16 rfl rfl ?_
      refine g_iload_n hx 17 (i := 2) 2 dX2_set_17 rfl rfl ?_
      obtain ⟨hb_6, hr⟩ := ob hr
      refine g_iast hx 18 (rL_a σ a0 N0 M) hb_6 dX2_set_18 ?_
      refine G.heap (rL_f σ a0 N0 M (upd M.1 p1.toNatClampNeg p2)) ?_
      exact g_vret hx hR 19 dX2_set_19 ⟨rfl, by rw [← Option.some.inj hr] <;> rfl⟩
def Ln_raise (N0 : Nat) (M : LnR) (p1 p2 : Int32) : Option (LnR) := if p1 < 0 then (some (M)) else (if M.2 ≤ p1 then (some (M)) else (if inB p1 N0 then (if inB p1 N0 then (some ((upd M.1 p1.toNatClampNeg ((M.1 p1.toNatClampNeg) + p2), M.2))) else none) else none))
set_option maxRecDepth 100000 in
set_option maxHeartbeats 4000000 in
theorem c_Ln_raise (l : Launch) (g : Gl) (σ : Hp) (a0 N0 : Nat) (M : LnR) (p1 p2 : Int32) {r : LnR} (hr : Ln_raise N0 M p1 p2 = some r) : MG l g md_Ln_raise [.ref a0, .int p1, .int p2] (rawLn σ a0 N0 M) (rs none (rawLn σ a0 N0 r)) := by
  refine MG.intro (by decide +kernel) (Nat.le_of_ble_eq_true rfl) (fun X hx hR _ => ?_)
  unfold Ln_raise at hr
  refine g_ls [0, 1, 2] [(0, .ref a0), (1, .int p1), (2, .int p2)] rfl ?_
  refine g_iload_n hx 0 (i := 1) 1 dX2_raise_0 rfl rfl ?_
  refine g_if_lt hx 1 22 dX2_raise_1 (by decide) (fun hc_7 => ?_) (fun hc_7 => ?_)
  · have hr := (if_pos hc_7).symm.trans hr
    exact g_vret hx hR 22 dX2_raise_22 ⟨rfl, by rw [← Option.some.inj hr] <;> rfl⟩
  · have hr := (if_neg hc_7).symm.trans hr
    refine g_iload_n hx 4 (i := 1) 1 dX2_raise_4 rfl rfl ?_
    refine g_aload_n hx 5 (i := 0) 0 dX2_raise_5 rfl rfl ?_
    refine g_get hx 6 (C := RX2) (T := TX2) (N := 2) 1 (.int M.2) (rL_o σ a0 N0 M) rfl (by decide) rfl fl_X2_9 dX2_raise_6 ?_
    refine g_icmp_ge hx 9 22 dX2_raise_9 (by decide) (fun hc_8 => ?_) (fun hc_8 => ?_)
    · have hr := (if_pos hc_8).symm.trans hr
      exact g_vret hx hR 22 dX2_raise_22 ⟨rfl, by rw [← Option.some.inj hr] <;> rfl⟩
    · have hr := (if_neg hc_8).symm.trans hr
      refine g_aload_n hx 12 (i := 0) 0 dX2_raise_12 rfl rfl ?_
      refine g_get hx 13 (C := RX2) (T := TX2) (N := 2) 0 (.ref (a0 + 1)) (rL_o σ a0 N0 M) rfl (by decide) rfl fl_X2_15 dX2_raise_13 ?_
      refine g_iload_n hx 16 (i := 1) 1 dX2_raise_16 rfl rfl ?_
      refine g_dup2 hx 17 dX2_raise_17 rfl rfl ?_
      obtain ⟨hb_9, hr⟩ := ob hr
      refine g_iald hx 18 (rL_a σ a0 N0 M) hb_9 dX2_raise_18 ?_
      refine g_iload_n hx 19 (i := 2) 2 dX2_raise_19 rfl rfl ?_
      refine g_iadd hx 20 dX2_raise_20 ?_
      obtain ⟨hb_10, hr⟩ := ob hr
      refine g_iast hx 21 (rL_a σ a0 N0 M) hb_10 dX2_raise_21 ?_
      refine G.heap (rL_f σ a0 N0 M (upd M.1 p1.toNatClampNeg ((M.1 p1.toNatClampNeg) + p2))) ?_
      exact g_vret hx hR 22 dX2_raise_22 ⟨rfl, by rw [← Option.some.inj hr] <;> rfl⟩
def Ln_add (N0 : Nat) (M : LnR) (p1 : Int32) : Option (LnR) := if M.2 < 0 then (some (M)) else (if nI N0 ≤ M.2 then (some (M)) else (if inB M.2 N0 then (some ((upd M.1 M.2.toNatClampNeg p1, M.2 + 1))) else none))
set_option maxRecDepth 100000 in
set_option maxHeartbeats 4000000 in
theorem c_Ln_add (l : Launch) (g : Gl) (σ : Hp) (a0 N0 : Nat) (M : LnR) (p1 : Int32) {r : LnR} (hr : Ln_add N0 M p1 = some r) : MG l g md_Ln_add [.ref a0, .int p1] (rawLn σ a0 N0 M) (rs none (rawLn σ a0 N0 r)) := by
  refine MG.intro (by decide +kernel) (Nat.le_of_ble_eq_true rfl) (fun X hx hR _ => ?_)
  unfold Ln_add at hr
  refine g_ls [0, 1] [(0, .ref a0), (1, .int p1)] rfl ?_
  refine g_aload_n hx 0 (i := 0) 0 dX2_add_0 rfl rfl ?_
  refine g_get hx 1 (C := RX2) (T := TX2) (N := 2) 1 (.int M.2) (rL_o σ a0 N0 M) rfl (by decide) rfl fl_X2_9 dX2_add_1 ?_
  refine g_if_lt hx 4 39 dX2_add_4 (by decide) (fun hc_11 => ?_) (fun hc_11 => ?_)
  · have hr := (if_pos hc_11).symm.trans hr
    exact g_vret hx hR 39 dX2_add_39 ⟨rfl, by rw [← Option.some.inj hr] <;> rfl⟩
  · have hr := (if_neg hc_11).symm.trans hr
    refine g_aload_n hx 7 (i := 0) 0 dX2_add_7 rfl rfl ?_
    refine g_get hx 8 (C := RX2) (T := TX2) (N := 2) 1 (.int M.2) (rL_o σ a0 N0 M) rfl (by decide) rfl fl_X2_9 dX2_add_8 ?_
    refine g_aload_n hx 11 (i := 0) 0 dX2_add_11 rfl rfl ?_
    refine g_get hx 12 (C := RX2) (T := TX2) (N := 2) 0 (.ref (a0 + 1)) (rL_o σ a0 N0 M) rfl (by decide) rfl fl_X2_15 dX2_add_12 ?_
    refine g_alen hx 15 (rL_a σ a0 N0 M) dX2_add_15 ?_
    refine g_icmp_ge hx 16 39 dX2_add_16 (by decide) (fun hc_12 => ?_) (fun hc_12 => ?_)
    · have hr := (if_pos hc_12).symm.trans hr
      exact g_vret hx hR 39 dX2_add_39 ⟨rfl, by rw [← Option.some.inj hr] <;> rfl⟩
    · have hr := (if_neg hc_12).symm.trans hr
      refine g_aload_n hx 19 (i := 0) 0 dX2_add_19 rfl rfl ?_
      refine g_get hx 20 (C := RX2) (T := TX2) (N := 2) 0 (.ref (a0 + 1)) (rL_o σ a0 N0 M) rfl (by decide) rfl fl_X2_15 dX2_add_20 ?_
      refine g_aload_n hx 23 (i := 0) 0 dX2_add_23 rfl rfl ?_
      refine g_get hx 24 (C := RX2) (T := TX2) (N := 2) 1 (.int M.2) (rL_o σ a0 N0 M) rfl (by decide) rfl fl_X2_9 dX2_add_24 ?_
      refine g_iload_n hx 27 (i := 1) 1 dX2_add_27 rfl rfl ?_
      obtain ⟨hb_13, hr⟩ := ob hr
      refine g_iast hx 28 (rL_a σ a0 N0 M) hb_13 dX2_add_28 ?_
      refine G.heap (rL_f σ a0 N0 M (upd M.1 M.2.toNatClampNeg p1)) ?_
      refine g_aload_n hx 29 (i := 0) 0 dX2_add_29 rfl rfl ?_
      refine g_dup hx 30 dX2_add_30 rfl ?_
      refine g_get hx 31 (C := RX2) (T := TX2) (N := 2) 1 (.int M.2) (rL_o σ a0 N0 (upd M.1 M.2.toNatClampNeg p1, M.2)) rfl (by decide) rfl fl_X2_9 dX2_add_31 ?_
      refine g_iconst hx 34 (1) dX2_add_34 rfl ?_
      refine g_iadd hx 35 dX2_add_35 ?_
      refine g_put hx 36 (C := RX2) (T := TX2) (N := 2) 1 .int [.ref (a0 + 1), .int (M.2 + 1)] (rL_o σ a0 N0 (upd M.1 M.2.toNatClampNeg p1, M.2)) rfl (by decide) fl_X2_9 rfl rfl rfl rfl (Nat.le_of_ble_eq_true rfl) rfl dX2_add_36 ?_
      refine G.heap (rL_c σ a0 N0 (upd M.1 M.2.toNatClampNeg p1, M.2) (M.2 + 1)) ?_
      exact g_vret hx hR 39 dX2_add_39 ⟨rfl, by rw [← Option.some.inj hr] <;> rfl⟩
def Ln_insert_L30 (N0 : Nat) : Nat → LnR → Int32 → Int32 → Int32 → Option (LnR)
  | 0, _, _, _, _ => none
  | n + 1, M, v1_18, v2_19, v3_20 => if v3_20 ≤ v1_18 then (if inB v1_18 N0 then (some ((upd M.1 v1_18.toNatClampNeg v2_19, M.2 + 1))) else none) else (if inB (v3_20 - 1) N0 then (if inB v3_20 N0 then (Ln_insert_L30 N0 n (upd M.1 v3_20.toNatClampNeg (M.1 (v3_20 - 1).toNatClampNeg), M.2) v1_18 v2_19 (v3_20 + (-1))) else none) else none)
def Ln_insert (N0 : Nat) (M : LnR) (p1 p2 : Int32) : Option (LnR) := if p1 < 0 then (some (M)) else (if M.2 < p1 then (some (M)) else (if M.2 < nI N0 then (lt' (M.2) fun v3_17 => Ln_insert_L30 N0 FU M p1 p2 v3_17) else (some (M))))
set_option maxRecDepth 100000 in
set_option maxHeartbeats 4000000 in
theorem w_Ln_insert_L30 {X : Cx} {l : Launch} {g : Gl} (hx : Ok X l g RX2 cX2_insert 4 md_Ln_insert.rm) {σ : Hp} {a0 N0 : Nat} {r : LnR} (hR : Ret X (rs none (rawLn σ a0 N0 r)) 0 0 (none)) : ∀ (n : Nat) (M : LnR) (v1_18 v2_19 v3_20 : Int32), Ln_insert_L30 N0 n M v1_18 v2_19 v3_20 = some r → G X (rawLn σ a0 N0 M) 0 0 30 [(0, .ref a0), (1, .int v1_18), (2, .int v2_19), (3, .int v3_20)] [] := by
  intro n
  induction n with
  | zero =>
    intro M v1_18 v2_19 v3_20 hr
    rw [Ln_insert_L30] at hr
    cases hr
  | succ n ih =>
    intro M v1_18 v2_19 v3_20 hr
    rw [Ln_insert_L30] at hr
    refine g_iload_n hx 30 (i := 3) 3 dX2_insert_30 rfl rfl ?_
    refine g_iload_n hx 31 (i := 1) 1 dX2_insert_31 rfl rfl ?_
    refine g_icmp_le hx 32 55 dX2_insert_32 (by decide) (fun hc_21 => ?_) (fun hc_21 => ?_)
    · have hr := (if_pos hc_21).symm.trans hr
      refine g_aload_n hx 55 (i := 0) 0 dX2_insert_55 rfl rfl ?_
      refine g_get hx 56 (C := RX2) (T := TX2) (N := 2) 0 (.ref (a0 + 1)) (rL_o σ a0 N0 M) rfl (by decide) rfl fl_X2_15 dX2_insert_56 ?_
      refine g_iload_n hx 59 (i := 1) 1 dX2_insert_59 rfl rfl ?_
      refine g_iload_n hx 60 (i := 2) 2 dX2_insert_60 rfl rfl ?_
      obtain ⟨hb_22, hr⟩ := ob hr
      refine g_iast hx 61 (rL_a σ a0 N0 M) hb_22 dX2_insert_61 ?_
      refine G.heap (rL_f σ a0 N0 M (upd M.1 v1_18.toNatClampNeg v2_19)) ?_
      refine g_aload_n hx 62 (i := 0) 0 dX2_insert_62 rfl rfl ?_
      refine g_dup hx 63 dX2_insert_63 rfl ?_
      refine g_get hx 64 (C := RX2) (T := TX2) (N := 2) 1 (.int M.2) (rL_o σ a0 N0 (upd M.1 v1_18.toNatClampNeg v2_19, M.2)) rfl (by decide) rfl fl_X2_9 dX2_insert_64 ?_
      refine g_iconst hx 67 (1) dX2_insert_67 rfl ?_
      refine g_iadd hx 68 dX2_insert_68 ?_
      refine g_put hx 69 (C := RX2) (T := TX2) (N := 2) 1 .int [.ref (a0 + 1), .int (M.2 + 1)] (rL_o σ a0 N0 (upd M.1 v1_18.toNatClampNeg v2_19, M.2)) rfl (by decide) fl_X2_9 rfl rfl rfl rfl (Nat.le_of_ble_eq_true rfl) rfl dX2_insert_69 ?_
      refine G.heap (rL_c σ a0 N0 (upd M.1 v1_18.toNatClampNeg v2_19, M.2) (M.2 + 1)) ?_
      exact g_vret hx hR 72 dX2_insert_72 ⟨rfl, by rw [← Option.some.inj hr] <;> rfl⟩
    · have hr := (if_neg hc_21).symm.trans hr
      refine g_aload_n hx 35 (i := 0) 0 dX2_insert_35 rfl rfl ?_
      refine g_get hx 36 (C := RX2) (T := TX2) (N := 2) 0 (.ref (a0 + 1)) (rL_o σ a0 N0 M) rfl (by decide) rfl fl_X2_15 dX2_insert_36 ?_
      refine g_iload_n hx 39 (i := 3) 3 dX2_insert_39 rfl rfl ?_
      refine g_aload_n hx 40 (i := 0) 0 dX2_insert_40 rfl rfl ?_
      refine g_get hx 41 (C := RX2) (T := TX2) (N := 2) 0 (.ref (a0 + 1)) (rL_o σ a0 N0 M) rfl (by decide) rfl fl_X2_15 dX2_insert_41 ?_
      refine g_iload_n hx 44 (i := 3) 3 dX2_insert_44 rfl rfl ?_
      refine g_iconst hx 45 (1) dX2_insert_45 rfl ?_
      refine g_isub hx 46 dX2_insert_46 ?_
      obtain ⟨hb_23, hr⟩ := ob hr
      refine g_iald hx 47 (rL_a σ a0 N0 M) hb_23 dX2_insert_47 ?_
      obtain ⟨hb_24, hr⟩ := ob hr
      refine g_iast hx 48 (rL_a σ a0 N0 M) hb_24 dX2_insert_48 ?_
      refine G.heap (rL_f σ a0 N0 M (upd M.1 v3_20.toNatClampNeg (M.1 (v3_20 - 1).toNatClampNeg))) ?_
      refine g_iinc hx 49 (i := 3) 3 (v3_20 + (-1)) [(3, .int (v3_20 + (-1))), (0, .ref a0), (1, .int v1_18), (2, .int v2_19)] dX2_insert_49 rfl rfl (by decide) rfl ?_
      refine g_goto hx 52 30 dX2_insert_52 (by decide) ?_
      refine g_ls [1, 2, 3, 0] [(0, .ref a0), (1, .int v1_18), (2, .int v2_19), (3, .int (v3_20 + (-1)))] rfl ?_
      exact ih (upd M.1 v3_20.toNatClampNeg (M.1 (v3_20 - 1).toNatClampNeg), M.2) v1_18 v2_19 (v3_20 + (-1)) hr
set_option maxRecDepth 100000 in
set_option maxHeartbeats 4000000 in
theorem c_Ln_insert (l : Launch) (g : Gl) (σ : Hp) (a0 N0 : Nat) (M : LnR) (p1 p2 : Int32) {r : LnR} (hr : Ln_insert N0 M p1 p2 = some r) : MG l g md_Ln_insert [.ref a0, .int p1, .int p2] (rawLn σ a0 N0 M) (rs none (rawLn σ a0 N0 r)) := by
  refine MG.intro (by decide +kernel) (Nat.le_of_ble_eq_true rfl) (fun X hx hR _ => ?_)
  unfold Ln_insert at hr
  refine g_ls [0, 1, 2] [(0, .ref a0), (1, .int p1), (2, .int p2)] rfl ?_
  refine g_iload_n hx 0 (i := 1) 1 dX2_insert_0 rfl rfl ?_
  refine g_if_lt hx 1 24 dX2_insert_1 (by decide) (fun hc_14 => ?_) (fun hc_14 => ?_)
  · have hr := (if_pos hc_14).symm.trans hr
    exact g_vret hx hR 24 dX2_insert_24 ⟨rfl, by rw [← Option.some.inj hr] <;> rfl⟩
  · have hr := (if_neg hc_14).symm.trans hr
    refine g_iload_n hx 4 (i := 1) 1 dX2_insert_4 rfl rfl ?_
    refine g_aload_n hx 5 (i := 0) 0 dX2_insert_5 rfl rfl ?_
    refine g_get hx 6 (C := RX2) (T := TX2) (N := 2) 1 (.int M.2) (rL_o σ a0 N0 M) rfl (by decide) rfl fl_X2_9 dX2_insert_6 ?_
    refine g_icmp_gt hx 9 24 dX2_insert_9 (by decide) (fun hc_15 => ?_) (fun hc_15 => ?_)
    · have hr := (if_pos hc_15).symm.trans hr
      exact g_vret hx hR 24 dX2_insert_24 ⟨rfl, by rw [← Option.some.inj hr] <;> rfl⟩
    · have hr := (if_neg hc_15).symm.trans hr
      refine g_aload_n hx 12 (i := 0) 0 dX2_insert_12 rfl rfl ?_
      refine g_get hx 13 (C := RX2) (T := TX2) (N := 2) 1 (.int M.2) (rL_o σ a0 N0 M) rfl (by decide) rfl fl_X2_9 dX2_insert_13 ?_
      refine g_aload_n hx 16 (i := 0) 0 dX2_insert_16 rfl rfl ?_
      refine g_get hx 17 (C := RX2) (T := TX2) (N := 2) 0 (.ref (a0 + 1)) (rL_o σ a0 N0 M) rfl (by decide) rfl fl_X2_15 dX2_insert_17 ?_
      refine g_alen hx 20 (rL_a σ a0 N0 M) dX2_insert_20 ?_
      refine g_icmp_lt hx 21 25 dX2_insert_21 (by decide) (fun hc_16 => ?_) (fun hc_16 => ?_)
      · have hr := (if_pos hc_16).symm.trans hr
        refine g_aload_n hx 25 (i := 0) 0 dX2_insert_25 rfl rfl ?_
        refine g_get hx 26 (C := RX2) (T := TX2) (N := 2) 1 (.int M.2) (rL_o σ a0 N0 M) rfl (by decide) rfl fl_X2_9 dX2_insert_26 ?_
        obtain ⟨v3_17, ev3_17, hr⟩ := lt'_e hr
        refine g_nmi ev3_17 ?_
        refine g_istore_n hx 29 (i := 3) [(3, .int v3_17), (0, .ref a0), (1, .int p1), (2, .int p2)] dX2_insert_29 rfl (by decide) rfl ?_
        refine g_ls [1, 2, 3, 0] [(0, .ref a0), (1, .int p1), (2, .int p2), (3, .int v3_17)] rfl ?_
        exact w_Ln_insert_L30 hx hR FU M p1 p2 v3_17 hr
      · have hr := (if_neg hc_16).symm.trans hr
        exact g_vret hx hR 24 dX2_insert_24 ⟨rfl, by rw [← Option.some.inj hr] <;> rfl⟩
def Ln_removeAt_L25 (N0 : Nat) : Nat → LnR → Int32 → Int32 → Option (LnR)
  | 0, _, _, _ => none
  | n + 1, M, v1_27, v2_28 => if M.2 ≤ v2_28 then (some (M)) else (if inB (v2_28 + 1) N0 then (if inB v2_28 N0 then (Ln_removeAt_L25 N0 n (upd M.1 v2_28.toNatClampNeg (M.1 (v2_28 + 1).toNatClampNeg), M.2) v1_27 (v2_28 + 1)) else none) else none)
def Ln_removeAt (N0 : Nat) (M : LnR) (p1 : Int32) : Option (LnR) := if p1 < 0 then (some (M)) else (if p1 < M.2 then (Ln_removeAt_L25 N0 FU (M.1, M.2 - 1) p1 p1) else (some (M)))
set_option maxRecDepth 100000 in
set_option maxHeartbeats 4000000 in
theorem w_Ln_removeAt_L25 {X : Cx} {l : Launch} {g : Gl} (hx : Ok X l g RX2 cX2_removeAt 3 md_Ln_removeAt.rm) {σ : Hp} {a0 N0 : Nat} {r : LnR} (hR : Ret X (rs none (rawLn σ a0 N0 r)) 0 0 (none)) : ∀ (n : Nat) (M : LnR) (v1_27 v2_28 : Int32), Ln_removeAt_L25 N0 n M v1_27 v2_28 = some r → G X (rawLn σ a0 N0 M) 0 0 25 [(0, .ref a0), (1, .int v1_27), (2, .int v2_28)] [] := by
  intro n
  induction n with
  | zero =>
    intro M v1_27 v2_28 hr
    rw [Ln_removeAt_L25] at hr
    cases hr
  | succ n ih =>
    intro M v1_27 v2_28 hr
    rw [Ln_removeAt_L25] at hr
    refine g_iload_n hx 25 (i := 2) 2 dX2_removeAt_25 rfl rfl ?_
    refine g_aload_n hx 26 (i := 0) 0 dX2_removeAt_26 rfl rfl ?_
    refine g_get hx 27 (C := RX2) (T := TX2) (N := 2) 1 (.int M.2) (rL_o σ a0 N0 M) rfl (by decide) rfl fl_X2_9 dX2_removeAt_27 ?_
    refine g_icmp_ge hx 30 53 dX2_removeAt_30 (by decide) (fun hc_29 => ?_) (fun hc_29 => ?_)
    · have hr := (if_pos hc_29).symm.trans hr
      exact g_vret hx hR 53 dX2_removeAt_53 ⟨rfl, by rw [← Option.some.inj hr] <;> rfl⟩
    · have hr := (if_neg hc_29).symm.trans hr
      refine g_aload_n hx 33 (i := 0) 0 dX2_removeAt_33 rfl rfl ?_
      refine g_get hx 34 (C := RX2) (T := TX2) (N := 2) 0 (.ref (a0 + 1)) (rL_o σ a0 N0 M) rfl (by decide) rfl fl_X2_15 dX2_removeAt_34 ?_
      refine g_iload_n hx 37 (i := 2) 2 dX2_removeAt_37 rfl rfl ?_
      refine g_aload_n hx 38 (i := 0) 0 dX2_removeAt_38 rfl rfl ?_
      refine g_get hx 39 (C := RX2) (T := TX2) (N := 2) 0 (.ref (a0 + 1)) (rL_o σ a0 N0 M) rfl (by decide) rfl fl_X2_15 dX2_removeAt_39 ?_
      refine g_iload_n hx 42 (i := 2) 2 dX2_removeAt_42 rfl rfl ?_
      refine g_iconst hx 43 (1) dX2_removeAt_43 rfl ?_
      refine g_iadd hx 44 dX2_removeAt_44 ?_
      obtain ⟨hb_30, hr⟩ := ob hr
      refine g_iald hx 45 (rL_a σ a0 N0 M) hb_30 dX2_removeAt_45 ?_
      obtain ⟨hb_31, hr⟩ := ob hr
      refine g_iast hx 46 (rL_a σ a0 N0 M) hb_31 dX2_removeAt_46 ?_
      refine G.heap (rL_f σ a0 N0 M (upd M.1 v2_28.toNatClampNeg (M.1 (v2_28 + 1).toNatClampNeg))) ?_
      refine g_iinc hx 47 (i := 2) 2 (v2_28 + 1) [(2, .int (v2_28 + 1)), (0, .ref a0), (1, .int v1_27)] dX2_removeAt_47 rfl rfl (by decide) rfl ?_
      refine g_goto hx 50 25 dX2_removeAt_50 (by decide) ?_
      refine g_ls [1, 2, 0] [(0, .ref a0), (1, .int v1_27), (2, .int (v2_28 + 1))] rfl ?_
      exact ih (upd M.1 v2_28.toNatClampNeg (M.1 (v2_28 + 1).toNatClampNeg), M.2) v1_27 (v2_28 + 1) hr
set_option maxRecDepth 100000 in
set_option maxHeartbeats 4000000 in
theorem c_Ln_removeAt (l : Launch) (g : Gl) (σ : Hp) (a0 N0 : Nat) (M : LnR) (p1 : Int32) {r : LnR} (hr : Ln_removeAt N0 M p1 = some r) : MG l g md_Ln_removeAt [.ref a0, .int p1] (rawLn σ a0 N0 M) (rs none (rawLn σ a0 N0 r)) := by
  refine MG.intro (by decide +kernel) (Nat.le_of_ble_eq_true rfl) (fun X hx hR _ => ?_)
  unfold Ln_removeAt at hr
  refine g_ls [0, 1] [(0, .ref a0), (1, .int p1)] rfl ?_
  refine g_iload_n hx 0 (i := 1) 1 dX2_removeAt_0 rfl rfl ?_
  refine g_if_lt hx 1 12 dX2_removeAt_1 (by decide) (fun hc_25 => ?_) (fun hc_25 => ?_)
  · have hr := (if_pos hc_25).symm.trans hr
    exact g_vret hx hR 12 dX2_removeAt_12 ⟨rfl, by rw [← Option.some.inj hr] <;> rfl⟩
  · have hr := (if_neg hc_25).symm.trans hr
    refine g_iload_n hx 4 (i := 1) 1 dX2_removeAt_4 rfl rfl ?_
    refine g_aload_n hx 5 (i := 0) 0 dX2_removeAt_5 rfl rfl ?_
    refine g_get hx 6 (C := RX2) (T := TX2) (N := 2) 1 (.int M.2) (rL_o σ a0 N0 M) rfl (by decide) rfl fl_X2_9 dX2_removeAt_6 ?_
    refine g_icmp_lt hx 9 13 dX2_removeAt_9 (by decide) (fun hc_26 => ?_) (fun hc_26 => ?_)
    · have hr := (if_pos hc_26).symm.trans hr
      refine g_aload_n hx 13 (i := 0) 0 dX2_removeAt_13 rfl rfl ?_
      refine g_dup hx 14 dX2_removeAt_14 rfl ?_
      refine g_get hx 15 (C := RX2) (T := TX2) (N := 2) 1 (.int M.2) (rL_o σ a0 N0 M) rfl (by decide) rfl fl_X2_9 dX2_removeAt_15 ?_
      refine g_iconst hx 18 (1) dX2_removeAt_18 rfl ?_
      refine g_isub hx 19 dX2_removeAt_19 ?_
      refine g_put hx 20 (C := RX2) (T := TX2) (N := 2) 1 .int [.ref (a0 + 1), .int (M.2 - 1)] (rL_o σ a0 N0 M) rfl (by decide) fl_X2_9 rfl rfl rfl rfl (Nat.le_of_ble_eq_true rfl) rfl dX2_removeAt_20 ?_
      refine G.heap (rL_c σ a0 N0 M (M.2 - 1)) ?_
      refine g_iload_n hx 23 (i := 1) 1 dX2_removeAt_23 rfl rfl ?_
      refine g_istore_n hx 24 (i := 2) [(2, .int p1), (0, .ref a0), (1, .int p1)] dX2_removeAt_24 rfl (by decide) rfl ?_
      refine g_ls [1, 2, 0] [(0, .ref a0), (1, .int p1), (2, .int p1)] rfl ?_
      exact w_Ln_removeAt_L25 hx hR FU (M.1, M.2 - 1) p1 p1 hr
    · have hr := (if_neg hc_26).symm.trans hr
      exact g_vret hx hR 12 dX2_removeAt_12 ⟨rfl, by rw [← Option.some.inj hr] <;> rfl⟩
def Ln_placeOf_L2 (N0 : Nat) (M : LnR) : Nat → Int32 → Int32 → Option (Int32)
  | 0, _, _ => none
  | n + 1, v1_32, v2_33 => if M.2 ≤ v2_33 then (some ((-1))) else (if inB v2_33 N0 then (if M.1 v2_33.toNatClampNeg = v1_32 then (some (v2_33)) else (Ln_placeOf_L2 N0 M n v1_32 (v2_33 + 1))) else none)
def Ln_placeOf (N0 : Nat) (M : LnR) (p1 : Int32) : Option (Int32) := Ln_placeOf_L2 N0 M FU p1 0
set_option maxRecDepth 100000 in
set_option maxHeartbeats 4000000 in
theorem w_Ln_placeOf_L2 {X : Cx} {l : Launch} {g : Gl} (hx : Ok X l g RX2 cX2_placeOf 3 md_Ln_placeOf.rm) {σ : Hp} {a0 N0 : Nat} {M : LnR} {r : Int32} (hR : Ret X (rs (some (.int r)) (rawLn σ a0 N0 M)) 0 0 (some .int)) : ∀ (n : Nat) (v1_32 v2_33 : Int32), Ln_placeOf_L2 N0 M n v1_32 v2_33 = some r → G X (rawLn σ a0 N0 M) 0 0 2 [(0, .ref a0), (1, .int v1_32), (2, .int v2_33)] [] := by
  intro n
  induction n with
  | zero =>
    intro v1_32 v2_33 hr
    rw [Ln_placeOf_L2] at hr
    cases hr
  | succ n ih =>
    intro v1_32 v2_33 hr
    rw [Ln_placeOf_L2] at hr
    refine g_iload_n hx 2 (i := 2) 2 dX2_placeOf_2 rfl rfl ?_
    refine g_aload_n hx 3 (i := 0) 0 dX2_placeOf_3 rfl rfl ?_
    refine g_get hx 4 (C := RX2) (T := TX2) (N := 2) 1 (.int M.2) (rL_o σ a0 N0 M) rfl (by decide) rfl fl_X2_9 dX2_placeOf_4 ?_
    refine g_icmp_ge hx 7 28 dX2_placeOf_7 (by decide) (fun hc_34 => ?_) (fun hc_34 => ?_)
    · have hr := (if_pos hc_34).symm.trans hr
      refine g_iconst hx 28 (-1) dX2_placeOf_28 rfl ?_
      exact g_iret hx hR 29 dX2_placeOf_29 ⟨by rw [← Option.some.inj hr] <;> rfl, rfl⟩
    · have hr := (if_neg hc_34).symm.trans hr
      refine g_aload_n hx 10 (i := 0) 0 dX2_placeOf_10 rfl rfl ?_
      refine g_get hx 11 (C := RX2) (T := TX2) (N := 2) 0 (.ref (a0 + 1)) (rL_o σ a0 N0 M) rfl (by decide) rfl fl_X2_15 dX2_placeOf_11 ?_
      refine g_iload_n hx 14 (i := 2) 2 dX2_placeOf_14 rfl rfl ?_
      obtain ⟨hb_35, hr⟩ := ob hr
      refine g_iald hx 15 (rL_a σ a0 N0 M) hb_35 dX2_placeOf_15 ?_
      refine g_iload_n hx 16 (i := 1) 1 dX2_placeOf_16 rfl rfl ?_
      refine g_icmp_ne hx 17 22 dX2_placeOf_17 (by decide) (fun hc_36 => ?_) (fun hc_36 => ?_)
      · have hr := (if_neg hc_36).symm.trans hr
        refine g_iinc hx 22 (i := 2) 2 (v2_33 + 1) [(2, .int (v2_33 + 1)), (0, .ref a0), (1, .int v1_32)] dX2_placeOf_22 rfl rfl (by decide) rfl ?_
        refine g_goto hx 25 2 dX2_placeOf_25 (by decide) ?_
        refine g_ls [1, 2, 0] [(0, .ref a0), (1, .int v1_32), (2, .int (v2_33 + 1))] rfl ?_
        exact ih v1_32 (v2_33 + 1) hr
      · have hr := (if_pos hc_36).symm.trans hr
        refine g_iload_n hx 20 (i := 2) 2 dX2_placeOf_20 rfl rfl ?_
        exact g_iret hx hR 21 dX2_placeOf_21 ⟨by rw [← Option.some.inj hr] <;> rfl, rfl⟩
set_option maxRecDepth 100000 in
set_option maxHeartbeats 4000000 in
theorem c_Ln_placeOf (l : Launch) (g : Gl) (σ : Hp) (a0 N0 : Nat) (M : LnR) (p1 : Int32) {r : Int32} (hr : Ln_placeOf N0 M p1 = some r) : MG l g md_Ln_placeOf [.ref a0, .int p1] (rawLn σ a0 N0 M) (rs (some (.int r)) (rawLn σ a0 N0 M)) := by
  refine MG.intro (by decide +kernel) (Nat.le_of_ble_eq_true rfl) (fun X hx hR _ => ?_)
  unfold Ln_placeOf at hr
  refine g_ls [0, 1] [(0, .ref a0), (1, .int p1)] rfl ?_
  refine g_iconst hx 0 (0) dX2_placeOf_0 rfl ?_
  refine g_istore_n hx 1 (i := 2) [(2, .int 0), (0, .ref a0), (1, .int p1)] dX2_placeOf_1 rfl (by decide) rfl ?_
  refine g_ls [1, 2, 0] [(0, .ref a0), (1, .int p1), (2, .int 0)] rfl ?_
  exact w_Ln_placeOf_L2 hx hR FU p1 0 hr
def Ln_countOf_L4 (N0 : Nat) (M : LnR) : Nat → Int32 → Int32 → Int32 → Option (Int32)
  | 0, _, _, _ => none
  | n + 1, v1_37, v2_38, v3_39 => if M.2 ≤ v3_39 then (some (v2_38)) else (if inB v3_39 N0 then (if M.1 v3_39.toNatClampNeg = v1_37 then (Ln_countOf_L4 N0 M n v1_37 (v2_38 + 1) (v3_39 + 1)) else (Ln_countOf_L4 N0 M n v1_37 v2_38 (v3_39 + 1))) else none)
def Ln_countOf (N0 : Nat) (M : LnR) (p1 : Int32) : Option (Int32) := Ln_countOf_L4 N0 M FU p1 0 0
set_option maxRecDepth 100000 in
set_option maxHeartbeats 4000000 in
theorem w_Ln_countOf_L4 {X : Cx} {l : Launch} {g : Gl} (hx : Ok X l g RX2 cX2_countOf 4 md_Ln_countOf.rm) {σ : Hp} {a0 N0 : Nat} {M : LnR} {r : Int32} (hR : Ret X (rs (some (.int r)) (rawLn σ a0 N0 M)) 0 0 (some .int)) : ∀ (n : Nat) (v1_37 v2_38 v3_39 : Int32), Ln_countOf_L4 N0 M n v1_37 v2_38 v3_39 = some r → G X (rawLn σ a0 N0 M) 0 0 4 [(0, .ref a0), (1, .int v1_37), (2, .int v2_38), (3, .int v3_39)] [] := by
  intro n
  induction n with
  | zero =>
    intro v1_37 v2_38 v3_39 hr
    rw [Ln_countOf_L4] at hr
    cases hr
  | succ n ih =>
    intro v1_37 v2_38 v3_39 hr
    rw [Ln_countOf_L4] at hr
    refine g_iload_n hx 4 (i := 3) 3 dX2_countOf_4 rfl rfl ?_
    refine g_aload_n hx 5 (i := 0) 0 dX2_countOf_5 rfl rfl ?_
    refine g_get hx 6 (C := RX2) (T := TX2) (N := 2) 1 (.int M.2) (rL_o σ a0 N0 M) rfl (by decide) rfl fl_X2_9 dX2_countOf_6 ?_
    refine g_icmp_ge hx 9 31 dX2_countOf_9 (by decide) (fun hc_40 => ?_) (fun hc_40 => ?_)
    · have hr := (if_pos hc_40).symm.trans hr
      refine g_iload_n hx 31 (i := 2) 2 dX2_countOf_31 rfl rfl ?_
      exact g_iret hx hR 32 dX2_countOf_32 ⟨by rw [← Option.some.inj hr] <;> rfl, rfl⟩
    · have hr := (if_neg hc_40).symm.trans hr
      refine g_aload_n hx 12 (i := 0) 0 dX2_countOf_12 rfl rfl ?_
      refine g_get hx 13 (C := RX2) (T := TX2) (N := 2) 0 (.ref (a0 + 1)) (rL_o σ a0 N0 M) rfl (by decide) rfl fl_X2_15 dX2_countOf_13 ?_
      refine g_iload_n hx 16 (i := 3) 3 dX2_countOf_16 rfl rfl ?_
      obtain ⟨hb_41, hr⟩ := ob hr
      refine g_iald hx 17 (rL_a σ a0 N0 M) hb_41 dX2_countOf_17 ?_
      refine g_iload_n hx 18 (i := 1) 1 dX2_countOf_18 rfl rfl ?_
      refine g_icmp_ne hx 19 25 dX2_countOf_19 (by decide) (fun hc_42 => ?_) (fun hc_42 => ?_)
      · have hr := (if_neg hc_42).symm.trans hr
        refine g_iinc hx 25 (i := 3) 3 (v3_39 + 1) [(3, .int (v3_39 + 1)), (0, .ref a0), (1, .int v1_37), (2, .int v2_38)] dX2_countOf_25 rfl rfl (by decide) rfl ?_
        refine g_goto hx 28 4 dX2_countOf_28 (by decide) ?_
        refine g_ls [1, 2, 3, 0] [(0, .ref a0), (1, .int v1_37), (2, .int v2_38), (3, .int (v3_39 + 1))] rfl ?_
        exact ih v1_37 v2_38 (v3_39 + 1) hr
      · have hr := (if_pos hc_42).symm.trans hr
        refine g_iinc hx 22 (i := 2) 2 (v2_38 + 1) [(2, .int (v2_38 + 1)), (0, .ref a0), (1, .int v1_37), (3, .int v3_39)] dX2_countOf_22 rfl rfl (by decide) rfl ?_
        refine g_iinc hx 25 (i := 3) 3 (v3_39 + 1) [(3, .int (v3_39 + 1)), (2, .int (v2_38 + 1)), (0, .ref a0), (1, .int v1_37)] dX2_countOf_25 rfl rfl (by decide) rfl ?_
        refine g_goto hx 28 4 dX2_countOf_28 (by decide) ?_
        refine g_ls [2, 3, 1, 0] [(0, .ref a0), (1, .int v1_37), (2, .int (v2_38 + 1)), (3, .int (v3_39 + 1))] rfl ?_
        exact ih v1_37 (v2_38 + 1) (v3_39 + 1) hr
set_option maxRecDepth 100000 in
set_option maxHeartbeats 4000000 in
theorem c_Ln_countOf (l : Launch) (g : Gl) (σ : Hp) (a0 N0 : Nat) (M : LnR) (p1 : Int32) {r : Int32} (hr : Ln_countOf N0 M p1 = some r) : MG l g md_Ln_countOf [.ref a0, .int p1] (rawLn σ a0 N0 M) (rs (some (.int r)) (rawLn σ a0 N0 M)) := by
  refine MG.intro (by decide +kernel) (Nat.le_of_ble_eq_true rfl) (fun X hx hR _ => ?_)
  unfold Ln_countOf at hr
  refine g_ls [0, 1] [(0, .ref a0), (1, .int p1)] rfl ?_
  refine g_iconst hx 0 (0) dX2_countOf_0 rfl ?_
  refine g_istore_n hx 1 (i := 2) [(2, .int 0), (0, .ref a0), (1, .int p1)] dX2_countOf_1 rfl (by decide) rfl ?_
  refine g_iconst hx 2 (0) dX2_countOf_2 rfl ?_
  refine g_istore_n hx 3 (i := 3) [(3, .int 0), (2, .int 0), (0, .ref a0), (1, .int p1)] dX2_countOf_3 rfl (by decide) rfl ?_
  refine g_ls [2, 3, 1, 0] [(0, .ref a0), (1, .int p1), (2, .int 0), (3, .int 0)] rfl ?_
  exact w_Ln_countOf_L4 hx hR FU p1 0 0 hr
def Ln_clear (N0 : Nat) (M : LnR) : LnR := (M.1, 0)
set_option maxRecDepth 100000 in
set_option maxHeartbeats 4000000 in
theorem c_Ln_clear (l : Launch) (g : Gl) (σ : Hp) (a0 N0 : Nat) (M : LnR) {r : LnR} (hr : Ln_clear N0 M = r) : MG l g md_Ln_clear [.ref a0] (rawLn σ a0 N0 M) (rs none (rawLn σ a0 N0 r)) := by
  refine MG.intro (by decide +kernel) (Nat.le_of_ble_eq_true rfl) (fun X hx hR _ => ?_)
  unfold Ln_clear at hr
  refine g_ls [0] [(0, .ref a0)] rfl ?_
  refine g_aload_n hx 0 (i := 0) 0 dX2_clear_0 rfl rfl ?_
  refine g_iconst hx 1 (0) dX2_clear_1 rfl ?_
  refine g_put hx 2 (C := RX2) (T := TX2) (N := 2) 1 .int [.ref (a0 + 1), .int 0] (rL_o σ a0 N0 M) rfl (by decide) fl_X2_9 rfl rfl rfl rfl (Nat.le_of_ble_eq_true rfl) rfl dX2_clear_2 ?_
  refine G.heap (rL_c σ a0 N0 M 0) ?_
  exact g_vret hx hR 5 dX2_clear_5 ⟨rfl, by rw [← hr] <;> rfl⟩
def Ln_fillWithZeros_L6 (N0 : Nat) : Nat → LnR → Int32 → Int32 → Option (LnR)
  | 0, _, _, _ => none
  | n + 1, M, v1_44, v2_45 => if v1_44 ≤ v2_45 then (some (M)) else (Option.bind (Ln_add N0 M 0) fun M_47 => Ln_fillWithZeros_L6 N0 n M_47 v1_44 (v2_45 + 1))
def Ln_fillWithZeros (N0 : Nat) (M : LnR) (p1 : Int32) : Option (LnR) := lt' (Ln_clear N0 M) fun M_43 => Ln_fillWithZeros_L6 N0 FU M_43 p1 0
set_option maxRecDepth 100000 in
set_option maxHeartbeats 4000000 in
theorem w_Ln_fillWithZeros_L6 {X : Cx} {l : Launch} {g : Gl} (hx : Ok X l g RX2 cX2_fillWithZeros 3 md_Ln_fillWithZeros.rm) {σ : Hp} {a0 N0 : Nat} {r : LnR} (hR : Ret X (rs none (rawLn σ a0 N0 r)) 0 0 (none)) : ∀ (n : Nat) (M : LnR) (v1_44 v2_45 : Int32), Ln_fillWithZeros_L6 N0 n M v1_44 v2_45 = some r → G X (rawLn σ a0 N0 M) 0 0 6 [(0, .ref a0), (1, .int v1_44), (2, .int v2_45)] [] := by
  intro n
  induction n with
  | zero =>
    intro M v1_44 v2_45 hr
    rw [Ln_fillWithZeros_L6] at hr
    cases hr
  | succ n ih =>
    intro M v1_44 v2_45 hr
    rw [Ln_fillWithZeros_L6] at hr
    refine g_iload_n hx 6 (i := 2) 2 dX2_fillWithZeros_6 rfl rfl ?_
    refine g_iload_n hx 7 (i := 1) 1 dX2_fillWithZeros_7 rfl rfl ?_
    refine g_icmp_ge hx 8 22 dX2_fillWithZeros_8 (by decide) (fun hc_46 => ?_) (fun hc_46 => ?_)
    · have hr := (if_pos hc_46).symm.trans hr
      exact g_vret hx hR 22 dX2_fillWithZeros_22 ⟨rfl, by rw [← Option.some.inj hr] <;> rfl⟩
    · have hr := (if_neg hc_46).symm.trans hr
      refine g_aload_n hx 11 (i := 0) 0 dX2_fillWithZeros_11 rfl rfl ?_
      refine g_iconst hx 12 (0) dX2_fillWithZeros_12 rfl ?_
      obtain ⟨M_47, eM_47, hr⟩ := bind_e hr
      refine g_callVv hx (c_Ln_add l g σ a0 N0 M 0 eM_47) lk_X2_22 ar_Ln_add (rL_o σ a0 N0 M) (T := TX2) (N := 2) rfl (As := [.int 0]) (rest := []) rfl (Nat.le_of_ble_eq_true rfl) ⟨Nat.le_of_ble_eq_true rfl, Nat.le_of_ble_eq_true rfl⟩ ⟨rfl, rfl⟩ ⟨Nat.zero_le _, Nat.zero_le _⟩ dX2_fillWithZeros_13 ?_
      refine g_iinc hx 16 (i := 2) 2 (v2_45 + 1) [(2, .int (v2_45 + 1)), (0, .ref a0), (1, .int v1_44)] dX2_fillWithZeros_16 rfl rfl (by decide) rfl ?_
      refine g_goto hx 19 6 dX2_fillWithZeros_19 (by decide) ?_
      refine g_ls [1, 2, 0] [(0, .ref a0), (1, .int v1_44), (2, .int (v2_45 + 1))] rfl ?_
      exact ih M_47 v1_44 (v2_45 + 1) hr
set_option maxRecDepth 100000 in
set_option maxHeartbeats 4000000 in
theorem c_Ln_fillWithZeros (l : Launch) (g : Gl) (σ : Hp) (a0 N0 : Nat) (M : LnR) (p1 : Int32) {r : LnR} (hr : Ln_fillWithZeros N0 M p1 = some r) : MG l g md_Ln_fillWithZeros [.ref a0, .int p1] (rawLn σ a0 N0 M) (rs none (rawLn σ a0 N0 r)) := by
  refine MG.intro (by decide +kernel) (Nat.le_of_ble_eq_true rfl) (fun X hx hR _ => ?_)
  unfold Ln_fillWithZeros at hr
  refine g_ls [0, 1] [(0, .ref a0), (1, .int p1)] rfl ?_
  refine g_aload_n hx 0 (i := 0) 0 dX2_fillWithZeros_0 rfl rfl ?_
  obtain ⟨M_43, eM_43, hr⟩ := lt'_e hr
  refine g_callVv hx (c_Ln_clear l g σ a0 N0 M eM_43.symm) lk_X2_19 ar_Ln_clear (rL_o σ a0 N0 M) (T := TX2) (N := 2) rfl (As := []) (rest := []) rfl (Nat.le_of_ble_eq_true rfl) ⟨Nat.le_of_ble_eq_true rfl, Nat.le_of_ble_eq_true rfl⟩ ⟨rfl, rfl⟩ ⟨Nat.zero_le _, Nat.zero_le _⟩ dX2_fillWithZeros_1 ?_
  refine g_iconst hx 4 (0) dX2_fillWithZeros_4 rfl ?_
  refine g_istore_n hx 5 (i := 2) [(2, .int 0), (0, .ref a0), (1, .int p1)] dX2_fillWithZeros_5 rfl (by decide) rfl ?_
  refine g_ls [1, 2, 0] [(0, .ref a0), (1, .int p1), (2, .int 0)] rfl ?_
  exact w_Ln_fillWithZeros_L6 hx hR FU M_43 p1 0 hr
def Ln_copyFrom_L18 (N0 N1 : Nat) (O : LnR) : Nat → LnR → Int32 → Option (LnR)
  | 0, _, _ => none
  | n + 1, M, v2_48 => if M.2 ≤ v2_48 then (some (M)) else (if inB v2_48 N1 then (if inB v2_48 N0 then (Ln_copyFrom_L18 N0 N1 O n (upd M.1 v2_48.toNatClampNeg (O.1 v2_48.toNatClampNeg), M.2) (v2_48 + 1)) else none) else none)
def Ln_copyFrom (N0 N1 : Nat) (O : LnR) (M : LnR) : Option (LnR) := Ln_copyFrom_L18 N0 N1 O FU (M.1, if nI N0 < O.2 then nI N0 else O.2) 0
set_option maxRecDepth 100000 in
set_option maxHeartbeats 4000000 in
theorem w_Ln_copyFrom_L18 {a1 N1 : Nat} {O : LnR} {σ : Hp} {a0 N0 : Nat} (h2 : isRaw σ a1 N1 O) (hd : farL a0 a1) {X : Cx} {l : Launch} {g : Gl} (hx : Ok X l g RX2 cX2_copyFrom 3 md_Ln_copyFrom.rm)  {r : LnR} (hR : Ret X (rs none (rawLn σ a0 N0 r)) 0 0 (none)) : ∀ (n : Nat) (M : LnR) (v2_48 : Int32), Ln_copyFrom_L18 N0 N1 O n M v2_48 = some r → G X (rawLn σ a0 N0 M) 0 0 18 [(0, .ref a0), (1, .ref a1), (2, .int v2_48)] [] := by
  intro n
  induction n with
  | zero =>
    intro M v2_48 hr
    rw [Ln_copyFrom_L18] at hr
    cases hr
  | succ n ih =>
    intro M v2_48 hr
    rw [Ln_copyFrom_L18] at hr
    refine g_iload_n hx 18 (i := 2) 2 dX2_copyFrom_18 rfl rfl ?_
    refine g_aload_n hx 19 (i := 0) 0 dX2_copyFrom_19 rfl rfl ?_
    refine g_get hx 20 (C := RX2) (T := TX2) (N := 2) 1 (.int M.2) (rL_o σ a0 N0 M) rfl (by decide) rfl fl_X2_9 dX2_copyFrom_20 ?_
    refine g_icmp_ge hx 23 44 dX2_copyFrom_23 (by decide) (fun hc_49 => ?_) (fun hc_49 => ?_)
    · have hr := (if_pos hc_49).symm.trans hr
      exact g_vret hx hR 44 dX2_copyFrom_44 ⟨rfl, by rw [← Option.some.inj hr] <;> rfl⟩
    · have hr := (if_neg hc_49).symm.trans hr
      refine g_aload_n hx 26 (i := 0) 0 dX2_copyFrom_26 rfl rfl ?_
      refine g_get hx 27 (C := RX2) (T := TX2) (N := 2) 0 (.ref (a0 + 1)) (rL_o σ a0 N0 M) rfl (by decide) rfl fl_X2_15 dX2_copyFrom_27 ?_
      refine g_iload_n hx 30 (i := 2) 2 dX2_copyFrom_30 rfl rfl ?_
      refine g_aload_n hx 31 (i := 1) 1 dX2_copyFrom_31 rfl rfl ?_
      refine g_get hx 32 (C := RX2) (T := TX2) (N := 2) 0 (.ref (a1 + 1)) (rR_o h2 hd) rfl (by decide) rfl fl_X2_15 dX2_copyFrom_32 ?_
      refine g_iload_n hx 35 (i := 2) 2 dX2_copyFrom_35 rfl rfl ?_
      obtain ⟨hb_50, hr⟩ := ob hr
      refine g_iald hx 36 (rR_a h2 hd) hb_50 dX2_copyFrom_36 ?_
      obtain ⟨hb_51, hr⟩ := ob hr
      refine g_iast hx 37 (rL_a σ a0 N0 M) hb_51 dX2_copyFrom_37 ?_
      refine G.heap (rL_f σ a0 N0 M (upd M.1 v2_48.toNatClampNeg (O.1 v2_48.toNatClampNeg))) ?_
      refine g_iinc hx 38 (i := 2) 2 (v2_48 + 1) [(2, .int (v2_48 + 1)), (0, .ref a0), (1, .ref a1)] dX2_copyFrom_38 rfl rfl (by decide) rfl ?_
      refine g_goto hx 41 18 dX2_copyFrom_41 (by decide) ?_
      refine g_ls [1, 2, 0] [(0, .ref a0), (1, .ref a1), (2, .int (v2_48 + 1))] rfl ?_
      exact ih (upd M.1 v2_48.toNatClampNeg (O.1 v2_48.toNatClampNeg), M.2) (v2_48 + 1) hr
set_option maxRecDepth 100000 in
set_option maxHeartbeats 4000000 in
theorem c_Ln_copyFrom {a1 N1 : Nat} {O : LnR} {σ : Hp} {a0 N0 : Nat} (h2 : isRaw σ a1 N1 O) (hd : farL a0 a1) (l : Launch) (g : Gl) (M : LnR) {r : LnR} (hr : Ln_copyFrom N0 N1 O M = some r) : MG l g md_Ln_copyFrom [.ref a0, .ref a1] (rawLn σ a0 N0 M) (rs none (rawLn σ a0 N0 r)) := by
  refine MG.intro (by decide +kernel) (Nat.le_of_ble_eq_true rfl) (fun X hx hR _ => ?_)
  unfold Ln_copyFrom at hr
  refine g_ls [0, 1] [(0, .ref a0), (1, .ref a1)] rfl ?_
  refine g_aload_n hx 0 (i := 0) 0 dX2_copyFrom_0 rfl rfl ?_
  refine g_aload_n hx 1 (i := 1) 1 dX2_copyFrom_1 rfl rfl ?_
  refine g_get hx 2 (C := RX2) (T := TX2) (N := 2) 1 (.int O.2) (rR_o h2 hd) rfl (by decide) rfl fl_X2_9 dX2_copyFrom_2 ?_
  refine g_aload_n hx 5 (i := 0) 0 dX2_copyFrom_5 rfl rfl ?_
  refine g_get hx 6 (C := RX2) (T := TX2) (N := 2) 0 (.ref (a0 + 1)) (rL_o σ a0 N0 M) rfl (by decide) rfl fl_X2_15 dX2_copyFrom_6 ?_
  refine g_alen hx 9 (rL_a σ a0 N0 M) dX2_copyFrom_9 ?_
  refine g_mmin hx 10 mw_X2_26 (Nat.le_of_ble_eq_true rfl) ⟨Nat.le_of_ble_eq_true rfl, Nat.le_of_ble_eq_true rfl⟩ ⟨Nat.zero_le _, Nat.zero_le _⟩ dX2_copyFrom_10 ?_
  refine g_put hx 13 (C := RX2) (T := TX2) (N := 2) 1 .int [.ref (a0 + 1), .int (if nI N0 < O.2 then nI N0 else O.2)] (rL_o σ a0 N0 M) rfl (by decide) fl_X2_9 rfl rfl rfl rfl (Nat.le_of_ble_eq_true rfl) rfl dX2_copyFrom_13 ?_
  refine G.heap (rL_c σ a0 N0 M (if nI N0 < O.2 then nI N0 else O.2)) ?_
  refine g_iconst hx 16 (0) dX2_copyFrom_16 rfl ?_
  refine g_istore_n hx 17 (i := 2) [(2, .int 0), (0, .ref a0), (1, .ref a1)] dX2_copyFrom_17 rfl (by decide) rfl ?_
  refine g_ls [1, 2, 0] [(0, .ref a0), (1, .ref a1), (2, .int 0)] rfl ?_
  exact w_Ln_copyFrom_L18 h2 hd hx hR FU (M.1, if nI N0 < O.2 then nI N0 else O.2) 0 hr
