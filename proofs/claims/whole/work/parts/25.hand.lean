/-! what the walks over the whole component need of constants; the methods on arrays of objects -/
def KAll (g : Gl) (ad ae : Nat → Nat) : Prop := KS g ad ∧ EnK g ad ae ∧ KX g ∧ ∀ U, g.2.2.2 U → ∀ w ∈ nestl, va_Nw w U
theorem inB_lt {i : Int32} {n : Nat} (h : inB i n) : i.toNatClampNeg < n := Nat.not_le.mp fun q => h (Or.inr q)
def oc {β : Type} (o : Option Nat) (a : β) (f : Nat → β) : β := match o with
  | none => a
  | some i => f i
theorem oc_e {β : Type} {o : Option Nat} {a : β} {f : Nat → β} {r : β} (h : oc o a f = r) : (o = none ∧ a = r) ∨ ∃ i, o = some i ∧ f i = r := by
  cases o with
  | none => exact Or.inl ⟨rfl, h⟩
  | some i => exact Or.inr ⟨i, rfl, h⟩
def exn (k : Nat) : String := if k = 0 then iae else nse
def pxW {α : Type} (r : Nat ⊕ α) (mp : Nat → Option Ent) : String → Hp → Prop := fun E σ' => ∃ k, r = .inl k ∧ E = exn k ∧ σ'.2 = mp
section GO
variable {X : Cx} {l : Launch} {g : Gl} {own : String} {cc : ByteArray} {nL : Nat} {R : Room} {σ : Hp} {k n : Nat} {ls : List (Nat × Value)} {st : List Value}
/-- an enum constant is stored -/
theorem g_astE (hx : Ok X l g own cc nL R) (pc : Nat) {b N v : Nat} {f : Nat → Option Nat} {i : Int32} (hk : σ.2 b = some (eR 2 N f)) (hO : ∀ U, g.2.2.2 U → va_O RO v (A0 g) U g.1) (hin : vp_in i N) (hd : decode cc pc = .ok (.aastore, 1)) (h : G X (hset σ b (eR 2 N (va_up f i.toNatClampNeg (some v)))) k n (pc + 1) ls st) : G X σ k n pc ls (.ref v :: .int i :: .ref b :: st) := by
  obtain ⟨p, l', e, R', s, m, args, below, meth, c, Q, g'⟩ := X
  obtain ⟨h1, h2, h3, h4, h5, h6, h7, h8, rfl, rfl, rfl⟩ := hx
  intro H locs la hP hS hL
  have hlt : i.toNatClampNeg < N := Nat.not_le.mp fun q => hin (Or.inr q)
  have h0 : ¬ i < 0 := fun q => hin (Or.inl q)
  have hPb := hP.2 b _ hk
  obtain ⟨cellV, g1, g2, g3, g4⟩ := (hO s h8.1).kept (base_kept hS h7 hP.1.2)
  have g1' : H[v]? = some cellV := by
    have hlv : v < s.heap.size := (Array.getElem?_eq_some_iff.mp g1).1
    rw [hS.2.1 v hlv g4]; exact g1
  obtain ⟨kA, comp, k1, k2, k3, -⟩ := (h6.2 2 _ rfl).2
  have hcomp : comp = cellV.cls := Option.some.inj (k3.symm.trans g3)
  subst hcomp
  obtain ⟨kC, hkC, -⟩ := Vm.findClass_spec k3
  refine W.aast h1 h2 (hP.one hk 0 _ rfl) (fun q h => by cases h) (fun h => by cases h) k1 k2 rfl hkC ⟨h0, by show _ < (arrV _ _ _).slots.size; rw [arrV_size]; exact hlt⟩ g1' (fun q h => by rw [h] at g2; cases g2) hkC (va_asg _ _) rfl rfl hd fun H1 e z oq => ?_
  refine h H1 _ la (hP.set hk ?_ z oq) (hS.put z oq hPb.1) hL
  show H1[b]? = some (vp_cell _ _)
  rw [e]
  rw [vp_cell_q, vp_cell_q, arrV_store]
  congr 2
  funext q
  by_cases hq : q = i.toNatClampNeg
  · subst hq
    simp [updV, va_up, va_rf]
  · simp [updV, va_up, hq]
end GO
def md_ord : Md := (yJx29ce0_ordinal_8abf5, cJx29ce0_ordinal_8abf5, 1, some .int, 0, 0, 0, 0)
theorem fl_ord : Cond.fieldLink RJx29ce0 7 "java/lang/Enum" "ordinal" "I" ∈ aw := aw1 (by decide +kernel)
theorem c_ord (l : Launch) (g : Gl) {ad ae : Nat → Nat} (hC : KAll g ad ae) (σ : Hp) (o : Nat) (ho : o < 7) : MG l g md_ord [.ref (ae o)] σ (rs (some (.int (nI o))) σ) := by
  refine MG.intro (by decide +kernel) (Nat.le_of_ble_eq_true rfl) (fun X hx hR _ => ?_)
  refine g_ls [0] [(0, .ref (ae o))] rfl ?_
  refine g_aload_n hx 0 (i := 0) 0 dJx29ce0_ordinal_8abf5_0 rfl rfl ?_
  refine g_getX hx 1 (ref := "java/lang/Enum") (.int (nI o)) (fun U hU => ((hC.2.1 U hU).1 o ho).2.1) fl_ord dJx29ce0_ordinal_8abf5_1 ?_
  exact g_iret hx hR 4 dJx29ce0_ordinal_8abf5_4 ⟨rfl, rfl⟩
abbrev xord : MethodName := ⟨"SlipArchive$Order", "ordinal", "()I"⟩
theorem lo_X10_348 : ∀ w ∈ va_wsU RX10 348 RO "java/lang/Enum" xord yJx29ce0_ordinal_8abf5 [.code md_ord.y md_ord.b md_ord.nL md_ord.rt], w ∈ aw := aw_of (by decide +kernel)
section GO2
variable {X : Cx} {l : Launch} {g : Gl} {cc : ByteArray} {nL : Nat} {R : Room} {σ : Hp} {k n : Nat} {ls : List (Nat × Value)} {st : List Value}
/-- ordinal() of an enum constant, inherited -/
theorem g_ordinal {ad ae : Nat → Nat} (hx : Ok X l g RX10 cc nL R) (pc : Nat) {o : Nat} (ho : o < 7) (hC : KAll g ad ae) (hlk : ∀ w ∈ va_wsU RX10 348 RO "java/lang/Enum" xord yJx29ce0_ordinal_8abf5 [.code md_ord.y md_ord.b md_ord.nL md_ord.rt], w ∈ aw) (hroom : 1 ≤ R.frames ∧ 20 ≤ R.locals) (hcr : k ≤ R.cells ∧ n ≤ R.slots) {rest : List Value} (hcat : (rest.map fun v => v.category).sum ≤ 8) (hd : decode cc pc = .ok (.invokevirtual 348, 3)) (h : G X σ k n (pc + 3) ls (.int (nI o) :: rest)) : G X σ k n pc ls (.ref (ae o) :: rest) := by
  have hM := c_ord l g hC σ o ho
  obtain ⟨p, l', e, R', s, m, args, below, meth, c, Q, g'⟩ := X
  obtain ⟨h1, h2, h3, h4, h5, h6, h7, h8, rfl, rfl, rfl⟩ := hx
  intro H locs la hP hS hL
  have hT : GoodIn aw (va_wsU RX10 348 RO "java/lang/Enum" xord yJx29ce0_ordinal_8abf5 (.code md_ord.y md_ord.b md_ord.nL md_ord.rt :: aw)) := fun w hw => by
    have hw2 : w ∈ aw := by
      unfold va_wsU at hw
      rcases List.mem_append.mp hw with hw | hw
      · exact hlk w (by unfold va_wsU; exact List.mem_append_left _ hw)
      · rcases List.mem_cons.mp hw with rfl | hw
        · exact hlk _ (by unfold va_wsU; exact List.mem_append_right _ List.mem_cons_self)
        · exact hw
    exact ⟨hw2, aw_good1 hw2⟩
  have cw := va_cwU (args := args) (s := s) (R := R') (rm := md_ord.rm) (mc := 0) (ms := 0) (bytes := md_ord.b) (maxL := md_ord.nL) (ret := md_ord.rt) 0 h5 hT rfl rfl rfl rfl ⟨by decide +kernel, by decide +kernel, by decide +kernel⟩ ⟨hroom.1, by have := hroom.2; show 8 + (1 + 11) + 0 ≤ _; omega⟩
  refine g_run (va_runU (nL := nL) (As := []) (rest := rest) ⟨h1, h2, h3, h4, h5⟩ hM cw ⟨MGp.blind, ?_, fun U hU hW => ⟨rfl, by rw [hU]; exact hP, by rw [hU]; exact Nat.le_trans h7 hS.1, va_K.moved hW.alike h6, h8.2 _ U hW h8.1, h8.2⟩⟩ rfl rfl (by rw [← h3]; exact hL.1) rfl (lv_room hcat) hd hcr) hS hL (fun v' σ'' hp => by
    obtain ⟨rfl, rfl⟩ := hp
    exact h)
  obtain ⟨cell, g1, g2, g3, -⟩ := ((((hC.2.1 s h8.1).1 o ho).1).kept (base_kept hS h7 hP.1.2)).kept (fun a _ h2 => by
    by_cases ha : a < s.heap.size
    · exact hS.2.1 a ha h2
    · exact absurd (Nat.le_trans h7 (Nat.not_lt.mp ha)) h2)
  exact ⟨cell, g1, g2, g3⟩
end GO2
def md_Sc_order : Md := (yX6_order, cX6_order, 2, some (.object "SlipArchive$Order"), 0, 0, 0, 0)
def md_Sc_add : Md := (yX6_add, cX6_add, 5, none, 1, 21, 0, 0)
def md_Hi_slotBehindKept : Md := (yX1_slotBehindKept, cX1_slotBehindKept, 2, some (.object "SlipArchive$Stacks"), 0, 0, 0, 0)
def md_Hi_prepare : Md := (yX1_prepare, cX1_prepare, 3, none, 4, 124, 0, 0)
def md_Hi_takeBack : Md := (yX1_takeBack, cX1_takeBack, 3, some .boolean, 4, 124, 0, 0)
theorem fl_X6_11 : Cond.fieldLink RX6 11 (TX6 0).1 (TX6 0).2.1 (TX6 0).2.2.1 ∈ aw := aw1 (by decide +kernel)
theorem fl_X6_22 : Cond.fieldLink RX6 22 (TX6 1).1 (TX6 1).2.1 (TX6 1).2.2.1 ∈ aw := aw1 (by decide +kernel)
theorem fl_X6_26 : Cond.fieldLink RX6 26 (TX6 2).1 (TX6 2).2.1 (TX6 2).2.2.1 ∈ aw := aw1 (by decide +kernel)
theorem fl_X1_17 : Cond.fieldLink RX1 17 (TX1 1).1 (TX1 1).2.1 (TX1 1).2.2.1 ∈ aw := aw1 (by decide +kernel)
theorem fl_X1_21 : Cond.fieldLink RX1 21 (TX1 2).1 (TX1 2).2.1 (TX1 2).2.2.1 ∈ aw := aw1 (by decide +kernel)
theorem fl_X1_13 : Cond.fieldLink RX1 13 (TX1 0).1 (TX1 0).2.1 (TX1 0).2.2.1 ∈ aw := aw1 (by decide +kernel)
theorem lk_X6_29 : Lk md_Ln_count [.methodLink RX6 29 md_Ln_count.y, .instanceMethod md_Ln_count.y, .selects md_Ln_count.y.cls md_Ln_count.y md_Ln_count.y] := lk_of (by decide +kernel)
theorem lk_X6_36 : Lk md_Ln_add [.methodLink RX6 36 md_Ln_add.y, .instanceMethod md_Ln_add.y, .selects md_Ln_add.y.cls md_Ln_add.y md_Ln_add.y] := lk_of (by decide +kernel)
theorem lk_X1_25 : Lk md_Hi_slotBehindKept [.methodLink RX1 25 md_Hi_slotBehindKept.y, .instanceMethod md_Hi_slotBehindKept.y, .selects md_Hi_slotBehindKept.y.cls md_Hi_slotBehindKept.y md_Hi_slotBehindKept.y] := lk_of (by decide +kernel)
theorem ar_Hi_slotBehindKept : Arity md_Hi_slotBehindKept 0 := ⟨by decide +kernel, by decide +kernel, by decide +kernel⟩
theorem ar_St_copyFrom : Arity md_St_copyFrom 1 := ⟨by decide +kernel, by decide +kernel, by decide +kernel⟩
theorem lk_X1_29 : Lk md_St_copyFrom [.methodLink RX1 29 md_St_copyFrom.y, .instanceMethod md_St_copyFrom.y, .selects md_St_copyFrom.y.cls md_St_copyFrom.y md_St_copyFrom.y] := lk_of (by decide +kernel)
def Sc_order (M : WM) (p1 : Int32) : Option (Option Nat) := if p1 < 0 then some none else if nI 20 ≤ p1 then some none else if inB p1 20 then some (M.2.2.2 p1.toNatClampNeg) else none
set_option maxRecDepth 100000 in
set_option maxHeartbeats 4000000 in
theorem c_Sc_order {ad ae : Nat → Nat} (l : Launch) (g : Gl) (hC : KAll g ad ae) (σ : Hp) (B : Nat) (M : WM) (p1 : Int32) {r : Option Nat} (hr : Sc_order M p1 = some r) : MG l g md_Sc_order [.ref (B + 9), .int p1] (putW σ B ae M) (rs (some (va_rf (Option.map ae r))) (putW σ B ae M)) := by
  refine MG.intro (by decide +kernel) (Nat.le_of_ble_eq_true rfl) (fun X hx hR _ => ?_)
  unfold Sc_order at hr
  refine g_ls [0, 1] [(0, .ref (B + 9)), (1, .int p1)] rfl ?_
  refine g_iload_n hx 0 (i := 1) 1 dX6_order_0 rfl rfl ?_
  refine g_if_lt hx 1 22 dX6_order_1 (by decide) (fun hc => ?_) (fun hc => ?_)
  · have hr := (if_pos hc).symm.trans hr
    refine g_null hx 22 dX6_order_22 ?_
    exact g_aret hx hR 23 (Or.inl rfl) dX6_order_23 ⟨by rw [← Option.some.inj hr]; rfl, rfl⟩
  · have hr := (if_neg hc).symm.trans hr
    refine g_iload_n hx 4 (i := 1) 1 dX6_order_4 rfl rfl ?_
    refine g_aload_n hx 5 (i := 0) 0 dX6_order_5 rfl rfl ?_
    refine g_get hx 6 (C := RX6) (T := TX6) (N := 3) 0 (.ref (B + 10)) (pW σ B ae M 9 (by decide)) rfl (by decide) rfl fl_X6_11 dX6_order_6 ?_
    refine g_alenq hx 9 2 (pW σ B ae M 10 (by decide)) rfl rfl dX6_order_9 ?_
    refine g_icmp_ge hx 10 22 dX6_order_10 (by decide) (fun hc2 => ?_) (fun hc2 => ?_)
    · have hr := (if_pos hc2).symm.trans hr
      refine g_null hx 22 dX6_order_22 ?_
      exact g_aret hx hR 23 (Or.inl rfl) dX6_order_23 ⟨by rw [← Option.some.inj hr]; rfl, rfl⟩
    · have hr := (if_neg hc2).symm.trans hr
      obtain ⟨hb, hr⟩ := ob hr
      refine g_aload_n hx 13 (i := 0) 0 dX6_order_13 rfl rfl ?_
      refine g_get hx 14 (C := RX6) (T := TX6) (N := 3) 0 (.ref (B + 10)) (pW σ B ae M 9 (by decide)) rfl (by decide) rfl fl_X6_11 dX6_order_14 ?_
      refine g_iload_n hx 17 (i := 1) 1 dX6_order_17 rfl rfl ?_
      refine g_aldq hx 18 2 (pW σ B ae M 10 (by decide)) rfl rfl hb dX6_order_18 ?_
      refine g_goto hx 19 23 dX6_order_19 (by decide) ?_
      exact g_aret hx hR 23 (va_rf_or _) dX6_order_23 ⟨by rw [← Option.some.inj hr], rfl⟩
def Sc_add (o : Nat) (M : WM) (p2 p3 : Int32) : Option WM := lt' (nI (M.2.1 3).length) fun v4 => if v4 < 0 then some M else if v4 < nI 20 then (if inB v4 20 then some (setWL (setWL (setWO M (va_up M.2.2.2 v4.toNatClampNeg (some o))) 3 (lnadd 20 (M.2.1 3) p2)) 4 (lnadd 20 (M.2.1 4) p3)) else none) else some M
set_option maxRecDepth 100000 in
set_option maxHeartbeats 4000000 in
theorem c_Sc_add {ad ae : Nat → Nat} {o : Nat} (l : Launch) (g : Gl) (hC : KAll g ad ae) (ho : o < 7) (σ : Hp) (B : Nat) (M : WM) (p2 p3 : Int32) {r : WM} (hr : Sc_add o M p2 p3 = some r) : MG l g md_Sc_add [.ref (B + 9), .ref (ae o), .int p2, .int p3] (putW σ B ae M) (rs none (putW σ B ae r)) := by
  refine MG.intro (by decide +kernel) (Nat.le_of_ble_eq_true rfl) (fun X hx hR _ => ?_)
  unfold Sc_add at hr
  refine g_ls [0, 1, 2, 3] [(0, .ref (B + 9)), (1, .ref (ae o)), (2, .int p2), (3, .int p3)] rfl ?_
  refine g_aload_n hx 0 (i := 0) 0 dX6_add_0 rfl rfl ?_
  refine g_get hx 1 (C := RX6) (T := TX6) (N := 3) 1 (.ref (B + 11)) (pW σ B ae M 9 (by decide)) rfl (by decide) rfl fl_X6_22 dX6_add_1 ?_
  refine g_callVr hx (k_count l g (pW_l3 σ B ae M) (by decide)) lk_X6_29 ar_Ln_count (pW_l3 σ B ae M).1 (T := TX2) (N := 2) rfl (As := []) (rest := []) rfl (Nat.le_of_ble_eq_true rfl) ⟨Nat.le_of_ble_eq_true rfl, Nat.le_of_ble_eq_true rfl⟩ ⟨rfl, rfl⟩ ⟨Nat.zero_le _, Nat.zero_le _⟩ dX6_add_4 ?_
  obtain ⟨v4, ev4, hr⟩ := lt'_e hr
  refine g_nmi ev4 ?_
  refine g_istore hx 7 (i := 4) [(4, .int v4), (0, .ref (B + 9)), (1, .ref (ae o)), (2, .int p2), (3, .int p3)] dX6_add_7 (by decide) rfl ?_
  refine g_iload hx 9 (i := 4) 0 dX6_add_9 rfl ?_
  refine g_if_lt hx 11 24 dX6_add_11 (by decide) (fun hc => ?_) (fun hc => ?_)
  · have hr := (if_pos hc).symm.trans hr
    exact g_vret hx hR 24 dX6_add_24 ⟨rfl, by rw [← Option.some.inj hr]⟩
  · have hr := (if_neg hc).symm.trans hr
    refine g_iload hx 14 (i := 4) 0 dX6_add_14 rfl ?_
    refine g_aload_n hx 16 (i := 0) 1 dX6_add_16 rfl rfl ?_
    refine g_get hx 17 (C := RX6) (T := TX6) (N := 3) 0 (.ref (B + 10)) (pW σ B ae M 9 (by decide)) rfl (by decide) rfl fl_X6_11 dX6_add_17 ?_
    refine g_alenq hx 20 2 (pW σ B ae M 10 (by decide)) rfl rfl dX6_add_20 ?_
    refine g_icmp_lt hx 21 25 dX6_add_21 (by decide) (fun hc2 => ?_) (fun hc2 => ?_)
    · have hr := (if_pos hc2).symm.trans hr
      obtain ⟨hb, hr⟩ := ob hr
      refine g_aload_n hx 25 (i := 0) 1 dX6_add_25 rfl rfl ?_
      refine g_get hx 26 (C := RX6) (T := TX6) (N := 3) 0 (.ref (B + 10)) (pW σ B ae M 9 (by decide)) rfl (by decide) rfl fl_X6_11 dX6_add_26 ?_
      refine g_iload hx 29 (i := 4) 0 dX6_add_29 rfl ?_
      refine g_aload_n hx 31 (i := 1) 2 dX6_add_31 rfl rfl ?_
      refine g_astE hx 32 (pW σ B ae M 10 (by decide)) (fun U hU => ((hC.2.1 U hU).1 o ho).1) hb dX6_add_32 ?_
      refine G.heap (σ' := putW σ B ae (setWO M (va_up M.2.2.2 v4.toNatClampNeg (some o)))) ?_ ?_
      · rw [← pW_o]
        congr 2
        funext i
        by_cases hi : i = v4.toNatClampNeg
        · subst hi; simp [va_up]
        · simp [va_up, hi]
      refine g_aload_n hx 33 (i := 0) 1 dX6_add_33 rfl rfl ?_
      refine g_get hx 34 (C := RX6) (T := TX6) (N := 3) 1 (.ref (B + 11)) (pW σ B ae (setWO M (va_up M.2.2.2 v4.toNatClampNeg (some o))) 9 (by decide)) rfl (by decide) rfl fl_X6_22 dX6_add_34 ?_
      refine g_iload_n hx 37 (i := 2) 3 dX6_add_37 rfl rfl ?_
      refine g_callVv hx (k_add l g (pW_l3 σ B ae (setWO M (va_up M.2.2.2 v4.toNatClampNeg (some o)))) (by decide) p2) lk_X6_36 ar_Ln_add (pW_l3 σ B ae (setWO M (va_up M.2.2.2 v4.toNatClampNeg (some o)))).1 (T := TX2) (N := 2) rfl (As := [.int p2]) (rest := []) rfl (Nat.le_of_ble_eq_true rfl) ⟨Nat.le_of_ble_eq_true rfl, Nat.le_of_ble_eq_true rfl⟩ ⟨rfl, rfl⟩ ⟨Nat.zero_le _, Nat.zero_le _⟩ dX6_add_38 ?_
      refine G.heap (pW_p3 σ B ae (setWO M (va_up M.2.2.2 v4.toNatClampNeg (some o))) (lnadd 20 (M.2.1 3) p2)) ?_
      refine g_aload_n hx 41 (i := 0) 1 dX6_add_41 rfl rfl ?_
      refine g_get hx 42 (C := RX6) (T := TX6) (N := 3) 2 (.ref (B + 13)) (pW σ B ae (setWL (setWO M (va_up M.2.2.2 v4.toNatClampNeg (some o))) 3 (lnadd 20 (M.2.1 3) p2)) 9 (by decide)) rfl (by decide) rfl fl_X6_26 dX6_add_42 ?_
      refine g_iload_n hx 45 (i := 3) 4 dX6_add_45 rfl rfl ?_
      refine g_callVv hx (k_add l g (pW_l4 σ B ae (setWL (setWO M (va_up M.2.2.2 v4.toNatClampNeg (some o))) 3 (lnadd 20 (M.2.1 3) p2))) (by decide) p3) lk_X6_36 ar_Ln_add (pW_l4 σ B ae (setWL (setWO M (va_up M.2.2.2 v4.toNatClampNeg (some o))) 3 (lnadd 20 (M.2.1 3) p2))).1 (T := TX2) (N := 2) rfl (As := [.int p3]) (rest := []) rfl (Nat.le_of_ble_eq_true rfl) ⟨Nat.le_of_ble_eq_true rfl, Nat.le_of_ble_eq_true rfl⟩ ⟨rfl, rfl⟩ ⟨Nat.zero_le _, Nat.zero_le _⟩ dX6_add_46 ?_
      refine G.heap (pW_p4 σ B ae (setWL (setWO M (va_up M.2.2.2 v4.toNatClampNeg (some o))) 3 (lnadd 20 (M.2.1 3) p2)) (lnadd 20 (M.2.1 4) p3)) ?_
      exact g_vret hx hR 49 dX6_add_49 ⟨rfl, by rw [← Option.some.inj hr]⟩
    · have hr := (if_neg hc2).symm.trans hr
      exact g_vret hx hR 24 dX6_add_24 ⟨rfl, by rw [← Option.some.inj hr]⟩
def hix (M : WM) : Int32 := (M.2.2.1 7 + M.2.2.1 8) - (M.2.2.1 7 + M.2.2.1 8) / 9 * 9
set_option maxRecDepth 100000 in
set_option maxHeartbeats 4000000 in
theorem c_Hi_slotBehindKept {ae : Nat → Nat} (l : Launch) (g : Gl) (σ : Hp) (B : Nat) (M : WM) (hb : inB (hix M) 9) : MG l g md_Hi_slotBehindKept [.ref (B + 15)] (putW σ B ae M) (rs (some (.ref (B + 17 + 35 * (hix M).toNatClampNeg))) (putW σ B ae M)) := by
  obtain ⟨j, hj, ej⟩ := vp_in_of hb (by decide)
  refine MG.intro (by decide +kernel) (Nat.le_of_ble_eq_true rfl) (fun X hx hR _ => ?_)
  refine g_ls [0] [(0, .ref (B + 15))] rfl ?_
  refine g_aload_n hx 0 (i := 0) 0 dX1_slotBehindKept_0 rfl rfl ?_
  refine g_get hx 1 (C := RX1) (T := TX1) (N := 3) 1 (.int (M.2.2.1 7)) (pW σ B ae M 15 (by decide)) rfl (by decide) rfl fl_X1_17 dX1_slotBehindKept_1 ?_
  refine g_aload_n hx 4 (i := 0) 0 dX1_slotBehindKept_4 rfl rfl ?_
  refine g_get hx 5 (C := RX1) (T := TX1) (N := 3) 2 (.int (M.2.2.1 8)) (pW σ B ae M 15 (by decide)) rfl (by decide) rfl fl_X1_21 dX1_slotBehindKept_5 ?_
  refine g_iadd hx 8 dX1_slotBehindKept_8 ?_
  refine g_bipush hx 9 9 dX1_slotBehindKept_9 rfl ?_
  refine g_irem hx 11 dX1_slotBehindKept_11 (by decide) ?_
  refine g_istore_n hx 12 (i := 1) [(1, .int (hix M)), (0, .ref (B + 15))] dX1_slotBehindKept_12 rfl (by decide) rfl ?_
  refine g_iload_n hx 13 (i := 1) 0 dX1_slotBehindKept_13 rfl rfl ?_
  refine g_if_lt hx 14 35 dX1_slotBehindKept_14 (by decide) (fun hc => absurd hc (by rw [ej]; exact nI_pos (by omega))) (fun _ => ?_)
  refine g_iload_n hx 17 (i := 1) 0 dX1_slotBehindKept_17 rfl rfl ?_
  refine g_aload_n hx 18 (i := 0) 1 dX1_slotBehindKept_18 rfl rfl ?_
  refine g_get hx 19 (C := RX1) (T := TX1) (N := 3) 0 (.ref (B + 16)) (pW σ B ae M 15 (by decide)) rfl (by decide) rfl fl_X1_13 dX1_slotBehindKept_19 ?_
  refine g_alenq hx 22 1 (pW σ B ae M 16 (by decide)) rfl rfl dX1_slotBehindKept_22 ?_
  refine g_icmp_ge hx 23 35 dX1_slotBehindKept_23 (by decide) (fun hc => absurd hc (by rw [ej]; exact nI_ge hj (by decide))) (fun _ => ?_)
  refine g_aload_n hx 26 (i := 0) 1 dX1_slotBehindKept_26 rfl rfl ?_
  refine g_get hx 27 (C := RX1) (T := TX1) (N := 3) 0 (.ref (B + 16)) (pW σ B ae M 15 (by decide)) rfl (by decide) rfl fl_X1_13 dX1_slotBehindKept_27 ?_
  refine g_iload_n hx 30 (i := 1) 0 dX1_slotBehindKept_30 rfl rfl ?_
  refine g_aldq hx 31 1 (pW σ B ae M 16 (by decide)) rfl rfl hb dX1_slotBehindKept_31 ?_
  refine g_goto hx 32 36 dX1_slotBehindKept_32 (by decide) ?_
  exact g_aret hx hR 36 (Or.inr ⟨_, rfl⟩) dX1_slotBehindKept_36 ⟨rfl, rfl⟩
theorem MG.atI {l : Launch} {g : Gl} {md : Md} {av : List Value} {σ : Hp} {B : Nat} {ae : Nat → Nat} {w : WM} {v : Option Value} {M' : StM} (i : Nat) (hi : i < 12) (h : MG l g md av (putSt (putW σ B ae w) (B + 17 + 35 * i) (w.1 i)) (rs v (putSt (putW σ B ae w) (B + 17 + 35 * i) M'))) : MG l g md av (putW σ B ae w) (rs v (putW σ B ae (setS w i M'))) := by
  rw [putSt_id (pW_st σ B ae w i hi), pW_put σ B ae w i hi] at h
  exact h
def Hi_prepare (M : WM) : Option WM := if inB (hix M) 9 then some (setS M (hix M).toNatClampNeg (St_copyFrom (M.1 9) (M.1 (hix M).toNatClampNeg))) else none
set_option maxRecDepth 100000 in
set_option maxHeartbeats 4000000 in
theorem c_Hi_prepare {ad ae : Nat → Nat} (l : Launch) (g : Gl) (_ : KAll g ad ae) (σ : Hp) (B : Nat) (M : WM) {r : WM} (hr : Hi_prepare M = some r) : MG l g md_Hi_prepare [.ref (B + 15), .ref (B + 332)] (putW σ B ae M) (rs none (putW σ B ae r)) := by
  obtain ⟨hb, hr⟩ := ob hr
  have hlt := inB_lt hb
  refine MG.intro (by decide +kernel) (Nat.le_of_ble_eq_true rfl) (fun X hx hR _ => ?_)
  refine g_ls [0, 1] [(0, .ref (B + 15)), (1, .ref (B + 332))] rfl ?_
  refine g_aload_n hx 0 (i := 0) 0 dX1_prepare_0 rfl rfl ?_
  refine g_callVr hx (c_Hi_slotBehindKept l g σ B M hb) lk_X1_25 ar_Hi_slotBehindKept (pW σ B ae M 15 (by decide)) (T := TX1) (N := 3) rfl (As := []) (rest := []) rfl (Nat.le_of_ble_eq_true rfl) ⟨Nat.le_of_ble_eq_true rfl, Nat.le_of_ble_eq_true rfl⟩ ⟨rfl, rfl⟩ ⟨Nat.zero_le _, Nat.zero_le _⟩ dX1_prepare_1 ?_
  refine g_astore_n hx 4 (i := 2) [(2, .ref (B + 17 + 35 * (hix M).toNatClampNeg)), (0, .ref (B + 15)), (1, .ref (B + 332))] dX1_prepare_4 rfl (by decide) rfl ?_
  refine g_aload_n hx 5 (i := 2) 0 dX1_prepare_5 rfl rfl ?_
  refine g_ifnull hx 6 dX1_prepare_6 ?_
  refine g_aload_n hx 9 (i := 2) 0 dX1_prepare_9 rfl rfl ?_
  refine g_aload_n hx 10 (i := 1) 2 dX1_prepare_10 rfl rfl ?_
  refine g_callVv hx (MG.atI (hix M).toNatClampNeg (by omega) (c_St_copyFrom (pW_st9 σ B ae M) (by omega) l g (M.1 (hix M).toNatClampNeg) rfl)) lk_X1_29 ar_St_copyFrom ((pW_st σ B ae M (hix M).toNatClampNeg (by omega)) 0 (by decide)) (T := TX8) (N := 15) rfl (As := [.ref (B + 332)]) (rest := []) rfl (Nat.le_of_ble_eq_true rfl) ⟨Nat.le_of_ble_eq_true rfl, Nat.le_of_ble_eq_true rfl⟩ ⟨rfl, rfl⟩ ⟨Nat.zero_le _, Nat.zero_le _⟩ dX1_prepare_11 ?_
  exact g_vret hx hR 14 dX1_prepare_14 ⟨rfl, by rw [← Option.some.inj hr]⟩
def Hi_takeBack (M : WM) : Option (Int32 × WM) := if M.2.2.1 8 = 0 then some (0, M) else lt' (setWI M 8 (M.2.2.1 8 - 1)) fun M1 => if inB (hix M1) 9 then some (1, setS M1 9 (St_copyFrom (M1.1 (hix M1).toNatClampNeg) (M1.1 9))) else none
set_option maxRecDepth 100000 in
set_option maxHeartbeats 4000000 in
theorem c_Hi_takeBack {ad ae : Nat → Nat} (l : Launch) (g : Gl) (_ : KAll g ad ae) (σ : Hp) (B : Nat) (M : WM) {r : Int32 × WM} (hr : Hi_takeBack M = some r) : MG l g md_Hi_takeBack [.ref (B + 15), .ref (B + 332)] (putW σ B ae M) (rs (some (.int r.1)) (putW σ B ae r.2)) := by
  refine MG.intro (by decide +kernel) (Nat.le_of_ble_eq_true rfl) (fun X hx hR _ => ?_)
  unfold Hi_takeBack at hr
  refine g_ls [0, 1] [(0, .ref (B + 15)), (1, .ref (B + 332))] rfl ?_
  refine g_aload_n hx 0 (i := 0) 0 dX1_takeBack_0 rfl rfl ?_
  refine g_get hx 1 (C := RX1) (T := TX1) (N := 3) 2 (.int (M.2.2.1 8)) (pW σ B ae M 15 (by decide)) rfl (by decide) rfl fl_X1_21 dX1_takeBack_1 ?_
  refine g_if_ne hx 4 9 dX1_takeBack_4 (by decide) (fun hc => ?_) (fun hc => ?_)
  · have hr := (if_neg hc).symm.trans hr
    obtain ⟨M1, eM1, hr⟩ := lt'_e hr
    obtain ⟨hb, hr⟩ := ob hr
    have hlt := inB_lt hb
    refine g_aload_n hx 9 (i := 0) 0 dX1_takeBack_9 rfl rfl ?_
    refine g_dup hx 10 dX1_takeBack_10 rfl ?_
    refine g_get hx 11 (C := RX1) (T := TX1) (N := 3) 2 (.int (M.2.2.1 8)) (pW σ B ae M 15 (by decide)) rfl (by decide) rfl fl_X1_21 dX1_takeBack_11 ?_
    refine g_iconst hx 14 1 dX1_takeBack_14 rfl ?_
    refine g_isub hx 15 dX1_takeBack_15 ?_
    refine g_put hx 16 (C := RX1) (T := TX1) (N := 3) 2 .int _ (pW σ B ae M 15 (by decide)) rfl (by decide) fl_X1_21 rfl rfl rfl rfl (Nat.le_of_ble_eq_true rfl) rfl dX1_takeBack_16 ?_
    refine G.heap ((pW_i8 σ B ae M (M.2.2.1 8 - 1)).trans (by rw [← eM1])) ?_
    refine g_aload_n hx 19 (i := 0) 0 dX1_takeBack_19 rfl rfl ?_
    refine g_callVr hx (c_Hi_slotBehindKept l g σ B M1 hb) lk_X1_25 ar_Hi_slotBehindKept (pW σ B ae M1 15 (by decide)) (T := TX1) (N := 3) rfl (As := []) (rest := []) rfl (Nat.le_of_ble_eq_true rfl) ⟨Nat.le_of_ble_eq_true rfl, Nat.le_of_ble_eq_true rfl⟩ ⟨rfl, rfl⟩ ⟨Nat.zero_le _, Nat.zero_le _⟩ dX1_takeBack_20 ?_
    refine g_astore_n hx 23 (i := 2) [(2, .ref (B + 17 + 35 * (hix M1).toNatClampNeg)), (0, .ref (B + 15)), (1, .ref (B + 332))] dX1_takeBack_23 rfl (by decide) rfl ?_
    refine g_aload_n hx 24 (i := 2) 0 dX1_takeBack_24 rfl rfl ?_
    refine g_ifnull hx 25 dX1_takeBack_25 ?_
    refine g_aload_n hx 28 (i := 1) 2 dX1_takeBack_28 rfl rfl ?_
    refine g_aload_n hx 29 (i := 2) 0 dX1_takeBack_29 rfl rfl ?_
    refine g_callVv hx (MG.at9 (w := M1) (c_St_copyFrom (pW_st σ B ae M1 (hix M1).toNatClampNeg (by omega)) (by omega) l g (M1.1 9) rfl)) lk_X1_29 ar_St_copyFrom ((pW_st9 σ B ae M1) 0 (by decide)) (T := TX8) (N := 15) rfl (As := [.ref (B + 17 + 35 * (hix M1).toNatClampNeg)]) (rest := []) rfl (Nat.le_of_ble_eq_true rfl) ⟨Nat.le_of_ble_eq_true rfl, Nat.le_of_ble_eq_true rfl⟩ ⟨rfl, rfl⟩ ⟨Nat.zero_le _, Nat.zero_le _⟩ dX1_takeBack_30 ?_
    refine g_iconst hx 33 1 dX1_takeBack_33 rfl ?_
    exact g_zret hx hR 34 (Or.inr rfl) dX1_takeBack_34 ⟨by rw [← Option.some.inj hr], by rw [← Option.some.inj hr]⟩
  · have hr := (if_pos hc).symm.trans hr
    refine g_iconst hx 7 0 dX1_takeBack_7 rfl ?_
    exact g_zret hx hR 8 (Or.inl rfl) dX1_takeBack_8 ⟨by rw [← Option.some.inj hr], by rw [← Option.some.inj hr]⟩
