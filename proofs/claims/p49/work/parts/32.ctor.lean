/-! the constructor of a Line -/
def md_Ln_init (N : Nat) : Md := (yX2_init, cX2_init, 2, none, 1, 60, 1, N)
theorem ar_Ln_init (N : Nat) : Arity (md_Ln_init N) 1 := ⟨by show yX2_init.cls ≠ _; decide +kernel, by show yX2_init.cls ≠ _; decide +kernel, by show (parseMethodDescriptor yX2_init.desc).map (fun d => d.parameters.length) = some 1; decide +kernel⟩
theorem ob_X2_3 : ∀ w ∈ [Cond.methodLink RX2 3 Lib.objectInit, Cond.instanceMethod Lib.objectInit, Cond.code Lib.objectInit { data := #[177] } 1 none], w ∈ aw := aw_of (by decide +kernel)
theorem fz_X2_9 : Cond.fieldLink RX2 9 (TX2 1).1 (TX2 1).2.1 (TX2 1).2.2.1 ∈ aw := aw1 (by decide +kernel)
theorem fz_X2_15 : Cond.fieldLink RX2 15 (TX2 0).1 (TX2 0).2.1 (TX2 0).2.2.1 ∈ aw := aw1 (by decide +kernel)
theorem arc_int : Cond.arrayClass .int ∈ aw := aw1 (by decide +kernel)
theorem c_Ln_init (l : Launch) (g : Gl) (τ : Hp) (N : Nat) (x : Int32) (hx0 : ¬ x < 0) (hN : x.toNatClampNeg = N) (hb : N * componentBytes .int ≤ 536870912) : MG l g (md_Ln_init N) [.ref τ.1, .int x] (hadl τ [eO 1 [.null, .int 0]]) (rs none (hadl τ [eO 1 [.ref (τ.1 + 1), .int 0], eL N []])) := by
  refine MG.intro (by show plainName yX2_init.cls = true; decide +kernel) (Nat.le_of_ble_eq_true rfl) (fun X hx hR hin => ?_)
  refine g_ls [0, 1] [(0, .ref τ.1), (1, .int x)] rfl ?_
  refine g_aload_n hx 0 (i := 0) 0 dX2_init_0 rfl rfl ?_
  refine g_obj hx 1 ob_X2_3 (Nat.le_of_ble_eq_true rfl) ⟨Nat.le_of_ble_eq_true rfl, Nat.le_of_ble_eq_true rfl⟩ dX2_init_1 ?_
  refine g_aload_n hx 4 (i := 0) 0 dX2_init_4 rfl rfl ?_
  refine g_iconst hx 5 0 dX2_init_5 rfl ?_
  refine g_put hx 6 (C := RX2) (T := TX2) (N := 2) 1 .int _ (hadl_0 τ _ []) rfl (by decide) fz_X2_9 rfl rfl rfl rfl (Nat.le_of_ble_eq_true rfl) rfl dX2_init_6 ?_
  refine G.heap (hadl_set0 τ _ _ []) ?_
  refine g_aload_n hx 9 (i := 0) 0 dX2_init_9 rfl rfl ?_
  refine g_iload_n hx 10 (i := 1) 1 dX2_init_10 rfl rfl ?_
  refine g_if_ge hx 11 18 dX2_init_11 (by decide) (fun _ => ?_) (fun hc => absurd (Int32.not_lt.mp hx0) hc)
  refine g_iload_n hx 18 (i := 1) 1 dX2_init_18 rfl rfl ?_
  refine g_newI hx 19 N arc_int hx0 hN hb ⟨Nat.le_refl 1, by show 0 + N ≤ N; omega⟩ dX2_init_19 ?_
  refine G.heap (hadl_push _ _) ?_
  refine G.heap (hadl_hadl τ _ _) ?_
  refine g_putF hx 21 (C := RX2) (T := TX2) (N := 2) 0 _ _ hin (hadl_0 τ _ _) rfl (by decide) fz_X2_15 rfl rfl rfl rfl rfl (Nat.le_of_ble_eq_true rfl) rfl dX2_init_21 ?_
  refine G.heap (hadl_set0 τ _ _ _) ?_
  refine G.cls (a := τ.1 + 1) (xs := []) (hadl_get τ _ 1 (Nat.le_refl 2)) ⟨Nat.zero_le _, fun i h => absurd h (Nat.not_lt_zero i)⟩ ?_
  refine G.heap (hadl_set τ _ 1 _ (Nat.le_refl 2)) ?_
  exact G.widen (Nat.le_refl 1) (by show 0 + N ≤ N; omega) (g_vret hx hR 24 dX2_init_24 ⟨rfl, rfl⟩)
section GB2
variable {X : Cx} {l : Launch} {g : Gl} {own : String} {cc : ByteArray} {nL : Nat} {R : Room} {σ : Hp} {k n : Nat} {ls : List (Nat × Value)} {st : List Value}
theorem g_callIv {pc idx b : Nat} {M : Md} {As rest : List Value} {σ' : Hp} (hx : Ok X l g own cc nL R) (hM : MG l g M (.ref b :: As) σ (rs none σ')) (hlk : LkI own idx M) (hrt : M.rt = none) (hnm : M.y.name = "<init>") (har : Arity M As.length) (hst : st = As.reverse ++ .ref b :: rest) (hcat : (rest.map fun v => v.category).sum ≤ 8) (hroom : M.rm.frames + 1 ≤ R.frames ∧ 8 + (M.nL + 11) + M.rm.locals ≤ R.locals) (hcs : k + M.rm.cells ≤ R.cells ∧ n + M.rm.slots ≤ R.slots) (hd : decode cc pc = .ok (.invokespecial idx, 3)) (h : G X σ' (k + M.rm.cells) (n + M.rm.slots) (pc + 3) ls rest) : G X σ k n pc ls st :=
  g_callI hx hM hlk hrt hnm har hst hcat hroom hcs hd (fun v' σ'' hp => by
    obtain ⟨rfl, rfl⟩ := hp
    exact h)
theorem g_callIZ {pc idx b : Nat} {host : String} {M : Md} {As rest : List Value} {σ' : Hp} (hx : Ok X l g own cc nL R) (hM : MG l g M (.ref b :: As) σ (rs none σ')) (hZ : ∀ U, g.2.2.2 U → va_Nw (.methodLinkNest own idx M.y host) U) (hlk : Lk M [.instanceMethod M.y]) (hrt : M.rt = none) (hnm : M.y.name = "<init>") (har : Arity M As.length) (hst : st = As.reverse ++ .ref b :: rest) (hcat : (rest.map fun v => v.category).sum ≤ 8) (hroom : M.rm.frames + 1 ≤ R.frames ∧ 8 + (M.nL + 11) + M.rm.locals ≤ R.locals) (hcs : k + M.rm.cells ≤ R.cells ∧ n + M.rm.slots ≤ R.slots) (hd : decode cc pc = .ok (.invokespecial idx, 3)) (h : G X σ' (k + M.rm.cells) (n + M.rm.slots) (pc + 3) ls rest) : G X σ k n pc ls st := by
  obtain ⟨p, l', e, R', s, m, args, below, meth, c, Q, g'⟩ := X
  obtain ⟨h1, h2, h3, h4, h5, h6, h7, h8, rfl, rfl, rfl⟩ := hx
  intro H locs la hP hS hL
  subst hst
  have cw : va_CN R' s args own idx M.y host M.b M.nL none (.code M.y M.b M.nL M.rt :: aw) M.rm M.rm.cells M.rm.slots As.length :=
    va_cnB (ws' := aw) As.length h5 (good_ws hlk) (by rw [hrt]) rfl rfl (hZ s h8.1) (h5 _ hlk.2.2) har hroom
  exact g_run (va_runIN (nL := nL) (As := As) (rest := rest) ⟨h1, h2, h3, h4, h5⟩ hM ⟨cw, hnm, h5 _ (hlk.1 _ (by simp))⟩ ⟨MGp.blind, fun U hU hW => ⟨rfl, by rw [hU]; exact hP, by rw [hU]; exact Nat.le_trans h7 hS.1, va_K.moved hW.alike h6, h8.2 _ U hW h8.1, h8.2⟩⟩ rfl rfl (by rw [← h3]; exact hL.1) rfl (lv_room hcat) hd hcs) hS hL (fun v' σ'' hp => by
    obtain ⟨rfl, rfl⟩ := hp
    exact h)
theorem g_initLn {τ : Hp} {idx N : Nat} {x : Int32} {rest : List Value} (hx : Ok X l g own cc nL R) (pc : Nat) (hlk : LkI own idx (md_Ln_init N)) (hx0 : ¬ x < 0) (hN : x.toNatClampNeg = N) (hb : N * componentBytes .int ≤ 536870912) (hcat : (rest.map fun v => v.category).sum ≤ 8) (hroom : 2 ≤ R.frames ∧ 81 ≤ R.locals) (hcs : k + 1 ≤ R.cells ∧ n + N ≤ R.slots) (hd : decode cc pc = .ok (.invokespecial idx, 3)) (h : G X (hadl τ [eO 1 [.ref (τ.1 + 1), .int 0], eL N []]) (k + 1) (n + N) (pc + 3) ls rest) : G X (hadl τ [eO 1 [.null, .int 0]]) k n pc ls (.int x :: .ref τ.1 :: rest) :=
  g_callIv hx (c_Ln_init l g τ N x hx0 hN hb) hlk rfl rfl (ar_Ln_init N) (As := [.int x]) rfl hcat hroom hcs hd h
end GB2
def nestm : List Cond := [.methodLinkNest RX10 35 yX6_init RX10, .methodLinkNest RX1 24 yX8_init RX10, .methodLinkNest RX8 52 yX7_init RX10, .methodLinkNest RX10 49 yX8_init RX10]
/-- what the constructors need of the classes -/
def KC (g : Gl) : Prop := ∀ U, g.2.2.2 U → (va_AO "SlipArchive$Stacks" U ∧ va_AO "SlipArchive$Order" U ∧ True) ∧ ∀ w ∈ nestm, va_Nw w U
theorem hadl_00 (σ : Hp) (e : Ent) (es fs : List Ent) : (hadl (hadl σ (e :: es)) fs).2 σ.1 = some e := (hadl_o _ _ (Nat.lt_add_of_pos_right (Nat.zero_lt_succ _))).trans (hadl_0 σ e es)
def E0 : StM := (fun _ => 0, fun _ => [])
def stL (S : Nat) (M : StM) : List Ent := [stE S M 0, stE S M 1, stE S M 2, stE S M 3, stE S M 4, stE S M 5, stE S M 6, stE S M 7, stE S M 8, stE S M 9, stE S M 10, stE S M 11, stE S M 12, stE S M 13, stE S M 14, stE S M 15, stE S M 16, stE S M 17, stE S M 18, stE S M 19, stE S M 20, stE S M 21, stE S M 22, stE S M 23, stE S M 24, stE S M 25, stE S M 26, stE S M 27, stE S M 28, stE S M 29, stE S M 30, stE S M 31, stE S M 32, stE S M 33, stE S M 34]
def md_Rw_init : Md := (yX5_init, cX5_init, 2, none, 2, 81, 6, 78)
def md_Sl_init : Md := (yX7_init, cX7_init, 1, none, 2, 81, 8, 72)
def md_Tk_init : Md := (yX9_init, cX9_init, 2, none, 1, 60, 0, 0)
def md_Ps_init : Md := (yX4_init, cX4_init, 2, none, 2, 81, 1, 6)
def md_Sc_init : Md := (yX6_init, cX6_init, 1, none, 2, 81, 5, 64)
def md_St_init : Md := (yX8_init, cX8_init, 1, none, 3, 102, 34, 347)
theorem ob_X5_3 : ∀ w ∈ [Cond.methodLink RX5 3 Lib.objectInit, Cond.instanceMethod Lib.objectInit, Cond.code Lib.objectInit { data := #[177] } 1 none], w ∈ aw := aw_of (by decide +kernel)
theorem nc_X5_9 : Cond.classLink RX5 9 RX2 ∈ aw := aw1 (by decide +kernel)
theorem ni_X2 : Cond.instantiable RX2 2 ∈ aw := aw1 (by decide +kernel)
theorem nz_X2 : Cond.initialized RX2 ∈ aw := aw1 (by decide +kernel)
theorem li_X5_11_24 : LkI RX5 11 (md_Ln_init 24) := lk_of (by decide +kernel)
theorem fz_X5_14 : Cond.fieldLink RX5 14 (TX5 0).1 (TX5 0).2.1 (TX5 0).2.2.1 ∈ aw := aw1 (by decide +kernel)
theorem fz_X5_20 : Cond.fieldLink RX5 20 (TX5 1).1 (TX5 1).2.1 (TX5 1).2.2.1 ∈ aw := aw1 (by decide +kernel)
theorem fz_X5_23 : Cond.fieldLink RX5 23 (TX5 2).1 (TX5 2).2.1 (TX5 2).2.2.1 ∈ aw := aw1 (by decide +kernel)
theorem fz_X5_26 : Cond.fieldLink RX5 26 (TX5 3).1 (TX5 3).2.1 (TX5 3).2.2.1 ∈ aw := aw1 (by decide +kernel)
theorem ob_X7_3 : ∀ w ∈ [Cond.methodLink RX7 3 Lib.objectInit, Cond.instanceMethod Lib.objectInit, Cond.code Lib.objectInit { data := #[177] } 1 none], w ∈ aw := aw_of (by decide +kernel)
theorem nc_X7_9 : Cond.classLink RX7 9 RX2 ∈ aw := aw1 (by decide +kernel)
theorem li_X7_11_16 : LkI RX7 11 (md_Ln_init 16) := lk_of (by decide +kernel)
theorem fz_X7_14 : Cond.fieldLink RX7 14 (TX7 0).1 (TX7 0).2.1 (TX7 0).2.2.1 ∈ aw := aw1 (by decide +kernel)
theorem fz_X7_20 : Cond.fieldLink RX7 20 (TX7 1).1 (TX7 1).2.1 (TX7 1).2.2.1 ∈ aw := aw1 (by decide +kernel)
theorem fz_X7_23 : Cond.fieldLink RX7 23 (TX7 2).1 (TX7 2).2.1 (TX7 2).2.2.1 ∈ aw := aw1 (by decide +kernel)
theorem fz_X7_26 : Cond.fieldLink RX7 26 (TX7 3).1 (TX7 3).2.1 (TX7 3).2.2.1 ∈ aw := aw1 (by decide +kernel)
theorem ob_X9_1 : ∀ w ∈ [Cond.methodLink RX9 1 Lib.objectInit, Cond.instanceMethod Lib.objectInit, Cond.code Lib.objectInit { data := #[177] } 1 none], w ∈ aw := aw_of (by decide +kernel)
theorem fz_X9_7 : Cond.fieldLink RX9 7 (TX9 1).1 (TX9 1).2.1 (TX9 1).2.2.1 ∈ aw := aw1 (by decide +kernel)
theorem fz_X9_13 : Cond.fieldLink RX9 13 (TX9 2).1 (TX9 2).2.1 (TX9 2).2.2.1 ∈ aw := aw1 (by decide +kernel)
theorem fz_X9_16 : Cond.fieldLink RX9 16 (TX9 3).1 (TX9 3).2.1 (TX9 3).2.2.1 ∈ aw := aw1 (by decide +kernel)
theorem fz_X9_19 : Cond.fieldLink RX9 19 (TX9 4).1 (TX9 4).2.1 (TX9 4).2.2.1 ∈ aw := aw1 (by decide +kernel)
theorem fz_X9_22 : Cond.fieldLink RX9 22 (TX9 5).1 (TX9 5).2.1 (TX9 5).2.2.1 ∈ aw := aw1 (by decide +kernel)
theorem fz_X9_25 : Cond.fieldLink RX9 25 (TX9 0).1 (TX9 0).2.1 (TX9 0).2.2.1 ∈ aw := aw1 (by decide +kernel)
theorem ob_X4_3 : ∀ w ∈ [Cond.methodLink RX4 3 Lib.objectInit, Cond.instanceMethod Lib.objectInit, Cond.code Lib.objectInit { data := #[177] } 1 none], w ∈ aw := aw_of (by decide +kernel)
theorem fz_X4_9 : Cond.fieldLink RX4 9 (TX4 1).1 (TX4 1).2.1 (TX4 1).2.2.1 ∈ aw := aw1 (by decide +kernel)
theorem fz_X4_15 : Cond.fieldLink RX4 15 (TX4 2).1 (TX4 2).2.1 (TX4 2).2.2.1 ∈ aw := aw1 (by decide +kernel)
theorem nc_X4_18 : Cond.classLink RX4 18 RX9 ∈ aw := aw1 (by decide +kernel)
theorem ni_X9 : Cond.instantiable RX9 6 ∈ aw := aw1 (by decide +kernel)
theorem nz_X9 : Cond.initialized RX9 ∈ aw := aw1 (by decide +kernel)
theorem li_X4_20 : LkI RX4 20 md_Tk_init := lk_of (by decide +kernel)
theorem ar_Tk_init : Arity md_Tk_init 1 := ⟨by decide +kernel, by decide +kernel, by decide +kernel⟩
theorem fz_X4_23 : Cond.fieldLink RX4 23 (TX4 0).1 (TX4 0).2.1 (TX4 0).2.2.1 ∈ aw := aw1 (by decide +kernel)
theorem ob_X6_3 : ∀ w ∈ [Cond.methodLink RX6 3 Lib.objectInit, Cond.instanceMethod Lib.objectInit, Cond.code Lib.objectInit { data := #[177] } 1 none], w ∈ aw := aw_of (by decide +kernel)
theorem na_X6_9 : Cond.classLink RX6 9 "SlipArchive$Order" ∈ aw := aw1 (by decide +kernel)
theorem fz_X6_11 : Cond.fieldLink RX6 11 (TX6 0).1 (TX6 0).2.1 (TX6 0).2.2.1 ∈ aw := aw1 (by decide +kernel)
theorem nc_X6_17 : Cond.classLink RX6 17 RX2 ∈ aw := aw1 (by decide +kernel)
theorem li_X6_19_20 : LkI RX6 19 (md_Ln_init 20) := lk_of (by decide +kernel)
theorem fz_X6_22 : Cond.fieldLink RX6 22 (TX6 1).1 (TX6 1).2.1 (TX6 1).2.2.1 ∈ aw := aw1 (by decide +kernel)
theorem fz_X6_26 : Cond.fieldLink RX6 26 (TX6 2).1 (TX6 2).2.1 (TX6 2).2.2.1 ∈ aw := aw1 (by decide +kernel)
theorem ob_X8_3 : ∀ w ∈ [Cond.methodLink RX8 3 Lib.objectInit, Cond.instanceMethod Lib.objectInit, Cond.code Lib.objectInit { data := #[177] } 1 none], w ∈ aw := aw_of (by decide +kernel)
theorem nc_X8_9 : Cond.classLink RX8 9 RX2 ∈ aw := aw1 (by decide +kernel)
theorem li_X8_11_24 : LkI RX8 11 (md_Ln_init 24) := lk_of (by decide +kernel)
theorem fz_X8_14 : Cond.fieldLink RX8 14 (TX8 4).1 (TX8 4).2.1 (TX8 4).2.2.1 ∈ aw := aw1 (by decide +kernel)
theorem fz_X8_20 : Cond.fieldLink RX8 20 (TX8 5).1 (TX8 5).2.1 (TX8 5).2.2.1 ∈ aw := aw1 (by decide +kernel)
theorem fz_X8_23 : Cond.fieldLink RX8 23 (TX8 6).1 (TX8 6).2.1 (TX8 6).2.2.1 ∈ aw := aw1 (by decide +kernel)
theorem fz_X8_26 : Cond.fieldLink RX8 26 (TX8 7).1 (TX8 7).2.1 (TX8 7).2.2.1 ∈ aw := aw1 (by decide +kernel)
theorem fz_X8_29 : Cond.fieldLink RX8 29 (TX8 8).1 (TX8 8).2.1 (TX8 8).2.2.1 ∈ aw := aw1 (by decide +kernel)
theorem li_X8_11_8 : LkI RX8 11 (md_Ln_init 8) := lk_of (by decide +kernel)
theorem fz_X8_32 : Cond.fieldLink RX8 32 (TX8 9).1 (TX8 9).2.1 (TX8 9).2.2.1 ∈ aw := aw1 (by decide +kernel)
theorem fz_X8_35 : Cond.fieldLink RX8 35 (TX8 10).1 (TX8 10).2.1 (TX8 10).2.2.1 ∈ aw := aw1 (by decide +kernel)
theorem nc_X8_38 : Cond.classLink RX8 38 RX5 ∈ aw := aw1 (by decide +kernel)
theorem ni_X5 : Cond.instantiable RX5 4 ∈ aw := aw1 (by decide +kernel)
theorem nz_X5 : Cond.initialized RX5 ∈ aw := aw1 (by decide +kernel)
theorem li_X8_40 : LkI RX8 40 md_Rw_init := lk_of (by decide +kernel)
theorem ar_Rw_init : Arity md_Rw_init 1 := ⟨by decide +kernel, by decide +kernel, by decide +kernel⟩
theorem fz_X8_43 : Cond.fieldLink RX8 43 (TX8 11).1 (TX8 11).2.1 (TX8 11).2.2.1 ∈ aw := aw1 (by decide +kernel)
theorem fz_X8_47 : Cond.fieldLink RX8 47 (TX8 12).1 (TX8 12).2.1 (TX8 12).2.2.1 ∈ aw := aw1 (by decide +kernel)
theorem nc_X8_50 : Cond.classLink RX8 50 RX7 ∈ aw := aw1 (by decide +kernel)
theorem ni_X7 : Cond.instantiable RX7 4 ∈ aw := aw1 (by decide +kernel)
theorem nz_X7 : Cond.initialized RX7 ∈ aw := aw1 (by decide +kernel)
theorem lz_md_Sl_init : Lk md_Sl_init [.instanceMethod md_Sl_init.y] := lk_of (by decide +kernel)
theorem ar_Sl_init : Arity md_Sl_init 0 := ⟨by decide +kernel, by decide +kernel, by decide +kernel⟩
theorem fz_X8_53 : Cond.fieldLink RX8 53 (TX8 13).1 (TX8 13).2.1 (TX8 13).2.2.1 ∈ aw := aw1 (by decide +kernel)
theorem li_X8_11_11 : LkI RX8 11 (md_Ln_init 11) := lk_of (by decide +kernel)
theorem fz_X8_57 : Cond.fieldLink RX8 57 (TX8 14).1 (TX8 14).2.1 (TX8 14).2.2.1 ∈ aw := aw1 (by decide +kernel)
set_option maxRecDepth 100000 in
set_option maxHeartbeats 4000000 in
theorem c_Rw_init (l : Launch) (g : Gl) (τ : Hp) (a1 : Nat) : MG l g md_Rw_init [.ref τ.1, .ref a1] (hadl τ [eO 3 [.null, .null, .null, .null]]) (rs none (hadl τ [eO 3 [.ref (τ.1 + 1), .ref (τ.1 + 3), .ref (τ.1 + 5), .ref (a1)], eO 1 [.ref (τ.1 + 2), .int 0], eL 24 [], eO 1 [.ref (τ.1 + 4), .int 0], eL 24 [], eO 1 [.ref (τ.1 + 6), .int 0], eL 24 []])) := by
  refine MG.intro (by decide +kernel) (Nat.le_of_ble_eq_true rfl) (fun X hx hR hin => ?_)
  refine g_ls [0, 1] [(0, .ref τ.1), (1, .ref a1)] rfl ?_
  refine g_aload_n hx 0 (i := 0) 0 dX5_init_0 rfl rfl ?_
  refine g_obj hx 1 ob_X5_3 (Nat.le_of_ble_eq_true rfl) ⟨Nat.le_of_ble_eq_true rfl, Nat.le_of_ble_eq_true rfl⟩ dX5_init_1 ?_
  refine g_aload_n hx 4 (i := 0) 0 dX5_init_4 rfl rfl ?_
  refine g_new hx 5 (ci := 1) (C := RX2) (T := TX2) (N := 2) [.null, .int 0] rfl nc_X5_9 ni_X2 nz_X2 (by decide) ⟨Nat.le_of_ble_eq_true rfl, Nat.le_of_ble_eq_true rfl⟩ dX5_init_5 ?_
  refine G.heap (hadl_push _ _) ?_
  refine g_dup hx 8 dX5_init_8 rfl ?_
  refine g_bipush hx 9 (24) dX5_init_9 rfl ?_
  refine g_initLn hx 11 (N := 24) li_X5_11_24 (by decide) (by decide) (by decide) (Nat.le_of_ble_eq_true rfl) ⟨Nat.le_of_ble_eq_true rfl, Nat.le_of_ble_eq_true rfl⟩ ⟨Nat.le_of_ble_eq_true rfl, Nat.le_of_ble_eq_true rfl⟩ dX5_init_11 ?_
  refine G.heap (σ' := hadl τ [eO 3 [.null, .null, .null, .null], eO 1 [.ref (τ.1 + 2), .int 0], eL 24 []]) (hadl_hadl τ _ _) ?_
  refine g_putF hx 14 (C := RX5) (T := TX5) (N := 4) 0 _ _ hin (hadl_0 τ _ _) rfl (by decide) fz_X5_14 rfl rfl rfl rfl rfl (Nat.le_of_ble_eq_true rfl) rfl dX5_init_14 ?_
  refine G.heap (σ' := hadl τ [eO 3 [.ref (τ.1 + 1), .null, .null, .null], eO 1 [.ref (τ.1 + 2), .int 0], eL 24 []]) (hadl_set0 τ _ _ _) ?_
  refine g_aload_n hx 17 (i := 0) 0 dX5_init_17 rfl rfl ?_
  refine g_new hx 18 (ci := 1) (C := RX2) (T := TX2) (N := 2) [.null, .int 0] rfl nc_X5_9 ni_X2 nz_X2 (by decide) ⟨Nat.le_of_ble_eq_true rfl, Nat.le_of_ble_eq_true rfl⟩ dX5_init_18 ?_
  refine G.heap (hadl_push _ _) ?_
  refine g_dup hx 21 dX5_init_21 rfl ?_
  refine g_bipush hx 22 (24) dX5_init_22 rfl ?_
  refine g_initLn hx 24 (N := 24) li_X5_11_24 (by decide) (by decide) (by decide) (Nat.le_of_ble_eq_true rfl) ⟨Nat.le_of_ble_eq_true rfl, Nat.le_of_ble_eq_true rfl⟩ ⟨Nat.le_of_ble_eq_true rfl, Nat.le_of_ble_eq_true rfl⟩ dX5_init_24 ?_
  refine G.heap (σ' := hadl τ [eO 3 [.ref (τ.1 + 1), .null, .null, .null], eO 1 [.ref (τ.1 + 2), .int 0], eL 24 [], eO 1 [.ref (τ.1 + 4), .int 0], eL 24 []]) (hadl_hadl τ _ _) ?_
  refine g_putF hx 27 (C := RX5) (T := TX5) (N := 4) 1 _ _ hin (hadl_0 τ _ _) rfl (by decide) fz_X5_20 rfl rfl rfl rfl rfl (Nat.le_of_ble_eq_true rfl) rfl dX5_init_27 ?_
  refine G.heap (σ' := hadl τ [eO 3 [.ref (τ.1 + 1), .ref (τ.1 + 3), .null, .null], eO 1 [.ref (τ.1 + 2), .int 0], eL 24 [], eO 1 [.ref (τ.1 + 4), .int 0], eL 24 []]) (hadl_set0 τ _ _ _) ?_
  refine g_aload_n hx 30 (i := 0) 0 dX5_init_30 rfl rfl ?_
  refine g_new hx 31 (ci := 1) (C := RX2) (T := TX2) (N := 2) [.null, .int 0] rfl nc_X5_9 ni_X2 nz_X2 (by decide) ⟨Nat.le_of_ble_eq_true rfl, Nat.le_of_ble_eq_true rfl⟩ dX5_init_31 ?_
  refine G.heap (hadl_push _ _) ?_
  refine g_dup hx 34 dX5_init_34 rfl ?_
  refine g_bipush hx 35 (24) dX5_init_35 rfl ?_
  refine g_initLn hx 37 (N := 24) li_X5_11_24 (by decide) (by decide) (by decide) (Nat.le_of_ble_eq_true rfl) ⟨Nat.le_of_ble_eq_true rfl, Nat.le_of_ble_eq_true rfl⟩ ⟨Nat.le_of_ble_eq_true rfl, Nat.le_of_ble_eq_true rfl⟩ dX5_init_37 ?_
  refine G.heap (σ' := hadl τ [eO 3 [.ref (τ.1 + 1), .ref (τ.1 + 3), .null, .null], eO 1 [.ref (τ.1 + 2), .int 0], eL 24 [], eO 1 [.ref (τ.1 + 4), .int 0], eL 24 [], eO 1 [.ref (τ.1 + 6), .int 0], eL 24 []]) (hadl_hadl τ _ _) ?_
  refine g_putF hx 40 (C := RX5) (T := TX5) (N := 4) 2 _ _ hin (hadl_0 τ _ _) rfl (by decide) fz_X5_23 rfl rfl rfl rfl rfl (Nat.le_of_ble_eq_true rfl) rfl dX5_init_40 ?_
  refine G.heap (σ' := hadl τ [eO 3 [.ref (τ.1 + 1), .ref (τ.1 + 3), .ref (τ.1 + 5), .null], eO 1 [.ref (τ.1 + 2), .int 0], eL 24 [], eO 1 [.ref (τ.1 + 4), .int 0], eL 24 [], eO 1 [.ref (τ.1 + 6), .int 0], eL 24 []]) (hadl_set0 τ _ _ _) ?_
  refine g_aload_n hx 43 (i := 0) 0 dX5_init_43 rfl rfl ?_
  refine g_aload_n hx 44 (i := 1) 1 dX5_init_44 rfl rfl ?_
  refine g_putF hx 45 (C := RX5) (T := TX5) (N := 4) 3 _ _ hin (hadl_0 τ _ _) rfl (by decide) fz_X5_26 rfl rfl rfl rfl rfl (Nat.le_of_ble_eq_true rfl) rfl dX5_init_45 ?_
  refine G.heap (σ' := hadl τ [eO 3 [.ref (τ.1 + 1), .ref (τ.1 + 3), .ref (τ.1 + 5), .ref (a1)], eO 1 [.ref (τ.1 + 2), .int 0], eL 24 [], eO 1 [.ref (τ.1 + 4), .int 0], eL 24 [], eO 1 [.ref (τ.1 + 6), .int 0], eL 24 []]) (hadl_set0 τ _ _ _) ?_
  exact g_vret hx hR 48 dX5_init_48 ⟨rfl, rfl⟩
set_option maxRecDepth 100000 in
set_option maxHeartbeats 4000000 in
theorem c_Sl_init (l : Launch) (g : Gl) (τ : Hp) : MG l g md_Sl_init [.ref τ.1] (hadl τ [eO 5 [.null, .null, .null, .null]]) (rs none (hadl τ [eO 5 [.ref (τ.1 + 1), .ref (τ.1 + 3), .ref (τ.1 + 5), .ref (τ.1 + 7)], eO 1 [.ref (τ.1 + 2), .int 0], eL 16 [], eO 1 [.ref (τ.1 + 4), .int 0], eL 16 [], eO 1 [.ref (τ.1 + 6), .int 0], eL 16 [], eO 1 [.ref (τ.1 + 8), .int 0], eL 16 []])) := by
  refine MG.intro (by decide +kernel) (Nat.le_of_ble_eq_true rfl) (fun X hx hR hin => ?_)
  refine g_ls [0] [(0, .ref τ.1)] rfl ?_
  refine g_aload_n hx 0 (i := 0) 0 dX7_init_0 rfl rfl ?_
  refine g_obj hx 1 ob_X7_3 (Nat.le_of_ble_eq_true rfl) ⟨Nat.le_of_ble_eq_true rfl, Nat.le_of_ble_eq_true rfl⟩ dX7_init_1 ?_
  refine g_aload_n hx 4 (i := 0) 0 dX7_init_4 rfl rfl ?_
  refine g_new hx 5 (ci := 1) (C := RX2) (T := TX2) (N := 2) [.null, .int 0] rfl nc_X7_9 ni_X2 nz_X2 (by decide) ⟨Nat.le_of_ble_eq_true rfl, Nat.le_of_ble_eq_true rfl⟩ dX7_init_5 ?_
  refine G.heap (hadl_push _ _) ?_
  refine g_dup hx 8 dX7_init_8 rfl ?_
  refine g_bipush hx 9 (16) dX7_init_9 rfl ?_
  refine g_initLn hx 11 (N := 16) li_X7_11_16 (by decide) (by decide) (by decide) (Nat.le_of_ble_eq_true rfl) ⟨Nat.le_of_ble_eq_true rfl, Nat.le_of_ble_eq_true rfl⟩ ⟨Nat.le_of_ble_eq_true rfl, Nat.le_of_ble_eq_true rfl⟩ dX7_init_11 ?_
  refine G.heap (σ' := hadl τ [eO 5 [.null, .null, .null, .null], eO 1 [.ref (τ.1 + 2), .int 0], eL 16 []]) (hadl_hadl τ _ _) ?_
  refine g_putF hx 14 (C := RX7) (T := TX7) (N := 4) 0 _ _ hin (hadl_0 τ _ _) rfl (by decide) fz_X7_14 rfl rfl rfl rfl rfl (Nat.le_of_ble_eq_true rfl) rfl dX7_init_14 ?_
  refine G.heap (σ' := hadl τ [eO 5 [.ref (τ.1 + 1), .null, .null, .null], eO 1 [.ref (τ.1 + 2), .int 0], eL 16 []]) (hadl_set0 τ _ _ _) ?_
  refine g_aload_n hx 17 (i := 0) 0 dX7_init_17 rfl rfl ?_
  refine g_new hx 18 (ci := 1) (C := RX2) (T := TX2) (N := 2) [.null, .int 0] rfl nc_X7_9 ni_X2 nz_X2 (by decide) ⟨Nat.le_of_ble_eq_true rfl, Nat.le_of_ble_eq_true rfl⟩ dX7_init_18 ?_
  refine G.heap (hadl_push _ _) ?_
  refine g_dup hx 21 dX7_init_21 rfl ?_
  refine g_bipush hx 22 (16) dX7_init_22 rfl ?_
  refine g_initLn hx 24 (N := 16) li_X7_11_16 (by decide) (by decide) (by decide) (Nat.le_of_ble_eq_true rfl) ⟨Nat.le_of_ble_eq_true rfl, Nat.le_of_ble_eq_true rfl⟩ ⟨Nat.le_of_ble_eq_true rfl, Nat.le_of_ble_eq_true rfl⟩ dX7_init_24 ?_
  refine G.heap (σ' := hadl τ [eO 5 [.ref (τ.1 + 1), .null, .null, .null], eO 1 [.ref (τ.1 + 2), .int 0], eL 16 [], eO 1 [.ref (τ.1 + 4), .int 0], eL 16 []]) (hadl_hadl τ _ _) ?_
  refine g_putF hx 27 (C := RX7) (T := TX7) (N := 4) 1 _ _ hin (hadl_0 τ _ _) rfl (by decide) fz_X7_20 rfl rfl rfl rfl rfl (Nat.le_of_ble_eq_true rfl) rfl dX7_init_27 ?_
  refine G.heap (σ' := hadl τ [eO 5 [.ref (τ.1 + 1), .ref (τ.1 + 3), .null, .null], eO 1 [.ref (τ.1 + 2), .int 0], eL 16 [], eO 1 [.ref (τ.1 + 4), .int 0], eL 16 []]) (hadl_set0 τ _ _ _) ?_
  refine g_aload_n hx 30 (i := 0) 0 dX7_init_30 rfl rfl ?_
  refine g_new hx 31 (ci := 1) (C := RX2) (T := TX2) (N := 2) [.null, .int 0] rfl nc_X7_9 ni_X2 nz_X2 (by decide) ⟨Nat.le_of_ble_eq_true rfl, Nat.le_of_ble_eq_true rfl⟩ dX7_init_31 ?_
  refine G.heap (hadl_push _ _) ?_
  refine g_dup hx 34 dX7_init_34 rfl ?_
  refine g_bipush hx 35 (16) dX7_init_35 rfl ?_
  refine g_initLn hx 37 (N := 16) li_X7_11_16 (by decide) (by decide) (by decide) (Nat.le_of_ble_eq_true rfl) ⟨Nat.le_of_ble_eq_true rfl, Nat.le_of_ble_eq_true rfl⟩ ⟨Nat.le_of_ble_eq_true rfl, Nat.le_of_ble_eq_true rfl⟩ dX7_init_37 ?_
  refine G.heap (σ' := hadl τ [eO 5 [.ref (τ.1 + 1), .ref (τ.1 + 3), .null, .null], eO 1 [.ref (τ.1 + 2), .int 0], eL 16 [], eO 1 [.ref (τ.1 + 4), .int 0], eL 16 [], eO 1 [.ref (τ.1 + 6), .int 0], eL 16 []]) (hadl_hadl τ _ _) ?_
  refine g_putF hx 40 (C := RX7) (T := TX7) (N := 4) 2 _ _ hin (hadl_0 τ _ _) rfl (by decide) fz_X7_23 rfl rfl rfl rfl rfl (Nat.le_of_ble_eq_true rfl) rfl dX7_init_40 ?_
  refine G.heap (σ' := hadl τ [eO 5 [.ref (τ.1 + 1), .ref (τ.1 + 3), .ref (τ.1 + 5), .null], eO 1 [.ref (τ.1 + 2), .int 0], eL 16 [], eO 1 [.ref (τ.1 + 4), .int 0], eL 16 [], eO 1 [.ref (τ.1 + 6), .int 0], eL 16 []]) (hadl_set0 τ _ _ _) ?_
  refine g_aload_n hx 43 (i := 0) 0 dX7_init_43 rfl rfl ?_
  refine g_new hx 44 (ci := 1) (C := RX2) (T := TX2) (N := 2) [.null, .int 0] rfl nc_X7_9 ni_X2 nz_X2 (by decide) ⟨Nat.le_of_ble_eq_true rfl, Nat.le_of_ble_eq_true rfl⟩ dX7_init_44 ?_
  refine G.heap (hadl_push _ _) ?_
  refine g_dup hx 47 dX7_init_47 rfl ?_
  refine g_bipush hx 48 (16) dX7_init_48 rfl ?_
  refine g_initLn hx 50 (N := 16) li_X7_11_16 (by decide) (by decide) (by decide) (Nat.le_of_ble_eq_true rfl) ⟨Nat.le_of_ble_eq_true rfl, Nat.le_of_ble_eq_true rfl⟩ ⟨Nat.le_of_ble_eq_true rfl, Nat.le_of_ble_eq_true rfl⟩ dX7_init_50 ?_
  refine G.heap (σ' := hadl τ [eO 5 [.ref (τ.1 + 1), .ref (τ.1 + 3), .ref (τ.1 + 5), .null], eO 1 [.ref (τ.1 + 2), .int 0], eL 16 [], eO 1 [.ref (τ.1 + 4), .int 0], eL 16 [], eO 1 [.ref (τ.1 + 6), .int 0], eL 16 [], eO 1 [.ref (τ.1 + 8), .int 0], eL 16 []]) (hadl_hadl τ _ _) ?_
  refine g_putF hx 53 (C := RX7) (T := TX7) (N := 4) 3 _ _ hin (hadl_0 τ _ _) rfl (by decide) fz_X7_26 rfl rfl rfl rfl rfl (Nat.le_of_ble_eq_true rfl) rfl dX7_init_53 ?_
  refine G.heap (σ' := hadl τ [eO 5 [.ref (τ.1 + 1), .ref (τ.1 + 3), .ref (τ.1 + 5), .ref (τ.1 + 7)], eO 1 [.ref (τ.1 + 2), .int 0], eL 16 [], eO 1 [.ref (τ.1 + 4), .int 0], eL 16 [], eO 1 [.ref (τ.1 + 6), .int 0], eL 16 [], eO 1 [.ref (τ.1 + 8), .int 0], eL 16 []]) (hadl_set0 τ _ _ _) ?_
  exact g_vret hx hR 56 dX7_init_56 ⟨rfl, rfl⟩
set_option maxRecDepth 100000 in
set_option maxHeartbeats 4000000 in
theorem c_Tk_init (l : Launch) (g : Gl) (τ : Hp) (a1 : Nat) : MG l g md_Tk_init [.ref τ.1, .ref a1] (hadl τ [eO 7 [.null, .int 0, .int 0, .int 0, .int 0, .int 0]]) (rs none (hadl τ [eO 7 [.ref (a1), .int 0, .int 0, .int 0, .int 0, .int 0]])) := by
  refine MG.intro (by decide +kernel) (Nat.le_of_ble_eq_true rfl) (fun X hx hR hin => ?_)
  refine g_ls [0, 1] [(0, .ref τ.1), (1, .ref a1)] rfl ?_
  refine g_aload_n hx 0 (i := 0) 0 dX9_init_0 rfl rfl ?_
  refine g_obj hx 1 ob_X9_1 (Nat.le_of_ble_eq_true rfl) ⟨Nat.le_of_ble_eq_true rfl, Nat.le_of_ble_eq_true rfl⟩ dX9_init_1 ?_
  refine g_aload_n hx 4 (i := 0) 0 dX9_init_4 rfl rfl ?_
  refine g_iconst hx 5 (0) dX9_init_5 rfl ?_
  refine g_put hx 6 (C := RX9) (T := TX9) (N := 6) 1 .int _ (hadl_0 τ _ _) rfl (by decide) fz_X9_7 rfl rfl rfl rfl (Nat.le_of_ble_eq_true rfl) rfl dX9_init_6 ?_
  refine G.heap (σ' := hadl τ [eO 7 [.null, .int 0, .int 0, .int 0, .int 0, .int 0]]) (hadl_set0 τ _ _ _) ?_
  refine g_aload_n hx 9 (i := 0) 0 dX9_init_9 rfl rfl ?_
  refine g_iconst hx 10 (0) dX9_init_10 rfl ?_
  refine g_put hx 11 (C := RX9) (T := TX9) (N := 6) 2 .int _ (hadl_0 τ _ _) rfl (by decide) fz_X9_13 rfl rfl rfl rfl (Nat.le_of_ble_eq_true rfl) rfl dX9_init_11 ?_
  refine G.heap (σ' := hadl τ [eO 7 [.null, .int 0, .int 0, .int 0, .int 0, .int 0]]) (hadl_set0 τ _ _ _) ?_
  refine g_aload_n hx 14 (i := 0) 0 dX9_init_14 rfl rfl ?_
  refine g_iconst hx 15 (0) dX9_init_15 rfl ?_
  refine g_put hx 16 (C := RX9) (T := TX9) (N := 6) 3 .int _ (hadl_0 τ _ _) rfl (by decide) fz_X9_16 rfl rfl rfl rfl (Nat.le_of_ble_eq_true rfl) rfl dX9_init_16 ?_
  refine G.heap (σ' := hadl τ [eO 7 [.null, .int 0, .int 0, .int 0, .int 0, .int 0]]) (hadl_set0 τ _ _ _) ?_
  refine g_aload_n hx 19 (i := 0) 0 dX9_init_19 rfl rfl ?_
  refine g_iconst hx 20 (0) dX9_init_20 rfl ?_
  refine g_put hx 21 (C := RX9) (T := TX9) (N := 6) 4 .int _ (hadl_0 τ _ _) rfl (by decide) fz_X9_19 rfl rfl rfl rfl (Nat.le_of_ble_eq_true rfl) rfl dX9_init_21 ?_
  refine G.heap (σ' := hadl τ [eO 7 [.null, .int 0, .int 0, .int 0, .int 0, .int 0]]) (hadl_set0 τ _ _ _) ?_
  refine g_aload_n hx 24 (i := 0) 0 dX9_init_24 rfl rfl ?_
  refine g_iconst hx 25 (0) dX9_init_25 rfl ?_
  refine g_put hx 26 (C := RX9) (T := TX9) (N := 6) 5 .int _ (hadl_0 τ _ _) rfl (by decide) fz_X9_22 rfl rfl rfl rfl (Nat.le_of_ble_eq_true rfl) rfl dX9_init_26 ?_
  refine G.heap (σ' := hadl τ [eO 7 [.null, .int 0, .int 0, .int 0, .int 0, .int 0]]) (hadl_set0 τ _ _ _) ?_
  refine g_aload_n hx 29 (i := 0) 0 dX9_init_29 rfl rfl ?_
  refine g_aload_n hx 30 (i := 1) 1 dX9_init_30 rfl rfl ?_
  refine g_putF hx 31 (C := RX9) (T := TX9) (N := 6) 0 _ _ hin (hadl_0 τ _ _) rfl (by decide) fz_X9_25 rfl rfl rfl rfl rfl (Nat.le_of_ble_eq_true rfl) rfl dX9_init_31 ?_
  refine G.heap (σ' := hadl τ [eO 7 [.ref (a1), .int 0, .int 0, .int 0, .int 0, .int 0]]) (hadl_set0 τ _ _ _) ?_
  exact g_vret hx hR 34 dX9_init_34 ⟨rfl, rfl⟩
set_option maxRecDepth 100000 in
set_option maxHeartbeats 4000000 in
theorem c_Ps_init (l : Launch) (g : Gl) (τ : Hp) (a1 : Nat) : MG l g md_Ps_init [.ref τ.1, .ref a1] (hadl τ [eO 2 [.null, .int 0, .int 0]]) (rs none (hadl τ [eO 2 [.ref (τ.1 + 1), .int 0, .int (-1)], eO 7 [.ref (a1), .int 0, .int 0, .int 0, .int 0, .int 0]])) := by
  refine MG.intro (by decide +kernel) (Nat.le_of_ble_eq_true rfl) (fun X hx hR hin => ?_)
  refine g_ls [0, 1] [(0, .ref τ.1), (1, .ref a1)] rfl ?_
  refine g_aload_n hx 0 (i := 0) 0 dX4_init_0 rfl rfl ?_
  refine g_obj hx 1 ob_X4_3 (Nat.le_of_ble_eq_true rfl) ⟨Nat.le_of_ble_eq_true rfl, Nat.le_of_ble_eq_true rfl⟩ dX4_init_1 ?_
  refine g_aload_n hx 4 (i := 0) 0 dX4_init_4 rfl rfl ?_
  refine g_iconst hx 5 (0) dX4_init_5 rfl ?_
  refine g_put hx 6 (C := RX4) (T := TX4) (N := 3) 1 .int _ (hadl_0 τ _ _) rfl (by decide) fz_X4_9 rfl rfl rfl rfl (Nat.le_of_ble_eq_true rfl) rfl dX4_init_6 ?_
  refine G.heap (σ' := hadl τ [eO 2 [.null, .int 0, .int 0]]) (hadl_set0 τ _ _ _) ?_
  refine g_aload_n hx 9 (i := 0) 0 dX4_init_9 rfl rfl ?_
  refine g_iconst hx 10 (-1) dX4_init_10 rfl ?_
  refine g_put hx 11 (C := RX4) (T := TX4) (N := 3) 2 .int _ (hadl_0 τ _ _) rfl (by decide) fz_X4_15 rfl rfl rfl rfl (Nat.le_of_ble_eq_true rfl) rfl dX4_init_11 ?_
  refine G.heap (σ' := hadl τ [eO 2 [.null, .int 0, .int (-1)]]) (hadl_set0 τ _ _ _) ?_
  refine g_aload_n hx 14 (i := 0) 0 dX4_init_14 rfl rfl ?_
  refine g_new hx 15 (ci := 7) (C := RX9) (T := TX9) (N := 6) [.null, .int 0, .int 0, .int 0, .int 0, .int 0] rfl nc_X4_18 ni_X9 nz_X9 (by decide) ⟨Nat.le_of_ble_eq_true rfl, Nat.le_of_ble_eq_true rfl⟩ dX4_init_15 ?_
  refine G.heap (hadl_push _ _) ?_
  refine g_dup hx 18 dX4_init_18 rfl ?_
  refine g_aload_n hx 19 (i := 1) 1 dX4_init_19 rfl rfl ?_
  refine g_callIv hx (c_Tk_init l g _ a1) li_X4_20 rfl rfl ar_Tk_init (As := [.ref (a1)]) rfl (Nat.le_of_ble_eq_true rfl) ⟨Nat.le_of_ble_eq_true rfl, Nat.le_of_ble_eq_true rfl⟩ ⟨Nat.le_of_ble_eq_true rfl, Nat.le_of_ble_eq_true rfl⟩ dX4_init_20 ?_
  refine G.heap (σ' := hadl τ [eO 2 [.null, .int 0, .int (-1)], eO 7 [.ref (a1), .int 0, .int 0, .int 0, .int 0, .int 0]]) (hadl_hadl τ _ _) ?_
  refine g_putF hx 23 (C := RX4) (T := TX4) (N := 3) 0 _ _ hin (hadl_0 τ _ _) rfl (by decide) fz_X4_23 rfl rfl rfl rfl rfl (Nat.le_of_ble_eq_true rfl) rfl dX4_init_23 ?_
  refine G.heap (σ' := hadl τ [eO 2 [.ref (τ.1 + 1), .int 0, .int (-1)], eO 7 [.ref (a1), .int 0, .int 0, .int 0, .int 0, .int 0]]) (hadl_set0 τ _ _ _) ?_
  exact g_vret hx hR 26 dX4_init_26 ⟨rfl, rfl⟩
set_option maxRecDepth 100000 in
set_option maxHeartbeats 4000000 in
theorem c_Sc_init (l : Launch) (g : Gl) (hA : KC g) (τ : Hp) : MG l g md_Sc_init [.ref τ.1] (hadl τ [eO 4 [.null, .null, .null]]) (rs none (hadl τ [eO 4 [.ref (τ.1 + 1), .ref (τ.1 + 2), .ref (τ.1 + 4)], eR 2 20 (fun _ => none), eO 1 [.ref (τ.1 + 3), .int 0], eL 20 [], eO 1 [.ref (τ.1 + 5), .int 0], eL 20 []])) := by
  refine MG.intro (by decide +kernel) (Nat.le_of_ble_eq_true rfl) (fun X hx hR hin => ?_)
  refine g_ls [0] [(0, .ref τ.1)] rfl ?_
  refine g_aload_n hx 0 (i := 0) 0 dX6_init_0 rfl rfl ?_
  refine g_obj hx 1 ob_X6_3 (Nat.le_of_ble_eq_true rfl) ⟨Nat.le_of_ble_eq_true rfl, Nat.le_of_ble_eq_true rfl⟩ dX6_init_1 ?_
  refine g_aload_n hx 4 (i := 0) 0 dX6_init_4 rfl rfl ?_
  refine g_bipush hx 5 (20) dX6_init_5 rfl ?_
  refine g_newR hx 7 (C := "SlipArchive$Order") 20 2 na_X6_9 (fun U hU => (hA U hU).1.2.1) rfl (by decide) (by decide) (by decide) ⟨Nat.le_of_ble_eq_true rfl, Nat.le_of_ble_eq_true rfl⟩ dX6_init_7 ?_
  refine G.heap (hadl_push _ _) ?_
  refine G.heap (σ' := hadl τ [eO 4 [.null, .null, .null], eR 2 20 (fun _ => none)]) (hadl_hadl τ _ _) ?_
  refine g_putF hx 10 (C := RX6) (T := TX6) (N := 3) 0 _ _ hin (hadl_0 τ _ _) rfl (by decide) fz_X6_11 rfl rfl rfl rfl rfl (Nat.le_of_ble_eq_true rfl) rfl dX6_init_10 ?_
  refine G.heap (σ' := hadl τ [eO 4 [.ref (τ.1 + 1), .null, .null], eR 2 20 (fun _ => none)]) (hadl_set0 τ _ _ _) ?_
  refine g_aload_n hx 13 (i := 0) 0 dX6_init_13 rfl rfl ?_
  refine g_new hx 14 (ci := 1) (C := RX2) (T := TX2) (N := 2) [.null, .int 0] rfl nc_X6_17 ni_X2 nz_X2 (by decide) ⟨Nat.le_of_ble_eq_true rfl, Nat.le_of_ble_eq_true rfl⟩ dX6_init_14 ?_
  refine G.heap (hadl_push _ _) ?_
  refine g_dup hx 17 dX6_init_17 rfl ?_
  refine g_bipush hx 18 (20) dX6_init_18 rfl ?_
  refine g_initLn hx 20 (N := 20) li_X6_19_20 (by decide) (by decide) (by decide) (Nat.le_of_ble_eq_true rfl) ⟨Nat.le_of_ble_eq_true rfl, Nat.le_of_ble_eq_true rfl⟩ ⟨Nat.le_of_ble_eq_true rfl, Nat.le_of_ble_eq_true rfl⟩ dX6_init_20 ?_
  refine G.heap (σ' := hadl τ [eO 4 [.ref (τ.1 + 1), .null, .null], eR 2 20 (fun _ => none), eO 1 [.ref (τ.1 + 3), .int 0], eL 20 []]) (hadl_hadl τ _ _) ?_
  refine g_putF hx 23 (C := RX6) (T := TX6) (N := 3) 1 _ _ hin (hadl_0 τ _ _) rfl (by decide) fz_X6_22 rfl rfl rfl rfl rfl (Nat.le_of_ble_eq_true rfl) rfl dX6_init_23 ?_
  refine G.heap (σ' := hadl τ [eO 4 [.ref (τ.1 + 1), .ref (τ.1 + 2), .null], eR 2 20 (fun _ => none), eO 1 [.ref (τ.1 + 3), .int 0], eL 20 []]) (hadl_set0 τ _ _ _) ?_
  refine g_aload_n hx 26 (i := 0) 0 dX6_init_26 rfl rfl ?_
  refine g_new hx 27 (ci := 1) (C := RX2) (T := TX2) (N := 2) [.null, .int 0] rfl nc_X6_17 ni_X2 nz_X2 (by decide) ⟨Nat.le_of_ble_eq_true rfl, Nat.le_of_ble_eq_true rfl⟩ dX6_init_27 ?_
  refine G.heap (hadl_push _ _) ?_
  refine g_dup hx 30 dX6_init_30 rfl ?_
  refine g_bipush hx 31 (20) dX6_init_31 rfl ?_
  refine g_initLn hx 33 (N := 20) li_X6_19_20 (by decide) (by decide) (by decide) (Nat.le_of_ble_eq_true rfl) ⟨Nat.le_of_ble_eq_true rfl, Nat.le_of_ble_eq_true rfl⟩ ⟨Nat.le_of_ble_eq_true rfl, Nat.le_of_ble_eq_true rfl⟩ dX6_init_33 ?_
  refine G.heap (σ' := hadl τ [eO 4 [.ref (τ.1 + 1), .ref (τ.1 + 2), .null], eR 2 20 (fun _ => none), eO 1 [.ref (τ.1 + 3), .int 0], eL 20 [], eO 1 [.ref (τ.1 + 5), .int 0], eL 20 []]) (hadl_hadl τ _ _) ?_
  refine g_putF hx 36 (C := RX6) (T := TX6) (N := 3) 2 _ _ hin (hadl_0 τ _ _) rfl (by decide) fz_X6_26 rfl rfl rfl rfl rfl (Nat.le_of_ble_eq_true rfl) rfl dX6_init_36 ?_
  refine G.heap (σ' := hadl τ [eO 4 [.ref (τ.1 + 1), .ref (τ.1 + 2), .ref (τ.1 + 4)], eR 2 20 (fun _ => none), eO 1 [.ref (τ.1 + 3), .int 0], eL 20 [], eO 1 [.ref (τ.1 + 5), .int 0], eL 20 []]) (hadl_set0 τ _ _ _) ?_
  exact g_vret hx hR 39 dX6_init_39 ⟨rfl, rfl⟩
set_option maxRecDepth 100000 in
set_option maxHeartbeats 4000000 in
theorem c_St_init (l : Launch) (g : Gl) (hA : KC g) (τ : Hp) : MG l g md_St_init [.ref τ.1] (hadl τ [eO 6 [.int 0, .int 0, .int 0, .int 0, .null, .null, .null, .null, .null, .null, .null, .null, .null, .null, .null]]) (rs none (hadl τ (stL τ.1 E0))) := by
  refine MG.intro (by decide +kernel) (Nat.le_of_ble_eq_true rfl) (fun X hx hR hin => ?_)
  refine g_ls [0] [(0, .ref τ.1)] rfl ?_
  refine g_aload_n hx 0 (i := 0) 0 dX8_init_0 rfl rfl ?_
  refine g_obj hx 1 ob_X8_3 (Nat.le_of_ble_eq_true rfl) ⟨Nat.le_of_ble_eq_true rfl, Nat.le_of_ble_eq_true rfl⟩ dX8_init_1 ?_
  refine g_aload_n hx 4 (i := 0) 0 dX8_init_4 rfl rfl ?_
  refine g_new hx 5 (ci := 1) (C := RX2) (T := TX2) (N := 2) [.null, .int 0] rfl nc_X8_9 ni_X2 nz_X2 (by decide) ⟨Nat.le_of_ble_eq_true rfl, Nat.le_of_ble_eq_true rfl⟩ dX8_init_5 ?_
  refine G.heap (hadl_push _ _) ?_
  refine g_dup hx 8 dX8_init_8 rfl ?_
  refine g_bipush hx 9 (24) dX8_init_9 rfl ?_
  refine g_initLn hx 11 (N := 24) li_X8_11_24 (by decide) (by decide) (by decide) (Nat.le_of_ble_eq_true rfl) ⟨Nat.le_of_ble_eq_true rfl, Nat.le_of_ble_eq_true rfl⟩ ⟨Nat.le_of_ble_eq_true rfl, Nat.le_of_ble_eq_true rfl⟩ dX8_init_11 ?_
  refine G.heap (σ' := hadl τ [eO 6 [.int 0, .int 0, .int 0, .int 0, .null, .null, .null, .null, .null, .null, .null, .null, .null, .null, .null], eO 1 [.ref (τ.1 + 2), .int 0], eL 24 []]) (hadl_hadl τ _ _) ?_
  refine g_putF hx 14 (C := RX8) (T := TX8) (N := 15) 4 _ _ hin (hadl_0 τ _ _) rfl (by decide) fz_X8_14 rfl rfl rfl rfl rfl (Nat.le_of_ble_eq_true rfl) rfl dX8_init_14 ?_
  refine G.heap (σ' := hadl τ [eO 6 [.int 0, .int 0, .int 0, .int 0, .ref (τ.1 + 1), .null, .null, .null, .null, .null, .null, .null, .null, .null, .null], eO 1 [.ref (τ.1 + 2), .int 0], eL 24 []]) (hadl_set0 τ _ _ _) ?_
  refine g_aload_n hx 17 (i := 0) 0 dX8_init_17 rfl rfl ?_
  refine g_new hx 18 (ci := 1) (C := RX2) (T := TX2) (N := 2) [.null, .int 0] rfl nc_X8_9 ni_X2 nz_X2 (by decide) ⟨Nat.le_of_ble_eq_true rfl, Nat.le_of_ble_eq_true rfl⟩ dX8_init_18 ?_
  refine G.heap (hadl_push _ _) ?_
  refine g_dup hx 21 dX8_init_21 rfl ?_
  refine g_bipush hx 22 (24) dX8_init_22 rfl ?_
  refine g_initLn hx 24 (N := 24) li_X8_11_24 (by decide) (by decide) (by decide) (Nat.le_of_ble_eq_true rfl) ⟨Nat.le_of_ble_eq_true rfl, Nat.le_of_ble_eq_true rfl⟩ ⟨Nat.le_of_ble_eq_true rfl, Nat.le_of_ble_eq_true rfl⟩ dX8_init_24 ?_
  refine G.heap (σ' := hadl τ [eO 6 [.int 0, .int 0, .int 0, .int 0, .ref (τ.1 + 1), .null, .null, .null, .null, .null, .null, .null, .null, .null, .null], eO 1 [.ref (τ.1 + 2), .int 0], eL 24 [], eO 1 [.ref (τ.1 + 4), .int 0], eL 24 []]) (hadl_hadl τ _ _) ?_
  refine g_putF hx 27 (C := RX8) (T := TX8) (N := 15) 5 _ _ hin (hadl_0 τ _ _) rfl (by decide) fz_X8_20 rfl rfl rfl rfl rfl (Nat.le_of_ble_eq_true rfl) rfl dX8_init_27 ?_
  refine G.heap (σ' := hadl τ [eO 6 [.int 0, .int 0, .int 0, .int 0, .ref (τ.1 + 1), .ref (τ.1 + 3), .null, .null, .null, .null, .null, .null, .null, .null, .null], eO 1 [.ref (τ.1 + 2), .int 0], eL 24 [], eO 1 [.ref (τ.1 + 4), .int 0], eL 24 []]) (hadl_set0 τ _ _ _) ?_
  refine g_aload_n hx 30 (i := 0) 0 dX8_init_30 rfl rfl ?_
  refine g_new hx 31 (ci := 1) (C := RX2) (T := TX2) (N := 2) [.null, .int 0] rfl nc_X8_9 ni_X2 nz_X2 (by decide) ⟨Nat.le_of_ble_eq_true rfl, Nat.le_of_ble_eq_true rfl⟩ dX8_init_31 ?_
  refine G.heap (hadl_push _ _) ?_
  refine g_dup hx 34 dX8_init_34 rfl ?_
  refine g_bipush hx 35 (24) dX8_init_35 rfl ?_
  refine g_initLn hx 37 (N := 24) li_X8_11_24 (by decide) (by decide) (by decide) (Nat.le_of_ble_eq_true rfl) ⟨Nat.le_of_ble_eq_true rfl, Nat.le_of_ble_eq_true rfl⟩ ⟨Nat.le_of_ble_eq_true rfl, Nat.le_of_ble_eq_true rfl⟩ dX8_init_37 ?_
  refine G.heap (σ' := hadl τ [eO 6 [.int 0, .int 0, .int 0, .int 0, .ref (τ.1 + 1), .ref (τ.1 + 3), .null, .null, .null, .null, .null, .null, .null, .null, .null], eO 1 [.ref (τ.1 + 2), .int 0], eL 24 [], eO 1 [.ref (τ.1 + 4), .int 0], eL 24 [], eO 1 [.ref (τ.1 + 6), .int 0], eL 24 []]) (hadl_hadl τ _ _) ?_
  refine g_putF hx 40 (C := RX8) (T := TX8) (N := 15) 6 _ _ hin (hadl_0 τ _ _) rfl (by decide) fz_X8_23 rfl rfl rfl rfl rfl (Nat.le_of_ble_eq_true rfl) rfl dX8_init_40 ?_
  refine G.heap (σ' := hadl τ [eO 6 [.int 0, .int 0, .int 0, .int 0, .ref (τ.1 + 1), .ref (τ.1 + 3), .ref (τ.1 + 5), .null, .null, .null, .null, .null, .null, .null, .null], eO 1 [.ref (τ.1 + 2), .int 0], eL 24 [], eO 1 [.ref (τ.1 + 4), .int 0], eL 24 [], eO 1 [.ref (τ.1 + 6), .int 0], eL 24 []]) (hadl_set0 τ _ _ _) ?_
  refine g_aload_n hx 43 (i := 0) 0 dX8_init_43 rfl rfl ?_
  refine g_new hx 44 (ci := 1) (C := RX2) (T := TX2) (N := 2) [.null, .int 0] rfl nc_X8_9 ni_X2 nz_X2 (by decide) ⟨Nat.le_of_ble_eq_true rfl, Nat.le_of_ble_eq_true rfl⟩ dX8_init_44 ?_
  refine G.heap (hadl_push _ _) ?_
  refine g_dup hx 47 dX8_init_47 rfl ?_
  refine g_bipush hx 48 (24) dX8_init_48 rfl ?_
  refine g_initLn hx 50 (N := 24) li_X8_11_24 (by decide) (by decide) (by decide) (Nat.le_of_ble_eq_true rfl) ⟨Nat.le_of_ble_eq_true rfl, Nat.le_of_ble_eq_true rfl⟩ ⟨Nat.le_of_ble_eq_true rfl, Nat.le_of_ble_eq_true rfl⟩ dX8_init_50 ?_
  refine G.heap (σ' := hadl τ [eO 6 [.int 0, .int 0, .int 0, .int 0, .ref (τ.1 + 1), .ref (τ.1 + 3), .ref (τ.1 + 5), .null, .null, .null, .null, .null, .null, .null, .null], eO 1 [.ref (τ.1 + 2), .int 0], eL 24 [], eO 1 [.ref (τ.1 + 4), .int 0], eL 24 [], eO 1 [.ref (τ.1 + 6), .int 0], eL 24 [], eO 1 [.ref (τ.1 + 8), .int 0], eL 24 []]) (hadl_hadl τ _ _) ?_
  refine g_putF hx 53 (C := RX8) (T := TX8) (N := 15) 7 _ _ hin (hadl_0 τ _ _) rfl (by decide) fz_X8_26 rfl rfl rfl rfl rfl (Nat.le_of_ble_eq_true rfl) rfl dX8_init_53 ?_
  refine G.heap (σ' := hadl τ [eO 6 [.int 0, .int 0, .int 0, .int 0, .ref (τ.1 + 1), .ref (τ.1 + 3), .ref (τ.1 + 5), .ref (τ.1 + 7), .null, .null, .null, .null, .null, .null, .null], eO 1 [.ref (τ.1 + 2), .int 0], eL 24 [], eO 1 [.ref (τ.1 + 4), .int 0], eL 24 [], eO 1 [.ref (τ.1 + 6), .int 0], eL 24 [], eO 1 [.ref (τ.1 + 8), .int 0], eL 24 []]) (hadl_set0 τ _ _ _) ?_
  refine g_aload_n hx 56 (i := 0) 0 dX8_init_56 rfl rfl ?_
  refine g_new hx 57 (ci := 1) (C := RX2) (T := TX2) (N := 2) [.null, .int 0] rfl nc_X8_9 ni_X2 nz_X2 (by decide) ⟨Nat.le_of_ble_eq_true rfl, Nat.le_of_ble_eq_true rfl⟩ dX8_init_57 ?_
  refine G.heap (hadl_push _ _) ?_
  refine g_dup hx 60 dX8_init_60 rfl ?_
  refine g_bipush hx 61 (24) dX8_init_61 rfl ?_
  refine g_initLn hx 63 (N := 24) li_X8_11_24 (by decide) (by decide) (by decide) (Nat.le_of_ble_eq_true rfl) ⟨Nat.le_of_ble_eq_true rfl, Nat.le_of_ble_eq_true rfl⟩ ⟨Nat.le_of_ble_eq_true rfl, Nat.le_of_ble_eq_true rfl⟩ dX8_init_63 ?_
  refine G.heap (σ' := hadl τ [eO 6 [.int 0, .int 0, .int 0, .int 0, .ref (τ.1 + 1), .ref (τ.1 + 3), .ref (τ.1 + 5), .ref (τ.1 + 7), .null, .null, .null, .null, .null, .null, .null], eO 1 [.ref (τ.1 + 2), .int 0], eL 24 [], eO 1 [.ref (τ.1 + 4), .int 0], eL 24 [], eO 1 [.ref (τ.1 + 6), .int 0], eL 24 [], eO 1 [.ref (τ.1 + 8), .int 0], eL 24 [], eO 1 [.ref (τ.1 + 10), .int 0], eL 24 []]) (hadl_hadl τ _ _) ?_
  refine g_putF hx 66 (C := RX8) (T := TX8) (N := 15) 8 _ _ hin (hadl_0 τ _ _) rfl (by decide) fz_X8_29 rfl rfl rfl rfl rfl (Nat.le_of_ble_eq_true rfl) rfl dX8_init_66 ?_
  refine G.heap (σ' := hadl τ [eO 6 [.int 0, .int 0, .int 0, .int 0, .ref (τ.1 + 1), .ref (τ.1 + 3), .ref (τ.1 + 5), .ref (τ.1 + 7), .ref (τ.1 + 9), .null, .null, .null, .null, .null, .null], eO 1 [.ref (τ.1 + 2), .int 0], eL 24 [], eO 1 [.ref (τ.1 + 4), .int 0], eL 24 [], eO 1 [.ref (τ.1 + 6), .int 0], eL 24 [], eO 1 [.ref (τ.1 + 8), .int 0], eL 24 [], eO 1 [.ref (τ.1 + 10), .int 0], eL 24 []]) (hadl_set0 τ _ _ _) ?_
  refine g_aload_n hx 69 (i := 0) 0 dX8_init_69 rfl rfl ?_
  refine g_new hx 70 (ci := 1) (C := RX2) (T := TX2) (N := 2) [.null, .int 0] rfl nc_X8_9 ni_X2 nz_X2 (by decide) ⟨Nat.le_of_ble_eq_true rfl, Nat.le_of_ble_eq_true rfl⟩ dX8_init_70 ?_
  refine G.heap (hadl_push _ _) ?_
  refine g_dup hx 73 dX8_init_73 rfl ?_
  refine g_bipush hx 74 (8) dX8_init_74 rfl ?_
  refine g_initLn hx 76 (N := 8) li_X8_11_8 (by decide) (by decide) (by decide) (Nat.le_of_ble_eq_true rfl) ⟨Nat.le_of_ble_eq_true rfl, Nat.le_of_ble_eq_true rfl⟩ ⟨Nat.le_of_ble_eq_true rfl, Nat.le_of_ble_eq_true rfl⟩ dX8_init_76 ?_
  refine G.heap (σ' := hadl τ [eO 6 [.int 0, .int 0, .int 0, .int 0, .ref (τ.1 + 1), .ref (τ.1 + 3), .ref (τ.1 + 5), .ref (τ.1 + 7), .ref (τ.1 + 9), .null, .null, .null, .null, .null, .null], eO 1 [.ref (τ.1 + 2), .int 0], eL 24 [], eO 1 [.ref (τ.1 + 4), .int 0], eL 24 [], eO 1 [.ref (τ.1 + 6), .int 0], eL 24 [], eO 1 [.ref (τ.1 + 8), .int 0], eL 24 [], eO 1 [.ref (τ.1 + 10), .int 0], eL 24 [], eO 1 [.ref (τ.1 + 12), .int 0], eL 8 []]) (hadl_hadl τ _ _) ?_
  refine g_putF hx 79 (C := RX8) (T := TX8) (N := 15) 9 _ _ hin (hadl_0 τ _ _) rfl (by decide) fz_X8_32 rfl rfl rfl rfl rfl (Nat.le_of_ble_eq_true rfl) rfl dX8_init_79 ?_
  refine G.heap (σ' := hadl τ [eO 6 [.int 0, .int 0, .int 0, .int 0, .ref (τ.1 + 1), .ref (τ.1 + 3), .ref (τ.1 + 5), .ref (τ.1 + 7), .ref (τ.1 + 9), .ref (τ.1 + 11), .null, .null, .null, .null, .null], eO 1 [.ref (τ.1 + 2), .int 0], eL 24 [], eO 1 [.ref (τ.1 + 4), .int 0], eL 24 [], eO 1 [.ref (τ.1 + 6), .int 0], eL 24 [], eO 1 [.ref (τ.1 + 8), .int 0], eL 24 [], eO 1 [.ref (τ.1 + 10), .int 0], eL 24 [], eO 1 [.ref (τ.1 + 12), .int 0], eL 8 []]) (hadl_set0 τ _ _ _) ?_
  refine g_aload_n hx 82 (i := 0) 0 dX8_init_82 rfl rfl ?_
  refine g_new hx 83 (ci := 1) (C := RX2) (T := TX2) (N := 2) [.null, .int 0] rfl nc_X8_9 ni_X2 nz_X2 (by decide) ⟨Nat.le_of_ble_eq_true rfl, Nat.le_of_ble_eq_true rfl⟩ dX8_init_83 ?_
  refine G.heap (hadl_push _ _) ?_
  refine g_dup hx 86 dX8_init_86 rfl ?_
  refine g_bipush hx 87 (8) dX8_init_87 rfl ?_
  refine g_initLn hx 89 (N := 8) li_X8_11_8 (by decide) (by decide) (by decide) (Nat.le_of_ble_eq_true rfl) ⟨Nat.le_of_ble_eq_true rfl, Nat.le_of_ble_eq_true rfl⟩ ⟨Nat.le_of_ble_eq_true rfl, Nat.le_of_ble_eq_true rfl⟩ dX8_init_89 ?_
  refine G.heap (σ' := hadl τ [eO 6 [.int 0, .int 0, .int 0, .int 0, .ref (τ.1 + 1), .ref (τ.1 + 3), .ref (τ.1 + 5), .ref (τ.1 + 7), .ref (τ.1 + 9), .ref (τ.1 + 11), .null, .null, .null, .null, .null], eO 1 [.ref (τ.1 + 2), .int 0], eL 24 [], eO 1 [.ref (τ.1 + 4), .int 0], eL 24 [], eO 1 [.ref (τ.1 + 6), .int 0], eL 24 [], eO 1 [.ref (τ.1 + 8), .int 0], eL 24 [], eO 1 [.ref (τ.1 + 10), .int 0], eL 24 [], eO 1 [.ref (τ.1 + 12), .int 0], eL 8 [], eO 1 [.ref (τ.1 + 14), .int 0], eL 8 []]) (hadl_hadl τ _ _) ?_
  refine g_putF hx 92 (C := RX8) (T := TX8) (N := 15) 10 _ _ hin (hadl_0 τ _ _) rfl (by decide) fz_X8_35 rfl rfl rfl rfl rfl (Nat.le_of_ble_eq_true rfl) rfl dX8_init_92 ?_
  refine G.heap (σ' := hadl τ [eO 6 [.int 0, .int 0, .int 0, .int 0, .ref (τ.1 + 1), .ref (τ.1 + 3), .ref (τ.1 + 5), .ref (τ.1 + 7), .ref (τ.1 + 9), .ref (τ.1 + 11), .ref (τ.1 + 13), .null, .null, .null, .null], eO 1 [.ref (τ.1 + 2), .int 0], eL 24 [], eO 1 [.ref (τ.1 + 4), .int 0], eL 24 [], eO 1 [.ref (τ.1 + 6), .int 0], eL 24 [], eO 1 [.ref (τ.1 + 8), .int 0], eL 24 [], eO 1 [.ref (τ.1 + 10), .int 0], eL 24 [], eO 1 [.ref (τ.1 + 12), .int 0], eL 8 [], eO 1 [.ref (τ.1 + 14), .int 0], eL 8 []]) (hadl_set0 τ _ _ _) ?_
  refine g_aload_n hx 95 (i := 0) 0 dX8_init_95 rfl rfl ?_
  refine g_new hx 96 (ci := 3) (C := RX5) (T := TX5) (N := 4) [.null, .null, .null, .null] rfl nc_X8_38 ni_X5 nz_X5 (by decide) ⟨Nat.le_of_ble_eq_true rfl, Nat.le_of_ble_eq_true rfl⟩ dX8_init_96 ?_
  refine G.heap (hadl_push _ _) ?_
  refine g_dup hx 99 dX8_init_99 rfl ?_
  refine g_aload_n hx 100 (i := 0) 0 dX8_init_100 rfl rfl ?_
  refine g_get hx 101 (C := RX8) (T := TX8) (N := 15) 4 (.ref (τ.1 + 1)) (hadl_00 τ _ _ _) rfl (by decide) rfl fz_X8_14 dX8_init_101 ?_
  refine g_callIv hx (c_Rw_init l g _ (τ.1 + 1)) li_X8_40 rfl rfl ar_Rw_init (As := [.ref (τ.1 + 1)]) rfl (Nat.le_of_ble_eq_true rfl) ⟨Nat.le_of_ble_eq_true rfl, Nat.le_of_ble_eq_true rfl⟩ ⟨Nat.le_of_ble_eq_true rfl, Nat.le_of_ble_eq_true rfl⟩ dX8_init_104 ?_
  refine G.heap (σ' := hadl τ [eO 6 [.int 0, .int 0, .int 0, .int 0, .ref (τ.1 + 1), .ref (τ.1 + 3), .ref (τ.1 + 5), .ref (τ.1 + 7), .ref (τ.1 + 9), .ref (τ.1 + 11), .ref (τ.1 + 13), .null, .null, .null, .null], eO 1 [.ref (τ.1 + 2), .int 0], eL 24 [], eO 1 [.ref (τ.1 + 4), .int 0], eL 24 [], eO 1 [.ref (τ.1 + 6), .int 0], eL 24 [], eO 1 [.ref (τ.1 + 8), .int 0], eL 24 [], eO 1 [.ref (τ.1 + 10), .int 0], eL 24 [], eO 1 [.ref (τ.1 + 12), .int 0], eL 8 [], eO 1 [.ref (τ.1 + 14), .int 0], eL 8 [], eO 3 [.ref (τ.1 + 16), .ref (τ.1 + 18), .ref (τ.1 + 20), .ref (τ.1 + 1)], eO 1 [.ref (τ.1 + 17), .int 0], eL 24 [], eO 1 [.ref (τ.1 + 19), .int 0], eL 24 [], eO 1 [.ref (τ.1 + 21), .int 0], eL 24 []]) (hadl_hadl τ _ _) ?_
  refine g_putF hx 107 (C := RX8) (T := TX8) (N := 15) 11 _ _ hin (hadl_0 τ _ _) rfl (by decide) fz_X8_43 rfl rfl rfl rfl rfl (Nat.le_of_ble_eq_true rfl) rfl dX8_init_107 ?_
  refine G.heap (σ' := hadl τ [eO 6 [.int 0, .int 0, .int 0, .int 0, .ref (τ.1 + 1), .ref (τ.1 + 3), .ref (τ.1 + 5), .ref (τ.1 + 7), .ref (τ.1 + 9), .ref (τ.1 + 11), .ref (τ.1 + 13), .ref (τ.1 + 15), .null, .null, .null], eO 1 [.ref (τ.1 + 2), .int 0], eL 24 [], eO 1 [.ref (τ.1 + 4), .int 0], eL 24 [], eO 1 [.ref (τ.1 + 6), .int 0], eL 24 [], eO 1 [.ref (τ.1 + 8), .int 0], eL 24 [], eO 1 [.ref (τ.1 + 10), .int 0], eL 24 [], eO 1 [.ref (τ.1 + 12), .int 0], eL 8 [], eO 1 [.ref (τ.1 + 14), .int 0], eL 8 [], eO 3 [.ref (τ.1 + 16), .ref (τ.1 + 18), .ref (τ.1 + 20), .ref (τ.1 + 1)], eO 1 [.ref (τ.1 + 17), .int 0], eL 24 [], eO 1 [.ref (τ.1 + 19), .int 0], eL 24 [], eO 1 [.ref (τ.1 + 21), .int 0], eL 24 []]) (hadl_set0 τ _ _ _) ?_
  refine g_aload_n hx 110 (i := 0) 0 dX8_init_110 rfl rfl ?_
  refine g_new hx 111 (ci := 1) (C := RX2) (T := TX2) (N := 2) [.null, .int 0] rfl nc_X8_9 ni_X2 nz_X2 (by decide) ⟨Nat.le_of_ble_eq_true rfl, Nat.le_of_ble_eq_true rfl⟩ dX8_init_111 ?_
  refine G.heap (hadl_push _ _) ?_
  refine g_dup hx 114 dX8_init_114 rfl ?_
  refine g_bipush hx 115 (24) dX8_init_115 rfl ?_
  refine g_initLn hx 117 (N := 24) li_X8_11_24 (by decide) (by decide) (by decide) (Nat.le_of_ble_eq_true rfl) ⟨Nat.le_of_ble_eq_true rfl, Nat.le_of_ble_eq_true rfl⟩ ⟨Nat.le_of_ble_eq_true rfl, Nat.le_of_ble_eq_true rfl⟩ dX8_init_117 ?_
  refine G.heap (σ' := hadl τ [eO 6 [.int 0, .int 0, .int 0, .int 0, .ref (τ.1 + 1), .ref (τ.1 + 3), .ref (τ.1 + 5), .ref (τ.1 + 7), .ref (τ.1 + 9), .ref (τ.1 + 11), .ref (τ.1 + 13), .ref (τ.1 + 15), .null, .null, .null], eO 1 [.ref (τ.1 + 2), .int 0], eL 24 [], eO 1 [.ref (τ.1 + 4), .int 0], eL 24 [], eO 1 [.ref (τ.1 + 6), .int 0], eL 24 [], eO 1 [.ref (τ.1 + 8), .int 0], eL 24 [], eO 1 [.ref (τ.1 + 10), .int 0], eL 24 [], eO 1 [.ref (τ.1 + 12), .int 0], eL 8 [], eO 1 [.ref (τ.1 + 14), .int 0], eL 8 [], eO 3 [.ref (τ.1 + 16), .ref (τ.1 + 18), .ref (τ.1 + 20), .ref (τ.1 + 1)], eO 1 [.ref (τ.1 + 17), .int 0], eL 24 [], eO 1 [.ref (τ.1 + 19), .int 0], eL 24 [], eO 1 [.ref (τ.1 + 21), .int 0], eL 24 [], eO 1 [.ref (τ.1 + 23), .int 0], eL 24 []]) (hadl_hadl τ _ _) ?_
  refine g_putF hx 120 (C := RX8) (T := TX8) (N := 15) 12 _ _ hin (hadl_0 τ _ _) rfl (by decide) fz_X8_47 rfl rfl rfl rfl rfl (Nat.le_of_ble_eq_true rfl) rfl dX8_init_120 ?_
  refine G.heap (σ' := hadl τ [eO 6 [.int 0, .int 0, .int 0, .int 0, .ref (τ.1 + 1), .ref (τ.1 + 3), .ref (τ.1 + 5), .ref (τ.1 + 7), .ref (τ.1 + 9), .ref (τ.1 + 11), .ref (τ.1 + 13), .ref (τ.1 + 15), .ref (τ.1 + 22), .null, .null], eO 1 [.ref (τ.1 + 2), .int 0], eL 24 [], eO 1 [.ref (τ.1 + 4), .int 0], eL 24 [], eO 1 [.ref (τ.1 + 6), .int 0], eL 24 [], eO 1 [.ref (τ.1 + 8), .int 0], eL 24 [], eO 1 [.ref (τ.1 + 10), .int 0], eL 24 [], eO 1 [.ref (τ.1 + 12), .int 0], eL 8 [], eO 1 [.ref (τ.1 + 14), .int 0], eL 8 [], eO 3 [.ref (τ.1 + 16), .ref (τ.1 + 18), .ref (τ.1 + 20), .ref (τ.1 + 1)], eO 1 [.ref (τ.1 + 17), .int 0], eL 24 [], eO 1 [.ref (τ.1 + 19), .int 0], eL 24 [], eO 1 [.ref (τ.1 + 21), .int 0], eL 24 [], eO 1 [.ref (τ.1 + 23), .int 0], eL 24 []]) (hadl_set0 τ _ _ _) ?_
  refine g_aload_n hx 123 (i := 0) 0 dX8_init_123 rfl rfl ?_
  refine g_new hx 124 (ci := 5) (C := RX7) (T := TX7) (N := 4) [.null, .null, .null, .null] rfl nc_X8_50 ni_X7 nz_X7 (by decide) ⟨Nat.le_of_ble_eq_true rfl, Nat.le_of_ble_eq_true rfl⟩ dX8_init_124 ?_
  refine G.heap (hadl_push _ _) ?_
  refine g_dup hx 127 dX8_init_127 rfl ?_
  refine g_callIZ hx (c_Sl_init l g _) (fun U hU => (hA U hU).2 _ (List.mem_of_getElem? (i := 2) rfl)) lz_md_Sl_init rfl rfl ar_Sl_init (As := []) rfl (Nat.le_of_ble_eq_true rfl) ⟨Nat.le_of_ble_eq_true rfl, Nat.le_of_ble_eq_true rfl⟩ ⟨Nat.le_of_ble_eq_true rfl, Nat.le_of_ble_eq_true rfl⟩ dX8_init_128 ?_
  refine G.heap (σ' := hadl τ [eO 6 [.int 0, .int 0, .int 0, .int 0, .ref (τ.1 + 1), .ref (τ.1 + 3), .ref (τ.1 + 5), .ref (τ.1 + 7), .ref (τ.1 + 9), .ref (τ.1 + 11), .ref (τ.1 + 13), .ref (τ.1 + 15), .ref (τ.1 + 22), .null, .null], eO 1 [.ref (τ.1 + 2), .int 0], eL 24 [], eO 1 [.ref (τ.1 + 4), .int 0], eL 24 [], eO 1 [.ref (τ.1 + 6), .int 0], eL 24 [], eO 1 [.ref (τ.1 + 8), .int 0], eL 24 [], eO 1 [.ref (τ.1 + 10), .int 0], eL 24 [], eO 1 [.ref (τ.1 + 12), .int 0], eL 8 [], eO 1 [.ref (τ.1 + 14), .int 0], eL 8 [], eO 3 [.ref (τ.1 + 16), .ref (τ.1 + 18), .ref (τ.1 + 20), .ref (τ.1 + 1)], eO 1 [.ref (τ.1 + 17), .int 0], eL 24 [], eO 1 [.ref (τ.1 + 19), .int 0], eL 24 [], eO 1 [.ref (τ.1 + 21), .int 0], eL 24 [], eO 1 [.ref (τ.1 + 23), .int 0], eL 24 [], eO 5 [.ref (τ.1 + 25), .ref (τ.1 + 27), .ref (τ.1 + 29), .ref (τ.1 + 31)], eO 1 [.ref (τ.1 + 26), .int 0], eL 16 [], eO 1 [.ref (τ.1 + 28), .int 0], eL 16 [], eO 1 [.ref (τ.1 + 30), .int 0], eL 16 [], eO 1 [.ref (τ.1 + 32), .int 0], eL 16 []]) (hadl_hadl τ _ _) ?_
  refine g_putF hx 131 (C := RX8) (T := TX8) (N := 15) 13 _ _ hin (hadl_0 τ _ _) rfl (by decide) fz_X8_53 rfl rfl rfl rfl rfl (Nat.le_of_ble_eq_true rfl) rfl dX8_init_131 ?_
  refine G.heap (σ' := hadl τ [eO 6 [.int 0, .int 0, .int 0, .int 0, .ref (τ.1 + 1), .ref (τ.1 + 3), .ref (τ.1 + 5), .ref (τ.1 + 7), .ref (τ.1 + 9), .ref (τ.1 + 11), .ref (τ.1 + 13), .ref (τ.1 + 15), .ref (τ.1 + 22), .ref (τ.1 + 24), .null], eO 1 [.ref (τ.1 + 2), .int 0], eL 24 [], eO 1 [.ref (τ.1 + 4), .int 0], eL 24 [], eO 1 [.ref (τ.1 + 6), .int 0], eL 24 [], eO 1 [.ref (τ.1 + 8), .int 0], eL 24 [], eO 1 [.ref (τ.1 + 10), .int 0], eL 24 [], eO 1 [.ref (τ.1 + 12), .int 0], eL 8 [], eO 1 [.ref (τ.1 + 14), .int 0], eL 8 [], eO 3 [.ref (τ.1 + 16), .ref (τ.1 + 18), .ref (τ.1 + 20), .ref (τ.1 + 1)], eO 1 [.ref (τ.1 + 17), .int 0], eL 24 [], eO 1 [.ref (τ.1 + 19), .int 0], eL 24 [], eO 1 [.ref (τ.1 + 21), .int 0], eL 24 [], eO 1 [.ref (τ.1 + 23), .int 0], eL 24 [], eO 5 [.ref (τ.1 + 25), .ref (τ.1 + 27), .ref (τ.1 + 29), .ref (τ.1 + 31)], eO 1 [.ref (τ.1 + 26), .int 0], eL 16 [], eO 1 [.ref (τ.1 + 28), .int 0], eL 16 [], eO 1 [.ref (τ.1 + 30), .int 0], eL 16 [], eO 1 [.ref (τ.1 + 32), .int 0], eL 16 []]) (hadl_set0 τ _ _ _) ?_
  refine g_aload_n hx 134 (i := 0) 0 dX8_init_134 rfl rfl ?_
  refine g_new hx 135 (ci := 1) (C := RX2) (T := TX2) (N := 2) [.null, .int 0] rfl nc_X8_9 ni_X2 nz_X2 (by decide) ⟨Nat.le_of_ble_eq_true rfl, Nat.le_of_ble_eq_true rfl⟩ dX8_init_135 ?_
  refine G.heap (hadl_push _ _) ?_
  refine g_dup hx 138 dX8_init_138 rfl ?_
  refine g_bipush hx 139 (11) dX8_init_139 rfl ?_
  refine g_initLn hx 141 (N := 11) li_X8_11_11 (by decide) (by decide) (by decide) (Nat.le_of_ble_eq_true rfl) ⟨Nat.le_of_ble_eq_true rfl, Nat.le_of_ble_eq_true rfl⟩ ⟨Nat.le_of_ble_eq_true rfl, Nat.le_of_ble_eq_true rfl⟩ dX8_init_141 ?_
  refine G.heap (σ' := hadl τ [eO 6 [.int 0, .int 0, .int 0, .int 0, .ref (τ.1 + 1), .ref (τ.1 + 3), .ref (τ.1 + 5), .ref (τ.1 + 7), .ref (τ.1 + 9), .ref (τ.1 + 11), .ref (τ.1 + 13), .ref (τ.1 + 15), .ref (τ.1 + 22), .ref (τ.1 + 24), .null], eO 1 [.ref (τ.1 + 2), .int 0], eL 24 [], eO 1 [.ref (τ.1 + 4), .int 0], eL 24 [], eO 1 [.ref (τ.1 + 6), .int 0], eL 24 [], eO 1 [.ref (τ.1 + 8), .int 0], eL 24 [], eO 1 [.ref (τ.1 + 10), .int 0], eL 24 [], eO 1 [.ref (τ.1 + 12), .int 0], eL 8 [], eO 1 [.ref (τ.1 + 14), .int 0], eL 8 [], eO 3 [.ref (τ.1 + 16), .ref (τ.1 + 18), .ref (τ.1 + 20), .ref (τ.1 + 1)], eO 1 [.ref (τ.1 + 17), .int 0], eL 24 [], eO 1 [.ref (τ.1 + 19), .int 0], eL 24 [], eO 1 [.ref (τ.1 + 21), .int 0], eL 24 [], eO 1 [.ref (τ.1 + 23), .int 0], eL 24 [], eO 5 [.ref (τ.1 + 25), .ref (τ.1 + 27), .ref (τ.1 + 29), .ref (τ.1 + 31)], eO 1 [.ref (τ.1 + 26), .int 0], eL 16 [], eO 1 [.ref (τ.1 + 28), .int 0], eL 16 [], eO 1 [.ref (τ.1 + 30), .int 0], eL 16 [], eO 1 [.ref (τ.1 + 32), .int 0], eL 16 [], eO 1 [.ref (τ.1 + 34), .int 0], eL 11 []]) (hadl_hadl τ _ _) ?_
  refine g_putF hx 144 (C := RX8) (T := TX8) (N := 15) 14 _ _ hin (hadl_0 τ _ _) rfl (by decide) fz_X8_57 rfl rfl rfl rfl rfl (Nat.le_of_ble_eq_true rfl) rfl dX8_init_144 ?_
  refine G.heap (σ' := hadl τ [eO 6 [.int 0, .int 0, .int 0, .int 0, .ref (τ.1 + 1), .ref (τ.1 + 3), .ref (τ.1 + 5), .ref (τ.1 + 7), .ref (τ.1 + 9), .ref (τ.1 + 11), .ref (τ.1 + 13), .ref (τ.1 + 15), .ref (τ.1 + 22), .ref (τ.1 + 24), .ref (τ.1 + 33)], eO 1 [.ref (τ.1 + 2), .int 0], eL 24 [], eO 1 [.ref (τ.1 + 4), .int 0], eL 24 [], eO 1 [.ref (τ.1 + 6), .int 0], eL 24 [], eO 1 [.ref (τ.1 + 8), .int 0], eL 24 [], eO 1 [.ref (τ.1 + 10), .int 0], eL 24 [], eO 1 [.ref (τ.1 + 12), .int 0], eL 8 [], eO 1 [.ref (τ.1 + 14), .int 0], eL 8 [], eO 3 [.ref (τ.1 + 16), .ref (τ.1 + 18), .ref (τ.1 + 20), .ref (τ.1 + 1)], eO 1 [.ref (τ.1 + 17), .int 0], eL 24 [], eO 1 [.ref (τ.1 + 19), .int 0], eL 24 [], eO 1 [.ref (τ.1 + 21), .int 0], eL 24 [], eO 1 [.ref (τ.1 + 23), .int 0], eL 24 [], eO 5 [.ref (τ.1 + 25), .ref (τ.1 + 27), .ref (τ.1 + 29), .ref (τ.1 + 31)], eO 1 [.ref (τ.1 + 26), .int 0], eL 16 [], eO 1 [.ref (τ.1 + 28), .int 0], eL 16 [], eO 1 [.ref (τ.1 + 30), .int 0], eL 16 [], eO 1 [.ref (τ.1 + 32), .int 0], eL 16 [], eO 1 [.ref (τ.1 + 34), .int 0], eL 11 []]) (hadl_set0 τ _ _ _) ?_
  exact g_vret hx hR 147 dX8_init_147 ⟨rfl, rfl⟩
