/-! the law from its entry -/
def fs8 : List Value := [.null, .null, .null, .null, .null, .null, .null, .null, .null, .int 0, .int 0]
theorem fs8_d : ∀ j, j < 11 → defaultValue (tyOf TX10 j) = vp_V fs8 j := by decide +kernel
theorem xl_9 : Cond.classLink RL 9 RX10 ∈ aw := aw1 (by decide +kernel)
theorem xl_154 : Cond.classLink RL 154 RJ4 ∈ aw := aw1 (by decide +kernel)
theorem xn_10 : Cond.instantiable RX10 11 ∈ aw ∧ Cond.initialized RX10 ∈ aw := ⟨aw1 (by decide +kernel), aw1 (by decide +kernel)⟩
theorem xn_J4 : Cond.instantiable RJ4 4 ∈ aw ∧ Cond.initialized RJ4 ∈ aw := ⟨aw1 (by decide +kernel), aw1 (by decide +kernel)⟩
theorem kl_149 : LkI RL 149 md_SA_init := lk_of (by decide +kernel)
theorem ka_SAinit : Arity md_SA_init 0 := ⟨by decide +kernel, by decide +kernel, by decide +kernel⟩
theorem kl_158 : LkI RL 158 md_J4_init_a7421 := lk_of (by decide +kernel)
theorem ka_J4init : Arity md_J4_init_a7421 1 := ⟨by decide +kernel, by decide +kernel, by decide +kernel⟩
theorem kl_165 : LkV RL 165 md_J4_append_cf468 := lk_of (by decide +kernel)
theorem ka_J4_append_cf468 : Arity md_J4_append_cf468 1 := ⟨by decide +kernel, by decide +kernel, by decide +kernel⟩
set_option maxRecDepth 100000 in
set_option maxHeartbeats 4000000 in
theorem w_start {X : Cx} {l : Launch} {g : Gl} {ad ae : Nat → Nat} (hx : Ok X l g RL cL_law 12 room_1) (hC : KAll g ad ae) (hA : KC g) (hK : KB g) {sb L : Nat} {xs : Nat → Int32} (hs : Scr g sb L xs) (hL : L ≤ 260) (hlaw : LawOK L xs) (τ : Hp) (ret : ∀ (σ : Hp) (k n : Nat) (ls : List (Nat × Value)), k ≤ 600086 → n ≤ 7301442 → G X σ k n 541 ls [.int 1]) : G X τ 0 0 0 [(0, .ref sb)] [] := by
  obtain ⟨W0, e0, S1, e1, qe, e2, q2, e3, e4, Ws, e5, hw, hf⟩ := hlaw
  refine g_new hx 0 (ci := 8) (C := RX10) (T := TX10) (N := 11) fs8 rfl xl_9 xn_10.1 xn_10.2 fs8_d ⟨Nat.le_of_ble_eq_true rfl, Nat.le_of_ble_eq_true rfl⟩ dL_law_0 ?_
  refine g_dup hx 3 dL_law_3 rfl ?_
  refine G.heap (hadl_push τ (eO 8 fs8)) ?_
  refine g_callI hx (c_SA_init l g hC hA τ e0) kl_149 rfl rfl ka_SAinit (As := []) (rest := [.ref τ.1]) rfl (Nat.le_of_ble_eq_true rfl) ⟨Nat.le_of_ble_eq_true rfl, Nat.le_of_ble_eq_true rfl⟩ ⟨Nat.le_of_ble_eq_true rfl, Nat.le_of_ble_eq_true rfl⟩ dL_law_4 (fun v σ1 hp => ?_)
  obtain ⟨rfl, rfl⟩ := hp
  refine g_astore_n hx 7 (i := 1) [(1, .ref τ.1), (0, .ref sb)] dL_law_7 rfl (by decide) rfl ?_
  refine g_bipush hx 8 (6) dL_law_8 rfl ?_
  generalize hσ : ((τ.1 + 437, τ.2) : Hp) = σ0
  have hσ1 : σ0.1 = τ.1 + 437 := by rw [← hσ]
  generalize τ.1 = B at hσ1 ⊢
  refine g_newI hx 10 6 arc_int (by decide) (by decide) (Nat.le_of_ble_eq_true rfl) ⟨Nat.le_of_ble_eq_true rfl, Nat.le_of_ble_eq_true rfl⟩ dL_law_10 ?_
  refine G.heap (pW_push (by omega) _) ?_
  have hwa0 : (putW σ0 B ae W0).1 = B + 437 := hσ1
  rw [hwa0]
  obtain ⟨wa, ewa⟩ : ∃ wa, wa = B + 437 := ⟨_, rfl⟩
  rw [← ewa]
  refine g_astore_n hx 12 (i := 2) [(2, .ref wa), (1, .ref B), (0, .ref sb)] dL_law_12 rfl (by decide) rfl ?_
  refine g_aload_n hx 13 (i := 0) 2 dL_law_13 rfl rfl ?_
  refine g_iconst hx 14 (0) dL_law_14 rfl ?_
  refine g_callSr hx (c_Lw_cell l g _ hs (by omega) 0 (by omega)) kl_150 ka_cell (As := [.ref sb, .int (nI 0)]) (rest := []) rfl (Nat.le_of_ble_eq_true rfl) ⟨Nat.le_of_ble_eq_true rfl, Nat.le_of_ble_eq_true rfl⟩ ⟨rfl, rfl⟩ ⟨Nat.le_of_ble_eq_true rfl, Nat.le_of_ble_eq_true rfl⟩ dL_law_15 ?_
  refine g_istore_n hx 18 (i := 3) [(3, .int (Lw_cell L xs 0)), (2, .ref wa), (1, .ref B), (0, .ref sb)] dL_law_18 rfl (by decide) rfl ?_
  generalize hv : Lw_cell L xs 0 = v at e1 e4 ⊢
  refine g_new hx 19 (ci := 10) (C := RJ4) (T := TJ4) (N := 4) fsJ4 rfl xl_154 xn_J4.1 xn_J4.2 fsJ4_d ⟨Nat.le_of_ble_eq_true rfl, Nat.le_of_ble_eq_true rfl⟩ dL_law_19 ?_
  have hb0 : (putW (hpush σ0 (eI 6 (fun _ => 0))) B ae W0).1 = B + 438 := show σ0.1 + 1 = B + 438 by omega
  have hkt : Kept (hpush (putW (hpush σ0 (eI 6 (fun _ => 0))) B ae W0) (eO 10 fsJ4)) (hpush (putW (hpush σ0 (eI 6 (fun _ => 0))) B ae W0) (eO 10 fsJ4)) (B + 438) := Kept.rf _ _
  have hβ1 : ∀ a, B ≤ a → a < B + 437 → (hpush (putW (hpush σ0 (eI 6 (fun _ => 0))) B ae W0) (eO 10 fsJ4)).2 a = (putW (hpush σ0 (eI 6 (fun _ => 0))) B ae W0).2 a := fun a h1 h2 => hpush_ne _ _ (by omega)
  have hβ2 : (hpush (putW (hpush σ0 (eI 6 (fun _ => 0))) B ae W0) (eO 10 fsJ4)).2 wa = some (eI 6 (fun _ => 0)) := (hpush_ne _ _ (by omega)).trans ((pW_out _ B ae W0 (by omega)).trans (by rw [ewa, ← hσ1]; exact hpush_self σ0 _))
  have hβ3 : (hpush (putW (hpush σ0 (eI 6 (fun _ => 0))) B ae W0) (eO 10 fsJ4)).2 (B + 438) = some (eO 10 fsJ4) := by rw [← hb0]; exact hpush_self _ _
  have hβ4 : (hpush (putW (hpush σ0 (eI 6 (fun _ => 0))) B ae W0) (eO 10 fsJ4)).1 = B + 439 := show σ0.1 + 1 + 1 = B + 439 by omega
  rw [hb0]
  generalize hbe : B + 438 = b at hkt hβ3 ⊢
  generalize hpush (putW (hpush σ0 (eI 6 (fun _ => 0))) B ae W0) (eO 10 fsJ4) = β at hkt hβ1 hβ2 hβ3 hβ4 ⊢
  refine g_dup hx 22 dL_law_22 rfl ?_
  refine g_ldcS hx 23 (hC.1.2.2 _ (List.mem_of_getElem? (i := 0) rfl)) dL_law_23 ?_
  refine g_callI hx (c_J4_init l g hK hβ3 (by omega) (hC.1.2.1 3 (by decide)) (fit_sx 3 (by decide)) (by decide)) kl_158 rfl rfl ka_J4init (As := [.ref (ad 3)]) (rest := [.ref b]) rfl (Nat.le_of_ble_eq_true rfl) ⟨Nat.le_of_ble_eq_true rfl, Nat.le_of_ble_eq_true rfl⟩ ⟨Nat.le_of_ble_eq_true rfl, Nat.le_of_ble_eq_true rfl⟩ dL_law_25 (fun v2 σ1 hp => ?_)
  obtain ⟨rfl, hb, hk1⟩ := hp
  have hkt := Kept.trans hkt hk1
  clear hk1
  refine G.widen (k' := 500) (n' := 20000) (Nat.le_of_ble_eq_true rfl) (Nat.le_of_ble_eq_true rfl) ?_
  show G X σ1 500 20000 28 [(3, .int v), (2, .ref wa), (1, .ref B), (0, .ref sb)] [.ref b]
  refine g_iconst hx 28 (1) dL_law_28 rfl ?_
  refine g_iload_n hx 29 (i := 3) 0 dL_law_29 rfl rfl ?_
  refine g_iconst hx 30 (5) dL_law_30 rfl ?_
  refine g_callSr hx (c_Lw_most l g _ v 5 (most_eq v (m := 5) (by omega) (by omega))) kl_101 ka_most (As := [.int v, .int 5]) (rest := [.int 1, .ref b]) rfl (Nat.le_of_ble_eq_true rfl) ⟨Nat.le_of_ble_eq_true rfl, Nat.le_of_ble_eq_true rfl⟩ ⟨rfl, rfl⟩ ⟨by show _ ≤ 600086; omega, by show _ ≤ 7301442; omega⟩ dL_law_31 ?_
  refine g_iadd hx 34 dL_law_34 ?_
  refine g_nmi (x := nI (tx1 v)) (show nI (tx1 v) = nI 1 + nI (mostN (v) 5) from (nI_add _ _).symm) ?_
  refine g_callV hx (c_J4_appendI l g hK hb (m := tx1 v) (by unfold tx1; have := most_lt (v) (show 0 < 5 by omega); omega) (by (try simp only [List.length_append, List.length_cons, List.length_nil]); have := dg_len (tx1 v); have := dg_len (tx2 v); have := dg_len (tx3 v); have := dg_len (tx4 v); have := sx_len; omega)) kl_161 ka_J4_append_bf812 hb.choose_spec.choose_spec.choose_spec.1.1 (T := TJ4) (N := 4) rfl (As := [.int (nI (tx1 v))]) (rest := []) rfl (Nat.le_of_ble_eq_true rfl) ⟨Nat.le_of_ble_eq_true rfl, Nat.le_of_ble_eq_true rfl⟩ ⟨Nat.le_of_ble_eq_true rfl, Nat.le_of_ble_eq_true rfl⟩ dL_law_35 (fun r σ1 hp => ?_)
  clear hb
  obtain ⟨rfl, hb, hk1⟩ := hp
  have hkt := Kept.trans hkt hk1
  clear hk1
  show G X σ1 501 20902 38 [(3, .int v), (2, .ref wa), (1, .ref B), (0, .ref sb)] [.ref b]
  refine g_bipush hx 38 (32) dL_law_38 rfl ?_
  refine g_callV hx (c_J4_appendC l g hK hb CH_32 (by (try simp only [List.length_append, List.length_cons, List.length_nil]); have := dg_len (tx1 v); have := dg_len (tx2 v); have := dg_len (tx3 v); have := dg_len (tx4 v); have := sx_len; omega)) kl_165 ka_J4_append_cf468 hb.choose_spec.choose_spec.choose_spec.1.1 (T := TJ4) (N := 4) rfl (As := [.int 32]) (rest := []) rfl (Nat.le_of_ble_eq_true rfl) ⟨Nat.le_of_ble_eq_true rfl, Nat.le_of_ble_eq_true rfl⟩ ⟨Nat.le_of_ble_eq_true rfl, Nat.le_of_ble_eq_true rfl⟩ dL_law_40 (fun r σ1 hp => ?_)
  clear hb
  obtain ⟨rfl, hb, hk1⟩ := hp
  have hkt := Kept.trans hkt hk1
  clear hk1
  show G X σ1 502 21804 43 [(3, .int v), (2, .ref wa), (1, .ref B), (0, .ref sb)] [.ref b]
  refine g_iconst hx 43 (1) dL_law_43 rfl ?_
  refine g_iload_n hx 44 (i := 3) 0 dL_law_44 rfl rfl ?_
  refine g_iconst hx 45 (1) dL_law_45 rfl ?_
  refine g_ishr hx 46 dL_law_46 ?_
  refine g_iconst hx 47 (3) dL_law_47 rfl ?_
  refine g_callSr hx (c_Lw_most l g _ (v >>> (1 &&& 31)) 3 (most_eq (v >>> (1 &&& 31)) (m := 3) (by omega) (by omega))) kl_101 ka_most (As := [.int (v >>> (1 &&& 31)), .int 3]) (rest := [.int 1, .ref b]) rfl (Nat.le_of_ble_eq_true rfl) ⟨Nat.le_of_ble_eq_true rfl, Nat.le_of_ble_eq_true rfl⟩ ⟨rfl, rfl⟩ ⟨by show _ ≤ 600086; omega, by show _ ≤ 7301442; omega⟩ dL_law_48 ?_
  refine g_iadd hx 51 dL_law_51 ?_
  refine g_nmi (x := nI (tx2 v)) (show nI (tx2 v) = nI 1 + nI (mostN (v >>> (1 &&& 31)) 3) from (nI_add _ _).symm) ?_
  refine g_callV hx (c_J4_appendI l g hK hb (m := tx2 v) (by unfold tx2; have := most_lt (v >>> (1 &&& 31)) (show 0 < 3 by omega); omega) (by (try simp only [List.length_append, List.length_cons, List.length_nil]); have := dg_len (tx1 v); have := dg_len (tx2 v); have := dg_len (tx3 v); have := dg_len (tx4 v); have := sx_len; omega)) kl_161 ka_J4_append_bf812 hb.choose_spec.choose_spec.choose_spec.1.1 (T := TJ4) (N := 4) rfl (As := [.int (nI (tx2 v))]) (rest := []) rfl (Nat.le_of_ble_eq_true rfl) ⟨Nat.le_of_ble_eq_true rfl, Nat.le_of_ble_eq_true rfl⟩ ⟨Nat.le_of_ble_eq_true rfl, Nat.le_of_ble_eq_true rfl⟩ dL_law_52 (fun r σ1 hp => ?_)
  clear hb
  obtain ⟨rfl, hb, hk1⟩ := hp
  have hkt := Kept.trans hkt hk1
  clear hk1
  show G X σ1 503 22706 55 [(3, .int v), (2, .ref wa), (1, .ref B), (0, .ref sb)] [.ref b]
  refine g_bipush hx 55 (32) dL_law_55 rfl ?_
  refine g_callV hx (c_J4_appendC l g hK hb CH_32 (by (try simp only [List.length_append, List.length_cons, List.length_nil]); have := dg_len (tx1 v); have := dg_len (tx2 v); have := dg_len (tx3 v); have := dg_len (tx4 v); have := sx_len; omega)) kl_165 ka_J4_append_cf468 hb.choose_spec.choose_spec.choose_spec.1.1 (T := TJ4) (N := 4) rfl (As := [.int 32]) (rest := []) rfl (Nat.le_of_ble_eq_true rfl) ⟨Nat.le_of_ble_eq_true rfl, Nat.le_of_ble_eq_true rfl⟩ ⟨Nat.le_of_ble_eq_true rfl, Nat.le_of_ble_eq_true rfl⟩ dL_law_57 (fun r σ1 hp => ?_)
  clear hb
  obtain ⟨rfl, hb, hk1⟩ := hp
  have hkt := Kept.trans hkt hk1
  clear hk1
  show G X σ1 504 23608 60 [(3, .int v), (2, .ref wa), (1, .ref B), (0, .ref sb)] [.ref b]
  refine g_iconst hx 60 (1) dL_law_60 rfl ?_
  refine g_iload_n hx 61 (i := 3) 0 dL_law_61 rfl rfl ?_
  refine g_iconst hx 62 (2) dL_law_62 rfl ?_
  refine g_ishr hx 63 dL_law_63 ?_
  refine g_iconst hx 64 (4) dL_law_64 rfl ?_
  refine g_callSr hx (c_Lw_most l g _ (v >>> (2 &&& 31)) 4 (most_eq (v >>> (2 &&& 31)) (m := 4) (by omega) (by omega))) kl_101 ka_most (As := [.int (v >>> (2 &&& 31)), .int 4]) (rest := [.int 1, .ref b]) rfl (Nat.le_of_ble_eq_true rfl) ⟨Nat.le_of_ble_eq_true rfl, Nat.le_of_ble_eq_true rfl⟩ ⟨rfl, rfl⟩ ⟨by show _ ≤ 600086; omega, by show _ ≤ 7301442; omega⟩ dL_law_65 ?_
  refine g_iadd hx 68 dL_law_68 ?_
  refine g_nmi (x := nI (tx3 v)) (show nI (tx3 v) = nI 1 + nI (mostN (v >>> (2 &&& 31)) 4) from (nI_add _ _).symm) ?_
  refine g_callV hx (c_J4_appendI l g hK hb (m := tx3 v) (by unfold tx3; have := most_lt (v >>> (2 &&& 31)) (show 0 < 4 by omega); omega) (by (try simp only [List.length_append, List.length_cons, List.length_nil]); have := dg_len (tx1 v); have := dg_len (tx2 v); have := dg_len (tx3 v); have := dg_len (tx4 v); have := sx_len; omega)) kl_161 ka_J4_append_bf812 hb.choose_spec.choose_spec.choose_spec.1.1 (T := TJ4) (N := 4) rfl (As := [.int (nI (tx3 v))]) (rest := []) rfl (Nat.le_of_ble_eq_true rfl) ⟨Nat.le_of_ble_eq_true rfl, Nat.le_of_ble_eq_true rfl⟩ ⟨Nat.le_of_ble_eq_true rfl, Nat.le_of_ble_eq_true rfl⟩ dL_law_69 (fun r σ1 hp => ?_)
  clear hb
  obtain ⟨rfl, hb, hk1⟩ := hp
  have hkt := Kept.trans hkt hk1
  clear hk1
  show G X σ1 505 24510 72 [(3, .int v), (2, .ref wa), (1, .ref B), (0, .ref sb)] [.ref b]
  refine g_bipush hx 72 (32) dL_law_72 rfl ?_
  refine g_callV hx (c_J4_appendC l g hK hb CH_32 (by (try simp only [List.length_append, List.length_cons, List.length_nil]); have := dg_len (tx1 v); have := dg_len (tx2 v); have := dg_len (tx3 v); have := dg_len (tx4 v); have := sx_len; omega)) kl_165 ka_J4_append_cf468 hb.choose_spec.choose_spec.choose_spec.1.1 (T := TJ4) (N := 4) rfl (As := [.int 32]) (rest := []) rfl (Nat.le_of_ble_eq_true rfl) ⟨Nat.le_of_ble_eq_true rfl, Nat.le_of_ble_eq_true rfl⟩ ⟨Nat.le_of_ble_eq_true rfl, Nat.le_of_ble_eq_true rfl⟩ dL_law_74 (fun r σ1 hp => ?_)
  clear hb
  obtain ⟨rfl, hb, hk1⟩ := hp
  have hkt := Kept.trans hkt hk1
  clear hk1
  show G X σ1 506 25412 77 [(3, .int v), (2, .ref wa), (1, .ref B), (0, .ref sb)] [.ref b]
  refine g_iconst hx 77 (1) dL_law_77 rfl ?_
  refine g_iload_n hx 78 (i := 3) 0 dL_law_78 rfl rfl ?_
  refine g_iconst hx 79 (3) dL_law_79 rfl ?_
  refine g_ishr hx 80 dL_law_80 ?_
  refine g_iconst hx 81 (3) dL_law_81 rfl ?_
  refine g_callSr hx (c_Lw_most l g _ (v >>> (3 &&& 31)) 3 (most_eq (v >>> (3 &&& 31)) (m := 3) (by omega) (by omega))) kl_101 ka_most (As := [.int (v >>> (3 &&& 31)), .int 3]) (rest := [.int 1, .ref b]) rfl (Nat.le_of_ble_eq_true rfl) ⟨Nat.le_of_ble_eq_true rfl, Nat.le_of_ble_eq_true rfl⟩ ⟨rfl, rfl⟩ ⟨by show _ ≤ 600086; omega, by show _ ≤ 7301442; omega⟩ dL_law_82 ?_
  refine g_iadd hx 85 dL_law_85 ?_
  refine g_nmi (x := nI (tx4 v)) (show nI (tx4 v) = nI 1 + nI (mostN (v >>> (3 &&& 31)) 3) from (nI_add _ _).symm) ?_
  refine g_callV hx (c_J4_appendI l g hK hb (m := tx4 v) (by unfold tx4; have := most_lt (v >>> (3 &&& 31)) (show 0 < 3 by omega); omega) (by (try simp only [List.length_append, List.length_cons, List.length_nil]); have := dg_len (tx1 v); have := dg_len (tx2 v); have := dg_len (tx3 v); have := dg_len (tx4 v); have := sx_len; omega)) kl_161 ka_J4_append_bf812 hb.choose_spec.choose_spec.choose_spec.1.1 (T := TJ4) (N := 4) rfl (As := [.int (nI (tx4 v))]) (rest := []) rfl (Nat.le_of_ble_eq_true rfl) ⟨Nat.le_of_ble_eq_true rfl, Nat.le_of_ble_eq_true rfl⟩ ⟨Nat.le_of_ble_eq_true rfl, Nat.le_of_ble_eq_true rfl⟩ dL_law_86 (fun r σ1 hp => ?_)
  clear hb
  obtain ⟨rfl, hb, hk1⟩ := hp
  have hkt := Kept.trans hkt hk1
  clear hk1
  show G X σ1 507 26314 89 [(3, .int v), (2, .ref wa), (1, .ref B), (0, .ref sb)] [.ref b]
  refine g_bipush hx 89 (59) dL_law_89 rfl ?_
  refine g_callV hx (c_J4_appendC l g hK hb CH_59 (by (try simp only [List.length_append, List.length_cons, List.length_nil]); have := dg_len (tx1 v); have := dg_len (tx2 v); have := dg_len (tx3 v); have := dg_len (tx4 v); have := sx_len; omega)) kl_165 ka_J4_append_cf468 hb.choose_spec.choose_spec.choose_spec.1.1 (T := TJ4) (N := 4) rfl (As := [.int 59]) (rest := []) rfl (Nat.le_of_ble_eq_true rfl) ⟨Nat.le_of_ble_eq_true rfl, Nat.le_of_ble_eq_true rfl⟩ ⟨Nat.le_of_ble_eq_true rfl, Nat.le_of_ble_eq_true rfl⟩ dL_law_91 (fun r σ1 hp => ?_)
  clear hb
  obtain ⟨rfl, hb, hk1⟩ := hp
  have hkt := Kept.trans hkt hk1
  clear hk1
  show G X σ1 508 27216 94 [(3, .int v), (2, .ref wa), (1, .ref B), (0, .ref sb)] [.ref b]
  refine g_astore hx 94 (i := 4) [(4, .ref b), (3, .int v), (2, .ref wa), (1, .ref B), (0, .ref sb)] dL_law_94 (by decide) rfl ?_
  refine g_iconst hx 96 (1) dL_law_96 rfl ?_
  refine g_iload_n hx 97 (i := 3) 1 dL_law_97 rfl rfl ?_
  refine g_iconst hx 98 (4) dL_law_98 rfl ?_
  refine g_ishr hx 99 dL_law_99 ?_
  refine g_bipush hx 100 (14) dL_law_100 rfl ?_
  refine g_callSr hx (c_Lw_most l g _ (v >>> (4 &&& 31)) 14 (most_eq (v >>> (4 &&& 31)) (m := 14) (by omega) (by omega))) kl_101 ka_most (As := [.int (v >>> (4 &&& 31)), .int 14]) (rest := [.int 1]) rfl (Nat.le_of_ble_eq_true rfl) ⟨Nat.le_of_ble_eq_true rfl, Nat.le_of_ble_eq_true rfl⟩ ⟨rfl, rfl⟩ ⟨by show _ ≤ 600086; omega, by show _ ≤ 7301442; omega⟩ dL_law_102 ?_
  refine g_iadd hx 105 dL_law_105 ?_
  refine g_nmi (x := nI (txn v)) (show nI (txn v) = nI 1 + nI (mostN (v >>> (4 &&& 31)) 14) from (nI_add _ _).symm) ?_
  refine g_istore hx 106 (i := 5) [(5, .int (nI (txn v))), (4, .ref b), (3, .int v), (2, .ref wa), (1, .ref B), (0, .ref sb)] dL_law_106 (by decide) rfl ?_
  refine g_iload_n hx 108 (i := 3) 2 dL_law_108 rfl rfl ?_
  refine g_iconst hx 109 (5) dL_law_109 rfl ?_
  refine g_ishr hx 110 dL_law_110 ?_
  refine g_iconst hx 111 (2) dL_law_111 rfl ?_
  refine g_callSr hx (c_Lw_most l g _ (v >>> (5 &&& 31)) 2 (most_eq (v >>> (5 &&& 31)) (m := 2) (by omega) (by omega))) kl_101 ka_most (As := [.int (v >>> (5 &&& 31)), .int 2]) (rest := []) rfl (Nat.le_of_ble_eq_true rfl) ⟨Nat.le_of_ble_eq_true rfl, Nat.le_of_ble_eq_true rfl⟩ ⟨rfl, rfl⟩ ⟨by show _ ≤ 600086; omega, by show _ ≤ 7301442; omega⟩ dL_law_112 ?_
  have hmain : ∀ σ9 : Hp, SB σ9 b (txH v) → Kept β σ9 b → G X σ9 508 27216 128 [(0, .ref sb), (1, .ref B), (2, .ref wa), (4, .ref b), (5, .int (nI (txn v))), (6, .int (txo v)), (7, .int (nI 0))] [] := fun σ9 hb9 hk9 => w_fold hx hC hK (v := v) (β := β) hs hL (by unfold txn; have := most_lt (v >>> (4 &&& 31)) (show 0 < 14 by omega); omega) (fun σ' k' n' h1 h2 h3 h4 => w_234 hx hC hK h1 h2 hs hL h3 h4 ewa hbe.symm (fun a h5 h6 => (hβ1 a h5 h6)) hβ2 (txT_255 L xs v _ (by unfold txn; have := most_lt (v >>> (4 &&& 31)) (show 0 < 14 by omega); omega)) (by have := txT_len L xs v (txn v); have h9 : txn v ≤ 14 := (by unfold txn; have := most_lt (v >>> (4 &&& 31)) (show 0 < 14 by omega); omega); omega) e1 e2 e3 e4 e5 hw hf ret) (txn v) 0 σ9 508 27216 (Nat.zero_add _) hb9 hk9 (by have h9 : txn v ≤ 14 := (by unfold txn; have := most_lt (v >>> (4 &&& 31)) (show 0 < 14 by omega); omega); omega) (by have h9 : txn v ≤ 14 := (by unfold txn; have := most_lt (v >>> (4 &&& 31)) (show 0 < 14 by omega); omega); omega)
  by_cases ho : mostN (v >>> (5 &&& 31)) 2 = 0
  · have hto : txo v = 1 := if_pos ho
    refine g_if_ne hx 115 122 dL_law_115 (by decide) (fun hc => absurd (show nI (mostN (v >>> (5 &&& 31)) 2) = 0 by rw [ho]; rfl) hc) (fun _ => ?_)
    refine g_iconst hx 118 (1) dL_law_118 rfl ?_
    refine g_goto hx 119 123 dL_law_119 (by decide) ?_
    refine g_nmi (x := txo v) hto ?_
    refine g_istore hx 123 (i := 6) [(6, .int (txo v)), (5, .int (nI (txn v))), (4, .ref b), (3, .int v), (2, .ref wa), (1, .ref B), (0, .ref sb)] dL_law_123 (by decide) rfl ?_
    refine g_iconst hx 125 (0) dL_law_125 rfl ?_
    refine g_istore hx 126 (i := 7) [(7, .int 0), (6, .int (txo v)), (5, .int (nI (txn v))), (4, .ref b), (3, .int v), (2, .ref wa), (1, .ref B), (0, .ref sb)] dL_law_126 (by decide) rfl ?_
    refine g_ls [7, 6, 5, 3, 2, 1, 0] [(0, .ref sb), (1, .ref B), (2, .ref wa), (4, .ref b), (5, .int (nI (txn v))), (6, .int (txo v)), (7, .int (nI 0))] rfl ?_
    exact hmain σ1 hb hkt
  · have hto : txo v = 0 := if_neg ho
    refine g_if_ne hx 115 122 dL_law_115 (by decide) (fun _ => ?_) (fun hc => absurd (fun z => ho ((nI_eq (by have := most_lt (v >>> (5 &&& 31)) (show 0 < 2 by omega); omega) (by decide)).mp (show nI (mostN (v >>> (5 &&& 31)) 2) = nI 0 from z))) (fun hq => hq hc))
    refine g_iconst hx 122 (0) dL_law_122 rfl ?_
    refine g_nmi (x := txo v) hto ?_
    refine g_istore hx 123 (i := 6) [(6, .int (txo v)), (5, .int (nI (txn v))), (4, .ref b), (3, .int v), (2, .ref wa), (1, .ref B), (0, .ref sb)] dL_law_123 (by decide) rfl ?_
    refine g_iconst hx 125 (0) dL_law_125 rfl ?_
    refine g_istore hx 126 (i := 7) [(7, .int 0), (6, .int (txo v)), (5, .int (nI (txn v))), (4, .ref b), (3, .int v), (2, .ref wa), (1, .ref B), (0, .ref sb)] dL_law_126 (by decide) rfl ?_
    refine g_ls [7, 6, 5, 3, 2, 1, 0] [(0, .ref sb), (1, .ref B), (2, .ref wa), (4, .ref b), (5, .int (nI (txn v))), (6, .int (txo v)), (7, .int (nI 0))] rfl ?_
    exact hmain σ1 hb hkt
