/-! the law: its beginning -/
theorem lki_75 : LkI RL 75 md_SA_init := lk_of (by decide +kernel)
theorem ari_75 : Arity md_SA_init 0 := ⟨by decide +kernel, by decide +kernel, by decide +kernel⟩
theorem lki_78 : LkI RL 78 md_Md_init := lk_of (by decide +kernel)
theorem ari_78 : Arity md_Md_init 0 := ⟨by decide +kernel, by decide +kernel, by decide +kernel⟩
theorem xl_8 : Cond.classLink RL 8 RX10 ∈ aw := aw1 (by decide +kernel)
theorem xl_76 : Cond.classLink RL 76 RX11 ∈ aw := aw1 (by decide +kernel)
theorem xn_10 : Cond.instantiable RX10 11 ∈ aw ∧ Cond.initialized RX10 ∈ aw := ⟨aw1 (by decide +kernel), aw1 (by decide +kernel)⟩
theorem xn_11 : Cond.instantiable RX11 30 ∈ aw ∧ Cond.initialized RX11 ∈ aw := ⟨aw1 (by decide +kernel), aw1 (by decide +kernel)⟩
theorem xa_l : Cond.arrayClass .long ∈ aw := aw1 (by decide +kernel)
def fs8 : List Value := [.null, .null, .null, .null, .null, .null, .null, .null, .null, .int 0, .int 0]
def fs9 : List Value := [.null, .null, .null, .null, .null, .null, .null, .null, .int 0, .int 0, .int 0, .int 0, .int 0, .null, .null, .null, .int 0, .null, .int 0, .int 0, .int 0, .int 0, .int 0, .int 0, .int 0, .int 0, .int 0, .null, .null, .int 0]
theorem fs8_d : ∀ j, j < 11 → defaultValue (tyOf TX10 j) = vp_V fs8 j := by decide +kernel
theorem fs9_d : ∀ j, j < 30 → defaultValue (tyOf TX11 j) = vp_V fs9 j := by decide +kernel
theorem LW.start (τ : Hp) (ad ae : Nat → Nat) (W : WM) (M : MdM) (f : Nat → Int64) : hpush (putMd (τ.1 + 437 + 14, (putW (τ.1 + 437, τ.2) τ.1 ae W).2) (τ.1 + 437) (owF ad) 0 M) (eJ 1 f) = LW (hpush (τ.1 + 451, τ.2) (eJ 1 f)) τ.1 (τ.1 + 437) ad ae W M := by
  refine Prod.ext rfl (funext fun a => ?_)
  show (if a = τ.1 + 437 + 14 then _ else (if τ.1 + 437 ≤ a ∧ a < τ.1 + 437 + 14 then _ else (if τ.1 ≤ a ∧ a < τ.1 + 437 then _ else τ.2 a))) = (if τ.1 ≤ a ∧ a < τ.1 + 437 then _ else (if τ.1 + 437 ≤ a ∧ a < τ.1 + 437 + 14 then _ else (if a = τ.1 + 451 then _ else τ.2 a)))
  by_cases h1 : τ.1 ≤ a ∧ a < τ.1 + 437
  · rw [if_neg (show ¬ a = τ.1 + 437 + 14 by omega), if_neg (show ¬ (τ.1 + 437 ≤ a ∧ a < τ.1 + 437 + 14) by omega), if_pos h1, if_pos h1]
  · rw [if_neg h1, if_neg h1]
    by_cases h2 : τ.1 + 437 ≤ a ∧ a < τ.1 + 437 + 14
    · rw [if_neg (show ¬ a = τ.1 + 437 + 14 by omega), if_pos h2, if_pos h2]
    · rw [if_neg h2, if_neg h2]
theorem hpush_at {σ : Hp} {e : Ent} {o : Nat} (h : o = σ.1) : (hpush σ e).2 o = some e := if_pos h
set_option maxRecDepth 100000 in
set_option maxHeartbeats 4000000 in
theorem law_start {X : Cx} {l : Launch} {g : Gl} {ad ae : Nat → Nat} (hx : Ok X l g RL cL_law 9 room_1) (hC : KAll g ad ae) (hA : KC g) (hN : KN g) (hl : l.stackTraces = false) {b L : Nat} {xs : Nat → Int32} (hs : Scr g b L xs) (hL : L ≤ 3072) (τ : Hp) (ret : ∀ (σ : Hp) (k n : Nat) (ls : List (Nat × Value)), k ≤ room_1.cells → n ≤ room_1.slots → G X σ k n 2048 ls []) : G X τ 0 0 0 [(0, .ref b)] [] := by
  obtain ⟨W0, M0, e1, e2, hw, -⟩ := s_init
  refine g_new hx 0 (ci := 8) (C := RX10) (T := TX10) (N := 11) fs8 rfl xl_8 xn_10.1 xn_10.2 fs8_d ⟨Nat.le_of_ble_eq_true rfl, Nat.le_of_ble_eq_true rfl⟩ dL_law_0 ?_
  refine g_dup hx 3 dL_law_3 rfl ?_
  refine G.heap (hadl_push τ (eO 8 fs8)) ?_
  refine g_callI hx (c_SA_init l g hC hA τ e1) lki_75 rfl rfl ari_75 (As := []) (rest := [.ref τ.1]) rfl (Nat.le_of_ble_eq_true rfl) ⟨Nat.le_of_ble_eq_true rfl, Nat.le_of_ble_eq_true rfl⟩ ⟨Nat.le_of_ble_eq_true rfl, Nat.le_of_ble_eq_true rfl⟩ dL_law_4 (fun v σ1 hp => ?_)
  obtain ⟨rfl, rfl⟩ := hp
  refine g_astore_n hx 7 (i := 1) [(1, .ref τ.1), (0, .ref b)] dL_law_7 rfl (by decide) rfl ?_
  refine g_new hx 8 (ci := 9) (C := RX11) (T := TX11) (N := 30) fs9 rfl xl_76 xn_11.1 xn_11.2 fs9_d ⟨Nat.le_of_ble_eq_true rfl, Nat.le_of_ble_eq_true rfl⟩ dL_law_8 ?_
  refine g_dup hx 11 dL_law_11 rfl ?_
  refine G.heap (hadl_push (putW (τ.1 + 437, τ.2) τ.1 ae W0) (eO 9 fs9)) ?_
  refine g_callI hx (c_Md_init l g hC.1 hA (putW (τ.1 + 437, τ.2) τ.1 ae W0) e2) lki_78 rfl rfl ari_78 (As := []) (rest := [.ref (τ.1 + 437)]) rfl (Nat.le_of_ble_eq_true rfl) ⟨Nat.le_of_ble_eq_true rfl, Nat.le_of_ble_eq_true rfl⟩ ⟨Nat.le_of_ble_eq_true rfl, Nat.le_of_ble_eq_true rfl⟩ dL_law_12 (fun v σ1 hp => ?_)
  obtain ⟨rfl, rfl⟩ := hp
  refine g_astore_n hx 15 (i := 2) [(2, .ref (τ.1 + 437)), (1, .ref τ.1), (0, .ref b)] dL_law_15 rfl (by decide) rfl ?_
  refine g_iconst hx 16 (1) dL_law_16 rfl ?_
  refine g_newJ hx 17 1 xa_l (by decide) (by decide) (Nat.le_of_ble_eq_true rfl) ⟨Nat.le_of_ble_eq_true rfl, Nat.le_of_ble_eq_true rfl⟩ dL_law_17 ?_
  refine g_astore_n hx 19 (i := 3) [(3, .ref (τ.1 + 437 + 14)), (2, .ref (τ.1 + 437)), (1, .ref τ.1), (0, .ref b)] dL_law_19 rfl (by decide) rfl ?_
  refine g_iconst hx 20 (0) dL_law_20 rfl ?_
  refine g_istore hx 21 (i := 4) [(4, .int (nI 0)), (3, .ref (τ.1 + 437 + 14)), (2, .ref (τ.1 + 437)), (1, .ref τ.1), (0, .ref b)] dL_law_21 (by decide) rfl ?_
  refine G.heap (LW.start τ ad ae W0 M0 (fun _ => 0)) ?_
  refine g_ls [0, 4, 3, 2, 1] [(4, .int (nI 0)), (0, .ref b), (1, .ref τ.1), (2, .ref (τ.1 + 437)), (3, .ref (τ.1 + 437 + 14))] rfl ?_
  exact law_loop hx hC hN hl hs hL ⟨Or.inr (by omega), Or.inr (by omega), Or.inr (by omega)⟩ ret 3072 0 _ _ _ W0 M0 _ (by omega) (by omega) (Nat.le_of_ble_eq_true rfl) (Nat.le_of_ble_eq_true rfl) hw (hpush_at (show τ.1 + 437 + 14 = τ.1 + 451 by omega))
