/-! the law itself, behind its text -/
def Lw_u (L : Nat) (xs : Nat → Int32) (j : Nat) : Int32 := Lw_cell L xs (8 + j % 28) >>> ((nI j / 28 * 2) &&& 31)
abbrev AR : Type := Nat × (Nat → Int32)
def alk (x y : AR) : Prop := Lw_alike x.1 y.1 x.2 y.2 = some 1
/-- the operation, where it is taken back and done again -/
def L_und (j : Nat) (u : Int32) (x y : AR) (W1 W2 W5 : WM) : Prop :=
  (SA_undoCount W2 = SA_undoCount W1 + 1 ∧ j % 3 = 0 ∧ ∃ q : Int32 × WM, SA_undo W2 = some q ∧ q.1 = SA_undoCount W1 ∧ ∃ z : AR, Lw_all q.2 = some z ∧ alk z x ∧ ∃ q' : Int32 × WM, Lw_act q.2 u = some q' ∧ q'.1 = 1 ∧ ∃ y' : AR, Lw_all q'.2 = some y' ∧ alk y' y ∧ W5 = q'.2) ∨
  (¬ (SA_undoCount W2 = SA_undoCount W1 + 1 ∧ j % 3 = 0) ∧ W5 = W2)
def L_srv (j : Nat) (u : Int32) (y : AR) (W5 W' : WM) : Prop :=
  (j % 9 = 8 ∧ ∃ q : Int32 × WM, Lw_isServed W5 u = some q ∧ q.1 = 1 ∧ ∃ z : AR, Lw_all q.2 = some z ∧ alk z y ∧ W' = q.2) ∨ (¬ j % 9 = 8 ∧ W' = W5)
/-- a step of the law -/
def L_step (j : Nat) (u : Int32) (W W' : WM) : Prop := ∃ q1 : Int32 × WM, Lw_isArchive W = some q1 ∧ q1.1 = 1 ∧ ∃ x : AR, Lw_all q1.2 = some x ∧ ∃ q2 : Int32 × WM, Lw_act q1.2 u = some q2 ∧ q2.1 = 1 ∧ ∃ y : AR, Lw_all q2.2 = some y ∧ ∃ W5, L_und j u x y q1.2 q2.2 W5 ∧ (SA_undoCount W5 = SA_undoCount q1.2 → SA_undoCount q1.2 < 8 → alk x y) ∧ L_srv j u y W5 W'
/-- the end of the law -/
def L_fin (L : Nat) (xs : Nat → Int32) (W : WM) : Prop := ∃ x : AR, Lw_all (SA_saveSnapshot W) = some x ∧ ∃ Ws : Nat → WM, Ws 0 = SA_saveSnapshot W ∧ (∀ j, j < 5 → ∃ q : Int32 × WM, Lw_act (Ws j) (Lw_cell L xs (36 + j)) = some q ∧ q.1 = 1 ∧ q.2 = Ws (j + 1)) ∧
  (SA_restoreSnapshot (Ws 5)).1 = 1 ∧ ∃ z : AR, Lw_all (SA_restoreSnapshot (Ws 5)).2 = some z ∧ alk z x ∧ SA_undoCount (SA_restoreSnapshot (Ws 5)).2 = 0 ∧ ∃ q : Int32 × WM, SA_undo (SA_restoreSnapshot (Ws 5)).2 = some q ∧ q.1 = -1
theorem lj_28 : ∀ j, j < 36 → nI (8 + j % 28) = 8 + (nI j - nI j / 28 * 28) := by decide +kernel
theorem lj_3 : ∀ j, j < 36 → (nI j - nI j / 3 * 3 = 0 ↔ j % 3 = 0) := by decide +kernel
theorem lj_9 : ∀ j, j < 36 → (nI j - nI j / 9 * 9 = 8 ↔ j % 9 = 8) := by decide +kernel
theorem kl_116 : LkV RL 116 md_SA_restoreSnapshot := lk_of (by decide +kernel)
theorem ka_restoreSnapshot : Arity md_SA_restoreSnapshot 0 := ⟨by decide +kernel, by decide +kernel, by decide +kernel⟩
theorem kl_196 : LkS RL 196 md_Lw_all := lk_of (by decide +kernel)
theorem ka_all : Arity md_Lw_all 1 := ⟨by decide +kernel, by decide +kernel, by decide +kernel⟩
theorem kl_210 : LkS RL 210 md_Lw_alike := lk_of (by decide +kernel)
theorem ka_alike : Arity md_Lw_alike 2 := ⟨by decide +kernel, by decide +kernel, by decide +kernel⟩
theorem kl_200 : LkV RL 200 md_SA_undoCount := lk_of (by decide +kernel)
theorem ka_undoCount : Arity md_SA_undoCount 0 := ⟨by decide +kernel, by decide +kernel, by decide +kernel⟩
theorem kl_207 : LkV RL 207 md_SA_undo := lk_of (by decide +kernel)
theorem ka_undo : Arity md_SA_undo 0 := ⟨by decide +kernel, by decide +kernel, by decide +kernel⟩
theorem kl_150 : LkS RL 150 md_Lw_cell := lk_of (by decide +kernel)
theorem ka_cell : Arity md_Lw_cell 2 := ⟨by decide +kernel, by decide +kernel, by decide +kernel⟩
set_option maxRecDepth 100000 in
theorem kc_203 : Cond.code md_Lw_act.y md_Lw_act.b md_Lw_act.nL md_Lw_act.rt ∈ aw := List.mem_filter.mpr ⟨List.mem_of_getElem? (i := 991) rfl, rfl⟩
theorem kl_203 : LkS RL 203 md_Lw_act := ⟨aw_of (by decide +kernel), kc_203, aw1 (by decide +kernel)⟩
theorem ka_act : Arity md_Lw_act 2 := ⟨by decide +kernel, by decide +kernel, by decide +kernel⟩
theorem kl_98 : LkV RL 98 md_SA_saveSnapshot := lk_of (by decide +kernel)
theorem ka_saveSnapshot : Arity md_SA_saveSnapshot 0 := ⟨by decide +kernel, by decide +kernel, by decide +kernel⟩
set_option maxRecDepth 100000 in
theorem kc_214 : Cond.code md_Lw_isServed.y md_Lw_isServed.b md_Lw_isServed.nL md_Lw_isServed.rt ∈ aw := List.mem_filter.mpr ⟨List.mem_of_getElem? (i := 879) rfl, rfl⟩
theorem kl_214 : LkS RL 214 md_Lw_isServed := ⟨aw_of (by decide +kernel), kc_214, aw1 (by decide +kernel)⟩
theorem ka_isServed : Arity md_Lw_isServed 2 := ⟨by decide +kernel, by decide +kernel, by decide +kernel⟩
set_option maxRecDepth 100000 in
theorem kc_192 : Cond.code md_Lw_isArchive.y md_Lw_isArchive.b md_Lw_isArchive.nL md_Lw_isArchive.rt ∈ aw := List.mem_filter.mpr ⟨List.mem_of_getElem? (i := 726) rfl, rfl⟩
theorem kl_192 : LkS RL 192 md_Lw_isArchive := ⟨aw_of (by decide +kernel), kc_192, aw1 (by decide +kernel)⟩
theorem ka_isArchive : Arity md_Lw_isArchive 1 := ⟨by decide +kernel, by decide +kernel, by decide +kernel⟩
set_option maxRecDepth 100000 in
set_option maxHeartbeats 4000000 in
theorem w_fin2 {X : Cx} {l : Launch} {g : Gl} {ad ae : Nat → Nat} (hx : Ok X l g RL cL_law 12 room_1) (hC : KAll g ad ae) {b B : Nat} {σ : Hp} (hB : B + 437 ≤ σ.1) {k n : Nat} (hk : k + 1 ≤ 600086) (hn : n + 300 ≤ 7301442) {W : WM} {x z : AR} (h1 : (SA_restoreSnapshot W).1 = 1) (e2 : Lw_all (SA_restoreSnapshot W).2 = some z) (e3 : alk z x) (h4 : SA_undoCount (SA_restoreSnapshot W).2 = 0) {q : Int32 × WM} (e5 : SA_undo (SA_restoreSnapshot W).2 = some q) (h5 : q.1 = -1) (ret : ∀ (σ : Hp) (k n : Nat) (ls : List (Nat × Value)), k ≤ 600086 → n ≤ 7301442 → G X σ k n 541 ls [.int 1]) : G X (putW (hpush σ (eI x.1 x.2)) B ae W) k n 502 [(0, .ref b), (1, .ref B), (7, .ref σ.1)] [] := by
  refine g_aload_n hx 502 (i := 1) 1 dL_law_502 rfl rfl ?_
  refine g_callVr hx (c_SA_restoreSnapshot l g hC (hpush σ (eI x.1 x.2)) B W rfl) kl_116 ka_restoreSnapshot (pW _ B ae _ 0 (by decide)) (T := TX10) (N := 11) rfl (As := []) (rest := []) rfl (Nat.le_of_ble_eq_true rfl) ⟨Nat.le_of_ble_eq_true rfl, Nat.le_of_ble_eq_true rfl⟩ ⟨rfl, rfl⟩ ⟨by show _ ≤ 600086; omega, by show _ ≤ 7301442; omega⟩ dL_law_503 ?_
  refine g_nmi (x := 1) h1.symm ?_
  refine g_if_eq hx 506 540 dL_law_506 (by decide) (fun hc => absurd hc (by decide)) (fun _ => ?_)
  refine g_aload_n hx 509 (i := 1) 1 dL_law_509 rfl rfl ?_
  refine g_callS hx (c_Lw_all l g hC (hpush σ (eI x.1 x.2)) B (by show B + 437 ≤ σ.1 + 1; omega) (SA_restoreSnapshot W).2 e2) kl_196 ka_all (As := [.ref B]) (rest := []) rfl (Nat.le_of_ble_eq_true rfl) ⟨Nat.le_of_ble_eq_true rfl, Nat.le_of_ble_eq_true rfl⟩ ⟨by show _ + 1 ≤ 600086; omega, by show _ + 300 ≤ 7301442; omega⟩ dL_law_510 (fun v σ1 hp => ?_)
  obtain ⟨rfl, rfl⟩ := hp
  show G X (putW (hpush (hpush σ (eI x.1 x.2)) (eI z.1 z.2)) B ae (SA_restoreSnapshot W).2) (k + 1) (n + 300) 513 [(0, .ref b), (1, .ref B), (7, .ref σ.1)] [.ref ((σ.1 + 1))]
  refine g_aload hx 513 (i := 7) 2 dL_law_513 rfl ?_
  refine g_callSr hx (c_Lw_alike l g (N1 := z.1) (N2 := x.1) (f1 := z.2) (f2 := x.2) ((pW_out _ B ae _ (Or.inr (by show B + 437 ≤ σ.1 + 1; omega))).trans (hpush_self (hpush σ (eI x.1 x.2)) _)) ((pW_out _ B ae _ (Or.inr hB)).trans ((hpush_ne (hpush σ (eI x.1 x.2)) _ (show σ.1 ≠ σ.1 + 1 by omega)).trans (hpush_self σ _))) e3) kl_210 ka_alike (As := [.ref ((σ.1 + 1)), .ref σ.1]) (rest := []) rfl (Nat.le_of_ble_eq_true rfl) ⟨Nat.le_of_ble_eq_true rfl, Nat.le_of_ble_eq_true rfl⟩ ⟨rfl, rfl⟩ ⟨by show _ ≤ 600086; omega, by show _ ≤ 7301442; omega⟩ dL_law_515 ?_
  refine g_if_eq hx 518 540 dL_law_518 (by decide) (fun hc => absurd hc (by decide)) (fun _ => ?_)
  refine g_aload_n hx 521 (i := 1) 1 dL_law_521 rfl rfl ?_
  refine g_callVr hx (c_SA_undoCount l g hC (hpush (hpush σ (eI x.1 x.2)) (eI z.1 z.2)) B (SA_restoreSnapshot W).2 rfl) kl_200 ka_undoCount (pW _ B ae _ 0 (by decide)) (T := TX10) (N := 11) rfl (As := []) (rest := []) rfl (Nat.le_of_ble_eq_true rfl) ⟨Nat.le_of_ble_eq_true rfl, Nat.le_of_ble_eq_true rfl⟩ ⟨rfl, rfl⟩ ⟨by show _ ≤ 600086; omega, by show _ ≤ 7301442; omega⟩ dL_law_522 ?_
  refine g_nmi (x := 0) h4.symm ?_
  refine g_if_ne hx 525 540 dL_law_525 (by decide) (fun hc => absurd rfl hc) (fun _ => ?_)
  refine g_aload_n hx 528 (i := 1) 1 dL_law_528 rfl rfl ?_
  refine g_callVr hx (c_SA_undo l g hC (hpush (hpush σ (eI x.1 x.2)) (eI z.1 z.2)) B (SA_restoreSnapshot W).2 e5) kl_207 ka_undo (pW _ B ae _ 0 (by decide)) (T := TX10) (N := 11) rfl (As := []) (rest := []) rfl (Nat.le_of_ble_eq_true rfl) ⟨Nat.le_of_ble_eq_true rfl, Nat.le_of_ble_eq_true rfl⟩ ⟨rfl, rfl⟩ ⟨by show _ ≤ 600086; omega, by show _ ≤ 7301442; omega⟩ dL_law_529 ?_
  refine g_nmi (x := -1) h5.symm ?_
  refine g_iconst hx 532 (-1) dL_law_532 rfl ?_
  refine g_icmp_ne hx 533 540 dL_law_533 (by decide) (fun hc => absurd rfl hc) (fun _ => ?_)
  refine g_iconst hx 536 (1) dL_law_536 rfl ?_
  refine g_goto hx 537 541 dL_law_537 (by decide) ?_
  exact ret _ _ _ _ (by omega) (by omega)
set_option maxRecDepth 100000 in
set_option maxHeartbeats 4000000 in
theorem w_fin1 {X : Cx} {l : Launch} {g : Gl} {ad ae : Nat → Nat} (hx : Ok X l g RL cL_law 12 room_1) (hC : KAll g ad ae) {b L : Nat} {xs : Nat → Int32} (hs : Scr g b L xs) (hL : L ≤ 260) {B : Nat} {σ : Hp} {k n : Nat} (hk : k ≤ 600086) (hn : n ≤ 7301442) {x : AR} {Ws : Nat → WM} (hw : ∀ j, j < 5 → ∃ q : Int32 × WM, Lw_act (Ws j) (Lw_cell L xs (36 + j)) = some q ∧ q.1 = 1 ∧ q.2 = Ws (j + 1)) (next : G X (putW (hpush σ (eI x.1 x.2)) B ae (Ws 5)) k n 502 [(0, .ref b), (1, .ref B), (7, .ref σ.1)] []) : ∀ (i j : Nat), j + i = 5 → G X (putW (hpush σ (eI x.1 x.2)) B ae (Ws j)) k n 472 [(0, .ref b), (1, .ref B), (7, .ref σ.1), (8, .int (nI j))] [] := by
  intro i
  induction i with
  | zero =>
    intro j hj
    obtain rfl : j = 5 := by omega
    refine g_iload hx 472 (i := 8) 3 dL_law_472 rfl ?_
    refine g_iconst hx 474 (5) dL_law_474 rfl ?_
    refine g_icmp_ge hx 475 502 dL_law_475 (by decide) (fun _ => ?_) (fun hc => absurd (nI_le (a := 5) (by omega) (by omega)) hc)
    refine g_ls [0, 1, 2] [(0, .ref b), (1, .ref B), (7, .ref σ.1)] rfl ?_
    exact next
  | succ i ih =>
    intro j hj
    obtain ⟨q, e1, e2, e3⟩ := hw j (by omega)
    refine g_iload hx 472 (i := 8) 3 dL_law_472 rfl ?_
    refine g_iconst hx 474 (5) dL_law_474 rfl ?_
    refine g_icmp_ge hx 475 502 dL_law_475 (by decide) (fun hc => absurd hc (show ¬ nI 5 ≤ nI j from nI_ge (by omega) (by decide))) (fun _ => ?_)
    refine g_aload_n hx 478 (i := 1) 1 dL_law_478 rfl rfl ?_
    refine g_aload_n hx 479 (i := 0) 0 dL_law_479 rfl rfl ?_
    refine g_bipush hx 480 (36) dL_law_480 rfl ?_
    refine g_iload hx 482 (i := 8) 3 dL_law_482 rfl ?_
    refine g_iadd hx 484 dL_law_484 ?_
    refine g_nmi (x := nI (36 + j)) (show nI (36 + j) = nI 36 + nI j from (nI_add 36 j).symm) ?_
    refine g_callSr hx (c_Lw_cell l g _ hs (by omega) (36 + j) (by omega)) kl_150 ka_cell (As := [.ref b, .int (nI (36 + j))]) (rest := [.ref B]) rfl (Nat.le_of_ble_eq_true rfl) ⟨Nat.le_of_ble_eq_true rfl, Nat.le_of_ble_eq_true rfl⟩ ⟨rfl, rfl⟩ ⟨by show _ ≤ 600086; omega, by show _ ≤ 7301442; omega⟩ dL_law_485 ?_
    refine g_callSr hx (c_Lw_act l g hC (hpush σ (eI x.1 x.2)) B (Ws j) (Lw_cell L xs (36 + j)) e1) kl_203 ka_act (As := [.ref B, .int (Lw_cell L xs (36 + j))]) (rest := []) rfl (Nat.le_of_ble_eq_true rfl) ⟨Nat.le_of_ble_eq_true rfl, Nat.le_of_ble_eq_true rfl⟩ ⟨rfl, rfl⟩ ⟨by show _ ≤ 600086; omega, by show _ ≤ 7301442; omega⟩ dL_law_488 ?_
    rw [e3]
    refine g_nmi (x := 1) e2.symm ?_
    refine g_if_ne hx 491 496 dL_law_491 (by decide) (fun _ => ?_) (fun hc => absurd hc (by decide))
    refine g_iinc hx 496 (i := 8) 3 (nI (j + 1)) [(8, .int (nI (j + 1))), (0, .ref b), (1, .ref B), (7, .ref σ.1)] dL_law_496 rfl (nI_1 j) (by decide) rfl ?_
    refine g_goto hx 499 472 dL_law_499 (by decide) ?_
    refine g_ls [1, 2, 3, 0] [(0, .ref b), (1, .ref B), (7, .ref σ.1), (8, .int (nI (j + 1)))] rfl ?_
    exact ih (j + 1) (by omega)
set_option maxRecDepth 100000 in
set_option maxHeartbeats 4000000 in
theorem w_fin {X : Cx} {l : Launch} {g : Gl} {ad ae : Nat → Nat} (hx : Ok X l g RL cL_law 12 room_1) (hC : KAll g ad ae) {b L : Nat} {xs : Nat → Int32} (hs : Scr g b L xs) (hL : L ≤ 260) {B : Nat} {σ : Hp} (hB : B + 437 ≤ σ.1) {k n : Nat} (hk : k + 2 ≤ 600086) (hn : n + 600 ≤ 7301442) {W : WM} (h : L_fin L xs W) (ret : ∀ (σ : Hp) (k n : Nat) (ls : List (Nat × Value)), k ≤ 600086 → n ≤ 7301442 → G X σ k n 541 ls [.int 1]) : G X (putW σ B ae W) k n 459 [(0, .ref b), (1, .ref B)] [] := by
  obtain ⟨x, e1, Ws, h0, hw, h1, z, e2, e3, h4, q, e5, h5⟩ := h
  refine g_aload_n hx 459 (i := 1) 1 dL_law_459 rfl rfl ?_
  refine g_callVv hx (c_SA_saveSnapshot l g hC σ B W rfl) kl_98 ka_saveSnapshot (pW _ B ae _ 0 (by decide)) (T := TX10) (N := 11) rfl (As := []) (rest := []) rfl (Nat.le_of_ble_eq_true rfl) ⟨Nat.le_of_ble_eq_true rfl, Nat.le_of_ble_eq_true rfl⟩ ⟨rfl, rfl⟩ ⟨by show _ ≤ 600086; omega, by show _ ≤ 7301442; omega⟩ dL_law_460 ?_
  refine g_aload_n hx 463 (i := 1) 1 dL_law_463 rfl rfl ?_
  refine g_callS hx (c_Lw_all l g hC σ B hB (SA_saveSnapshot W) e1) kl_196 ka_all (As := [.ref B]) (rest := []) rfl (Nat.le_of_ble_eq_true rfl) ⟨Nat.le_of_ble_eq_true rfl, Nat.le_of_ble_eq_true rfl⟩ ⟨by show _ + 1 ≤ 600086; omega, by show _ + 300 ≤ 7301442; omega⟩ dL_law_464 (fun v σ1 hp => ?_)
  obtain ⟨rfl, rfl⟩ := hp
  show G X (putW (hpush σ (eI x.1 x.2)) B ae (SA_saveSnapshot W)) (k + 1) (n + 300) 467 [(0, .ref b), (1, .ref B)] [.ref σ.1]
  refine g_astore hx 467 (i := 7) [(7, .ref σ.1), (0, .ref b), (1, .ref B)] dL_law_467 (by decide) rfl ?_
  refine g_iconst hx 469 (0) dL_law_469 rfl ?_
  refine g_istore hx 470 (i := 8) [(8, .int 0), (7, .ref σ.1), (0, .ref b), (1, .ref B)] dL_law_470 (by decide) rfl ?_
  refine g_ls [2, 3, 1, 0] [(0, .ref b), (1, .ref B), (7, .ref σ.1), (8, .int 0)] rfl ?_
  rw [← h0]
  exact w_fin1 hx hC hs hL (by omega) (by omega) hw (w_fin2 hx hC hB (by omega) (by omega) h1 e2 e3 h4 e5 h5 ret) 5 0 rfl
set_option maxRecDepth 100000 in
set_option maxHeartbeats 4000000 in
theorem w_453 {X : Cx} {l : Launch} {g : Gl} {ad ae : Nat → Nat} (hx : Ok X l g RL cL_law 12 room_1) (hC : KAll g ad ae) {b B j k n : Nat} {σ : Hp} {W : WM} (h : G X (putW σ B ae W) k n 263 [(0, .ref b), (1, .ref B), (7, .int (nI (j + 1)))] []) : G X (putW σ B ae W) k n 453 [(0, .ref b), (1, .ref B), (7, .int (nI j))] [] := by
  refine g_iinc hx 453 (i := 7) 2 (nI (j + 1)) [(7, .int (nI (j + 1))), (0, .ref b), (1, .ref B)] dL_law_453 rfl (nI_1 j) (by decide) rfl ?_
  refine g_goto hx 456 263 dL_law_456 (by decide) ?_
  refine g_ls [1, 2, 0] [(0, .ref b), (1, .ref B), (7, .int (nI (j + 1)))] rfl ?_
  exact h
set_option maxRecDepth 100000 in
set_option maxHeartbeats 4000000 in
theorem w_420 {X : Cx} {l : Launch} {g : Gl} {ad ae : Nat → Nat} (hx : Ok X l g RL cL_law 12 room_1) (hC : KAll g ad ae) {b B j k n k0 n0 a2 : Nat} {σ : Hp} (hB : B + 437 ≤ σ.1) (ha2 : B + 437 ≤ a2) (hl2 : a2 < σ.1) (hj : j < 36) {u : Int32} {y : AR} (hy : σ.2 a2 = some (eI y.1 y.2)) (hk : k ≤ k0 + 4) (hn : n ≤ n0 + 1200) (hk0 : k0 + 5 ≤ 600086) (hn0 : n0 + 1500 ≤ 7301442) {W5 W' : WM} (h : L_srv j u y W5 W') (next : ∀ (σ' : Hp) (k' n' : Nat), B + 437 ≤ σ'.1 → k' ≤ k0 + 5 → n' ≤ n0 + 1500 → G X (putW σ' B ae W') k' n' 263 [(0, .ref b), (1, .ref B), (7, .int (nI (j + 1)))] []) : G X (putW σ B ae W5) k n 420 [(0, .ref b), (1, .ref B), (7, .int (nI j)), (8, .int u), (11, .ref a2)] [] := by
  refine g_iload hx 420 (i := 7) 2 dL_law_420 rfl ?_
  refine g_bipush hx 422 (9) dL_law_422 rfl ?_
  refine g_irem hx 424 dL_law_424 (by decide) ?_
  refine g_bipush hx 425 (8) dL_law_425 rfl ?_
  rcases h with ⟨h9, q, e1, e2, z, e3, e4, rfl⟩ | ⟨h9, rfl⟩
  · refine g_icmp_ne hx 427 453 dL_law_427 (by decide) (fun hc => absurd ((lj_9 j hj).mpr h9) hc) (fun _ => ?_)
    refine g_aload_n hx 430 (i := 1) 1 dL_law_430 rfl rfl ?_
    refine g_iload hx 431 (i := 8) 3 dL_law_431 rfl ?_
    refine g_callSr hx (c_Lw_isServed l g hC σ B W5 u e1) kl_214 ka_isServed (As := [.ref B, .int u]) (rest := []) rfl (Nat.le_of_ble_eq_true rfl) ⟨Nat.le_of_ble_eq_true rfl, Nat.le_of_ble_eq_true rfl⟩ ⟨rfl, rfl⟩ ⟨by show _ ≤ 600086; omega, by show _ ≤ 7301442; omega⟩ dL_law_433 ?_
    refine g_nmi (x := 1) e2.symm ?_
    refine g_if_eq hx 436 451 dL_law_436 (by decide) (fun hc => absurd hc (by decide)) (fun _ => ?_)
    refine g_aload_n hx 439 (i := 1) 1 dL_law_439 rfl rfl ?_
    refine g_callS hx (c_Lw_all l g hC σ B hB q.2 e3) kl_196 ka_all (As := [.ref B]) (rest := []) rfl (Nat.le_of_ble_eq_true rfl) ⟨Nat.le_of_ble_eq_true rfl, Nat.le_of_ble_eq_true rfl⟩ ⟨by show _ + 1 ≤ 600086; omega, by show _ + 300 ≤ 7301442; omega⟩ dL_law_440 (fun v σ1 hp => ?_)
    obtain ⟨rfl, rfl⟩ := hp
    show G X (putW (hpush σ (eI z.1 z.2)) B ae q.2) (k + 1) (n + 300) 443 [(0, .ref b), (1, .ref B), (7, .int (nI j)), (8, .int u), (11, .ref a2)] [.ref σ.1]
    refine g_aload hx 443 (i := 11) 4 dL_law_443 rfl ?_
    refine g_callSr hx (c_Lw_alike l g (N1 := z.1) (N2 := y.1) (f1 := z.2) (f2 := y.2) ((pW_out _ B ae _ (Or.inr hB)).trans (hpush_self σ _)) ((pW_out _ B ae _ (Or.inr ha2)).trans ((hpush_ne σ _ (by omega)).trans hy)) e4) kl_210 ka_alike (As := [.ref σ.1, .ref a2]) (rest := []) rfl (Nat.le_of_ble_eq_true rfl) ⟨Nat.le_of_ble_eq_true rfl, Nat.le_of_ble_eq_true rfl⟩ ⟨rfl, rfl⟩ ⟨by show _ ≤ 600086; omega, by show _ ≤ 7301442; omega⟩ dL_law_445 ?_
    refine g_if_ne hx 448 453 dL_law_448 (by decide) (fun _ => ?_) (fun hc => absurd hc (by decide))
    refine g_ls [0, 1, 2] [(0, .ref b), (1, .ref B), (7, .int (nI j))] rfl ?_
    exact w_453 hx hC (next _ _ _ (by show B + 437 ≤ σ.1 + 1; omega) (by omega) (by omega))
  · refine g_icmp_ne hx 427 453 dL_law_427 (by decide) (fun _ => ?_) (fun hc => absurd ((lj_9 j hj).mp hc) h9)
    refine g_ls [0, 1, 2] [(0, .ref b), (1, .ref B), (7, .int (nI j))] rfl ?_
    exact w_453 hx hC (next _ _ _ hB (by omega) (by omega))
set_option maxRecDepth 100000 in
set_option maxHeartbeats 4000000 in
theorem w_392 {X : Cx} {l : Launch} {g : Gl} {ad ae : Nat → Nat} (hx : Ok X l g RL cL_law 12 room_1) (hC : KAll g ad ae) {b B j k n k0 n0 a1 a2 : Nat} {σ : Hp} (hB : B + 437 ≤ σ.1) (ha1 : B + 437 ≤ a1) (ha2 : B + 437 ≤ a2) (hl2 : a2 < σ.1) (hj : j < 36) {u ops : Int32} {x y : AR} (hx1 : σ.2 a1 = some (eI x.1 x.2)) (hy : σ.2 a2 = some (eI y.1 y.2)) (hk : k ≤ k0 + 4) (hn : n ≤ n0 + 1200) (hk0 : k0 + 5 ≤ 600086) (hn0 : n0 + 1500 ≤ 7301442) {W5 W' : WM} (hal : SA_undoCount W5 = ops → ops < 8 → alk x y) (h : L_srv j u y W5 W') (next : ∀ (σ' : Hp) (k' n' : Nat), B + 437 ≤ σ'.1 → k' ≤ k0 + 5 → n' ≤ n0 + 1500 → G X (putW σ' B ae W') k' n' 263 [(0, .ref b), (1, .ref B), (7, .int (nI (j + 1)))] []) : G X (putW σ B ae W5) k n 392 [(0, .ref b), (1, .ref B), (7, .int (nI j)), (8, .int u), (9, .ref a1), (10, .int ops), (11, .ref a2)] [] := by
  refine g_aload_n hx 392 (i := 1) 1 dL_law_392 rfl rfl ?_
  refine g_callVr hx (c_SA_undoCount l g hC σ B W5 rfl) kl_200 ka_undoCount (pW _ B ae _ 0 (by decide)) (T := TX10) (N := 11) rfl (As := []) (rest := []) rfl (Nat.le_of_ble_eq_true rfl) ⟨Nat.le_of_ble_eq_true rfl, Nat.le_of_ble_eq_true rfl⟩ ⟨rfl, rfl⟩ ⟨by show _ ≤ 600086; omega, by show _ ≤ 7301442; omega⟩ dL_law_393 ?_
  refine g_iload hx 396 (i := 10) 5 dL_law_396 rfl ?_
  by_cases h1 : SA_undoCount W5 = ops
  · refine g_icmp_ne hx 398 420 dL_law_398 (by decide) (fun hc => absurd h1 hc) (fun _ => ?_)
    refine g_iload hx 401 (i := 10) 5 dL_law_401 rfl ?_
    refine g_bipush hx 403 (8) dL_law_403 rfl ?_
    by_cases h2 : ops < 8
    · refine g_icmp_ge hx 405 420 dL_law_405 (by decide) (fun hc => absurd h2 (Int32.not_lt.mpr hc)) (fun _ => ?_)
      refine g_aload hx 408 (i := 9) 4 dL_law_408 rfl ?_
      refine g_aload hx 410 (i := 11) 6 dL_law_410 rfl ?_
      refine g_callSr hx (c_Lw_alike l g (N1 := x.1) (N2 := y.1) (f1 := x.2) (f2 := y.2) ((pW_out _ B ae _ (Or.inr ha1)).trans hx1) ((pW_out _ B ae _ (Or.inr ha2)).trans hy) (hal h1 h2)) kl_210 ka_alike (As := [.ref a1, .ref a2]) (rest := []) rfl (Nat.le_of_ble_eq_true rfl) ⟨Nat.le_of_ble_eq_true rfl, Nat.le_of_ble_eq_true rfl⟩ ⟨rfl, rfl⟩ ⟨by show _ ≤ 600086; omega, by show _ ≤ 7301442; omega⟩ dL_law_412 ?_
      refine g_if_ne hx 415 420 dL_law_415 (by decide) (fun _ => ?_) (fun hc => absurd hc (by decide))
      refine g_ls [0, 1, 2, 3, 6] [(0, .ref b), (1, .ref B), (7, .int (nI j)), (8, .int u), (11, .ref a2)] rfl ?_
      exact w_420 hx hC hB ha2 hl2 hj hy hk hn hk0 hn0 h next
    · refine g_icmp_ge hx 405 420 dL_law_405 (by decide) (fun _ => ?_) (fun hc => absurd (Int32.not_le.mp hc) h2)
      refine g_ls [0, 1, 2, 3, 6] [(0, .ref b), (1, .ref B), (7, .int (nI j)), (8, .int u), (11, .ref a2)] rfl ?_
      exact w_420 hx hC hB ha2 hl2 hj hy hk hn hk0 hn0 h next
  · refine g_icmp_ne hx 398 420 dL_law_398 (by decide) (fun _ => ?_) (fun hc => absurd hc h1)
    refine g_ls [0, 1, 2, 3, 6] [(0, .ref b), (1, .ref B), (7, .int (nI j)), (8, .int u), (11, .ref a2)] rfl ?_
    exact w_420 hx hC hB ha2 hl2 hj hy hk hn hk0 hn0 h next
set_option maxRecDepth 100000 in
set_option maxHeartbeats 4000000 in
theorem w_step {X : Cx} {l : Launch} {g : Gl} {ad ae : Nat → Nat} (hx : Ok X l g RL cL_law 12 room_1) (hC : KAll g ad ae) {b L : Nat} {xs : Nat → Int32} (hs : Scr g b L xs) (hL : L ≤ 260) {B j k n : Nat} {σ : Hp} (hB : B + 437 ≤ σ.1) (hj : j < 36) (hk : k + 5 ≤ 600086) (hn : n + 1500 ≤ 7301442) {W W' : WM} (h : L_step j (Lw_u L xs j) W W') (next : ∀ (σ' : Hp) (k' n' : Nat), B + 437 ≤ σ'.1 → k' ≤ k + 5 → n' ≤ n + 1500 → G X (putW σ' B ae W') k' n' 263 [(0, .ref b), (1, .ref B), (7, .int (nI (j + 1)))] []) : G X (putW σ B ae W) k n 263 [(0, .ref b), (1, .ref B), (7, .int (nI j))] [] := by
  refine g_iload hx 263 (i := 7) 2 dL_law_263 rfl ?_
  refine g_bipush hx 265 (36) dL_law_265 rfl ?_
  refine g_icmp_ge hx 267 459 dL_law_267 (by decide) (fun hc => absurd hc (show ¬ nI 36 ≤ nI j from nI_ge (by omega) (by decide))) (fun _ => ?_)
  refine g_aload_n hx 270 (i := 0) 0 dL_law_270 rfl rfl ?_
  refine g_bipush hx 271 (8) dL_law_271 rfl ?_
  refine g_iload hx 273 (i := 7) 2 dL_law_273 rfl ?_
  refine g_bipush hx 275 (28) dL_law_275 rfl ?_
  refine g_irem hx 277 dL_law_277 (by decide) ?_
  refine g_iadd hx 278 dL_law_278 ?_
  refine g_nmi (x := nI (8 + j % 28)) (lj_28 j hj) ?_
  refine g_callSr hx (c_Lw_cell l g _ hs (by omega) (8 + j % 28) (by omega)) kl_150 ka_cell (As := [.ref b, .int (nI (8 + j % 28))]) (rest := []) rfl (Nat.le_of_ble_eq_true rfl) ⟨Nat.le_of_ble_eq_true rfl, Nat.le_of_ble_eq_true rfl⟩ ⟨rfl, rfl⟩ ⟨by show _ ≤ 600086; omega, by show _ ≤ 7301442; omega⟩ dL_law_279 ?_
  refine g_iload hx 282 (i := 7) 2 dL_law_282 rfl ?_
  refine g_bipush hx 284 (28) dL_law_284 rfl ?_
  refine g_idiv hx 286 dL_law_286 (by decide) ?_
  refine g_iconst hx 287 (2) dL_law_287 rfl ?_
  refine g_imul hx 288 dL_law_288 ?_
  refine g_ishr hx 289 dL_law_289 ?_
  refine g_nmi (x := Lw_u L xs j) (show Lw_u L xs j = _ from rfl) ?_
  refine g_istore hx 290 (i := 8) [(8, .int (Lw_u L xs j)), (0, .ref b), (1, .ref B), (7, .int (nI j))] dL_law_290 (by decide) rfl ?_
  refine g_aload_n hx 292 (i := 1) 2 dL_law_292 rfl rfl ?_
  generalize Lw_u L xs j = u at h ⊢
  obtain ⟨q1, e1, e2, x, e3, q2, e4, e5, y, e6, W5, hu, hal, hsv⟩ := h
  refine g_callSr hx (c_Lw_isArchive l g hC σ B W e1) kl_192 ka_isArchive (As := [.ref B]) (rest := []) rfl (Nat.le_of_ble_eq_true rfl) ⟨Nat.le_of_ble_eq_true rfl, Nat.le_of_ble_eq_true rfl⟩ ⟨rfl, rfl⟩ ⟨by show _ ≤ 600086; omega, by show _ ≤ 7301442; omega⟩ dL_law_293 ?_
  refine g_nmi (x := 1) e2.symm ?_
  refine g_if_ne hx 296 301 dL_law_296 (by decide) (fun _ => ?_) (fun hc => absurd hc (by decide))
  refine g_aload_n hx 301 (i := 1) 2 dL_law_301 rfl rfl ?_
  refine g_callS hx (c_Lw_all l g hC σ B hB q1.2 e3) kl_196 ka_all (As := [.ref B]) (rest := []) rfl (Nat.le_of_ble_eq_true rfl) ⟨Nat.le_of_ble_eq_true rfl, Nat.le_of_ble_eq_true rfl⟩ ⟨by show _ + 1 ≤ 600086; omega, by show _ + 300 ≤ 7301442; omega⟩ dL_law_302 (fun v σ1 hp => ?_)
  obtain ⟨rfl, rfl⟩ := hp
  show G X (putW (hpush σ (eI x.1 x.2)) B ae q1.2) (k + 1) (n + 300) 305 [(8, .int u), (0, .ref b), (1, .ref B), (7, .int (nI j))] [.ref σ.1]
  refine g_astore hx 305 (i := 9) [(9, .ref σ.1), (8, .int u), (0, .ref b), (1, .ref B), (7, .int (nI j))] dL_law_305 (by decide) rfl ?_
  refine g_aload_n hx 307 (i := 1) 3 dL_law_307 rfl rfl ?_
  refine g_callVr hx (c_SA_undoCount l g hC (hpush σ (eI x.1 x.2)) B q1.2 rfl) kl_200 ka_undoCount (pW _ B ae _ 0 (by decide)) (T := TX10) (N := 11) rfl (As := []) (rest := []) rfl (Nat.le_of_ble_eq_true rfl) ⟨Nat.le_of_ble_eq_true rfl, Nat.le_of_ble_eq_true rfl⟩ ⟨rfl, rfl⟩ ⟨by show _ ≤ 600086; omega, by show _ ≤ 7301442; omega⟩ dL_law_308 ?_
  refine g_istore hx 311 (i := 10) [(10, .int (SA_undoCount q1.2)), (9, .ref σ.1), (8, .int u), (0, .ref b), (1, .ref B), (7, .int (nI j))] dL_law_311 (by decide) rfl ?_
  refine g_aload_n hx 313 (i := 1) 4 dL_law_313 rfl rfl ?_
  refine g_iload hx 314 (i := 8) 2 dL_law_314 rfl ?_
  refine g_callSr hx (c_Lw_act l g hC (hpush σ (eI x.1 x.2)) B q1.2 u e4) kl_203 ka_act (As := [.ref B, .int u]) (rest := []) rfl (Nat.le_of_ble_eq_true rfl) ⟨Nat.le_of_ble_eq_true rfl, Nat.le_of_ble_eq_true rfl⟩ ⟨rfl, rfl⟩ ⟨by show _ ≤ 600086; omega, by show _ ≤ 7301442; omega⟩ dL_law_316 ?_
  refine g_nmi (x := 1) e5.symm ?_
  refine g_if_ne hx 319 324 dL_law_319 (by decide) (fun _ => ?_) (fun hc => absurd hc (by decide))
  refine g_aload_n hx 324 (i := 1) 4 dL_law_324 rfl rfl ?_
  refine g_callS hx (c_Lw_all l g hC (hpush σ (eI x.1 x.2)) B (by show B + 437 ≤ σ.1 + 1; omega) q2.2 e6) kl_196 ka_all (As := [.ref B]) (rest := []) rfl (Nat.le_of_ble_eq_true rfl) ⟨Nat.le_of_ble_eq_true rfl, Nat.le_of_ble_eq_true rfl⟩ ⟨by show _ + 1 ≤ 600086; omega, by show _ + 300 ≤ 7301442; omega⟩ dL_law_325 (fun v σ1 hp => ?_)
  obtain ⟨rfl, rfl⟩ := hp
  show G X (putW (hpush (hpush σ (eI x.1 x.2)) (eI y.1 y.2)) B ae q2.2) (k + 1 + 1) (n + 300 + 300) 328 [(10, .int (SA_undoCount q1.2)), (9, .ref σ.1), (8, .int u), (0, .ref b), (1, .ref B), (7, .int (nI j))] [.ref ((σ.1 + 1))]
  refine g_astore hx 328 (i := 11) [(11, .ref ((σ.1 + 1))), (10, .int (SA_undoCount q1.2)), (9, .ref σ.1), (8, .int u), (0, .ref b), (1, .ref B), (7, .int (nI j))] dL_law_328 (by decide) rfl ?_
  refine g_aload_n hx 330 (i := 1) 5 dL_law_330 rfl rfl ?_
  refine g_callVr hx (c_SA_undoCount l g hC (hpush (hpush σ (eI x.1 x.2)) (eI y.1 y.2)) B q2.2 rfl) kl_200 ka_undoCount (pW _ B ae _ 0 (by decide)) (T := TX10) (N := 11) rfl (As := []) (rest := []) rfl (Nat.le_of_ble_eq_true rfl) ⟨Nat.le_of_ble_eq_true rfl, Nat.le_of_ble_eq_true rfl⟩ ⟨rfl, rfl⟩ ⟨by show _ ≤ 600086; omega, by show _ ≤ 7301442; omega⟩ dL_law_331 ?_
  refine g_iload hx 334 (i := 10) 1 dL_law_334 rfl ?_
  refine g_iconst hx 336 (1) dL_law_336 rfl ?_
  refine g_iadd hx 337 dL_law_337 ?_
  have hgx : (hpush (hpush σ (eI x.1 x.2)) (eI y.1 y.2)).2 σ.1 = some (eI x.1 x.2) := (hpush_ne (hpush σ (eI x.1 x.2)) _ (show σ.1 ≠ σ.1 + 1 by omega)).trans (hpush_self σ _)
  have hgy : (hpush (hpush σ (eI x.1 x.2)) (eI y.1 y.2)).2 (σ.1 + 1) = some (eI y.1 y.2) := hpush_self (hpush σ (eI x.1 x.2)) _
  have hz2 : (hpush (hpush σ (eI x.1 x.2)) (eI y.1 y.2)).1 = σ.1 + 2 := rfl
  generalize (hpush (hpush σ (eI x.1 x.2)) (eI y.1 y.2)) = τ at hgx hgy hz2 ⊢
  rcases hu with ⟨h1, h3, q, e7, e8, z, e9, e10, q', e11, e12, y', e13, e14, rfl⟩ | ⟨hno, rfl⟩
  · refine g_icmp_ne hx 338 392 dL_law_338 (by decide) (fun hc => absurd h1 hc) (fun _ => ?_)
    refine g_iload hx 341 (i := 7) 6 dL_law_341 rfl ?_
    refine g_iconst hx 343 (3) dL_law_343 rfl ?_
    refine g_irem hx 344 dL_law_344 (by decide) ?_
    refine g_if_ne hx 345 392 dL_law_345 (by decide) (fun hc => absurd ((lj_3 j hj).mpr h3) hc) (fun _ => ?_)
    refine g_aload_n hx 348 (i := 1) 5 dL_law_348 rfl rfl ?_
    refine g_callVr hx (c_SA_undo l g hC τ B q2.2 e7) kl_207 ka_undo (pW _ B ae _ 0 (by decide)) (T := TX10) (N := 11) rfl (As := []) (rest := []) rfl (Nat.le_of_ble_eq_true rfl) ⟨Nat.le_of_ble_eq_true rfl, Nat.le_of_ble_eq_true rfl⟩ ⟨rfl, rfl⟩ ⟨by show _ ≤ 600086; omega, by show _ ≤ 7301442; omega⟩ dL_law_349 ?_
    refine g_nmi (x := SA_undoCount q1.2) e8.symm ?_
    refine g_iload hx 352 (i := 10) 1 dL_law_352 rfl ?_
    refine g_icmp_ne hx 354 390 dL_law_354 (by decide) (fun hc => absurd rfl hc) (fun _ => ?_)
    refine g_aload_n hx 357 (i := 1) 5 dL_law_357 rfl rfl ?_
    refine g_callS hx (c_Lw_all l g hC τ B (by omega) q.2 e9) kl_196 ka_all (As := [.ref B]) (rest := []) rfl (Nat.le_of_ble_eq_true rfl) ⟨Nat.le_of_ble_eq_true rfl, Nat.le_of_ble_eq_true rfl⟩ ⟨by show _ + 1 ≤ 600086; omega, by show _ + 300 ≤ 7301442; omega⟩ dL_law_358 (fun v σ1 hp => ?_)
    obtain ⟨rfl, rfl⟩ := hp
    show G X (putW (hpush τ (eI z.1 z.2)) B ae q.2) (k + 1 + 1 + 1) (n + 300 + 300 + 300) 361 [(11, .ref ((σ.1 + 1))), (10, .int (SA_undoCount q1.2)), (9, .ref σ.1), (8, .int u), (0, .ref b), (1, .ref B), (7, .int (nI j))] [.ref τ.1]
    refine g_aload hx 361 (i := 9) 2 dL_law_361 rfl ?_
    refine g_callSr hx (c_Lw_alike l g (N1 := z.1) (N2 := x.1) (f1 := z.2) (f2 := x.2) ((pW_out _ B ae _ (Or.inr (by omega))).trans (hpush_self τ _)) ((pW_out _ B ae _ (Or.inr hB)).trans ((hpush_ne τ _ (by omega)).trans hgx)) e10) kl_210 ka_alike (As := [.ref τ.1, .ref σ.1]) (rest := []) rfl (Nat.le_of_ble_eq_true rfl) ⟨Nat.le_of_ble_eq_true rfl, Nat.le_of_ble_eq_true rfl⟩ ⟨rfl, rfl⟩ ⟨by show _ ≤ 600086; omega, by show _ ≤ 7301442; omega⟩ dL_law_363 ?_
    refine g_if_eq hx 366 390 dL_law_366 (by decide) (fun hc => absurd hc (by decide)) (fun _ => ?_)
    refine g_aload_n hx 369 (i := 1) 5 dL_law_369 rfl rfl ?_
    refine g_iload hx 370 (i := 8) 3 dL_law_370 rfl ?_
    refine g_callSr hx (c_Lw_act l g hC (hpush τ (eI z.1 z.2)) B q.2 u e11) kl_203 ka_act (As := [.ref B, .int u]) (rest := []) rfl (Nat.le_of_ble_eq_true rfl) ⟨Nat.le_of_ble_eq_true rfl, Nat.le_of_ble_eq_true rfl⟩ ⟨rfl, rfl⟩ ⟨by show _ ≤ 600086; omega, by show _ ≤ 7301442; omega⟩ dL_law_372 ?_
    refine g_nmi (x := 1) e12.symm ?_
    refine g_if_eq hx 375 390 dL_law_375 (by decide) (fun hc => absurd hc (by decide)) (fun _ => ?_)
    refine g_aload_n hx 378 (i := 1) 5 dL_law_378 rfl rfl ?_
    refine g_callS hx (c_Lw_all l g hC (hpush τ (eI z.1 z.2)) B (by show B + 437 ≤ τ.1 + 1; omega) q'.2 e13) kl_196 ka_all (As := [.ref B]) (rest := []) rfl (Nat.le_of_ble_eq_true rfl) ⟨Nat.le_of_ble_eq_true rfl, Nat.le_of_ble_eq_true rfl⟩ ⟨by show _ + 1 ≤ 600086; omega, by show _ + 300 ≤ 7301442; omega⟩ dL_law_379 (fun v σ1 hp => ?_)
    obtain ⟨rfl, rfl⟩ := hp
    show G X (putW (hpush (hpush τ (eI z.1 z.2)) (eI y'.1 y'.2)) B ae q'.2) (k + 1 + 1 + 1 + 1) (n + 300 + 300 + 300 + 300) 382 [(11, .ref ((σ.1 + 1))), (10, .int (SA_undoCount q1.2)), (9, .ref σ.1), (8, .int u), (0, .ref b), (1, .ref B), (7, .int (nI j))] [.ref ((τ.1 + 1))]
    refine g_aload hx 382 (i := 11) 0 dL_law_382 rfl ?_
    refine g_callSr hx (c_Lw_alike l g (N1 := y'.1) (N2 := y.1) (f1 := y'.2) (f2 := y.2) ((pW_out _ B ae _ (Or.inr (by show B + 437 ≤ τ.1 + 1; omega))).trans (hpush_self (hpush τ (eI z.1 z.2)) _)) ((pW_out _ B ae _ (Or.inr (by omega))).trans ((hpush_ne (hpush τ (eI z.1 z.2)) _ (show σ.1 + 1 ≠ τ.1 + 1 by omega)).trans ((hpush_ne τ _ (by omega)).trans hgy))) e14) kl_210 ka_alike (As := [.ref ((τ.1 + 1)), .ref ((σ.1 + 1))]) (rest := []) rfl (Nat.le_of_ble_eq_true rfl) ⟨Nat.le_of_ble_eq_true rfl, Nat.le_of_ble_eq_true rfl⟩ ⟨rfl, rfl⟩ ⟨by show _ ≤ 600086; omega, by show _ ≤ 7301442; omega⟩ dL_law_384 ?_
    refine g_if_ne hx 387 392 dL_law_387 (by decide) (fun _ => ?_) (fun hc => absurd hc (by decide))
    refine g_ls [4, 5, 6, 3, 2, 1, 0] [(0, .ref b), (1, .ref B), (7, .int (nI j)), (8, .int u), (9, .ref σ.1), (10, .int (SA_undoCount q1.2)), (11, .ref ((σ.1 + 1)))] rfl ?_
    exact w_392 hx hC (show B + 437 ≤ τ.1 + 1 + 1 by omega) hB (by omega) (show σ.1 + 1 < τ.1 + 1 + 1 by omega) hj ((hpush_ne (hpush τ (eI z.1 z.2)) _ (show σ.1 ≠ τ.1 + 1 by omega)).trans ((hpush_ne τ _ (by omega)).trans hgx)) ((hpush_ne (hpush τ (eI z.1 z.2)) _ (show σ.1 + 1 ≠ τ.1 + 1 by omega)).trans ((hpush_ne τ _ (by omega)).trans hgy)) (by omega) (by omega) hk hn hal hsv next
  · by_cases h1 : SA_undoCount q2.2 = SA_undoCount q1.2 + 1
    · refine g_icmp_ne hx 338 392 dL_law_338 (by decide) (fun hc => absurd h1 hc) (fun _ => ?_)
      refine g_iload hx 341 (i := 7) 6 dL_law_341 rfl ?_
      refine g_iconst hx 343 (3) dL_law_343 rfl ?_
      refine g_irem hx 344 dL_law_344 (by decide) ?_
      refine g_if_ne hx 345 392 dL_law_345 (by decide) (fun _ => ?_) (fun hc => absurd ((lj_3 j hj).mp hc) (fun h3 => hno ⟨h1, h3⟩))
      refine g_ls [4, 5, 6, 3, 2, 1, 0] [(0, .ref b), (1, .ref B), (7, .int (nI j)), (8, .int u), (9, .ref σ.1), (10, .int (SA_undoCount q1.2)), (11, .ref ((σ.1 + 1)))] rfl ?_
      exact w_392 hx hC (by omega) hB (by omega) (by omega) hj hgx hgy (by omega) (by omega) hk hn hal hsv next
    · refine g_icmp_ne hx 338 392 dL_law_338 (by decide) (fun _ => ?_) (fun hc => absurd hc h1)
      refine g_ls [4, 5, 6, 3, 2, 1, 0] [(0, .ref b), (1, .ref B), (7, .int (nI j)), (8, .int u), (9, .ref σ.1), (10, .int (SA_undoCount q1.2)), (11, .ref ((σ.1 + 1)))] rfl ?_
      exact w_392 hx hC (by omega) hB (by omega) (by omega) hj hgx hgy (by omega) (by omega) hk hn hal hsv next
set_option maxRecDepth 100000 in
set_option maxHeartbeats 4000000 in
theorem w_main {X : Cx} {l : Launch} {g : Gl} {ad ae : Nat → Nat} (hx : Ok X l g RL cL_law 12 room_1) (hC : KAll g ad ae) {b L : Nat} {xs : Nat → Int32} (hs : Scr g b L xs) (hL : L ≤ 260) {B : Nat} {Ws : Nat → WM} (hw : ∀ j, j < 36 → L_step j (Lw_u L xs j) (Ws j) (Ws (j + 1))) (hf : L_fin L xs (Ws 36)) (ret : ∀ (σ : Hp) (k n : Nat) (ls : List (Nat × Value)), k ≤ 600086 → n ≤ 7301442 → G X σ k n 541 ls [.int 1]) : ∀ (i j : Nat) (σ : Hp) (k n : Nat), j + i = 36 → B + 437 ≤ σ.1 → k + 5 * i + 2 ≤ 600086 → n + 1500 * i + 600 ≤ 7301442 → G X (putW σ B ae (Ws j)) k n 263 [(0, .ref b), (1, .ref B), (7, .int (nI j))] [] := by
  intro i
  induction i with
  | zero =>
    intro j σ k n hj hB hk hn
    obtain rfl : j = 36 := by omega
    refine g_iload hx 263 (i := 7) 2 dL_law_263 rfl ?_
    refine g_bipush hx 265 (36) dL_law_265 rfl ?_
    refine g_icmp_ge hx 267 459 dL_law_267 (by decide) (fun _ => ?_) (fun hc => absurd (Int32.le_refl _) hc)
    refine g_ls [0, 1] [(0, .ref b), (1, .ref B)] rfl ?_
    exact w_fin hx hC hs hL hB (by omega) (by omega) hf ret
  | succ i ih =>
    intro j σ k n hj hB hk hn
    exact w_step hx hC hs hL hB (by omega) (by omega) (by omega) (hw j (by omega)) (fun σ' k' n' h1 h2 h3 => ih (j + 1) σ' k' n' (by omega) h1 (by omega) (by omega))
