/-! the law's wrappers -/
def KN (g : Gl) : Prop := ∀ U, g.2.2.2 U → va_Nc iae nse U ∧ (Cond.castable iae iae).before #[] U = true ∧ (Cond.castable nse nse).before #[] U = true
theorem pW_out (σ : Hp) (B : Nat) (ae : Nat → Nat) (w : WM) {o : Nat} (h : o < B ∨ B + 437 ≤ o) : (putW σ B ae w).2 o = σ.2 o := if_neg (by omega)
def PWr {α : Type} (r : Nat ⊕ α) (ci : Nat → Int32) (h0 : Nat → Option Ent) (fin : α → Hp) : Option Value → Hp → Prop := fun v σ' => (∃ k, r = .inl k ∧ v = some (.int (ci k)) ∧ σ'.2 = h0) ∨ ∃ u, r = .inr u ∧ v = some (.int 0) ∧ σ' = fin u
theorem vp01 : vp_in 0 1 := by
  show ¬ ((0 : Int32) < 0 ∨ 1 ≤ (0 : Int32).toNatClampNeg)
  decide
theorem xl_13 : Cond.classLink RL 13 iae ∈ aw := aw1 (by decide +kernel)
theorem xl_25 : Cond.classLink RL 25 nse ∈ aw := aw1 (by decide +kernel)
theorem KN.i {g : Gl} (h : KN g) : ∀ U, g.2.2.2 U → (Cond.castable iae iae).before #[] U = true := fun U hU => (h U hU).2.1
theorem KN.n {g : Gl} (h : KN g) : ∀ U, g.2.2.2 U → (Cond.castable nse nse).before #[] U = true := fun U hU => (h U hU).2.2
theorem goes_one {g : Gl} {pc a b h t : Nat} {E : String} (hc : covers ⟨a, b, h, t⟩ pc = true) (h0 : t ≠ 0) (hl : Cond.classLink RL t E ∈ aw) (hx : ∀ U, g.2.2.2 U → (Cond.castable E E).before #[] U = true) : Goes1 g RL [(a, b, h, t)] pc E h :=
  ⟨[], (a, b, h, t), [], E, rfl, fun z hz => absurd hz List.not_mem_nil, hc, h0, hl, hx, rfl⟩
theorem goes_two1 {g : Gl} {pc a b h a' b' h' t' t : Nat} {E : String} (hc : covers ⟨a, b, h, t⟩ pc = true) (h0 : t ≠ 0) (hl : Cond.classLink RL t E ∈ aw) (hx : ∀ U, g.2.2.2 U → (Cond.castable E E).before #[] U = true) : Goes1 g RL [(a, b, h, t), (a', b', h', t')] pc E h :=
  ⟨[], (a, b, h, t), [(a', b', h', t')], E, rfl, fun z hz => absurd hz List.not_mem_nil, hc, h0, hl, hx, rfl⟩
theorem goes_two2 {g : Gl} (hN : KN g) {pc a b h a' b' h' : Nat} (hc : covers ⟨a', b', h', 13⟩ pc = true) : Goes1 g RL [(a, b, h, 25), (a', b', h', 13)] pc iae h' :=
  ⟨[(a, b, h, 25)], (a', b', h', 13), [], iae, rfl, fun z hz => by
    cases List.mem_singleton.mp hz
    exact ⟨show (25 : Nat) ≠ 0 by decide, nse, xl_25, fun U hU => (hN U hU).1⟩, hc, show (13 : Nat) ≠ 0 by decide, xl_13, hN.i, rfl⟩
def md_L_load : Md := (yL_load, cL_load, 4, some .int, 8, 192, 1, 6)
def hh_load : List (Nat × Nat × Nat × Nat) := [(0, 9, 12, 13)]
theorem lk_L_load : Lk md_SA_load [.methodLink RL 7 md_SA_load.y, .instanceMethod md_SA_load.y, .selects md_SA_load.y.cls md_SA_load.y md_SA_load.y] := lk_of (by decide +kernel)
theorem arL_load : Arity md_SA_load 1 := ⟨by decide +kernel, by decide +kernel, by decide +kernel⟩
set_option maxRecDepth 100000 in
set_option maxHeartbeats 4000000 in
theorem c_L_load {ad ae : Nat → Nat} (l : Launch) (g : Gl) (hC : KAll g ad ae) (hN : KN g) (hl : l.stackTraces = false) (σ : Hp) (B : Nat) (M : WM) (p1 : Int32) {o : Nat} {f : Nat → Int64} (ho : σ.2 o = some (eJ 1 f)) (hob : o < B ∨ B + 437 ≤ o) {r : Nat ⊕ (Int32 × WM)} (hr : SA_load M p1 = some r) (hk : ∀ k, r = .inl k → k = 0) : MW l g md_L_load hh_load [.ref B, .int p1, .ref o] (putW σ B ae M) (PWr r ci1 (putW σ B ae M).2 (fun u => hset (putW σ B ae u.2) o (eJ 1 (vp_updL f 0 u.1.toInt64)))) := by
  refine MW.intro (by decide +kernel) (Nat.le_of_ble_eq_true rfl) (fun X hx hR => ?_)
  refine g_ls [0, 1, 2] [(0, .ref B), (1, .int p1), (2, .ref o)] rfl ?_
  refine g_aload_n hx 0 (i := 2) 2 dL_load_0 rfl rfl ?_
  refine g_iconst hx 1 (0) dL_load_1 rfl ?_
  refine g_aload_n hx 2 (i := 0) 0 dL_load_2 rfl rfl ?_
  refine g_iload_n hx 3 (i := 1) 1 dL_load_3 rfl rfl ?_
  refine g_callT hx hR (c_SA_load l g hC hl σ B M p1 hr) lk_L_load arL_load (pW σ B ae M 0 (by decide)) (T := TX10) (N := 11) rfl (As := [.int p1]) (rest := [.int 0, .ref o]) rfl (Nat.le_of_ble_eq_true rfl) ⟨Nat.le_of_ble_eq_true rfl, Nat.le_of_ble_eq_true rfl⟩ ⟨Nat.le_of_ble_eq_true rfl, Nat.le_of_ble_eq_true rfl⟩ dL_load_4 (fun v σ1 hp => ?_) (fun E σ1 hp => ?_)
  · obtain ⟨u, hu, rfl, rfl⟩ := hp
    refine g_i2l hx 7 dL_load_7 ?_
    refine g_last hx 8 ((pW_out σ B ae u.2 hob).trans ho) vp01 dL_load_8 ?_
    refine g_goto hx 9 15 dL_load_9 (by decide) ?_
    refine g_iconst hx 15 (0) dL_load_15 rfl ?_
    exact g_iretW hx hR 16 dL_load_16 ⟨Nat.le_of_ble_eq_true rfl, Nat.le_of_ble_eq_true rfl⟩ (Or.inr ⟨u, hu, rfl, rfl⟩)
  · obtain ⟨k, hk1, rfl, he⟩ := hp
    obtain rfl := hk k hk1
    refine ⟨12, goes_one (by decide) (by decide) xl_13 hN.i, fun q => ?_⟩
    refine g_astore_n hx 12 (i := 3) [(3, .ref q), (0, .ref B), (1, .int p1), (2, .ref o)] dL_load_12 rfl (by decide) rfl ?_
    refine g_iconst hx 13 (1) dL_load_13 rfl ?_
    exact g_iretW hx hR 14 dL_load_14 ⟨Nat.le_of_ble_eq_true rfl, Nat.le_of_ble_eq_true rfl⟩ (Or.inl ⟨0, hk1, rfl, he⟩)
def md_L_size : Md := (yL_size, cL_size, 4, some .int, 7, 111, 1, 6)
def hh_size : List (Nat × Nat × Nat × Nat) := [(0, 9, 12, 13)]
theorem lk_L_size : Lk md_SA_size [.methodLink RL 15 md_SA_size.y, .instanceMethod md_SA_size.y, .selects md_SA_size.y.cls md_SA_size.y md_SA_size.y] := lk_of (by decide +kernel)
theorem arL_size : Arity md_SA_size 1 := ⟨by decide +kernel, by decide +kernel, by decide +kernel⟩
set_option maxRecDepth 100000 in
set_option maxHeartbeats 4000000 in
theorem c_L_size {ad ae : Nat → Nat} (l : Launch) (g : Gl) (hC : KAll g ad ae) (hN : KN g) (hl : l.stackTraces = false) (σ : Hp) (B : Nat) (M : WM) (p1 : Int32) {o : Nat} {f : Nat → Int64} (ho : σ.2 o = some (eJ 1 f)) (hob : o < B ∨ B + 437 ≤ o) {r : Nat ⊕ Int32} (hr : SA_size M p1 = some r) (hk : ∀ k, r = .inl k → k = 0) : MW l g md_L_size hh_size [.ref B, .int p1, .ref o] (putW σ B ae M) (PWr r ci1 (putW σ B ae M).2 (fun u => hset (putW σ B ae M) o (eJ 1 (vp_updL f 0 u.toInt64)))) := by
  refine MW.intro (by decide +kernel) (Nat.le_of_ble_eq_true rfl) (fun X hx hR => ?_)
  refine g_ls [0, 1, 2] [(0, .ref B), (1, .int p1), (2, .ref o)] rfl ?_
  refine g_aload_n hx 0 (i := 2) 2 dL_size_0 rfl rfl ?_
  refine g_iconst hx 1 (0) dL_size_1 rfl ?_
  refine g_aload_n hx 2 (i := 0) 0 dL_size_2 rfl rfl ?_
  refine g_iload_n hx 3 (i := 1) 1 dL_size_3 rfl rfl ?_
  refine g_callT hx hR (c_SA_size l g hC hl σ B M p1 hr) lk_L_size arL_size (pW σ B ae M 0 (by decide)) (T := TX10) (N := 11) rfl (As := [.int p1]) (rest := [.int 0, .ref o]) rfl (Nat.le_of_ble_eq_true rfl) ⟨Nat.le_of_ble_eq_true rfl, Nat.le_of_ble_eq_true rfl⟩ ⟨Nat.le_of_ble_eq_true rfl, Nat.le_of_ble_eq_true rfl⟩ dL_size_4 (fun v σ1 hp => ?_) (fun E σ1 hp => ?_)
  · obtain ⟨u, hu, rfl, rfl⟩ := hp
    refine g_i2l hx 7 dL_size_7 ?_
    refine g_last hx 8 ((pW_out σ B ae M hob).trans ho) vp01 dL_size_8 ?_
    refine g_goto hx 9 15 dL_size_9 (by decide) ?_
    refine g_iconst hx 15 (0) dL_size_15 rfl ?_
    exact g_iretW hx hR 16 dL_size_16 ⟨Nat.le_of_ble_eq_true rfl, Nat.le_of_ble_eq_true rfl⟩ (Or.inr ⟨u, hu, rfl, rfl⟩)
  · obtain ⟨k, hk1, rfl, he⟩ := hp
    obtain rfl := hk k hk1
    refine ⟨12, goes_one (by decide) (by decide) xl_13 hN.i, fun q => ?_⟩
    refine g_astore_n hx 12 (i := 3) [(3, .ref q), (0, .ref B), (1, .int p1), (2, .ref o)] dL_size_12 rfl (by decide) rfl ?_
    refine g_iconst hx 13 (1) dL_size_13 rfl ?_
    exact g_iretW hx hR 14 dL_size_14 ⟨Nat.le_of_ble_eq_true rfl, Nat.le_of_ble_eq_true rfl⟩ (Or.inl ⟨0, hk1, rfl, he⟩)
def md_L_account : Md := (yL_account, cL_account, 4, some .int, 7, 111, 1, 6)
def hh_account : List (Nat × Nat × Nat × Nat) := [(0, 9, 12, 13)]
theorem lk_L_account : Lk md_SA_account [.methodLink RL 18 md_SA_account.y, .instanceMethod md_SA_account.y, .selects md_SA_account.y.cls md_SA_account.y md_SA_account.y] := lk_of (by decide +kernel)
theorem arL_account : Arity md_SA_account 1 := ⟨by decide +kernel, by decide +kernel, by decide +kernel⟩
set_option maxRecDepth 100000 in
set_option maxHeartbeats 4000000 in
theorem c_L_account {ad ae : Nat → Nat} (l : Launch) (g : Gl) (hC : KAll g ad ae) (hN : KN g) (hl : l.stackTraces = false) (σ : Hp) (B : Nat) (M : WM) (p1 : Int32) {o : Nat} {f : Nat → Int64} (ho : σ.2 o = some (eJ 1 f)) (hob : o < B ∨ B + 437 ≤ o) {r : Nat ⊕ Int32} (hr : SA_account M p1 = some r) (hk : ∀ k, r = .inl k → k = 0) : MW l g md_L_account hh_account [.ref B, .int p1, .ref o] (putW σ B ae M) (PWr r ci1 (putW σ B ae M).2 (fun u => hset (putW σ B ae M) o (eJ 1 (vp_updL f 0 u.toInt64)))) := by
  refine MW.intro (by decide +kernel) (Nat.le_of_ble_eq_true rfl) (fun X hx hR => ?_)
  refine g_ls [0, 1, 2] [(0, .ref B), (1, .int p1), (2, .ref o)] rfl ?_
  refine g_aload_n hx 0 (i := 2) 2 dL_account_0 rfl rfl ?_
  refine g_iconst hx 1 (0) dL_account_1 rfl ?_
  refine g_aload_n hx 2 (i := 0) 0 dL_account_2 rfl rfl ?_
  refine g_iload_n hx 3 (i := 1) 1 dL_account_3 rfl rfl ?_
  refine g_callT hx hR (c_SA_account l g hC hl σ B M p1 hr) lk_L_account arL_account (pW σ B ae M 0 (by decide)) (T := TX10) (N := 11) rfl (As := [.int p1]) (rest := [.int 0, .ref o]) rfl (Nat.le_of_ble_eq_true rfl) ⟨Nat.le_of_ble_eq_true rfl, Nat.le_of_ble_eq_true rfl⟩ ⟨Nat.le_of_ble_eq_true rfl, Nat.le_of_ble_eq_true rfl⟩ dL_account_4 (fun v σ1 hp => ?_) (fun E σ1 hp => ?_)
  · obtain ⟨u, hu, rfl, rfl⟩ := hp
    refine g_i2l hx 7 dL_account_7 ?_
    refine g_last hx 8 ((pW_out σ B ae M hob).trans ho) vp01 dL_account_8 ?_
    refine g_goto hx 9 15 dL_account_9 (by decide) ?_
    refine g_iconst hx 15 (0) dL_account_15 rfl ?_
    exact g_iretW hx hR 16 dL_account_16 ⟨Nat.le_of_ble_eq_true rfl, Nat.le_of_ble_eq_true rfl⟩ (Or.inr ⟨u, hu, rfl, rfl⟩)
  · obtain ⟨k, hk1, rfl, he⟩ := hp
    obtain rfl := hk k hk1
    refine ⟨12, goes_one (by decide) (by decide) xl_13 hN.i, fun q => ?_⟩
    refine g_astore_n hx 12 (i := 3) [(3, .ref q), (0, .ref B), (1, .int p1), (2, .ref o)] dL_account_12 rfl (by decide) rfl ?_
    refine g_iconst hx 13 (1) dL_account_13 rfl ?_
    exact g_iretW hx hR 14 dL_account_14 ⟨Nat.le_of_ble_eq_true rfl, Nat.le_of_ble_eq_true rfl⟩ (Or.inl ⟨0, hk1, rfl, he⟩)
def md_L_folder : Md := (yL_folder, cL_folder, 5, some .int, 7, 112, 1, 6)
def hh_folder : List (Nat × Nat × Nat × Nat) := [(0, 10, 13, 25), (0, 10, 17, 13)]
theorem lk_L_folder : Lk md_SA_folder [.methodLink RL 21 md_SA_folder.y, .instanceMethod md_SA_folder.y, .selects md_SA_folder.y.cls md_SA_folder.y md_SA_folder.y] := lk_of (by decide +kernel)
theorem arL_folder : Arity md_SA_folder 2 := ⟨by decide +kernel, by decide +kernel, by decide +kernel⟩
set_option maxRecDepth 100000 in
set_option maxHeartbeats 4000000 in
theorem c_L_folder {ad ae : Nat → Nat} (l : Launch) (g : Gl) (hC : KAll g ad ae) (hN : KN g) (hl : l.stackTraces = false) (σ : Hp) (B : Nat) (M : WM) (p1 p2 : Int32) {o : Nat} {f : Nat → Int64} (ho : σ.2 o = some (eJ 1 f)) (hob : o < B ∨ B + 437 ≤ o) {r : Nat ⊕ Int32} (hr : SA_folder M p1 p2 = some r) : MW l g md_L_folder hh_folder [.ref B, .int p1, .int p2, .ref o] (putW σ B ae M) (PWr r ci2 (putW σ B ae M).2 (fun u => hset (putW σ B ae M) o (eJ 1 (vp_updL f 0 u.toInt64)))) := by
  refine MW.intro (by decide +kernel) (Nat.le_of_ble_eq_true rfl) (fun X hx hR => ?_)
  refine g_ls [0, 1, 2, 3] [(0, .ref B), (1, .int p1), (2, .int p2), (3, .ref o)] rfl ?_
  refine g_aload_n hx 0 (i := 3) 3 dL_folder_0 rfl rfl ?_
  refine g_iconst hx 1 (0) dL_folder_1 rfl ?_
  refine g_aload_n hx 2 (i := 0) 0 dL_folder_2 rfl rfl ?_
  refine g_iload_n hx 3 (i := 1) 1 dL_folder_3 rfl rfl ?_
  refine g_iload_n hx 4 (i := 2) 2 dL_folder_4 rfl rfl ?_
  refine g_callT hx hR (c_SA_folder l g hC hl σ B M p1 p2 hr) lk_L_folder arL_folder (pW σ B ae M 0 (by decide)) (T := TX10) (N := 11) rfl (As := [.int p1, .int p2]) (rest := [.int 0, .ref o]) rfl (Nat.le_of_ble_eq_true rfl) ⟨Nat.le_of_ble_eq_true rfl, Nat.le_of_ble_eq_true rfl⟩ ⟨Nat.le_of_ble_eq_true rfl, Nat.le_of_ble_eq_true rfl⟩ dL_folder_5 (fun v σ1 hp => ?_) (fun E σ1 hp => ?_)
  · obtain ⟨u, hu, rfl, rfl⟩ := hp
    refine g_i2l hx 8 dL_folder_8 ?_
    refine g_last hx 9 ((pW_out σ B ae M hob).trans ho) vp01 dL_folder_9 ?_
    refine g_goto hx 10 21 dL_folder_10 (by decide) ?_
    refine g_iconst hx 21 (0) dL_folder_21 rfl ?_
    exact g_iretW hx hR 22 dL_folder_22 ⟨Nat.le_of_ble_eq_true rfl, Nat.le_of_ble_eq_true rfl⟩ (Or.inr ⟨u, hu, rfl, rfl⟩)
  · obtain ⟨k, hk1, rfl, he⟩ := hp
    by_cases hk2 : k = 0
    · subst hk2
      refine ⟨17, goes_two2 hN (by decide), fun q => ?_⟩
      refine g_astore hx 17 (i := 4) [(4, .ref q), (0, .ref B), (1, .int p1), (2, .int p2), (3, .ref o)] dL_folder_17 (by decide) rfl ?_
      refine g_iconst hx 19 (2) dL_folder_19 rfl ?_
      exact g_iretW hx hR 20 dL_folder_20 ⟨Nat.le_of_ble_eq_true rfl, Nat.le_of_ble_eq_true rfl⟩ (Or.inl ⟨0, hk1, rfl, he⟩)
    · rw [show exn k = nse from if_neg hk2]
      refine ⟨13, goes_two1 (by decide) (by decide) xl_25 hN.n, fun q => ?_⟩
      refine g_astore hx 13 (i := 4) [(4, .ref q), (0, .ref B), (1, .int p1), (2, .int p2), (3, .ref o)] dL_folder_13 (by decide) rfl ?_
      refine g_iconst hx 15 (1) dL_folder_15 rfl ?_
      exact g_iretW hx hR 16 dL_folder_16 ⟨Nat.le_of_ble_eq_true rfl, Nat.le_of_ble_eq_true rfl⟩ (Or.inl ⟨k, hk1, by rw [show ci2 k = 1 from if_neg hk2], he⟩)
def md_L_reader : Md := (yL_reader, cL_reader, 5, some .int, 7, 112, 1, 6)
def hh_reader : List (Nat × Nat × Nat × Nat) := [(0, 10, 13, 25), (0, 10, 17, 13)]
theorem lk_L_reader : Lk md_SA_reader [.methodLink RL 27 md_SA_reader.y, .instanceMethod md_SA_reader.y, .selects md_SA_reader.y.cls md_SA_reader.y md_SA_reader.y] := lk_of (by decide +kernel)
theorem arL_reader : Arity md_SA_reader 2 := ⟨by decide +kernel, by decide +kernel, by decide +kernel⟩
set_option maxRecDepth 100000 in
set_option maxHeartbeats 4000000 in
theorem c_L_reader {ad ae : Nat → Nat} (l : Launch) (g : Gl) (hC : KAll g ad ae) (hN : KN g) (hl : l.stackTraces = false) (σ : Hp) (B : Nat) (M : WM) (p1 p2 : Int32) {o : Nat} {f : Nat → Int64} (ho : σ.2 o = some (eJ 1 f)) (hob : o < B ∨ B + 437 ≤ o) {r : Nat ⊕ Int32} (hr : SA_reader M p1 p2 = some r) : MW l g md_L_reader hh_reader [.ref B, .int p1, .int p2, .ref o] (putW σ B ae M) (PWr r ci2 (putW σ B ae M).2 (fun u => hset (putW σ B ae M) o (eJ 1 (vp_updL f 0 u.toInt64)))) := by
  refine MW.intro (by decide +kernel) (Nat.le_of_ble_eq_true rfl) (fun X hx hR => ?_)
  refine g_ls [0, 1, 2, 3] [(0, .ref B), (1, .int p1), (2, .int p2), (3, .ref o)] rfl ?_
  refine g_aload_n hx 0 (i := 3) 3 dL_reader_0 rfl rfl ?_
  refine g_iconst hx 1 (0) dL_reader_1 rfl ?_
  refine g_aload_n hx 2 (i := 0) 0 dL_reader_2 rfl rfl ?_
  refine g_iload_n hx 3 (i := 1) 1 dL_reader_3 rfl rfl ?_
  refine g_iload_n hx 4 (i := 2) 2 dL_reader_4 rfl rfl ?_
  refine g_callT hx hR (c_SA_reader l g hC hl σ B M p1 p2 hr) lk_L_reader arL_reader (pW σ B ae M 0 (by decide)) (T := TX10) (N := 11) rfl (As := [.int p1, .int p2]) (rest := [.int 0, .ref o]) rfl (Nat.le_of_ble_eq_true rfl) ⟨Nat.le_of_ble_eq_true rfl, Nat.le_of_ble_eq_true rfl⟩ ⟨Nat.le_of_ble_eq_true rfl, Nat.le_of_ble_eq_true rfl⟩ dL_reader_5 (fun v σ1 hp => ?_) (fun E σ1 hp => ?_)
  · obtain ⟨u, hu, rfl, rfl⟩ := hp
    refine g_i2l hx 8 dL_reader_8 ?_
    refine g_last hx 9 ((pW_out σ B ae M hob).trans ho) vp01 dL_reader_9 ?_
    refine g_goto hx 10 21 dL_reader_10 (by decide) ?_
    refine g_iconst hx 21 (0) dL_reader_21 rfl ?_
    exact g_iretW hx hR 22 dL_reader_22 ⟨Nat.le_of_ble_eq_true rfl, Nat.le_of_ble_eq_true rfl⟩ (Or.inr ⟨u, hu, rfl, rfl⟩)
  · obtain ⟨k, hk1, rfl, he⟩ := hp
    by_cases hk2 : k = 0
    · subst hk2
      refine ⟨17, goes_two2 hN (by decide), fun q => ?_⟩
      refine g_astore hx 17 (i := 4) [(4, .ref q), (0, .ref B), (1, .int p1), (2, .int p2), (3, .ref o)] dL_reader_17 (by decide) rfl ?_
      refine g_iconst hx 19 (2) dL_reader_19 rfl ?_
      exact g_iretW hx hR 20 dL_reader_20 ⟨Nat.le_of_ble_eq_true rfl, Nat.le_of_ble_eq_true rfl⟩ (Or.inl ⟨0, hk1, rfl, he⟩)
    · rw [show exn k = nse from if_neg hk2]
      refine ⟨13, goes_two1 (by decide) (by decide) xl_25 hN.n, fun q => ?_⟩
      refine g_astore hx 13 (i := 4) [(4, .ref q), (0, .ref B), (1, .int p1), (2, .int p2), (3, .ref o)] dL_reader_13 (by decide) rfl ?_
      refine g_iconst hx 15 (1) dL_reader_15 rfl ?_
      exact g_iretW hx hR 16 dL_reader_16 ⟨Nat.le_of_ble_eq_true rfl, Nat.le_of_ble_eq_true rfl⟩ (Or.inl ⟨k, hk1, by rw [show ci2 k = 1 from if_neg hk2], he⟩)
def md_L_waiting : Md := (yL_waiting, cL_waiting, 5, some .int, 7, 112, 1, 6)
def hh_waiting : List (Nat × Nat × Nat × Nat) := [(0, 10, 13, 13)]
theorem lk_L_waiting : Lk md_SA_waiting [.methodLink RL 30 md_SA_waiting.y, .instanceMethod md_SA_waiting.y, .selects md_SA_waiting.y.cls md_SA_waiting.y md_SA_waiting.y] := lk_of (by decide +kernel)
theorem arL_waiting : Arity md_SA_waiting 2 := ⟨by decide +kernel, by decide +kernel, by decide +kernel⟩
set_option maxRecDepth 100000 in
set_option maxHeartbeats 4000000 in
theorem c_L_waiting {ad ae : Nat → Nat} (l : Launch) (g : Gl) (hC : KAll g ad ae) (hN : KN g) (hl : l.stackTraces = false) (σ : Hp) (B : Nat) (M : WM) (p1 p2 : Int32) {o : Nat} {f : Nat → Int64} (ho : σ.2 o = some (eJ 1 f)) (hob : o < B ∨ B + 437 ≤ o) {r : Nat ⊕ Int32} (hr : SA_waiting M p1 p2 = some r) (hk : ∀ k, r = .inl k → k = 0) : MW l g md_L_waiting hh_waiting [.ref B, .int p1, .int p2, .ref o] (putW σ B ae M) (PWr r ci1 (putW σ B ae M).2 (fun u => hset (putW σ B ae M) o (eJ 1 (vp_updL f 0 u.toInt64)))) := by
  refine MW.intro (by decide +kernel) (Nat.le_of_ble_eq_true rfl) (fun X hx hR => ?_)
  refine g_ls [0, 1, 2, 3] [(0, .ref B), (1, .int p1), (2, .int p2), (3, .ref o)] rfl ?_
  refine g_aload_n hx 0 (i := 3) 3 dL_waiting_0 rfl rfl ?_
  refine g_iconst hx 1 (0) dL_waiting_1 rfl ?_
  refine g_aload_n hx 2 (i := 0) 0 dL_waiting_2 rfl rfl ?_
  refine g_iload_n hx 3 (i := 1) 1 dL_waiting_3 rfl rfl ?_
  refine g_iload_n hx 4 (i := 2) 2 dL_waiting_4 rfl rfl ?_
  refine g_callT hx hR (c_SA_waiting l g hC hl σ B M p1 p2 hr) lk_L_waiting arL_waiting (pW σ B ae M 0 (by decide)) (T := TX10) (N := 11) rfl (As := [.int p1, .int p2]) (rest := [.int 0, .ref o]) rfl (Nat.le_of_ble_eq_true rfl) ⟨Nat.le_of_ble_eq_true rfl, Nat.le_of_ble_eq_true rfl⟩ ⟨Nat.le_of_ble_eq_true rfl, Nat.le_of_ble_eq_true rfl⟩ dL_waiting_5 (fun v σ1 hp => ?_) (fun E σ1 hp => ?_)
  · obtain ⟨u, hu, rfl, rfl⟩ := hp
    refine g_i2l hx 8 dL_waiting_8 ?_
    refine g_last hx 9 ((pW_out σ B ae M hob).trans ho) vp01 dL_waiting_9 ?_
    refine g_goto hx 10 17 dL_waiting_10 (by decide) ?_
    refine g_iconst hx 17 (0) dL_waiting_17 rfl ?_
    exact g_iretW hx hR 18 dL_waiting_18 ⟨Nat.le_of_ble_eq_true rfl, Nat.le_of_ble_eq_true rfl⟩ (Or.inr ⟨u, hu, rfl, rfl⟩)
  · obtain ⟨k, hk1, rfl, he⟩ := hp
    obtain rfl := hk k hk1
    refine ⟨13, goes_one (by decide) (by decide) xl_13 hN.i, fun q => ?_⟩
    refine g_astore hx 13 (i := 4) [(4, .ref q), (0, .ref B), (1, .int p1), (2, .int p2), (3, .ref o)] dL_waiting_13 (by decide) rfl ?_
    refine g_iconst hx 15 (1) dL_waiting_15 rfl ?_
    exact g_iretW hx hR 16 dL_waiting_16 ⟨Nat.le_of_ble_eq_true rfl, Nat.le_of_ble_eq_true rfl⟩ (Or.inl ⟨0, hk1, rfl, he⟩)
def md_L_why : Md := (yL_why, cL_why, 5, some .int, 7, 112, 1, 6)
def hh_why : List (Nat × Nat × Nat × Nat) := [(0, 10, 13, 25)]
theorem lk_L_why : Lk md_SA_why [.methodLink RL 33 md_SA_why.y, .instanceMethod md_SA_why.y, .selects md_SA_why.y.cls md_SA_why.y md_SA_why.y] := lk_of (by decide +kernel)
theorem arL_why : Arity md_SA_why 2 := ⟨by decide +kernel, by decide +kernel, by decide +kernel⟩
set_option maxRecDepth 100000 in
set_option maxHeartbeats 4000000 in
theorem c_L_why {ad ae : Nat → Nat} (l : Launch) (g : Gl) (hC : KAll g ad ae) (hN : KN g) (hl : l.stackTraces = false) (σ : Hp) (B : Nat) (M : WM) (p1 p2 : Int32) {o : Nat} {f : Nat → Int64} (ho : σ.2 o = some (eJ 1 f)) (hob : o < B ∨ B + 437 ≤ o) {r : Nat ⊕ Int32} (hr : SA_why M p1 p2 = some r) (hk : ∀ k, r = .inl k → k ≠ 0) : MW l g md_L_why hh_why [.ref B, .int p1, .int p2, .ref o] (putW σ B ae M) (PWr r ci1 (putW σ B ae M).2 (fun u => hset (putW σ B ae M) o (eJ 1 (vp_updL f 0 u.toInt64)))) := by
  refine MW.intro (by decide +kernel) (Nat.le_of_ble_eq_true rfl) (fun X hx hR => ?_)
  refine g_ls [0, 1, 2, 3] [(0, .ref B), (1, .int p1), (2, .int p2), (3, .ref o)] rfl ?_
  refine g_aload_n hx 0 (i := 3) 3 dL_why_0 rfl rfl ?_
  refine g_iconst hx 1 (0) dL_why_1 rfl ?_
  refine g_aload_n hx 2 (i := 0) 0 dL_why_2 rfl rfl ?_
  refine g_iload_n hx 3 (i := 1) 1 dL_why_3 rfl rfl ?_
  refine g_iload_n hx 4 (i := 2) 2 dL_why_4 rfl rfl ?_
  refine g_callT hx hR (c_SA_why l g hC hl σ B M p1 p2 hr) lk_L_why arL_why (pW σ B ae M 0 (by decide)) (T := TX10) (N := 11) rfl (As := [.int p1, .int p2]) (rest := [.int 0, .ref o]) rfl (Nat.le_of_ble_eq_true rfl) ⟨Nat.le_of_ble_eq_true rfl, Nat.le_of_ble_eq_true rfl⟩ ⟨Nat.le_of_ble_eq_true rfl, Nat.le_of_ble_eq_true rfl⟩ dL_why_5 (fun v σ1 hp => ?_) (fun E σ1 hp => ?_)
  · obtain ⟨u, hu, rfl, rfl⟩ := hp
    refine g_i2l hx 8 dL_why_8 ?_
    refine g_last hx 9 ((pW_out σ B ae M hob).trans ho) vp01 dL_why_9 ?_
    refine g_goto hx 10 17 dL_why_10 (by decide) ?_
    refine g_iconst hx 17 (0) dL_why_17 rfl ?_
    exact g_iretW hx hR 18 dL_why_18 ⟨Nat.le_of_ble_eq_true rfl, Nat.le_of_ble_eq_true rfl⟩ (Or.inr ⟨u, hu, rfl, rfl⟩)
  · obtain ⟨k, hk1, rfl, he⟩ := hp
    have hk2 := hk k hk1
    rw [show exn k = nse from if_neg hk2]
    refine ⟨13, goes_one (by decide) (by decide) xl_25 hN.n, fun q => ?_⟩
    refine g_astore hx 13 (i := 4) [(4, .ref q), (0, .ref B), (1, .int p1), (2, .int p2), (3, .ref o)] dL_why_13 (by decide) rfl ?_
    refine g_iconst hx 15 (1) dL_why_15 rfl ?_
    exact g_iretW hx hR 16 dL_why_16 ⟨Nat.le_of_ble_eq_true rfl, Nat.le_of_ble_eq_true rfl⟩ (Or.inl ⟨k, hk1, rfl, he⟩)
def md_L_cause : Md := (yL_cause, cL_cause, 5, some .int, 7, 112, 1, 6)
def hh_cause : List (Nat × Nat × Nat × Nat) := [(0, 10, 13, 25)]
theorem lk_L_cause : Lk md_SA_cause [.methodLink RL 36 md_SA_cause.y, .instanceMethod md_SA_cause.y, .selects md_SA_cause.y.cls md_SA_cause.y md_SA_cause.y] := lk_of (by decide +kernel)
theorem arL_cause : Arity md_SA_cause 2 := ⟨by decide +kernel, by decide +kernel, by decide +kernel⟩
set_option maxRecDepth 100000 in
set_option maxHeartbeats 4000000 in
theorem c_L_cause {ad ae : Nat → Nat} (l : Launch) (g : Gl) (hC : KAll g ad ae) (hN : KN g) (hl : l.stackTraces = false) (σ : Hp) (B : Nat) (M : WM) (p1 p2 : Int32) {o : Nat} {f : Nat → Int64} (ho : σ.2 o = some (eJ 1 f)) (hob : o < B ∨ B + 437 ≤ o) {r : Nat ⊕ Int32} (hr : SA_cause M p1 p2 = some r) (hk : ∀ k, r = .inl k → k ≠ 0) : MW l g md_L_cause hh_cause [.ref B, .int p1, .int p2, .ref o] (putW σ B ae M) (PWr r ci1 (putW σ B ae M).2 (fun u => hset (putW σ B ae M) o (eJ 1 (vp_updL f 0 u.toInt64)))) := by
  refine MW.intro (by decide +kernel) (Nat.le_of_ble_eq_true rfl) (fun X hx hR => ?_)
  refine g_ls [0, 1, 2, 3] [(0, .ref B), (1, .int p1), (2, .int p2), (3, .ref o)] rfl ?_
  refine g_aload_n hx 0 (i := 3) 3 dL_cause_0 rfl rfl ?_
  refine g_iconst hx 1 (0) dL_cause_1 rfl ?_
  refine g_aload_n hx 2 (i := 0) 0 dL_cause_2 rfl rfl ?_
  refine g_iload_n hx 3 (i := 1) 1 dL_cause_3 rfl rfl ?_
  refine g_iload_n hx 4 (i := 2) 2 dL_cause_4 rfl rfl ?_
  refine g_callT hx hR (c_SA_cause l g hC hl σ B M p1 p2 hr) lk_L_cause arL_cause (pW σ B ae M 0 (by decide)) (T := TX10) (N := 11) rfl (As := [.int p1, .int p2]) (rest := [.int 0, .ref o]) rfl (Nat.le_of_ble_eq_true rfl) ⟨Nat.le_of_ble_eq_true rfl, Nat.le_of_ble_eq_true rfl⟩ ⟨Nat.le_of_ble_eq_true rfl, Nat.le_of_ble_eq_true rfl⟩ dL_cause_5 (fun v σ1 hp => ?_) (fun E σ1 hp => ?_)
  · obtain ⟨u, hu, rfl, rfl⟩ := hp
    refine g_i2l hx 8 dL_cause_8 ?_
    refine g_last hx 9 ((pW_out σ B ae M hob).trans ho) vp01 dL_cause_9 ?_
    refine g_goto hx 10 17 dL_cause_10 (by decide) ?_
    refine g_iconst hx 17 (0) dL_cause_17 rfl ?_
    exact g_iretW hx hR 18 dL_cause_18 ⟨Nat.le_of_ble_eq_true rfl, Nat.le_of_ble_eq_true rfl⟩ (Or.inr ⟨u, hu, rfl, rfl⟩)
  · obtain ⟨k, hk1, rfl, he⟩ := hp
    have hk2 := hk k hk1
    rw [show exn k = nse from if_neg hk2]
    refine ⟨13, goes_one (by decide) (by decide) xl_25 hN.n, fun q => ?_⟩
    refine g_astore hx 13 (i := 4) [(4, .ref q), (0, .ref B), (1, .int p1), (2, .int p2), (3, .ref o)] dL_cause_13 (by decide) rfl ?_
    refine g_iconst hx 15 (1) dL_cause_15 rfl ?_
    exact g_iretW hx hR 16 dL_cause_16 ⟨Nat.le_of_ble_eq_true rfl, Nat.le_of_ble_eq_true rfl⟩ (Or.inl ⟨k, hk1, rfl, he⟩)
def md_L_servedBy : Md := (yL_servedBy, cL_servedBy, 4, some .int, 7, 145, 1, 6)
def hh_servedBy : List (Nat × Nat × Nat × Nat) := [(0, 9, 12, 13)]
theorem lk_L_servedBy : Lk md_SA_servedBy [.methodLink RL 39 md_SA_servedBy.y, .instanceMethod md_SA_servedBy.y, .selects md_SA_servedBy.y.cls md_SA_servedBy.y md_SA_servedBy.y] := lk_of (by decide +kernel)
theorem arL_servedBy : Arity md_SA_servedBy 1 := ⟨by decide +kernel, by decide +kernel, by decide +kernel⟩
set_option maxRecDepth 100000 in
set_option maxHeartbeats 4000000 in
theorem c_L_servedBy {ad ae : Nat → Nat} (l : Launch) (g : Gl) (hC : KAll g ad ae) (hN : KN g) (hl : l.stackTraces = false) (σ : Hp) (B : Nat) (M : WM) (p1 : Int32) {o : Nat} {f : Nat → Int64} (ho : σ.2 o = some (eJ 1 f)) (hob : o < B ∨ B + 437 ≤ o) {r : Nat ⊕ (Int32 × WM)} (hr : SA_servedBy M p1 = some r) (hk : ∀ k, r = .inl k → k = 0) : MW l g md_L_servedBy hh_servedBy [.ref B, .int p1, .ref o] (putW σ B ae M) (PWr r ci1 (putW σ B ae M).2 (fun u => hset (putW σ B ae u.2) o (eJ 1 (vp_updL f 0 u.1.toInt64)))) := by
  refine MW.intro (by decide +kernel) (Nat.le_of_ble_eq_true rfl) (fun X hx hR => ?_)
  refine g_ls [0, 1, 2] [(0, .ref B), (1, .int p1), (2, .ref o)] rfl ?_
  refine g_aload_n hx 0 (i := 2) 2 dL_servedBy_0 rfl rfl ?_
  refine g_iconst hx 1 (0) dL_servedBy_1 rfl ?_
  refine g_aload_n hx 2 (i := 0) 0 dL_servedBy_2 rfl rfl ?_
  refine g_iload_n hx 3 (i := 1) 1 dL_servedBy_3 rfl rfl ?_
  refine g_callT hx hR (c_SA_servedBy l g hC hl σ B M p1 hr) lk_L_servedBy arL_servedBy (pW σ B ae M 0 (by decide)) (T := TX10) (N := 11) rfl (As := [.int p1]) (rest := [.int 0, .ref o]) rfl (Nat.le_of_ble_eq_true rfl) ⟨Nat.le_of_ble_eq_true rfl, Nat.le_of_ble_eq_true rfl⟩ ⟨Nat.le_of_ble_eq_true rfl, Nat.le_of_ble_eq_true rfl⟩ dL_servedBy_4 (fun v σ1 hp => ?_) (fun E σ1 hp => ?_)
  · obtain ⟨u, hu, rfl, rfl⟩ := hp
    refine g_i2l hx 7 dL_servedBy_7 ?_
    refine g_last hx 8 ((pW_out σ B ae u.2 hob).trans ho) vp01 dL_servedBy_8 ?_
    refine g_goto hx 9 15 dL_servedBy_9 (by decide) ?_
    refine g_iconst hx 15 (0) dL_servedBy_15 rfl ?_
    exact g_iretW hx hR 16 dL_servedBy_16 ⟨Nat.le_of_ble_eq_true rfl, Nat.le_of_ble_eq_true rfl⟩ (Or.inr ⟨u, hu, rfl, rfl⟩)
  · obtain ⟨k, hk1, rfl, he⟩ := hp
    obtain rfl := hk k hk1
    refine ⟨12, goes_one (by decide) (by decide) xl_13 hN.i, fun q => ?_⟩
    refine g_astore_n hx 12 (i := 3) [(3, .ref q), (0, .ref B), (1, .int p1), (2, .ref o)] dL_servedBy_12 rfl (by decide) rfl ?_
    refine g_iconst hx 13 (1) dL_servedBy_13 rfl ?_
    exact g_iretW hx hR 14 dL_servedBy_14 ⟨Nat.le_of_ble_eq_true rfl, Nat.le_of_ble_eq_true rfl⟩ (Or.inl ⟨0, hk1, rfl, he⟩)
def md_L_waitingIn : Md := (yL_waitingIn, cL_waitingIn, 4, some .int, 7, 145, 1, 6)
def hh_waitingIn : List (Nat × Nat × Nat × Nat) := [(0, 9, 12, 13)]
theorem lk_L_waitingIn : Lk md_SA_waitingIn [.methodLink RL 42 md_SA_waitingIn.y, .instanceMethod md_SA_waitingIn.y, .selects md_SA_waitingIn.y.cls md_SA_waitingIn.y md_SA_waitingIn.y] := lk_of (by decide +kernel)
theorem arL_waitingIn : Arity md_SA_waitingIn 1 := ⟨by decide +kernel, by decide +kernel, by decide +kernel⟩
set_option maxRecDepth 100000 in
set_option maxHeartbeats 4000000 in
theorem c_L_waitingIn {ad ae : Nat → Nat} (l : Launch) (g : Gl) (hC : KAll g ad ae) (hN : KN g) (hl : l.stackTraces = false) (σ : Hp) (B : Nat) (M : WM) (p1 : Int32) {o : Nat} {f : Nat → Int64} (ho : σ.2 o = some (eJ 1 f)) (hob : o < B ∨ B + 437 ≤ o) {r : Nat ⊕ (Int32 × WM)} (hr : SA_waitingIn M p1 = some r) (hk : ∀ k, r = .inl k → k = 0) : MW l g md_L_waitingIn hh_waitingIn [.ref B, .int p1, .ref o] (putW σ B ae M) (PWr r ci1 (putW σ B ae M).2 (fun u => hset (putW σ B ae u.2) o (eJ 1 (vp_updL f 0 u.1.toInt64)))) := by
  refine MW.intro (by decide +kernel) (Nat.le_of_ble_eq_true rfl) (fun X hx hR => ?_)
  refine g_ls [0, 1, 2] [(0, .ref B), (1, .int p1), (2, .ref o)] rfl ?_
  refine g_aload_n hx 0 (i := 2) 2 dL_waitingIn_0 rfl rfl ?_
  refine g_iconst hx 1 (0) dL_waitingIn_1 rfl ?_
  refine g_aload_n hx 2 (i := 0) 0 dL_waitingIn_2 rfl rfl ?_
  refine g_iload_n hx 3 (i := 1) 1 dL_waitingIn_3 rfl rfl ?_
  refine g_callT hx hR (c_SA_waitingIn l g hC hl σ B M p1 hr) lk_L_waitingIn arL_waitingIn (pW σ B ae M 0 (by decide)) (T := TX10) (N := 11) rfl (As := [.int p1]) (rest := [.int 0, .ref o]) rfl (Nat.le_of_ble_eq_true rfl) ⟨Nat.le_of_ble_eq_true rfl, Nat.le_of_ble_eq_true rfl⟩ ⟨Nat.le_of_ble_eq_true rfl, Nat.le_of_ble_eq_true rfl⟩ dL_waitingIn_4 (fun v σ1 hp => ?_) (fun E σ1 hp => ?_)
  · obtain ⟨u, hu, rfl, rfl⟩ := hp
    refine g_i2l hx 7 dL_waitingIn_7 ?_
    refine g_last hx 8 ((pW_out σ B ae u.2 hob).trans ho) vp01 dL_waitingIn_8 ?_
    refine g_goto hx 9 15 dL_waitingIn_9 (by decide) ?_
    refine g_iconst hx 15 (0) dL_waitingIn_15 rfl ?_
    exact g_iretW hx hR 16 dL_waitingIn_16 ⟨Nat.le_of_ble_eq_true rfl, Nat.le_of_ble_eq_true rfl⟩ (Or.inr ⟨u, hu, rfl, rfl⟩)
  · obtain ⟨k, hk1, rfl, he⟩ := hp
    obtain rfl := hk k hk1
    refine ⟨12, goes_one (by decide) (by decide) xl_13 hN.i, fun q => ?_⟩
    refine g_astore_n hx 12 (i := 3) [(3, .ref q), (0, .ref B), (1, .int p1), (2, .ref o)] dL_waitingIn_12 rfl (by decide) rfl ?_
    refine g_iconst hx 13 (1) dL_waitingIn_13 rfl ?_
    exact g_iretW hx hR 14 dL_waitingIn_14 ⟨Nat.le_of_ble_eq_true rfl, Nat.le_of_ble_eq_true rfl⟩ (Or.inl ⟨0, hk1, rfl, he⟩)
def md_L_servedWith : Md := (yL_servedWith, cL_servedWith, 4, some .int, 7, 145, 1, 6)
def hh_servedWith : List (Nat × Nat × Nat × Nat) := [(0, 9, 12, 13)]
theorem lk_L_servedWith : Lk md_SA_servedWith [.methodLink RL 45 md_SA_servedWith.y, .instanceMethod md_SA_servedWith.y, .selects md_SA_servedWith.y.cls md_SA_servedWith.y md_SA_servedWith.y] := lk_of (by decide +kernel)
theorem arL_servedWith : Arity md_SA_servedWith 1 := ⟨by decide +kernel, by decide +kernel, by decide +kernel⟩
set_option maxRecDepth 100000 in
set_option maxHeartbeats 4000000 in
theorem c_L_servedWith {ad ae : Nat → Nat} (l : Launch) (g : Gl) (hC : KAll g ad ae) (hN : KN g) (hl : l.stackTraces = false) (σ : Hp) (B : Nat) (M : WM) (p1 : Int32) {o : Nat} {f : Nat → Int64} (ho : σ.2 o = some (eJ 1 f)) (hob : o < B ∨ B + 437 ≤ o) {r : Nat ⊕ (Int32 × WM)} (hr : SA_servedWith M p1 = some r) (hk : ∀ k, r = .inl k → k = 0) : MW l g md_L_servedWith hh_servedWith [.ref B, .int p1, .ref o] (putW σ B ae M) (PWr r ci1 (putW σ B ae M).2 (fun u => hset (putW σ B ae u.2) o (eJ 1 (vp_updL f 0 u.1.toInt64)))) := by
  refine MW.intro (by decide +kernel) (Nat.le_of_ble_eq_true rfl) (fun X hx hR => ?_)
  refine g_ls [0, 1, 2] [(0, .ref B), (1, .int p1), (2, .ref o)] rfl ?_
  refine g_aload_n hx 0 (i := 2) 2 dL_servedWith_0 rfl rfl ?_
  refine g_iconst hx 1 (0) dL_servedWith_1 rfl ?_
  refine g_aload_n hx 2 (i := 0) 0 dL_servedWith_2 rfl rfl ?_
  refine g_iload_n hx 3 (i := 1) 1 dL_servedWith_3 rfl rfl ?_
  refine g_callT hx hR (c_SA_servedWith l g hC hl σ B M p1 hr) lk_L_servedWith arL_servedWith (pW σ B ae M 0 (by decide)) (T := TX10) (N := 11) rfl (As := [.int p1]) (rest := [.int 0, .ref o]) rfl (Nat.le_of_ble_eq_true rfl) ⟨Nat.le_of_ble_eq_true rfl, Nat.le_of_ble_eq_true rfl⟩ ⟨Nat.le_of_ble_eq_true rfl, Nat.le_of_ble_eq_true rfl⟩ dL_servedWith_4 (fun v σ1 hp => ?_) (fun E σ1 hp => ?_)
  · obtain ⟨u, hu, rfl, rfl⟩ := hp
    refine g_i2l hx 7 dL_servedWith_7 ?_
    refine g_last hx 8 ((pW_out σ B ae u.2 hob).trans ho) vp01 dL_servedWith_8 ?_
    refine g_goto hx 9 15 dL_servedWith_9 (by decide) ?_
    refine g_iconst hx 15 (0) dL_servedWith_15 rfl ?_
    exact g_iretW hx hR 16 dL_servedWith_16 ⟨Nat.le_of_ble_eq_true rfl, Nat.le_of_ble_eq_true rfl⟩ (Or.inr ⟨u, hu, rfl, rfl⟩)
  · obtain ⟨k, hk1, rfl, he⟩ := hp
    obtain rfl := hk k hk1
    refine ⟨12, goes_one (by decide) (by decide) xl_13 hN.i, fun q => ?_⟩
    refine g_astore_n hx 12 (i := 3) [(3, .ref q), (0, .ref B), (1, .int p1), (2, .ref o)] dL_servedWith_12 rfl (by decide) rfl ?_
    refine g_iconst hx 13 (1) dL_servedWith_13 rfl ?_
    exact g_iretW hx hR 14 dL_servedWith_14 ⟨Nat.le_of_ble_eq_true rfl, Nat.le_of_ble_eq_true rfl⟩ (Or.inl ⟨0, hk1, rfl, he⟩)
def md_L_missedAfter : Md := (yL_missedAfter, cL_missedAfter, 4, some .int, 7, 145, 1, 6)
def hh_missedAfter : List (Nat × Nat × Nat × Nat) := [(0, 9, 12, 13)]
theorem lk_L_missedAfter : Lk md_SA_missedAfter [.methodLink RL 48 md_SA_missedAfter.y, .instanceMethod md_SA_missedAfter.y, .selects md_SA_missedAfter.y.cls md_SA_missedAfter.y md_SA_missedAfter.y] := lk_of (by decide +kernel)
theorem arL_missedAfter : Arity md_SA_missedAfter 1 := ⟨by decide +kernel, by decide +kernel, by decide +kernel⟩
set_option maxRecDepth 100000 in
set_option maxHeartbeats 4000000 in
theorem c_L_missedAfter {ad ae : Nat → Nat} (l : Launch) (g : Gl) (hC : KAll g ad ae) (hN : KN g) (hl : l.stackTraces = false) (σ : Hp) (B : Nat) (M : WM) (p1 : Int32) {o : Nat} {f : Nat → Int64} (ho : σ.2 o = some (eJ 1 f)) (hob : o < B ∨ B + 437 ≤ o) {r : Nat ⊕ (Int32 × WM)} (hr : SA_missedAfter M p1 = some r) (hk : ∀ k, r = .inl k → k = 0) : MW l g md_L_missedAfter hh_missedAfter [.ref B, .int p1, .ref o] (putW σ B ae M) (PWr r ci1 (putW σ B ae M).2 (fun u => hset (putW σ B ae u.2) o (eJ 1 (vp_updL f 0 u.1.toInt64)))) := by
  refine MW.intro (by decide +kernel) (Nat.le_of_ble_eq_true rfl) (fun X hx hR => ?_)
  refine g_ls [0, 1, 2] [(0, .ref B), (1, .int p1), (2, .ref o)] rfl ?_
  refine g_aload_n hx 0 (i := 2) 2 dL_missedAfter_0 rfl rfl ?_
  refine g_iconst hx 1 (0) dL_missedAfter_1 rfl ?_
  refine g_aload_n hx 2 (i := 0) 0 dL_missedAfter_2 rfl rfl ?_
  refine g_iload_n hx 3 (i := 1) 1 dL_missedAfter_3 rfl rfl ?_
  refine g_callT hx hR (c_SA_missedAfter l g hC hl σ B M p1 hr) lk_L_missedAfter arL_missedAfter (pW σ B ae M 0 (by decide)) (T := TX10) (N := 11) rfl (As := [.int p1]) (rest := [.int 0, .ref o]) rfl (Nat.le_of_ble_eq_true rfl) ⟨Nat.le_of_ble_eq_true rfl, Nat.le_of_ble_eq_true rfl⟩ ⟨Nat.le_of_ble_eq_true rfl, Nat.le_of_ble_eq_true rfl⟩ dL_missedAfter_4 (fun v σ1 hp => ?_) (fun E σ1 hp => ?_)
  · obtain ⟨u, hu, rfl, rfl⟩ := hp
    refine g_i2l hx 7 dL_missedAfter_7 ?_
    refine g_last hx 8 ((pW_out σ B ae u.2 hob).trans ho) vp01 dL_missedAfter_8 ?_
    refine g_goto hx 9 15 dL_missedAfter_9 (by decide) ?_
    refine g_iconst hx 15 (0) dL_missedAfter_15 rfl ?_
    exact g_iretW hx hR 16 dL_missedAfter_16 ⟨Nat.le_of_ble_eq_true rfl, Nat.le_of_ble_eq_true rfl⟩ (Or.inr ⟨u, hu, rfl, rfl⟩)
  · obtain ⟨k, hk1, rfl, he⟩ := hp
    obtain rfl := hk k hk1
    refine ⟨12, goes_one (by decide) (by decide) xl_13 hN.i, fun q => ?_⟩
    refine g_astore_n hx 12 (i := 3) [(3, .ref q), (0, .ref B), (1, .int p1), (2, .ref o)] dL_missedAfter_12 rfl (by decide) rfl ?_
    refine g_iconst hx 13 (1) dL_missedAfter_13 rfl ?_
    exact g_iretW hx hR 14 dL_missedAfter_14 ⟨Nat.le_of_ble_eq_true rfl, Nat.le_of_ble_eq_true rfl⟩ (Or.inl ⟨0, hk1, rfl, he⟩)
def md_L_slip : Md := (yL_slip, cL_slip, 5, some .int, 7, 168, 1, 6)
def hh_slip : List (Nat × Nat × Nat × Nat) := [(0, 10, 13, 25)]
theorem lk_L_slip : Lk md_SA_slip [.methodLink RL 51 md_SA_slip.y, .instanceMethod md_SA_slip.y, .selects md_SA_slip.y.cls md_SA_slip.y md_SA_slip.y] := lk_of (by decide +kernel)
theorem arL_slip : Arity md_SA_slip 2 := ⟨by decide +kernel, by decide +kernel, by decide +kernel⟩
set_option maxRecDepth 100000 in
set_option maxHeartbeats 4000000 in
theorem c_L_slip {ad ae : Nat → Nat} (l : Launch) (g : Gl) (hC : KAll g ad ae) (hN : KN g) (hl : l.stackTraces = false) (σ : Hp) (B : Nat) (M : WM) (p1 p2 : Int32) {o : Nat} {f : Nat → Int64} (ho : σ.2 o = some (eJ 1 f)) (hob : o < B ∨ B + 437 ≤ o) {r : Nat ⊕ (Int32 × WM)} (hr : SA_slip M p1 p2 = some r) (hk : ∀ k, r = .inl k → k ≠ 0) : MW l g md_L_slip hh_slip [.ref B, .int p1, .int p2, .ref o] (putW σ B ae M) (PWr r ci1 (putW σ B ae M).2 (fun u => hset (putW σ B ae u.2) o (eJ 1 (vp_updL f 0 u.1.toInt64)))) := by
  refine MW.intro (by decide +kernel) (Nat.le_of_ble_eq_true rfl) (fun X hx hR => ?_)
  refine g_ls [0, 1, 2, 3] [(0, .ref B), (1, .int p1), (2, .int p2), (3, .ref o)] rfl ?_
  refine g_aload_n hx 0 (i := 3) 3 dL_slip_0 rfl rfl ?_
  refine g_iconst hx 1 (0) dL_slip_1 rfl ?_
  refine g_aload_n hx 2 (i := 0) 0 dL_slip_2 rfl rfl ?_
  refine g_iload_n hx 3 (i := 1) 1 dL_slip_3 rfl rfl ?_
  refine g_iload_n hx 4 (i := 2) 2 dL_slip_4 rfl rfl ?_
  refine g_callT hx hR (c_SA_slip l g hC hl σ B M p1 p2 hr) lk_L_slip arL_slip (pW σ B ae M 0 (by decide)) (T := TX10) (N := 11) rfl (As := [.int p1, .int p2]) (rest := [.int 0, .ref o]) rfl (Nat.le_of_ble_eq_true rfl) ⟨Nat.le_of_ble_eq_true rfl, Nat.le_of_ble_eq_true rfl⟩ ⟨Nat.le_of_ble_eq_true rfl, Nat.le_of_ble_eq_true rfl⟩ dL_slip_5 (fun v σ1 hp => ?_) (fun E σ1 hp => ?_)
  · obtain ⟨u, hu, rfl, rfl⟩ := hp
    refine g_i2l hx 8 dL_slip_8 ?_
    refine g_last hx 9 ((pW_out σ B ae u.2 hob).trans ho) vp01 dL_slip_9 ?_
    refine g_goto hx 10 17 dL_slip_10 (by decide) ?_
    refine g_iconst hx 17 (0) dL_slip_17 rfl ?_
    exact g_iretW hx hR 18 dL_slip_18 ⟨Nat.le_of_ble_eq_true rfl, Nat.le_of_ble_eq_true rfl⟩ (Or.inr ⟨u, hu, rfl, rfl⟩)
  · obtain ⟨k, hk1, rfl, he⟩ := hp
    have hk2 := hk k hk1
    rw [show exn k = nse from if_neg hk2]
    refine ⟨13, goes_one (by decide) (by decide) xl_25 hN.n, fun q => ?_⟩
    refine g_astore hx 13 (i := 4) [(4, .ref q), (0, .ref B), (1, .int p1), (2, .int p2), (3, .ref o)] dL_slip_13 (by decide) rfl ?_
    refine g_iconst hx 15 (1) dL_slip_15 rfl ?_
    exact g_iretW hx hR 16 dL_slip_16 ⟨Nat.le_of_ble_eq_true rfl, Nat.le_of_ble_eq_true rfl⟩ (Or.inl ⟨k, hk1, rfl, he⟩)
def md_L_giveBack : Md := (yL_giveBack, cL_giveBack, 4, some .int, 7, 167, 1, 6)
def hh_giveBack : List (Nat × Nat × Nat × Nat) := [(0, 9, 12, 25)]
theorem lk_L_giveBack : Lk md_SA_giveBack [.methodLink RL 54 md_SA_giveBack.y, .instanceMethod md_SA_giveBack.y, .selects md_SA_giveBack.y.cls md_SA_giveBack.y md_SA_giveBack.y] := lk_of (by decide +kernel)
theorem arL_giveBack : Arity md_SA_giveBack 1 := ⟨by decide +kernel, by decide +kernel, by decide +kernel⟩
set_option maxRecDepth 100000 in
set_option maxHeartbeats 4000000 in
theorem c_L_giveBack {ad ae : Nat → Nat} (l : Launch) (g : Gl) (hC : KAll g ad ae) (hN : KN g) (hl : l.stackTraces = false) (σ : Hp) (B : Nat) (M : WM) (p1 : Int32) {o : Nat} {f : Nat → Int64} (ho : σ.2 o = some (eJ 1 f)) (hob : o < B ∨ B + 437 ≤ o) {r : Nat ⊕ (Int32 × WM)} (hr : SA_giveBack M p1 = some r) (hk : ∀ k, r = .inl k → k ≠ 0) : MW l g md_L_giveBack hh_giveBack [.ref B, .int p1, .ref o] (putW σ B ae M) (PWr r ci1 (putW σ B ae M).2 (fun u => hset (putW σ B ae u.2) o (eJ 1 (vp_updL f 0 u.1.toInt64)))) := by
  refine MW.intro (by decide +kernel) (Nat.le_of_ble_eq_true rfl) (fun X hx hR => ?_)
  refine g_ls [0, 1, 2] [(0, .ref B), (1, .int p1), (2, .ref o)] rfl ?_
  refine g_aload_n hx 0 (i := 2) 2 dL_giveBack_0 rfl rfl ?_
  refine g_iconst hx 1 (0) dL_giveBack_1 rfl ?_
  refine g_aload_n hx 2 (i := 0) 0 dL_giveBack_2 rfl rfl ?_
  refine g_iload_n hx 3 (i := 1) 1 dL_giveBack_3 rfl rfl ?_
  refine g_callT hx hR (c_SA_giveBack l g hC hl σ B M p1 hr) lk_L_giveBack arL_giveBack (pW σ B ae M 0 (by decide)) (T := TX10) (N := 11) rfl (As := [.int p1]) (rest := [.int 0, .ref o]) rfl (Nat.le_of_ble_eq_true rfl) ⟨Nat.le_of_ble_eq_true rfl, Nat.le_of_ble_eq_true rfl⟩ ⟨Nat.le_of_ble_eq_true rfl, Nat.le_of_ble_eq_true rfl⟩ dL_giveBack_4 (fun v σ1 hp => ?_) (fun E σ1 hp => ?_)
  · obtain ⟨u, hu, rfl, rfl⟩ := hp
    refine g_i2l hx 7 dL_giveBack_7 ?_
    refine g_last hx 8 ((pW_out σ B ae u.2 hob).trans ho) vp01 dL_giveBack_8 ?_
    refine g_goto hx 9 15 dL_giveBack_9 (by decide) ?_
    refine g_iconst hx 15 (0) dL_giveBack_15 rfl ?_
    exact g_iretW hx hR 16 dL_giveBack_16 ⟨Nat.le_of_ble_eq_true rfl, Nat.le_of_ble_eq_true rfl⟩ (Or.inr ⟨u, hu, rfl, rfl⟩)
  · obtain ⟨k, hk1, rfl, he⟩ := hp
    have hk2 := hk k hk1
    rw [show exn k = nse from if_neg hk2]
    refine ⟨12, goes_one (by decide) (by decide) xl_25 hN.n, fun q => ?_⟩
    refine g_astore_n hx 12 (i := 3) [(3, .ref q), (0, .ref B), (1, .int p1), (2, .ref o)] dL_giveBack_12 rfl (by decide) rfl ?_
    refine g_iconst hx 13 (1) dL_giveBack_13 rfl ?_
    exact g_iretW hx hR 14 dL_giveBack_14 ⟨Nat.le_of_ble_eq_true rfl, Nat.le_of_ble_eq_true rfl⟩ (Or.inl ⟨k, hk1, rfl, he⟩)
def md_L_days : Md := (yL_days, cL_days, 4, some .int, 7, 167, 1, 6)
def hh_days : List (Nat × Nat × Nat × Nat) := [(0, 9, 12, 13)]
theorem lk_L_days : Lk md_SA_days [.methodLink RL 57 md_SA_days.y, .instanceMethod md_SA_days.y, .selects md_SA_days.y.cls md_SA_days.y md_SA_days.y] := lk_of (by decide +kernel)
theorem arL_days : Arity md_SA_days 1 := ⟨by decide +kernel, by decide +kernel, by decide +kernel⟩
set_option maxRecDepth 100000 in
set_option maxHeartbeats 4000000 in
theorem c_L_days {ad ae : Nat → Nat} (l : Launch) (g : Gl) (hC : KAll g ad ae) (hN : KN g) (hl : l.stackTraces = false) (σ : Hp) (B : Nat) (M : WM) (p1 : Int32) {o : Nat} {f : Nat → Int64} (ho : σ.2 o = some (eJ 1 f)) (hob : o < B ∨ B + 437 ≤ o) {r : Nat ⊕ (Int32 × WM)} (hr : SA_days M p1 = some r) (hk : ∀ k, r = .inl k → k = 0) : MW l g md_L_days hh_days [.ref B, .int p1, .ref o] (putW σ B ae M) (PWr r ci1 (putW σ B ae M).2 (fun u => hset (putW σ B ae u.2) o (eJ 1 (vp_updL f 0 u.1.toInt64)))) := by
  refine MW.intro (by decide +kernel) (Nat.le_of_ble_eq_true rfl) (fun X hx hR => ?_)
  refine g_ls [0, 1, 2] [(0, .ref B), (1, .int p1), (2, .ref o)] rfl ?_
  refine g_aload_n hx 0 (i := 2) 2 dL_days_0 rfl rfl ?_
  refine g_iconst hx 1 (0) dL_days_1 rfl ?_
  refine g_aload_n hx 2 (i := 0) 0 dL_days_2 rfl rfl ?_
  refine g_iload_n hx 3 (i := 1) 1 dL_days_3 rfl rfl ?_
  refine g_callT hx hR (c_SA_days l g hC hl σ B M p1 hr) lk_L_days arL_days (pW σ B ae M 0 (by decide)) (T := TX10) (N := 11) rfl (As := [.int p1]) (rest := [.int 0, .ref o]) rfl (Nat.le_of_ble_eq_true rfl) ⟨Nat.le_of_ble_eq_true rfl, Nat.le_of_ble_eq_true rfl⟩ ⟨Nat.le_of_ble_eq_true rfl, Nat.le_of_ble_eq_true rfl⟩ dL_days_4 (fun v σ1 hp => ?_) (fun E σ1 hp => ?_)
  · obtain ⟨u, hu, rfl, rfl⟩ := hp
    refine g_i2l hx 7 dL_days_7 ?_
    refine g_last hx 8 ((pW_out σ B ae u.2 hob).trans ho) vp01 dL_days_8 ?_
    refine g_goto hx 9 15 dL_days_9 (by decide) ?_
    refine g_iconst hx 15 (0) dL_days_15 rfl ?_
    exact g_iretW hx hR 16 dL_days_16 ⟨Nat.le_of_ble_eq_true rfl, Nat.le_of_ble_eq_true rfl⟩ (Or.inr ⟨u, hu, rfl, rfl⟩)
  · obtain ⟨k, hk1, rfl, he⟩ := hp
    obtain rfl := hk k hk1
    refine ⟨12, goes_one (by decide) (by decide) xl_13 hN.i, fun q => ?_⟩
    refine g_astore_n hx 12 (i := 3) [(3, .ref q), (0, .ref B), (1, .int p1), (2, .ref o)] dL_days_12 rfl (by decide) rfl ?_
    refine g_iconst hx 13 (1) dL_days_13 rfl ?_
    exact g_iretW hx hR 14 dL_days_14 ⟨Nat.le_of_ble_eq_true rfl, Nat.le_of_ble_eq_true rfl⟩ (Or.inl ⟨0, hk1, rfl, he⟩)
def md_L_misfile : Md := (yL_misfile, cL_misfile, 5, some .int, 7, 168, 1, 6)
def hh_misfile : List (Nat × Nat × Nat × Nat) := [(0, 10, 13, 25)]
theorem lk_L_misfile : Lk md_SA_misfile [.methodLink RL 60 md_SA_misfile.y, .instanceMethod md_SA_misfile.y, .selects md_SA_misfile.y.cls md_SA_misfile.y md_SA_misfile.y] := lk_of (by decide +kernel)
theorem arL_misfile : Arity md_SA_misfile 2 := ⟨by decide +kernel, by decide +kernel, by decide +kernel⟩
set_option maxRecDepth 100000 in
set_option maxHeartbeats 4000000 in
theorem c_L_misfile {ad ae : Nat → Nat} (l : Launch) (g : Gl) (hC : KAll g ad ae) (hN : KN g) (hl : l.stackTraces = false) (σ : Hp) (B : Nat) (M : WM) (p1 p2 : Int32) {o : Nat} {f : Nat → Int64} (ho : σ.2 o = some (eJ 1 f)) (hob : o < B ∨ B + 437 ≤ o) {r : Nat ⊕ (Int32 × WM)} (hr : SA_misfile M p1 p2 = some r) (hk : ∀ k, r = .inl k → k ≠ 0) : MW l g md_L_misfile hh_misfile [.ref B, .int p1, .int p2, .ref o] (putW σ B ae M) (PWr r ci1 (putW σ B ae M).2 (fun u => hset (putW σ B ae u.2) o (eJ 1 (vp_updL f 0 u.1.toInt64)))) := by
  refine MW.intro (by decide +kernel) (Nat.le_of_ble_eq_true rfl) (fun X hx hR => ?_)
  refine g_ls [0, 1, 2, 3] [(0, .ref B), (1, .int p1), (2, .int p2), (3, .ref o)] rfl ?_
  refine g_aload_n hx 0 (i := 3) 3 dL_misfile_0 rfl rfl ?_
  refine g_iconst hx 1 (0) dL_misfile_1 rfl ?_
  refine g_aload_n hx 2 (i := 0) 0 dL_misfile_2 rfl rfl ?_
  refine g_iload_n hx 3 (i := 1) 1 dL_misfile_3 rfl rfl ?_
  refine g_iload_n hx 4 (i := 2) 2 dL_misfile_4 rfl rfl ?_
  refine g_callT hx hR (c_SA_misfile l g hC hl σ B M p1 p2 hr) lk_L_misfile arL_misfile (pW σ B ae M 0 (by decide)) (T := TX10) (N := 11) rfl (As := [.int p1, .int p2]) (rest := [.int 0, .ref o]) rfl (Nat.le_of_ble_eq_true rfl) ⟨Nat.le_of_ble_eq_true rfl, Nat.le_of_ble_eq_true rfl⟩ ⟨Nat.le_of_ble_eq_true rfl, Nat.le_of_ble_eq_true rfl⟩ dL_misfile_5 (fun v σ1 hp => ?_) (fun E σ1 hp => ?_)
  · obtain ⟨u, hu, rfl, rfl⟩ := hp
    refine g_i2l hx 8 dL_misfile_8 ?_
    refine g_last hx 9 ((pW_out σ B ae u.2 hob).trans ho) vp01 dL_misfile_9 ?_
    refine g_goto hx 10 17 dL_misfile_10 (by decide) ?_
    refine g_iconst hx 17 (0) dL_misfile_17 rfl ?_
    exact g_iretW hx hR 18 dL_misfile_18 ⟨Nat.le_of_ble_eq_true rfl, Nat.le_of_ble_eq_true rfl⟩ (Or.inr ⟨u, hu, rfl, rfl⟩)
  · obtain ⟨k, hk1, rfl, he⟩ := hp
    have hk2 := hk k hk1
    rw [show exn k = nse from if_neg hk2]
    refine ⟨13, goes_one (by decide) (by decide) xl_25 hN.n, fun q => ?_⟩
    refine g_astore hx 13 (i := 4) [(4, .ref q), (0, .ref B), (1, .int p1), (2, .int p2), (3, .ref o)] dL_misfile_13 (by decide) rfl ?_
    refine g_iconst hx 15 (1) dL_misfile_15 rfl ?_
    exact g_iretW hx hR 16 dL_misfile_16 ⟨Nat.le_of_ble_eq_true rfl, Nat.le_of_ble_eq_true rfl⟩ (Or.inl ⟨k, hk1, rfl, he⟩)
def md_L_straighten : Md := (yL_straighten, cL_straighten, 4, some .int, 7, 167, 1, 6)
def hh_straighten : List (Nat × Nat × Nat × Nat) := [(0, 9, 12, 25)]
theorem lk_L_straighten : Lk md_SA_straighten [.methodLink RL 63 md_SA_straighten.y, .instanceMethod md_SA_straighten.y, .selects md_SA_straighten.y.cls md_SA_straighten.y md_SA_straighten.y] := lk_of (by decide +kernel)
theorem arL_straighten : Arity md_SA_straighten 1 := ⟨by decide +kernel, by decide +kernel, by decide +kernel⟩
set_option maxRecDepth 100000 in
set_option maxHeartbeats 4000000 in
theorem c_L_straighten {ad ae : Nat → Nat} (l : Launch) (g : Gl) (hC : KAll g ad ae) (hN : KN g) (hl : l.stackTraces = false) (σ : Hp) (B : Nat) (M : WM) (p1 : Int32) {o : Nat} {f : Nat → Int64} (ho : σ.2 o = some (eJ 1 f)) (hob : o < B ∨ B + 437 ≤ o) {r : Nat ⊕ (Int32 × WM)} (hr : SA_straighten M p1 = some r) (hk : ∀ k, r = .inl k → k ≠ 0) : MW l g md_L_straighten hh_straighten [.ref B, .int p1, .ref o] (putW σ B ae M) (PWr r ci1 (putW σ B ae M).2 (fun u => hset (putW σ B ae u.2) o (eJ 1 (vp_updL f 0 u.1.toInt64)))) := by
  refine MW.intro (by decide +kernel) (Nat.le_of_ble_eq_true rfl) (fun X hx hR => ?_)
  refine g_ls [0, 1, 2] [(0, .ref B), (1, .int p1), (2, .ref o)] rfl ?_
  refine g_aload_n hx 0 (i := 2) 2 dL_straighten_0 rfl rfl ?_
  refine g_iconst hx 1 (0) dL_straighten_1 rfl ?_
  refine g_aload_n hx 2 (i := 0) 0 dL_straighten_2 rfl rfl ?_
  refine g_iload_n hx 3 (i := 1) 1 dL_straighten_3 rfl rfl ?_
  refine g_callT hx hR (c_SA_straighten l g hC hl σ B M p1 hr) lk_L_straighten arL_straighten (pW σ B ae M 0 (by decide)) (T := TX10) (N := 11) rfl (As := [.int p1]) (rest := [.int 0, .ref o]) rfl (Nat.le_of_ble_eq_true rfl) ⟨Nat.le_of_ble_eq_true rfl, Nat.le_of_ble_eq_true rfl⟩ ⟨Nat.le_of_ble_eq_true rfl, Nat.le_of_ble_eq_true rfl⟩ dL_straighten_4 (fun v σ1 hp => ?_) (fun E σ1 hp => ?_)
  · obtain ⟨u, hu, rfl, rfl⟩ := hp
    refine g_i2l hx 7 dL_straighten_7 ?_
    refine g_last hx 8 ((pW_out σ B ae u.2 hob).trans ho) vp01 dL_straighten_8 ?_
    refine g_goto hx 9 15 dL_straighten_9 (by decide) ?_
    refine g_iconst hx 15 (0) dL_straighten_15 rfl ?_
    exact g_iretW hx hR 16 dL_straighten_16 ⟨Nat.le_of_ble_eq_true rfl, Nat.le_of_ble_eq_true rfl⟩ (Or.inr ⟨u, hu, rfl, rfl⟩)
  · obtain ⟨k, hk1, rfl, he⟩ := hp
    have hk2 := hk k hk1
    rw [show exn k = nse from if_neg hk2]
    refine ⟨12, goes_one (by decide) (by decide) xl_25 hN.n, fun q => ?_⟩
    refine g_astore_n hx 12 (i := 3) [(3, .ref q), (0, .ref B), (1, .int p1), (2, .ref o)] dL_straighten_12 rfl (by decide) rfl ?_
    refine g_iconst hx 13 (1) dL_straighten_13 rfl ?_
    exact g_iretW hx hR 14 dL_straighten_14 ⟨Nat.le_of_ble_eq_true rfl, Nat.le_of_ble_eq_true rfl⟩ (Or.inl ⟨k, hk1, rfl, he⟩)
def md_L_check : Md := (yL_check, cL_check, 4, some .int, 7, 167, 1, 6)
def hh_check : List (Nat × Nat × Nat × Nat) := [(0, 9, 12, 13)]
theorem lk_L_check : Lk md_SA_check [.methodLink RL 66 md_SA_check.y, .instanceMethod md_SA_check.y, .selects md_SA_check.y.cls md_SA_check.y md_SA_check.y] := lk_of (by decide +kernel)
theorem arL_check : Arity md_SA_check 1 := ⟨by decide +kernel, by decide +kernel, by decide +kernel⟩
set_option maxRecDepth 100000 in
set_option maxHeartbeats 4000000 in
theorem c_L_check {ad ae : Nat → Nat} (l : Launch) (g : Gl) (hC : KAll g ad ae) (hN : KN g) (hl : l.stackTraces = false) (σ : Hp) (B : Nat) (M : WM) (p1 : Int32) {o : Nat} {f : Nat → Int64} (ho : σ.2 o = some (eJ 1 f)) (hob : o < B ∨ B + 437 ≤ o) {r : Nat ⊕ (Int32 × WM)} (hr : SA_check M p1 = some r) (hk : ∀ k, r = .inl k → k = 0) : MW l g md_L_check hh_check [.ref B, .int p1, .ref o] (putW σ B ae M) (PWr r ci1 (putW σ B ae M).2 (fun u => hset (putW σ B ae u.2) o (eJ 1 (vp_updL f 0 u.1.toInt64)))) := by
  refine MW.intro (by decide +kernel) (Nat.le_of_ble_eq_true rfl) (fun X hx hR => ?_)
  refine g_ls [0, 1, 2] [(0, .ref B), (1, .int p1), (2, .ref o)] rfl ?_
  refine g_aload_n hx 0 (i := 2) 2 dL_check_0 rfl rfl ?_
  refine g_iconst hx 1 (0) dL_check_1 rfl ?_
  refine g_aload_n hx 2 (i := 0) 0 dL_check_2 rfl rfl ?_
  refine g_iload_n hx 3 (i := 1) 1 dL_check_3 rfl rfl ?_
  refine g_callT hx hR (c_SA_check l g hC hl σ B M p1 hr) lk_L_check arL_check (pW σ B ae M 0 (by decide)) (T := TX10) (N := 11) rfl (As := [.int p1]) (rest := [.int 0, .ref o]) rfl (Nat.le_of_ble_eq_true rfl) ⟨Nat.le_of_ble_eq_true rfl, Nat.le_of_ble_eq_true rfl⟩ ⟨Nat.le_of_ble_eq_true rfl, Nat.le_of_ble_eq_true rfl⟩ dL_check_4 (fun v σ1 hp => ?_) (fun E σ1 hp => ?_)
  · obtain ⟨u, hu, rfl, rfl⟩ := hp
    refine g_i2l hx 7 dL_check_7 ?_
    refine g_last hx 8 ((pW_out σ B ae u.2 hob).trans ho) vp01 dL_check_8 ?_
    refine g_goto hx 9 15 dL_check_9 (by decide) ?_
    refine g_iconst hx 15 (0) dL_check_15 rfl ?_
    exact g_iretW hx hR 16 dL_check_16 ⟨Nat.le_of_ble_eq_true rfl, Nat.le_of_ble_eq_true rfl⟩ (Or.inr ⟨u, hu, rfl, rfl⟩)
  · obtain ⟨k, hk1, rfl, he⟩ := hp
    obtain rfl := hk k hk1
    refine ⟨12, goes_one (by decide) (by decide) xl_13 hN.i, fun q => ?_⟩
    refine g_astore_n hx 12 (i := 3) [(3, .ref q), (0, .ref B), (1, .int p1), (2, .ref o)] dL_check_12 rfl (by decide) rfl ?_
    refine g_iconst hx 13 (1) dL_check_13 rfl ?_
    exact g_iretW hx hR 14 dL_check_14 ⟨Nat.le_of_ble_eq_true rfl, Nat.le_of_ble_eq_true rfl⟩ (Or.inl ⟨0, hk1, rfl, he⟩)
def md_L_setEmbargo : Md := (yL_setEmbargo, cL_setEmbargo, 5, some .int, 7, 168, 1, 6)
def hh_setEmbargo : List (Nat × Nat × Nat × Nat) := [(0, 10, 13, 25), (0, 10, 17, 13)]
theorem lk_L_setEmbargo : Lk md_SA_setEmbargo [.methodLink RL 69 md_SA_setEmbargo.y, .instanceMethod md_SA_setEmbargo.y, .selects md_SA_setEmbargo.y.cls md_SA_setEmbargo.y md_SA_setEmbargo.y] := lk_of (by decide +kernel)
theorem arL_setEmbargo : Arity md_SA_setEmbargo 2 := ⟨by decide +kernel, by decide +kernel, by decide +kernel⟩
set_option maxRecDepth 100000 in
set_option maxHeartbeats 4000000 in
theorem c_L_setEmbargo {ad ae : Nat → Nat} (l : Launch) (g : Gl) (hC : KAll g ad ae) (hN : KN g) (hl : l.stackTraces = false) (σ : Hp) (B : Nat) (M : WM) (p1 p2 : Int32) {o : Nat} {f : Nat → Int64} (ho : σ.2 o = some (eJ 1 f)) (hob : o < B ∨ B + 437 ≤ o) {r : Nat ⊕ (Int32 × WM)} (hr : SA_setEmbargo M p1 p2 = some r) : MW l g md_L_setEmbargo hh_setEmbargo [.ref B, .int p1, .int p2, .ref o] (putW σ B ae M) (PWr r ci2 (putW σ B ae M).2 (fun u => hset (putW σ B ae u.2) o (eJ 1 (vp_updL f 0 u.1.toInt64)))) := by
  refine MW.intro (by decide +kernel) (Nat.le_of_ble_eq_true rfl) (fun X hx hR => ?_)
  refine g_ls [0, 1, 2, 3] [(0, .ref B), (1, .int p1), (2, .int p2), (3, .ref o)] rfl ?_
  refine g_aload_n hx 0 (i := 3) 3 dL_setEmbargo_0 rfl rfl ?_
  refine g_iconst hx 1 (0) dL_setEmbargo_1 rfl ?_
  refine g_aload_n hx 2 (i := 0) 0 dL_setEmbargo_2 rfl rfl ?_
  refine g_iload_n hx 3 (i := 1) 1 dL_setEmbargo_3 rfl rfl ?_
  refine g_iload_n hx 4 (i := 2) 2 dL_setEmbargo_4 rfl rfl ?_
  refine g_callT hx hR (c_SA_setEmbargo l g hC hl σ B M p1 p2 hr) lk_L_setEmbargo arL_setEmbargo (pW σ B ae M 0 (by decide)) (T := TX10) (N := 11) rfl (As := [.int p1, .int p2]) (rest := [.int 0, .ref o]) rfl (Nat.le_of_ble_eq_true rfl) ⟨Nat.le_of_ble_eq_true rfl, Nat.le_of_ble_eq_true rfl⟩ ⟨Nat.le_of_ble_eq_true rfl, Nat.le_of_ble_eq_true rfl⟩ dL_setEmbargo_5 (fun v σ1 hp => ?_) (fun E σ1 hp => ?_)
  · obtain ⟨u, hu, rfl, rfl⟩ := hp
    refine g_i2l hx 8 dL_setEmbargo_8 ?_
    refine g_last hx 9 ((pW_out σ B ae u.2 hob).trans ho) vp01 dL_setEmbargo_9 ?_
    refine g_goto hx 10 21 dL_setEmbargo_10 (by decide) ?_
    refine g_iconst hx 21 (0) dL_setEmbargo_21 rfl ?_
    exact g_iretW hx hR 22 dL_setEmbargo_22 ⟨Nat.le_of_ble_eq_true rfl, Nat.le_of_ble_eq_true rfl⟩ (Or.inr ⟨u, hu, rfl, rfl⟩)
  · obtain ⟨k, hk1, rfl, he⟩ := hp
    by_cases hk2 : k = 0
    · subst hk2
      refine ⟨17, goes_two2 hN (by decide), fun q => ?_⟩
      refine g_astore hx 17 (i := 4) [(4, .ref q), (0, .ref B), (1, .int p1), (2, .int p2), (3, .ref o)] dL_setEmbargo_17 (by decide) rfl ?_
      refine g_iconst hx 19 (2) dL_setEmbargo_19 rfl ?_
      exact g_iretW hx hR 20 dL_setEmbargo_20 ⟨Nat.le_of_ble_eq_true rfl, Nat.le_of_ble_eq_true rfl⟩ (Or.inl ⟨0, hk1, rfl, he⟩)
    · rw [show exn k = nse from if_neg hk2]
      refine ⟨13, goes_two1 (by decide) (by decide) xl_25 hN.n, fun q => ?_⟩
      refine g_astore hx 13 (i := 4) [(4, .ref q), (0, .ref B), (1, .int p1), (2, .int p2), (3, .ref o)] dL_setEmbargo_13 (by decide) rfl ?_
      refine g_iconst hx 15 (1) dL_setEmbargo_15 rfl ?_
      exact g_iretW hx hR 16 dL_setEmbargo_16 ⟨Nat.le_of_ble_eq_true rfl, Nat.le_of_ble_eq_true rfl⟩ (Or.inl ⟨k, hk1, by rw [show ci2 k = 1 from if_neg hk2], he⟩)
def md_L_play : Md := (yL_play, cL_play, 4, some .int, 8, 195, 1, 6)
def hh_play : List (Nat × Nat × Nat × Nat) := [(0, 9, 12, 13)]
theorem lk_L_play : Lk md_SA_play [.methodLink RL 72 md_SA_play.y, .instanceMethod md_SA_play.y, .selects md_SA_play.y.cls md_SA_play.y md_SA_play.y] := lk_of (by decide +kernel)
theorem arL_play : Arity md_SA_play 1 := ⟨by decide +kernel, by decide +kernel, by decide +kernel⟩
set_option maxRecDepth 100000 in
set_option maxHeartbeats 4000000 in
theorem c_L_play {ad ae : Nat → Nat} (l : Launch) (g : Gl) (hC : KAll g ad ae) (hN : KN g) (hl : l.stackTraces = false) (σ : Hp) (B : Nat) (M : WM) (p1 : Int32) {o : Nat} {f : Nat → Int64} (ho : σ.2 o = some (eJ 1 f)) (hob : o < B ∨ B + 437 ≤ o) {r : Nat ⊕ (Int32 × WM)} (hr : SA_play M p1 = some r) (hk : ∀ k, r = .inl k → k = 0) : MW l g md_L_play hh_play [.ref B, .int p1, .ref o] (putW σ B ae M) (PWr r ci1 (putW σ B ae M).2 (fun u => hset (putW σ B ae u.2) o (eJ 1 (vp_updL f 0 u.1.toInt64)))) := by
  refine MW.intro (by decide +kernel) (Nat.le_of_ble_eq_true rfl) (fun X hx hR => ?_)
  refine g_ls [0, 1, 2] [(0, .ref B), (1, .int p1), (2, .ref o)] rfl ?_
  refine g_aload_n hx 0 (i := 2) 2 dL_play_0 rfl rfl ?_
  refine g_iconst hx 1 (0) dL_play_1 rfl ?_
  refine g_aload_n hx 2 (i := 0) 0 dL_play_2 rfl rfl ?_
  refine g_iload_n hx 3 (i := 1) 1 dL_play_3 rfl rfl ?_
  refine g_callT hx hR (c_SA_play l g hC hl σ B M p1 hr) lk_L_play arL_play (pW σ B ae M 0 (by decide)) (T := TX10) (N := 11) rfl (As := [.int p1]) (rest := [.int 0, .ref o]) rfl (Nat.le_of_ble_eq_true rfl) ⟨Nat.le_of_ble_eq_true rfl, Nat.le_of_ble_eq_true rfl⟩ ⟨Nat.le_of_ble_eq_true rfl, Nat.le_of_ble_eq_true rfl⟩ dL_play_4 (fun v σ1 hp => ?_) (fun E σ1 hp => ?_)
  · obtain ⟨u, hu, rfl, rfl⟩ := hp
    refine g_i2l hx 7 dL_play_7 ?_
    refine g_last hx 8 ((pW_out σ B ae u.2 hob).trans ho) vp01 dL_play_8 ?_
    refine g_goto hx 9 15 dL_play_9 (by decide) ?_
    refine g_iconst hx 15 (0) dL_play_15 rfl ?_
    exact g_iretW hx hR 16 dL_play_16 ⟨Nat.le_of_ble_eq_true rfl, Nat.le_of_ble_eq_true rfl⟩ (Or.inr ⟨u, hu, rfl, rfl⟩)
  · obtain ⟨k, hk1, rfl, he⟩ := hp
    obtain rfl := hk k hk1
    refine ⟨12, goes_one (by decide) (by decide) xl_13 hN.i, fun q => ?_⟩
    refine g_astore_n hx 12 (i := 3) [(3, .ref q), (0, .ref B), (1, .int p1), (2, .ref o)] dL_play_12 rfl (by decide) rfl ?_
    refine g_iconst hx 13 (1) dL_play_13 rfl ?_
    exact g_iretW hx hR 14 dL_play_14 ⟨Nat.le_of_ble_eq_true rfl, Nat.le_of_ble_eq_true rfl⟩ (Or.inl ⟨0, hk1, rfl, he⟩)
