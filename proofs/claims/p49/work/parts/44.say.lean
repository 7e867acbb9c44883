/-! the text is fed -/
def Lw_say : List Int32 → LwS → Option LwS
  | [], S => some S
  | c :: cs, S => Option.bind (Lw_add S c) fun S' => Lw_say cs S'
def md_Lw_say : Md := (yL_say, cL_say, 4, none, 4, 100, 0, 0)
theorem kl_14 : LkV RL 14 md_J0_length := lk_of (by decide +kernel)
theorem kl_20 : LkV RL 20 md_J0_charAt := lk_of (by decide +kernel)
theorem kl_24 : LkS RL 24 md_Lw_add := lk_of (by decide +kernel)
set_option maxRecDepth 100000 in
set_option maxHeartbeats 4000000 in
theorem w_say {X : Cx} {l : Launch} {g : Gl} {ad ae : Nat → Nat} (hx : Ok X l g RL cL_say 4 md_Lw_say.rm) (hC : KAll g ad ae) {B wa ta w : Nat} (hwa : wa < B ∨ B + 437 ≤ wa) {σ : Hp} {f : Nat → Int32} {cs : List Int32} (hta1 : ∀ S : LwS, (putW (hset σ wa (eI 6 S.2)) B ae S.1).2 ta = some (eO 9 [.ref w, .int 0, .int 0, .int 0])) (hw1 : ∀ S : LwS, (putW (hset σ wa (eI 6 S.2)) B ae S.1).2 w = some (eB cs.length f)) (hf : ∀ j, j < cs.length → f j = cs.getD j 0) (hcs : ∀ c ∈ cs, c &&& 255 = c) (hl : cs.length < 1000) {r : LwS} (hR : Ret X (rs none (putW (hset σ wa (eI 6 r.2)) B ae r.1)) md_Lw_say.rm.cells md_Lw_say.rm.slots none) : ∀ (rest : List Int32) (j : Nat) (S : LwS), j ≤ cs.length → cs.drop j = rest → Lw_say rest S = some r → G X (putW (hset σ wa (eI 6 S.2)) B ae S.1) 0 0 2 [(0, .ref B), (1, .ref wa), (2, .ref ta), (3, .int (nI j))] [] := by
  intro rest
  induction rest with
  | nil =>
    intro j S hj hd hr
    have hjl : cs.length ≤ j := List.drop_eq_nil_iff.mp hd
    refine g_iload_n hx 2 (i := 3) 3 dL_say_2 rfl rfl ?_
    refine g_aload_n hx 3 (i := 2) 2 dL_say_3 rfl rfl ?_
    refine g_callVr hx (c_S_length l g hC.1.1 (hta1 _) (hw1 _)) kl_14 ar_J0_length (hta1 _) (T := TJ0) (N := 4) rfl (As := []) (rest := [.int (nI j)]) rfl (Nat.le_of_ble_eq_true rfl) ⟨Nat.le_of_ble_eq_true rfl, Nat.le_of_ble_eq_true rfl⟩ ⟨rfl, rfl⟩ ⟨Nat.zero_le _, Nat.zero_le _⟩ dL_say_4 ?_
    refine g_icmp_ge hx 7 26 dL_say_7 (by decide) (fun _ => ?_) (fun hc => absurd (nI_le (by omega) (by omega)) hc)
    cases Option.some.inj hr
    exact g_vret hx hR 26 dL_say_26 ⟨rfl, rfl⟩
  | cons c rest ih =>
    intro j S hj hdr hr
    have hjl : j < cs.length := by
      have h := congrArg List.length hdr
      rw [List.length_drop, List.length_cons] at h
      omega
    have hcj : cs.getD j 0 = c := by
      have h := congrArg (fun z => z.head?) hdr
      rw [List.head?_drop] at h
      rw [List.getD_eq_getElem?_getD, h]; rfl
    have hmem : c ∈ cs := List.mem_of_mem_drop (i := j) (by rw [hdr]; exact List.mem_cons_self)
    obtain ⟨S', e1, hr⟩ := bind_e hr
    refine g_iload_n hx 2 (i := 3) 3 dL_say_2 rfl rfl ?_
    refine g_aload_n hx 3 (i := 2) 2 dL_say_3 rfl rfl ?_
    refine g_callVr hx (c_S_length l g hC.1.1 (hta1 _) (hw1 _)) kl_14 ar_J0_length (hta1 _) (T := TJ0) (N := 4) rfl (As := []) (rest := [.int (nI j)]) rfl (Nat.le_of_ble_eq_true rfl) ⟨Nat.le_of_ble_eq_true rfl, Nat.le_of_ble_eq_true rfl⟩ ⟨rfl, rfl⟩ ⟨Nat.zero_le _, Nat.zero_le _⟩ dL_say_4 ?_
    refine g_icmp_ge hx 7 26 dL_say_7 (by decide) (fun hc => absurd hc (nI_ge (by omega) (by omega))) (fun _ => ?_)
    refine g_aload_n hx 10 (i := 0) 0 dL_say_10 rfl rfl ?_
    refine g_aload_n hx 11 (i := 1) 1 dL_say_11 rfl rfl ?_
    refine g_aload_n hx 12 (i := 2) 2 dL_say_12 rfl rfl ?_
    refine g_iload_n hx 13 (i := 3) 3 dL_say_13 rfl rfl ?_
    refine g_callVr hx (c_S_charAt l g hC.1.1 (hta1 _) (hw1 _) (i := j) hjl hl (by rw [hf j hjl, hcj]; exact hcs c hmem)) kl_20 ar_J0_charAt (hta1 _) (T := TJ0) (N := 4) rfl (As := [.int (nI j)]) (rest := [.ref wa, .ref B]) rfl (Nat.le_of_ble_eq_true rfl) ⟨Nat.le_of_ble_eq_true rfl, Nat.le_of_ble_eq_true rfl⟩ ⟨rfl, rfl⟩ ⟨Nat.zero_le _, Nat.zero_le _⟩ dL_say_14 ?_
    refine g_nmi (x := c) (by rw [hf j hjl, hcj]) ?_
    refine g_callSv hx (c_Lw_add l g hC hwa (σ := σ) S c e1) kl_24 ar_Lw_add (As := [.ref B, .ref wa, .int c]) (rest := []) rfl (Nat.le_of_ble_eq_true rfl) ⟨Nat.le_of_ble_eq_true rfl, Nat.le_of_ble_eq_true rfl⟩ ⟨rfl, rfl⟩ ⟨Nat.zero_le _, Nat.zero_le _⟩ dL_say_17 ?_
    refine g_iinc hx 20 (i := 3) 3 (nI (j + 1)) [(3, .int (nI (j + 1))), (0, .ref B), (1, .ref wa), (2, .ref ta)] dL_say_20 rfl (nI_1 j) (by decide) rfl ?_
    refine g_goto hx 23 2 dL_say_23 (by decide) ?_
    refine g_ls [1, 2, 3, 0] [(0, .ref B), (1, .ref wa), (2, .ref ta), (3, .int (nI (j + 1)))] rfl ?_
    exact ih (j + 1) S' (by omega) (by rw [← List.drop_drop, hdr]; rfl) hr
set_option maxRecDepth 100000 in
set_option maxHeartbeats 4000000 in
theorem c_Lw_say {ad ae : Nat → Nat} (l : Launch) (g : Gl) (hC : KAll g ad ae) {B wa ta w : Nat} (hwa : wa < B ∨ B + 437 ≤ wa) {σ : Hp} {f : Nat → Int32} {cs : List Int32} (hta1 : ∀ S : LwS, (putW (hset σ wa (eI 6 S.2)) B ae S.1).2 ta = some (eO 9 [.ref w, .int 0, .int 0, .int 0])) (hw1 : ∀ S : LwS, (putW (hset σ wa (eI 6 S.2)) B ae S.1).2 w = some (eB cs.length f)) (hf : ∀ j, j < cs.length → f j = cs.getD j 0) (hcs : ∀ c ∈ cs, c &&& 255 = c) (hl : cs.length < 1000) (S : LwS) {r : LwS} (hr : Lw_say cs S = some r) : MG l g md_Lw_say [.ref B, .ref wa, .ref ta] (putW (hset σ wa (eI 6 S.2)) B ae S.1) (rs none (putW (hset σ wa (eI 6 r.2)) B ae r.1)) := by
  refine MG.intro (by decide +kernel) (Nat.le_of_ble_eq_true rfl) (fun X hx hR _ => ?_)
  refine g_ls [0, 1, 2] [(0, .ref B), (1, .ref wa), (2, .ref ta)] rfl ?_
  refine g_iconst hx 0 (0) dL_say_0 rfl ?_
  refine g_istore_n hx 1 (i := 3) [(3, .int 0), (0, .ref B), (1, .ref wa), (2, .ref ta)] dL_say_1 rfl (by decide) rfl ?_
  refine g_ls [1, 2, 3, 0] [(0, .ref B), (1, .ref wa), (2, .ref ta), (3, .int (nI 0))] rfl ?_
  exact w_say hx hC hwa hta1 hw1 hf hcs hl hR cs 0 S (Nat.zero_le _) rfl hr
