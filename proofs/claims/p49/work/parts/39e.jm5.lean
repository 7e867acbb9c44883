/-! a String that was made: its length, its letters -/
set_option maxRecDepth 100000 in
set_option maxHeartbeats 4000000 in
theorem c_S_coder (l : Launch) (g : Gl) (hJ : KJ g) {σ : Hp} {a w N : Nat} {f : Nat → Int32} (ha : σ.2 a = some (eO 9 [.ref w, .int 0, .int 0, .int 0])) (hw : σ.2 w = some (eB N f)) : MG l g md_J0_coder [.ref a] σ (rs (some (.int 0)) σ) := by
  refine MG.intro (by decide +kernel) (Nat.le_of_ble_eq_true rfl) (fun X hx hR _ => ?_)
  refine g_ls [0] [(0, .ref a)] rfl ?_
  refine g_gets hx 0 (.int 1) hJ.1 fl_J0_38 dJ0_coder_7d493_0 ?_
  refine g_if_eq hx 3 13 dJ0_coder_7d493_3 (by decide) (fun hc => absurd hc (by decide)) (fun _ => ?_)
  refine g_aload_n hx 6 (i := 0) 0 dJ0_coder_7d493_6 rfl rfl ?_
  refine g_get hx 7 (C := RJ0) (T := TJ0) (N := 4) 1 (.int 0) ha rfl (by decide) rfl fl_J0_15 dJ0_coder_7d493_7 ?_
  refine g_goto hx 10 14 dJ0_coder_7d493_10 (by decide) ?_
  exact g_nret hx hR 14 rfl dJ0_coder_7d493_14 ⟨rfl, rfl⟩
set_option maxRecDepth 100000 in
set_option maxHeartbeats 4000000 in
theorem c_S_isLatin1 (l : Launch) (g : Gl) (hJ : KJ g) {σ : Hp} {a w N : Nat} {f : Nat → Int32} (ha : σ.2 a = some (eO 9 [.ref w, .int 0, .int 0, .int 0])) (hw : σ.2 w = some (eB N f)) : MG l g md_J0_isLatin1 [.ref a] σ (rs (some (.int 1)) σ) := by
  refine MG.intro (by decide +kernel) (Nat.le_of_ble_eq_true rfl) (fun X hx hR _ => ?_)
  refine g_ls [0] [(0, .ref a)] rfl ?_
  refine g_gets hx 0 (.int 1) hJ.1 fl_J0_38 dJ0_isLatin1_aae02_0 ?_
  refine g_if_eq hx 3 17 dJ0_isLatin1_aae02_3 (by decide) (fun hc => absurd hc (by decide)) (fun _ => ?_)
  refine g_aload_n hx 6 (i := 0) 0 dJ0_isLatin1_aae02_6 rfl rfl ?_
  refine g_get hx 7 (C := RJ0) (T := TJ0) (N := 4) 1 (.int 0) ha rfl (by decide) rfl fl_J0_15 dJ0_isLatin1_aae02_7 ?_
  refine g_if_ne hx 10 17 dJ0_isLatin1_aae02_10 (by decide) (fun hc => absurd rfl hc) (fun _ => ?_)
  refine g_iconst hx 13 (1) dJ0_isLatin1_aae02_13 rfl ?_
  refine g_goto hx 14 18 dJ0_isLatin1_aae02_14 (by decide) ?_
  exact g_nret hx hR 18 rfl dJ0_isLatin1_aae02_18 ⟨rfl, rfl⟩
set_option maxRecDepth 100000 in
set_option maxHeartbeats 4000000 in
theorem c_S_length (l : Launch) (g : Gl) (hJ : KJ g) {σ : Hp} {a w N : Nat} {f : Nat → Int32} (ha : σ.2 a = some (eO 9 [.ref w, .int 0, .int 0, .int 0])) (hw : σ.2 w = some (eB N f)) : MG l g md_J0_length [.ref a] σ (rs (some (.int (nI N))) σ) := by
  refine MG.intro (by decide +kernel) (Nat.le_of_ble_eq_true rfl) (fun X hx hR _ => ?_)
  refine g_ls [0] [(0, .ref a)] rfl ?_
  refine g_aload_n hx 0 (i := 0) 0 dJ0_length_8abf5_0 rfl rfl ?_
  refine g_get hx 1 (C := RJ0) (T := TJ0) (N := 4) 0 (.ref w) ha rfl (by decide) rfl fl_J0_9 dJ0_length_8abf5_1 ?_
  refine g_alenB hx 4 hw dJ0_length_8abf5_4 ?_
  refine g_aload_n hx 5 (i := 0) 0 dJ0_length_8abf5_5 rfl rfl ?_
  refine g_callVr hx (c_S_coder l g hJ ha hw) lk_J0_335 ar_J0_coder ha (T := TJ0) (N := 4) rfl (As := []) (rest := [.int (nI N)]) rfl (Nat.le_of_ble_eq_true rfl) ⟨Nat.le_of_ble_eq_true rfl, Nat.le_of_ble_eq_true rfl⟩ ⟨rfl, rfl⟩ ⟨Nat.zero_le _, Nat.zero_le _⟩ dJ0_length_8abf5_6 ?_
  refine g_ishr hx 9 dJ0_length_8abf5_9 ?_
  refine g_nmi (x := nI N) (sb_shr0 _).symm ?_
  exact g_iret hx hR 10 dJ0_length_8abf5_10 ⟨rfl, rfl⟩
set_option maxRecDepth 100000 in
set_option maxHeartbeats 4000000 in
theorem c_S_charAt1 (l : Launch) (g : Gl) (hJ : KJ g) {σ : Hp} {w N i : Nat} {f : Nat → Int32} (hw : σ.2 w = some (eB N f)) (hi : i < N) (hN : N < 1000) (hf : f i &&& 255 = f i) : MG l g md_J1_charAt [.ref w, .int (nI i)] σ (rs (some (.int (f i))) σ) := by
  refine MG.intro (by decide +kernel) (Nat.le_of_ble_eq_true rfl) (fun X hx hR _ => ?_)
  refine g_ls [0, 1] [(0, .ref w), (1, .int (nI i))] rfl ?_
  refine g_iload_n hx 0 (i := 1) 1 dJ1_charAt_3b067_0 rfl rfl ?_
  refine g_aload_n hx 1 (i := 0) 0 dJ1_charAt_3b067_1 rfl rfl ?_
  refine g_alenB hx 2 hw dJ1_charAt_3b067_2 ?_
  refine g_callSv hx (c_J0_checkIndex l g hJ σ (nI i) (nI N) (nI_pos (by omega)) (nI_lt hi (by omega))) lk_J1_9 ar_J0_checkIndex (As := [.int (nI i), .int (nI N)]) (rest := []) rfl (Nat.le_of_ble_eq_true rfl) ⟨Nat.le_of_ble_eq_true rfl, Nat.le_of_ble_eq_true rfl⟩ ⟨rfl, rfl⟩ ⟨Nat.zero_le _, Nat.zero_le _⟩ dJ1_charAt_3b067_3 ?_
  refine g_aload_n hx 6 (i := 0) 0 dJ1_charAt_3b067_6 rfl rfl ?_
  refine g_iload_n hx 7 (i := 1) 1 dJ1_charAt_3b067_7 rfl rfl ?_
  refine g_bald hx 8 hw (vp_in_nI hi (by omega)) dJ1_charAt_3b067_8 ?_
  rw [nI_clamp (show i < 2 ^ 31 by omega)]
  refine g_sipush hx 9 (255) dJ1_charAt_3b067_9 rfl ?_
  refine g_iand hx 12 dJ1_charAt_3b067_12 ?_
  refine g_i2c hx 13 dJ1_charAt_3b067_13 ?_
  rw [sc_c2 (f i)]
  have e3 := sc_nar (f i)
  rw [hf] at e3 ⊢
  exact g_nret hx hR 14 e3 dJ1_charAt_3b067_14 ⟨rfl, rfl⟩
set_option maxRecDepth 100000 in
set_option maxHeartbeats 4000000 in
theorem c_S_charAt (l : Launch) (g : Gl) (hJ : KJ g) {σ : Hp} {a w N : Nat} {f : Nat → Int32} (ha : σ.2 a = some (eO 9 [.ref w, .int 0, .int 0, .int 0])) (hw : σ.2 w = some (eB N f)) {i : Nat} (hi : i < N) (hN : N < 1000) (hf : f i &&& 255 = f i) : MG l g md_J0_charAt [.ref a, .int (nI i)] σ (rs (some (.int (f i))) σ) := by
  refine MG.intro (by decide +kernel) (Nat.le_of_ble_eq_true rfl) (fun X hx hR _ => ?_)
  refine g_ls [0, 1] [(0, .ref a), (1, .int (nI i))] rfl ?_
  refine g_aload_n hx 0 (i := 0) 0 dJ0_charAt_5068e_0 rfl rfl ?_
  refine g_callVr hx (c_S_isLatin1 l g hJ ha hw) lk_J0_492 ar_J0_isLatin1 ha (T := TJ0) (N := 4) rfl (As := []) (rest := []) rfl (Nat.le_of_ble_eq_true rfl) ⟨Nat.le_of_ble_eq_true rfl, Nat.le_of_ble_eq_true rfl⟩ ⟨rfl, rfl⟩ ⟨Nat.zero_le _, Nat.zero_le _⟩ dJ0_charAt_5068e_1 ?_
  refine g_if_eq hx 4 16 dJ0_charAt_5068e_4 (by decide) (fun hc => absurd hc (by decide)) (fun _ => ?_)
  refine g_aload_n hx 7 (i := 0) 0 dJ0_charAt_5068e_7 rfl rfl ?_
  refine g_get hx 8 (C := RJ0) (T := TJ0) (N := 4) 0 (.ref w) ha rfl (by decide) rfl fl_J0_9 dJ0_charAt_5068e_8 ?_
  refine g_iload_n hx 11 (i := 1) 1 dJ0_charAt_5068e_11 rfl rfl ?_
  refine g_callSr hx (c_S_charAt1 l g hJ hw hi hN hf) lk_J0_495 ar_J1_charAt (As := [.ref w, .int (nI i)]) (rest := []) rfl (Nat.le_of_ble_eq_true rfl) ⟨Nat.le_of_ble_eq_true rfl, Nat.le_of_ble_eq_true rfl⟩ ⟨rfl, rfl⟩ ⟨Nat.zero_le _, Nat.zero_le _⟩ dJ0_charAt_5068e_12 ?_
  have e3 := sc_nar (f i)
  rw [hf] at e3
  exact g_nret hx hR 15 e3 dJ0_charAt_5068e_15 ⟨rfl, rfl⟩
