/-! StringBuilder: blanks, numbers, the beginning -/
theorem j_dec {a c : Nat} (h : c + 1 = a) : nI a + Int32.ofInt (-1) = nI c := by
  subst h
  rw [show Int32.ofInt (-1) = -1 from rfl, ← Int32.sub_eq_add_neg]
  exact nI_pred c
theorem up_s (f : Nat → Int32) (i : Nat) (v : Int32) : upd f i v i = v := if_pos rfl
theorem up_n {f : Nat → Int32} {i j : Nat} {v : Int32} (h : j ≠ i) : upd f i v j = f j := if_neg h
/-- a letter of one byte -/
def CH (c : Int32) : Prop := ¬ 255 < c ∧ c.toInt8.toInt32 = c ∧ narrow .byte (.int c) = .int c ∧ fits .byte (.int c) = true
theorem CH_32 : CH 32 := ⟨by decide, rfl, rfl, rfl⟩
theorem CH_59 : CH 59 := ⟨by decide, rfl, rfl, rfl⟩
def dg (m : Nat) : List Int32 := if m < 10 then [nI (48 + m)] else if m < 100 then [nI (48 + m / 10), nI (48 + m % 10)] else [nI (48 + m / 100), nI (48 + m / 10 % 10), nI (48 + m % 10)]
theorem dg1 {m : Nat} (h : m < 10) : dg m = [nI (48 + m)] := if_pos h
theorem dg2 {m : Nat} (h : ¬ m < 10) (h2 : m < 100) : dg m = [nI (48 + m / 10), nI (48 + m % 10)] := (if_neg h).trans (if_pos h2)
theorem dg3 {m : Nat} (h2 : ¬ m < 100) : dg m = [nI (48 + m / 100), nI (48 + m / 10 % 10), nI (48 + m % 10)] := (if_neg (by omega)).trans (if_neg h2)
theorem dg_pos (m : Nat) : 1 ≤ (dg m).length := by
  unfold dg
  split
  · exact Nat.le_refl _
  · split <;> exact Nat.le_of_ble_eq_true rfl
theorem ss_10 : ∀ m, m < 1000 → (10 ≤ m ↔ - nI m ≤ (-10)) := by decide +kernel
theorem ss_100 : ∀ m, m < 1000 → (100 ≤ m ↔ - nI m ≤ 10 * (-10)) := by decide +kernel
theorem ss_1000 : ∀ m, m < 1000 → ¬ - nI m ≤ 10 * (10 * (-10)) := by decide +kernel
theorem gc_100 : ∀ m, m < 1000 → (m < 100 ↔ -100 < - nI m) := by decide +kernel
theorem gc_10 : ∀ m, m < 1000 → (m < 10 ↔ -9 ≤ - nI m) := by decide +kernel
theorem gc_q : ∀ m, m < 1000 → - nI m / 100 = - nI (m / 100) := by decide +kernel
theorem gc_r : ∀ m, m < 1000 → - nI (m / 100) * 100 - - nI m = nI (m % 100) := by decide +kernel
theorem gc_n : ∀ m, m < 1000 → - - nI m = nI m := by decide +kernel
theorem gc_by : ∀ m, m < 10 → narrow .byte (.int (nI (48 + m))) = .int (nI (48 + m)) ∧ fits .byte (.int (nI (48 + m))) = true := by decide +kernel
theorem lu_J5_83 : LkU RJ5 83 RJ4 "java/lang/AbstractStringBuilder" xIsL md_J5_isLatin1_aae02 := aw_of (by decide +kernel)
theorem lk_J5_191 : LkS RJ5 191 md_J1_canEncode_fc78d := lk_of (by decide +kernel)
theorem ar_J1_canEncode : Arity md_J1_canEncode_fc78d 1 := ⟨by decide +kernel, by decide +kernel, by decide +kernel⟩
theorem ls_J4_append_cf468 : LkSU RJ4 50 md_J5_append_3fe6f := aw_of (by decide +kernel)
theorem fl_J6_83 : Cond.fieldLink RJ6 83 "java/lang/Integer" "DigitOnes" "[B" ∈ aw := aw1 (by decide +kernel)
theorem fl_J6_87 : Cond.fieldLink RJ6 87 "java/lang/Integer" "DigitTens" "[B" ∈ aw := aw1 (by decide +kernel)
set_option maxRecDepth 100000 in
set_option maxHeartbeats 4000000 in
theorem c_canEncode (l : Launch) (g : Gl) (σ : Hp) {c : Int32} (hC : CH c) : MG l g md_J1_canEncode_fc78d [.int c] σ (rs (some (.int 1)) σ) := by
  refine MG.intro (by decide +kernel) (Nat.le_of_ble_eq_true rfl) (fun X hx hR _ => ?_)
  refine g_ls [0] [(0, .int c)] rfl ?_
  refine g_iload_n hx 0 (i := 0) 0 dJ1_canEncode_fc78d_0 rfl rfl ?_
  refine g_sipush hx 1 (255) dJ1_canEncode_fc78d_1 rfl ?_
  refine g_icmp_gt hx 4 11 dJ1_canEncode_fc78d_4 (by decide) (fun hc => absurd hc hC.1) (fun _ => ?_)
  refine g_iconst hx 7 (1) dJ1_canEncode_fc78d_7 rfl ?_
  refine g_goto hx 8 12 dJ1_canEncode_fc78d_8 (by decide) ?_
  exact g_nret hx hR 12 rfl dJ1_canEncode_fc78d_12 ⟨rfl, rfl⟩
set_option maxRecDepth 100000 in
set_option maxHeartbeats 4000000 in
theorem c_J5_appendC (l : Launch) (g : Gl) (hK : KB g) {σ : Hp} {b : Nat} {t : List Int32} (hb : SB σ b t) {c : Int32} (hC : CH c) (hq : t.length + 1 ≤ 450) : MG l g md_J5_append_3fe6f [.ref b, .int c] σ (fun r σ' => r = some (.ref b) ∧ SB σ' b (t ++ [c]) ∧ Kept σ σ' b) := by
  have hq1 : t.length < 100000 := by omega
  obtain ⟨v, cap, f, hB, hf0, ht⟩ := hb
  refine MG.intro (by decide +kernel) (Nat.le_of_ble_eq_true rfl) (fun X hx hR _ => ?_)
  refine g_ls [0, 1] [(0, .ref b), (1, .int c)] rfl ?_
  refine g_aload_n hx 0 (i := 0) 0 dJ5_append_3fe6f_0 rfl rfl ?_
  refine g_aload_n hx 1 (i := 0) 0 dJ5_append_3fe6f_1 rfl rfl ?_
  refine g_get hx 2 (C := RJ4) (T := TJ4) (N := 4) 3 (.int (nI t.length)) hB.1 rfl (by decide) rfl fl_J5_79 dJ5_append_3fe6f_2 ?_
  refine g_iconst hx 5 (1) dJ5_append_3fe6f_5 rfl ?_
  refine g_iadd hx 6 dJ5_append_3fe6f_6 ?_
  refine g_nmi (x := nI (t.length + 1)) (nI_1 _).symm ?_
  refine g_callP hx (c_ensure l g hK hB hf0 hq) lp_J5_100 hK (List.mem_of_getElem? (i := 0) rfl) rfl (show (parseMethodDescriptor yJ5_ensureCapacityInternal_d00df.desc).map (fun d => d.parameters.length) = some 1 by decide +kernel) hB.1 (As := [.int (nI (t.length + 1))]) (rest := []) rfl (Nat.le_of_ble_eq_true rfl) ⟨Nat.le_of_ble_eq_true rfl, Nat.le_of_ble_eq_true rfl⟩ ⟨Nat.le_of_ble_eq_true rfl, Nat.le_of_ble_eq_true rfl⟩ dJ5_append_3fe6f_7 (fun r σ1 hp => ?_)
  obtain ⟨rfl, v', cap', f', hB', hf', hj', hq', hk'⟩ := hp
  show G X σ1 1 902 10 [(0, .ref b), (1, .int c)] []
  refine g_aload_n hx 10 (i := 0) 0 dJ5_append_3fe6f_10 rfl rfl ?_
  refine g_callU hx (c_J5_isLatin1 l g hK.1 hB') lu_J5_83 rfl ⟨by decide +kernel, by decide +kernel, by decide +kernel⟩ hB'.1 (T := TJ4) (N := 4) rfl (As := []) (rest := []) rfl (Nat.le_of_ble_eq_true rfl) ⟨Nat.le_of_ble_eq_true rfl, Nat.le_of_ble_eq_true rfl⟩ ⟨Nat.le_of_ble_eq_true rfl, Nat.le_of_ble_eq_true rfl⟩ dJ5_append_3fe6f_11 (fun r σ2 hp => ?_)
  obtain ⟨rfl, rfl⟩ := hp
  show G X σ2 1 902 14 [(0, .ref b), (1, .int c)] [.int 1]
  refine g_if_eq hx 14 45 dJ5_append_3fe6f_14 (by decide) (fun hc => absurd hc (by decide)) (fun _ => ?_)
  refine g_iload_n hx 17 (i := 1) 1 dJ5_append_3fe6f_17 rfl rfl ?_
  refine g_callSr hx (c_canEncode l g σ2 hC) lk_J5_191 ar_J1_canEncode (As := [.int c]) (rest := []) rfl (Nat.le_of_ble_eq_true rfl) ⟨Nat.le_of_ble_eq_true rfl, Nat.le_of_ble_eq_true rfl⟩ ⟨rfl, rfl⟩ ⟨Nat.le_of_ble_eq_true rfl, Nat.le_of_ble_eq_true rfl⟩ dJ5_append_3fe6f_18 ?_
  refine g_if_eq hx 21 45 dJ5_append_3fe6f_21 (by decide) (fun hc => absurd hc (by decide)) (fun _ => ?_)
  refine g_aload_n hx 24 (i := 0) 0 dJ5_append_3fe6f_24 rfl rfl ?_
  refine g_get hx 25 (C := RJ4) (T := TJ4) (N := 4) 0 (.ref v') hB'.1 rfl (by decide) rfl fl_J5_15 dJ5_append_3fe6f_25 ?_
  refine g_aload_n hx 28 (i := 0) 0 dJ5_append_3fe6f_28 rfl rfl ?_
  refine g_dup hx 29 dJ5_append_3fe6f_29 rfl ?_
  refine g_get hx 30 (C := RJ4) (T := TJ4) (N := 4) 3 (.int (nI t.length)) hB'.1 rfl (by decide) rfl fl_J5_79 dJ5_append_3fe6f_30 ?_
  refine g_dup_x1 hx 33 dJ5_append_3fe6f_33 rfl rfl ?_
  refine g_iconst hx 34 (1) dJ5_append_3fe6f_34 rfl ?_
  refine g_iadd hx 35 dJ5_append_3fe6f_35 ?_
  refine g_nmi (x := nI (t.length + 1)) (nI_1 _).symm ?_
  refine g_put hx 36 (C := RJ4) (T := TJ4) (N := 4) 3 .int _ hB'.1 rfl (by decide) fl_J5_79 rfl rfl rfl rfl (Nat.le_of_ble_eq_true rfl) rfl dJ5_append_3fe6f_36 ?_
  refine g_iload_n hx 39 (i := 1) 1 dJ5_append_3fe6f_39 rfl rfl ?_
  refine g_i2b hx 40 c hC.2.1 dJ5_append_3fe6f_40 ?_
  have hlt : t.length < cap' := by omega
  have hbv := hB'.2.2.1
  refine g_bast hx 41 (N := cap') (f := f') c ((hset_ne _ _ (by omega)).trans hB'.2.1) (vp_in_nI hlt (by have := hB'.2.2.2.2.2; omega)) hC.2.2.1 dJ5_append_3fe6f_41 ?_
  rw [nI_clamp (show t.length < 2 ^ 31 by omega)]
  refine g_goto hx 42 75 dJ5_append_3fe6f_42 (by decide) ?_
  refine g_aload_n hx 75 (i := 0) 0 dJ5_append_3fe6f_75 rfl rfl ?_
  refine g_aret hx hR 76 (Or.inr ⟨_, rfl⟩) dJ5_append_3fe6f_76 ⟨rfl, ⟨v', cap', _, ⟨by rw [List.length_append]; exact (hset_ne _ _ (by omega)).trans (hset_self _ _ _), hset_self _ _ _, hbv, hB'.2.2.2.1, by rw [List.length_append]; exact hlt, hB'.2.2.2.2.2⟩, fit_upd hf' _ hC.2.2.2, fun j hj => ?_⟩, Kept.hset (Kept.hset hk' (Nat.le_refl _) _) (by omega) _⟩
  rw [List.length_append] at hj
  have hj : j < t.length + 1 := hj
  rw [j_gd]
  by_cases h : j < t.length
  · rw [if_pos h, ← ht j h, ← hj' j h]; exact if_neg (by omega)
  · obtain rfl : j = t.length := by omega
    rw [if_neg h, Nat.sub_self]; exact if_pos rfl
set_option maxRecDepth 100000 in
set_option maxHeartbeats 4000000 in
theorem c_J4_appendC (l : Launch) (g : Gl) (hK : KB g) {σ : Hp} {b : Nat} {t : List Int32} (hb : SB σ b t) {c : Int32} (hC : CH c) (hq : t.length + 1 ≤ 450) : MG l g md_J4_append_cf468 [.ref b, .int c] σ (fun r σ' => r = some (.ref b) ∧ SB σ' b (t ++ [c]) ∧ Kept σ σ' b) := by
  refine MG.intro (by decide +kernel) (Nat.le_of_ble_eq_true rfl) (fun X hx hR _ => ?_)
  refine g_ls [0, 1] [(0, .ref b), (1, .int c)] rfl ?_
  refine g_aload_n hx 0 (i := 0) 0 dJ4_append_cf468_0 rfl rfl ?_
  refine g_iload_n hx 1 (i := 1) 1 dJ4_append_cf468_1 rfl rfl ?_
  refine g_callSU hx (c_J5_appendC l g hK hb hC hq) ls_J4_append_cf468 ⟨by show yJ5_append_3fe6f.name ≠ "<init>"; decide +kernel, show (parseMethodDescriptor yJ5_append_3fe6f.desc).map (fun d => d.parameters.length) = some 1 by decide +kernel⟩ hb.choose_spec.choose_spec.choose_spec.1.1 (C := RJ4) (T := TJ4) (N := 4) rfl (As := [.int c]) (rest := []) rfl (Nat.le_of_ble_eq_true rfl) ⟨Nat.le_of_ble_eq_true rfl, Nat.le_of_ble_eq_true rfl⟩ ⟨Nat.le_of_ble_eq_true rfl, Nat.le_of_ble_eq_true rfl⟩ dJ4_append_cf468_2 (fun r σ1 hp => ?_)
  obtain ⟨rfl, hp1, hp2⟩ := hp
  show G X σ1 1 902 5 [(0, .ref b), (1, .int c)] [.ref b]
  refine g_pop hx 5 dJ4_append_cf468_5 rfl ?_
  refine g_aload_n hx 6 (i := 0) 0 dJ4_append_cf468_6 rfl rfl ?_
  exact g_aret hx hR 7 (Or.inr ⟨_, rfl⟩) dJ4_append_cf468_7 ⟨rfl, hp1, hp2⟩
set_option maxRecDepth 100000 in
set_option maxHeartbeats 4000000 in
theorem c_stringSize (l : Launch) (g : Gl) (σ : Hp) {m : Nat} (hm : m < 1000) : MG l g md_J6_stringSize_0f7a4 [.int (nI m)] σ (rs (some (.int (nI (dg m).length))) σ) := by
  refine MG.intro (by decide +kernel) (Nat.le_of_ble_eq_true rfl) (fun X hx hR _ => ?_)
  refine g_ls [0] [(0, .int (nI m))] rfl ?_
  refine g_iconst hx 0 (1) dJ6_stringSize_0f7a4_0 rfl ?_
  refine g_istore_n hx 1 (i := 1) [(1, .int 1), (0, .int (nI m))] dJ6_stringSize_0f7a4_1 rfl (by decide) rfl ?_
  refine g_iload_n hx 2 (i := 0) 1 dJ6_stringSize_0f7a4_2 rfl rfl ?_
  refine g_if_lt hx 3 11 dJ6_stringSize_0f7a4_3 (by decide) (fun hc => absurd hc (nI_pos (by omega))) (fun _ => ?_)
  refine g_iconst hx 6 (0) dJ6_stringSize_0f7a4_6 rfl ?_
  refine g_istore_n hx 7 (i := 1) [(1, .int 0), (0, .int (nI m))] dJ6_stringSize_0f7a4_7 rfl (by decide) rfl ?_
  refine g_iload_n hx 8 (i := 0) 1 dJ6_stringSize_0f7a4_8 rfl rfl ?_
  refine g_ineg hx 9 dJ6_stringSize_0f7a4_9 ?_
  refine g_istore_n hx 10 (i := 0) [(0, .int (-(nI m))), (1, .int 0)] dJ6_stringSize_0f7a4_10 rfl (by decide) rfl ?_
  refine g_bipush hx 11 (-10) dJ6_stringSize_0f7a4_11 rfl ?_
  refine g_istore_n hx 13 (i := 2) [(2, .int ((-10))), (0, .int (-(nI m))), (1, .int 0)] dJ6_stringSize_0f7a4_13 rfl (by decide) rfl ?_
  refine g_iconst hx 14 (1) dJ6_stringSize_0f7a4_14 rfl ?_
  refine g_istore_n hx 15 (i := 3) [(3, .int 1), (2, .int ((-10))), (0, .int (-(nI m))), (1, .int 0)] dJ6_stringSize_0f7a4_15 rfl (by decide) rfl ?_
  refine g_iload_n hx 16 (i := 3) 0 dJ6_stringSize_0f7a4_16 rfl rfl ?_
  refine g_bipush hx 17 (10) dJ6_stringSize_0f7a4_17 rfl ?_
  refine g_icmp_ge hx 19 42 dJ6_stringSize_0f7a4_19 (by decide) (fun hc => absurd hc (by decide)) (fun _ => ?_)
  refine g_iload_n hx 22 (i := 0) 2 dJ6_stringSize_0f7a4_22 rfl rfl ?_
  refine g_iload_n hx 23 (i := 2) 1 dJ6_stringSize_0f7a4_23 rfl rfl ?_
  by_cases h : m < 10
  · refine g_icmp_le hx 24 31 dJ6_stringSize_0f7a4_24 (by decide) (fun hc => absurd hc (fun z => by have := (ss_10 m hm).mpr z; omega)) (fun _ => ?_)
    refine g_iload_n hx 27 (i := 3) 0 dJ6_stringSize_0f7a4_27 rfl rfl ?_
    refine g_iload_n hx 28 (i := 1) 3 dJ6_stringSize_0f7a4_28 rfl rfl ?_
    refine g_iadd hx 29 dJ6_stringSize_0f7a4_29 ?_
    exact g_iret hx hR 30 dJ6_stringSize_0f7a4_30 ⟨by rw [dg1 h]; rfl, rfl⟩
  · refine g_icmp_le hx 24 31 dJ6_stringSize_0f7a4_24 (by decide) (fun _ => ?_) (fun hc => absurd ((ss_10 m hm).mp (by omega)) hc)
    refine g_bipush hx 31 (10) dJ6_stringSize_0f7a4_31 rfl ?_
    refine g_iload_n hx 33 (i := 2) 1 dJ6_stringSize_0f7a4_33 rfl rfl ?_
    refine g_imul hx 34 dJ6_stringSize_0f7a4_34 ?_
    refine g_istore_n hx 35 (i := 2) [(2, .int (10 * ((-10)))), (3, .int 1), (0, .int (-(nI m))), (1, .int 0)] dJ6_stringSize_0f7a4_35 rfl (by decide) rfl ?_
    refine g_iinc hx 36 (i := 3) 1 (2) [(3, .int 2), (2, .int (10 * ((-10)))), (0, .int (-(nI m))), (1, .int 0)] dJ6_stringSize_0f7a4_36 rfl rfl (by decide) rfl ?_
    refine g_goto hx 39 16 dJ6_stringSize_0f7a4_39 (by decide) ?_
    refine g_iload_n hx 16 (i := 3) 0 dJ6_stringSize_0f7a4_16 rfl rfl ?_
    refine g_bipush hx 17 (10) dJ6_stringSize_0f7a4_17 rfl ?_
    refine g_icmp_ge hx 19 42 dJ6_stringSize_0f7a4_19 (by decide) (fun hc => absurd hc (by decide)) (fun _ => ?_)
    refine g_iload_n hx 22 (i := 0) 2 dJ6_stringSize_0f7a4_22 rfl rfl ?_
    refine g_iload_n hx 23 (i := 2) 1 dJ6_stringSize_0f7a4_23 rfl rfl ?_
    by_cases h2 : m < 100
    · refine g_icmp_le hx 24 31 dJ6_stringSize_0f7a4_24 (by decide) (fun hc => absurd hc (fun z => by have := (ss_100 m hm).mpr z; omega)) (fun _ => ?_)
      refine g_iload_n hx 27 (i := 3) 0 dJ6_stringSize_0f7a4_27 rfl rfl ?_
      refine g_iload_n hx 28 (i := 1) 3 dJ6_stringSize_0f7a4_28 rfl rfl ?_
      refine g_iadd hx 29 dJ6_stringSize_0f7a4_29 ?_
      exact g_iret hx hR 30 dJ6_stringSize_0f7a4_30 ⟨by rw [dg2 h h2]; rfl, rfl⟩
    · refine g_icmp_le hx 24 31 dJ6_stringSize_0f7a4_24 (by decide) (fun _ => ?_) (fun hc => absurd ((ss_100 m hm).mp (by omega)) hc)
      refine g_bipush hx 31 (10) dJ6_stringSize_0f7a4_31 rfl ?_
      refine g_iload_n hx 33 (i := 2) 1 dJ6_stringSize_0f7a4_33 rfl rfl ?_
      refine g_imul hx 34 dJ6_stringSize_0f7a4_34 ?_
      refine g_istore_n hx 35 (i := 2) [(2, .int (10 * (10 * ((-10))))), (3, .int 2), (0, .int (-(nI m))), (1, .int 0)] dJ6_stringSize_0f7a4_35 rfl (by decide) rfl ?_
      refine g_iinc hx 36 (i := 3) 1 (3) [(3, .int 3), (2, .int (10 * (10 * ((-10))))), (0, .int (-(nI m))), (1, .int 0)] dJ6_stringSize_0f7a4_36 rfl rfl (by decide) rfl ?_
      refine g_goto hx 39 16 dJ6_stringSize_0f7a4_39 (by decide) ?_
      refine g_iload_n hx 16 (i := 3) 0 dJ6_stringSize_0f7a4_16 rfl rfl ?_
      refine g_bipush hx 17 (10) dJ6_stringSize_0f7a4_17 rfl ?_
      refine g_icmp_ge hx 19 42 dJ6_stringSize_0f7a4_19 (by decide) (fun hc => absurd hc (by decide)) (fun _ => ?_)
      refine g_iload_n hx 22 (i := 0) 2 dJ6_stringSize_0f7a4_22 rfl rfl ?_
      refine g_iload_n hx 23 (i := 2) 1 dJ6_stringSize_0f7a4_23 rfl rfl ?_
      refine g_icmp_le hx 24 31 dJ6_stringSize_0f7a4_24 (by decide) (fun hc => absurd hc (ss_1000 m hm)) (fun _ => ?_)
      refine g_iload_n hx 27 (i := 3) 0 dJ6_stringSize_0f7a4_27 rfl rfl ?_
      refine g_iload_n hx 28 (i := 1) 3 dJ6_stringSize_0f7a4_28 rfl rfl ?_
      refine g_iadd hx 29 dJ6_stringSize_0f7a4_29 ?_
      exact g_iret hx hR 30 dJ6_stringSize_0f7a4_30 ⟨by rw [dg3 h2]; rfl, rfl⟩
set_option maxRecDepth 100000 in
set_option maxHeartbeats 4000000 in
theorem c_getChars (l : Launch) (g : Gl) (hK : KB g) {σ : Hp} {v cap m e : Nat} {f : Nat → Int32} (hv : σ.2 v = some (eB cap f)) (hf : fitB f) (hm : m < 1000) (he : (dg m).length ≤ e) (hc : e ≤ cap) (hcap : cap ≤ 902) : MG l g md_J6_getChars_ba4f3 [.int (nI m), .int (nI e), .ref v] σ (fun r σ' => (∃ x, r = some (.int x)) ∧ ∃ f', σ' = hset σ v (eB cap f') ∧ fitB f' ∧ (∀ j, j < e - (dg m).length → f' j = f j) ∧ ∀ j, j < (dg m).length → f' (e - (dg m).length + j) = (dg m).getD j 0) := by
  obtain ⟨d1, d10, hd⟩ := hK.2.2
  have he0 : 1 ≤ e := Nat.le_trans (dg_pos m) he
  refine MG.intro (by decide +kernel) (Nat.le_of_ble_eq_true rfl) (fun X hx hR _ => ?_)
  refine g_ls [0, 1, 2] [(0, .int (nI m)), (1, .int (nI e)), (2, .ref v)] rfl ?_
  refine g_iload_n hx 0 (i := 1) 1 dJ6_getChars_ba4f3_0 rfl rfl ?_
  refine g_istore hx 1 (i := 5) [(5, .int (nI e)), (0, .int (nI m)), (1, .int (nI e)), (2, .ref v)] dJ6_getChars_ba4f3_1 (by decide) rfl ?_
  refine g_iload_n hx 3 (i := 0) 1 dJ6_getChars_ba4f3_3 rfl rfl ?_
  refine g_if_ge hx 4 11 dJ6_getChars_ba4f3_4 (by decide) (fun _ => ?_) (fun hc => absurd (nI_pos' (by omega)) hc)
  refine g_iconst hx 11 (0) dJ6_getChars_ba4f3_11 rfl ?_
  refine g_istore hx 12 (i := 6) [(6, .int 0), (5, .int (nI e)), (0, .int (nI m)), (1, .int (nI e)), (2, .ref v)] dJ6_getChars_ba4f3_12 (by decide) rfl ?_
  refine g_iload hx 14 (i := 6) 0 dJ6_getChars_ba4f3_14 rfl ?_
  refine g_if_ne hx 16 22 dJ6_getChars_ba4f3_16 (by decide) (fun hc => absurd rfl hc) (fun _ => ?_)
  refine g_iload_n hx 19 (i := 0) 2 dJ6_getChars_ba4f3_19 rfl rfl ?_
  refine g_ineg hx 20 dJ6_getChars_ba4f3_20 ?_
  refine g_istore_n hx 21 (i := 0) [(0, .int (-(nI m))), (6, .int 0), (5, .int (nI e)), (1, .int (nI e)), (2, .ref v)] dJ6_getChars_ba4f3_21 rfl (by decide) rfl ?_
  refine g_iload_n hx 22 (i := 0) 0 dJ6_getChars_ba4f3_22 rfl rfl ?_
  refine g_bipush hx 23 (-100) dJ6_getChars_ba4f3_23 rfl ?_
  by_cases h : m < 100
  · refine g_icmp_gt hx 25 72 dJ6_getChars_ba4f3_25 (by decide) (fun _ => ?_) (fun hc => absurd ((gc_100 m hm).mp h) hc)
    refine g_aload_n hx 72 (i := 2) 4 dJ6_getChars_ba4f3_72 rfl rfl ?_
    refine g_iinc hx 73 (i := 5) 2 (nI (e - 1)) [(5, .int (nI (e - 1))), (0, .int (-(nI m))), (6, .int 0), (1, .int (nI e)), (2, .ref v)] dJ6_getChars_ba4f3_73 rfl (j_dec (by omega)) (by decide) rfl ?_
    refine g_iload hx 76 (i := 5) 0 dJ6_getChars_ba4f3_76 rfl ?_
    refine g_gets hx 78 (.ref d1) (fun U hU => (hd U hU).1) fl_J6_83 dJ6_getChars_ba4f3_78 ?_
    refine g_iload_n hx 81 (i := 0) 1 dJ6_getChars_ba4f3_81 rfl rfl ?_
    refine g_ineg hx 82 dJ6_getChars_ba4f3_82 ?_
    refine g_nmi (x := nI m) (gc_n m hm).symm ?_
    refine g_tb hx 83 (.int (nI (48 + m % 10))) (fun U hU => (hd U hU).2.1) (vp_in_nI (by omega) (by decide)) (by rw [nI_clamp (by omega)]) dJ6_getChars_ba4f3_83 ?_
    refine g_bast hx 84 (N := cap) (f := f) (nI (48 + m % 10)) hv (vp_in_nI (by omega) (by omega)) (gc_by (m % 10) (by omega)).1 dJ6_getChars_ba4f3_84 ?_
    rw [nI_clamp (show e - 1 < 2 ^ 31 by omega)]
    refine g_iload_n hx 85 (i := 0) 1 dJ6_getChars_ba4f3_85 rfl rfl ?_
    refine g_bipush hx 86 (-9) dJ6_getChars_ba4f3_86 rfl ?_
    by_cases h1 : m < 10
    · rw [dg1 h1] at he
      have he : 1 ≤ e := he
      refine g_icmp_ge hx 88 104 dJ6_getChars_ba4f3_88 (by decide) (fun _ => ?_) (fun hc => absurd ((gc_10 m hm).mp h1) hc)
      rw [show 48 + m % 10 = 48 + m by omega]
      refine g_iload hx 104 (i := 6) 2 dJ6_getChars_ba4f3_104 rfl ?_
      refine g_if_eq hx 106 118 dJ6_getChars_ba4f3_106 (by decide) (fun _ => ?_) (fun hc => absurd rfl hc)
      refine g_iload hx 118 (i := 5) 0 dJ6_getChars_ba4f3_118 rfl ?_
      refine g_iret hx hR 120 dJ6_getChars_ba4f3_120 ⟨⟨_, rfl⟩, _, rfl, (fit_upd hf _ (gc_by m h1).2), fun j hj => ?_, fun j hj => ?_⟩
      · rw [dg1 h1] at hj
        have hj : j < e - 1 := hj
        rw [up_n (show j ≠ e - 1 by omega)]
      · rw [dg1 h1] at hj ⊢
        have hj : j < 1 := hj
        rcases (show j = 0 by omega) with rfl
        · show (upd f (e - 1) (nI (48 + m))) (e - 1 + 0) = _
          rw [show e - 1 + 0 = e - 1 by omega]
          rw [up_s]; rfl
    · rw [dg2 h1 h] at he
      have he : 2 ≤ e := he
      refine g_icmp_ge hx 88 104 dJ6_getChars_ba4f3_88 (by decide) (fun hc => absurd ((gc_10 m hm).mpr hc) h1) (fun _ => ?_)
      refine g_aload_n hx 91 (i := 2) 4 dJ6_getChars_ba4f3_91 rfl rfl ?_
      refine g_iinc hx 92 (i := 5) 0 (nI (e - 2)) [(5, .int (nI (e - 2))), (0, .int (-(nI m))), (6, .int 0), (1, .int (nI e)), (2, .ref v)] dJ6_getChars_ba4f3_92 rfl (j_dec (by omega)) (by decide) rfl ?_
      refine g_iload hx 95 (i := 5) 0 dJ6_getChars_ba4f3_95 rfl ?_
      refine g_gets hx 97 (.ref d10) (fun U hU => (hd U hU).2.2.1) fl_J6_87 dJ6_getChars_ba4f3_97 ?_
      refine g_iload_n hx 100 (i := 0) 1 dJ6_getChars_ba4f3_100 rfl rfl ?_
      refine g_ineg hx 101 dJ6_getChars_ba4f3_101 ?_
      refine g_nmi (x := nI m) (gc_n m hm).symm ?_
      refine g_tb hx 102 (.int (nI (48 + m / 10))) (fun U hU => (hd U hU).2.2.2) (vp_in_nI (by omega) (by decide)) (by rw [nI_clamp (by omega)]) dJ6_getChars_ba4f3_102 ?_
      refine g_bast hx 103 (N := cap) (f := upd f (e - 1) (nI (48 + m % 10))) (nI (48 + m / 10)) (hset_self _ _ _) (vp_in_nI (by omega) (by omega)) (gc_by (m / 10) (by omega)).1 dJ6_getChars_ba4f3_103 ?_
      rw [nI_clamp (show e - 2 < 2 ^ 31 by omega), hset_hset]
      refine g_iload hx 104 (i := 6) 2 dJ6_getChars_ba4f3_104 rfl ?_
      refine g_if_eq hx 106 118 dJ6_getChars_ba4f3_106 (by decide) (fun _ => ?_) (fun hc => absurd rfl hc)
      refine g_iload hx 118 (i := 5) 0 dJ6_getChars_ba4f3_118 rfl ?_
      refine g_iret hx hR 120 dJ6_getChars_ba4f3_120 ⟨⟨_, rfl⟩, _, rfl, (fit_upd (fit_upd hf _ (gc_by (m % 10) (by omega)).2) _ (gc_by (m / 10) (by omega)).2), fun j hj => ?_, fun j hj => ?_⟩
      · rw [dg2 h1 h] at hj
        have hj : j < e - 2 := hj
        rw [up_n (show j ≠ e - 2 by omega), up_n (show j ≠ e - 1 by omega)]
      · rw [dg2 h1 h] at hj ⊢
        have hj : j < 2 := hj
        rcases (show j = 0 ∨ j = 1 by omega) with rfl | rfl
        · show (upd (upd f (e - 1) (nI (48 + m % 10))) (e - 2) (nI (48 + m / 10))) (e - 2 + 0) = _
          rw [show e - 2 + 0 = e - 2 by omega]
          rw [up_s]; rfl
        · show (upd (upd f (e - 1) (nI (48 + m % 10))) (e - 2) (nI (48 + m / 10))) (e - 2 + 1) = _
          rw [show e - 2 + 1 = e - 1 by omega]
          rw [up_n (show e - 1 ≠ e - 2 by omega), up_s]; rfl
  · rw [dg3 h] at he
    have he : 3 ≤ e := he
    refine g_icmp_gt hx 25 72 dJ6_getChars_ba4f3_25 (by decide) (fun hc => absurd ((gc_100 m hm).mpr hc) h) (fun _ => ?_)
    refine g_iload_n hx 28 (i := 0) 0 dJ6_getChars_ba4f3_28 rfl rfl ?_
    refine g_bipush hx 29 (100) dJ6_getChars_ba4f3_29 rfl ?_
    refine g_idiv hx 31 dJ6_getChars_ba4f3_31 (by decide) ?_
    refine g_nmi (x := -nI (m / 100)) (gc_q m hm).symm ?_
    refine g_istore_n hx 32 (i := 3) [(3, .int (-nI (m / 100))), (0, .int (-(nI m))), (6, .int 0), (5, .int (nI e)), (1, .int (nI e)), (2, .ref v)] dJ6_getChars_ba4f3_32 rfl (by decide) rfl ?_
    refine g_iload_n hx 33 (i := 3) 0 dJ6_getChars_ba4f3_33 rfl rfl ?_
    refine g_bipush hx 34 (100) dJ6_getChars_ba4f3_34 rfl ?_
    refine g_imul hx 36 dJ6_getChars_ba4f3_36 ?_
    refine g_iload_n hx 37 (i := 0) 1 dJ6_getChars_ba4f3_37 rfl rfl ?_
    refine g_isub hx 38 dJ6_getChars_ba4f3_38 ?_
    refine g_nmi (x := nI (m % 100)) (gc_r m hm).symm ?_
    have hm2 : m / 100 < 10 := by omega
    refine g_istore hx 39 (i := 4) [(4, .int (nI (m % 100))), (3, .int (-nI (m / 100))), (0, .int (-(nI m))), (6, .int 0), (5, .int (nI e)), (1, .int (nI e)), (2, .ref v)] dJ6_getChars_ba4f3_39 (by decide) rfl ?_
    refine g_iload_n hx 41 (i := 3) 1 dJ6_getChars_ba4f3_41 rfl rfl ?_
    refine g_istore_n hx 42 (i := 0) [(0, .int (-nI (m / 100))), (4, .int (nI (m % 100))), (3, .int (-nI (m / 100))), (6, .int 0), (5, .int (nI e)), (1, .int (nI e)), (2, .ref v)] dJ6_getChars_ba4f3_42 rfl (by decide) rfl ?_
    refine g_aload_n hx 43 (i := 2) 6 dJ6_getChars_ba4f3_43 rfl rfl ?_
    refine g_iinc hx 44 (i := 5) 4 (nI (e - 1)) [(5, .int (nI (e - 1))), (0, .int (-nI (m / 100))), (4, .int (nI (m % 100))), (3, .int (-nI (m / 100))), (6, .int 0), (1, .int (nI e)), (2, .ref v)] dJ6_getChars_ba4f3_44 rfl (j_dec (by omega)) (by decide) rfl ?_
    refine g_iload hx 47 (i := 5) 0 dJ6_getChars_ba4f3_47 rfl ?_
    refine g_gets hx 49 (.ref d1) (fun U hU => (hd U hU).1) fl_J6_83 dJ6_getChars_ba4f3_49 ?_
    refine g_iload hx 52 (i := 4) 2 dJ6_getChars_ba4f3_52 rfl ?_
    refine g_tb hx 54 (.int (nI (48 + (m % 100) % 10))) (fun U hU => (hd U hU).2.1) (vp_in_nI (by omega) (by decide)) (by rw [nI_clamp (by omega)]) dJ6_getChars_ba4f3_54 ?_
    refine g_bast hx 55 (N := cap) (f := f) (nI (48 + (m % 100) % 10)) hv (vp_in_nI (by omega) (by omega)) (gc_by ((m % 100) % 10) (by omega)).1 dJ6_getChars_ba4f3_55 ?_
    rw [nI_clamp (show e - 1 < 2 ^ 31 by omega)]
    refine g_aload_n hx 56 (i := 2) 6 dJ6_getChars_ba4f3_56 rfl rfl ?_
    refine g_iinc hx 57 (i := 5) 0 (nI (e - 2)) [(5, .int (nI (e - 2))), (0, .int (-nI (m / 100))), (4, .int (nI (m % 100))), (3, .int (-nI (m / 100))), (6, .int 0), (1, .int (nI e)), (2, .ref v)] dJ6_getChars_ba4f3_57 rfl (j_dec (by omega)) (by decide) rfl ?_
    refine g_iload hx 60 (i := 5) 0 dJ6_getChars_ba4f3_60 rfl ?_
    refine g_gets hx 62 (.ref d10) (fun U hU => (hd U hU).2.2.1) fl_J6_87 dJ6_getChars_ba4f3_62 ?_
    refine g_iload hx 65 (i := 4) 2 dJ6_getChars_ba4f3_65 rfl ?_
    refine g_tb hx 67 (.int (nI (48 + (m % 100) / 10))) (fun U hU => (hd U hU).2.2.2) (vp_in_nI (by omega) (by decide)) (by rw [nI_clamp (by omega)]) dJ6_getChars_ba4f3_67 ?_
    refine g_bast hx 68 (N := cap) (f := upd f (e - 1) (nI (48 + (m % 100) % 10))) (nI (48 + (m % 100) / 10)) (hset_self _ _ _) (vp_in_nI (by omega) (by omega)) (gc_by ((m % 100) / 10) (by omega)).1 dJ6_getChars_ba4f3_68 ?_
    rw [nI_clamp (show e - 2 < 2 ^ 31 by omega), hset_hset]
    refine g_goto hx 69 22 dJ6_getChars_ba4f3_69 (by decide) ?_
    refine g_iload_n hx 22 (i := 0) 1 dJ6_getChars_ba4f3_22 rfl rfl ?_
    refine g_bipush hx 23 (-100) dJ6_getChars_ba4f3_23 rfl ?_
    refine g_icmp_gt hx 25 72 dJ6_getChars_ba4f3_25 (by decide) (fun _ => ?_) (fun hc => absurd ((gc_100 (m / 100) (by omega)).mp (by omega)) hc)
    refine g_aload_n hx 72 (i := 2) 6 dJ6_getChars_ba4f3_72 rfl rfl ?_
    refine g_iinc hx 73 (i := 5) 0 (nI (e - 3)) [(5, .int (nI (e - 3))), (0, .int (-nI (m / 100))), (4, .int (nI (m % 100))), (3, .int (-nI (m / 100))), (6, .int 0), (1, .int (nI e)), (2, .ref v)] dJ6_getChars_ba4f3_73 rfl (j_dec (by omega)) (by decide) rfl ?_
    refine g_iload hx 76 (i := 5) 0 dJ6_getChars_ba4f3_76 rfl ?_
    refine g_gets hx 78 (.ref d1) (fun U hU => (hd U hU).1) fl_J6_83 dJ6_getChars_ba4f3_78 ?_
    refine g_iload_n hx 81 (i := 0) 1 dJ6_getChars_ba4f3_81 rfl rfl ?_
    refine g_ineg hx 82 dJ6_getChars_ba4f3_82 ?_
    refine g_nmi (x := nI (m / 100)) (gc_n (m / 100) (by omega)).symm ?_
    refine g_tb hx 83 (.int (nI (48 + (m / 100) % 10))) (fun U hU => (hd U hU).2.1) (vp_in_nI (by omega) (by decide)) (by rw [nI_clamp (by omega)]) dJ6_getChars_ba4f3_83 ?_
    refine g_bast hx 84 (N := cap) (f := upd (upd f (e - 1) (nI (48 + (m % 100) % 10))) (e - 2) (nI (48 + (m % 100) / 10))) (nI (48 + (m / 100) % 10)) (hset_self _ _ _) (vp_in_nI (by omega) (by omega)) (gc_by ((m / 100) % 10) (by omega)).1 dJ6_getChars_ba4f3_84 ?_
    rw [nI_clamp (show e - 3 < 2 ^ 31 by omega), hset_hset]
    refine g_iload_n hx 85 (i := 0) 1 dJ6_getChars_ba4f3_85 rfl rfl ?_
    refine g_bipush hx 86 (-9) dJ6_getChars_ba4f3_86 rfl ?_
    refine g_icmp_ge hx 88 104 dJ6_getChars_ba4f3_88 (by decide) (fun _ => ?_) (fun hc => absurd ((gc_10 (m / 100) (by omega)).mp hm2) hc)
    rw [show 48 + m % 100 % 10 = 48 + m % 10 by omega, show 48 + m % 100 / 10 = 48 + m / 10 % 10 by omega, show 48 + m / 100 % 10 = 48 + m / 100 by omega]
    refine g_iload hx 104 (i := 6) 4 dJ6_getChars_ba4f3_104 rfl ?_
    refine g_if_eq hx 106 118 dJ6_getChars_ba4f3_106 (by decide) (fun _ => ?_) (fun hc => absurd rfl hc)
    refine g_iload hx 118 (i := 5) 0 dJ6_getChars_ba4f3_118 rfl ?_
    refine g_iret hx hR 120 dJ6_getChars_ba4f3_120 ⟨⟨_, rfl⟩, _, rfl, (fit_upd (fit_upd (fit_upd hf _ (gc_by (m % 10) (by omega)).2) _ (gc_by (m / 10 % 10) (by omega)).2) _ (gc_by (m / 100) (by omega)).2), fun j hj => ?_, fun j hj => ?_⟩
    · rw [dg3 h] at hj
      have hj : j < e - 3 := hj
      rw [up_n (show j ≠ e - 3 by omega), up_n (show j ≠ e - 2 by omega), up_n (show j ≠ e - 1 by omega)]
    · rw [dg3 h] at hj ⊢
      have hj : j < 3 := hj
      rcases (show j = 0 ∨ j = 1 ∨ j = 2 by omega) with rfl | rfl | rfl
      · show (upd (upd (upd f (e - 1) (nI (48 + m % 10))) (e - 2) (nI (48 + m / 10 % 10))) (e - 3) (nI (48 + m / 100))) (e - 3 + 0) = _
        rw [show e - 3 + 0 = e - 3 by omega]
        rw [up_s]; rfl
      · show (upd (upd (upd f (e - 1) (nI (48 + m % 10))) (e - 2) (nI (48 + m / 10 % 10))) (e - 3) (nI (48 + m / 100))) (e - 3 + 1) = _
        rw [show e - 3 + 1 = e - 2 by omega]
        rw [up_n (show e - 2 ≠ e - 3 by omega), up_s]; rfl
      · show (upd (upd (upd f (e - 1) (nI (48 + m % 10))) (e - 2) (nI (48 + m / 10 % 10))) (e - 3) (nI (48 + m / 100))) (e - 3 + 2) = _
        rw [show e - 3 + 2 = e - 1 by omega]
        rw [up_n (show e - 1 ≠ e - 3 by omega), up_n (show e - 1 ≠ e - 2 by omega), up_s]; rfl
