/-! StringBuilder: numbers, its constructor, toString; Strings made -/
def SS (σ : Hp) (a : Nat) (cs : List Int32) : Prop := ∃ v f, (a < v ∧ v < σ.1) ∧ σ.2 a = some (eO 9 [.ref v, .int 0, .int 0, .int 0]) ∧ σ.2 v = some (eB cs.length f) ∧ fitB f ∧ ∀ j, j < cs.length → f j = cs.getD j 0
def fsJ0 : List Value := [.null, .int 0, .int 0, .int 0]
theorem fsJ0_d : ∀ j, j < 4 → defaultValue (tyOf TJ0 j) = vp_V fsJ0 j := by decide +kernel
def fsJ4 : List Value := [.null, .int 0, .int 0, .int 0]
theorem fsJ4_d : ∀ j, j < 4 → defaultValue (tyOf TJ4 j) = vp_V fsJ4 j := by decide +kernel
theorem j_s0 (n : Nat) : nI n = nI n - 0 := (pk_sub (a := n) (b := 0) (Nat.zero_le _)).symm
section GWD
variable {X : Cx} {l : Launch} {g : Gl} {own : String} {cc : ByteArray} {nL : Nat} {R : Room} {σ : Hp} {k n : Nat} {ls : List (Nat × Value)} {st : List Value}
theorem g_widen1 {pc k' n' : Nat} (h1 : k ≤ k') (h2 : n ≤ n') (h : G X σ k' n' pc ls st) : G X σ k n pc ls st := G.widen h1 h2 h
end GWD
theorem lk_J5_245 : LkS RJ5 245 md_J6_stringSize_0f7a4 := lk_of (by decide +kernel)
theorem ar_J6_ss : Arity md_J6_stringSize_0f7a4 1 := ⟨by decide +kernel, by decide +kernel, by decide +kernel⟩
theorem lk_J5_248 : LkS RJ5 248 md_J6_getChars_ba4f3 := lk_of (by decide +kernel)
theorem ar_J6_gc : Arity md_J6_getChars_ba4f3 3 := ⟨by decide +kernel, by decide +kernel, by decide +kernel⟩
theorem ls_J4_append_bf812 : LkSU RJ4 53 md_J5_append_c97b9 := aw_of (by decide +kernel)
theorem ob_J5_3 : ∀ w ∈ [Cond.methodLink RJ5 3 Lib.objectInit, Cond.instanceMethod Lib.objectInit, Cond.code Lib.objectInit { data := #[177] } 1 none], w ∈ aw := aw_of (by decide +kernel)
theorem cn_J5_38 : Cond.constant RJ5 38 2147483631 ∈ aw := aw1 (by decide +kernel)
def x_J5_43 : MethodName := ⟨"java/lang/AbstractStringBuilder", "append", "(Ljava/lang/String;)Ljava/lang/AbstractStringBuilder;"⟩
theorem lo_J5_43 : LkO RJ5 43 RJ4 "java/lang/AbstractStringBuilder" x_J5_43 md_J4_append_cf1ce cJ5_append_cf1ce 3 (some (.object "java/lang/AbstractStringBuilder")) := ⟨aw_of (by decide +kernel), aw1 (by decide +kernel)⟩
theorem li_J4_7 : LkI RJ4 7 md_J5_init_a7421 := lk_of (by decide +kernel)
theorem ar_J5_init : Arity md_J5_init_a7421 1 := ⟨by decide +kernel, by decide +kernel, by decide +kernel⟩
theorem ls_J4_len : LkSU RJ4 343 md_J5_length_8abf5 := aw_of (by decide +kernel)
theorem lk_J7_343 : LkS RJ7 343 md_J7_checkLength_df160 := lk_of (by decide +kernel)
theorem ar_J7_cl : Arity md_J7_checkLength_df160 2 := ⟨by decide +kernel, by decide +kernel, by decide +kernel⟩
theorem cl_J7 : ∀ w ∈ [Cond.methodLink RJ7 310 ⟨"[B", "clone", "()Ljava/lang/Object;"⟩, Cond.sameMethod "[B" "java/lang/Object" "clone" "()Ljava/lang/Object;", Cond.native ⟨"java/lang/Object", "clone", "()Ljava/lang/Object;"⟩, Cond.instanceMethod ⟨"java/lang/Object", "clone", "()Ljava/lang/Object;"⟩, Cond.selects "[B" ⟨"[B", "clone", "()Ljava/lang/Object;"⟩ ⟨"java/lang/Object", "clone", "()Ljava/lang/Object;"⟩], w ∈ aw := aw_of (by decide +kernel)
theorem ck_J7 : Cond.classLink RJ7 311 "[B" ∈ aw := aw1 (by decide +kernel)
theorem lk_J7_339 : LkS RJ7 339 md_J7_copyOfRangeByte_39247 := lk_of (by decide +kernel)
theorem ar_J7_crb : Arity md_J7_copyOfRangeByte_39247 3 := ⟨by decide +kernel, by decide +kernel, by decide +kernel⟩
theorem ob_J0_1 : ∀ w ∈ [Cond.methodLink RJ0 1 Lib.objectInit, Cond.instanceMethod Lib.objectInit, Cond.code Lib.objectInit { data := #[177] } 1 none], w ∈ aw := aw_of (by decide +kernel)
def x_J0_552 : MethodName := ⟨"java/lang/AbstractStringBuilder", "getValue", "()[B"⟩
theorem lu_J0_552 : LkU RJ0 552 RJ4 "java/lang/AbstractStringBuilder" x_J0_552 md_J5_getValue_6d5f1 := aw_of (by decide +kernel)
def x_J0_549 : MethodName := ⟨"java/lang/AbstractStringBuilder", "length", "()I"⟩
theorem lo_J0_549 : LkO RJ0 549 RJ4 "java/lang/AbstractStringBuilder" x_J0_549 md_J4_length_8abf5 cJ5_length_8abf5 1 (some .int) := ⟨aw_of (by decide +kernel), aw1 (by decide +kernel)⟩
theorem lu_J0_1047 : LkU RJ0 1047 RJ4 "java/lang/AbstractStringBuilder" xIsL md_J5_isLatin1_aae02 := aw_of (by decide +kernel)
theorem lk_J0_54 : LkS RJ0 54 md_J7_copyOfRange_39247 := lk_of (by decide +kernel)
theorem ar_J7_cor : Arity md_J7_copyOfRange_39247 3 := ⟨by decide +kernel, by decide +kernel, by decide +kernel⟩
theorem li_J0_489 : LkI RJ0 489 md_J0_init_db425 := lk_of (by decide +kernel)
theorem ar_J0_init2 : Arity md_J0_init_db425 2 := ⟨by decide +kernel, by decide +kernel, by decide +kernel⟩
theorem xk_J4_18 : Cond.classLink RJ4 18 RJ0 ∈ aw := aw1 (by decide +kernel)
theorem xi_J0 : Cond.instantiable RJ0 4 ∈ aw ∧ Cond.initialized RJ0 ∈ aw := ⟨aw1 (by decide +kernel), aw1 (by decide +kernel)⟩
theorem li_J4_137 : LkI RJ4 137 md_J0_init_81219 := lk_of (by decide +kernel)
theorem ar_J0_init1 : Arity md_J0_init_81219 1 := ⟨by decide +kernel, by decide +kernel, by decide +kernel⟩
set_option maxRecDepth 100000 in
set_option maxHeartbeats 4000000 in
theorem c_J5_appendI (l : Launch) (g : Gl) (hK : KB g) {σ : Hp} {b : Nat} {t : List Int32} (hb : SB σ b t) {m : Nat} (hm : m < 1000) (hq : t.length + (dg m).length ≤ 450) : MG l g md_J5_append_c97b9 [.ref b, .int (nI m)] σ (fun r σ' => r = some (.ref b) ∧ SB σ' b (t ++ dg m) ∧ Kept σ σ' b) := by
  obtain ⟨v, cap, f, hB, hf0, ht⟩ := hb
  refine MG.intro (by decide +kernel) (Nat.le_of_ble_eq_true rfl) (fun X hx hR _ => ?_)
  refine g_ls [0, 1] [(0, .ref b), (1, .int (nI m))] rfl ?_
  refine g_aload_n hx 0 (i := 0) 0 dJ5_append_c97b9_0 rfl rfl ?_
  refine g_get hx 1 (C := RJ4) (T := TJ4) (N := 4) 3 (.int (nI t.length)) hB.1 rfl (by decide) rfl fl_J5_79 dJ5_append_c97b9_1 ?_
  refine g_istore_n hx 4 (i := 2) [(2, .int (nI t.length)), (0, .ref b), (1, .int (nI m))] dJ5_append_c97b9_4 rfl (by decide) rfl ?_
  refine g_iload_n hx 5 (i := 2) 0 dJ5_append_c97b9_5 rfl rfl ?_
  refine g_iload_n hx 6 (i := 1) 2 dJ5_append_c97b9_6 rfl rfl ?_
  refine g_callSr hx (c_stringSize l g σ hm) lk_J5_245 ar_J6_ss (As := [.int (nI m)]) (rest := [.int (nI t.length)]) rfl (Nat.le_of_ble_eq_true rfl) ⟨Nat.le_of_ble_eq_true rfl, Nat.le_of_ble_eq_true rfl⟩ ⟨rfl, rfl⟩ ⟨Nat.le_of_ble_eq_true rfl, Nat.le_of_ble_eq_true rfl⟩ dJ5_append_c97b9_7 ?_
  refine g_iadd hx 10 dJ5_append_c97b9_10 ?_
  refine g_nmi (x := nI (t.length + (dg m).length)) (nI_add _ _).symm ?_
  refine g_istore_n hx 11 (i := 3) [(3, .int (nI (t.length + (dg m).length))), (2, .int (nI t.length)), (0, .ref b), (1, .int (nI m))] dJ5_append_c97b9_11 rfl (by decide) rfl ?_
  refine g_aload_n hx 12 (i := 0) 2 dJ5_append_c97b9_12 rfl rfl ?_
  refine g_iload_n hx 13 (i := 3) 0 dJ5_append_c97b9_13 rfl rfl ?_
  refine g_callP hx (c_ensure l g hK hB hf0 hq) lp_J5_100 hK (List.mem_of_getElem? (i := 0) rfl) rfl (show (parseMethodDescriptor yJ5_ensureCapacityInternal_d00df.desc).map (fun d => d.parameters.length) = some 1 by decide +kernel) hB.1 (As := [.int (nI (t.length + (dg m).length))]) (rest := []) rfl (Nat.le_of_ble_eq_true rfl) ⟨Nat.le_of_ble_eq_true rfl, Nat.le_of_ble_eq_true rfl⟩ ⟨Nat.le_of_ble_eq_true rfl, Nat.le_of_ble_eq_true rfl⟩ dJ5_append_c97b9_14 (fun r σ1 hp => ?_)
  obtain ⟨rfl, v', cap', f', hB', hf', hj', hq', hk'⟩ := hp
  show G X σ1 1 902 17 [(3, .int (nI (t.length + (dg m).length))), (2, .int (nI t.length)), (0, .ref b), (1, .int (nI m))] []
  refine g_aload_n hx 17 (i := 0) 2 dJ5_append_c97b9_17 rfl rfl ?_
  refine g_callU hx (c_J5_isLatin1 l g hK.1 hB') lu_J5_83 rfl ⟨by decide +kernel, by decide +kernel, by decide +kernel⟩ hB'.1 (T := TJ4) (N := 4) rfl (As := []) (rest := []) rfl (Nat.le_of_ble_eq_true rfl) ⟨Nat.le_of_ble_eq_true rfl, Nat.le_of_ble_eq_true rfl⟩ ⟨Nat.le_of_ble_eq_true rfl, Nat.le_of_ble_eq_true rfl⟩ dJ5_append_c97b9_18 (fun r σ2 hp => ?_)
  obtain ⟨rfl, rfl⟩ := hp
  show G X σ2 1 902 21 [(3, .int (nI (t.length + (dg m).length))), (2, .int (nI t.length)), (0, .ref b), (1, .int (nI m))] [.int 1]
  refine g_if_eq hx 21 37 dJ5_append_c97b9_21 (by decide) (fun hc => absurd hc (by decide)) (fun _ => ?_)
  refine g_iload_n hx 24 (i := 1) 3 dJ5_append_c97b9_24 rfl rfl ?_
  refine g_iload_n hx 25 (i := 3) 0 dJ5_append_c97b9_25 rfl rfl ?_
  refine g_aload_n hx 26 (i := 0) 2 dJ5_append_c97b9_26 rfl rfl ?_
  refine g_get hx 27 (C := RJ4) (T := TJ4) (N := 4) 0 (.ref v') hB'.1 rfl (by decide) rfl fl_J5_15 dJ5_append_c97b9_27 ?_
  refine g_callS hx (c_getChars l g hK hB'.2.1 hf' hm (Nat.le_add_left _ _) hq' hB'.2.2.2.2.2) lk_J5_248 ar_J6_gc (As := [.int (nI m), .int (nI (t.length + (dg m).length)), .ref v']) (rest := []) rfl (Nat.le_of_ble_eq_true rfl) ⟨Nat.le_of_ble_eq_true rfl, Nat.le_of_ble_eq_true rfl⟩ ⟨Nat.le_of_ble_eq_true rfl, Nat.le_of_ble_eq_true rfl⟩ dJ5_append_c97b9_30 (fun r σ3 hp => ?_)
  obtain ⟨⟨x, rfl⟩, f2, rfl, hf2, ha2, hb2⟩ := hp
  show G X (hset σ2 v' (eB cap' f2)) 1 902 33 [(3, .int (nI (t.length + (dg m).length))), (2, .int (nI t.length)), (0, .ref b), (1, .int (nI m))] [.int x]
  have hbv := hB'.2.2.1
  refine g_pop hx 33 dJ5_append_c97b9_33 rfl ?_
  refine g_goto hx 34 48 dJ5_append_c97b9_34 (by decide) ?_
  refine g_aload_n hx 48 (i := 0) 2 dJ5_append_c97b9_48 rfl rfl ?_
  refine g_iload_n hx 49 (i := 3) 0 dJ5_append_c97b9_49 rfl rfl ?_
  refine g_put hx 50 (C := RJ4) (T := TJ4) (N := 4) 3 .int _ ((hset_ne _ _ (by omega)).trans hB'.1) rfl (by decide) fl_J5_79 rfl rfl rfl rfl (Nat.le_of_ble_eq_true rfl) rfl dJ5_append_c97b9_50 ?_
  refine g_aload_n hx 53 (i := 0) 2 dJ5_append_c97b9_53 rfl rfl ?_
  refine g_aret hx hR 54 (Or.inr ⟨_, rfl⟩) dJ5_append_c97b9_54 ⟨rfl, ⟨v', cap', f2, ⟨by rw [List.length_append]; exact hset_self _ _ _, (hset_ne _ _ (by omega)).trans (hset_self _ _ _), hbv, hB'.2.2.2.1, by rw [List.length_append]; exact hq', hB'.2.2.2.2.2⟩, hf2, fun j hj => ?_⟩, Kept.hset (Kept.hset hk' (by omega) _) (Nat.le_refl _) _⟩
  rw [List.length_append] at hj
  rw [Nat.add_sub_cancel] at ha2 hb2
  rw [j_gd]
  by_cases h : j < t.length
  · rw [if_pos h, ha2 j h, hj' j h, ht j h]
  · rw [if_neg h, ← hb2 (j - t.length) (by omega)]
    congr 1
    omega
set_option maxRecDepth 100000 in
set_option maxHeartbeats 4000000 in
theorem c_J4_appendI (l : Launch) (g : Gl) (hK : KB g) {σ : Hp} {b : Nat} {t : List Int32} (hb : SB σ b t) {m : Nat} (hm : m < 1000) (hq : t.length + (dg m).length ≤ 450) : MG l g md_J4_append_bf812 [.ref b, .int (nI m)] σ (fun r σ' => r = some (.ref b) ∧ SB σ' b (t ++ dg m) ∧ Kept σ σ' b) := by
  refine MG.intro (by decide +kernel) (Nat.le_of_ble_eq_true rfl) (fun X hx hR _ => ?_)
  refine g_ls [0, 1] [(0, .ref b), (1, .int (nI m))] rfl ?_
  refine g_aload_n hx 0 (i := 0) 0 dJ4_append_bf812_0 rfl rfl ?_
  refine g_iload_n hx 1 (i := 1) 1 dJ4_append_bf812_1 rfl rfl ?_
  refine g_callSU hx (c_J5_appendI l g hK hb hm hq) ls_J4_append_bf812 ⟨by show yJ5_append_c97b9.name ≠ "<init>"; decide +kernel, show (parseMethodDescriptor yJ5_append_c97b9.desc).map (fun d => d.parameters.length) = some 1 by decide +kernel⟩ hb.choose_spec.choose_spec.choose_spec.1.1 (C := RJ4) (T := TJ4) (N := 4) rfl (As := [.int (nI m)]) (rest := []) rfl (Nat.le_of_ble_eq_true rfl) ⟨Nat.le_of_ble_eq_true rfl, Nat.le_of_ble_eq_true rfl⟩ ⟨Nat.le_of_ble_eq_true rfl, Nat.le_of_ble_eq_true rfl⟩ dJ4_append_bf812_2 (fun r σ1 hp => ?_)
  obtain ⟨rfl, hp1, hp2⟩ := hp
  show G X σ1 1 902 5 [(0, .ref b), (1, .int (nI m))] [.ref b]
  refine g_pop hx 5 dJ4_append_bf812_5 rfl ?_
  refine g_aload_n hx 6 (i := 0) 0 dJ4_append_bf812_6 rfl rfl ?_
  exact g_aret hx hR 7 (Or.inr ⟨_, rfl⟩) dJ4_append_bf812_7 ⟨rfl, hp1, hp2⟩
set_option maxRecDepth 100000 in
set_option maxHeartbeats 4000000 in
theorem c_J5_init (l : Launch) (g : Gl) (hK : KB g) {σ : Hp} {b : Nat} (hb : σ.2 b = some (eO 10 [.null, .int 0, .int 0, .int 0])) (hlt : b < σ.1) {a : Nat} {cs : List Int32} (hs : StrAt g a cs) (hf : fitB (fun j => cs.getD j 0)) (hq : cs.length ≤ 80) : MG l g md_J5_init_a7421 [.ref b, .ref a] σ (fun r σ' => r = none ∧ SB σ' b cs ∧ Kept σ σ' b) := by
  refine MG.intro (by decide +kernel) (Nat.le_of_ble_eq_true rfl) (fun X hx hR _ => ?_)
  refine g_ls [0, 1] [(0, .ref b), (1, .ref a)] rfl ?_
  refine g_aload_n hx 0 (i := 0) 0 dJ5_init_a7421_0 rfl rfl ?_
  refine g_obj hx 1 ob_J5_3 (Nat.le_of_ble_eq_true rfl) ⟨Nat.le_of_ble_eq_true rfl, Nat.le_of_ble_eq_true rfl⟩ dJ5_init_a7421_1 ?_
  refine g_aload_n hx 4 (i := 1) 1 dJ5_init_a7421_4 rfl rfl ?_
  refine g_callX hx (c_J0_length l g hK.1 σ hs (by omega)) lk_J5_32 ar_J0_length (fun U hU => (hs.choose_spec U hU).1) (As := []) (rest := []) rfl (Nat.le_of_ble_eq_true rfl) ⟨Nat.le_of_ble_eq_true rfl, Nat.le_of_ble_eq_true rfl⟩ ⟨rfl, rfl⟩ ⟨Nat.zero_le _, Nat.zero_le _⟩ dJ5_init_a7421_5 ?_
  refine g_istore_n hx 8 (i := 2) [(2, .int (nI cs.length)), (0, .ref b), (1, .ref a)] dJ5_init_a7421_8 rfl (by decide) rfl ?_
  refine g_iload_n hx 9 (i := 2) 0 dJ5_init_a7421_9 rfl rfl ?_
  refine g_ldci hx 10 dJ5_init_a7421_10 cn_J5_38 ?_
  refine g_icmp_ge hx 12 22 dJ5_init_a7421_12 (by decide) (fun hc => absurd hc (show ¬ nI 2147483631 ≤ nI cs.length from nI_ge (by omega) (by decide))) (fun _ => ?_)
  refine g_iload_n hx 15 (i := 2) 0 dJ5_init_a7421_15 rfl rfl ?_
  refine g_bipush hx 16 (16) dJ5_init_a7421_16 rfl ?_
  refine g_iadd hx 18 dJ5_init_a7421_18 ?_
  refine g_nmi (x := nI (cs.length + 16)) (nI_add _ _).symm ?_
  refine g_goto hx 19 24 dJ5_init_a7421_19 (by decide) ?_
  refine g_istore_n hx 24 (i := 3) [(3, .int (nI (cs.length + 16))), (2, .int (nI cs.length)), (0, .ref b), (1, .ref a)] dJ5_init_a7421_24 rfl (by decide) rfl ?_
  refine g_aload_n hx 25 (i := 1) 3 dJ5_init_a7421_25 rfl rfl ?_
  refine g_callX hx (c_J0_coder l g hK.1 σ hs) lk_J5_40 ar_J0_coder (fun U hU => (hs.choose_spec U hU).1) (As := []) (rest := []) rfl (Nat.le_of_ble_eq_true rfl) ⟨Nat.le_of_ble_eq_true rfl, Nat.le_of_ble_eq_true rfl⟩ ⟨rfl, rfl⟩ ⟨Nat.zero_le _, Nat.zero_le _⟩ dJ5_init_a7421_26 ?_
  refine g_istore hx 29 (i := 4) [(4, .int 0), (3, .int (nI (cs.length + 16))), (2, .int (nI cs.length)), (0, .ref b), (1, .ref a)] dJ5_init_a7421_29 (by decide) rfl ?_
  refine g_aload_n hx 31 (i := 0) 3 dJ5_init_a7421_31 rfl rfl ?_
  refine g_iload hx 32 (i := 4) 0 dJ5_init_a7421_32 rfl ?_
  refine g_put hx 34 (C := RJ4) (T := TJ4) (N := 4) 1 .byte _ hb rfl (by decide) fl_J5_22 rfl rfl rfl rfl (Nat.le_of_ble_eq_true rfl) rfl dJ5_init_a7421_34 ?_
  refine g_aload_n hx 37 (i := 0) 3 dJ5_init_a7421_37 rfl rfl ?_
  refine g_iload hx 38 (i := 4) 0 dJ5_init_a7421_38 rfl ?_
  refine g_if_ne hx 40 49 dJ5_init_a7421_40 (by decide) (fun hc => absurd rfl hc) (fun _ => ?_)
  refine g_iload_n hx 43 (i := 3) 1 dJ5_init_a7421_43 rfl rfl ?_
  refine g_newB hx 44 (cs.length + 16) arc_byte (nI_pos (by omega)) (nI_clamp (by omega)) (by show (cs.length + 16) * 1 ≤ _; omega) ⟨Nat.le_of_ble_eq_true rfl, by show 0 + (cs.length + 16) ≤ 1000; omega⟩ dJ5_init_a7421_44 ?_
  refine g_goto hx 46 53 dJ5_init_a7421_46 (by decide) ?_
  refine g_put hx 53 (C := RJ4) (T := TJ4) (N := 4) 0 (.array .byte) _ ((hpush_ne (hset σ b _) _ (show b ≠ σ.1 by omega)).trans (hset_self _ _ _)) rfl (by decide) fl_J5_15 rfl rfl rfl rfl (Nat.le_of_ble_eq_true rfl) rfl dJ5_init_a7421_53 ?_
  have hSB : SB (hset (hpush (hset σ b (eO 10 [.null, .int 0, .int 0, .int 0])) (eB (cs.length + 16) (fun _ => 0))) b (eO 10 [.ref σ.1, .int 0, .int 0, .int 0])) b [] := ⟨σ.1, cs.length + 16, fun _ => 0, ⟨hset_self _ _ _, (hset_ne _ _ (by omega)).trans (hpush_self _ _), by omega, Nat.lt_succ_self _, Nat.zero_le _, by omega⟩, fit0, fun j hj => absurd hj (Nat.not_lt_zero j)⟩
  refine g_aload_n hx 56 (i := 0) 3 dJ5_init_a7421_56 rfl rfl ?_
  refine g_aload_n hx 57 (i := 1) 4 dJ5_init_a7421_57 rfl rfl ?_
  refine g_widen1 (k' := 1) (n' := 98) (Nat.le_refl _) (by omega) ?_
  refine g_callO hx (c_J4_bridge l g hK hSB hs hf (by show 0 + cs.length ≤ 450; omega)) lo_J5_43 ⟨by decide +kernel, by decide +kernel, show (parseMethodDescriptor x_J5_43.desc).map (fun d => d.parameters.length) = some 1 by decide +kernel⟩ hSB.choose_spec.choose_spec.choose_spec.1.1 (T := TJ4) (N := 4) rfl (As := [.ref a]) (rest := []) rfl (Nat.le_of_ble_eq_true rfl) ⟨Nat.le_of_ble_eq_true rfl, Nat.le_of_ble_eq_true rfl⟩ ⟨Nat.le_of_ble_eq_true rfl, Nat.le_of_ble_eq_true rfl⟩ dJ5_init_a7421_58 (fun r σ1 hp => ?_)
  obtain ⟨rfl, hp1, hp2⟩ := hp
  show G X σ1 2 1000 61 [(4, .int 0), (3, .int (nI (cs.length + 16))), (2, .int (nI cs.length)), (0, .ref b), (1, .ref a)] [.ref b]
  refine g_pop hx 61 dJ5_init_a7421_61 rfl ?_
  exact g_vret hx hR 62 dJ5_init_a7421_62 ⟨rfl, hp1, Kept.trans ⟨Nat.le_succ _, fun k hk => (hset_ne _ _ (show k ≠ b by omega)).trans ((hpush_ne (hset σ b _) _ (show k ≠ σ.1 by omega)).trans (hset_ne σ _ (show k ≠ b by omega)))⟩ hp2⟩
set_option maxRecDepth 100000 in
set_option maxHeartbeats 4000000 in
theorem c_J4_init (l : Launch) (g : Gl) (hK : KB g) {σ : Hp} {b : Nat} (hb : σ.2 b = some (eO 10 [.null, .int 0, .int 0, .int 0])) (hlt : b < σ.1) {a : Nat} {cs : List Int32} (hs : StrAt g a cs) (hf : fitB (fun j => cs.getD j 0)) (hq : cs.length ≤ 80) : MG l g md_J4_init_a7421 [.ref b, .ref a] σ (fun r σ' => r = none ∧ SB σ' b cs ∧ Kept σ σ' b) := by
  refine MG.intro (by decide +kernel) (Nat.le_of_ble_eq_true rfl) (fun X hx hR _ => ?_)
  refine g_ls [0, 1] [(0, .ref b), (1, .ref a)] rfl ?_
  refine g_aload_n hx 0 (i := 0) 0 dJ4_init_a7421_0 rfl rfl ?_
  refine g_aload_n hx 1 (i := 1) 1 dJ4_init_a7421_1 rfl rfl ?_
  refine g_callI hx (c_J5_init l g hK hb hlt hs hf hq) li_J4_7 rfl rfl ar_J5_init (As := [.ref a]) (rest := []) rfl (Nat.le_of_ble_eq_true rfl) ⟨Nat.le_of_ble_eq_true rfl, Nat.le_of_ble_eq_true rfl⟩ ⟨Nat.le_of_ble_eq_true rfl, Nat.le_of_ble_eq_true rfl⟩ dJ4_init_a7421_2 (fun r σ1 hp => ?_)
  obtain ⟨rfl, hp1, hp2⟩ := hp
  exact g_vret hx hR 5 dJ4_init_a7421_5 ⟨rfl, hp1, hp2⟩
set_option maxRecDepth 100000 in
set_option maxHeartbeats 4000000 in
theorem c_getValue (l : Launch) (g : Gl) {σ : Hp} {b v cap n : Nat} {f : Nat → Int32} (hB : isB σ b v cap f n) : MG l g md_J5_getValue_6d5f1 [.ref b] σ (rs (some (.ref v)) σ) := by
  refine MG.intro (by decide +kernel) (Nat.le_of_ble_eq_true rfl) (fun X hx hR _ => ?_)
  refine g_ls [0] [(0, .ref b)] rfl ?_
  refine g_aload_n hx 0 (i := 0) 0 dJ5_getValue_6d5f1_0 rfl rfl ?_
  refine g_get hx 1 (C := RJ4) (T := TJ4) (N := 4) 0 (.ref v) hB.1 rfl (by decide) rfl fl_J5_15 dJ5_getValue_6d5f1_1 ?_
  exact g_bret hx hR 4 dJ5_getValue_6d5f1_4 ⟨rfl, rfl⟩
set_option maxRecDepth 100000 in
set_option maxHeartbeats 4000000 in
theorem c_J5_length (l : Launch) (g : Gl) {σ : Hp} {b v cap n : Nat} {f : Nat → Int32} (hB : isB σ b v cap f n) : MG l g md_J5_length_8abf5 [.ref b] σ (rs (some (.int (nI n))) σ) := by
  refine MG.intro (by decide +kernel) (Nat.le_of_ble_eq_true rfl) (fun X hx hR _ => ?_)
  refine g_ls [0] [(0, .ref b)] rfl ?_
  refine g_aload_n hx 0 (i := 0) 0 dJ5_length_8abf5_0 rfl rfl ?_
  refine g_get hx 1 (C := RJ4) (T := TJ4) (N := 4) 3 (.int (nI n)) hB.1 rfl (by decide) rfl fl_J5_79 dJ5_length_8abf5_1 ?_
  exact g_iret hx hR 4 dJ5_length_8abf5_4 ⟨rfl, rfl⟩
set_option maxRecDepth 100000 in
set_option maxHeartbeats 4000000 in
theorem c_J4_length (l : Launch) (g : Gl) {σ : Hp} {b v cap n : Nat} {f : Nat → Int32} (hB : isB σ b v cap f n) : MG l g md_J4_length_8abf5 [.ref b] σ (rs (some (.int (nI n))) σ) := by
  refine MG.intro (by decide +kernel) (Nat.le_of_ble_eq_true rfl) (fun X hx hR _ => ?_)
  refine g_ls [0] [(0, .ref b)] rfl ?_
  refine g_aload_n hx 0 (i := 0) 0 dJ4_length_8abf5_0 rfl rfl ?_
  refine g_callSU hx (c_J5_length l g hB) ls_J4_len ⟨by show yJ5_length_8abf5.name ≠ "<init>"; decide +kernel, show (parseMethodDescriptor yJ5_length_8abf5.desc).map (fun d => d.parameters.length) = some 0 by decide +kernel⟩ hB.1 (C := RJ4) (T := TJ4) (N := 4) rfl (As := []) (rest := []) rfl (Nat.le_of_ble_eq_true rfl) ⟨Nat.le_of_ble_eq_true rfl, Nat.le_of_ble_eq_true rfl⟩ ⟨Nat.le_of_ble_eq_true rfl, Nat.le_of_ble_eq_true rfl⟩ dJ4_length_8abf5_1 (fun r σ1 hp => ?_)
  obtain ⟨rfl, rfl⟩ := hp
  exact g_iret hx hR 4 dJ4_length_8abf5_4 ⟨rfl, rfl⟩
set_option maxRecDepth 100000 in
set_option maxHeartbeats 4000000 in
theorem c_checkLength (l : Launch) (g : Gl) (σ : Hp) {n : Nat} (hn : n < 1000) : MG l g md_J7_checkLength_df160 [.int 0, .int (nI n)] σ (rs none σ) := by
  refine MG.intro (by decide +kernel) (Nat.le_of_ble_eq_true rfl) (fun X hx hR _ => ?_)
  refine g_ls [0, 1] [(0, .int 0), (1, .int (nI n))] rfl ?_
  refine g_iload_n hx 0 (i := 1) 1 dJ7_checkLength_df160_0 rfl rfl ?_
  refine g_iload_n hx 1 (i := 0) 0 dJ7_checkLength_df160_1 rfl rfl ?_
  refine g_icmp_ge hx 2 37 dJ7_checkLength_df160_2 (by decide) (fun _ => ?_) (fun hc => absurd (nI_pos' (by omega)) hc)
  exact g_vret hx hR 37 dJ7_checkLength_df160_37 ⟨rfl, rfl⟩
set_option maxRecDepth 100000 in
set_option maxHeartbeats 4000000 in
theorem c_copyOfRangeByte (l : Launch) (g : Gl) (hK : KB g) {σ : Hp} {v cap n : Nat} {f : Nat → Int32} (hv : σ.2 v = some (eB cap f)) (hl : v < σ.1) (hn : n ≤ cap) (hc : cap ≤ 902) (hf : fitB f) : MG l g md_J7_copyOfRangeByte_39247 [.ref v, .int 0, .int (nI n)] σ (fun r σ' => r = some (.ref σ.1) ∧ ∃ f', σ' = hpush σ (eB n f') ∧ fitB f' ∧ ∀ j, j < n → f' j = f j) := by
  refine MG.intro (by decide +kernel) (Nat.le_of_ble_eq_true rfl) (fun X hx hR _ => ?_)
  refine g_ls [0, 1, 2] [(0, .ref v), (1, .int 0), (2, .int (nI n))] rfl ?_
  refine g_iload_n hx 0 (i := 1) 1 dJ7_copyOfRangeByte_39247_0 rfl rfl ?_
  refine g_iload_n hx 1 (i := 2) 2 dJ7_copyOfRangeByte_39247_1 rfl rfl ?_
  refine g_callSv hx (c_checkLength l g σ (by omega)) lk_J7_343 ar_J7_cl (As := [.int 0, .int (nI n)]) (rest := []) rfl (Nat.le_of_ble_eq_true rfl) ⟨Nat.le_of_ble_eq_true rfl, Nat.le_of_ble_eq_true rfl⟩ ⟨rfl, rfl⟩ ⟨Nat.zero_le _, Nat.zero_le _⟩ dJ7_copyOfRangeByte_39247_2 ?_
  refine g_iload_n hx 5 (i := 2) 2 dJ7_copyOfRangeByte_39247_5 rfl rfl ?_
  refine g_iload_n hx 6 (i := 1) 1 dJ7_copyOfRangeByte_39247_6 rfl rfl ?_
  refine g_isub hx 7 dJ7_copyOfRangeByte_39247_7 ?_
  refine g_nmi (x := nI n) (j_s0 n) ?_
  refine g_istore_n hx 8 (i := 3) [(3, .int (nI n)), (0, .ref v), (1, .int 0), (2, .int (nI n))] dJ7_copyOfRangeByte_39247_8 rfl (by decide) rfl ?_
  refine g_iload_n hx 9 (i := 3) 0 dJ7_copyOfRangeByte_39247_9 rfl rfl ?_
  refine g_newB hx 10 n arc_byte (nI_pos (by omega)) (nI_clamp (by omega)) (by show n * 1 ≤ _; omega) ⟨Nat.le_of_ble_eq_true rfl, by show 0 + n ≤ 902; omega⟩ dJ7_copyOfRangeByte_39247_10 ?_
  refine g_astore hx 12 (i := 4) [(4, .ref σ.1), (3, .int (nI n)), (0, .ref v), (1, .int 0), (2, .int (nI n))] dJ7_copyOfRangeByte_39247_12 (by decide) rfl ?_
  refine g_aload_n hx 14 (i := 0) 2 dJ7_copyOfRangeByte_39247_14 rfl rfl ?_
  refine g_iload_n hx 15 (i := 1) 3 dJ7_copyOfRangeByte_39247_15 rfl rfl ?_
  refine g_aload hx 16 (i := 4) 0 dJ7_copyOfRangeByte_39247_16 rfl ?_
  refine g_iconst hx 18 (0) dJ7_copyOfRangeByte_39247_18 rfl ?_
  refine g_aload_n hx 19 (i := 0) 2 dJ7_copyOfRangeByte_39247_19 rfl rfl ?_
  refine g_alenB hx 20 ((hpush_ne σ _ (by omega)).trans hv) dJ7_copyOfRangeByte_39247_20 ?_
  refine g_iload_n hx 21 (i := 1) 3 dJ7_copyOfRangeByte_39247_21 rfl rfl ?_
  refine g_isub hx 22 dJ7_copyOfRangeByte_39247_22 ?_
  refine g_nmi (x := nI cap) (j_s0 cap) ?_
  refine g_iload_n hx 23 (i := 3) 1 dJ7_copyOfRangeByte_39247_23 rfl rfl ?_
  refine g_mmin hx 24 mw_J7_304 (Nat.le_of_ble_eq_true rfl) ⟨Nat.le_of_ble_eq_true rfl, Nat.le_of_ble_eq_true rfl⟩ ⟨Nat.le_of_ble_eq_true rfl, by show 0 + n ≤ 902; omega⟩ dJ7_copyOfRangeByte_39247_24 ?_
  refine g_nmi (x := nI n) ((j_min (by omega) (by omega)).trans (by rw [Nat.min_eq_right hn])).symm ?_
  refine g_copyB hx 27 (n0 := cap) (f := f) ((hpush_ne σ _ (by omega)).trans hv) (hpush_self σ _) ac_J7_150 (by decide) (by decide) (nI_pos (by omega)) (by rw [tn0, nI_clamp (by omega)]; omega) (by rw [tn0, nI_clamp (by omega)]; omega) hf (Nat.le_of_ble_eq_true rfl) ⟨Nat.le_of_ble_eq_true rfl, Nat.le_of_ble_eq_true rfl⟩ dJ7_copyOfRangeByte_39247_27 ?_
  rw [hset_hpush, tn0, nI_clamp (show n < 2 ^ 31 by omega)]
  refine g_aload hx 30 (i := 4) 0 dJ7_copyOfRangeByte_39247_30 rfl ?_
  refine G.widen (k' := 1) (n' := 902) (Nat.le_of_ble_eq_true rfl) (by omega) ?_
  refine g_bret hx hR 32 dJ7_copyOfRangeByte_39247_32 ⟨rfl, _, rfl, fit_cpy hf fit0 _ _ _, fun j hj => ?_⟩
  unfold va_cpy
  rw [if_pos ⟨Nat.zero_le _, by omega⟩, Nat.zero_add, Nat.sub_zero]
set_option maxRecDepth 100000 in
set_option maxHeartbeats 4000000 in
theorem c_copyOfRange (l : Launch) (g : Gl) (hK : KB g) {σ : Hp} {v cap n : Nat} {f : Nat → Int32} (hv : σ.2 v = some (eB cap f)) (hl : v < σ.1) (hn : n ≤ cap) (hc : cap ≤ 902) (hf : fitB f) : MG l g md_J7_copyOfRange_39247 [.ref v, .int 0, .int (nI n)] σ (fun r σ' => r = some (.ref σ.1) ∧ ∃ f', σ' = hpush σ (eB n f') ∧ fitB f' ∧ ∀ j, j < n → f' j = f j) := by
  refine MG.intro (by decide +kernel) (Nat.le_of_ble_eq_true rfl) (fun X hx hR _ => ?_)
  refine g_ls [0, 1, 2] [(0, .ref v), (1, .int 0), (2, .int (nI n))] rfl ?_
  refine g_iload_n hx 0 (i := 1) 1 dJ7_copyOfRange_39247_0 rfl rfl ?_
  refine g_if_ne hx 1 10 dJ7_copyOfRange_39247_1 (by decide) (fun hc => absurd rfl hc) (fun _ => ?_)
  refine g_iload_n hx 4 (i := 2) 2 dJ7_copyOfRange_39247_4 rfl rfl ?_
  refine g_aload_n hx 5 (i := 0) 0 dJ7_copyOfRange_39247_5 rfl rfl ?_
  refine g_alenB hx 6 hv dJ7_copyOfRange_39247_6 ?_
  by_cases h : n = cap
  · refine g_icmp_eq hx 7 17 dJ7_copyOfRange_39247_7 (by decide) (fun _ => ?_) (fun hc => absurd (by rw [h]) hc)
    refine g_aload_n hx 17 (i := 0) 0 dJ7_copyOfRange_39247_17 rfl rfl ?_
    refine g_cloneB hx 18 hv cl_J7 (fun U hU => (hK.2.1 U hU).1) hf (Nat.le_of_ble_eq_true rfl) ⟨Nat.le_of_ble_eq_true rfl, Nat.le_of_ble_eq_true rfl⟩ ⟨Nat.le_of_ble_eq_true rfl, by show 0 + cap ≤ 902; omega⟩ dJ7_copyOfRange_39247_18 ?_
    refine g_castB hx 21 (hpush_self σ _) ck_J7 dJ7_copyOfRange_39247_21 ?_
    refine G.widen (k' := 1) (n' := 902) (Nat.le_of_ble_eq_true rfl) (by omega) ?_
    exact g_bret hx hR 24 dJ7_copyOfRange_39247_24 ⟨rfl, f, by rw [h], hf, fun _ _ => rfl⟩
  · refine g_icmp_eq hx 7 17 dJ7_copyOfRange_39247_7 (by decide) (fun hc => absurd ((nI_eq (by omega) (by omega)).mp hc) h) (fun _ => ?_)
    refine g_aload_n hx 10 (i := 0) 0 dJ7_copyOfRange_39247_10 rfl rfl ?_
    refine g_iload_n hx 11 (i := 1) 1 dJ7_copyOfRange_39247_11 rfl rfl ?_
    refine g_iload_n hx 12 (i := 2) 2 dJ7_copyOfRange_39247_12 rfl rfl ?_
    refine g_callS hx (c_copyOfRangeByte l g hK hv hl hn hc hf) lk_J7_339 ar_J7_crb (As := [.ref v, .int 0, .int (nI n)]) (rest := []) rfl (Nat.le_of_ble_eq_true rfl) ⟨Nat.le_of_ble_eq_true rfl, Nat.le_of_ble_eq_true rfl⟩ ⟨Nat.le_of_ble_eq_true rfl, Nat.le_of_ble_eq_true rfl⟩ dJ7_copyOfRange_39247_13 (fun r σ1 hp => ?_)
    obtain ⟨rfl, f', rfl, hf', hj'⟩ := hp
    exact g_bret hx hR 16 dJ7_copyOfRange_39247_16 ⟨rfl, f', rfl, hf', hj'⟩
set_option maxRecDepth 100000 in
set_option maxHeartbeats 4000000 in
theorem c_J0_init2 (l : Launch) (g : Gl) (hK : KB g) {σ : Hp} {b v cap n a : Nat} {f : Nat → Int32} (hB : isB σ b v cap f n) (hf : fitB f) (ha : σ.2 a = some (eO 9 [.null, .int 0, .int 0, .int 0])) (hva : v ≠ a) (hlt : a < σ.1) : MG l g md_J0_init_db425 [.ref a, .ref b, .null] σ (fun r σ' => r = none ∧ (∃ w f', (a < w ∧ w < σ'.1) ∧ σ'.2 a = some (eO 9 [.ref w, .int 0, .int 0, .int 0]) ∧ σ'.2 w = some (eB n f') ∧ fitB f' ∧ ∀ j, j < n → f' j = f j) ∧ σ.1 ≤ σ'.1 ∧ ∀ k, k < σ.1 → k ≠ a → σ'.2 k = σ.2 k) := by
  refine MG.intro (by decide +kernel) (Nat.le_of_ble_eq_true rfl) (fun X hx hR hin => ?_)
  refine g_ls [0, 1, 2] [(0, .ref a), (1, .ref b), (2, .null)] rfl ?_
  refine g_aload_n hx 0 (i := 0) 0 dJ0_init_db425_0 rfl rfl ?_
  refine g_obj hx 1 ob_J0_1 (Nat.le_of_ble_eq_true rfl) ⟨Nat.le_of_ble_eq_true rfl, Nat.le_of_ble_eq_true rfl⟩ dJ0_init_db425_1 ?_
  refine g_aload_n hx 4 (i := 1) 1 dJ0_init_db425_4 rfl rfl ?_
  refine g_callU hx (c_getValue l g hB) lu_J0_552 rfl ⟨by decide +kernel, by decide +kernel, by decide +kernel⟩ hB.1 (T := TJ4) (N := 4) rfl (As := []) (rest := []) rfl (Nat.le_of_ble_eq_true rfl) ⟨Nat.le_of_ble_eq_true rfl, Nat.le_of_ble_eq_true rfl⟩ ⟨Nat.le_of_ble_eq_true rfl, Nat.le_of_ble_eq_true rfl⟩ dJ0_init_db425_5 (fun r σ1 hp => ?_)
  obtain ⟨rfl, rfl⟩ := hp
  show G X σ1 0 0 8 [(0, .ref a), (1, .ref b), (2, .null)] [.ref v]
  refine g_astore_n hx 8 (i := 3) [(3, .ref v), (0, .ref a), (1, .ref b), (2, .null)] dJ0_init_db425_8 rfl (by decide) rfl ?_
  refine g_aload_n hx 9 (i := 1) 2 dJ0_init_db425_9 rfl rfl ?_
  refine g_callO hx (c_J4_length l g hB) lo_J0_549 ⟨by decide +kernel, by decide +kernel, by decide +kernel⟩ hB.1 (T := TJ4) (N := 4) rfl (As := []) (rest := []) rfl (Nat.le_of_ble_eq_true rfl) ⟨Nat.le_of_ble_eq_true rfl, Nat.le_of_ble_eq_true rfl⟩ ⟨Nat.le_of_ble_eq_true rfl, Nat.le_of_ble_eq_true rfl⟩ dJ0_init_db425_10 (fun r σ2 hp => ?_)
  obtain ⟨rfl, rfl⟩ := hp
  show G X σ2 0 0 13 [(3, .ref v), (0, .ref a), (1, .ref b), (2, .null)] [.int (nI n)]
  refine g_istore hx 13 (i := 4) [(4, .int (nI n)), (3, .ref v), (0, .ref a), (1, .ref b), (2, .null)] dJ0_init_db425_13 (by decide) rfl ?_
  refine g_aload_n hx 15 (i := 1) 3 dJ0_init_db425_15 rfl rfl ?_
  refine g_callU hx (c_J5_isLatin1 l g hK.1 hB) lu_J0_1047 rfl ⟨by decide +kernel, by decide +kernel, by decide +kernel⟩ hB.1 (T := TJ4) (N := 4) rfl (As := []) (rest := []) rfl (Nat.le_of_ble_eq_true rfl) ⟨Nat.le_of_ble_eq_true rfl, Nat.le_of_ble_eq_true rfl⟩ ⟨Nat.le_of_ble_eq_true rfl, Nat.le_of_ble_eq_true rfl⟩ dJ0_init_db425_16 (fun r σ3 hp => ?_)
  obtain ⟨rfl, rfl⟩ := hp
  show G X σ3 0 0 19 [(4, .int (nI n)), (3, .ref v), (0, .ref a), (1, .ref b), (2, .null)] [.int 1]
  refine g_if_eq hx 19 41 dJ0_init_db425_19 (by decide) (fun hc => absurd hc (by decide)) (fun _ => ?_)
  refine g_aload_n hx 22 (i := 0) 2 dJ0_init_db425_22 rfl rfl ?_
  refine g_iconst hx 23 (0) dJ0_init_db425_23 rfl ?_
  refine g_putF hx 24 (C := RJ0) (T := TJ0) (N := 4) 1 _ _ hin ha rfl (by decide) fl_J0_15 rfl rfl rfl rfl rfl (Nat.le_of_ble_eq_true rfl) rfl dJ0_init_db425_24 ?_
  refine g_aload_n hx 27 (i := 0) 2 dJ0_init_db425_27 rfl rfl ?_
  refine g_aload_n hx 28 (i := 3) 1 dJ0_init_db425_28 rfl rfl ?_
  refine g_iconst hx 29 (0) dJ0_init_db425_29 rfl ?_
  refine g_iload hx 30 (i := 4) 0 dJ0_init_db425_30 rfl ?_
  refine g_callS hx (c_copyOfRange l g hK ((hset_ne _ _ hva).trans hB.2.1) hB.2.2.2.1 hB.2.2.2.2.1 hB.2.2.2.2.2 hf) lk_J0_54 ar_J7_cor (As := [.ref v, .int 0, .int (nI n)]) (rest := [.ref a]) rfl (Nat.le_of_ble_eq_true rfl) ⟨Nat.le_of_ble_eq_true rfl, Nat.le_of_ble_eq_true rfl⟩ ⟨Nat.le_of_ble_eq_true rfl, Nat.le_of_ble_eq_true rfl⟩ dJ0_init_db425_32 (fun r σ4 hp => ?_)
  obtain ⟨rfl, f', rfl, hf', hj'⟩ := hp
  show G X (hpush (hset σ3 a (eO 9 [.null, .int 0, .int 0, .int 0])) (eB n f')) 1 902 35 [(4, .int (nI n)), (3, .ref v), (0, .ref a), (1, .ref b), (2, .null)] [.ref σ3.1, .ref a]
  refine g_putF hx 35 (C := RJ0) (T := TJ0) (N := 4) 0 _ _ hin ((hpush_ne (hset σ3 a _) _ (show a ≠ σ3.1 by omega)).trans (hset_self _ _ _)) rfl (by decide) fl_J0_9 rfl rfl rfl rfl rfl (Nat.le_of_ble_eq_true rfl) rfl dJ0_init_db425_35 ?_
  refine g_goto hx 38 97 dJ0_init_db425_38 (by decide) ?_
  exact g_vret hx hR 97 dJ0_init_db425_97 ⟨rfl, ⟨σ3.1, f', ⟨by omega, Nat.lt_succ_self _⟩, hset_self _ _ _, (hset_ne _ _ (by omega)).trans (hpush_self _ _), hf', hj'⟩, Nat.le_succ _, fun k hk hk2 => (hset_ne _ _ hk2).trans ((hpush_ne (hset σ3 a _) _ (show k ≠ σ3.1 by omega)).trans (hset_ne σ3 _ hk2))⟩
set_option maxRecDepth 100000 in
set_option maxHeartbeats 4000000 in
theorem c_J0_init1 (l : Launch) (g : Gl) (hK : KB g) {σ : Hp} {b v cap n a : Nat} {f : Nat → Int32} (hB : isB σ b v cap f n) (hf : fitB f) (ha : σ.2 a = some (eO 9 [.null, .int 0, .int 0, .int 0])) (hva : v ≠ a) (hlt : a < σ.1) : MG l g md_J0_init_81219 [.ref a, .ref b] σ (fun r σ' => r = none ∧ (∃ w f', (a < w ∧ w < σ'.1) ∧ σ'.2 a = some (eO 9 [.ref w, .int 0, .int 0, .int 0]) ∧ σ'.2 w = some (eB n f') ∧ fitB f' ∧ ∀ j, j < n → f' j = f j) ∧ σ.1 ≤ σ'.1 ∧ ∀ k, k < σ.1 → k ≠ a → σ'.2 k = σ.2 k) := by
  refine MG.intro (by decide +kernel) (Nat.le_of_ble_eq_true rfl) (fun X hx hR _ => ?_)
  refine g_ls [0, 1] [(0, .ref a), (1, .ref b)] rfl ?_
  refine g_aload_n hx 0 (i := 0) 0 dJ0_init_81219_0 rfl rfl ?_
  refine g_aload_n hx 1 (i := 1) 1 dJ0_init_81219_1 rfl rfl ?_
  refine g_null hx 2 dJ0_init_81219_2 ?_
  refine g_callI hx (c_J0_init2 l g hK hB hf ha hva hlt) li_J0_489 rfl rfl ar_J0_init2 (As := [.ref b, .null]) (rest := []) rfl (Nat.le_of_ble_eq_true rfl) ⟨Nat.le_of_ble_eq_true rfl, Nat.le_of_ble_eq_true rfl⟩ ⟨Nat.le_of_ble_eq_true rfl, Nat.le_of_ble_eq_true rfl⟩ dJ0_init_81219_3 (fun r σ1 hp => ?_)
  obtain ⟨rfl, hp1⟩ := hp
  exact g_vret hx hR 6 dJ0_init_81219_6 ⟨rfl, hp1⟩
set_option maxRecDepth 100000 in
set_option maxHeartbeats 4000000 in
theorem c_toString (l : Launch) (g : Gl) (hK : KB g) {σ : Hp} {b : Nat} {t : List Int32} (hb : SB σ b t) : MG l g md_J4_toString_0e30d [.ref b] σ (fun r σ' => r = some (.ref σ.1) ∧ SS σ' σ.1 t ∧ σ.1 ≤ σ'.1 ∧ ∀ k, k < σ.1 → σ'.2 k = σ.2 k) := by
  obtain ⟨v, cap, f, hB, hf0, ht⟩ := hb
  refine MG.intro (by decide +kernel) (Nat.le_of_ble_eq_true rfl) (fun X hx hR _ => ?_)
  refine g_ls [0] [(0, .ref b)] rfl ?_
  refine g_new hx 0 (ci := 9) (C := RJ0) (T := TJ0) (N := 4) fsJ0 rfl xk_J4_18 xi_J0.1 xi_J0.2 fsJ0_d ⟨Nat.le_of_ble_eq_true rfl, Nat.le_of_ble_eq_true rfl⟩ dJ4_toString_0e30d_0 ?_
  refine g_dup hx 3 dJ4_toString_0e30d_3 rfl ?_
  refine g_aload_n hx 4 (i := 0) 0 dJ4_toString_0e30d_4 rfl rfl ?_
  have hB' : isB (hpush σ (eO 9 fsJ0)) b v cap f t.length := ⟨(hpush_ne _ _ (by have := hB.2.2; omega)).trans hB.1, (hpush_ne _ _ (by have := hB.2.2; omega)).trans hB.2.1, hB.2.2.1, Nat.lt_succ_of_lt hB.2.2.2.1, hB.2.2.2.2⟩
  refine g_callI hx (c_J0_init1 l g hK hB' hf0 (hpush_self _ _) (by have := hB.2.2.2.1; omega) (Nat.lt_succ_self _)) li_J4_137 rfl rfl ar_J0_init1 (As := [.ref b]) (rest := [.ref σ.1]) rfl (Nat.le_of_ble_eq_true rfl) ⟨Nat.le_of_ble_eq_true rfl, Nat.le_of_ble_eq_true rfl⟩ ⟨Nat.le_of_ble_eq_true rfl, Nat.le_of_ble_eq_true rfl⟩ dJ4_toString_0e30d_5 (fun r σ1 hp => ?_)
  obtain ⟨rfl, ⟨w, f', e0, e1, e2, e3, e4⟩, hz, hk⟩ := hp
  exact g_aret hx hR 8 (Or.inr ⟨_, rfl⟩) dJ4_toString_0e30d_8 ⟨rfl, ⟨w, f', e0, e1, e2, e3, fun j hj => (e4 j hj).trans (ht j hj)⟩, Nat.le_trans (Nat.le_succ _) hz, fun k hk1 => (hk k (Nat.lt_succ_of_lt hk1) (by omega)).trans (hpush_ne _ _ (by omega))⟩
