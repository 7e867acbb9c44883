/-! the JDK's StringBuilder over the symbolic heap -/
abbrev bO (v n : Nat) : Ent := eO 10 [.ref v, .int 0, .int 0, .int (nI n)]
def isB (σ : Hp) (b v cap : Nat) (f : Nat → Int32) (n : Nat) : Prop := σ.2 b = some (bO v n) ∧ σ.2 v = some (eB cap f) ∧ b < v ∧ v < σ.1 ∧ n ≤ cap ∧ cap ≤ 902
/-- what lies below b is as it was -/
def Kept (σ σ' : Hp) (b : Nat) : Prop := σ.1 ≤ σ'.1 ∧ ∀ k, k < b → σ'.2 k = σ.2 k
theorem Kept.rf (σ : Hp) (b : Nat) : Kept σ σ b := ⟨Nat.le_refl _, fun _ _ => rfl⟩
theorem Kept.trans {σ σ' σ'' : Hp} {b : Nat} (h : Kept σ σ' b) (h' : Kept σ' σ'' b) : Kept σ σ'' b := ⟨Nat.le_trans h.1 h'.1, fun k hk => (h'.2 k hk).trans (h.2 k hk)⟩
theorem Kept.hset {σ σ' : Hp} {b k : Nat} (h : Kept σ σ' b) (hk : b ≤ k) (e : Ent) : Kept σ (hset σ' k e) b := ⟨h.1, fun j hj => (hset_ne _ _ (by omega)).trans (h.2 j hj)⟩
theorem hpush_ne (σ : Hp) {j : Nat} (e : Ent) (h : j ≠ σ.1) : (hpush σ e).2 j = σ.2 j := if_neg h
theorem hpush_self (σ : Hp) (e : Ent) : (hpush σ e).2 σ.1 = some e := if_pos rfl
theorem hset_hpush (σ : Hp) (e e' : Ent) : hset (hpush σ e) σ.1 e' = hpush σ e' := by
  refine Prod.ext rfl (funext fun j => ?_)
  by_cases h : j = σ.1 <;> simp [hset, hpush, h]
theorem Kept.hpush {σ σ' : Hp} {b : Nat} (h : Kept σ σ' b) (hb : b ≤ σ'.1) (e : Ent) : Kept σ (hpush σ' e) b := ⟨Nat.le_succ_of_le h.1, fun j hj => (hpush_ne _ _ (by omega)).trans (h.2 j hj)⟩
theorem j_sub_le {q c : Nat} (h : q ≤ c) (hc : c < 100000) : nI q - nI c ≤ 0 := by
  have e : (nI q - nI c).toInt = (q : Int) - c := pk_sub_toInt (by omega) (by omega)
  rw [Int32.le_iff_toInt_le, e, Int32.toInt_zero]; omega
theorem j_sub_nle {q c : Nat} (h : c < q) (hq : q < 100000) : ¬ nI q - nI c ≤ 0 := by
  rw [pk_sub (by omega)]; exact nI_nle (by omega) (by omega)
theorem j_max {a b : Nat} (ha : a < 100000) (hb : b < 100000) : (if nI a < nI b then nI b else nI a) = nI (max a b) := by
  by_cases h : a < b
  · rw [if_pos (nI_lt h (by omega)), Nat.max_eq_right (by omega)]
  · rw [if_neg (nI_nlt (by omega) (by omega)), Nat.max_eq_left (by omega)]
theorem j_min {a b : Nat} (ha : a < 100000) (hb : b < 100000) : (if nI b < nI a then nI b else nI a) = nI (min a b) := by
  by_cases h : b < a
  · rw [if_pos (nI_lt h (by omega)), Nat.min_eq_right (by omega)]
  · rw [if_neg (nI_nlt (by omega) (by omega)), Nat.min_eq_left (by omega)]
theorem fit0 : fitB (fun _ => 0) := fun _ => rfl
theorem fit_cpy {f h : Nat → Int32} (hf : fitB f) (hh : fitB h) (a b c : Nat) : fitB (va_cpy f h a b c) := fun j => by
  unfold va_cpy
  split
  · exact hf _
  · exact hh _
theorem fit_upd {f : Nat → Int32} (hf : fitB f) (i : Nat) {y : Int32} (hy : fits .byte (.int y) = true) : fitB (upd f i y) := fun j => by
  by_cases h : j = i
  · subst h; simp [upd, hy]
  · simp [upd, h, hf j]
theorem arc_byte : Cond.arrayClass .byte ∈ aw := aw1 (by decide +kernel)
theorem tn0 : (0 : Int32).toNatClampNeg = 0 := by decide
def md_J5_isLatin1_aae02 : Md := (yJ5_isLatin1_aae02, cJ5_isLatin1_aae02, 1, some .boolean, 0, 0, 0, 0)
def md_J5_newCapacity_0f7a4 : Md := (yJ5_newCapacity_0f7a4, cJ5_newCapacity_0f7a4, 6, some .int, 2, 83, 0, 0)
def md_J8_newLength_cabcc : Md := (yJ8_newLength_cabcc, cJ8_newLength_cabcc, 4, some .int, 1, 60, 0, 0)
def md_J7_copyOf_9075b : Md := (yJ7_copyOf_9075b, cJ7_copyOf_9075b, 3, some (.array .byte), 1, 60, 1, 902)
def md_J5_ensureCapacityInternal_d00df : Md := (yJ5_ensureCapacityInternal_d00df, cJ5_ensureCapacityInternal_d00df, 3, none, 3, 108, 1, 902)
def md_J5_inflateIfNeededFor_a7421 : Md := (yJ5_inflateIfNeededFor_a7421, cJ5_inflateIfNeededFor_a7421, 2, none, 1, 60, 0, 0)
def md_J0_getBytes_840e7 : Md := (yJ0_getBytes_840e7, cJ0_getBytes_840e7, 4, none, 1, 60, 0, 0)
def md_J5_putStringAt_47b60 : Md := (yJ5_putStringAt_47b60, cJ5_putStringAt_47b60, 3, none, 2, 83, 0, 0)
def md_J5_append_cf1ce : Md := (yJ5_append_cf1ce, cJ5_append_cf1ce, 3, some (.object "java/lang/AbstractStringBuilder"), 4, 130, 1, 902)
def md_J4_append_15ec4 : Md := (yJ4_append_15ec4, cJ4_append_15ec4, 2, some (.object "java/lang/StringBuilder"), 5, 152, 1, 902)
def md_J4_append_cf1ce : Md := (yJ4_append_cf1ce, cJ4_append_cf1ce, 2, some (.object "java/lang/AbstractStringBuilder"), 6, 173, 1, 902)
def md_J5_append_3fe6f : Md := (yJ5_append_3fe6f, cJ5_append_3fe6f, 2, some (.object "java/lang/AbstractStringBuilder"), 4, 130, 1, 902)
def md_J4_append_cf468 : Md := (yJ4_append_cf468, cJ4_append_cf468, 2, some (.object "java/lang/StringBuilder"), 5, 151, 1, 902)
def md_J1_canEncode_fc78d : Md := (yJ1_canEncode_fc78d, cJ1_canEncode_fc78d, 1, some .boolean, 0, 0, 0, 0)
def md_J6_stringSize_0f7a4 : Md := (yJ6_stringSize_0f7a4, cJ6_stringSize_0f7a4, 4, some .int, 0, 0, 0, 0)
def md_J6_getChars_ba4f3 : Md := (yJ6_getChars_ba4f3, cJ6_getChars_ba4f3, 7, some .int, 0, 0, 0, 0)
def md_J5_append_c97b9 : Md := (yJ5_append_c97b9, cJ5_append_c97b9, 4, some (.object "java/lang/AbstractStringBuilder"), 4, 130, 1, 902)
def md_J4_append_bf812 : Md := (yJ4_append_bf812, cJ4_append_bf812, 2, some (.object "java/lang/StringBuilder"), 5, 153, 1, 902)
def md_J5_init_a7421 : Md := (yJ5_init_a7421, cJ5_init_a7421, 5, none, 7, 194, 2, 1000)
def md_J4_init_a7421 : Md := (yJ4_init_a7421, cJ4_init_a7421, 2, none, 8, 218, 2, 1000)
def md_J5_getValue_6d5f1 : Md := (yJ5_getValue_6d5f1, cJ5_getValue_6d5f1, 1, some (.array .byte), 0, 0, 0, 0)
def md_J5_length_8abf5 : Md := (yJ5_length_8abf5, cJ5_length_8abf5, 1, some .int, 0, 0, 0, 0)
def md_J4_length_8abf5 : Md := (yJ4_length_8abf5, cJ4_length_8abf5, 1, some .int, 1, 20, 0, 0)
def md_J7_checkLength_df160 : Md := (yJ7_checkLength_df160, cJ7_checkLength_df160, 2, none, 0, 0, 0, 0)
def md_J7_copyOfRangeByte_39247 : Md := (yJ7_copyOfRangeByte_39247, cJ7_copyOfRangeByte_39247, 5, some (.array .byte), 1, 60, 1, 902)
def md_J7_copyOfRange_39247 : Md := (yJ7_copyOfRange_39247, cJ7_copyOfRange_39247, 3, some (.array .byte), 2, 84, 1, 902)
def md_J0_init_db425 : Md := (yJ0_init_db425, cJ0_init_db425, 5, none, 3, 106, 1, 902)
def md_J0_init_81219 : Md := (yJ0_init_81219, cJ0_init_81219, 2, none, 4, 130, 1, 902)
def md_J4_toString_0e30d : Md := (yJ4_toString_0e30d, cJ4_toString_0e30d, 1, some (.object "java/lang/String"), 5, 151, 2, 906)
theorem mw_J8_194 : ∀ w ∈ [Cond.methodLink RJ8 194 Lib.Math.max.name, Cond.static Lib.Math.max.name, Cond.initialized "java/lang/Math", Cond.code Lib.Math.max.name Lib.Math.max.code 2 (some .int)], w ∈ aw := aw_of (by decide +kernel)
theorem cn_J8_200 : Cond.constant RJ8 200 2147483639 ∈ aw := aw1 (by decide +kernel)
theorem fl_J5_18 : Cond.fieldLink RJ5 18 "java/lang/String" "COMPACT_STRINGS" "Z" ∈ aw := aw1 (by decide +kernel)
theorem fl_J5_22 : Cond.fieldLink RJ5 22 (TJ4 1).1 (TJ4 1).2.1 (TJ4 1).2.2.1 ∈ aw := aw1 (by decide +kernel)
theorem fl_J5_15 : Cond.fieldLink RJ5 15 (TJ4 0).1 (TJ4 0).2.1 (TJ4 0).2.2.1 ∈ aw := aw1 (by decide +kernel)
theorem lk_J5_114 : LkS RJ5 114 md_J8_newLength_cabcc := lk_of (by decide +kernel)
theorem ar_J8_newLength : Arity md_J8_newLength_cabcc 3 := ⟨by decide +kernel, by decide +kernel, by decide +kernel⟩
theorem cn_J5_39 : Cond.constant RJ5 39 2147483647 ∈ aw := aw1 (by decide +kernel)
theorem mw_J7_304 : ∀ w ∈ [Cond.methodLink RJ7 304 Lib.Math.min.name, Cond.static Lib.Math.min.name, Cond.initialized "java/lang/Math", Cond.code Lib.Math.min.name Lib.Math.min.code 2 (some .int)], w ∈ aw := aw_of (by decide +kernel)
theorem ac_J7_150 : ∀ w ∈ [Cond.methodLink RJ7 150 arraycopyName, Cond.native arraycopyName, Cond.static arraycopyName, Cond.initialized "java/lang/System"], w ∈ aw := aw_of (by decide +kernel)
theorem lp_J5_104 : LkP RJ5 104 md_J5_newCapacity_0f7a4 := aw_of (by decide +kernel)
theorem lk_J5_108 : LkS RJ5 108 md_J7_copyOf_9075b := lk_of (by decide +kernel)
theorem ar_J7_copyOf : Arity md_J7_copyOf_9075b 2 := ⟨by decide +kernel, by decide +kernel, by decide +kernel⟩
set_option maxRecDepth 100000 in
set_option maxHeartbeats 4000000 in
theorem c_newLength (l : Launch) (g : Gl) (σ : Hp) {a m q : Nat} (h0 : 0 < a + max m q) (ha : a < 2000) (hm : m < 2000) (hq : q < 2000) : MG l g md_J8_newLength_cabcc [.int (nI a), .int (nI m), .int (nI q)] σ (rs (some (.int (nI (a + max m q)))) σ) := by
  refine MG.intro (by decide +kernel) (Nat.le_of_ble_eq_true rfl) (fun X hx hR _ => ?_)
  refine g_ls [0, 1, 2] [(0, .int (nI a)), (1, .int (nI m)), (2, .int (nI q))] rfl ?_
  refine g_iload_n hx 0 (i := 0) 0 dJ8_newLength_cabcc_0 rfl rfl ?_
  refine g_iload_n hx 1 (i := 1) 1 dJ8_newLength_cabcc_1 rfl rfl ?_
  refine g_iload_n hx 2 (i := 2) 2 dJ8_newLength_cabcc_2 rfl rfl ?_
  refine g_mmax hx 3 mw_J8_194 (Nat.le_of_ble_eq_true rfl) ⟨Nat.le_of_ble_eq_true rfl, Nat.le_of_ble_eq_true rfl⟩ ⟨Nat.zero_le _, Nat.zero_le _⟩ dJ8_newLength_cabcc_3 ?_
  refine g_nmi (x := nI (max m q)) (j_max (by omega) (by omega)).symm ?_
  refine g_iadd hx 6 dJ8_newLength_cabcc_6 ?_
  refine g_nmi (x := nI (a + max m q)) (nI_add _ _).symm ?_
  refine g_istore_n hx 7 (i := 3) [(3, .int (nI (a + max m q))), (0, .int (nI a)), (1, .int (nI m)), (2, .int (nI q))] dJ8_newLength_cabcc_7 rfl (by decide) rfl ?_
  refine g_iconst hx 8 (0) dJ8_newLength_cabcc_8 rfl ?_
  refine g_iload_n hx 9 (i := 3) 0 dJ8_newLength_cabcc_9 rfl rfl ?_
  refine g_icmp_ge hx 10 21 dJ8_newLength_cabcc_10 (by decide) (fun hc => absurd hc (nI_nle (by omega) (by omega))) (fun _ => ?_)
  refine g_iload_n hx 13 (i := 3) 0 dJ8_newLength_cabcc_13 rfl rfl ?_
  refine g_ldci hx 14 dJ8_newLength_cabcc_14 cn_J8_200 ?_
  refine g_icmp_gt hx 16 21 dJ8_newLength_cabcc_16 (by decide) (fun hc => absurd hc (show ¬ nI 2147483639 < nI (a + max m q) from nI_nlt (by omega) (by decide))) (fun _ => ?_)
  refine g_iload_n hx 19 (i := 3) 0 dJ8_newLength_cabcc_19 rfl rfl ?_
  exact g_iret hx hR 20 dJ8_newLength_cabcc_20 ⟨rfl, rfl⟩
set_option maxRecDepth 100000 in
set_option maxHeartbeats 4000000 in
theorem c_J5_isLatin1 (l : Launch) (g : Gl) (hJ : KJ g) {σ : Hp} {b v cap n : Nat} {f : Nat → Int32} (hB : isB σ b v cap f n) : MG l g md_J5_isLatin1_aae02 [.ref b] σ (rs (some (.int 1)) σ) := by
  refine MG.intro (by decide +kernel) (Nat.le_of_ble_eq_true rfl) (fun X hx hR _ => ?_)
  refine g_ls [0] [(0, .ref b)] rfl ?_
  refine g_gets hx 0 (.int 1) hJ.1 fl_J5_18 dJ5_isLatin1_aae02_0 ?_
  refine g_if_eq hx 3 17 dJ5_isLatin1_aae02_3 (by decide) (fun hc => absurd hc (by decide)) (fun _ => ?_)
  refine g_aload_n hx 6 (i := 0) 0 dJ5_isLatin1_aae02_6 rfl rfl ?_
  refine g_get hx 7 (C := RJ4) (T := TJ4) (N := 4) 1 (.int 0) hB.1 rfl (by decide) rfl fl_J5_22 dJ5_isLatin1_aae02_7 ?_
  refine g_if_ne hx 10 17 dJ5_isLatin1_aae02_10 (by decide) (fun hc => absurd rfl hc) (fun _ => ?_)
  refine g_iconst hx 13 (1) dJ5_isLatin1_aae02_13 rfl ?_
  refine g_goto hx 14 18 dJ5_isLatin1_aae02_14 (by decide) ?_
  exact g_nret hx hR 18 rfl dJ5_isLatin1_aae02_18 ⟨rfl, rfl⟩
set_option maxRecDepth 100000 in
set_option maxHeartbeats 4000000 in
theorem c_newCapacity (l : Launch) (g : Gl) {σ : Hp} {b v cap n : Nat} {f : Nat → Int32} (hB : isB σ b v cap f n) {q : Nat} (hq : cap < q) (hq2 : q ≤ 450) : MG l g md_J5_newCapacity_0f7a4 [.ref b, .int (nI q)] σ (rs (some (.int (nI (cap + max (q - cap) (cap + 2))))) σ) := by
  have hcap := hB.2.2.2.2.2
  refine MG.intro (by decide +kernel) (Nat.le_of_ble_eq_true rfl) (fun X hx hR _ => ?_)
  refine g_ls [0, 1] [(0, .ref b), (1, .int (nI q))] rfl ?_
  refine g_aload_n hx 0 (i := 0) 0 dJ5_newCapacity_0f7a4_0 rfl rfl ?_
  refine g_get hx 1 (C := RJ4) (T := TJ4) (N := 4) 0 (.ref v) hB.1 rfl (by decide) rfl fl_J5_15 dJ5_newCapacity_0f7a4_1 ?_
  refine g_alenB hx 4 hB.2.1 dJ5_newCapacity_0f7a4_4 ?_
  refine g_istore_n hx 5 (i := 2) [(2, .int (nI cap)), (0, .ref b), (1, .int (nI q))] dJ5_newCapacity_0f7a4_5 rfl (by decide) rfl ?_
  refine g_iload_n hx 6 (i := 1) 2 dJ5_newCapacity_0f7a4_6 rfl rfl ?_
  refine g_aload_n hx 7 (i := 0) 1 dJ5_newCapacity_0f7a4_7 rfl rfl ?_
  refine g_get hx 8 (C := RJ4) (T := TJ4) (N := 4) 1 (.int 0) hB.1 rfl (by decide) rfl fl_J5_22 dJ5_newCapacity_0f7a4_8 ?_
  refine g_ishl hx 11 dJ5_newCapacity_0f7a4_11 ?_
  refine g_nmi (x := nI q) (sb_shl0 _).symm ?_
  refine g_istore_n hx 12 (i := 3) [(3, .int (nI q)), (2, .int (nI cap)), (0, .ref b), (1, .int (nI q))] dJ5_newCapacity_0f7a4_12 rfl (by decide) rfl ?_
  refine g_iload_n hx 13 (i := 3) 0 dJ5_newCapacity_0f7a4_13 rfl rfl ?_
  refine g_iload_n hx 14 (i := 2) 1 dJ5_newCapacity_0f7a4_14 rfl rfl ?_
  refine g_isub hx 15 dJ5_newCapacity_0f7a4_15 ?_
  refine g_nmi (x := nI (q - cap)) (pk_sub (by omega)).symm ?_
  refine g_istore hx 16 (i := 4) [(4, .int (nI (q - cap))), (3, .int (nI q)), (2, .int (nI cap)), (0, .ref b), (1, .int (nI q))] dJ5_newCapacity_0f7a4_16 (by decide) rfl ?_
  refine g_iload_n hx 18 (i := 2) 2 dJ5_newCapacity_0f7a4_18 rfl rfl ?_
  refine g_iload hx 19 (i := 4) 0 dJ5_newCapacity_0f7a4_19 rfl ?_
  refine g_iload_n hx 21 (i := 2) 2 dJ5_newCapacity_0f7a4_21 rfl rfl ?_
  refine g_iconst hx 22 (2) dJ5_newCapacity_0f7a4_22 rfl ?_
  refine g_aload_n hx 23 (i := 0) 3 dJ5_newCapacity_0f7a4_23 rfl rfl ?_
  refine g_get hx 24 (C := RJ4) (T := TJ4) (N := 4) 1 (.int 0) hB.1 rfl (by decide) rfl fl_J5_22 dJ5_newCapacity_0f7a4_24 ?_
  refine g_ishl hx 27 dJ5_newCapacity_0f7a4_27 ?_
  refine g_nmi (x := nI 2) (rfl) ?_
  refine g_iadd hx 28 dJ5_newCapacity_0f7a4_28 ?_
  refine g_nmi (x := nI (cap + 2)) (nI_add _ _).symm ?_
  refine g_callSr hx (c_newLength l g σ (a := cap) (m := q - cap) (q := cap + 2) (by omega) (by omega) (by omega) (by omega)) lk_J5_114 ar_J8_newLength (As := [.int (nI cap), .int (nI (q - cap)), .int (nI (cap + 2))]) (rest := []) rfl (Nat.le_of_ble_eq_true rfl) ⟨Nat.le_of_ble_eq_true rfl, Nat.le_of_ble_eq_true rfl⟩ ⟨rfl, rfl⟩ ⟨Nat.zero_le _, Nat.zero_le _⟩ dJ5_newCapacity_0f7a4_29 ?_
  refine g_istore hx 32 (i := 5) [(5, .int (nI (cap + max (q - cap) (cap + 2)))), (4, .int (nI (q - cap))), (3, .int (nI q)), (2, .int (nI cap)), (0, .ref b), (1, .int (nI q))] dJ5_newCapacity_0f7a4_32 (by decide) rfl ?_
  refine g_iload hx 34 (i := 5) 0 dJ5_newCapacity_0f7a4_34 rfl ?_
  refine g_ldci hx 36 dJ5_newCapacity_0f7a4_36 cn_J5_39 ?_
  refine g_icmp_ne hx 38 51 dJ5_newCapacity_0f7a4_38 (by decide) (fun _ => ?_) (fun hc => absurd hc (fun z => by have := (nI_eq (by omega) (by decide)).mp (show nI (cap + max (q - cap) (cap + 2)) = nI 2147483647 from z); omega))
  refine g_iload hx 51 (i := 5) 0 dJ5_newCapacity_0f7a4_51 rfl ?_
  refine g_aload_n hx 53 (i := 0) 4 dJ5_newCapacity_0f7a4_53 rfl rfl ?_
  refine g_get hx 54 (C := RJ4) (T := TJ4) (N := 4) 1 (.int 0) hB.1 rfl (by decide) rfl fl_J5_22 dJ5_newCapacity_0f7a4_54 ?_
  refine g_ishr hx 57 dJ5_newCapacity_0f7a4_57 ?_
  refine g_nmi (x := nI (cap + max (q - cap) (cap + 2))) (sb_shr0 _).symm ?_
  exact g_iret hx hR 58 dJ5_newCapacity_0f7a4_58 ⟨rfl, rfl⟩
set_option maxRecDepth 100000 in
set_option maxHeartbeats 4000000 in
theorem c_copyOf (l : Launch) (g : Gl) {σ : Hp} {v m q : Nat} {f : Nat → Int32} (hv : σ.2 v = some (eB m f)) (hl : v < σ.1) (hm : m < q) (hq : q ≤ 902) (hf : fitB f) : MG l g md_J7_copyOf_9075b [.ref v, .int (nI q)] σ (rs (some (.ref σ.1)) (hpush σ (eB q (va_cpy f (fun _ => 0) 0 0 m)))) := by
  refine MG.intro (by decide +kernel) (Nat.le_of_ble_eq_true rfl) (fun X hx hR _ => ?_)
  refine g_ls [0, 1] [(0, .ref v), (1, .int (nI q))] rfl ?_
  refine g_iload_n hx 0 (i := 1) 1 dJ7_copyOf_9075b_0 rfl rfl ?_
  refine g_aload_n hx 1 (i := 0) 0 dJ7_copyOf_9075b_1 rfl rfl ?_
  refine g_alenB hx 2 hv dJ7_copyOf_9075b_2 ?_
  refine g_icmp_ne hx 3 14 dJ7_copyOf_9075b_3 (by decide) (fun _ => ?_) (fun hc => absurd hc (fun z => by have := (nI_eq (by omega) (by omega)).mp z; omega))
  refine g_iload_n hx 14 (i := 1) 1 dJ7_copyOf_9075b_14 rfl rfl ?_
  refine g_newB hx 15 q arc_byte (nI_pos (by omega)) (nI_clamp (by omega)) (by show q * 1 ≤ _; omega) ⟨Nat.le_of_ble_eq_true rfl, by show 0 + q ≤ 902; omega⟩ dJ7_copyOf_9075b_15 ?_
  refine g_astore_n hx 17 (i := 2) [(2, .ref σ.1), (0, .ref v), (1, .int (nI q))] dJ7_copyOf_9075b_17 rfl (by decide) rfl ?_
  refine g_aload_n hx 18 (i := 0) 1 dJ7_copyOf_9075b_18 rfl rfl ?_
  refine g_iconst hx 19 (0) dJ7_copyOf_9075b_19 rfl ?_
  refine g_aload_n hx 20 (i := 2) 0 dJ7_copyOf_9075b_20 rfl rfl ?_
  refine g_iconst hx 21 (0) dJ7_copyOf_9075b_21 rfl ?_
  refine g_aload_n hx 22 (i := 0) 1 dJ7_copyOf_9075b_22 rfl rfl ?_
  refine g_alenB hx 23 ((hpush_ne σ _ (by omega)).trans hv) dJ7_copyOf_9075b_23 ?_
  refine g_iload_n hx 24 (i := 1) 2 dJ7_copyOf_9075b_24 rfl rfl ?_
  refine g_mmin hx 25 mw_J7_304 (Nat.le_of_ble_eq_true rfl) ⟨Nat.le_of_ble_eq_true rfl, Nat.le_of_ble_eq_true rfl⟩ ⟨Nat.le_of_ble_eq_true rfl, by show 0 + q ≤ 902; omega⟩ dJ7_copyOf_9075b_25 ?_
  refine g_nmi (x := nI m) (if_neg (nI_nlt (by omega) (by omega))).symm ?_
  refine g_copyB hx 28 (n0 := m) (f := f) ((hpush_ne σ _ (by omega)).trans hv) (hpush_self σ _) ac_J7_150 (by decide) (by decide) (nI_pos (by omega)) (by rw [tn0, nI_clamp (by omega)]; omega) (by rw [tn0, nI_clamp (by omega)]; omega) hf (Nat.le_of_ble_eq_true rfl) ⟨Nat.le_of_ble_eq_true rfl, Nat.le_of_ble_eq_true rfl⟩ dJ7_copyOf_9075b_28 ?_
  rw [hset_hpush, tn0, nI_clamp (show m < 2 ^ 31 by omega)]
  refine g_aload_n hx 31 (i := 2) 0 dJ7_copyOf_9075b_31 rfl rfl ?_
  refine G.widen (k' := 1) (n' := 902) (Nat.le_of_ble_eq_true rfl) (by omega) ?_
  exact g_bret hx hR 32 dJ7_copyOf_9075b_32 ⟨rfl, rfl⟩
set_option maxRecDepth 100000 in
set_option maxHeartbeats 4000000 in
theorem c_ensure (l : Launch) (g : Gl) (hK : KB g) {σ : Hp} {b v cap n : Nat} {f : Nat → Int32} (hB : isB σ b v cap f n) (hf : fitB f) {q : Nat} (hq : q ≤ 450) : MG l g md_J5_ensureCapacityInternal_d00df [.ref b, .int (nI q)] σ (fun r σ' => r = none ∧ ∃ v' cap' f', isB σ' b v' cap' f' n ∧ fitB f' ∧ (∀ j, j < n → f' j = f j) ∧ q ≤ cap' ∧ Kept σ σ' b) := by
  have hb1 := hB.2.2.1
  have hb2 := hB.2.2.2.1
  have hb3 := hB.2.2.2.2.1
  have hcap := hB.2.2.2.2.2
  refine MG.intro (by decide +kernel) (Nat.le_of_ble_eq_true rfl) (fun X hx hR _ => ?_)
  refine g_ls [0, 1] [(0, .ref b), (1, .int (nI q))] rfl ?_
  refine g_aload_n hx 0 (i := 0) 0 dJ5_ensureCapacityInternal_d00df_0 rfl rfl ?_
  refine g_get hx 1 (C := RJ4) (T := TJ4) (N := 4) 0 (.ref v) hB.1 rfl (by decide) rfl fl_J5_15 dJ5_ensureCapacityInternal_d00df_1 ?_
  refine g_alenB hx 4 hB.2.1 dJ5_ensureCapacityInternal_d00df_4 ?_
  refine g_aload_n hx 5 (i := 0) 0 dJ5_ensureCapacityInternal_d00df_5 rfl rfl ?_
  refine g_get hx 6 (C := RJ4) (T := TJ4) (N := 4) 1 (.int 0) hB.1 rfl (by decide) rfl fl_J5_22 dJ5_ensureCapacityInternal_d00df_6 ?_
  refine g_ishr hx 9 dJ5_ensureCapacityInternal_d00df_9 ?_
  refine g_nmi (x := nI cap) (sb_shr0 _).symm ?_
  refine g_istore_n hx 10 (i := 2) [(2, .int (nI cap)), (0, .ref b), (1, .int (nI q))] dJ5_ensureCapacityInternal_d00df_10 rfl (by decide) rfl ?_
  refine g_iload_n hx 11 (i := 1) 2 dJ5_ensureCapacityInternal_d00df_11 rfl rfl ?_
  refine g_iload_n hx 12 (i := 2) 0 dJ5_ensureCapacityInternal_d00df_12 rfl rfl ?_
  refine g_isub hx 13 dJ5_ensureCapacityInternal_d00df_13 ?_
  by_cases h : q ≤ cap
  · refine g_if_le hx 14 38 dJ5_ensureCapacityInternal_d00df_14 (by decide) (fun _ => ?_) (fun hc => absurd (j_sub_le h (by omega)) hc)
    refine G.widen (k' := 1) (n' := 902) (Nat.zero_le _) (Nat.zero_le _) ?_
    exact g_vret hx hR 38 dJ5_ensureCapacityInternal_d00df_38 ⟨rfl, v, cap, f, hB, hf, fun _ _ => rfl, h, Kept.rf σ b⟩
  · refine g_if_le hx 14 38 dJ5_ensureCapacityInternal_d00df_14 (by decide) (fun hc => absurd hc (j_sub_nle (by omega) (by omega))) (fun _ => ?_)
    refine g_aload_n hx 17 (i := 0) 1 dJ5_ensureCapacityInternal_d00df_17 rfl rfl ?_
    refine g_aload_n hx 18 (i := 0) 1 dJ5_ensureCapacityInternal_d00df_18 rfl rfl ?_
    refine g_get hx 19 (C := RJ4) (T := TJ4) (N := 4) 0 (.ref v) hB.1 rfl (by decide) rfl fl_J5_15 dJ5_ensureCapacityInternal_d00df_19 ?_
    refine g_aload_n hx 22 (i := 0) 1 dJ5_ensureCapacityInternal_d00df_22 rfl rfl ?_
    refine g_iload_n hx 23 (i := 1) 2 dJ5_ensureCapacityInternal_d00df_23 rfl rfl ?_
    refine g_callP hx (c_newCapacity l g hB (by omega) hq) lp_J5_104 hK (List.mem_of_getElem? (i := 1) rfl) rfl (show (parseMethodDescriptor yJ5_newCapacity_0f7a4.desc).map (fun d => d.parameters.length) = some 1 by decide +kernel) hB.1 (As := [.int (nI q)]) (rest := [.ref v, .ref b]) rfl (Nat.le_of_ble_eq_true rfl) ⟨Nat.le_of_ble_eq_true rfl, Nat.le_of_ble_eq_true rfl⟩ ⟨Nat.le_of_ble_eq_true rfl, Nat.le_of_ble_eq_true rfl⟩ dJ5_ensureCapacityInternal_d00df_24 (fun r σ1 hp => ?_)
    obtain ⟨rfl, rfl⟩ := hp
    show G X σ1 0 0 27 [(2, .int (nI cap)), (0, .ref b), (1, .int (nI q))] [.int (nI (cap + max (q - cap) (cap + 2))), .ref v, .ref b]
    generalize hQ : cap + max (q - cap) (cap + 2) = Q
    have hQ1 : cap < Q ∧ q ≤ Q ∧ Q ≤ 902 := ⟨by omega, by omega, by omega⟩
    refine g_aload_n hx 27 (i := 0) 1 dJ5_ensureCapacityInternal_d00df_27 rfl rfl ?_
    refine g_get hx 28 (C := RJ4) (T := TJ4) (N := 4) 1 (.int 0) hB.1 rfl (by decide) rfl fl_J5_22 dJ5_ensureCapacityInternal_d00df_28 ?_
    refine g_ishl hx 31 dJ5_ensureCapacityInternal_d00df_31 ?_
    refine g_nmi (x := nI Q) (sb_shl0 _).symm ?_
    refine g_callS hx (c_copyOf l g hB.2.1 hB.2.2.2.1 hQ1.1 hQ1.2.2 hf) lk_J5_108 ar_J7_copyOf (As := [.ref v, .int (nI Q)]) (rest := [.ref b]) rfl (Nat.le_of_ble_eq_true rfl) ⟨Nat.le_of_ble_eq_true rfl, Nat.le_of_ble_eq_true rfl⟩ ⟨Nat.le_of_ble_eq_true rfl, Nat.le_of_ble_eq_true rfl⟩ dJ5_ensureCapacityInternal_d00df_32 (fun r σ2 hp => ?_)
    obtain ⟨rfl, rfl⟩ := hp
    show G X (hpush σ1 (eB Q (va_cpy f (fun _ => 0) 0 0 cap))) 1 902 35 [(2, .int (nI cap)), (0, .ref b), (1, .int (nI q))] [.ref σ1.1, .ref b]
    refine g_put hx 35 (C := RJ4) (T := TJ4) (N := 4) 0 (.array .byte) _ ((hpush_ne σ1 _ (by have := hB.2.2; omega)).trans hB.1) rfl (by decide) fl_J5_15 rfl rfl rfl rfl (Nat.le_of_ble_eq_true rfl) rfl dJ5_ensureCapacityInternal_d00df_35 ?_
    refine g_vret hx hR 38 dJ5_ensureCapacityInternal_d00df_38 ⟨rfl, σ1.1, Q, va_cpy f (fun _ => 0) 0 0 cap, ⟨hset_self _ _ _, (hset_ne _ _ (by omega)).trans (hpush_self _ _), by omega, Nat.lt_succ_self _, by omega, hQ1.2.2⟩, fit_cpy hf fit0 _ _ _, fun j hj => ?_, hQ1.2.1, Kept.hset (Kept.hpush (Kept.rf _ _) (by omega) _) (Nat.le_refl _) _⟩
    unfold va_cpy
    rw [if_pos ⟨Nat.zero_le _, by omega⟩, Nat.zero_add, Nat.sub_zero]
