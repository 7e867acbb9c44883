/-! the law's text and its beginning -/
theorem and31 (v : Int32) : ∃ j, j < 2147483648 ∧ v &&& 2147483647 = nI j := by
  refine ⟨(v &&& 2147483647).toBitVec.toNat, ?_, ?_⟩
  · rw [Int32.toBitVec_and, BitVec.toNat_and]
    exact Nat.lt_of_le_of_lt Nat.and_le_right (by decide)
  · apply Int32.toBitVec_inj.mp
    unfold nI
    simp
def mostN (v : Int32) (m : Nat) : Nat := (v &&& 2147483647).toNatClampNeg % m
theorem most_lt (v : Int32) {m : Nat} (h : 0 < m) : mostN v m < m := Nat.mod_lt _ h
theorem most_eq (v : Int32) {m : Nat} (h0 : 0 < m) (hm : m < 100000) : Lw_most v (nI m) = some (nI (mostN v m)) := by
  obtain ⟨j, hj, e⟩ := and31 v
  unfold Lw_most mostN
  rw [if_pos (nI_ne0 h0 (by omega)), e, nI_clamp (by omega), pk_div (by omega) h0 (by omega), show nI (j / m) * nI m = nI (j / m * m) from (Int32.ofNat_mul _ _).symm, pk_sub (Nat.div_mul_le_self j m)]
  have h := Nat.div_add_mod j m
  rw [Nat.mul_comm] at h
  rw [show j - j / m * m = j % m by omega]
def tx1 (v : Int32) : Nat := 1 + mostN v 5
def tx2 (v : Int32) : Nat := 1 + mostN (v >>> (1 &&& 31)) 3
def tx3 (v : Int32) : Nat := 1 + mostN (v >>> (2 &&& 31)) 4
def tx4 (v : Int32) : Nat := 1 + mostN (v >>> (3 &&& 31)) 3
def txn (v : Int32) : Nat := 1 + mostN (v >>> (4 &&& 31)) 14
def txo (v : Int32) : Int32 := if mostN (v >>> (5 &&& 31)) 2 = 0 then 1 else 0
def txu (L : Nat) (xs : Nat → Int32) (k : Nat) : Int32 := Lw_cell L xs (1 + k % 9) >>> ((nI k / 9 * 2) &&& 31)
def txm (o u : Int32) (k : Nat) : Nat := (if o = 0 then 50 * (k * 5 % 17) else 50 * k) + mostN u 50
def txe (u : Int32) : Bool := mostN (u >>> (2 &&& 31)) 6 == 0
def txH (v : Int32) : List Int32 := sx 3 ++ dg (tx1 v) ++ [32] ++ dg (tx2 v) ++ [32] ++ dg (tx3 v) ++ [32] ++ dg (tx4 v) ++ [59]
def txT (L : Nat) (xs : Nat → Int32) (v : Int32) : Nat → List Int32
  | 0 => txH v
  | k + 1 => txT L xs v k ++ sx 4 ++ dg (txm (txo v) (txu L xs k) k) ++ (if txe (txu L xs k) then sx 5 else sx 6)
theorem dg_len (m : Nat) : (dg m).length ≤ 3 := by
  unfold dg
  split
  · exact Nat.le_of_ble_eq_true rfl
  · split <;> exact Nat.le_of_ble_eq_true rfl
theorem sx_len : (sx 3).length = 8 ∧ (sx 4).length = 7 ∧ (sx 5).length = 9 ∧ (sx 6).length = 1 := ⟨rfl, rfl, rfl, rfl⟩
theorem txH_len (v : Int32) : (txH v).length ≤ 24 := by
  have h1 := dg_len (tx1 v); have h2 := dg_len (tx2 v); have h3 := dg_len (tx3 v); have h4 := dg_len (tx4 v); have h5 := sx_len.1
  unfold txH
  simp only [List.length_append, List.length_cons, List.length_nil]
  omega
theorem txT_len (L : Nat) (xs : Nat → Int32) (v : Int32) (k : Nat) : (txT L xs v k).length ≤ 24 + 19 * k := by
  induction k with
  | zero => exact txH_len v
  | succ k ih =>
    have h1 := dg_len (txm (txo v) (txu L xs k) k); have h2 := sx_len
    show (txT L xs v k ++ sx 4 ++ dg (txm (txo v) (txu L xs k) k) ++ (if txe (txu L xs k) then sx 5 else sx 6)).length ≤ _
    rw [List.length_append, List.length_append, List.length_append]
    split <;> omega
theorem fit_list {cs : List Int32} (h : ∀ c ∈ cs, fits .byte (.int c) = true) : fitB (fun j => cs.getD j 0) := fun j => by
  show fits .byte (.int (cs.getD j 0)) = true
  rw [List.getD_eq_getElem?_getD]
  cases hj : cs[j]? with
  | none => rfl
  | some c => exact h c (List.mem_of_getElem? hj)
theorem fit_sx (i : Nat) (hi : i < 7) : fitB (fun j => (sx i).getD j 0) := fit_list (by
  rcases (show i = 0 ∨ i = 1 ∨ i = 2 ∨ i = 3 ∨ i = 4 ∨ i = 5 ∨ i = 6 by omega) with rfl | rfl | rfl | rfl | rfl | rfl | rfl <;> decide)
theorem tj_9 : ∀ k, k < 14 → nI (1 + k % 9) = 1 + (nI k - nI k / 9 * 9) := by decide +kernel
theorem tj_17 : ∀ k, k < 14 → nI k * 5 - nI k * 5 / 17 * 17 = nI (k * 5 % 17) := by decide +kernel
theorem dg_255 (m : Nat) (hm : m < 1000) : ∀ c ∈ dg m, c &&& 255 = c := (by decide +kernel : ∀ m, m < 1000 → ∀ c ∈ dg m, c &&& 255 = c) m hm
theorem txm_lt {o u : Int32} {k : Nat} (hk : k < 14) : txm o u k < 1000 := by
  have h := most_lt u (show 0 < 50 by omega)
  unfold txm
  split <;> omega
theorem txH_255 (v : Int32) : ∀ c ∈ txH v, c &&& 255 = c := by
  intro c hc
  unfold txH at hc
  have e1 := most_lt v (show 0 < 5 by omega); have e2 := most_lt (v >>> (1 &&& 31)) (show 0 < 3 by omega); have e3 := most_lt (v >>> (2 &&& 31)) (show 0 < 4 by omega); have e4 := most_lt (v >>> (3 &&& 31)) (show 0 < 3 by omega)
  have d1 := dg_255 (tx1 v) (by unfold tx1; omega); have d2 := dg_255 (tx2 v) (by unfold tx2; omega); have d3 := dg_255 (tx3 v) (by unfold tx3; omega); have d4 := dg_255 (tx4 v) (by unfold tx4; omega)
  simp only [List.mem_append, List.mem_singleton] at hc
  rcases hc with (((((((hc | hc) | hc) | hc) | hc) | hc) | hc) | hc) | hc
  · exact (sx_ok 3 (by omega)).1 c hc
  · exact d1 c hc
  · rw [hc]; rfl
  · exact d2 c hc
  · rw [hc]; rfl
  · exact d3 c hc
  · rw [hc]; rfl
  · exact d4 c hc
  · rw [hc]; rfl
theorem txT_255 (L : Nat) (xs : Nat → Int32) (v : Int32) (k : Nat) (hk : k ≤ 14) : ∀ c ∈ txT L xs v k, c &&& 255 = c := by
  induction k with
  | zero => exact txH_255 v
  | succ k ih =>
    intro c hc
    have hc : c ∈ txT L xs v k ++ sx 4 ++ dg (txm (txo v) (txu L xs k) k) ++ (if txe (txu L xs k) then sx 5 else sx 6) := hc
    simp only [List.mem_append] at hc
    rcases hc with ((hc | hc) | hc) | hc
    · exact ih (by omega) c hc
    · exact (sx_ok 4 (by omega)).1 c hc
    · exact dg_255 _ (txm_lt (by omega)) c hc
    · split at hc
      · exact (sx_ok 5 (by omega)).1 c hc
      · exact (sx_ok 6 (by omega)).1 c hc
/-- the law's run, as it must be -/
def LawOK (L : Nat) (xs : Nat → Int32) : Prop := ∃ W0 : WM, SA_init = some W0 ∧ ∃ S1 : LwS, Lw_say (txT L xs (Lw_cell L xs 0) (txn (Lw_cell L xs 0))) (W0, fun _ => 0) = some S1 ∧ ∃ q : Int32 × LwS, Lw_end S1 = some q ∧ ∃ q2 : Int32 × WM, SA_load q.2.1 q.1 = some q2 ∧ q2.1 = nI (txn (Lw_cell L xs 0)) ∧ ∃ Ws : Nat → WM, Ws 0 = q2.2 ∧ (∀ j, j < 36 → L_step j (Lw_u L xs j) (Ws j) (Ws (j + 1))) ∧ L_fin L xs (Ws 36)
theorem kl_161 : LkV RL 161 md_J4_append_bf812 := lk_of (by decide +kernel)
theorem ka_J4_append_bf812 : Arity md_J4_append_bf812 1 := ⟨by decide +kernel, by decide +kernel, by decide +kernel⟩
theorem kl_101 : LkS RL 101 md_Lw_most := lk_of (by decide +kernel)
theorem ka_most : Arity md_Lw_most 2 := ⟨by decide +kernel, by decide +kernel, by decide +kernel⟩
theorem kl_170 : LkV RL 170 md_J4_append_15ec4 := lk_of (by decide +kernel)
theorem ka_J4_append_15ec4 : Arity md_J4_append_15ec4 1 := ⟨by decide +kernel, by decide +kernel, by decide +kernel⟩
theorem kl_177 : LkV RL 177 md_J4_toString_0e30d := lk_of (by decide +kernel)
theorem ka_ts : Arity md_J4_toString_0e30d 0 := ⟨by decide +kernel, by decide +kernel, by decide +kernel⟩
theorem kl_181 : LkS RL 181 md_Lw_say := lk_of (by decide +kernel)
theorem ka_say : Arity md_Lw_say 3 := ⟨by decide +kernel, by decide +kernel, by decide +kernel⟩
theorem kl_185 : LkS RL 185 md_Lw_end := lk_of (by decide +kernel)
theorem ka_end : Arity md_Lw_end 2 := ⟨by decide +kernel, by decide +kernel, by decide +kernel⟩
theorem kl_189 : LkV RL 189 md_SA_load := lk_of (by decide +kernel)
theorem ka_load : Arity md_SA_load 1 := ⟨by decide +kernel, by decide +kernel, by decide +kernel⟩
set_option maxRecDepth 100000 in
set_option maxHeartbeats 4000000 in
theorem w_202 {X : Cx} {l : Launch} {g : Gl} {ad ae : Nat → Nat} (hx : Ok X l g RL cL_law 12 room_1) (hC : KAll g ad ae) {sb B wa b nf j : Nat} {o u : Int32} {β σ : Hp} {t : List Int32} (hK : KB g) (hb : SB σ b t) (hkt : Kept β σ b) {k n : Nat} {m : Nat} (hm : m < 1000) (ht : t.length ≤ 300) (hk : k + 2 ≤ 600086) (hn : n + 1804 ≤ 7301442) (next : ∀ (σ' : Hp) (k' n' : Nat), SB σ' b (t ++ dg m ++ (if txe u then sx 5 else sx 6)) → Kept β σ' b → k' ≤ k + 2 → n' ≤ n + 1804 → G X σ' k' n' 128 [(0, .ref sb), (1, .ref B), (2, .ref wa), (4, .ref b), (5, .int (nI nf)), (6, .int o), (7, .int (nI (j + 1)))] []) : G X σ k n 202 [(0, .ref sb), (1, .ref B), (2, .ref wa), (4, .ref b), (5, .int (nI nf)), (6, .int o), (7, .int (nI j)), (8, .int u)] [.int (nI m), .ref b] := by
  refine g_callV hx (c_J4_appendI l g hK hb hm (by have := dg_len m; omega)) kl_161 ka_J4_append_bf812 hb.choose_spec.choose_spec.choose_spec.1.1 (T := TJ4) (N := 4) rfl (As := [.int (nI m)]) (rest := []) rfl (Nat.le_of_ble_eq_true rfl) ⟨Nat.le_of_ble_eq_true rfl, Nat.le_of_ble_eq_true rfl⟩ ⟨by show _ + 1 ≤ 600086; omega, by show _ + 902 ≤ 7301442; omega⟩ dL_law_202 (fun r σ1 hp => ?_)
  clear hb
  obtain ⟨rfl, hb, hk1⟩ := hp
  have hkt := Kept.trans hkt hk1
  clear hk1
  show G X σ1 (k + 1) (n + 902) 205 [(0, .ref sb), (1, .ref B), (2, .ref wa), (4, .ref b), (5, .int (nI nf)), (6, .int o), (7, .int (nI j)), (8, .int u)] [.ref b]
  refine g_iload hx 205 (i := 8) 7 dL_law_205 rfl ?_
  refine g_iconst hx 207 (2) dL_law_207 rfl ?_
  refine g_ishr hx 208 dL_law_208 ?_
  refine g_bipush hx 209 (6) dL_law_209 rfl ?_
  refine g_callSr hx (c_Lw_most l g _ (u >>> (2 &&& 31)) 6 (most_eq (u >>> (2 &&& 31)) (m := 6) (by omega) (by omega))) kl_101 ka_most (As := [.int (u >>> (2 &&& 31)), .int 6]) (rest := [.ref b]) rfl (Nat.le_of_ble_eq_true rfl) ⟨Nat.le_of_ble_eq_true rfl, Nat.le_of_ble_eq_true rfl⟩ ⟨rfl, rfl⟩ ⟨by show _ ≤ 600086; omega, by show _ ≤ 7301442; omega⟩ dL_law_211 ?_
  by_cases he : txe u = true
  · have he1 : mostN (u >>> (2 &&& 31)) 6 = 0 := beq_iff_eq.mp he
    refine g_if_ne hx 214 222 dL_law_214 (by decide) (fun hc => absurd (show nI (mostN (u >>> (2 &&& 31)) 6) = 0 by rw [he1]; rfl) hc) (fun _ => ?_)
    refine g_ldcS hx 217 (hC.1.2.2 _ (List.mem_of_getElem? (i := 2) rfl)) dL_law_217 ?_
    refine g_goto hx 219 224 dL_law_219 (by decide) ?_
    refine g_callV hx (c_J4_appendS l g hK hb (hC.1.2.1 5 (by decide)) (fit_sx 5 (by decide)) (by have := dg_len m; have := sx_len; rw [List.length_append]; omega)) kl_170 ka_J4_append_15ec4 hb.choose_spec.choose_spec.choose_spec.1.1 (T := TJ4) (N := 4) rfl (As := [.ref (ad 5)]) (rest := []) rfl (Nat.le_of_ble_eq_true rfl) ⟨Nat.le_of_ble_eq_true rfl, Nat.le_of_ble_eq_true rfl⟩ ⟨by show _ + 1 ≤ 600086; omega, by show _ + 902 ≤ 7301442; omega⟩ dL_law_224 (fun r σ1 hp => ?_)
    clear hb
    obtain ⟨rfl, hb, hk1⟩ := hp
    have hkt := Kept.trans hkt hk1
    clear hk1
    show G X σ1 (k + 1 + 1) (n + 902 + 902) 227 [(0, .ref sb), (1, .ref B), (2, .ref wa), (4, .ref b), (5, .int (nI nf)), (6, .int o), (7, .int (nI j)), (8, .int u)] [.ref b]
    refine g_pop hx 227 dL_law_227 rfl ?_
    refine g_iinc hx 228 (i := 7) 6 (nI (j + 1)) [(7, .int (nI (j + 1))), (0, .ref sb), (1, .ref B), (2, .ref wa), (4, .ref b), (5, .int (nI nf)), (6, .int o), (8, .int u)] dL_law_228 rfl (nI_1 j) (by decide) rfl ?_
    refine g_goto hx 231 128 dL_law_231 (by decide) ?_
    refine g_ls [1, 2, 3, 4, 5, 6, 0] [(0, .ref sb), (1, .ref B), (2, .ref wa), (4, .ref b), (5, .int (nI nf)), (6, .int o), (7, .int (nI (j + 1)))] rfl ?_
    exact next _ _ _ (by rw [if_pos he]; exact hb) hkt (by omega) (by omega)
  · have he1 : ¬ mostN (u >>> (2 &&& 31)) 6 = 0 := fun h => he (beq_iff_eq.mpr h)
    refine g_if_ne hx 214 222 dL_law_214 (by decide) (fun _ => ?_) (fun hc => absurd (fun z => he1 ((nI_eq (by have := most_lt (u >>> (2 &&& 31)) (show 0 < 6 by omega); omega) (by decide)).mp (show nI (mostN (u >>> (2 &&& 31)) 6) = nI 0 from z))) (fun hq => hq hc))
    refine g_ldcS hx 222 (hC.1.2.2 _ (List.mem_of_getElem? (i := 3) rfl)) dL_law_222 ?_
    refine g_callV hx (c_J4_appendS l g hK hb (hC.1.2.1 6 (by decide)) (fit_sx 6 (by decide)) (by have := dg_len m; have := sx_len; rw [List.length_append]; omega)) kl_170 ka_J4_append_15ec4 hb.choose_spec.choose_spec.choose_spec.1.1 (T := TJ4) (N := 4) rfl (As := [.ref (ad 6)]) (rest := []) rfl (Nat.le_of_ble_eq_true rfl) ⟨Nat.le_of_ble_eq_true rfl, Nat.le_of_ble_eq_true rfl⟩ ⟨by show _ + 1 ≤ 600086; omega, by show _ + 902 ≤ 7301442; omega⟩ dL_law_224 (fun r σ1 hp => ?_)
    clear hb
    obtain ⟨rfl, hb, hk1⟩ := hp
    have hkt := Kept.trans hkt hk1
    clear hk1
    show G X σ1 (k + 1 + 1) (n + 902 + 902) 227 [(0, .ref sb), (1, .ref B), (2, .ref wa), (4, .ref b), (5, .int (nI nf)), (6, .int o), (7, .int (nI j)), (8, .int u)] [.ref b]
    refine g_pop hx 227 dL_law_227 rfl ?_
    refine g_iinc hx 228 (i := 7) 6 (nI (j + 1)) [(7, .int (nI (j + 1))), (0, .ref sb), (1, .ref B), (2, .ref wa), (4, .ref b), (5, .int (nI nf)), (6, .int o), (8, .int u)] dL_law_228 rfl (nI_1 j) (by decide) rfl ?_
    refine g_goto hx 231 128 dL_law_231 (by decide) ?_
    refine g_ls [1, 2, 3, 4, 5, 6, 0] [(0, .ref sb), (1, .ref B), (2, .ref wa), (4, .ref b), (5, .int (nI nf)), (6, .int o), (7, .int (nI (j + 1)))] rfl ?_
    exact next _ _ _ (by rw [if_neg he]; exact hb) hkt (by omega) (by omega)
set_option maxRecDepth 100000 in
set_option maxHeartbeats 4000000 in
theorem w_128 {X : Cx} {l : Launch} {g : Gl} {ad ae : Nat → Nat} (hx : Ok X l g RL cL_law 12 room_1) (hC : KAll g ad ae) {sb B wa b nf j : Nat} {o : Int32} {β σ : Hp} {t : List Int32} (hK : KB g) (hb : SB σ b t) (hkt : Kept β σ b) {k n : Nat} {L : Nat} {xs : Nat → Int32} (hs : Scr g sb L xs) (hL : L ≤ 260) (hj : j < nf) (hnf : nf ≤ 14) (ht : t.length ≤ 290) (hk : k + 3 ≤ 600086) (hn : n + 2706 ≤ 7301442) (next : ∀ (σ' : Hp) (k' n' : Nat), SB σ' b (t ++ sx 4 ++ dg (txm o (txu L xs j) j) ++ (if txe (txu L xs j) then sx 5 else sx 6)) → Kept β σ' b → k' ≤ k + 3 → n' ≤ n + 2706 → G X σ' k' n' 128 [(0, .ref sb), (1, .ref B), (2, .ref wa), (4, .ref b), (5, .int (nI nf)), (6, .int o), (7, .int (nI (j + 1)))] []) : G X σ k n 128 [(0, .ref sb), (1, .ref B), (2, .ref wa), (4, .ref b), (5, .int (nI nf)), (6, .int o), (7, .int (nI j))] [] := by
  refine g_iload hx 128 (i := 7) 6 dL_law_128 rfl ?_
  refine g_iload hx 130 (i := 5) 4 dL_law_130 rfl ?_
  refine g_icmp_ge hx 132 234 dL_law_132 (by decide) (fun hc => absurd hc (nI_ge (by omega) (by omega))) (fun _ => ?_)
  refine g_aload_n hx 135 (i := 0) 0 dL_law_135 rfl rfl ?_
  refine g_iconst hx 136 (1) dL_law_136 rfl ?_
  refine g_iload hx 137 (i := 7) 6 dL_law_137 rfl ?_
  refine g_bipush hx 139 (9) dL_law_139 rfl ?_
  refine g_irem hx 141 dL_law_141 (by decide) ?_
  refine g_iadd hx 142 dL_law_142 ?_
  refine g_nmi (x := nI (1 + j % 9)) (tj_9 j (by omega)) ?_
  refine g_callSr hx (c_Lw_cell l g _ hs (by omega) (1 + j % 9) (by omega)) kl_150 ka_cell (As := [.ref sb, .int (nI (1 + j % 9))]) (rest := []) rfl (Nat.le_of_ble_eq_true rfl) ⟨Nat.le_of_ble_eq_true rfl, Nat.le_of_ble_eq_true rfl⟩ ⟨rfl, rfl⟩ ⟨by show _ ≤ 600086; omega, by show _ ≤ 7301442; omega⟩ dL_law_143 ?_
  refine g_iload hx 146 (i := 7) 6 dL_law_146 rfl ?_
  refine g_bipush hx 148 (9) dL_law_148 rfl ?_
  refine g_idiv hx 150 dL_law_150 (by decide) ?_
  refine g_iconst hx 151 (2) dL_law_151 rfl ?_
  refine g_imul hx 152 dL_law_152 ?_
  refine g_ishr hx 153 dL_law_153 ?_
  refine g_nmi (x := txu L xs j) (show txu L xs j = _ from rfl) ?_
  refine g_istore hx 154 (i := 8) [(8, .int (txu L xs j)), (0, .ref sb), (1, .ref B), (2, .ref wa), (4, .ref b), (5, .int (nI nf)), (6, .int o), (7, .int (nI j))] dL_law_154 (by decide) rfl ?_
  refine g_aload hx 156 (i := 4) 4 dL_law_156 rfl ?_
  refine g_ldcS hx 158 (hC.1.2.2 _ (List.mem_of_getElem? (i := 1) rfl)) dL_law_158 ?_
  refine g_callV hx (c_J4_appendS l g hK hb (hC.1.2.1 4 (by decide)) (fit_sx 4 (by decide)) (by have := sx_len; omega)) kl_170 ka_J4_append_15ec4 hb.choose_spec.choose_spec.choose_spec.1.1 (T := TJ4) (N := 4) rfl (As := [.ref (ad 4)]) (rest := []) rfl (Nat.le_of_ble_eq_true rfl) ⟨Nat.le_of_ble_eq_true rfl, Nat.le_of_ble_eq_true rfl⟩ ⟨by show _ + 1 ≤ 600086; omega, by show _ + 902 ≤ 7301442; omega⟩ dL_law_160 (fun r σ1 hp => ?_)
  clear hb
  obtain ⟨rfl, hb, hk1⟩ := hp
  have hkt := Kept.trans hkt hk1
  clear hk1
  show G X σ1 (k + 1) (n + 902) 163 [(8, .int (txu L xs j)), (0, .ref sb), (1, .ref B), (2, .ref wa), (4, .ref b), (5, .int (nI nf)), (6, .int o), (7, .int (nI j))] [.ref b]
  refine g_iload hx 163 (i := 6) 6 dL_law_163 rfl ?_
  by_cases ho : o = 0
  · refine g_if_eq hx 165 184 dL_law_165 (by decide) (fun _ => ?_) (fun hc => absurd ho hc)
    refine g_bipush hx 184 (50) dL_law_184 rfl ?_
    refine g_iload hx 186 (i := 7) 7 dL_law_186 rfl ?_
    refine g_iconst hx 188 (5) dL_law_188 rfl ?_
    refine g_imul hx 189 dL_law_189 ?_
    refine g_bipush hx 190 (17) dL_law_190 rfl ?_
    refine g_irem hx 192 dL_law_192 (by decide) ?_
    refine g_nmi (x := nI (j * 5 % 17)) (tj_17 j (by omega)).symm ?_
    refine g_imul hx 193 dL_law_193 ?_
    refine g_iload hx 194 (i := 8) 0 dL_law_194 rfl ?_
    refine g_bipush hx 196 (50) dL_law_196 rfl ?_
    refine g_callSr hx (c_Lw_most l g _ (txu L xs j) 50 (most_eq (txu L xs j) (m := 50) (by omega) (by omega))) kl_101 ka_most (As := [.int (txu L xs j), .int 50]) (rest := [.int (50 * (nI (j * 5 % 17))), .ref b]) rfl (Nat.le_of_ble_eq_true rfl) ⟨Nat.le_of_ble_eq_true rfl, Nat.le_of_ble_eq_true rfl⟩ ⟨rfl, rfl⟩ ⟨by show _ ≤ 600086; omega, by show _ ≤ 7301442; omega⟩ dL_law_198 ?_
    refine g_iadd hx 201 dL_law_201 ?_
    refine g_nmi (x := nI (txm o (txu L xs j) j)) (by unfold txm; rw [if_pos ho, show (50 : Int32) * nI (j * 5 % 17) = nI (50 * (j * 5 % 17)) from (Int32.ofNat_mul 50 _).symm, nI_add]) ?_
    refine g_ls [1, 2, 3, 4, 5, 6, 7, 0] [(0, .ref sb), (1, .ref B), (2, .ref wa), (4, .ref b), (5, .int (nI nf)), (6, .int o), (7, .int (nI j)), (8, .int (txu L xs j))] rfl ?_
    exact w_202 hx hC hK hb hkt (txm_lt (by omega)) (by rw [List.length_append]; have := sx_len; omega) (by omega) (by omega) (fun σ' k' n' h1 h2 h3 h4 => next σ' k' n' h1 h2 (by omega) (by omega))
  · refine g_if_eq hx 165 184 dL_law_165 (by decide) (fun hc => absurd hc ho) (fun _ => ?_)
    refine g_bipush hx 168 (50) dL_law_168 rfl ?_
    refine g_iload hx 170 (i := 7) 7 dL_law_170 rfl ?_
    refine g_imul hx 172 dL_law_172 ?_
    refine g_iload hx 173 (i := 8) 0 dL_law_173 rfl ?_
    refine g_bipush hx 175 (50) dL_law_175 rfl ?_
    refine g_callSr hx (c_Lw_most l g _ (txu L xs j) 50 (most_eq (txu L xs j) (m := 50) (by omega) (by omega))) kl_101 ka_most (As := [.int (txu L xs j), .int 50]) (rest := [.int (50 * (nI j)), .ref b]) rfl (Nat.le_of_ble_eq_true rfl) ⟨Nat.le_of_ble_eq_true rfl, Nat.le_of_ble_eq_true rfl⟩ ⟨rfl, rfl⟩ ⟨by show _ ≤ 600086; omega, by show _ ≤ 7301442; omega⟩ dL_law_177 ?_
    refine g_iadd hx 180 dL_law_180 ?_
    refine g_nmi (x := nI (txm o (txu L xs j) j)) (by unfold txm; rw [if_neg ho, show (50 : Int32) * nI j = nI (50 * j) from (Int32.ofNat_mul 50 j).symm, nI_add]) ?_
    refine g_goto hx 181 202 dL_law_181 (by decide) ?_
    refine g_ls [1, 2, 3, 4, 5, 6, 7, 0] [(0, .ref sb), (1, .ref B), (2, .ref wa), (4, .ref b), (5, .int (nI nf)), (6, .int o), (7, .int (nI j)), (8, .int (txu L xs j))] rfl ?_
    exact w_202 hx hC hK hb hkt (txm_lt (by omega)) (by rw [List.length_append]; have := sx_len; omega) (by omega) (by omega) (fun σ' k' n' h1 h2 h3 h4 => next σ' k' n' h1 h2 (by omega) (by omega))
set_option maxRecDepth 100000 in
set_option maxHeartbeats 4000000 in
theorem w_fold {X : Cx} {l : Launch} {g : Gl} {ad ae : Nat → Nat} (hx : Ok X l g RL cL_law 12 room_1) (hC : KAll g ad ae) {sb B wa b nf : Nat} {v : Int32} {β : Hp} (hK : KB g) {L : Nat} {xs : Nat → Int32} (hs : Scr g sb L xs) (hL : L ≤ 260) (hnf : nf ≤ 14) (next : ∀ (σ' : Hp) (k' n' : Nat), SB σ' b (txT L xs v nf) → Kept β σ' b → k' ≤ 2000 → n' ≤ 100000 → G X σ' k' n' 234 [(0, .ref sb), (1, .ref B), (2, .ref wa), (4, .ref b), (5, .int (nI nf))] []) : ∀ (i j : Nat) (σ : Hp) (k n : Nat), j + i = nf → SB σ b (txT L xs v j) → Kept β σ b → k + 3 * i ≤ 2000 → n + 2706 * i ≤ 100000 → G X σ k n 128 [(0, .ref sb), (1, .ref B), (2, .ref wa), (4, .ref b), (5, .int (nI nf)), (6, .int (txo v)), (7, .int (nI j))] [] := by
  intro i
  induction i with
  | zero =>
    intro j σ k n hj hb hkt hk hn
    obtain rfl : j = nf := by omega
    refine g_iload hx 128 (i := 7) 6 dL_law_128 rfl ?_
    refine g_iload hx 130 (i := 5) 4 dL_law_130 rfl ?_
    refine g_icmp_ge hx 132 234 dL_law_132 (by decide) (fun _ => ?_) (fun hc => absurd (Int32.le_refl _) hc)
    refine g_ls [0, 1, 2, 3, 4] [(0, .ref sb), (1, .ref B), (2, .ref wa), (4, .ref b), (5, .int (nI j))] rfl ?_
    exact next σ k n hb hkt hk hn
  | succ i ih =>
    intro j σ k n hj hb hkt hk hn
    exact w_128 hx hC hK hb hkt hs hL (by omega) hnf (by have := txT_len L xs v j; omega) (by omega) (by omega) (fun σ' k' n' h1 h2 h3 h4 => ih (j + 1) σ' k' n' (by omega) h1 h2 (by omega) (by omega))
set_option maxRecDepth 100000 in
set_option maxHeartbeats 4000000 in
theorem w_234 {X : Cx} {l : Launch} {g : Gl} {ad ae : Nat → Nat} (hx : Ok X l g RL cL_law 12 room_1) (hC : KAll g ad ae) {sb B wa b nf : Nat} {β σ σ0 : Hp} {t : List Int32} (hK : KB g) (hb : SB σ b t) (hkt : Kept β σ b) {L : Nat} {xs : Nat → Int32} (hs : Scr g sb L xs) (hL : L ≤ 260) {k n : Nat} (hk : k ≤ 2000) (hn : n ≤ 100000) (ewa : wa = B + 437) (eb : b = B + 438) {W0 : WM} (hW : ∀ a, B ≤ a → a < B + 437 → β.2 a = (putW σ0 B ae W0).2 a) (hwz : β.2 wa = some (eI 6 (fun _ => 0))) (h255 : ∀ c ∈ t, c &&& 255 = c) (hlt : t.length ≤ 300) {S1 : LwS} (e1 : Lw_say t (W0, fun _ => 0) = some S1) {q : Int32 × LwS} (e2 : Lw_end S1 = some q) {q2 : Int32 × WM} (e3 : SA_load q.2.1 q.1 = some q2) (e4 : q2.1 = nI nf) {Ws : Nat → WM} (e5 : Ws 0 = q2.2) (hw : ∀ j, j < 36 → L_step j (Lw_u L xs j) (Ws j) (Ws (j + 1))) (hf : L_fin L xs (Ws 36)) (ret : ∀ (σ : Hp) (k n : Nat) (ls : List (Nat × Value)), k ≤ 600086 → n ≤ 7301442 → G X σ k n 541 ls [.int 1]) : G X σ k n 234 [(0, .ref sb), (1, .ref B), (2, .ref wa), (4, .ref b), (5, .int (nI nf))] [] := by
  refine g_aload_n hx 234 (i := 1) 1 dL_law_234 rfl rfl ?_
  refine g_aload_n hx 235 (i := 2) 2 dL_law_235 rfl rfl ?_
  refine g_aload hx 236 (i := 4) 3 dL_law_236 rfl ?_
  refine g_callV hx (c_toString l g hK hb) kl_177 ka_ts hb.choose_spec.choose_spec.choose_spec.1.1 (T := TJ4) (N := 4) rfl (As := []) (rest := [.ref wa, .ref B]) rfl (Nat.le_of_ble_eq_true rfl) ⟨Nat.le_of_ble_eq_true rfl, Nat.le_of_ble_eq_true rfl⟩ ⟨by show _ + 2 ≤ 600086; omega, by show _ + 906 ≤ 7301442; omega⟩ dL_law_238 (fun r σ1 hp => ?_)
  obtain ⟨rfl, ⟨w, f, ⟨hw1, hw2⟩, es, ew, hfit, hff⟩, hz, hkk⟩ := hp
  show G X σ1 (k + 2) (n + 906) 241 [(0, .ref sb), (1, .ref B), (2, .ref wa), (4, .ref b), (5, .int (nI nf))] [.ref σ.1, .ref wa, .ref B]
  have hbs : b < σ.1 := by
    obtain ⟨v, cap, f, hB, -⟩ := hb
    have := hB.2.2
    omega
  generalize hs0 : σ.1 = s at hw1 es hz hkk hbs ⊢
  refine G.sub (τ := putW (hset ((σ1.1, fun a => if a = s then some (eO 9 [.ref w, .int 0, .int 0, .int 0]) else if a = w then some (eB t.length f) else none) : Hp) wa (eI 6 (fun _ => 0))) B ae W0) rfl (fun a e ha => ?_) ?_
  · by_cases h1 : B ≤ a ∧ a < B + 437
    · rw [hkk a (by omega), hkt.2 a (by omega), hW a h1.1 h1.2]
      have e1 : (putW (hset ((σ1.1, fun a => if a = s then some (eO 9 [.ref w, .int 0, .int 0, .int 0]) else if a = w then some (eB t.length f) else none) : Hp) wa (eI 6 (fun _ => 0))) B ae W0).2 a = (putW σ0 B ae W0).2 a := (if_pos h1).trans (if_pos h1).symm
      exact e1.symm.trans ha
    · rw [pW_out _ B ae W0 (by omega)] at ha
      by_cases h2 : a = wa
      · subst h2
        rw [hset_self] at ha
        rw [hkk a (by omega), hkt.2 a (by omega), hwz]
        exact ha
      · rw [hset_ne _ _ h2] at ha
        have ha : (if a = s then some (eO 9 [.ref w, .int 0, .int 0, .int 0]) else if a = w then some (eB t.length f) else none) = some e := ha
        by_cases h3 : a = s
        · rw [if_pos h3] at ha; rw [h3, es]; exact ha
        · rw [if_neg h3] at ha
          by_cases h4 : a = w
          · rw [if_pos h4] at ha; rw [h4, ew]; exact ha
          · rw [if_neg h4] at ha; cases ha
  have hout : ∀ (S : LwS) (x : Nat), B + 438 ≤ x → (putW (hset ((σ1.1, fun a => if a = s then some (eO 9 [.ref w, .int 0, .int 0, .int 0]) else if a = w then some (eB t.length f) else none) : Hp) wa (eI 6 S.2)) B ae S.1).2 x = (if x = s then some (eO 9 [.ref w, .int 0, .int 0, .int 0]) else if x = w then some (eB t.length f) else none) := fun S x hx => (pW_out _ B ae _ (by omega)).trans (hset_ne _ _ (by omega))
  generalize hσc : ((σ1.1, fun a => if a = s then some (eO 9 [.ref w, .int 0, .int 0, .int 0]) else if a = w then some (eB t.length f) else none) : Hp) = σc at hout ⊢
  have hz3 : σc.1 = σ1.1 := by rw [← hσc]
  have hwo : wa < B ∨ B + 437 ≤ wa := by omega
  refine g_callSv hx (c_Lw_say l g hC hwo (fun S => (hout S s (by omega)).trans (if_pos rfl)) (fun S => (hout S w (by omega)).trans ((if_neg (by omega)).trans (if_pos rfl))) hff h255 (by omega) (W0, fun _ => 0) e1) kl_181 ka_say (As := [.ref B, .ref wa, .ref s]) (rest := []) rfl (Nat.le_of_ble_eq_true rfl) ⟨Nat.le_of_ble_eq_true rfl, Nat.le_of_ble_eq_true rfl⟩ ⟨rfl, rfl⟩ ⟨by show _ ≤ 600086; omega, by show _ ≤ 7301442; omega⟩ dL_law_241 ?_
  refine g_aload_n hx 244 (i := 1) 1 dL_law_244 rfl rfl ?_
  refine g_aload_n hx 245 (i := 1) 1 dL_law_245 rfl rfl ?_
  refine g_aload_n hx 246 (i := 2) 2 dL_law_246 rfl rfl ?_
  refine g_callSr hx (c_Lw_end l g hC hwo (σ := σc) S1 e2) kl_185 ka_end (As := [.ref B, .ref wa]) (rest := [.ref B]) rfl (Nat.le_of_ble_eq_true rfl) ⟨Nat.le_of_ble_eq_true rfl, Nat.le_of_ble_eq_true rfl⟩ ⟨rfl, rfl⟩ ⟨by show _ ≤ 600086; omega, by show _ ≤ 7301442; omega⟩ dL_law_247 ?_
  refine g_callVr hx (c_SA_load l g hC (hset σc wa (eI 6 q.2.2)) B q.2.1 q.1 e3) kl_189 ka_load (pW _ B ae _ 0 (by decide)) (T := TX10) (N := 11) rfl (As := [.int q.1]) (rest := []) rfl (Nat.le_of_ble_eq_true rfl) ⟨Nat.le_of_ble_eq_true rfl, Nat.le_of_ble_eq_true rfl⟩ ⟨rfl, rfl⟩ ⟨by show _ ≤ 600086; omega, by show _ ≤ 7301442; omega⟩ dL_law_250 ?_
  refine g_nmi (x := nI nf) e4.symm ?_
  refine g_iload hx 253 (i := 5) 4 dL_law_253 rfl ?_
  refine g_icmp_eq hx 255 260 dL_law_255 (by decide) (fun _ => ?_) (fun hc => absurd rfl hc)
  refine g_iconst hx 260 (0) dL_law_260 rfl ?_
  refine g_istore hx 261 (i := 7) [(7, .int 0), (0, .ref sb), (1, .ref B), (2, .ref wa), (4, .ref b), (5, .int (nI nf))] dL_law_261 (by decide) rfl ?_
  refine g_ls [1, 2, 0] [(0, .ref sb), (1, .ref B), (7, .int 0)] rfl ?_
  rw [← e5]
  exact w_main hx hC hs hL hw hf ret 36 0 _ _ _ (by omega) (by show B + 437 ≤ σc.1; omega) (by omega) (by omega)
