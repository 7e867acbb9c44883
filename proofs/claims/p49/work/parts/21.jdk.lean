/-! what lies below the world: constants; the JDK's own members over them -/
abbrev A0 (g : Gl) : Nat → Prop := fun q => g.1.size ≤ q
def StrAt (g : Gl) (a : Nat) (cs : List Int32) : Prop := ∃ v : Nat, ∀ U, g.2.2.2 U → va_O "java/lang/String" a (A0 g) U g.1 ∧ va_OF "java/lang/String" "coder" "B" (.int 0) a (A0 g) U g.1 ∧ va_OF "java/lang/String" "value" "[B" (.ref v) a (A0 g) U g.1 ∧ va_T .byte v cs.length (fun j => .int (cs.getD j 0)) (A0 g) U g.1
def KJ (g : Gl) : Prop := (∀ U, g.2.2.2 U → va_Z "java/lang/String" "COMPACT_STRINGS" "Z" (.int 1) (A0 g) U g.1) ∧ ∀ U, g.2.2.2 U → va_Zq "jdk/internal/util/Preconditions" "SIOOBE_FORMATTER" "Ljava/util/function/BiFunction;" (A0 g) U g.1
section GX
variable {X : Cx} {l : Launch} {g : Gl} {own : String} {cc : ByteArray} {nL : Nat} {R : Room} {σ : Hp} {k n : Nat} {ls : List (Nat × Value)} {st : List Value}
theorem base_kept {H0 H H1 : Heap} {locs : List Loc} (hS : va_S (fun q => H0.size ≤ q) H1 H locs) (hz : H0.size ≤ H1.size) (hb : ∀ q, q < H0.size → H[q]? = H0[q]?) : ∀ a : Nat, a < H0.size → ¬ H0.size ≤ a → H1[a]? = H0[a]? := fun a h1 h2 => (hS.2.1 a (Nat.lt_of_lt_of_le h1 hz) h2).symm.trans (hb a h1)
theorem g_getX (hx : Ok X l g own cc nL R) (pc : Nat) {o n' d' ref : String} {idx q : Nat} (v : Value) (hE : ∀ U, g.2.2.2 U → va_OF o n' d' v q (A0 g) U g.1) (hlk : Cond.fieldLink own idx o n' d' ∈ aw) (hd : decode cc pc = .ok (.getfield idx, 3)) (h : G X σ k n (pc + 3) ls (v :: st)) : G X σ k n pc ls (.ref q :: st) := by
  obtain ⟨p, l', e, R', s, m, args, below, meth, c, Q, g'⟩ := X
  obtain ⟨h1, h2, h3, h4, h5, h6, h7, h8, rfl, rfl, rfl⟩ := hx
  intro H locs la hP hS hL
  exact vk_getf h1 h2 ((hE s h8.1).kept (base_kept hS h7 hP.1.2)) hS h4 (h5 _ hlk) (fun _ h9 => h9) hd (h H locs la hP hS hL)
theorem g_gets (hx : Ok X l g own cc nL R) (pc : Nat) {C n' d' : String} {idx : Nat} (v : Value) (hZ : ∀ U, g.2.2.2 U → va_Z C n' d' v (A0 g) U g.1) (hlk : Cond.fieldLink own idx C n' d' ∈ aw) (hd : decode cc pc = .ok (.getstatic idx, 3)) (h : G X σ k n (pc + 3) ls (v :: st)) : G X σ k n pc ls st := by
  obtain ⟨p, l', e, R', s, m, args, below, meth, c, Q, g'⟩ := X
  obtain ⟨h1, h2, h3, h4, h5, h6, h7, h8, rfl, rfl, rfl⟩ := hx
  intro H locs la hP hS hL
  exact va_gets h1 h2 ((hZ s h8.1).kept (base_kept hS h7 hP.1.2)) hS h4 (h5 _ hlk) (fun _ h9 => h9) hd (h H locs la hP hS hL)
theorem g_getsq (hx : Ok X l g own cc nL R) (pc : Nat) {C n' d' : String} {idx : Nat} (hZ : ∀ U, g.2.2.2 U → va_Zq C n' d' (A0 g) U g.1) (hlk : Cond.fieldLink own idx C n' d' ∈ aw) (hd : decode cc pc = .ok (.getstatic idx, 3)) (h : ∀ v : Value, (v = .null ∨ ∃ t, v = .ref t) → G X σ k n (pc + 3) ls (v :: st)) : G X σ k n pc ls st := by
  obtain ⟨p, l', e, R', s, m, args, below, meth, c, Q, g'⟩ := X
  obtain ⟨h1, h2, h3, h4, h5, h6, h7, h8, rfl, rfl, rfl⟩ := hx
  intro H locs la hP hS hL
  rcases (hZ s h8.1).kept (base_kept hS h7 hP.1.2) with hZ1 | ⟨t, hZ1⟩
  · exact va_gets h1 h2 hZ1 hS h4 (h5 _ hlk) (fun _ h9 => h9) hd (h _ (Or.inl rfl) H locs la hP hS hL)
  · exact va_gets h1 h2 hZ1 hS h4 (h5 _ hlk) (fun _ h9 => h9) hd (h _ (Or.inr ⟨t, rfl⟩) H locs la hP hS hL)
theorem g_tb (hx : Ok X l g own cc nL R) (pc : Nat) {t N : Nat} {f : Nat → Value} {i : Int32} (v : Value) (hT : ∀ U, g.2.2.2 U → va_T .byte t N f (A0 g) U g.1) (hin : vp_in i N) (hv : f i.toNatClampNeg = v) (hd : decode cc pc = .ok (.baload, 1)) (h : G X σ k n (pc + 1) ls (v :: st)) : G X σ k n pc ls (.int i :: .ref t :: st) := by
  obtain ⟨p, l', e, R', s, m, args, below, meth, c, Q, g'⟩ := X
  obtain ⟨h1, h2, h3, h4, h5, h6, h7, h8, rfl, rfl, rfl⟩ := hx
  intro H locs la hP hS hL
  exact va_tb h1 h2 ((hT s h8.1).kept (base_kept hS h7 hP.1.2)) hS hin hv hd (h H locs la hP hS hL)
theorem g_ti (hx : Ok X l g own cc nL R) (pc : Nat) {t N : Nat} {f : Nat → Value} {i : Int32} (v : Value) (hT : ∀ U, g.2.2.2 U → va_T .int t N f (A0 g) U g.1) (hin : vp_in i N) (hv : f i.toNatClampNeg = v) (hd : decode cc pc = .ok (.iaload, 1)) (h : G X σ k n (pc + 1) ls (v :: st)) : G X σ k n pc ls (.int i :: .ref t :: st) := by
  obtain ⟨p, l', e, R', s, m, args, below, meth, c, Q, g'⟩ := X
  obtain ⟨h1, h2, h3, h4, h5, h6, h7, h8, rfl, rfl, rfl⟩ := hx
  intro H locs la hP hS hL
  exact va_ti h1 h2 ((hT s h8.1).kept (base_kept hS h7 hP.1.2)) hS hin hv hd (h H locs la hP hS hL)
theorem g_tq (hx : Ok X l g own cc nL R) (pc : Nat) {C : String} {t N : Nat} {f : Nat → Value} {i : Int32} (v : Value) (hT : ∀ U, g.2.2.2 U → va_T (.object C) t N f (A0 g) U g.1) (hin : vp_in i N) (hv : f i.toNatClampNeg = v) (hd : decode cc pc = .ok (.aaload, 1)) (h : G X σ k n (pc + 1) ls (v :: st)) : G X σ k n pc ls (.int i :: .ref t :: st) := by
  obtain ⟨p, l', e, R', s, m, args, below, meth, c, Q, g'⟩ := X
  obtain ⟨h1, h2, h3, h4, h5, h6, h7, h8, rfl, rfl, rfl⟩ := hx
  intro H locs la hP hS hL
  exact vb_tq h1 h2 ((hT s h8.1).kept (base_kept hS h7 hP.1.2)) hS hin hv hd (h H locs la hP hS hL)
theorem g_tlen (hx : Ok X l g own cc nL R) (pc : Nat) {ty : FieldType} {t N : Nat} {f : Nat → Value} (hT : ∀ U, g.2.2.2 U → va_T ty t N f (A0 g) U g.1) (hd : decode cc pc = .ok (.arraylength, 1)) (h : G X σ k n (pc + 1) ls (.int (nI N) :: st)) : G X σ k n pc ls (.ref t :: st) := by
  obtain ⟨p, l', e, R', s, m, args, below, meth, c, Q, g'⟩ := X
  obtain ⟨h1, h2, h3, h4, h5, h6, h7, h8, rfl, rfl, rfl⟩ := hx
  intro H locs la hP hS hL
  exact va_tlen h1 h2 ((hT s h8.1).kept (base_kept hS h7 hP.1.2)) hS rfl hd (h H locs la hP hS hL)
theorem g_ldcS (hx : Ok X l g own cc nL R) (pc : Nat) {tx : String} {idx q : Nat} (hZ : ∀ U, g.2.2.2 U → vk_R own idx tx q U) (hd : decode cc pc = .ok (.ldc idx, 2)) (h : G X σ k n (pc + 2) ls (.ref q :: st)) : G X σ k n pc ls st := by
  obtain ⟨p, l', e, R', s, m, args, below, meth, c, Q, g'⟩ := X
  obtain ⟨h1, h2, h3, h4, h5, h6, h7, h8, rfl, rfl, rfl⟩ := hx
  intro H locs la hP hS hL
  exact va_ldcS h1 h2 h4 (hZ s h8.1) hd (h H locs la hP hS hL)
theorem g_i2c (hx : Ok X l g own cc nL R) (pc : Nat) {x : Int32} (hd : decode cc pc = .ok (.i2c, 1)) (h : G X σ k n (pc + 1) ls (.int (x.toUInt32 % 65536).toInt32 :: st)) : G X σ k n pc ls (.int x :: st) := by
  obtain ⟨p, l', e, R', s, m, args, below, meth, c, Q, g'⟩ := X
  obtain ⟨h1, h2, h3, h4, h5, h6, h7, h8, rfl, rfl, rfl⟩ := hx
  intro H locs la hP hS hL
  exact lv_i2c h1 h2 hd rfl (h H locs la hP hS hL)
theorem g_nret {Post : Option Value → Hp → Prop} {ty : FieldType} (hx : Ok X l g own cc nL R) (hr : Ret X Post k n (some ty)) (pc : Nat) {v : Int32} (hn : narrow ty (.int v) = .int v) (hd : decode cc pc = .ok (.ireturn, 1)) (hp : Post (some (.int v)) σ) : G X σ k n pc ls [.int v] := by
  obtain ⟨p, l', e, R', s, m, args, below, meth, c, Q, g'⟩ := X
  obtain ⟨h1, h2, h3, h4, h5, h6, h7, h8, rfl, rfl, rfl⟩ := hx
  intro H locs la hP hS hL
  obtain ⟨rfl, r2, r3⟩ := hr
  exact W.zret h1 h2 r2 hn (fun t ht hW => ⟨_, σ, rfl, hp, by rw [ht]; exact hP, by rw [ht]; exact hS.1, fun q q1 q2 => by rw [ht]; exact hS.2.1 q q1 q2⟩) hS.2.2 hd r3
/-- a call on a constant -/
theorem g_callX {pc idx b : Nat} {M : Md} {As rest : List Value} {v : Value} {σ' : Hp} (hx : Ok X l g own cc nL R) (hM : MG l g M (.ref b :: As) σ (rs (some v) σ')) (hlk : LkV own idx M) (har : Arity M As.length) (hO : ∀ U, g.2.2.2 U → va_O M.y.cls b (A0 g) U g.1) (hst : st = As.reverse ++ .ref b :: rest) (hcat : (rest.map fun v => v.category).sum ≤ 8) (hroom : M.rm.frames + 1 ≤ R.frames ∧ 8 + (M.nL + 11) + M.rm.locals ≤ R.locals) (hcs : k + M.rm.cells = k ∧ n + M.rm.slots = n) (hcr : k ≤ R.cells ∧ n ≤ R.slots) (hd : decode cc pc = .ok (.invokevirtual idx, 3)) (h : G X σ' k n (pc + 3) ls (v :: rest)) : G X σ k n pc ls st := by
  obtain ⟨p, l', e, R', s, m, args, below, meth, c, Q, g'⟩ := X
  obtain ⟨h1, h2, h3, h4, h5, h6, h7, h8, rfl, rfl, rfl⟩ := hx
  intro H locs la hP hS hL
  subst hst
  have cw : CallW R' s args own M.y.cls idx M.y M.b M.nL M.rt (.code M.y M.b M.nL M.rt :: aw) M.rm M.rm.cells M.rm.slots As.length :=
    ⟨callB_of As.length h5 (good_ws hlk) rfl rfl rfl (h5 _ hlk.2.2) (h5 _ (hlk.1 _ (by simp))) har hroom, h5 _ (hlk.1 _ (by simp)), h5 _ (hlk.1 _ (by simp))⟩
  refine g_run (va_runV (nL := nL) (As := As) (rest := rest) ⟨h1, h2, h3, h4, h5⟩ hM cw ⟨MGp.blind, ?_, fun U hU hW => ⟨rfl, by rw [hU]; exact hP, by rw [hU]; exact Nat.le_trans h7 hS.1, va_K.moved hW.alike h6, h8.2 _ U hW h8.1, h8.2⟩⟩ rfl rfl (by rw [← h3]; exact hL.1) rfl (lv_room hcat) hd (by rw [hcs.1, hcs.2]; exact hcr)) hS hL (fun v' σ'' hp => by
    obtain ⟨rfl, rfl⟩ := hp
    rw [hcs.1, hcs.2]
    exact h)
  obtain ⟨cell, g1, g2, g3, -⟩ := ((hO s h8.1).kept (base_kept hS h7 hP.1.2)).kept (fun a _ h2 => by
    by_cases ha : a < s.heap.size
    · exact hS.2.1 a ha h2
    · exact absurd (Nat.le_trans h7 (Nat.not_lt.mp ha)) h2)
  exact ⟨cell, g1, g2, g3⟩
end GX
def md_J0_length : Md := (yJ0_length_8abf5, cJ0_length_8abf5, 1, some .int, 1, 20, 0, 0)
def md_J0_coder : Md := (yJ0_coder_7d493, cJ0_coder_7d493, 1, some .byte, 0, 0, 0, 0)
def md_J0_isLatin1 : Md := (yJ0_isLatin1_aae02, cJ0_isLatin1_aae02, 1, some .boolean, 0, 0, 0, 0)
def md_J0_charAt : Md := (yJ0_charAt_5068e, cJ0_charAt_5068e, 2, some .char, 3, 70, 0, 0)
def md_J1_charAt : Md := (yJ1_charAt_3b067, cJ1_charAt_3b067, 2, some .char, 2, 49, 0, 0)
def md_J0_checkIndex : Md := (yJ0_checkIndex_df160, cJ0_checkIndex_df160, 2, none, 1, 22, 0, 0)
def md_J3_checkIndex : Md := (yJ3_checkIndex_8e157, cJ3_checkIndex_8e157, 3, some .int, 0, 0, 0, 0)
theorem lk_J0_335 : Lk md_J0_coder [.methodLink RJ0 335 md_J0_coder.y, .instanceMethod md_J0_coder.y, .selects md_J0_coder.y.cls md_J0_coder.y md_J0_coder.y] := lk_of (by decide +kernel)
theorem lk_J0_492 : Lk md_J0_isLatin1 [.methodLink RJ0 492 md_J0_isLatin1.y, .instanceMethod md_J0_isLatin1.y, .selects md_J0_isLatin1.y.cls md_J0_isLatin1.y md_J0_isLatin1.y] := lk_of (by decide +kernel)
theorem lk_J0_495 : Lk md_J1_charAt [.methodLink RJ0 495 md_J1_charAt.y, .static md_J1_charAt.y] := lk_of (by decide +kernel)
theorem lk_J1_9 : Lk md_J0_checkIndex [.methodLink RJ1 9 md_J0_checkIndex.y, .static md_J0_checkIndex.y] := lk_of (by decide +kernel)
theorem lk_J0_1059 : Lk md_J3_checkIndex [.methodLink RJ0 1059 md_J3_checkIndex.y, .static md_J3_checkIndex.y] := lk_of (by decide +kernel)
theorem ar_J0_coder : Arity md_J0_coder 0 := ⟨by decide +kernel, by decide +kernel, by decide +kernel⟩
theorem ar_J0_length : Arity md_J0_length 0 := ⟨by decide +kernel, by decide +kernel, by decide +kernel⟩
theorem ar_J0_charAt : Arity md_J0_charAt 1 := ⟨by decide +kernel, by decide +kernel, by decide +kernel⟩
theorem ar_J0_isLatin1 : Arity md_J0_isLatin1 0 := ⟨by decide +kernel, by decide +kernel, by decide +kernel⟩
theorem ar_J1_charAt : Arity md_J1_charAt 2 := ⟨by decide +kernel, by decide +kernel, by decide +kernel⟩
theorem ar_J0_checkIndex : Arity md_J0_checkIndex 2 := ⟨by decide +kernel, by decide +kernel, by decide +kernel⟩
theorem ar_J3_checkIndex : Arity md_J3_checkIndex 3 := ⟨by decide +kernel, by decide +kernel, by decide +kernel⟩
theorem fl_J0_38 : Cond.fieldLink RJ0 38 "java/lang/String" "COMPACT_STRINGS" "Z" ∈ aw := aw1 (by decide +kernel)
theorem fl_J0_15 : Cond.fieldLink RJ0 15 "java/lang/String" "coder" "B" ∈ aw := aw1 (by decide +kernel)
theorem fl_J0_9 : Cond.fieldLink RJ0 9 "java/lang/String" "value" "[B" ∈ aw := aw1 (by decide +kernel)
theorem fl_J0_1053 : Cond.fieldLink RJ0 1053 "jdk/internal/util/Preconditions" "SIOOBE_FORMATTER" "Ljava/util/function/BiFunction;" ∈ aw := aw1 (by decide +kernel)
set_option maxRecDepth 100000 in
set_option maxHeartbeats 4000000 in
theorem c_J3_checkIndex (l : Launch) (g : Gl) (σ : Hp) (i L : Int32) (v : Value) (hv : v = .null ∨ ∃ t, v = .ref t) (h0 : ¬ i < 0) (h1 : i < L) : MG l g md_J3_checkIndex [.int i, .int L, v] σ (rs (some (.int i)) σ) := by
  refine MG.intro (by decide +kernel) (by rcases hv with rfl | ⟨t, rfl⟩ <;> exact Nat.le_of_ble_eq_true rfl) (fun X hx hR _ => ?_)
  have key : G X σ 0 0 0 [(0, .int i), (1, .int L), (2, v)] [] := by
    refine g_iload_n hx 0 (i := 0) 0 dJ3_checkIndex_8e157_0 rfl rfl ?_
    refine g_if_lt hx 1 9 dJ3_checkIndex_8e157_1 (by decide) (fun hc => absurd hc h0) (fun _ => ?_)
    refine g_iload_n hx 4 (i := 0) 0 dJ3_checkIndex_8e157_4 rfl rfl ?_
    refine g_iload_n hx 5 (i := 1) 1 dJ3_checkIndex_8e157_5 rfl rfl ?_
    refine g_icmp_lt hx 6 16 dJ3_checkIndex_8e157_6 (by decide) (fun _ => ?_) (fun hc => absurd h1 hc)
    refine g_iload_n hx 16 (i := 0) 0 dJ3_checkIndex_8e157_16 rfl rfl ?_
    exact g_iret hx hR 17 dJ3_checkIndex_8e157_17 ⟨rfl, rfl⟩
  rcases hv with rfl | ⟨t, rfl⟩
  · exact key
  · exact key
set_option maxRecDepth 100000 in
set_option maxHeartbeats 4000000 in
theorem c_J0_checkIndex (l : Launch) (g : Gl) (hJ : KJ g) (σ : Hp) (i L : Int32) (h0 : ¬ i < 0) (h1 : i < L) : MG l g md_J0_checkIndex [.int i, .int L] σ (rs none σ) := by
  refine MG.intro (by decide +kernel) (Nat.le_of_ble_eq_true rfl) (fun X hx hR _ => ?_)
  refine g_ls [0, 1] [(0, .int i), (1, .int L)] rfl ?_
  refine g_iload_n hx 0 (i := 0) 0 dJ0_checkIndex_df160_0 rfl rfl ?_
  refine g_iload_n hx 1 (i := 1) 1 dJ0_checkIndex_df160_1 rfl rfl ?_
  refine g_getsq hx 2 hJ.2 fl_J0_1053 dJ0_checkIndex_df160_2 (fun v hv => ?_)
  refine g_callSr hx (c_J3_checkIndex l g σ i L v hv h0 h1) lk_J0_1059 ar_J3_checkIndex (As := [.int i, .int L, v]) (rest := []) rfl (Nat.le_of_ble_eq_true rfl) ⟨Nat.le_of_ble_eq_true rfl, Nat.le_of_ble_eq_true rfl⟩ ⟨rfl, rfl⟩ ⟨Nat.zero_le _, Nat.zero_le _⟩ dJ0_checkIndex_df160_5 ?_
  refine g_pop hx 8 dJ0_checkIndex_df160_8 rfl ?_
  exact g_vret hx hR 9 dJ0_checkIndex_df160_9 ⟨rfl, rfl⟩
set_option maxRecDepth 100000 in
set_option maxHeartbeats 4000000 in
theorem c_J1_charAt (l : Launch) (g : Gl) (hJ : KJ g) (σ : Hp) {t : Nat} {cs : List Int32} (hT : ∀ U, g.2.2.2 U → va_T .byte t cs.length (fun j => .int (cs.getD j 0)) (A0 g) U g.1) (hcs : ∀ c ∈ cs, c &&& 255 = c) (i : Nat) (hi : i < cs.length) (hl : cs.length < 1000) : MG l g md_J1_charAt [.ref t, .int (nI i)] σ (rs (some (.int (cs.getD i 0))) σ) := by
  refine MG.intro (by decide +kernel) (Nat.le_of_ble_eq_true rfl) (fun X hx hR _ => ?_)
  refine g_ls [0, 1] [(0, .ref t), (1, .int (nI i))] rfl ?_
  refine g_iload_n hx 0 (i := 1) 1 dJ1_charAt_3b067_0 rfl rfl ?_
  refine g_aload_n hx 1 (i := 0) 0 dJ1_charAt_3b067_1 rfl rfl ?_
  refine g_tlen hx 2 hT dJ1_charAt_3b067_2 ?_
  refine g_callSv hx (c_J0_checkIndex l g hJ σ (nI i) (nI cs.length) (nI_pos (by omega)) (nI_lt hi (by omega))) lk_J1_9 ar_J0_checkIndex (As := [.int (nI i), .int (nI cs.length)]) (rest := []) rfl (Nat.le_of_ble_eq_true rfl) ⟨Nat.le_of_ble_eq_true rfl, Nat.le_of_ble_eq_true rfl⟩ ⟨rfl, rfl⟩ ⟨Nat.zero_le _, Nat.zero_le _⟩ dJ1_charAt_3b067_3 ?_
  refine g_aload_n hx 6 (i := 0) 0 dJ1_charAt_3b067_6 rfl rfl ?_
  refine g_iload_n hx 7 (i := 1) 1 dJ1_charAt_3b067_7 rfl rfl ?_
  refine g_tb hx 8 (.int (cs.getD i 0)) hT (vp_in_nI hi (by omega)) (by rw [nI_clamp (by omega)]) dJ1_charAt_3b067_8 ?_
  refine g_sipush hx 9 255 dJ1_charAt_3b067_9 rfl ?_
  refine g_iand hx 12 dJ1_charAt_3b067_12 ?_
  refine g_i2c hx 13 dJ1_charAt_3b067_13 ?_
  have hc : cs.getD i 0 &&& 255 = cs.getD i 0 := by
    rw [List.getD_eq_getElem?_getD, List.getElem?_eq_getElem hi]
    exact hcs _ (List.getElem_mem hi)
  have e2 := sc_c2 (cs.getD i 0)
  have e3 := sc_nar (cs.getD i 0)
  rw [e2]
  rw [hc] at e3 ⊢
  exact g_nret hx hR 14 e3 dJ1_charAt_3b067_14 ⟨rfl, rfl⟩
set_option maxRecDepth 100000 in
set_option maxHeartbeats 4000000 in
theorem c_J0_coder (l : Launch) (g : Gl) (hJ : KJ g) (σ : Hp) {a : Nat} {cs : List Int32} (hs : StrAt g a cs) : MG l g md_J0_coder [.ref a] σ (rs (some (.int 0)) σ) := by
  obtain ⟨v, hv⟩ := hs
  refine MG.intro (by decide +kernel) (Nat.le_of_ble_eq_true rfl) (fun X hx hR _ => ?_)
  refine g_ls [0] [(0, .ref a)] rfl ?_
  refine g_gets hx 0 (.int 1) hJ.1 fl_J0_38 dJ0_coder_7d493_0 ?_
  refine g_if_eq hx 3 13 dJ0_coder_7d493_3 (by decide) (fun hc => absurd hc (by decide)) (fun _ => ?_)
  refine g_aload_n hx 6 (i := 0) 0 dJ0_coder_7d493_6 rfl rfl ?_
  refine g_getX hx 7 (ref := "java/lang/String") (.int 0) (fun U hU => (hv U hU).2.1) fl_J0_15 dJ0_coder_7d493_7 ?_
  refine g_goto hx 10 14 dJ0_coder_7d493_10 (by decide) ?_
  exact g_nret hx hR 14 rfl dJ0_coder_7d493_14 ⟨rfl, rfl⟩
set_option maxRecDepth 100000 in
set_option maxHeartbeats 4000000 in
theorem c_J0_isLatin1 (l : Launch) (g : Gl) (hJ : KJ g) (σ : Hp) {a : Nat} {cs : List Int32} (hs : StrAt g a cs) : MG l g md_J0_isLatin1 [.ref a] σ (rs (some (.int 1)) σ) := by
  obtain ⟨v, hv⟩ := hs
  refine MG.intro (by decide +kernel) (Nat.le_of_ble_eq_true rfl) (fun X hx hR _ => ?_)
  refine g_ls [0] [(0, .ref a)] rfl ?_
  refine g_gets hx 0 (.int 1) hJ.1 fl_J0_38 dJ0_isLatin1_aae02_0 ?_
  refine g_if_eq hx 3 17 dJ0_isLatin1_aae02_3 (by decide) (fun hc => absurd hc (by decide)) (fun _ => ?_)
  refine g_aload_n hx 6 (i := 0) 0 dJ0_isLatin1_aae02_6 rfl rfl ?_
  refine g_getX hx 7 (ref := "java/lang/String") (.int 0) (fun U hU => (hv U hU).2.1) fl_J0_15 dJ0_isLatin1_aae02_7 ?_
  refine g_if_ne hx 10 17 dJ0_isLatin1_aae02_10 (by decide) (fun hc => absurd rfl hc) (fun _ => ?_)
  refine g_iconst hx 13 1 dJ0_isLatin1_aae02_13 rfl ?_
  refine g_goto hx 14 18 dJ0_isLatin1_aae02_14 (by decide) ?_
  exact g_nret hx hR 18 rfl dJ0_isLatin1_aae02_18 ⟨rfl, rfl⟩
set_option maxRecDepth 100000 in
set_option maxHeartbeats 4000000 in
theorem c_J0_length (l : Launch) (g : Gl) (hJ : KJ g) (σ : Hp) {a : Nat} {cs : List Int32} (hs : StrAt g a cs) (hl : cs.length < 1000) : MG l g md_J0_length [.ref a] σ (rs (some (.int (nI cs.length))) σ) := by
  have hs' := hs
  obtain ⟨v, hv⟩ := hs
  refine MG.intro (by decide +kernel) (Nat.le_of_ble_eq_true rfl) (fun X hx hR _ => ?_)
  refine g_ls [0] [(0, .ref a)] rfl ?_
  refine g_aload_n hx 0 (i := 0) 0 dJ0_length_8abf5_0 rfl rfl ?_
  refine g_getX hx 1 (ref := "java/lang/String") (.ref v) (fun U hU => (hv U hU).2.2.1) fl_J0_9 dJ0_length_8abf5_1 ?_
  refine g_tlen hx 4 (fun U hU => (hv U hU).2.2.2) dJ0_length_8abf5_4 ?_
  refine g_aload_n hx 5 (i := 0) 0 dJ0_length_8abf5_5 rfl rfl ?_
  refine g_callX hx (c_J0_coder l g hJ σ hs') lk_J0_335 ar_J0_coder (fun U hU => (hv U hU).1) (As := []) (rest := [.int (nI cs.length)]) rfl (Nat.le_of_ble_eq_true rfl) ⟨Nat.le_of_ble_eq_true rfl, Nat.le_of_ble_eq_true rfl⟩ ⟨rfl, rfl⟩ ⟨Nat.zero_le _, Nat.zero_le _⟩ dJ0_length_8abf5_6 ?_
  refine g_ishr hx 9 dJ0_length_8abf5_9 ?_
  refine g_iret hx hR 10 dJ0_length_8abf5_10 ⟨?_, rfl⟩
  have h : nI cs.length >>> ((0 : Int32) &&& 31) = nI cs.length := by
    rw [show ((0 : Int32) &&& 31) = 0 from rfl, pk_shrN (by omega) 0 0 rfl]
    simp
  rw [h]
set_option maxRecDepth 100000 in
set_option maxHeartbeats 4000000 in
theorem c_J0_charAt (l : Launch) (g : Gl) (hJ : KJ g) (σ : Hp) {a : Nat} {cs : List Int32} (hs : StrAt g a cs) (hcs : ∀ c ∈ cs, c &&& 255 = c) (hl : cs.length < 1000) (i : Nat) (hi : i < cs.length) : MG l g md_J0_charAt [.ref a, .int (nI i)] σ (rs (some (.int (cs.getD i 0))) σ) := by
  have hs' := hs
  obtain ⟨v, hv⟩ := hs
  refine MG.intro (by decide +kernel) (Nat.le_of_ble_eq_true rfl) (fun X hx hR _ => ?_)
  refine g_ls [0, 1] [(0, .ref a), (1, .int (nI i))] rfl ?_
  refine g_aload_n hx 0 (i := 0) 0 dJ0_charAt_5068e_0 rfl rfl ?_
  refine g_callX hx (c_J0_isLatin1 l g hJ σ hs') lk_J0_492 ar_J0_isLatin1 (fun U hU => (hv U hU).1) (As := []) (rest := []) rfl (Nat.le_of_ble_eq_true rfl) ⟨Nat.le_of_ble_eq_true rfl, Nat.le_of_ble_eq_true rfl⟩ ⟨rfl, rfl⟩ ⟨Nat.zero_le _, Nat.zero_le _⟩ dJ0_charAt_5068e_1 ?_
  refine g_if_eq hx 4 16 dJ0_charAt_5068e_4 (by decide) (fun hc => absurd hc (by decide)) (fun _ => ?_)
  refine g_aload_n hx 7 (i := 0) 0 dJ0_charAt_5068e_7 rfl rfl ?_
  refine g_getX hx 8 (ref := "java/lang/String") (.ref v) (fun U hU => (hv U hU).2.2.1) fl_J0_9 dJ0_charAt_5068e_8 ?_
  refine g_iload_n hx 11 (i := 1) 1 dJ0_charAt_5068e_11 rfl rfl ?_
  refine g_callSr hx (c_J1_charAt l g hJ σ (fun U hU => (hv U hU).2.2.2) hcs i hi hl) lk_J0_495 ar_J1_charAt (As := [.ref v, .int (nI i)]) (rest := []) rfl (Nat.le_of_ble_eq_true rfl) ⟨Nat.le_of_ble_eq_true rfl, Nat.le_of_ble_eq_true rfl⟩ ⟨rfl, rfl⟩ ⟨Nat.zero_le _, Nat.zero_le _⟩ dJ0_charAt_5068e_12 ?_
  have hc : cs.getD i 0 &&& 255 = cs.getD i 0 := by
    rw [List.getD_eq_getElem?_getD, List.getElem?_eq_getElem hi]
    exact hcs _ (List.getElem_mem hi)
  have e3 := sc_nar (cs.getD i 0)
  rw [hc] at e3
  exact g_nret hx hR 15 e3 dJ0_charAt_5068e_15 ⟨rfl, rfl⟩
