/-! the constructor of a History -/
section GC
variable {X : Cx} {l : Launch} {g : Gl} {own : String} {cc : ByteArray} {nL : Nat} {R : Room} {σ : Hp} {k n : Nat} {ls : List (Nat × Value)} {st : List Value}
theorem g_astO (hx : Ok X l g own cc nL R) (pc : Nat) {b N v ci t : Nat} {fs : List Value} {f : Nat → Option Nat} {i : Int32} {C : String} {T : u_T} {NN : Nat} (hk : σ.2 b = some (eR t N f)) (ht : (tysG g)[t]? = some (g.2.2.1 t, .object C)) (hv : σ.2 v = some (eO ci fs)) (hc : vwCl[ci]? = some (C, T, NN)) (hin : vp_in i N) (hd : decode cc pc = .ok (.aastore, 1)) (h : G X (hset σ b (eR t N (va_up f i.toNatClampNeg (some v)))) k n (pc + 1) ls st) : G X σ k n pc ls (.ref v :: .int i :: .ref b :: st) := by
  obtain ⟨p, l', e, R', s, m, args, below, meth, c, Q, g'⟩ := X
  obtain ⟨h1, h2, h3, h4, h5, h6, h7, h8, rfl, rfl, rfl⟩ := hx
  intro H locs la hP hS hL
  have hlt : i.toNatClampNeg < N := Nat.not_le.mp fun q => hin (Or.inr q)
  have h0 : ¬ i < 0 := fun q => hin (Or.inl q)
  have hPb := hP.2 b _ hk
  obtain ⟨r', hr', cellV, q1, q2, q3, -⟩ := (hP.2 v _ hv).2
  have hcls := (h6.1 ci _ hc).2
  obtain ⟨kA, comp, k1, k2, k3, -⟩ := (h6.2 t _ ht).2
  have hcomp : comp = g'.2.1.1 ci := Option.some.inj (k3.symm.trans hcls.1)
  subst hcomp
  obtain ⟨kC, hkC, -⟩ := hcls.2
  refine W.aast h1 h2 (hP.one hk 0 _ rfl) (fun q h => by cases h) (fun h => by cases h) k1 k2 rfl hkC ⟨h0, by show _ < (arrV _ _ _).slots.size; rw [arrV_size]; exact hlt⟩ q1 (fun q h => by rw [q3] at h; cases h) (by rw [q2]; exact hkC) (by rw [q2]; exact va_assign hcls) rfl rfl hd fun H1 e z oq => ?_
  refine h H1 _ la (hP.set hk ?_ z oq) (hS.put z oq hPb.1) hL
  show H1[b]? = some (vp_cell _ _)
  rw [e]
  rw [vp_cell_q, vp_cell_q, arrV_store]
  congr 2
  funext q
  by_cases hq : q = i.toNatClampNeg
  · subst hq
    simp [updV, va_up, va_rf]
  · simp [updV, va_up, hq]
theorem HP.swap {g : Gl} {σ : Hp} {H : Heap} {a : Nat} {e e' : Ent} (h : HP g σ H) (h0 : σ.2 a = some e) (he : ∀ H, entAt g a e H → entAt g a e' H) : HP g (hset σ a e') H :=
  h.set h0 (he H (h.2 a e h0).2) rfl fun _ _ => rfl
theorem G.swap {pc a : Nat} {e e' : Ent} (h0 : σ.2 a = some e) (he : ∀ (g : Gl) (H : Heap), entAt g a e H → entAt g a e' H) (h : G X (hset σ a e') k n pc ls st) : G X σ k n pc ls st := by
  obtain ⟨p, l', e0, R', s, m, args, below, meth, c, Q, g'⟩ := X
  intro H locs la hP hS hL
  exact h H locs la (hP.swap h0 (he g')) hS hL
end GC
theorem arrV_f {c : ClassId} {N : Nat} {f f' : Nat → Value} (h : ∀ j, j < N → f j = f' j) : arrV c N f = arrV c N f' := by
  unfold arrV
  congr 1
  refine Array.ext (by simp) fun i h1 h2 => ?_
  simp at h1
  simp [h i h1]
theorem eR_f {g : Gl} {k t N : Nat} {f f' : Nat → Option Nat} {H : Heap} (h : ∀ j, j < N → f j = f' j) (he : entAt g k (eR t N f) H) : entAt g k (eR t N f') H := by
  have h1 : H[k]? = some (vp_cell _ _) := he
  show H[k]? = some (vp_cell _ _)
  rw [h1, vp_cell_q, vp_cell_q]
  congr 1
  exact arrV_f fun j hj => by rw [h j hj]
def stks (A : Nat) : Nat → List Ent
  | 0 => []
  | n + 1 => stks A n ++ stL (A + 35 * n) E0
theorem stks_len (A n : Nat) : (stks A n).length = 35 * n := by
  induction n with
  | zero => rfl
  | succ n ih =>
    show (stks A n ++ stL (A + 35 * n) E0).length = 35 * (n + 1)
    rw [List.length_append, ih]
    show 35 * n + 35 = _
    omega
def hiF (S i : Nat) : Nat → Option Nat := fun j => if j < i then some (S + 2 + 35 * j) else none
def hiE (S i : Nat) : List Ent := eO 0 [.ref (S + 1), .int 0, .int 0] :: eR 1 9 (hiF S i) :: stks (S + 2) i
def md_Hi_init : Md := (yX1_init, cX1_init, 2, none, 4, 122, 316, 3267)
theorem ob_X1_3 : ∀ w ∈ [Cond.methodLink RX1 3 Lib.objectInit, Cond.instanceMethod Lib.objectInit, Cond.code Lib.objectInit { data := #[177] } 1 none], w ∈ aw := aw_of (by decide +kernel)
theorem na_X1_11 : Cond.classLink RX1 11 "SlipArchive$Stacks" ∈ aw := aw1 (by decide +kernel)
theorem ni_X8 : Cond.instantiable RX8 15 ∈ aw := aw1 (by decide +kernel)
theorem nz_X8 : Cond.initialized RX8 ∈ aw := aw1 (by decide +kernel)
theorem lz_md_St_init : Lk md_St_init [.instanceMethod md_St_init.y] := lk_of (by decide +kernel)
theorem ar_St_init : Arity md_St_init 0 := ⟨by decide +kernel, by decide +kernel, by decide +kernel⟩
theorem w_Hi_init {X : Cx} {l : Launch} {g : Gl} (hA : KC g) (τ : Hp) (hx : Ok X l g RX1 cX1_init 2 md_Hi_init.rm) (hR : Ret X (rs none (hadl τ (hiE τ.1 9))) md_Hi_init.rm.cells md_Hi_init.rm.slots none) : ∀ (d i : Nat), i + d = 9 → G X (hadl τ (hiE τ.1 i)) (1 + 35 * i) (9 + 362 * i) 25 [(1, .int (nI i)), (0, .ref τ.1)] [] := by
  intro d
  induction d with
  | zero =>
    intro i hi
    obtain rfl : i = 9 := by omega
    refine g_iload_n hx 25 (i := 1) 0 dX1_init_25 rfl rfl ?_
    refine g_aload_n hx 26 (i := 0) 1 dX1_init_26 rfl rfl ?_
    refine g_get hx 27 (C := RX1) (T := TX1) (N := 3) 0 (.ref (τ.1 + 1)) (hadl_0 τ _ _) rfl (by decide) rfl fl_X1_13 dX1_init_27 ?_
    refine g_alenq hx 30 1 (hadl_get τ (hiE τ.1 9) 1 (Nat.le_of_ble_eq_true rfl)) rfl rfl dX1_init_30 ?_
    refine g_icmp_ge hx 31 53 dX1_init_31 (by decide) (fun _ => ?_) (fun hc => absurd (by decide) hc)
    exact g_vret hx hR 53 dX1_init_53 ⟨rfl, rfl⟩
  | succ d ih =>
    intro i hi
    have hi9 : i < 9 := by omega
    refine g_iload_n hx 25 (i := 1) 0 dX1_init_25 rfl rfl ?_
    refine g_aload_n hx 26 (i := 0) 1 dX1_init_26 rfl rfl ?_
    refine g_get hx 27 (C := RX1) (T := TX1) (N := 3) 0 (.ref (τ.1 + 1)) (hadl_0 τ _ _) rfl (by decide) rfl fl_X1_13 dX1_init_27 ?_
    have hsl : (hadl τ (hiE τ.1 i)).2 (τ.1 + 1) = some (eR 1 9 (hiF τ.1 i)) := hadl_get τ (hiE τ.1 i) 1 (Nat.succ_lt_succ (Nat.zero_lt_succ _))
    refine g_alenq hx 30 1 hsl rfl rfl dX1_init_30 ?_
    refine g_icmp_ge hx 31 53 dX1_init_31 (by decide) (fun hc => absurd hc (nI_ge hi9 (by decide))) (fun _ => ?_)
    refine g_aload_n hx 34 (i := 0) 1 dX1_init_34 rfl rfl ?_
    refine g_get hx 35 (C := RX1) (T := TX1) (N := 3) 0 (.ref (τ.1 + 1)) (hadl_0 τ _ _) rfl (by decide) rfl fl_X1_13 dX1_init_35 ?_
    refine g_iload_n hx 38 (i := 1) 0 dX1_init_38 rfl rfl ?_
    refine g_new hx 39 (ci := 6) (C := RX8) (T := TX8) (N := 15) [.int 0, .int 0, .int 0, .int 0, .null, .null, .null, .null, .null, .null, .null, .null, .null, .null, .null] rfl na_X1_11 ni_X8 nz_X8 (by decide) ⟨by show 1 + 35 * i + 1 ≤ 316; omega, by show 9 + 362 * i + 15 ≤ 3267; omega⟩ dX1_init_39 ?_
    refine G.heap (hadl_push _ _) ?_
    refine g_dup hx 42 dX1_init_42 rfl ?_
    refine g_callIZ hx (c_St_init l g hA _) (fun U hU => (hA U hU).2 _ (List.mem_of_getElem? (i := 1) rfl)) lz_md_St_init rfl rfl ar_St_init (As := []) rfl (Nat.le_of_ble_eq_true rfl) ⟨Nat.le_of_ble_eq_true rfl, Nat.le_of_ble_eq_true rfl⟩ ⟨by show 1 + 35 * i + 1 + 34 ≤ 316; omega, by show 9 + 362 * i + 15 + 347 ≤ 3267; omega⟩ dX1_init_43 ?_
    refine G.heap (hadl_hadl τ _ _) ?_
    have ha : (hadl τ (hiE τ.1 i)).1 = τ.1 + 2 + 35 * i := by
      show τ.1 + (hiE τ.1 i).length = _
      have : (hiE τ.1 i).length = 35 * i + 1 + 1 := congrArg (fun z => z + 1 + 1) (stks_len (τ.1 + 2) i)
      omega
    rw [ha]
    have hlen : (hiE τ.1 i ++ stL (τ.1 + 2 + 35 * i) E0).length = 35 * i + 2 + 35 := by
      rw [List.length_append]
      have : (hiE τ.1 i).length = 35 * i + 1 + 1 := congrArg (fun z => z + 1 + 1) (stks_len (τ.1 + 2) i)
      rw [this]
      rfl
    have hl0 : (hiE τ.1 i).length = 35 * i + 2 := congrArg (fun z => z + 1 + 1) (stks_len (τ.1 + 2) i)
    refine g_astO hx 46 (t := 1) (C := RX8) (T := TX8) (NN := 15) (N := 9) (f := hiF τ.1 i) (ci := 6) (fs := [.int 0, .int 0, .int 0, .int 0, .ref (τ.1 + 2 + 35 * i + 1), .ref (τ.1 + 2 + 35 * i + 3), .ref (τ.1 + 2 + 35 * i + 5), .ref (τ.1 + 2 + 35 * i + 7), .ref (τ.1 + 2 + 35 * i + 9), .ref (τ.1 + 2 + 35 * i + 11), .ref (τ.1 + 2 + 35 * i + 13), .ref (τ.1 + 2 + 35 * i + 15), .ref (τ.1 + 2 + 35 * i + 22), .ref (τ.1 + 2 + 35 * i + 24), .ref (τ.1 + 2 + 35 * i + 33)]) (hadl_get τ (hiE τ.1 i ++ stL (τ.1 + 2 + 35 * i) E0) 1 (by omega)) rfl ?_ rfl (vp_in_nI hi9 (by decide)) dX1_init_46 ?_
    · have := hadl_get τ (hiE τ.1 i ++ stL (τ.1 + 2 + 35 * i) E0) (35 * i + 2) (by omega)
      rw [List.getElem?_append_right (by omega), hl0, Nat.sub_self] at this
      have e2 : τ.1 + 2 + 35 * i = τ.1 + (35 * i + 2) := by omega
      rw [← e2] at this
      exact this
    refine G.heap (hadl_set τ _ 1 _ (by omega)) ?_
    refine G.heap (σ' := hadl τ (hiE τ.1 (i + 1))) ?_ ?_
    · congr 1
      show _ :: eR 1 9 (va_up (hiF τ.1 i) (nI i).toNatClampNeg (some (τ.1 + 2 + 35 * i))) :: (stks (τ.1 + 2) i ++ stL (τ.1 + 2 + 35 * i) E0) = _ :: eR 1 9 (hiF τ.1 (i + 1)) :: (stks (τ.1 + 2) i ++ stL (τ.1 + 2 + 35 * i) E0)
      congr 3
      rw [nI_clamp (Nat.lt_trans hi9 (by decide))]
      have : va_up (hiF τ.1 i) i (some (τ.1 + 2 + 35 * i)) = hiF τ.1 (i + 1) := by
        funext j
        unfold va_up hiF
        by_cases hj : j = i
        · subst hj; simp
        · rw [if_neg hj]
          by_cases h2 : j < i
          · rw [if_pos h2, if_pos (by omega)]
          · rw [if_neg h2, if_neg (by omega)]
      rw [this]
    refine g_iinc hx 47 (i := 1) 0 (nI (i + 1)) [(1, .int (nI (i + 1))), (0, .ref τ.1)] dX1_init_47 rfl ?_ (by decide) rfl ?_
    · exact (nI_succ i).symm
    refine g_goto hx 50 25 dX1_init_50 (by decide) ?_
    exact G.widen (by show 1 + 35 * i + 1 + 34 ≤ _; omega) (by show 9 + 362 * i + 15 + 347 ≤ _; omega) (ih (i + 1) (by omega))
theorem c_Hi_init (l : Launch) (g : Gl) (hA : KC g) (τ : Hp) : MG l g md_Hi_init [.ref τ.1] (hadl τ [eO 0 [.null, .int 0, .int 0]]) (rs none (hadl τ (hiE τ.1 9))) := by
  refine MG.intro (by decide +kernel) (Nat.le_of_ble_eq_true rfl) (fun X hx hR hin => ?_)
  refine g_ls [0] [(0, .ref τ.1)] rfl ?_
  refine g_aload_n hx 0 (i := 0) 0 dX1_init_0 rfl rfl ?_
  refine g_obj hx 1 ob_X1_3 (Nat.le_of_ble_eq_true rfl) ⟨Nat.le_of_ble_eq_true rfl, Nat.le_of_ble_eq_true rfl⟩ dX1_init_1 ?_
  refine g_aload_n hx 4 (i := 0) 0 dX1_init_4 rfl rfl ?_
  refine g_bipush hx 5 (9) dX1_init_5 rfl ?_
  refine g_newR hx 7 (C := "SlipArchive$Stacks") 9 1 na_X1_11 (fun U hU => (hA U hU).1.1) rfl (by decide) (by decide) (by decide) ⟨Nat.le_of_ble_eq_true rfl, Nat.le_of_ble_eq_true rfl⟩ dX1_init_7 ?_
  refine G.heap (hadl_push _ _) ?_
  refine G.heap (σ' := hadl τ [eO 0 [.null, .int 0, .int 0], eR 1 9 (fun _ => none)]) (hadl_hadl τ _ _) ?_
  refine g_putF hx 10 (C := RX1) (T := TX1) (N := 3) 0 _ _ hin (hadl_0 τ _ _) rfl (by decide) fl_X1_13 rfl rfl rfl rfl rfl (Nat.le_of_ble_eq_true rfl) rfl dX1_init_10 ?_
  refine G.heap (σ' := hadl τ [eO 0 [.ref (τ.1 + 1), .int 0, .int 0], eR 1 9 (fun _ => none)]) (hadl_set0 τ _ _ _) ?_
  refine g_aload_n hx 13 (i := 0) 0 dX1_init_13 rfl rfl ?_
  refine g_iconst hx 14 0 dX1_init_14 rfl ?_
  refine g_put hx 15 (C := RX1) (T := TX1) (N := 3) 1 .int _ (hadl_0 τ _ _) rfl (by decide) fl_X1_17 rfl rfl rfl rfl (Nat.le_of_ble_eq_true rfl) rfl dX1_init_15 ?_
  refine G.heap (σ' := hadl τ [eO 0 [.ref (τ.1 + 1), .int 0, .int 0], eR 1 9 (fun _ => none)]) (hadl_set0 τ _ _ _) ?_
  refine g_aload_n hx 18 (i := 0) 0 dX1_init_18 rfl rfl ?_
  refine g_iconst hx 19 0 dX1_init_19 rfl ?_
  refine g_put hx 20 (C := RX1) (T := TX1) (N := 3) 2 .int _ (hadl_0 τ _ _) rfl (by decide) fl_X1_21 rfl rfl rfl rfl (Nat.le_of_ble_eq_true rfl) rfl dX1_init_20 ?_
  refine G.heap (σ' := hadl τ [eO 0 [.ref (τ.1 + 1), .int 0, .int 0], eR 1 9 (fun _ => none)]) (hadl_set0 τ _ _ _) ?_
  refine g_iconst hx 23 0 dX1_init_23 rfl ?_
  refine g_istore_n hx 24 (i := 1) [(1, .int 0), (0, .ref τ.1)] dX1_init_24 rfl (by decide) rfl ?_
  refine G.heap (σ' := hadl τ (hiE τ.1 0)) ?_ (w_Hi_init hA τ hx hR 9 0 rfl)
  congr 1
