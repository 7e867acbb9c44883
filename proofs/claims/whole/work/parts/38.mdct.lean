/-! the reference's constructor -/
section GS
variable {X : Cx} {l : Launch} {g : Gl} {own : String} {cc : ByteArray} {nL : Nat} {R : Room} {σ : Hp} {k n : Nat} {ls : List (Nat × Value)} {st : List Value}
theorem g_astS (hx : Ok X l g own cc nL R) (pc : Nat) {b N v : Nat} {f : Nat → Option Nat} {i : Int32} (hk : σ.2 b = some (eR 4 N f)) {cs : List Int32} (hO : StrAt g v cs) (hin : vp_in i N) (hd : decode cc pc = .ok (.aastore, 1)) (h : G X (hset σ b (eR 4 N (va_up f i.toNatClampNeg (some v)))) k n (pc + 1) ls st) : G X σ k n pc ls (.ref v :: .int i :: .ref b :: st) := by
  obtain ⟨p, l', e, R', s, m, args, below, meth, c, Q, g'⟩ := X
  obtain ⟨h1, h2, h3, h4, h5, h6, h7, h8, rfl, rfl, rfl⟩ := hx
  intro H locs la hP hS hL
  have hlt : i.toNatClampNeg < N := Nat.not_le.mp fun q => hin (Or.inr q)
  have h0 : ¬ i < 0 := fun q => hin (Or.inl q)
  have hPb := hP.2 b _ hk
  obtain ⟨cellV, g1, g2, g3, g4⟩ := ((hO.choose_spec s h8.1).1).kept (base_kept hS h7 hP.1.2)
  have g1' : H[v]? = some cellV := by
    have hlv : v < s.heap.size := (Array.getElem?_eq_some_iff.mp g1).1
    rw [hS.2.1 v hlv g4]; exact g1
  obtain ⟨kA, comp, k1, k2, k3, -⟩ := (h6.2 4 _ rfl).2
  have hcomp : comp = cellV.cls := Option.some.inj (k3.symm.trans g3)
  subst hcomp
  obtain ⟨kC, hkC, -⟩ := Vm.findClass_spec k3
  refine W.aast h1 h2 (hP.one hk 0 _ rfl) (fun q h => by cases h) (fun h => by cases h) k1 k2 rfl hkC ⟨h0, by show _ < (arrV _ _ _).slots.size; rw [arrV_size]; exact hlt⟩ g1' (fun q h => by rw [h] at g2; cases g2) hkC (va_asg _ _) rfl rfl hd fun H1 e z oq => ?_
  refine h H1 _ la (hP.set hk ?_ z oq) (hS.put z oq hPb.1) hL
  show H1[b]? = some (vp_cell _ _)
  rw [e]
  rw [vp_cell_q, vp_cell_q, arrV_store]
  congr 2
  funext q
  by_cases hq : q = i.toNatClampNeg
  · subst hq
    simp [updV, va_up, va_rf]
  · simp [updV, va_up, hq]
end GS
theorem ob_X11_1 : ∀ w ∈ [Cond.methodLink RX11 1 Lib.objectInit, Cond.instanceMethod Lib.objectInit, Cond.code Lib.objectInit { data := #[177] } 1 none], w ∈ aw := aw_of (by decide +kernel)
theorem fz_X11_9 : Cond.fieldLink RX11 9 (TX11 0).1 (TX11 0).2.1 (TX11 0).2.2.1 ∈ aw := aw1 (by decide +kernel)
theorem fz_X11_13 : Cond.fieldLink RX11 13 (TX11 1).1 (TX11 1).2.1 (TX11 1).2.2.1 ∈ aw := aw1 (by decide +kernel)
theorem fz_X11_16 : Cond.fieldLink RX11 16 (TX11 2).1 (TX11 2).2.1 (TX11 2).2.2.1 ∈ aw := aw1 (by decide +kernel)
theorem fz_X11_19 : Cond.fieldLink RX11 19 (TX11 3).1 (TX11 3).2.1 (TX11 3).2.2.1 ∈ aw := aw1 (by decide +kernel)
theorem fz_X11_22 : Cond.fieldLink RX11 22 (TX11 4).1 (TX11 4).2.1 (TX11 4).2.2.1 ∈ aw := aw1 (by decide +kernel)
theorem fz_X11_25 : Cond.fieldLink RX11 25 (TX11 5).1 (TX11 5).2.1 (TX11 5).2.2.1 ∈ aw := aw1 (by decide +kernel)
theorem fz_X11_28 : Cond.fieldLink RX11 28 (TX11 6).1 (TX11 6).2.1 (TX11 6).2.2.1 ∈ aw := aw1 (by decide +kernel)
theorem fz_X11_31 : Cond.fieldLink RX11 31 (TX11 7).1 (TX11 7).2.1 (TX11 7).2.2.1 ∈ aw := aw1 (by decide +kernel)
theorem fz_X11_34 : Cond.fieldLink RX11 34 (TX11 13).1 (TX11 13).2.1 (TX11 13).2.2.1 ∈ aw := aw1 (by decide +kernel)
theorem fz_X11_37 : Cond.fieldLink RX11 37 (TX11 14).1 (TX11 14).2.1 (TX11 14).2.2.1 ∈ aw := aw1 (by decide +kernel)
theorem fz_X11_40 : Cond.fieldLink RX11 40 (TX11 15).1 (TX11 15).2.1 (TX11 15).2.2.1 ∈ aw := aw1 (by decide +kernel)
theorem fz_X11_43 : Cond.fieldLink RX11 43 (TX11 17).1 (TX11 17).2.1 (TX11 17).2.2.1 ∈ aw := aw1 (by decide +kernel)
theorem fz_X11_46 : Cond.fieldLink RX11 46 (TX11 25).1 (TX11 25).2.1 (TX11 25).2.2.1 ∈ aw := aw1 (by decide +kernel)
theorem fz_X11_50 : Cond.fieldLink RX11 50 (TX11 27).1 (TX11 27).2.1 (TX11 27).2.2.1 ∈ aw := aw1 (by decide +kernel)
theorem na_X11_53 : Cond.classLink RX11 53 "java/lang/String" ∈ aw := aw1 (by decide +kernel)
theorem fz_X11_69 : Cond.fieldLink RX11 69 (TX11 28).1 (TX11 28).2.1 (TX11 28).2.2.1 ∈ aw := aw1 (by decide +kernel)
def mdE0 (τ : Hp) (ad : Nat → Nat) : List Ent := [eO 9 [.ref (τ.1 + 1), .ref (τ.1 + 2), .ref (τ.1 + 3), .ref (τ.1 + 4), .ref (τ.1 + 5), .ref (τ.1 + 6), .ref (τ.1 + 7), .ref (τ.1 + 1), .int 0, .int 0, .int 0, .int 0, .int 0, .ref (τ.1 + 8), .ref (τ.1 + 9), .ref (τ.1 + 10), .int 0, .ref (τ.1 + 11), .int 0, .int 0, .int 0, .int 0, .int 0, .int 0, .int 0, .int (-1), .int 0, .ref (τ.1 + 12), .ref (τ.1 + 13), .int 0], eI 257 (fun _ => 0), eI 257 (fun _ => 0), eI 257 (fun _ => 0), eI 257 (fun _ => 0), eI 257 (fun _ => 0), eI 2056 (fun _ => 0), eI 3 (fun _ => 0), eI 24 (fun _ => 0), eI 24 (fun _ => 0), eI 200 (fun _ => 0), eI 700 (fun _ => 0), eI 60 (fun _ => 0), eR 4 7 (va_up (va_up (va_up (va_up (va_up (va_up (va_up (fun _ => none) 0 (some (ad 3))) 1 (some (ad 4))) 2 (some (ad 5))) 3 (some (ad 6))) 4 (some (ad 7))) 5 (some (ad 8))) 6 (some (ad 2)))]
def md_Md_init : Md := (yX11_init, cX11_init, 1, none, 3, 67, 13, 4359)
set_option maxRecDepth 100000 in
set_option maxHeartbeats 4000000 in
theorem w_Md_init {ad : Nat → Nat} {X : Cx} {l : Launch} {g : Gl} (hA : KC g) (hS : KS g ad) (τ : Hp) (hx : Ok X l g RX11 cX11_init 1 md_Md_init.rm) (hin : X.2.2.2.2.2.2.2.2.1.name = "<init>") (h : G X (hadl τ (mdE0 τ ad)) 13 4359 165 [(0, .ref τ.1)] []) : G X (hadl τ [eO 9 [.null, .null, .null, .null, .null, .null, .null, .null, .int 0, .int 0, .int 0, .int 0, .int 0, .null, .null, .null, .int 0, .null, .int 0, .int 0, .int 0, .int 0, .int 0, .int 0, .int 0, .int 0, .int 0, .null, .null, .int 0]]) 0 0 0 [(0, .ref τ.1)] [] := by
  refine g_aload_n hx 0 (i := 0) 0 dX11_init_0 rfl rfl ?_
  refine g_obj hx 1 ob_X11_1 (Nat.le_of_ble_eq_true rfl) ⟨Nat.le_of_ble_eq_true rfl, Nat.le_of_ble_eq_true rfl⟩ dX11_init_1 ?_
  refine g_aload_n hx 4 (i := 0) 0 dX11_init_4 rfl rfl ?_
  refine g_sipush hx 5 (257) dX11_init_5 rfl ?_
  refine g_newI hx 8 257 arc_int (by decide) (by decide) (by decide) ⟨Nat.le_of_ble_eq_true rfl, Nat.le_of_ble_eq_true rfl⟩ dX11_init_8 ?_
  refine G.heap (hadl_push _ _) ?_
  refine G.heap (σ' := hadl τ [eO 9 [.null, .null, .null, .null, .null, .null, .null, .null, .int 0, .int 0, .int 0, .int 0, .int 0, .null, .null, .null, .int 0, .null, .int 0, .int 0, .int 0, .int 0, .int 0, .int 0, .int 0, .int 0, .int 0, .null, .null, .int 0], eI 257 (fun _ => 0)]) (hadl_hadl τ _ _) ?_
  refine g_putF hx 10 (C := RX11) (T := TX11) (N := 30) 0 _ _ hin (hadl_0 τ _ _) rfl (by decide) fz_X11_9 rfl rfl rfl rfl rfl (Nat.le_of_ble_eq_true rfl) rfl dX11_init_10 ?_
  refine G.heap (σ' := hadl τ [eO 9 [.ref (τ.1 + 1), .null, .null, .null, .null, .null, .null, .null, .int 0, .int 0, .int 0, .int 0, .int 0, .null, .null, .null, .int 0, .null, .int 0, .int 0, .int 0, .int 0, .int 0, .int 0, .int 0, .int 0, .int 0, .null, .null, .int 0], eI 257 (fun _ => 0)]) (hadl_set0 τ _ _ _) ?_
  refine g_aload_n hx 13 (i := 0) 0 dX11_init_13 rfl rfl ?_
  refine g_sipush hx 14 (257) dX11_init_14 rfl ?_
  refine g_newI hx 17 257 arc_int (by decide) (by decide) (by decide) ⟨Nat.le_of_ble_eq_true rfl, Nat.le_of_ble_eq_true rfl⟩ dX11_init_17 ?_
  refine G.heap (hadl_push _ _) ?_
  refine G.heap (σ' := hadl τ [eO 9 [.ref (τ.1 + 1), .null, .null, .null, .null, .null, .null, .null, .int 0, .int 0, .int 0, .int 0, .int 0, .null, .null, .null, .int 0, .null, .int 0, .int 0, .int 0, .int 0, .int 0, .int 0, .int 0, .int 0, .int 0, .null, .null, .int 0], eI 257 (fun _ => 0), eI 257 (fun _ => 0)]) (hadl_hadl τ _ _) ?_
  refine g_putF hx 19 (C := RX11) (T := TX11) (N := 30) 1 _ _ hin (hadl_0 τ _ _) rfl (by decide) fz_X11_13 rfl rfl rfl rfl rfl (Nat.le_of_ble_eq_true rfl) rfl dX11_init_19 ?_
  refine G.heap (σ' := hadl τ [eO 9 [.ref (τ.1 + 1), .ref (τ.1 + 2), .null, .null, .null, .null, .null, .null, .int 0, .int 0, .int 0, .int 0, .int 0, .null, .null, .null, .int 0, .null, .int 0, .int 0, .int 0, .int 0, .int 0, .int 0, .int 0, .int 0, .int 0, .null, .null, .int 0], eI 257 (fun _ => 0), eI 257 (fun _ => 0)]) (hadl_set0 τ _ _ _) ?_
  refine g_aload_n hx 22 (i := 0) 0 dX11_init_22 rfl rfl ?_
  refine g_sipush hx 23 (257) dX11_init_23 rfl ?_
  refine g_newI hx 26 257 arc_int (by decide) (by decide) (by decide) ⟨Nat.le_of_ble_eq_true rfl, Nat.le_of_ble_eq_true rfl⟩ dX11_init_26 ?_
  refine G.heap (hadl_push _ _) ?_
  refine G.heap (σ' := hadl τ [eO 9 [.ref (τ.1 + 1), .ref (τ.1 + 2), .null, .null, .null, .null, .null, .null, .int 0, .int 0, .int 0, .int 0, .int 0, .null, .null, .null, .int 0, .null, .int 0, .int 0, .int 0, .int 0, .int 0, .int 0, .int 0, .int 0, .int 0, .null, .null, .int 0], eI 257 (fun _ => 0), eI 257 (fun _ => 0), eI 257 (fun _ => 0)]) (hadl_hadl τ _ _) ?_
  refine g_putF hx 28 (C := RX11) (T := TX11) (N := 30) 2 _ _ hin (hadl_0 τ _ _) rfl (by decide) fz_X11_16 rfl rfl rfl rfl rfl (Nat.le_of_ble_eq_true rfl) rfl dX11_init_28 ?_
  refine G.heap (σ' := hadl τ [eO 9 [.ref (τ.1 + 1), .ref (τ.1 + 2), .ref (τ.1 + 3), .null, .null, .null, .null, .null, .int 0, .int 0, .int 0, .int 0, .int 0, .null, .null, .null, .int 0, .null, .int 0, .int 0, .int 0, .int 0, .int 0, .int 0, .int 0, .int 0, .int 0, .null, .null, .int 0], eI 257 (fun _ => 0), eI 257 (fun _ => 0), eI 257 (fun _ => 0)]) (hadl_set0 τ _ _ _) ?_
  refine g_aload_n hx 31 (i := 0) 0 dX11_init_31 rfl rfl ?_
  refine g_sipush hx 32 (257) dX11_init_32 rfl ?_
  refine g_newI hx 35 257 arc_int (by decide) (by decide) (by decide) ⟨Nat.le_of_ble_eq_true rfl, Nat.le_of_ble_eq_true rfl⟩ dX11_init_35 ?_
  refine G.heap (hadl_push _ _) ?_
  refine G.heap (σ' := hadl τ [eO 9 [.ref (τ.1 + 1), .ref (τ.1 + 2), .ref (τ.1 + 3), .null, .null, .null, .null, .null, .int 0, .int 0, .int 0, .int 0, .int 0, .null, .null, .null, .int 0, .null, .int 0, .int 0, .int 0, .int 0, .int 0, .int 0, .int 0, .int 0, .int 0, .null, .null, .int 0], eI 257 (fun _ => 0), eI 257 (fun _ => 0), eI 257 (fun _ => 0), eI 257 (fun _ => 0)]) (hadl_hadl τ _ _) ?_
  refine g_putF hx 37 (C := RX11) (T := TX11) (N := 30) 3 _ _ hin (hadl_0 τ _ _) rfl (by decide) fz_X11_19 rfl rfl rfl rfl rfl (Nat.le_of_ble_eq_true rfl) rfl dX11_init_37 ?_
  refine G.heap (σ' := hadl τ [eO 9 [.ref (τ.1 + 1), .ref (τ.1 + 2), .ref (τ.1 + 3), .ref (τ.1 + 4), .null, .null, .null, .null, .int 0, .int 0, .int 0, .int 0, .int 0, .null, .null, .null, .int 0, .null, .int 0, .int 0, .int 0, .int 0, .int 0, .int 0, .int 0, .int 0, .int 0, .null, .null, .int 0], eI 257 (fun _ => 0), eI 257 (fun _ => 0), eI 257 (fun _ => 0), eI 257 (fun _ => 0)]) (hadl_set0 τ _ _ _) ?_
  refine g_aload_n hx 40 (i := 0) 0 dX11_init_40 rfl rfl ?_
  refine g_sipush hx 41 (257) dX11_init_41 rfl ?_
  refine g_newI hx 44 257 arc_int (by decide) (by decide) (by decide) ⟨Nat.le_of_ble_eq_true rfl, Nat.le_of_ble_eq_true rfl⟩ dX11_init_44 ?_
  refine G.heap (hadl_push _ _) ?_
  refine G.heap (σ' := hadl τ [eO 9 [.ref (τ.1 + 1), .ref (τ.1 + 2), .ref (τ.1 + 3), .ref (τ.1 + 4), .null, .null, .null, .null, .int 0, .int 0, .int 0, .int 0, .int 0, .null, .null, .null, .int 0, .null, .int 0, .int 0, .int 0, .int 0, .int 0, .int 0, .int 0, .int 0, .int 0, .null, .null, .int 0], eI 257 (fun _ => 0), eI 257 (fun _ => 0), eI 257 (fun _ => 0), eI 257 (fun _ => 0), eI 257 (fun _ => 0)]) (hadl_hadl τ _ _) ?_
  refine g_putF hx 46 (C := RX11) (T := TX11) (N := 30) 4 _ _ hin (hadl_0 τ _ _) rfl (by decide) fz_X11_22 rfl rfl rfl rfl rfl (Nat.le_of_ble_eq_true rfl) rfl dX11_init_46 ?_
  refine G.heap (σ' := hadl τ [eO 9 [.ref (τ.1 + 1), .ref (τ.1 + 2), .ref (τ.1 + 3), .ref (τ.1 + 4), .ref (τ.1 + 5), .null, .null, .null, .int 0, .int 0, .int 0, .int 0, .int 0, .null, .null, .null, .int 0, .null, .int 0, .int 0, .int 0, .int 0, .int 0, .int 0, .int 0, .int 0, .int 0, .null, .null, .int 0], eI 257 (fun _ => 0), eI 257 (fun _ => 0), eI 257 (fun _ => 0), eI 257 (fun _ => 0), eI 257 (fun _ => 0)]) (hadl_set0 τ _ _ _) ?_
  refine g_aload_n hx 49 (i := 0) 0 dX11_init_49 rfl rfl ?_
  refine g_sipush hx 50 (2056) dX11_init_50 rfl ?_
  refine g_newI hx 53 2056 arc_int (by decide) (by decide) (by decide) ⟨Nat.le_of_ble_eq_true rfl, Nat.le_of_ble_eq_true rfl⟩ dX11_init_53 ?_
  refine G.heap (hadl_push _ _) ?_
  refine G.heap (σ' := hadl τ [eO 9 [.ref (τ.1 + 1), .ref (τ.1 + 2), .ref (τ.1 + 3), .ref (τ.1 + 4), .ref (τ.1 + 5), .null, .null, .null, .int 0, .int 0, .int 0, .int 0, .int 0, .null, .null, .null, .int 0, .null, .int 0, .int 0, .int 0, .int 0, .int 0, .int 0, .int 0, .int 0, .int 0, .null, .null, .int 0], eI 257 (fun _ => 0), eI 257 (fun _ => 0), eI 257 (fun _ => 0), eI 257 (fun _ => 0), eI 257 (fun _ => 0), eI 2056 (fun _ => 0)]) (hadl_hadl τ _ _) ?_
  refine g_putF hx 55 (C := RX11) (T := TX11) (N := 30) 5 _ _ hin (hadl_0 τ _ _) rfl (by decide) fz_X11_25 rfl rfl rfl rfl rfl (Nat.le_of_ble_eq_true rfl) rfl dX11_init_55 ?_
  refine G.heap (σ' := hadl τ [eO 9 [.ref (τ.1 + 1), .ref (τ.1 + 2), .ref (τ.1 + 3), .ref (τ.1 + 4), .ref (τ.1 + 5), .ref (τ.1 + 6), .null, .null, .int 0, .int 0, .int 0, .int 0, .int 0, .null, .null, .null, .int 0, .null, .int 0, .int 0, .int 0, .int 0, .int 0, .int 0, .int 0, .int 0, .int 0, .null, .null, .int 0], eI 257 (fun _ => 0), eI 257 (fun _ => 0), eI 257 (fun _ => 0), eI 257 (fun _ => 0), eI 257 (fun _ => 0), eI 2056 (fun _ => 0)]) (hadl_set0 τ _ _ _) ?_
  refine g_aload_n hx 58 (i := 0) 0 dX11_init_58 rfl rfl ?_
  refine g_iconst hx 59 (3) dX11_init_59 rfl ?_
  refine g_newI hx 60 3 arc_int (by decide) (by decide) (by decide) ⟨Nat.le_of_ble_eq_true rfl, Nat.le_of_ble_eq_true rfl⟩ dX11_init_60 ?_
  refine G.heap (hadl_push _ _) ?_
  refine G.heap (σ' := hadl τ [eO 9 [.ref (τ.1 + 1), .ref (τ.1 + 2), .ref (τ.1 + 3), .ref (τ.1 + 4), .ref (τ.1 + 5), .ref (τ.1 + 6), .null, .null, .int 0, .int 0, .int 0, .int 0, .int 0, .null, .null, .null, .int 0, .null, .int 0, .int 0, .int 0, .int 0, .int 0, .int 0, .int 0, .int 0, .int 0, .null, .null, .int 0], eI 257 (fun _ => 0), eI 257 (fun _ => 0), eI 257 (fun _ => 0), eI 257 (fun _ => 0), eI 257 (fun _ => 0), eI 2056 (fun _ => 0), eI 3 (fun _ => 0)]) (hadl_hadl τ _ _) ?_
  refine g_putF hx 62 (C := RX11) (T := TX11) (N := 30) 6 _ _ hin (hadl_0 τ _ _) rfl (by decide) fz_X11_28 rfl rfl rfl rfl rfl (Nat.le_of_ble_eq_true rfl) rfl dX11_init_62 ?_
  refine G.heap (σ' := hadl τ [eO 9 [.ref (τ.1 + 1), .ref (τ.1 + 2), .ref (τ.1 + 3), .ref (τ.1 + 4), .ref (τ.1 + 5), .ref (τ.1 + 6), .ref (τ.1 + 7), .null, .int 0, .int 0, .int 0, .int 0, .int 0, .null, .null, .null, .int 0, .null, .int 0, .int 0, .int 0, .int 0, .int 0, .int 0, .int 0, .int 0, .int 0, .null, .null, .int 0], eI 257 (fun _ => 0), eI 257 (fun _ => 0), eI 257 (fun _ => 0), eI 257 (fun _ => 0), eI 257 (fun _ => 0), eI 2056 (fun _ => 0), eI 3 (fun _ => 0)]) (hadl_set0 τ _ _ _) ?_
  refine g_aload_n hx 65 (i := 0) 0 dX11_init_65 rfl rfl ?_
  refine g_aload_n hx 66 (i := 0) 0 dX11_init_66 rfl rfl ?_
  refine g_get hx 67 (C := RX11) (T := TX11) (N := 30) 0 (.ref (τ.1 + 1)) (hadl_0 τ _ _) rfl (by decide) rfl fz_X11_9 dX11_init_67 ?_
  refine g_put hx 70 (C := RX11) (T := TX11) (N := 30) 7 _ _ (hadl_0 τ _ _) rfl (by decide) fz_X11_31 rfl rfl rfl rfl (Nat.le_of_ble_eq_true rfl) rfl dX11_init_70 ?_
  refine G.heap (σ' := hadl τ [eO 9 [.ref (τ.1 + 1), .ref (τ.1 + 2), .ref (τ.1 + 3), .ref (τ.1 + 4), .ref (τ.1 + 5), .ref (τ.1 + 6), .ref (τ.1 + 7), .ref (τ.1 + 1), .int 0, .int 0, .int 0, .int 0, .int 0, .null, .null, .null, .int 0, .null, .int 0, .int 0, .int 0, .int 0, .int 0, .int 0, .int 0, .int 0, .int 0, .null, .null, .int 0], eI 257 (fun _ => 0), eI 257 (fun _ => 0), eI 257 (fun _ => 0), eI 257 (fun _ => 0), eI 257 (fun _ => 0), eI 2056 (fun _ => 0), eI 3 (fun _ => 0)]) (hadl_set0 τ _ _ _) ?_
  refine g_aload_n hx 73 (i := 0) 0 dX11_init_73 rfl rfl ?_
  refine g_bipush hx 74 (24) dX11_init_74 rfl ?_
  refine g_newI hx 76 24 arc_int (by decide) (by decide) (by decide) ⟨Nat.le_of_ble_eq_true rfl, Nat.le_of_ble_eq_true rfl⟩ dX11_init_76 ?_
  refine G.heap (hadl_push _ _) ?_
  refine G.heap (σ' := hadl τ [eO 9 [.ref (τ.1 + 1), .ref (τ.1 + 2), .ref (τ.1 + 3), .ref (τ.1 + 4), .ref (τ.1 + 5), .ref (τ.1 + 6), .ref (τ.1 + 7), .ref (τ.1 + 1), .int 0, .int 0, .int 0, .int 0, .int 0, .null, .null, .null, .int 0, .null, .int 0, .int 0, .int 0, .int 0, .int 0, .int 0, .int 0, .int 0, .int 0, .null, .null, .int 0], eI 257 (fun _ => 0), eI 257 (fun _ => 0), eI 257 (fun _ => 0), eI 257 (fun _ => 0), eI 257 (fun _ => 0), eI 2056 (fun _ => 0), eI 3 (fun _ => 0), eI 24 (fun _ => 0)]) (hadl_hadl τ _ _) ?_
  refine g_putF hx 78 (C := RX11) (T := TX11) (N := 30) 13 _ _ hin (hadl_0 τ _ _) rfl (by decide) fz_X11_34 rfl rfl rfl rfl rfl (Nat.le_of_ble_eq_true rfl) rfl dX11_init_78 ?_
  refine G.heap (σ' := hadl τ [eO 9 [.ref (τ.1 + 1), .ref (τ.1 + 2), .ref (τ.1 + 3), .ref (τ.1 + 4), .ref (τ.1 + 5), .ref (τ.1 + 6), .ref (τ.1 + 7), .ref (τ.1 + 1), .int 0, .int 0, .int 0, .int 0, .int 0, .ref (τ.1 + 8), .null, .null, .int 0, .null, .int 0, .int 0, .int 0, .int 0, .int 0, .int 0, .int 0, .int 0, .int 0, .null, .null, .int 0], eI 257 (fun _ => 0), eI 257 (fun _ => 0), eI 257 (fun _ => 0), eI 257 (fun _ => 0), eI 257 (fun _ => 0), eI 2056 (fun _ => 0), eI 3 (fun _ => 0), eI 24 (fun _ => 0)]) (hadl_set0 τ _ _ _) ?_
  refine g_aload_n hx 81 (i := 0) 0 dX11_init_81 rfl rfl ?_
  refine g_bipush hx 82 (24) dX11_init_82 rfl ?_
  refine g_newI hx 84 24 arc_int (by decide) (by decide) (by decide) ⟨Nat.le_of_ble_eq_true rfl, Nat.le_of_ble_eq_true rfl⟩ dX11_init_84 ?_
  refine G.heap (hadl_push _ _) ?_
  refine G.heap (σ' := hadl τ [eO 9 [.ref (τ.1 + 1), .ref (τ.1 + 2), .ref (τ.1 + 3), .ref (τ.1 + 4), .ref (τ.1 + 5), .ref (τ.1 + 6), .ref (τ.1 + 7), .ref (τ.1 + 1), .int 0, .int 0, .int 0, .int 0, .int 0, .ref (τ.1 + 8), .null, .null, .int 0, .null, .int 0, .int 0, .int 0, .int 0, .int 0, .int 0, .int 0, .int 0, .int 0, .null, .null, .int 0], eI 257 (fun _ => 0), eI 257 (fun _ => 0), eI 257 (fun _ => 0), eI 257 (fun _ => 0), eI 257 (fun _ => 0), eI 2056 (fun _ => 0), eI 3 (fun _ => 0), eI 24 (fun _ => 0), eI 24 (fun _ => 0)]) (hadl_hadl τ _ _) ?_
  refine g_putF hx 86 (C := RX11) (T := TX11) (N := 30) 14 _ _ hin (hadl_0 τ _ _) rfl (by decide) fz_X11_37 rfl rfl rfl rfl rfl (Nat.le_of_ble_eq_true rfl) rfl dX11_init_86 ?_
  refine G.heap (σ' := hadl τ [eO 9 [.ref (τ.1 + 1), .ref (τ.1 + 2), .ref (τ.1 + 3), .ref (τ.1 + 4), .ref (τ.1 + 5), .ref (τ.1 + 6), .ref (τ.1 + 7), .ref (τ.1 + 1), .int 0, .int 0, .int 0, .int 0, .int 0, .ref (τ.1 + 8), .ref (τ.1 + 9), .null, .int 0, .null, .int 0, .int 0, .int 0, .int 0, .int 0, .int 0, .int 0, .int 0, .int 0, .null, .null, .int 0], eI 257 (fun _ => 0), eI 257 (fun _ => 0), eI 257 (fun _ => 0), eI 257 (fun _ => 0), eI 257 (fun _ => 0), eI 2056 (fun _ => 0), eI 3 (fun _ => 0), eI 24 (fun _ => 0), eI 24 (fun _ => 0)]) (hadl_set0 τ _ _ _) ?_
  refine g_aload_n hx 89 (i := 0) 0 dX11_init_89 rfl rfl ?_
  refine g_sipush hx 90 (200) dX11_init_90 rfl ?_
  refine g_newI hx 93 200 arc_int (by decide) (by decide) (by decide) ⟨Nat.le_of_ble_eq_true rfl, Nat.le_of_ble_eq_true rfl⟩ dX11_init_93 ?_
  refine G.heap (hadl_push _ _) ?_
  refine G.heap (σ' := hadl τ [eO 9 [.ref (τ.1 + 1), .ref (τ.1 + 2), .ref (τ.1 + 3), .ref (τ.1 + 4), .ref (τ.1 + 5), .ref (τ.1 + 6), .ref (τ.1 + 7), .ref (τ.1 + 1), .int 0, .int 0, .int 0, .int 0, .int 0, .ref (τ.1 + 8), .ref (τ.1 + 9), .null, .int 0, .null, .int 0, .int 0, .int 0, .int 0, .int 0, .int 0, .int 0, .int 0, .int 0, .null, .null, .int 0], eI 257 (fun _ => 0), eI 257 (fun _ => 0), eI 257 (fun _ => 0), eI 257 (fun _ => 0), eI 257 (fun _ => 0), eI 2056 (fun _ => 0), eI 3 (fun _ => 0), eI 24 (fun _ => 0), eI 24 (fun _ => 0), eI 200 (fun _ => 0)]) (hadl_hadl τ _ _) ?_
  refine g_putF hx 95 (C := RX11) (T := TX11) (N := 30) 15 _ _ hin (hadl_0 τ _ _) rfl (by decide) fz_X11_40 rfl rfl rfl rfl rfl (Nat.le_of_ble_eq_true rfl) rfl dX11_init_95 ?_
  refine G.heap (σ' := hadl τ [eO 9 [.ref (τ.1 + 1), .ref (τ.1 + 2), .ref (τ.1 + 3), .ref (τ.1 + 4), .ref (τ.1 + 5), .ref (τ.1 + 6), .ref (τ.1 + 7), .ref (τ.1 + 1), .int 0, .int 0, .int 0, .int 0, .int 0, .ref (τ.1 + 8), .ref (τ.1 + 9), .ref (τ.1 + 10), .int 0, .null, .int 0, .int 0, .int 0, .int 0, .int 0, .int 0, .int 0, .int 0, .int 0, .null, .null, .int 0], eI 257 (fun _ => 0), eI 257 (fun _ => 0), eI 257 (fun _ => 0), eI 257 (fun _ => 0), eI 257 (fun _ => 0), eI 2056 (fun _ => 0), eI 3 (fun _ => 0), eI 24 (fun _ => 0), eI 24 (fun _ => 0), eI 200 (fun _ => 0)]) (hadl_set0 τ _ _ _) ?_
  refine g_aload_n hx 98 (i := 0) 0 dX11_init_98 rfl rfl ?_
  refine g_sipush hx 99 (700) dX11_init_99 rfl ?_
  refine g_newI hx 102 700 arc_int (by decide) (by decide) (by decide) ⟨Nat.le_of_ble_eq_true rfl, Nat.le_of_ble_eq_true rfl⟩ dX11_init_102 ?_
  refine G.heap (hadl_push _ _) ?_
  refine G.heap (σ' := hadl τ [eO 9 [.ref (τ.1 + 1), .ref (τ.1 + 2), .ref (τ.1 + 3), .ref (τ.1 + 4), .ref (τ.1 + 5), .ref (τ.1 + 6), .ref (τ.1 + 7), .ref (τ.1 + 1), .int 0, .int 0, .int 0, .int 0, .int 0, .ref (τ.1 + 8), .ref (τ.1 + 9), .ref (τ.1 + 10), .int 0, .null, .int 0, .int 0, .int 0, .int 0, .int 0, .int 0, .int 0, .int 0, .int 0, .null, .null, .int 0], eI 257 (fun _ => 0), eI 257 (fun _ => 0), eI 257 (fun _ => 0), eI 257 (fun _ => 0), eI 257 (fun _ => 0), eI 2056 (fun _ => 0), eI 3 (fun _ => 0), eI 24 (fun _ => 0), eI 24 (fun _ => 0), eI 200 (fun _ => 0), eI 700 (fun _ => 0)]) (hadl_hadl τ _ _) ?_
  refine g_putF hx 104 (C := RX11) (T := TX11) (N := 30) 17 _ _ hin (hadl_0 τ _ _) rfl (by decide) fz_X11_43 rfl rfl rfl rfl rfl (Nat.le_of_ble_eq_true rfl) rfl dX11_init_104 ?_
  refine G.heap (σ' := hadl τ [eO 9 [.ref (τ.1 + 1), .ref (τ.1 + 2), .ref (τ.1 + 3), .ref (τ.1 + 4), .ref (τ.1 + 5), .ref (τ.1 + 6), .ref (τ.1 + 7), .ref (τ.1 + 1), .int 0, .int 0, .int 0, .int 0, .int 0, .ref (τ.1 + 8), .ref (τ.1 + 9), .ref (τ.1 + 10), .int 0, .ref (τ.1 + 11), .int 0, .int 0, .int 0, .int 0, .int 0, .int 0, .int 0, .int 0, .int 0, .null, .null, .int 0], eI 257 (fun _ => 0), eI 257 (fun _ => 0), eI 257 (fun _ => 0), eI 257 (fun _ => 0), eI 257 (fun _ => 0), eI 2056 (fun _ => 0), eI 3 (fun _ => 0), eI 24 (fun _ => 0), eI 24 (fun _ => 0), eI 200 (fun _ => 0), eI 700 (fun _ => 0)]) (hadl_set0 τ _ _ _) ?_
  refine g_aload_n hx 107 (i := 0) 0 dX11_init_107 rfl rfl ?_
  refine g_iconst hx 108 (-1) dX11_init_108 rfl ?_
  refine g_put hx 109 (C := RX11) (T := TX11) (N := 30) 25 .int _ (hadl_0 τ _ _) rfl (by decide) fz_X11_46 rfl rfl rfl rfl (Nat.le_of_ble_eq_true rfl) rfl dX11_init_109 ?_
  refine G.heap (σ' := hadl τ [eO 9 [.ref (τ.1 + 1), .ref (τ.1 + 2), .ref (τ.1 + 3), .ref (τ.1 + 4), .ref (τ.1 + 5), .ref (τ.1 + 6), .ref (τ.1 + 7), .ref (τ.1 + 1), .int 0, .int 0, .int 0, .int 0, .int 0, .ref (τ.1 + 8), .ref (τ.1 + 9), .ref (τ.1 + 10), .int 0, .ref (τ.1 + 11), .int 0, .int 0, .int 0, .int 0, .int 0, .int 0, .int 0, .int (-1), .int 0, .null, .null, .int 0], eI 257 (fun _ => 0), eI 257 (fun _ => 0), eI 257 (fun _ => 0), eI 257 (fun _ => 0), eI 257 (fun _ => 0), eI 2056 (fun _ => 0), eI 3 (fun _ => 0), eI 24 (fun _ => 0), eI 24 (fun _ => 0), eI 200 (fun _ => 0), eI 700 (fun _ => 0)]) (hadl_set0 τ _ _ _) ?_
  refine g_aload_n hx 112 (i := 0) 0 dX11_init_112 rfl rfl ?_
  refine g_bipush hx 113 (60) dX11_init_113 rfl ?_
  refine g_newI hx 115 60 arc_int (by decide) (by decide) (by decide) ⟨Nat.le_of_ble_eq_true rfl, Nat.le_of_ble_eq_true rfl⟩ dX11_init_115 ?_
  refine G.heap (hadl_push _ _) ?_
  refine G.heap (σ' := hadl τ [eO 9 [.ref (τ.1 + 1), .ref (τ.1 + 2), .ref (τ.1 + 3), .ref (τ.1 + 4), .ref (τ.1 + 5), .ref (τ.1 + 6), .ref (τ.1 + 7), .ref (τ.1 + 1), .int 0, .int 0, .int 0, .int 0, .int 0, .ref (τ.1 + 8), .ref (τ.1 + 9), .ref (τ.1 + 10), .int 0, .ref (τ.1 + 11), .int 0, .int 0, .int 0, .int 0, .int 0, .int 0, .int 0, .int (-1), .int 0, .null, .null, .int 0], eI 257 (fun _ => 0), eI 257 (fun _ => 0), eI 257 (fun _ => 0), eI 257 (fun _ => 0), eI 257 (fun _ => 0), eI 2056 (fun _ => 0), eI 3 (fun _ => 0), eI 24 (fun _ => 0), eI 24 (fun _ => 0), eI 200 (fun _ => 0), eI 700 (fun _ => 0), eI 60 (fun _ => 0)]) (hadl_hadl τ _ _) ?_
  refine g_putF hx 117 (C := RX11) (T := TX11) (N := 30) 27 _ _ hin (hadl_0 τ _ _) rfl (by decide) fz_X11_50 rfl rfl rfl rfl rfl (Nat.le_of_ble_eq_true rfl) rfl dX11_init_117 ?_
  refine G.heap (σ' := hadl τ [eO 9 [.ref (τ.1 + 1), .ref (τ.1 + 2), .ref (τ.1 + 3), .ref (τ.1 + 4), .ref (τ.1 + 5), .ref (τ.1 + 6), .ref (τ.1 + 7), .ref (τ.1 + 1), .int 0, .int 0, .int 0, .int 0, .int 0, .ref (τ.1 + 8), .ref (τ.1 + 9), .ref (τ.1 + 10), .int 0, .ref (τ.1 + 11), .int 0, .int 0, .int 0, .int 0, .int 0, .int 0, .int 0, .int (-1), .int 0, .ref (τ.1 + 12), .null, .int 0], eI 257 (fun _ => 0), eI 257 (fun _ => 0), eI 257 (fun _ => 0), eI 257 (fun _ => 0), eI 257 (fun _ => 0), eI 2056 (fun _ => 0), eI 3 (fun _ => 0), eI 24 (fun _ => 0), eI 24 (fun _ => 0), eI 200 (fun _ => 0), eI 700 (fun _ => 0), eI 60 (fun _ => 0)]) (hadl_set0 τ _ _ _) ?_
  refine g_aload_n hx 120 (i := 0) 0 dX11_init_120 rfl rfl ?_
  refine g_bipush hx 121 (7) dX11_init_121 rfl ?_
  refine g_newR hx 123 (C := "java/lang/String") 7 4 na_X11_53 (fun U hU => (hA U hU).1.2.2) rfl (by decide) (by decide) (by decide) ⟨Nat.le_of_ble_eq_true rfl, Nat.le_of_ble_eq_true rfl⟩ dX11_init_123 ?_
  refine G.heap (hadl_push _ _) ?_
  refine G.heap (σ' := hadl τ [eO 9 [.ref (τ.1 + 1), .ref (τ.1 + 2), .ref (τ.1 + 3), .ref (τ.1 + 4), .ref (τ.1 + 5), .ref (τ.1 + 6), .ref (τ.1 + 7), .ref (τ.1 + 1), .int 0, .int 0, .int 0, .int 0, .int 0, .ref (τ.1 + 8), .ref (τ.1 + 9), .ref (τ.1 + 10), .int 0, .ref (τ.1 + 11), .int 0, .int 0, .int 0, .int 0, .int 0, .int 0, .int 0, .int (-1), .int 0, .ref (τ.1 + 12), .null, .int 0], eI 257 (fun _ => 0), eI 257 (fun _ => 0), eI 257 (fun _ => 0), eI 257 (fun _ => 0), eI 257 (fun _ => 0), eI 2056 (fun _ => 0), eI 3 (fun _ => 0), eI 24 (fun _ => 0), eI 24 (fun _ => 0), eI 200 (fun _ => 0), eI 700 (fun _ => 0), eI 60 (fun _ => 0), eR 4 7 (fun _ => none)]) (hadl_hadl τ _ _) ?_
  refine g_dup hx 126 dX11_init_126 rfl ?_
  refine g_iconst hx 127 (0) dX11_init_127 rfl ?_
  refine g_ldcS hx 128 (hS.2.2 _ (List.mem_of_getElem? (i := 15) rfl)) dX11_init_128 ?_
  refine g_astS hx 130 (hadl_get τ _ 13 (Nat.le_of_ble_eq_true rfl)) (hS.2.1 3 (by decide)) (by decide : inB 0 7) dX11_init_130 ?_
  refine G.heap (σ' := hadl τ [eO 9 [.ref (τ.1 + 1), .ref (τ.1 + 2), .ref (τ.1 + 3), .ref (τ.1 + 4), .ref (τ.1 + 5), .ref (τ.1 + 6), .ref (τ.1 + 7), .ref (τ.1 + 1), .int 0, .int 0, .int 0, .int 0, .int 0, .ref (τ.1 + 8), .ref (τ.1 + 9), .ref (τ.1 + 10), .int 0, .ref (τ.1 + 11), .int 0, .int 0, .int 0, .int 0, .int 0, .int 0, .int 0, .int (-1), .int 0, .ref (τ.1 + 12), .null, .int 0], eI 257 (fun _ => 0), eI 257 (fun _ => 0), eI 257 (fun _ => 0), eI 257 (fun _ => 0), eI 257 (fun _ => 0), eI 2056 (fun _ => 0), eI 3 (fun _ => 0), eI 24 (fun _ => 0), eI 24 (fun _ => 0), eI 200 (fun _ => 0), eI 700 (fun _ => 0), eI 60 (fun _ => 0), eR 4 7 (va_up (fun _ => none) 0 (some (ad 3)))]) (hadl_set τ _ 13 _ (Nat.le_of_ble_eq_true rfl)) ?_
  refine g_dup hx 131 dX11_init_131 rfl ?_
  refine g_iconst hx 132 (1) dX11_init_132 rfl ?_
  refine g_ldcS hx 133 (hS.2.2 _ (List.mem_of_getElem? (i := 16) rfl)) dX11_init_133 ?_
  refine g_astS hx 135 (hadl_get τ _ 13 (Nat.le_of_ble_eq_true rfl)) (hS.2.1 4 (by decide)) (by decide : inB 1 7) dX11_init_135 ?_
  refine G.heap (σ' := hadl τ [eO 9 [.ref (τ.1 + 1), .ref (τ.1 + 2), .ref (τ.1 + 3), .ref (τ.1 + 4), .ref (τ.1 + 5), .ref (τ.1 + 6), .ref (τ.1 + 7), .ref (τ.1 + 1), .int 0, .int 0, .int 0, .int 0, .int 0, .ref (τ.1 + 8), .ref (τ.1 + 9), .ref (τ.1 + 10), .int 0, .ref (τ.1 + 11), .int 0, .int 0, .int 0, .int 0, .int 0, .int 0, .int 0, .int (-1), .int 0, .ref (τ.1 + 12), .null, .int 0], eI 257 (fun _ => 0), eI 257 (fun _ => 0), eI 257 (fun _ => 0), eI 257 (fun _ => 0), eI 257 (fun _ => 0), eI 2056 (fun _ => 0), eI 3 (fun _ => 0), eI 24 (fun _ => 0), eI 24 (fun _ => 0), eI 200 (fun _ => 0), eI 700 (fun _ => 0), eI 60 (fun _ => 0), eR 4 7 (va_up (va_up (fun _ => none) 0 (some (ad 3))) 1 (some (ad 4)))]) (hadl_set τ _ 13 _ (Nat.le_of_ble_eq_true rfl)) ?_
  refine g_dup hx 136 dX11_init_136 rfl ?_
  refine g_iconst hx 137 (2) dX11_init_137 rfl ?_
  refine g_ldcS hx 138 (hS.2.2 _ (List.mem_of_getElem? (i := 17) rfl)) dX11_init_138 ?_
  refine g_astS hx 140 (hadl_get τ _ 13 (Nat.le_of_ble_eq_true rfl)) (hS.2.1 5 (by decide)) (by decide : inB 2 7) dX11_init_140 ?_
  refine G.heap (σ' := hadl τ [eO 9 [.ref (τ.1 + 1), .ref (τ.1 + 2), .ref (τ.1 + 3), .ref (τ.1 + 4), .ref (τ.1 + 5), .ref (τ.1 + 6), .ref (τ.1 + 7), .ref (τ.1 + 1), .int 0, .int 0, .int 0, .int 0, .int 0, .ref (τ.1 + 8), .ref (τ.1 + 9), .ref (τ.1 + 10), .int 0, .ref (τ.1 + 11), .int 0, .int 0, .int 0, .int 0, .int 0, .int 0, .int 0, .int (-1), .int 0, .ref (τ.1 + 12), .null, .int 0], eI 257 (fun _ => 0), eI 257 (fun _ => 0), eI 257 (fun _ => 0), eI 257 (fun _ => 0), eI 257 (fun _ => 0), eI 2056 (fun _ => 0), eI 3 (fun _ => 0), eI 24 (fun _ => 0), eI 24 (fun _ => 0), eI 200 (fun _ => 0), eI 700 (fun _ => 0), eI 60 (fun _ => 0), eR 4 7 (va_up (va_up (va_up (fun _ => none) 0 (some (ad 3))) 1 (some (ad 4))) 2 (some (ad 5)))]) (hadl_set τ _ 13 _ (Nat.le_of_ble_eq_true rfl)) ?_
  refine g_dup hx 141 dX11_init_141 rfl ?_
  refine g_iconst hx 142 (3) dX11_init_142 rfl ?_
  refine g_ldcS hx 143 (hS.2.2 _ (List.mem_of_getElem? (i := 18) rfl)) dX11_init_143 ?_
  refine g_astS hx 145 (hadl_get τ _ 13 (Nat.le_of_ble_eq_true rfl)) (hS.2.1 6 (by decide)) (by decide : inB 3 7) dX11_init_145 ?_
  refine G.heap (σ' := hadl τ [eO 9 [.ref (τ.1 + 1), .ref (τ.1 + 2), .ref (τ.1 + 3), .ref (τ.1 + 4), .ref (τ.1 + 5), .ref (τ.1 + 6), .ref (τ.1 + 7), .ref (τ.1 + 1), .int 0, .int 0, .int 0, .int 0, .int 0, .ref (τ.1 + 8), .ref (τ.1 + 9), .ref (τ.1 + 10), .int 0, .ref (τ.1 + 11), .int 0, .int 0, .int 0, .int 0, .int 0, .int 0, .int 0, .int (-1), .int 0, .ref (τ.1 + 12), .null, .int 0], eI 257 (fun _ => 0), eI 257 (fun _ => 0), eI 257 (fun _ => 0), eI 257 (fun _ => 0), eI 257 (fun _ => 0), eI 2056 (fun _ => 0), eI 3 (fun _ => 0), eI 24 (fun _ => 0), eI 24 (fun _ => 0), eI 200 (fun _ => 0), eI 700 (fun _ => 0), eI 60 (fun _ => 0), eR 4 7 (va_up (va_up (va_up (va_up (fun _ => none) 0 (some (ad 3))) 1 (some (ad 4))) 2 (some (ad 5))) 3 (some (ad 6)))]) (hadl_set τ _ 13 _ (Nat.le_of_ble_eq_true rfl)) ?_
  refine g_dup hx 146 dX11_init_146 rfl ?_
  refine g_iconst hx 147 (4) dX11_init_147 rfl ?_
  refine g_ldcS hx 148 (hS.2.2 _ (List.mem_of_getElem? (i := 19) rfl)) dX11_init_148 ?_
  refine g_astS hx 150 (hadl_get τ _ 13 (Nat.le_of_ble_eq_true rfl)) (hS.2.1 7 (by decide)) (by decide : inB 4 7) dX11_init_150 ?_
  refine G.heap (σ' := hadl τ [eO 9 [.ref (τ.1 + 1), .ref (τ.1 + 2), .ref (τ.1 + 3), .ref (τ.1 + 4), .ref (τ.1 + 5), .ref (τ.1 + 6), .ref (τ.1 + 7), .ref (τ.1 + 1), .int 0, .int 0, .int 0, .int 0, .int 0, .ref (τ.1 + 8), .ref (τ.1 + 9), .ref (τ.1 + 10), .int 0, .ref (τ.1 + 11), .int 0, .int 0, .int 0, .int 0, .int 0, .int 0, .int 0, .int (-1), .int 0, .ref (τ.1 + 12), .null, .int 0], eI 257 (fun _ => 0), eI 257 (fun _ => 0), eI 257 (fun _ => 0), eI 257 (fun _ => 0), eI 257 (fun _ => 0), eI 2056 (fun _ => 0), eI 3 (fun _ => 0), eI 24 (fun _ => 0), eI 24 (fun _ => 0), eI 200 (fun _ => 0), eI 700 (fun _ => 0), eI 60 (fun _ => 0), eR 4 7 (va_up (va_up (va_up (va_up (va_up (fun _ => none) 0 (some (ad 3))) 1 (some (ad 4))) 2 (some (ad 5))) 3 (some (ad 6))) 4 (some (ad 7)))]) (hadl_set τ _ 13 _ (Nat.le_of_ble_eq_true rfl)) ?_
  refine g_dup hx 151 dX11_init_151 rfl ?_
  refine g_iconst hx 152 (5) dX11_init_152 rfl ?_
  refine g_ldcS hx 153 (hS.2.2 _ (List.mem_of_getElem? (i := 20) rfl)) dX11_init_153 ?_
  refine g_astS hx 155 (hadl_get τ _ 13 (Nat.le_of_ble_eq_true rfl)) (hS.2.1 8 (by decide)) (by decide : inB 5 7) dX11_init_155 ?_
  refine G.heap (σ' := hadl τ [eO 9 [.ref (τ.1 + 1), .ref (τ.1 + 2), .ref (τ.1 + 3), .ref (τ.1 + 4), .ref (τ.1 + 5), .ref (τ.1 + 6), .ref (τ.1 + 7), .ref (τ.1 + 1), .int 0, .int 0, .int 0, .int 0, .int 0, .ref (τ.1 + 8), .ref (τ.1 + 9), .ref (τ.1 + 10), .int 0, .ref (τ.1 + 11), .int 0, .int 0, .int 0, .int 0, .int 0, .int 0, .int 0, .int (-1), .int 0, .ref (τ.1 + 12), .null, .int 0], eI 257 (fun _ => 0), eI 257 (fun _ => 0), eI 257 (fun _ => 0), eI 257 (fun _ => 0), eI 257 (fun _ => 0), eI 2056 (fun _ => 0), eI 3 (fun _ => 0), eI 24 (fun _ => 0), eI 24 (fun _ => 0), eI 200 (fun _ => 0), eI 700 (fun _ => 0), eI 60 (fun _ => 0), eR 4 7 (va_up (va_up (va_up (va_up (va_up (va_up (fun _ => none) 0 (some (ad 3))) 1 (some (ad 4))) 2 (some (ad 5))) 3 (some (ad 6))) 4 (some (ad 7))) 5 (some (ad 8)))]) (hadl_set τ _ 13 _ (Nat.le_of_ble_eq_true rfl)) ?_
  refine g_dup hx 156 dX11_init_156 rfl ?_
  refine g_bipush hx 157 (6) dX11_init_157 rfl ?_
  refine g_ldcS hx 159 (hS.2.2 _ (List.mem_of_getElem? (i := 21) rfl)) dX11_init_159 ?_
  refine g_astS hx 161 (hadl_get τ _ 13 (Nat.le_of_ble_eq_true rfl)) (hS.2.1 2 (by decide)) (by decide : inB 6 7) dX11_init_161 ?_
  refine G.heap (σ' := hadl τ [eO 9 [.ref (τ.1 + 1), .ref (τ.1 + 2), .ref (τ.1 + 3), .ref (τ.1 + 4), .ref (τ.1 + 5), .ref (τ.1 + 6), .ref (τ.1 + 7), .ref (τ.1 + 1), .int 0, .int 0, .int 0, .int 0, .int 0, .ref (τ.1 + 8), .ref (τ.1 + 9), .ref (τ.1 + 10), .int 0, .ref (τ.1 + 11), .int 0, .int 0, .int 0, .int 0, .int 0, .int 0, .int 0, .int (-1), .int 0, .ref (τ.1 + 12), .null, .int 0], eI 257 (fun _ => 0), eI 257 (fun _ => 0), eI 257 (fun _ => 0), eI 257 (fun _ => 0), eI 257 (fun _ => 0), eI 2056 (fun _ => 0), eI 3 (fun _ => 0), eI 24 (fun _ => 0), eI 24 (fun _ => 0), eI 200 (fun _ => 0), eI 700 (fun _ => 0), eI 60 (fun _ => 0), eR 4 7 (va_up (va_up (va_up (va_up (va_up (va_up (va_up (fun _ => none) 0 (some (ad 3))) 1 (some (ad 4))) 2 (some (ad 5))) 3 (some (ad 6))) 4 (some (ad 7))) 5 (some (ad 8))) 6 (some (ad 2)))]) (hadl_set τ _ 13 _ (Nat.le_of_ble_eq_true rfl)) ?_
  refine g_putF hx 162 (C := RX11) (T := TX11) (N := 30) 28 _ _ hin (hadl_0 τ _ _) rfl (by decide) fz_X11_69 rfl rfl rfl rfl rfl (Nat.le_of_ble_eq_true rfl) rfl dX11_init_162 ?_
  refine G.heap (σ' := hadl τ [eO 9 [.ref (τ.1 + 1), .ref (τ.1 + 2), .ref (τ.1 + 3), .ref (τ.1 + 4), .ref (τ.1 + 5), .ref (τ.1 + 6), .ref (τ.1 + 7), .ref (τ.1 + 1), .int 0, .int 0, .int 0, .int 0, .int 0, .ref (τ.1 + 8), .ref (τ.1 + 9), .ref (τ.1 + 10), .int 0, .ref (τ.1 + 11), .int 0, .int 0, .int 0, .int 0, .int 0, .int 0, .int 0, .int (-1), .int 0, .ref (τ.1 + 12), .ref (τ.1 + 13), .int 0], eI 257 (fun _ => 0), eI 257 (fun _ => 0), eI 257 (fun _ => 0), eI 257 (fun _ => 0), eI 257 (fun _ => 0), eI 2056 (fun _ => 0), eI 3 (fun _ => 0), eI 24 (fun _ => 0), eI 24 (fun _ => 0), eI 200 (fun _ => 0), eI 700 (fun _ => 0), eI 60 (fun _ => 0), eR 4 7 (va_up (va_up (va_up (va_up (va_up (va_up (va_up (fun _ => none) 0 (some (ad 3))) 1 (some (ad 4))) 2 (some (ad 5))) 3 (some (ad 6))) 4 (some (ad 7))) 5 (some (ad 8))) 6 (some (ad 2)))]) (hadl_set0 τ _ _ _) ?_
  exact h
