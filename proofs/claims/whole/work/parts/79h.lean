/-! the law: its loop -/
theorem lim6 {i L : Nat} (hL : L ≤ 3072) (hi : i ≤ 10000) (h : ¬ nI L - 6 < nI i) : i + 6 ≤ L := by
  by_cases h6 : L < 6
  · exfalso
    apply h
    have : nI L - 6 < 0 := by
      rcases (show L = 0 ∨ L = 1 ∨ L = 2 ∨ L = 3 ∨ L = 4 ∨ L = 5 by omega) with rfl | rfl | rfl | rfl | rfl | rfl <;> decide
    exact Int32.lt_of_lt_of_le this (nI_pos' (by omega))
  · rw [show (6 : Int32) = nI 6 from rfl, pk_sub (by omega), q_lt (by omega) (by omega)] at h
    omega
theorem and63 (v : Int32) : ∃ j, j < 64 ∧ v &&& 63 = nI j := by
  refine ⟨(v &&& 63).toBitVec.toNat, ?_, ?_⟩
  · rw [Int32.toBitVec_and, BitVec.toNat_and]
    exact Nat.lt_of_le_of_lt Nat.and_le_right (by decide)
  · apply Int32.toBitVec_inj.mp
    unfold nI
    simp
set_option maxRecDepth 100000 in
set_option maxHeartbeats 4000000 in
theorem law_switch {X : Cx} {l : Launch} {g : Gl} {ad ae : Nat → Nat} (hx : Ok X l g RL cL_law 9 room_1) (hC : KAll g ad ae) (hN : KN g) (hl : l.stackTraces = false) {b L B T o i k n : Nat} {xs : Nat → Int32} (hs : Scr g b L xs) (hi : i + 6 ≤ L) (hL : L ≤ 3072) (hlay : Lay B T o) (hk : k + 1 ≤ room_1.cells ∧ n + 6 ≤ room_1.slots) {σ : Hp} {W : WM} {M : MdM} {f : Nat → Int64} (h : WRel W M) (ho : σ.2 o = some (eJ 1 f)) (next : LN X B T o ad ae k n [(4, .int (nI i)), (0, .ref b), (1, .ref B), (2, .ref T), (3, .ref o)]) (j : Nat) (hj : j < 64) : G X (LW σ B T ad ae W M) k n 40 [(4, .int (nI i)), (0, .ref b), (1, .ref B), (2, .ref T), (3, .ref o)] [.int (nI j)] := by
  by_cases h46 : j < 46
  · match j, h46 with
    | 0, _ => exact g_tableIn hx 40 240 dL_law_40 (by decide +kernel) (by decide +kernel) (show _ = some (200 : Int) by decide +kernel) (by decide) (law_0 hx hC hN hl hs hi hL hlay hk h ho next)
    | 1, _ => exact g_tableIn hx 40 313 dL_law_40 (by decide +kernel) (by decide +kernel) (show _ = some (273 : Int) by decide +kernel) (by decide) (law_1 hx hC hN hl hs hi hL hlay hk h ho next)
    | 2, _ => exact g_tableIn hx 40 369 dL_law_40 (by decide +kernel) (by decide +kernel) (show _ = some (329 : Int) by decide +kernel) (by decide) (law_2 hx hC hN hl hs hi hL hlay hk h ho next)
    | 3, _ => exact g_tableIn hx 40 382 dL_law_40 (by decide +kernel) (by decide +kernel) (show _ = some (342 : Int) by decide +kernel) (by decide) (law_3 hx hC hN hl hs hi hL hlay hk h ho next)
    | 4, _ => exact g_tableIn hx 40 438 dL_law_40 (by decide +kernel) (by decide +kernel) (show _ = some (398 : Int) by decide +kernel) (by decide) (law_4 hx hC hN hl hs hi hL hlay hk h ho next)
    | 5, _ => exact g_tableIn hx 40 494 dL_law_40 (by decide +kernel) (by decide +kernel) (show _ = some (454 : Int) by decide +kernel) (by decide) (law_5 hx hC hN hl hs hi hL hlay hk h ho next)
    | 6, _ => exact g_tableIn hx 40 562 dL_law_40 (by decide +kernel) (by decide +kernel) (show _ = some (522 : Int) by decide +kernel) (by decide) (law_6 hx hC hN hl hs hi hL hlay hk h ho next)
    | 7, _ => exact g_tableIn hx 40 587 dL_law_40 (by decide +kernel) (by decide +kernel) (show _ = some (547 : Int) by decide +kernel) (by decide) (law_7 hx hC hN hl hs hi hL hlay hk h ho next)
    | 8, _ => exact g_tableIn hx 40 612 dL_law_40 (by decide +kernel) (by decide +kernel) (show _ = some (572 : Int) by decide +kernel) (by decide) (law_8 hx hC hN hl hs hi hL hlay hk h ho next)
    | 9, _ => exact g_tableIn hx 40 680 dL_law_40 (by decide +kernel) (by decide +kernel) (show _ = some (640 : Int) by decide +kernel) (by decide) (law_9 hx hC hN hl hs hi hL hlay hk h ho next)
    | 10, _ => exact g_tableIn hx 40 748 dL_law_40 (by decide +kernel) (by decide +kernel) (show _ = some (708 : Int) by decide +kernel) (by decide) (law_10 hx hC hN hl hs hi hL hlay hk h ho next)
    | 11, _ => exact g_tableIn hx 40 761 dL_law_40 (by decide +kernel) (by decide +kernel) (show _ = some (721 : Int) by decide +kernel) (by decide) (law_11 hx hC hN hl hs hi hL hlay hk h ho next)
    | 12, _ => exact g_tableIn hx 40 786 dL_law_40 (by decide +kernel) (by decide +kernel) (show _ = some (746 : Int) by decide +kernel) (by decide) (law_12 hx hC hN hl hs hi hL hlay hk h ho next)
    | 13, _ => exact g_tableIn hx 40 811 dL_law_40 (by decide +kernel) (by decide +kernel) (show _ = some (771 : Int) by decide +kernel) (by decide) (law_13 hx hC hN hl hs hi hL hlay hk h ho next)
    | 14, _ => exact g_tableIn hx 40 824 dL_law_40 (by decide +kernel) (by decide +kernel) (show _ = some (784 : Int) by decide +kernel) (by decide) (law_14 hx hC hN hl hs hi hL hlay hk h ho next)
    | 15, _ => exact g_tableIn hx 40 849 dL_law_40 (by decide +kernel) (by decide +kernel) (show _ = some (809 : Int) by decide +kernel) (by decide) (law_15 hx hC hN hl hs hi hL hlay hk h ho next)
    | 16, _ => exact g_tableIn hx 40 862 dL_law_40 (by decide +kernel) (by decide +kernel) (show _ = some (822 : Int) by decide +kernel) (by decide) (law_16 hx hC hN hl hs hi hL hlay hk h ho next)
    | 17, _ => exact g_tableIn hx 40 875 dL_law_40 (by decide +kernel) (by decide +kernel) (show _ = some (835 : Int) by decide +kernel) (by decide) (law_17 hx hC hN hl hs hi hL hlay hk h ho next)
    | 18, _ => exact g_tableIn hx 40 912 dL_law_40 (by decide +kernel) (by decide +kernel) (show _ = some (872 : Int) by decide +kernel) (by decide) (law_18 hx hC hN hl hs hi hL hlay hk h ho next)
    | 19, _ => exact g_tableIn hx 40 925 dL_law_40 (by decide +kernel) (by decide +kernel) (show _ = some (885 : Int) by decide +kernel) (by decide) (law_19 hx hC hN hl hs hi hL hlay hk h ho next)
    | 20, _ => exact g_tableIn hx 40 938 dL_law_40 (by decide +kernel) (by decide +kernel) (show _ = some (898 : Int) by decide +kernel) (by decide) (law_20 hx hC hN hl hs hi hL hlay hk h ho next)
    | 21, _ => exact g_tableIn hx 40 1006 dL_law_40 (by decide +kernel) (by decide +kernel) (show _ = some (966 : Int) by decide +kernel) (by decide) (law_21 hx hC hN hl hs hi hL hlay hk h ho next)
    | 22, _ => exact g_tableIn hx 40 1074 dL_law_40 (by decide +kernel) (by decide +kernel) (show _ = some (1034 : Int) by decide +kernel) (by decide) (law_22 hx hC hN hl hs hi hL hlay hk h ho next)
    | 23, _ => exact g_tableIn hx 40 1099 dL_law_40 (by decide +kernel) (by decide +kernel) (show _ = some (1059 : Int) by decide +kernel) (by decide) (law_23 hx hC hN hl hs hi hL hlay hk h ho next)
    | 24, _ => exact g_tableIn hx 40 1124 dL_law_40 (by decide +kernel) (by decide +kernel) (show _ = some (1084 : Int) by decide +kernel) (by decide) (law_24 hx hC hN hl hs hi hL hlay hk h ho next)
    | 25, _ => exact g_tableIn hx 40 1180 dL_law_40 (by decide +kernel) (by decide +kernel) (show _ = some (1140 : Int) by decide +kernel) (by decide) (law_25 hx hC hN hl hs hi hL hlay hk h ho next)
    | 26, _ => exact g_tableIn hx 40 1236 dL_law_40 (by decide +kernel) (by decide +kernel) (show _ = some (1196 : Int) by decide +kernel) (by decide) (law_26 hx hC hN hl hs hi hL hlay hk h ho next)
    | 27, _ => exact g_tableIn hx 40 1292 dL_law_40 (by decide +kernel) (by decide +kernel) (show _ = some (1252 : Int) by decide +kernel) (by decide) (law_27 hx hC hN hl hs hi hL hlay hk h ho next)
    | 28, _ => exact g_tableIn hx 40 1305 dL_law_40 (by decide +kernel) (by decide +kernel) (show _ = some (1265 : Int) by decide +kernel) (by decide) (law_28 hx hC hN hl hs hi hL hlay hk h ho next)
    | 29, _ => exact g_tableIn hx 40 1361 dL_law_40 (by decide +kernel) (by decide +kernel) (show _ = some (1321 : Int) by decide +kernel) (by decide) (law_29 hx hC hN hl hs hi hL hlay hk h ho next)
    | 30, _ => exact g_tableIn hx 40 1404 dL_law_40 (by decide +kernel) (by decide +kernel) (show _ = some (1364 : Int) by decide +kernel) (by decide) (law_30 hx hC hN hl hs hi hL hlay hk h ho next)
    | 31, _ => exact g_tableIn hx 40 1445 dL_law_40 (by decide +kernel) (by decide +kernel) (show _ = some (1405 : Int) by decide +kernel) (by decide) (law_31 hx hC hN hl hs hi hL hlay hk h ho next)
    | 32, _ => exact g_tableIn hx 40 1513 dL_law_40 (by decide +kernel) (by decide +kernel) (show _ = some (1473 : Int) by decide +kernel) (by decide) (law_32 hx hC hN hl hs hi hL hlay hk h ho next)
    | 33, _ => exact g_tableIn hx 40 1538 dL_law_40 (by decide +kernel) (by decide +kernel) (show _ = some (1498 : Int) by decide +kernel) (by decide) (law_33 hx hC hN hl hs hi hL hlay hk h ho next)
    | 34, _ => exact g_tableIn hx 40 1594 dL_law_40 (by decide +kernel) (by decide +kernel) (show _ = some (1554 : Int) by decide +kernel) (by decide) (law_34 hx hC hN hl hs hi hL hlay hk h ho next)
    | 35, _ => exact g_tableIn hx 40 1650 dL_law_40 (by decide +kernel) (by decide +kernel) (show _ = some (1610 : Int) by decide +kernel) (by decide) (law_35 hx hC hN hl hs hi hL hlay hk h ho next)
    | 36, _ => exact g_tableIn hx 40 1718 dL_law_40 (by decide +kernel) (by decide +kernel) (show _ = some (1678 : Int) by decide +kernel) (by decide) (law_36 hx hC hN hl hs hi hL hlay hk h ho next)
    | 37, _ => exact g_tableIn hx 40 1774 dL_law_40 (by decide +kernel) (by decide +kernel) (show _ = some (1734 : Int) by decide +kernel) (by decide) (law_37 hx hC hN hl hs hi hL hlay hk h ho next)
    | 38, _ => exact g_tableIn hx 40 1830 dL_law_40 (by decide +kernel) (by decide +kernel) (show _ = some (1790 : Int) by decide +kernel) (by decide) (law_38 hx hC hN hl hs hi hL hlay hk h ho next)
    | 39, _ => exact g_tableIn hx 40 1898 dL_law_40 (by decide +kernel) (by decide +kernel) (show _ = some (1858 : Int) by decide +kernel) (by decide) (law_39 hx hC hN hl hs hi hL hlay hk h ho next)
    | 40, _ => exact g_tableIn hx 40 1954 dL_law_40 (by decide +kernel) (by decide +kernel) (show _ = some (1914 : Int) by decide +kernel) (by decide) (law_40 hx hC hN hl hs hi hL hlay hk h ho next)
    | 41, _ => exact g_tableIn hx 40 1967 dL_law_40 (by decide +kernel) (by decide +kernel) (show _ = some (1927 : Int) by decide +kernel) (by decide) (law_41 hx hC hN hl hs hi hL hlay hk h ho next)
    | 42, _ => exact g_tableIn hx 40 1992 dL_law_40 (by decide +kernel) (by decide +kernel) (show _ = some (1952 : Int) by decide +kernel) (by decide) (law_42 hx hC hN hl hs hi hL hlay hk h ho next)
    | 43, _ => exact g_tableIn hx 40 2005 dL_law_40 (by decide +kernel) (by decide +kernel) (show _ = some (1965 : Int) by decide +kernel) (by decide) (law_43 hx hC hN hl hs hi hL hlay hk h ho next)
    | 44, _ => exact g_tableIn hx 40 2018 dL_law_40 (by decide +kernel) (by decide +kernel) (show _ = some (1978 : Int) by decide +kernel) (by decide) (law_44 hx hC hN hl hs hi hL hlay hk h ho next)
    | 45, _ => exact g_tableIn hx 40 2029 dL_law_40 (by decide +kernel) (by decide +kernel) (show _ = some (1989 : Int) by decide +kernel) (by decide) (law_45 hx hC hN hl hs hi hL hlay hk h ho next)
    | m + 46, hm => exact absurd hm (by omega)
  · have hto : (nI j).toInt = (j : Int) := nI_toInt (by omega)
    exact g_tableOut hx 40 2042 dL_law_40 (by rw [hto]; omega) (by decide) (g_widen (Nat.le_succ _) (Nat.le_add_right _ _) (next _ _ _ _ h ho))
set_option maxRecDepth 100000 in
set_option maxHeartbeats 4000000 in
theorem law_loop {X : Cx} {l : Launch} {g : Gl} {ad ae : Nat → Nat} (hx : Ok X l g RL cL_law 9 room_1) (hC : KAll g ad ae) (hN : KN g) (hl : l.stackTraces = false) {b L B T o : Nat} {xs : Nat → Int32} (hs : Scr g b L xs) (hL : L ≤ 3072) (hlay : Lay B T o) (ret : ∀ (σ : Hp) (k n : Nat) (ls : List (Nat × Value)), k ≤ room_1.cells → n ≤ room_1.slots → G X σ k n 2048 ls []) :
    ∀ (r i k n : Nat) (σ : Hp) (W : WM) (M : MdM) (f : Nat → Int64), L - i ≤ r → i ≤ 10000 → k + r ≤ room_1.cells → n + 6 * r ≤ room_1.slots → WRel W M → σ.2 o = some (eJ 1 f) → G X (LW σ B T ad ae W M) k n 23 [(4, .int (nI i)), (0, .ref b), (1, .ref B), (2, .ref T), (3, .ref o)] [] := by
  intro r
  induction r with
  | zero =>
    intro i k n σ W M f h1 h2 h3 h4 h ho
    refine g_iload hx 23 (i := 4) 0 dL_law_23 rfl ?_
    refine g_aload_n hx 25 (i := 0) 1 dL_law_25 rfl rfl ?_
    refine g_slen hx 26 hs dL_law_26 ?_
    refine g_bipush hx 27 (6) dL_law_27 rfl ?_
    refine g_isub hx 29 dL_law_29 ?_
    refine g_icmp_gt hx 30 2048 dL_law_30 (by decide) (fun _ => ret _ _ _ _ (by omega) (by omega)) (fun hc => ?_)
    have := lim6 hL h2 hc
    omega
  | succ r ih =>
    intro i k n σ W M f h1 h2 h3 h4 h ho
    refine g_iload hx 23 (i := 4) 0 dL_law_23 rfl ?_
    refine g_aload_n hx 25 (i := 0) 1 dL_law_25 rfl rfl ?_
    refine g_slen hx 26 hs dL_law_26 ?_
    refine g_bipush hx 27 (6) dL_law_27 rfl ?_
    refine g_isub hx 29 dL_law_29 ?_
    refine g_icmp_gt hx 30 2048 dL_law_30 (by decide) (fun _ => ret _ _ _ _ (by omega) (by omega)) (fun hc => ?_)
    have hi := lim6 hL h2 hc
    refine g_aload_n hx 33 (i := 0) 1 dL_law_33 rfl rfl ?_
    refine g_iload hx 34 (i := 4) 0 dL_law_34 rfl ?_
    refine g_sld hx 36 hs (q_in (by omega) (by omega)) dL_law_36 ?_
    refine g_bipush hx 37 (63) dL_law_37 rfl ?_
    refine g_iand hx 39 dL_law_39 ?_
    obtain ⟨j, hj, hv⟩ := and63 (xs (nI i).toNatClampNeg)
    rw [hv]
    refine law_switch hx hC hN hl hs hi hL hlay ⟨by omega, by omega⟩ h ho (fun σ' W' M' f' hw ho' => ?_) j hj
    refine g_iinc hx 2042 (i := 4) 0 (nI (i + 6)) [(4, .int (nI (i + 6))), (0, .ref b), (1, .ref B), (2, .ref T), (3, .ref o)] dL_law_2042 rfl (show nI i + 6 = nI (i + 6) by rw [show (6 : Int32) = nI 6 from rfl, nI_add]) (by decide) rfl ?_
    refine g_goto hx 2045 23 dL_law_2045 (by decide) ?_
    exact ih (i + 6) (k + 1) (n + 6) σ' W' M' f' (by omega) (by omega) (by omega) (by omega) hw ho'
