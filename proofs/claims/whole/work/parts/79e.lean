/-! the law: its cases -/
theorem lkl_130 : Lk md_SA_looks [.methodLink RL 130 md_SA_looks.y, .instanceMethod md_SA_looks.y, .selects md_SA_looks.y.cls md_SA_looks.y md_SA_looks.y] := lk_of (by decide +kernel)
theorem arl_130 : Arity md_SA_looks 1 := ⟨by decide +kernel, by decide +kernel, by decide +kernel⟩
theorem lkl_133 : Lk md_Md_looks [.methodLink RL 133 md_Md_looks.y, .instanceMethod md_Md_looks.y, .selects md_Md_looks.y.cls md_Md_looks.y md_Md_looks.y] := lk_of (by decide +kernel)
theorem arl_133 : Arity md_Md_looks 1 := ⟨by decide +kernel, by decide +kernel, by decide +kernel⟩
theorem lkl_134 : Lk md_SA_missed [.methodLink RL 134 md_SA_missed.y, .instanceMethod md_SA_missed.y, .selects md_SA_missed.y.cls md_SA_missed.y md_SA_missed.y] := lk_of (by decide +kernel)
theorem arl_134 : Arity md_SA_missed 0 := ⟨by decide +kernel, by decide +kernel, by decide +kernel⟩
theorem lkl_137 : Lk md_Md_missed [.methodLink RL 137 md_Md_missed.y, .instanceMethod md_Md_missed.y, .selects md_Md_missed.y.cls md_Md_missed.y md_Md_missed.y] := lk_of (by decide +kernel)
theorem arl_137 : Arity md_Md_missed 0 := ⟨by decide +kernel, by decide +kernel, by decide +kernel⟩
theorem lkl_138 : Lk md_SA_refilePlace [.methodLink RL 138 md_SA_refilePlace.y, .instanceMethod md_SA_refilePlace.y, .selects md_SA_refilePlace.y.cls md_SA_refilePlace.y md_SA_refilePlace.y] := lk_of (by decide +kernel)
theorem arl_138 : Arity md_SA_refilePlace 1 := ⟨by decide +kernel, by decide +kernel, by decide +kernel⟩
theorem lkl_141 : Lk md_Md_refilePlace [.methodLink RL 141 md_Md_refilePlace.y, .instanceMethod md_Md_refilePlace.y, .selects md_Md_refilePlace.y.cls md_Md_refilePlace.y md_Md_refilePlace.y] := lk_of (by decide +kernel)
theorem arl_141 : Arity md_Md_refilePlace 1 := ⟨by decide +kernel, by decide +kernel, by decide +kernel⟩
theorem lkl_142 : Lk md_SA_inversions [.methodLink RL 142 md_SA_inversions.y, .instanceMethod md_SA_inversions.y, .selects md_SA_inversions.y.cls md_SA_inversions.y md_SA_inversions.y] := lk_of (by decide +kernel)
theorem arl_142 : Arity md_SA_inversions 0 := ⟨by decide +kernel, by decide +kernel, by decide +kernel⟩
theorem lkl_145 : Lk md_Md_inversions [.methodLink RL 145 md_Md_inversions.y, .instanceMethod md_Md_inversions.y, .selects md_Md_inversions.y.cls md_Md_inversions.y md_Md_inversions.y] := lk_of (by decide +kernel)
theorem arl_145 : Arity md_Md_inversions 0 := ⟨by decide +kernel, by decide +kernel, by decide +kernel⟩
theorem lkl_146 : Lk md_SA_longestOrdered [.methodLink RL 146 md_SA_longestOrdered.y, .instanceMethod md_SA_longestOrdered.y, .selects md_SA_longestOrdered.y.cls md_SA_longestOrdered.y md_SA_longestOrdered.y] := lk_of (by decide +kernel)
theorem arl_146 : Arity md_SA_longestOrdered 0 := ⟨by decide +kernel, by decide +kernel, by decide +kernel⟩
theorem lkl_149 : Lk md_Md_longestOrdered [.methodLink RL 149 md_Md_longestOrdered.y, .instanceMethod md_Md_longestOrdered.y, .selects md_Md_longestOrdered.y.cls md_Md_longestOrdered.y md_Md_longestOrdered.y] := lk_of (by decide +kernel)
theorem arl_149 : Arity md_Md_longestOrdered 0 := ⟨by decide +kernel, by decide +kernel, by decide +kernel⟩
theorem lkl_150 : Lk md_SA_lookedAt [.methodLink RL 150 md_SA_lookedAt.y, .instanceMethod md_SA_lookedAt.y, .selects md_SA_lookedAt.y.cls md_SA_lookedAt.y md_SA_lookedAt.y] := lk_of (by decide +kernel)
theorem arl_150 : Arity md_SA_lookedAt 2 := ⟨by decide +kernel, by decide +kernel, by decide +kernel⟩
theorem lkl_153 : Lk md_Md_lookedAt [.methodLink RL 153 md_Md_lookedAt.y, .instanceMethod md_Md_lookedAt.y, .selects md_Md_lookedAt.y.cls md_Md_lookedAt.y md_Md_lookedAt.y] := lk_of (by decide +kernel)
theorem arl_153 : Arity md_Md_lookedAt 2 := ⟨by decide +kernel, by decide +kernel, by decide +kernel⟩
theorem lkl_154 : Lk md_SA_mostMisplaced [.methodLink RL 154 md_SA_mostMisplaced.y, .instanceMethod md_SA_mostMisplaced.y, .selects md_SA_mostMisplaced.y.cls md_SA_mostMisplaced.y md_SA_mostMisplaced.y] := lk_of (by decide +kernel)
theorem arl_154 : Arity md_SA_mostMisplaced 0 := ⟨by decide +kernel, by decide +kernel, by decide +kernel⟩
theorem lkl_157 : Lk md_Md_mostMisplaced [.methodLink RL 157 md_Md_mostMisplaced.y, .instanceMethod md_Md_mostMisplaced.y, .selects md_Md_mostMisplaced.y.cls md_Md_mostMisplaced.y md_Md_mostMisplaced.y] := lk_of (by decide +kernel)
theorem arl_157 : Arity md_Md_mostMisplaced 0 := ⟨by decide +kernel, by decide +kernel, by decide +kernel⟩
theorem lkl_158 : Lk md_SA_mostAsked [.methodLink RL 158 md_SA_mostAsked.y, .instanceMethod md_SA_mostAsked.y, .selects md_SA_mostAsked.y.cls md_SA_mostAsked.y md_SA_mostAsked.y] := lk_of (by decide +kernel)
theorem arl_158 : Arity md_SA_mostAsked 0 := ⟨by decide +kernel, by decide +kernel, by decide +kernel⟩
theorem lkl_161 : Lk md_Md_mostAsked [.methodLink RL 161 md_Md_mostAsked.y, .instanceMethod md_Md_mostAsked.y, .selects md_Md_mostAsked.y.cls md_Md_mostAsked.y md_Md_mostAsked.y] := lk_of (by decide +kernel)
theorem arl_161 : Arity md_Md_mostAsked 0 := ⟨by decide +kernel, by decide +kernel, by decide +kernel⟩
theorem lkw_why : LkW RL 162 md_L_why hh_why := ⟨aw1 (by decide +kernel), aw1 (by decide +kernel), aw1 (by decide +kernel), aw1 (by decide +kernel)⟩
theorem arw_why : Arity md_L_why 4 := ⟨by decide +kernel, by decide +kernel, by decide +kernel⟩
theorem lkl_164 : Lk md_Md_why [.methodLink RL 164 md_Md_why.y, .instanceMethod md_Md_why.y, .selects md_Md_why.y.cls md_Md_why.y md_Md_why.y] := lk_of (by decide +kernel)
theorem arl_164 : Arity md_Md_why 2 := ⟨by decide +kernel, by decide +kernel, by decide +kernel⟩
theorem lkw_cause : LkW RL 165 md_L_cause hh_cause := ⟨aw1 (by decide +kernel), aw1 (by decide +kernel), aw1 (by decide +kernel), aw1 (by decide +kernel)⟩
theorem arw_cause : Arity md_L_cause 4 := ⟨by decide +kernel, by decide +kernel, by decide +kernel⟩
theorem lkl_167 : Lk md_Md_cause [.methodLink RL 167 md_Md_cause.y, .instanceMethod md_Md_cause.y, .selects md_Md_cause.y.cls md_Md_cause.y md_Md_cause.y] := lk_of (by decide +kernel)
theorem arl_167 : Arity md_Md_cause 2 := ⟨by decide +kernel, by decide +kernel, by decide +kernel⟩
theorem lkl_168 : Lk md_SA_waitsFor [.methodLink RL 168 md_SA_waitsFor.y, .instanceMethod md_SA_waitsFor.y, .selects md_SA_waitsFor.y.cls md_SA_waitsFor.y md_SA_waitsFor.y] := lk_of (by decide +kernel)
theorem arl_168 : Arity md_SA_waitsFor 1 := ⟨by decide +kernel, by decide +kernel, by decide +kernel⟩
theorem lkl_171 : Lk md_Md_waitsFor [.methodLink RL 171 md_Md_waitsFor.y, .instanceMethod md_Md_waitsFor.y, .selects md_Md_waitsFor.y.cls md_Md_waitsFor.y md_Md_waitsFor.y] := lk_of (by decide +kernel)
theorem arl_171 : Arity md_Md_waitsFor 1 := ⟨by decide +kernel, by decide +kernel, by decide +kernel⟩
theorem lkl_172 : Lk md_SA_servedIn [.methodLink RL 172 md_SA_servedIn.y, .instanceMethod md_SA_servedIn.y, .selects md_SA_servedIn.y.cls md_SA_servedIn.y md_SA_servedIn.y] := lk_of (by decide +kernel)
theorem arl_172 : Arity md_SA_servedIn 1 := ⟨by decide +kernel, by decide +kernel, by decide +kernel⟩
theorem lkl_175 : Lk md_Md_servedIn [.methodLink RL 175 md_Md_servedIn.y, .instanceMethod md_Md_servedIn.y, .selects md_Md_servedIn.y.cls md_Md_servedIn.y md_Md_servedIn.y] := lk_of (by decide +kernel)
theorem arl_175 : Arity md_Md_servedIn 1 := ⟨by decide +kernel, by decide +kernel, by decide +kernel⟩
set_option maxRecDepth 100000 in
set_option maxHeartbeats 4000000 in
theorem law_12 {X : Cx} {l : Launch} {g : Gl} {ad ae : Nat → Nat} (hx : Ok X l g RL cL_law 9 room_1) (hC : KAll g ad ae) (hN : KN g) (hl : l.stackTraces = false) {b L B T o i k n : Nat} {xs : Nat → Int32} (hs : Scr g b L xs) (hi : i + 6 ≤ L) (hL : L ≤ 3072) (hlay : Lay B T o) (hk : k + 1 ≤ room_1.cells ∧ n + 6 ≤ room_1.slots) {σ : Hp} {W : WM} {M : MdM} {f : Nat → Int64} (h : WRel W M) (ho : σ.2 o = some (eJ 1 f)) (next : LN X B T o ad ae k n [(4, .int (nI i)), (0, .ref b), (1, .ref B), (2, .ref T), (3, .ref o)]) : G X (LW σ B T ad ae W M) k n 786 [(4, .int (nI i)), (0, .ref b), (1, .ref B), (2, .ref T), (3, .ref o)] [] := by
  obtain ⟨v, W1, M1, e1, e2, hw⟩ := f_looks h (xs (nI i + 1).toNatClampNeg)
  refine g_aload_n hx 786 (i := 1) 2 dL_law_786 rfl rfl ?_
  refine g_aload_n hx 787 (i := 0) 1 dL_law_787 rfl rfl ?_
  refine g_iload hx 788 (i := 4) 0 dL_law_788 rfl ?_
  refine g_iconst hx 790 (1) dL_law_790 rfl ?_
  refine g_iadd hx 791 dL_law_791 ?_
  refine g_sld hx 792 hs (vpi (j := 1) hi hL (by decide) _ rfl) dL_law_792 ?_
  refine g_callVr hx (c_SA_looks l g hC (putMd σ T (owF ad) 0 M) B W (xs (nI i + 1).toNatClampNeg) e1) lkl_130 arl_130 (pW (putMd σ T (owF ad) 0 M) B ae W 0 (by decide)) (T := TX10) (N := 11) rfl (As := [.int (xs (nI i + 1).toNatClampNeg)]) (rest := []) rfl (Nat.le_of_ble_eq_true rfl) ⟨Nat.le_of_ble_eq_true rfl, Nat.le_of_ble_eq_true rfl⟩ ⟨rfl, rfl⟩ ⟨Nat.le_of_succ_le hk.1, Nat.le_trans (Nat.le_add_right _ 6) hk.2⟩ dL_law_793 ?_
  refine g_aload_n hx 796 (i := 2) 3 dL_law_796 rfl rfl ?_
  refine g_aload_n hx 797 (i := 0) 1 dL_law_797 rfl rfl ?_
  refine g_iload hx 798 (i := 4) 0 dL_law_798 rfl ?_
  refine g_iconst hx 800 (1) dL_law_800 rfl ?_
  refine g_iadd hx 801 dL_law_801 ?_
  refine g_sld hx 802 hs (vpi (j := 1) hi hL (by decide) _ rfl) dL_law_802 ?_
  refine G.heap (LW.md (ad := ad) hlay) ?_
  refine g_callVr hx (c_Md_looks (ρ := 0) (by decide) l g (putW σ B ae W1) T (owF ad) M (xs (nI i + 1).toNatClampNeg) e2) lkl_133 arl_133 (pM_o (putW σ B ae W1) T (owF ad) 0 M) (T := TX11) (N := 30) rfl (As := [.int (xs (nI i + 1).toNatClampNeg)]) (rest := [.int v]) rfl (Nat.le_of_ble_eq_true rfl) ⟨Nat.le_of_ble_eq_true rfl, Nat.le_of_ble_eq_true rfl⟩ ⟨rfl, rfl⟩ ⟨Nat.le_of_succ_le hk.1, Nat.le_trans (Nat.le_add_right _ 6) hk.2⟩ dL_law_803 ?_
  refine G.heap (LW.md (ad := ad) hlay).symm ?_
  exact g_icmp_eq hx 806 2042 dL_law_806 (by decide) (fun _ => (g_widen (Nat.le_succ _) (Nat.le_add_right _ _) (next _ _ _ _ hw ho))) (fun hq => absurd rfl hq)
set_option maxRecDepth 100000 in
set_option maxHeartbeats 4000000 in
theorem law_13 {X : Cx} {l : Launch} {g : Gl} {ad ae : Nat → Nat} (hx : Ok X l g RL cL_law 9 room_1) (hC : KAll g ad ae) (hN : KN g) (hl : l.stackTraces = false) {b L B T o i k n : Nat} {xs : Nat → Int32} (hs : Scr g b L xs) (hi : i + 6 ≤ L) (hL : L ≤ 3072) (hlay : Lay B T o) (hk : k + 1 ≤ room_1.cells ∧ n + 6 ≤ room_1.slots) {σ : Hp} {W : WM} {M : MdM} {f : Nat → Int64} (h : WRel W M) (ho : σ.2 o = some (eJ 1 f)) (next : LN X B T o ad ae k n [(4, .int (nI i)), (0, .ref b), (1, .ref B), (2, .ref T), (3, .ref o)]) : G X (LW σ B T ad ae W M) k n 811 [(4, .int (nI i)), (0, .ref b), (1, .ref B), (2, .ref T), (3, .ref o)] [] := by
  obtain ⟨v, W1, M1, e1, e2, hw⟩ := f_missed h
  refine g_aload_n hx 811 (i := 1) 2 dL_law_811 rfl rfl ?_
  refine g_callVr hx (c_SA_missed l g hC (putMd σ T (owF ad) 0 M) B W e1) lkl_134 arl_134 (pW (putMd σ T (owF ad) 0 M) B ae W 0 (by decide)) (T := TX10) (N := 11) rfl (As := []) (rest := []) rfl (Nat.le_of_ble_eq_true rfl) ⟨Nat.le_of_ble_eq_true rfl, Nat.le_of_ble_eq_true rfl⟩ ⟨rfl, rfl⟩ ⟨Nat.le_of_succ_le hk.1, Nat.le_trans (Nat.le_add_right _ 6) hk.2⟩ dL_law_812 ?_
  refine g_aload_n hx 815 (i := 2) 3 dL_law_815 rfl rfl ?_
  refine G.heap (LW.md (ad := ad) hlay) ?_
  refine g_callVr hx (c_Md_missed (ρ := 0) (by decide) l g (putW σ B ae W1) T (owF ad) M e2) lkl_137 arl_137 (pM_o (putW σ B ae W1) T (owF ad) 0 M) (T := TX11) (N := 30) rfl (As := []) (rest := [.int v]) rfl (Nat.le_of_ble_eq_true rfl) ⟨Nat.le_of_ble_eq_true rfl, Nat.le_of_ble_eq_true rfl⟩ ⟨rfl, rfl⟩ ⟨Nat.le_of_succ_le hk.1, Nat.le_trans (Nat.le_add_right _ 6) hk.2⟩ dL_law_816 ?_
  refine G.heap (LW.md (ad := ad) hlay).symm ?_
  exact g_icmp_eq hx 819 2042 dL_law_819 (by decide) (fun _ => (g_widen (Nat.le_succ _) (Nat.le_add_right _ _) (next _ _ _ _ hw ho))) (fun hq => absurd rfl hq)
set_option maxRecDepth 100000 in
set_option maxHeartbeats 4000000 in
theorem law_14 {X : Cx} {l : Launch} {g : Gl} {ad ae : Nat → Nat} (hx : Ok X l g RL cL_law 9 room_1) (hC : KAll g ad ae) (hN : KN g) (hl : l.stackTraces = false) {b L B T o i k n : Nat} {xs : Nat → Int32} (hs : Scr g b L xs) (hi : i + 6 ≤ L) (hL : L ≤ 3072) (hlay : Lay B T o) (hk : k + 1 ≤ room_1.cells ∧ n + 6 ≤ room_1.slots) {σ : Hp} {W : WM} {M : MdM} {f : Nat → Int64} (h : WRel W M) (ho : σ.2 o = some (eJ 1 f)) (next : LN X B T o ad ae k n [(4, .int (nI i)), (0, .ref b), (1, .ref B), (2, .ref T), (3, .ref o)]) : G X (LW σ B T ad ae W M) k n 824 [(4, .int (nI i)), (0, .ref b), (1, .ref B), (2, .ref T), (3, .ref o)] [] := by
  obtain ⟨v, W1, M1, e1, e2, hw⟩ := f_refilePlace h (xs (nI i + 1).toNatClampNeg)
  refine g_aload_n hx 824 (i := 1) 2 dL_law_824 rfl rfl ?_
  refine g_aload_n hx 825 (i := 0) 1 dL_law_825 rfl rfl ?_
  refine g_iload hx 826 (i := 4) 0 dL_law_826 rfl ?_
  refine g_iconst hx 828 (1) dL_law_828 rfl ?_
  refine g_iadd hx 829 dL_law_829 ?_
  refine g_sld hx 830 hs (vpi (j := 1) hi hL (by decide) _ rfl) dL_law_830 ?_
  refine g_callVr hx (c_SA_refilePlace l g hC (putMd σ T (owF ad) 0 M) B W (xs (nI i + 1).toNatClampNeg) e1) lkl_138 arl_138 (pW (putMd σ T (owF ad) 0 M) B ae W 0 (by decide)) (T := TX10) (N := 11) rfl (As := [.int (xs (nI i + 1).toNatClampNeg)]) (rest := []) rfl (Nat.le_of_ble_eq_true rfl) ⟨Nat.le_of_ble_eq_true rfl, Nat.le_of_ble_eq_true rfl⟩ ⟨rfl, rfl⟩ ⟨Nat.le_of_succ_le hk.1, Nat.le_trans (Nat.le_add_right _ 6) hk.2⟩ dL_law_831 ?_
  refine g_aload_n hx 834 (i := 2) 3 dL_law_834 rfl rfl ?_
  refine g_aload_n hx 835 (i := 0) 1 dL_law_835 rfl rfl ?_
  refine g_iload hx 836 (i := 4) 0 dL_law_836 rfl ?_
  refine g_iconst hx 838 (1) dL_law_838 rfl ?_
  refine g_iadd hx 839 dL_law_839 ?_
  refine g_sld hx 840 hs (vpi (j := 1) hi hL (by decide) _ rfl) dL_law_840 ?_
  refine G.heap (LW.md (ad := ad) hlay) ?_
  refine g_callVr hx (c_Md_refilePlace (ρ := 0) (by decide) l g (putW σ B ae W1) T (owF ad) M (xs (nI i + 1).toNatClampNeg) e2) lkl_141 arl_141 (pM_o (putW σ B ae W1) T (owF ad) 0 M) (T := TX11) (N := 30) rfl (As := [.int (xs (nI i + 1).toNatClampNeg)]) (rest := [.int v]) rfl (Nat.le_of_ble_eq_true rfl) ⟨Nat.le_of_ble_eq_true rfl, Nat.le_of_ble_eq_true rfl⟩ ⟨rfl, rfl⟩ ⟨Nat.le_of_succ_le hk.1, Nat.le_trans (Nat.le_add_right _ 6) hk.2⟩ dL_law_841 ?_
  refine G.heap (LW.md (ad := ad) hlay).symm ?_
  exact g_icmp_eq hx 844 2042 dL_law_844 (by decide) (fun _ => (g_widen (Nat.le_succ _) (Nat.le_add_right _ _) (next _ _ _ _ hw ho))) (fun hq => absurd rfl hq)
set_option maxRecDepth 100000 in
set_option maxHeartbeats 4000000 in
theorem law_15 {X : Cx} {l : Launch} {g : Gl} {ad ae : Nat → Nat} (hx : Ok X l g RL cL_law 9 room_1) (hC : KAll g ad ae) (hN : KN g) (hl : l.stackTraces = false) {b L B T o i k n : Nat} {xs : Nat → Int32} (hs : Scr g b L xs) (hi : i + 6 ≤ L) (hL : L ≤ 3072) (hlay : Lay B T o) (hk : k + 1 ≤ room_1.cells ∧ n + 6 ≤ room_1.slots) {σ : Hp} {W : WM} {M : MdM} {f : Nat → Int64} (h : WRel W M) (ho : σ.2 o = some (eJ 1 f)) (next : LN X B T o ad ae k n [(4, .int (nI i)), (0, .ref b), (1, .ref B), (2, .ref T), (3, .ref o)]) : G X (LW σ B T ad ae W M) k n 849 [(4, .int (nI i)), (0, .ref b), (1, .ref B), (2, .ref T), (3, .ref o)] [] := by
  obtain ⟨v, M1, e1, e2, hw⟩ := f_inversions h
  refine g_aload_n hx 849 (i := 1) 2 dL_law_849 rfl rfl ?_
  refine g_callVr hx (c_SA_inversions l g hC (putMd σ T (owF ad) 0 M) B W e1) lkl_142 arl_142 (pW (putMd σ T (owF ad) 0 M) B ae W 0 (by decide)) (T := TX10) (N := 11) rfl (As := []) (rest := []) rfl (Nat.le_of_ble_eq_true rfl) ⟨Nat.le_of_ble_eq_true rfl, Nat.le_of_ble_eq_true rfl⟩ ⟨rfl, rfl⟩ ⟨Nat.le_of_succ_le hk.1, Nat.le_trans (Nat.le_add_right _ 6) hk.2⟩ dL_law_850 ?_
  refine g_aload_n hx 853 (i := 2) 3 dL_law_853 rfl rfl ?_
  refine G.heap (LW.md (ad := ad) hlay) ?_
  refine g_callVr hx (c_Md_inversions (ρ := 0) (by decide) l g (putW σ B ae W) T (owF ad) M e2) lkl_145 arl_145 (pM_o (putW σ B ae W) T (owF ad) 0 M) (T := TX11) (N := 30) rfl (As := []) (rest := [.int v]) rfl (Nat.le_of_ble_eq_true rfl) ⟨Nat.le_of_ble_eq_true rfl, Nat.le_of_ble_eq_true rfl⟩ ⟨rfl, rfl⟩ ⟨Nat.le_of_succ_le hk.1, Nat.le_trans (Nat.le_add_right _ 6) hk.2⟩ dL_law_854 ?_
  refine G.heap (LW.md (ad := ad) hlay).symm ?_
  exact g_icmp_eq hx 857 2042 dL_law_857 (by decide) (fun _ => (g_widen (Nat.le_succ _) (Nat.le_add_right _ _) (next _ _ _ _ hw ho))) (fun hq => absurd rfl hq)
set_option maxRecDepth 100000 in
set_option maxHeartbeats 4000000 in
theorem law_16 {X : Cx} {l : Launch} {g : Gl} {ad ae : Nat → Nat} (hx : Ok X l g RL cL_law 9 room_1) (hC : KAll g ad ae) (hN : KN g) (hl : l.stackTraces = false) {b L B T o i k n : Nat} {xs : Nat → Int32} (hs : Scr g b L xs) (hi : i + 6 ≤ L) (hL : L ≤ 3072) (hlay : Lay B T o) (hk : k + 1 ≤ room_1.cells ∧ n + 6 ≤ room_1.slots) {σ : Hp} {W : WM} {M : MdM} {f : Nat → Int64} (h : WRel W M) (ho : σ.2 o = some (eJ 1 f)) (next : LN X B T o ad ae k n [(4, .int (nI i)), (0, .ref b), (1, .ref B), (2, .ref T), (3, .ref o)]) : G X (LW σ B T ad ae W M) k n 862 [(4, .int (nI i)), (0, .ref b), (1, .ref B), (2, .ref T), (3, .ref o)] [] := by
  obtain ⟨v, W1, M1, e1, e2, hw⟩ := f_longestOrdered h
  refine g_aload_n hx 862 (i := 1) 2 dL_law_862 rfl rfl ?_
  refine g_callVr hx (c_SA_longestOrdered l g hC (putMd σ T (owF ad) 0 M) B W e1) lkl_146 arl_146 (pW (putMd σ T (owF ad) 0 M) B ae W 0 (by decide)) (T := TX10) (N := 11) rfl (As := []) (rest := []) rfl (Nat.le_of_ble_eq_true rfl) ⟨Nat.le_of_ble_eq_true rfl, Nat.le_of_ble_eq_true rfl⟩ ⟨rfl, rfl⟩ ⟨Nat.le_of_succ_le hk.1, Nat.le_trans (Nat.le_add_right _ 6) hk.2⟩ dL_law_863 ?_
  refine g_aload_n hx 866 (i := 2) 3 dL_law_866 rfl rfl ?_
  refine G.heap (LW.md (ad := ad) hlay) ?_
  refine g_callVr hx (c_Md_longestOrdered (ρ := 0) (by decide) l g (putW σ B ae W1) T (owF ad) M e2) lkl_149 arl_149 (pM_o (putW σ B ae W1) T (owF ad) 0 M) (T := TX11) (N := 30) rfl (As := []) (rest := [.int v]) rfl (Nat.le_of_ble_eq_true rfl) ⟨Nat.le_of_ble_eq_true rfl, Nat.le_of_ble_eq_true rfl⟩ ⟨rfl, rfl⟩ ⟨Nat.le_of_succ_le hk.1, Nat.le_trans (Nat.le_add_right _ 6) hk.2⟩ dL_law_867 ?_
  refine G.heap (LW.md (ad := ad) hlay).symm ?_
  exact g_icmp_eq hx 870 2042 dL_law_870 (by decide) (fun _ => (g_widen (Nat.le_succ _) (Nat.le_add_right _ _) (next _ _ _ _ hw ho))) (fun hq => absurd rfl hq)
set_option maxRecDepth 100000 in
set_option maxHeartbeats 4000000 in
theorem law_17 {X : Cx} {l : Launch} {g : Gl} {ad ae : Nat → Nat} (hx : Ok X l g RL cL_law 9 room_1) (hC : KAll g ad ae) (hN : KN g) (hl : l.stackTraces = false) {b L B T o i k n : Nat} {xs : Nat → Int32} (hs : Scr g b L xs) (hi : i + 6 ≤ L) (hL : L ≤ 3072) (hlay : Lay B T o) (hk : k + 1 ≤ room_1.cells ∧ n + 6 ≤ room_1.slots) {σ : Hp} {W : WM} {M : MdM} {f : Nat → Int64} (h : WRel W M) (ho : σ.2 o = some (eJ 1 f)) (next : LN X B T o ad ae k n [(4, .int (nI i)), (0, .ref b), (1, .ref B), (2, .ref T), (3, .ref o)]) : G X (LW σ B T ad ae W M) k n 875 [(4, .int (nI i)), (0, .ref b), (1, .ref B), (2, .ref T), (3, .ref o)] [] := by
  obtain ⟨v, W1, M1, e1, e2, hw⟩ := f_lookedAt h (xs (nI i + 1).toNatClampNeg) (xs (nI i + 2).toNatClampNeg)
  refine g_aload_n hx 875 (i := 1) 2 dL_law_875 rfl rfl ?_
  refine g_aload_n hx 876 (i := 0) 1 dL_law_876 rfl rfl ?_
  refine g_iload hx 877 (i := 4) 0 dL_law_877 rfl ?_
  refine g_iconst hx 879 (1) dL_law_879 rfl ?_
  refine g_iadd hx 880 dL_law_880 ?_
  refine g_sld hx 881 hs (vpi (j := 1) hi hL (by decide) _ rfl) dL_law_881 ?_
  refine g_aload_n hx 882 (i := 0) 1 dL_law_882 rfl rfl ?_
  refine g_iload hx 883 (i := 4) 0 dL_law_883 rfl ?_
  refine g_iconst hx 885 (2) dL_law_885 rfl ?_
  refine g_iadd hx 886 dL_law_886 ?_
  refine g_sld hx 887 hs (vpi (j := 2) hi hL (by decide) _ rfl) dL_law_887 ?_
  refine g_callVr hx (c_SA_lookedAt l g hC (putMd σ T (owF ad) 0 M) B W (xs (nI i + 1).toNatClampNeg) (xs (nI i + 2).toNatClampNeg) e1) lkl_150 arl_150 (pW (putMd σ T (owF ad) 0 M) B ae W 0 (by decide)) (T := TX10) (N := 11) rfl (As := [.int (xs (nI i + 1).toNatClampNeg), .int (xs (nI i + 2).toNatClampNeg)]) (rest := []) rfl (Nat.le_of_ble_eq_true rfl) ⟨Nat.le_of_ble_eq_true rfl, Nat.le_of_ble_eq_true rfl⟩ ⟨rfl, rfl⟩ ⟨Nat.le_of_succ_le hk.1, Nat.le_trans (Nat.le_add_right _ 6) hk.2⟩ dL_law_888 ?_
  refine g_aload_n hx 891 (i := 2) 3 dL_law_891 rfl rfl ?_
  refine g_aload_n hx 892 (i := 0) 1 dL_law_892 rfl rfl ?_
  refine g_iload hx 893 (i := 4) 0 dL_law_893 rfl ?_
  refine g_iconst hx 895 (1) dL_law_895 rfl ?_
  refine g_iadd hx 896 dL_law_896 ?_
  refine g_sld hx 897 hs (vpi (j := 1) hi hL (by decide) _ rfl) dL_law_897 ?_
  refine g_aload_n hx 898 (i := 0) 1 dL_law_898 rfl rfl ?_
  refine g_iload hx 899 (i := 4) 0 dL_law_899 rfl ?_
  refine g_iconst hx 901 (2) dL_law_901 rfl ?_
  refine g_iadd hx 902 dL_law_902 ?_
  refine g_sld hx 903 hs (vpi (j := 2) hi hL (by decide) _ rfl) dL_law_903 ?_
  refine G.heap (LW.md (ad := ad) hlay) ?_
  refine g_callVr hx (c_Md_lookedAt (ρ := 0) (by decide) l g (putW σ B ae W1) T (owF ad) M (xs (nI i + 1).toNatClampNeg) (xs (nI i + 2).toNatClampNeg) e2) lkl_153 arl_153 (pM_o (putW σ B ae W1) T (owF ad) 0 M) (T := TX11) (N := 30) rfl (As := [.int (xs (nI i + 1).toNatClampNeg), .int (xs (nI i + 2).toNatClampNeg)]) (rest := [.int v]) rfl (Nat.le_of_ble_eq_true rfl) ⟨Nat.le_of_ble_eq_true rfl, Nat.le_of_ble_eq_true rfl⟩ ⟨rfl, rfl⟩ ⟨Nat.le_of_succ_le hk.1, Nat.le_trans (Nat.le_add_right _ 6) hk.2⟩ dL_law_904 ?_
  refine G.heap (LW.md (ad := ad) hlay).symm ?_
  exact g_icmp_eq hx 907 2042 dL_law_907 (by decide) (fun _ => (g_widen (Nat.le_succ _) (Nat.le_add_right _ _) (next _ _ _ _ hw ho))) (fun hq => absurd rfl hq)
set_option maxRecDepth 100000 in
set_option maxHeartbeats 4000000 in
theorem law_18 {X : Cx} {l : Launch} {g : Gl} {ad ae : Nat → Nat} (hx : Ok X l g RL cL_law 9 room_1) (hC : KAll g ad ae) (hN : KN g) (hl : l.stackTraces = false) {b L B T o i k n : Nat} {xs : Nat → Int32} (hs : Scr g b L xs) (hi : i + 6 ≤ L) (hL : L ≤ 3072) (hlay : Lay B T o) (hk : k + 1 ≤ room_1.cells ∧ n + 6 ≤ room_1.slots) {σ : Hp} {W : WM} {M : MdM} {f : Nat → Int64} (h : WRel W M) (ho : σ.2 o = some (eJ 1 f)) (next : LN X B T o ad ae k n [(4, .int (nI i)), (0, .ref b), (1, .ref B), (2, .ref T), (3, .ref o)]) : G X (LW σ B T ad ae W M) k n 912 [(4, .int (nI i)), (0, .ref b), (1, .ref B), (2, .ref T), (3, .ref o)] [] := by
  obtain ⟨v, M1, e1, e2, hw⟩ := f_mostMisplaced h
  refine g_aload_n hx 912 (i := 1) 2 dL_law_912 rfl rfl ?_
  refine g_callVr hx (c_SA_mostMisplaced l g hC (putMd σ T (owF ad) 0 M) B W e1) lkl_154 arl_154 (pW (putMd σ T (owF ad) 0 M) B ae W 0 (by decide)) (T := TX10) (N := 11) rfl (As := []) (rest := []) rfl (Nat.le_of_ble_eq_true rfl) ⟨Nat.le_of_ble_eq_true rfl, Nat.le_of_ble_eq_true rfl⟩ ⟨rfl, rfl⟩ ⟨Nat.le_of_succ_le hk.1, Nat.le_trans (Nat.le_add_right _ 6) hk.2⟩ dL_law_913 ?_
  refine g_aload_n hx 916 (i := 2) 3 dL_law_916 rfl rfl ?_
  refine G.heap (LW.md (ad := ad) hlay) ?_
  refine g_callVr hx (c_Md_mostMisplaced (ρ := 0) (by decide) l g (putW σ B ae W) T (owF ad) M e2) lkl_157 arl_157 (pM_o (putW σ B ae W) T (owF ad) 0 M) (T := TX11) (N := 30) rfl (As := []) (rest := [.int v]) rfl (Nat.le_of_ble_eq_true rfl) ⟨Nat.le_of_ble_eq_true rfl, Nat.le_of_ble_eq_true rfl⟩ ⟨rfl, rfl⟩ ⟨Nat.le_of_succ_le hk.1, Nat.le_trans (Nat.le_add_right _ 6) hk.2⟩ dL_law_917 ?_
  refine G.heap (LW.md (ad := ad) hlay).symm ?_
  exact g_icmp_eq hx 920 2042 dL_law_920 (by decide) (fun _ => (g_widen (Nat.le_succ _) (Nat.le_add_right _ _) (next _ _ _ _ hw ho))) (fun hq => absurd rfl hq)
set_option maxRecDepth 100000 in
set_option maxHeartbeats 4000000 in
theorem law_19 {X : Cx} {l : Launch} {g : Gl} {ad ae : Nat → Nat} (hx : Ok X l g RL cL_law 9 room_1) (hC : KAll g ad ae) (hN : KN g) (hl : l.stackTraces = false) {b L B T o i k n : Nat} {xs : Nat → Int32} (hs : Scr g b L xs) (hi : i + 6 ≤ L) (hL : L ≤ 3072) (hlay : Lay B T o) (hk : k + 1 ≤ room_1.cells ∧ n + 6 ≤ room_1.slots) {σ : Hp} {W : WM} {M : MdM} {f : Nat → Int64} (h : WRel W M) (ho : σ.2 o = some (eJ 1 f)) (next : LN X B T o ad ae k n [(4, .int (nI i)), (0, .ref b), (1, .ref B), (2, .ref T), (3, .ref o)]) : G X (LW σ B T ad ae W M) k n 925 [(4, .int (nI i)), (0, .ref b), (1, .ref B), (2, .ref T), (3, .ref o)] [] := by
  obtain ⟨v, M1, e1, e2, hw⟩ := f_mostAsked h
  refine g_aload_n hx 925 (i := 1) 2 dL_law_925 rfl rfl ?_
  refine g_callVr hx (c_SA_mostAsked l g hC (putMd σ T (owF ad) 0 M) B W e1) lkl_158 arl_158 (pW (putMd σ T (owF ad) 0 M) B ae W 0 (by decide)) (T := TX10) (N := 11) rfl (As := []) (rest := []) rfl (Nat.le_of_ble_eq_true rfl) ⟨Nat.le_of_ble_eq_true rfl, Nat.le_of_ble_eq_true rfl⟩ ⟨rfl, rfl⟩ ⟨Nat.le_of_succ_le hk.1, Nat.le_trans (Nat.le_add_right _ 6) hk.2⟩ dL_law_926 ?_
  refine g_aload_n hx 929 (i := 2) 3 dL_law_929 rfl rfl ?_
  refine G.heap (LW.md (ad := ad) hlay) ?_
  refine g_callVr hx (c_Md_mostAsked (ρ := 0) (by decide) l g (putW σ B ae W) T (owF ad) M e2) lkl_161 arl_161 (pM_o (putW σ B ae W) T (owF ad) 0 M) (T := TX11) (N := 30) rfl (As := []) (rest := [.int v]) rfl (Nat.le_of_ble_eq_true rfl) ⟨Nat.le_of_ble_eq_true rfl, Nat.le_of_ble_eq_true rfl⟩ ⟨rfl, rfl⟩ ⟨Nat.le_of_succ_le hk.1, Nat.le_trans (Nat.le_add_right _ 6) hk.2⟩ dL_law_930 ?_
  refine G.heap (LW.md (ad := ad) hlay).symm ?_
  exact g_icmp_eq hx 933 2042 dL_law_933 (by decide) (fun _ => (g_widen (Nat.le_succ _) (Nat.le_add_right _ _) (next _ _ _ _ hw ho))) (fun hq => absurd rfl hq)
set_option maxRecDepth 100000 in
set_option maxHeartbeats 4000000 in
theorem law_20 {X : Cx} {l : Launch} {g : Gl} {ad ae : Nat → Nat} (hx : Ok X l g RL cL_law 9 room_1) (hC : KAll g ad ae) (hN : KN g) (hl : l.stackTraces = false) {b L B T o i k n : Nat} {xs : Nat → Int32} (hs : Scr g b L xs) (hi : i + 6 ≤ L) (hL : L ≤ 3072) (hlay : Lay B T o) (hk : k + 1 ≤ room_1.cells ∧ n + 6 ≤ room_1.slots) {σ : Hp} {W : WM} {M : MdM} {f : Nat → Int64} (h : WRel W M) (ho : σ.2 o = some (eJ 1 f)) (next : LN X B T o ad ae k n [(4, .int (nI i)), (0, .ref b), (1, .ref B), (2, .ref T), (3, .ref o)]) : G X (LW σ B T ad ae W M) k n 938 [(4, .int (nI i)), (0, .ref b), (1, .ref B), (2, .ref T), (3, .ref o)] [] := by
  refine g_aload_n hx 938 (i := 1) 2 dL_law_938 rfl rfl ?_
  refine g_aload_n hx 939 (i := 0) 1 dL_law_939 rfl rfl ?_
  refine g_iload hx 940 (i := 4) 0 dL_law_940 rfl ?_
  refine g_iconst hx 942 (1) dL_law_942 rfl ?_
  refine g_iadd hx 943 dL_law_943 ?_
  refine g_sld hx 944 hs (vpi (j := 1) hi hL (by decide) _ rfl) dL_law_944 ?_
  refine g_aload_n hx 945 (i := 0) 1 dL_law_945 rfl rfl ?_
  refine g_iload hx 946 (i := 4) 0 dL_law_946 rfl ?_
  refine g_iconst hx 948 (2) dL_law_948 rfl ?_
  refine g_iadd hx 949 dL_law_949 ?_
  refine g_sld hx 950 hs (vpi (j := 2) hi hL (by decide) _ rfl) dL_law_950 ?_
  refine g_aload_n hx 951 (i := 3) 4 dL_law_951 rfl rfl ?_
  rcases f_why h (xs (nI i + 1).toNatClampNeg) (xs (nI i + 2).toNatClampNeg) with ⟨kx, b9, M1, e1, e2, e9, hw⟩ | ⟨v, M1, e1, e2, e9, hw⟩
  · refine g_callW hx (c_L_why l g hC hN hl (putMd σ T (owF ad) 0 M) B W (xs (nI i + 1).toNatClampNeg) (xs (nI i + 2).toNatClampNeg) (o := o) (LW.out hlay ho) hlay.1 e1 (fun k hk9 => ki_why W (xs (nI i + 1).toNatClampNeg) (xs (nI i + 2).toNatClampNeg) k (e1.trans (congrArg some hk9)))) lkw_why arw_why (As := [.ref B, .int (xs (nI i + 1).toNatClampNeg), .int (xs (nI i + 2).toNatClampNeg), .ref o]) (rest := []) rfl (Nat.le_of_ble_eq_true rfl) ⟨Nat.le_of_ble_eq_true rfl, Nat.le_of_ble_eq_true rfl⟩ hk dL_law_952 (fun v9 σ9 hp => ?_)
    obtain ⟨k9, h9, rfl, h8⟩ := Or.resolve_right hp (fun q => by obtain ⟨u9, h9, -, -⟩ := q; cases h9)
    cases h9
    obtain ⟨z, σm⟩ := σ9
    cases h8
    refine G.heap (show _ = LW (z, σ.2) B T ad ae W M from rfl) ?_
    refine g_istore hx 955 (i := 5) [(5, .int (ci1 kx)), (4, .int (nI i)), (0, .ref b), (1, .ref B), (2, .ref T), (3, .ref o)] dL_law_955 (by decide) rfl ?_
    refine g_aload_n hx 957 (i := 2) 4 dL_law_957 rfl rfl ?_
    refine g_aload_n hx 958 (i := 0) 2 dL_law_958 rfl rfl ?_
    refine g_iload hx 959 (i := 4) 1 dL_law_959 rfl ?_
    refine g_iconst hx 961 (1) dL_law_961 rfl ?_
    refine g_iadd hx 962 dL_law_962 ?_
    refine g_sld hx 963 hs (vpi (j := 1) hi hL (by decide) _ rfl) dL_law_963 ?_
    refine g_aload_n hx 964 (i := 0) 2 dL_law_964 rfl rfl ?_
    refine g_iload hx 965 (i := 4) 1 dL_law_965 rfl ?_
    refine g_iconst hx 967 (2) dL_law_967 rfl ?_
    refine g_iadd hx 968 dL_law_968 ?_
    refine g_sld hx 969 hs (vpi (j := 2) hi hL (by decide) _ rfl) dL_law_969 ?_
    refine G.heap (LW.md (ad := ad) hlay) ?_
    refine g_callVr hx (c_Md_why (ρ := 0) (by decide) l g (putW (z, σ.2) B ae W) T (owF ad) M (xs (nI i + 1).toNatClampNeg) (xs (nI i + 2).toNatClampNeg) e2) lkl_164 arl_164 (pM_o (putW (z, σ.2) B ae W) T (owF ad) 0 M) (T := TX11) (N := 30) rfl (As := [.int (xs (nI i + 1).toNatClampNeg), .int (xs (nI i + 2).toNatClampNeg)]) (rest := []) rfl (Nat.le_of_ble_eq_true rfl) ⟨Nat.le_of_ble_eq_true rfl, Nat.le_of_ble_eq_true rfl⟩ ⟨rfl, rfl⟩ hk dL_law_970 ?_
    refine G.heap (LW.md (ad := ad) hlay).symm ?_
    refine g_istore hx 973 (i := 6) [(6, .int b9), (5, .int (ci1 kx)), (4, .int (nI i)), (0, .ref b), (1, .ref B), (2, .ref T), (3, .ref o)] dL_law_973 (by decide) rfl ?_
    refine g_aload_n hx 975 (i := 2) 5 dL_law_975 rfl rfl ?_
    refine G.heap (LW.md (ad := ad) hlay) ?_
    refine g_callVr hx (c_Md_thrown (ρ := 0) (by decide) l g (putW (z, σ.2) B ae W) T (owF ad) M1 rfl) lkl_90 arl_90 (pM_o (putW (z, σ.2) B ae W) T (owF ad) 0 M1) (T := TX11) (N := 30) rfl (As := []) (rest := []) rfl (Nat.le_of_ble_eq_true rfl) ⟨Nat.le_of_ble_eq_true rfl, Nat.le_of_ble_eq_true rfl⟩ ⟨rfl, rfl⟩ hk dL_law_976 ?_
    refine G.heap (LW.md (ad := ad) hlay).symm ?_
    refine g_iload hx 979 (i := 5) 1 dL_law_979 rfl ?_
    refine g_icmp_eq hx 981 986 dL_law_981 (by decide) (fun _ => ?_) (fun hq => absurd e9 hq)
    refine g_iload hx 986 (i := 5) 1 dL_law_986 rfl ?_
    refine g_if_ne hx 988 1003 dL_law_988 (by decide) (fun _ => ?_) (fun hq => absurd hq (ci_n _))
    refine g_goto hx 1003 2042 dL_law_1003 (by decide) ?_
    refine g_ls [2, 3, 4, 5, 6] [(4, .int (nI i)), (0, .ref b), (1, .ref B), (2, .ref T), (3, .ref o)] rfl ?_
    exact next _ _ _ _ hw ho
  · refine g_callW hx (c_L_why l g hC hN hl (putMd σ T (owF ad) 0 M) B W (xs (nI i + 1).toNatClampNeg) (xs (nI i + 2).toNatClampNeg) (o := o) (LW.out hlay ho) hlay.1 e1 (fun k hk9 => ki_why W (xs (nI i + 1).toNatClampNeg) (xs (nI i + 2).toNatClampNeg) k (e1.trans (congrArg some hk9)))) lkw_why arw_why (As := [.ref B, .int (xs (nI i + 1).toNatClampNeg), .int (xs (nI i + 2).toNatClampNeg), .ref o]) (rest := []) rfl (Nat.le_of_ble_eq_true rfl) ⟨Nat.le_of_ble_eq_true rfl, Nat.le_of_ble_eq_true rfl⟩ hk dL_law_952 (fun v9 σ9 hp => ?_)
    obtain ⟨u9, h9, rfl, rfl⟩ := Or.resolve_left hp (fun q => by obtain ⟨k9, h9, -, -⟩ := q; cases h9)
    cases h9
    refine G.heap (LW.set hlay _) ?_
    refine g_istore hx 955 (i := 5) [(5, .int (0)), (4, .int (nI i)), (0, .ref b), (1, .ref B), (2, .ref T), (3, .ref o)] dL_law_955 (by decide) rfl ?_
    refine g_aload_n hx 957 (i := 2) 4 dL_law_957 rfl rfl ?_
    refine g_aload_n hx 958 (i := 0) 2 dL_law_958 rfl rfl ?_
    refine g_iload hx 959 (i := 4) 1 dL_law_959 rfl ?_
    refine g_iconst hx 961 (1) dL_law_961 rfl ?_
    refine g_iadd hx 962 dL_law_962 ?_
    refine g_sld hx 963 hs (vpi (j := 1) hi hL (by decide) _ rfl) dL_law_963 ?_
    refine g_aload_n hx 964 (i := 0) 2 dL_law_964 rfl rfl ?_
    refine g_iload hx 965 (i := 4) 1 dL_law_965 rfl ?_
    refine g_iconst hx 967 (2) dL_law_967 rfl ?_
    refine g_iadd hx 968 dL_law_968 ?_
    refine g_sld hx 969 hs (vpi (j := 2) hi hL (by decide) _ rfl) dL_law_969 ?_
    refine G.heap (LW.md (ad := ad) hlay) ?_
    refine g_callVr hx (c_Md_why (ρ := 0) (by decide) l g (putW (hset σ o (eJ 1 (vp_updL f 0 v.toInt64))) B ae W) T (owF ad) M (xs (nI i + 1).toNatClampNeg) (xs (nI i + 2).toNatClampNeg) e2) lkl_164 arl_164 (pM_o (putW (hset σ o (eJ 1 (vp_updL f 0 v.toInt64))) B ae W) T (owF ad) 0 M) (T := TX11) (N := 30) rfl (As := [.int (xs (nI i + 1).toNatClampNeg), .int (xs (nI i + 2).toNatClampNeg)]) (rest := []) rfl (Nat.le_of_ble_eq_true rfl) ⟨Nat.le_of_ble_eq_true rfl, Nat.le_of_ble_eq_true rfl⟩ ⟨rfl, rfl⟩ hk dL_law_970 ?_
    refine G.heap (LW.md (ad := ad) hlay).symm ?_
    refine g_istore hx 973 (i := 6) [(6, .int v), (5, .int (0)), (4, .int (nI i)), (0, .ref b), (1, .ref B), (2, .ref T), (3, .ref o)] dL_law_973 (by decide) rfl ?_
    refine g_aload_n hx 975 (i := 2) 5 dL_law_975 rfl rfl ?_
    refine G.heap (LW.md (ad := ad) hlay) ?_
    refine g_callVr hx (c_Md_thrown (ρ := 0) (by decide) l g (putW (hset σ o (eJ 1 (vp_updL f 0 v.toInt64))) B ae W) T (owF ad) M1 rfl) lkl_90 arl_90 (pM_o (putW (hset σ o (eJ 1 (vp_updL f 0 v.toInt64))) B ae W) T (owF ad) 0 M1) (T := TX11) (N := 30) rfl (As := []) (rest := []) rfl (Nat.le_of_ble_eq_true rfl) ⟨Nat.le_of_ble_eq_true rfl, Nat.le_of_ble_eq_true rfl⟩ ⟨rfl, rfl⟩ hk dL_law_976 ?_
    refine G.heap (LW.md (ad := ad) hlay).symm ?_
    refine g_iload hx 979 (i := 5) 1 dL_law_979 rfl ?_
    refine g_icmp_eq hx 981 986 dL_law_981 (by decide) (fun _ => ?_) (fun hq => absurd e9 hq)
    refine g_iload hx 986 (i := 5) 1 dL_law_986 rfl ?_
    refine g_if_ne hx 988 1003 dL_law_988 (by decide) (fun hq => absurd rfl hq) (fun _ => ?_)
    refine g_aload_n hx 991 (i := 3) 6 dL_law_991 rfl rfl ?_
    refine g_iconst hx 992 (0) dL_law_992 rfl ?_
    refine g_lald hx 993 (pW_out _ B ae W hlay.1 |>.trans (LW.out hlay (hset_self _ _ _))) vp01 dL_law_993 ?_
    refine g_iload hx 994 (i := 6) 0 dL_law_994 rfl ?_
    refine g_i2l hx 996 dL_law_996 ?_
    refine g_lcmp hx 997 dL_law_997 ?_
    refine g_if_eq hx 998 1003 dL_law_998 (by decide) (fun _ => ?_) (fun hq => absurd (cmp_ll _) hq)
    refine g_goto hx 1003 2042 dL_law_1003 (by decide) ?_
    refine g_ls [2, 3, 4, 5, 6] [(4, .int (nI i)), (0, .ref b), (1, .ref B), (2, .ref T), (3, .ref o)] rfl ?_
    exact next _ _ _ _ hw (hset_self _ _ _)
set_option maxRecDepth 100000 in
set_option maxHeartbeats 4000000 in
theorem law_21 {X : Cx} {l : Launch} {g : Gl} {ad ae : Nat → Nat} (hx : Ok X l g RL cL_law 9 room_1) (hC : KAll g ad ae) (hN : KN g) (hl : l.stackTraces = false) {b L B T o i k n : Nat} {xs : Nat → Int32} (hs : Scr g b L xs) (hi : i + 6 ≤ L) (hL : L ≤ 3072) (hlay : Lay B T o) (hk : k + 1 ≤ room_1.cells ∧ n + 6 ≤ room_1.slots) {σ : Hp} {W : WM} {M : MdM} {f : Nat → Int64} (h : WRel W M) (ho : σ.2 o = some (eJ 1 f)) (next : LN X B T o ad ae k n [(4, .int (nI i)), (0, .ref b), (1, .ref B), (2, .ref T), (3, .ref o)]) : G X (LW σ B T ad ae W M) k n 1006 [(4, .int (nI i)), (0, .ref b), (1, .ref B), (2, .ref T), (3, .ref o)] [] := by
  refine g_aload_n hx 1006 (i := 1) 2 dL_law_1006 rfl rfl ?_
  refine g_aload_n hx 1007 (i := 0) 1 dL_law_1007 rfl rfl ?_
  refine g_iload hx 1008 (i := 4) 0 dL_law_1008 rfl ?_
  refine g_iconst hx 1010 (1) dL_law_1010 rfl ?_
  refine g_iadd hx 1011 dL_law_1011 ?_
  refine g_sld hx 1012 hs (vpi (j := 1) hi hL (by decide) _ rfl) dL_law_1012 ?_
  refine g_aload_n hx 1013 (i := 0) 1 dL_law_1013 rfl rfl ?_
  refine g_iload hx 1014 (i := 4) 0 dL_law_1014 rfl ?_
  refine g_iconst hx 1016 (2) dL_law_1016 rfl ?_
  refine g_iadd hx 1017 dL_law_1017 ?_
  refine g_sld hx 1018 hs (vpi (j := 2) hi hL (by decide) _ rfl) dL_law_1018 ?_
  refine g_aload_n hx 1019 (i := 3) 4 dL_law_1019 rfl rfl ?_
  rcases f_cause h (xs (nI i + 1).toNatClampNeg) (xs (nI i + 2).toNatClampNeg) with ⟨kx, b9, M1, e1, e2, e9, hw⟩ | ⟨v, M1, e1, e2, e9, hw⟩
  · refine g_callW hx (c_L_cause l g hC hN hl (putMd σ T (owF ad) 0 M) B W (xs (nI i + 1).toNatClampNeg) (xs (nI i + 2).toNatClampNeg) (o := o) (LW.out hlay ho) hlay.1 e1 (fun k hk9 => ki_cause W (xs (nI i + 1).toNatClampNeg) (xs (nI i + 2).toNatClampNeg) k (e1.trans (congrArg some hk9)))) lkw_cause arw_cause (As := [.ref B, .int (xs (nI i + 1).toNatClampNeg), .int (xs (nI i + 2).toNatClampNeg), .ref o]) (rest := []) rfl (Nat.le_of_ble_eq_true rfl) ⟨Nat.le_of_ble_eq_true rfl, Nat.le_of_ble_eq_true rfl⟩ hk dL_law_1020 (fun v9 σ9 hp => ?_)
    obtain ⟨k9, h9, rfl, h8⟩ := Or.resolve_right hp (fun q => by obtain ⟨u9, h9, -, -⟩ := q; cases h9)
    cases h9
    obtain ⟨z, σm⟩ := σ9
    cases h8
    refine G.heap (show _ = LW (z, σ.2) B T ad ae W M from rfl) ?_
    refine g_istore hx 1023 (i := 5) [(5, .int (ci1 kx)), (4, .int (nI i)), (0, .ref b), (1, .ref B), (2, .ref T), (3, .ref o)] dL_law_1023 (by decide) rfl ?_
    refine g_aload_n hx 1025 (i := 2) 4 dL_law_1025 rfl rfl ?_
    refine g_aload_n hx 1026 (i := 0) 2 dL_law_1026 rfl rfl ?_
    refine g_iload hx 1027 (i := 4) 1 dL_law_1027 rfl ?_
    refine g_iconst hx 1029 (1) dL_law_1029 rfl ?_
    refine g_iadd hx 1030 dL_law_1030 ?_
    refine g_sld hx 1031 hs (vpi (j := 1) hi hL (by decide) _ rfl) dL_law_1031 ?_
    refine g_aload_n hx 1032 (i := 0) 2 dL_law_1032 rfl rfl ?_
    refine g_iload hx 1033 (i := 4) 1 dL_law_1033 rfl ?_
    refine g_iconst hx 1035 (2) dL_law_1035 rfl ?_
    refine g_iadd hx 1036 dL_law_1036 ?_
    refine g_sld hx 1037 hs (vpi (j := 2) hi hL (by decide) _ rfl) dL_law_1037 ?_
    refine G.heap (LW.md (ad := ad) hlay) ?_
    refine g_callVr hx (c_Md_cause (ρ := 0) (by decide) l g (putW (z, σ.2) B ae W) T (owF ad) M (xs (nI i + 1).toNatClampNeg) (xs (nI i + 2).toNatClampNeg) e2) lkl_167 arl_167 (pM_o (putW (z, σ.2) B ae W) T (owF ad) 0 M) (T := TX11) (N := 30) rfl (As := [.int (xs (nI i + 1).toNatClampNeg), .int (xs (nI i + 2).toNatClampNeg)]) (rest := []) rfl (Nat.le_of_ble_eq_true rfl) ⟨Nat.le_of_ble_eq_true rfl, Nat.le_of_ble_eq_true rfl⟩ ⟨rfl, rfl⟩ hk dL_law_1038 ?_
    refine G.heap (LW.md (ad := ad) hlay).symm ?_
    refine g_istore hx 1041 (i := 6) [(6, .int b9), (5, .int (ci1 kx)), (4, .int (nI i)), (0, .ref b), (1, .ref B), (2, .ref T), (3, .ref o)] dL_law_1041 (by decide) rfl ?_
    refine g_aload_n hx 1043 (i := 2) 5 dL_law_1043 rfl rfl ?_
    refine G.heap (LW.md (ad := ad) hlay) ?_
    refine g_callVr hx (c_Md_thrown (ρ := 0) (by decide) l g (putW (z, σ.2) B ae W) T (owF ad) M1 rfl) lkl_90 arl_90 (pM_o (putW (z, σ.2) B ae W) T (owF ad) 0 M1) (T := TX11) (N := 30) rfl (As := []) (rest := []) rfl (Nat.le_of_ble_eq_true rfl) ⟨Nat.le_of_ble_eq_true rfl, Nat.le_of_ble_eq_true rfl⟩ ⟨rfl, rfl⟩ hk dL_law_1044 ?_
    refine G.heap (LW.md (ad := ad) hlay).symm ?_
    refine g_iload hx 1047 (i := 5) 1 dL_law_1047 rfl ?_
    refine g_icmp_eq hx 1049 1054 dL_law_1049 (by decide) (fun _ => ?_) (fun hq => absurd e9 hq)
    refine g_iload hx 1054 (i := 5) 1 dL_law_1054 rfl ?_
    refine g_if_ne hx 1056 1071 dL_law_1056 (by decide) (fun _ => ?_) (fun hq => absurd hq (ci_n _))
    refine g_goto hx 1071 2042 dL_law_1071 (by decide) ?_
    refine g_ls [2, 3, 4, 5, 6] [(4, .int (nI i)), (0, .ref b), (1, .ref B), (2, .ref T), (3, .ref o)] rfl ?_
    exact next _ _ _ _ hw ho
  · refine g_callW hx (c_L_cause l g hC hN hl (putMd σ T (owF ad) 0 M) B W (xs (nI i + 1).toNatClampNeg) (xs (nI i + 2).toNatClampNeg) (o := o) (LW.out hlay ho) hlay.1 e1 (fun k hk9 => ki_cause W (xs (nI i + 1).toNatClampNeg) (xs (nI i + 2).toNatClampNeg) k (e1.trans (congrArg some hk9)))) lkw_cause arw_cause (As := [.ref B, .int (xs (nI i + 1).toNatClampNeg), .int (xs (nI i + 2).toNatClampNeg), .ref o]) (rest := []) rfl (Nat.le_of_ble_eq_true rfl) ⟨Nat.le_of_ble_eq_true rfl, Nat.le_of_ble_eq_true rfl⟩ hk dL_law_1020 (fun v9 σ9 hp => ?_)
    obtain ⟨u9, h9, rfl, rfl⟩ := Or.resolve_left hp (fun q => by obtain ⟨k9, h9, -, -⟩ := q; cases h9)
    cases h9
    refine G.heap (LW.set hlay _) ?_
    refine g_istore hx 1023 (i := 5) [(5, .int (0)), (4, .int (nI i)), (0, .ref b), (1, .ref B), (2, .ref T), (3, .ref o)] dL_law_1023 (by decide) rfl ?_
    refine g_aload_n hx 1025 (i := 2) 4 dL_law_1025 rfl rfl ?_
    refine g_aload_n hx 1026 (i := 0) 2 dL_law_1026 rfl rfl ?_
    refine g_iload hx 1027 (i := 4) 1 dL_law_1027 rfl ?_
    refine g_iconst hx 1029 (1) dL_law_1029 rfl ?_
    refine g_iadd hx 1030 dL_law_1030 ?_
    refine g_sld hx 1031 hs (vpi (j := 1) hi hL (by decide) _ rfl) dL_law_1031 ?_
    refine g_aload_n hx 1032 (i := 0) 2 dL_law_1032 rfl rfl ?_
    refine g_iload hx 1033 (i := 4) 1 dL_law_1033 rfl ?_
    refine g_iconst hx 1035 (2) dL_law_1035 rfl ?_
    refine g_iadd hx 1036 dL_law_1036 ?_
    refine g_sld hx 1037 hs (vpi (j := 2) hi hL (by decide) _ rfl) dL_law_1037 ?_
    refine G.heap (LW.md (ad := ad) hlay) ?_
    refine g_callVr hx (c_Md_cause (ρ := 0) (by decide) l g (putW (hset σ o (eJ 1 (vp_updL f 0 v.toInt64))) B ae W) T (owF ad) M (xs (nI i + 1).toNatClampNeg) (xs (nI i + 2).toNatClampNeg) e2) lkl_167 arl_167 (pM_o (putW (hset σ o (eJ 1 (vp_updL f 0 v.toInt64))) B ae W) T (owF ad) 0 M) (T := TX11) (N := 30) rfl (As := [.int (xs (nI i + 1).toNatClampNeg), .int (xs (nI i + 2).toNatClampNeg)]) (rest := []) rfl (Nat.le_of_ble_eq_true rfl) ⟨Nat.le_of_ble_eq_true rfl, Nat.le_of_ble_eq_true rfl⟩ ⟨rfl, rfl⟩ hk dL_law_1038 ?_
    refine G.heap (LW.md (ad := ad) hlay).symm ?_
    refine g_istore hx 1041 (i := 6) [(6, .int v), (5, .int (0)), (4, .int (nI i)), (0, .ref b), (1, .ref B), (2, .ref T), (3, .ref o)] dL_law_1041 (by decide) rfl ?_
    refine g_aload_n hx 1043 (i := 2) 5 dL_law_1043 rfl rfl ?_
    refine G.heap (LW.md (ad := ad) hlay) ?_
    refine g_callVr hx (c_Md_thrown (ρ := 0) (by decide) l g (putW (hset σ o (eJ 1 (vp_updL f 0 v.toInt64))) B ae W) T (owF ad) M1 rfl) lkl_90 arl_90 (pM_o (putW (hset σ o (eJ 1 (vp_updL f 0 v.toInt64))) B ae W) T (owF ad) 0 M1) (T := TX11) (N := 30) rfl (As := []) (rest := []) rfl (Nat.le_of_ble_eq_true rfl) ⟨Nat.le_of_ble_eq_true rfl, Nat.le_of_ble_eq_true rfl⟩ ⟨rfl, rfl⟩ hk dL_law_1044 ?_
    refine G.heap (LW.md (ad := ad) hlay).symm ?_
    refine g_iload hx 1047 (i := 5) 1 dL_law_1047 rfl ?_
    refine g_icmp_eq hx 1049 1054 dL_law_1049 (by decide) (fun _ => ?_) (fun hq => absurd e9 hq)
    refine g_iload hx 1054 (i := 5) 1 dL_law_1054 rfl ?_
    refine g_if_ne hx 1056 1071 dL_law_1056 (by decide) (fun hq => absurd rfl hq) (fun _ => ?_)
    refine g_aload_n hx 1059 (i := 3) 6 dL_law_1059 rfl rfl ?_
    refine g_iconst hx 1060 (0) dL_law_1060 rfl ?_
    refine g_lald hx 1061 (pW_out _ B ae W hlay.1 |>.trans (LW.out hlay (hset_self _ _ _))) vp01 dL_law_1061 ?_
    refine g_iload hx 1062 (i := 6) 0 dL_law_1062 rfl ?_
    refine g_i2l hx 1064 dL_law_1064 ?_
    refine g_lcmp hx 1065 dL_law_1065 ?_
    refine g_if_eq hx 1066 1071 dL_law_1066 (by decide) (fun _ => ?_) (fun hq => absurd (cmp_ll _) hq)
    refine g_goto hx 1071 2042 dL_law_1071 (by decide) ?_
    refine g_ls [2, 3, 4, 5, 6] [(4, .int (nI i)), (0, .ref b), (1, .ref B), (2, .ref T), (3, .ref o)] rfl ?_
    exact next _ _ _ _ hw (hset_self _ _ _)
set_option maxRecDepth 100000 in
set_option maxHeartbeats 4000000 in
theorem law_22 {X : Cx} {l : Launch} {g : Gl} {ad ae : Nat → Nat} (hx : Ok X l g RL cL_law 9 room_1) (hC : KAll g ad ae) (hN : KN g) (hl : l.stackTraces = false) {b L B T o i k n : Nat} {xs : Nat → Int32} (hs : Scr g b L xs) (hi : i + 6 ≤ L) (hL : L ≤ 3072) (hlay : Lay B T o) (hk : k + 1 ≤ room_1.cells ∧ n + 6 ≤ room_1.slots) {σ : Hp} {W : WM} {M : MdM} {f : Nat → Int64} (h : WRel W M) (ho : σ.2 o = some (eJ 1 f)) (next : LN X B T o ad ae k n [(4, .int (nI i)), (0, .ref b), (1, .ref B), (2, .ref T), (3, .ref o)]) : G X (LW σ B T ad ae W M) k n 1074 [(4, .int (nI i)), (0, .ref b), (1, .ref B), (2, .ref T), (3, .ref o)] [] := by
  obtain ⟨M1, e2, hw⟩ := f_waitsFor h (xs (nI i + 1).toNatClampNeg)
  refine g_aload_n hx 1074 (i := 1) 2 dL_law_1074 rfl rfl ?_
  refine g_aload_n hx 1075 (i := 0) 1 dL_law_1075 rfl rfl ?_
  refine g_iload hx 1076 (i := 4) 0 dL_law_1076 rfl ?_
  refine g_iconst hx 1078 (1) dL_law_1078 rfl ?_
  refine g_iadd hx 1079 dL_law_1079 ?_
  refine g_sld hx 1080 hs (vpi (j := 1) hi hL (by decide) _ rfl) dL_law_1080 ?_
  refine g_callVr hx (c_SA_waitsFor l g hC (putMd σ T (owF ad) 0 M) B W (xs (nI i + 1).toNatClampNeg) rfl) lkl_168 arl_168 (pW (putMd σ T (owF ad) 0 M) B ae W 0 (by decide)) (T := TX10) (N := 11) rfl (As := [.int (xs (nI i + 1).toNatClampNeg)]) (rest := []) rfl (Nat.le_of_ble_eq_true rfl) ⟨Nat.le_of_ble_eq_true rfl, Nat.le_of_ble_eq_true rfl⟩ ⟨rfl, rfl⟩ ⟨Nat.le_of_succ_le hk.1, Nat.le_trans (Nat.le_add_right _ 6) hk.2⟩ dL_law_1081 ?_
  refine g_aload_n hx 1084 (i := 2) 3 dL_law_1084 rfl rfl ?_
  refine g_aload_n hx 1085 (i := 0) 1 dL_law_1085 rfl rfl ?_
  refine g_iload hx 1086 (i := 4) 0 dL_law_1086 rfl ?_
  refine g_iconst hx 1088 (1) dL_law_1088 rfl ?_
  refine g_iadd hx 1089 dL_law_1089 ?_
  refine g_sld hx 1090 hs (vpi (j := 1) hi hL (by decide) _ rfl) dL_law_1090 ?_
  refine G.heap (LW.md (ad := ad) hlay) ?_
  refine g_callVr hx (c_Md_waitsFor (ρ := 0) (by decide) l g (putW σ B ae W) T (owF ad) M (xs (nI i + 1).toNatClampNeg) e2) lkl_171 arl_171 (pM_o (putW σ B ae W) T (owF ad) 0 M) (T := TX11) (N := 30) rfl (As := [.int (xs (nI i + 1).toNatClampNeg)]) (rest := [.int (SA_waitsFor W (xs (nI i + 1).toNatClampNeg))]) rfl (Nat.le_of_ble_eq_true rfl) ⟨Nat.le_of_ble_eq_true rfl, Nat.le_of_ble_eq_true rfl⟩ ⟨rfl, rfl⟩ ⟨Nat.le_of_succ_le hk.1, Nat.le_trans (Nat.le_add_right _ 6) hk.2⟩ dL_law_1091 ?_
  refine G.heap (LW.md (ad := ad) hlay).symm ?_
  exact g_icmp_eq hx 1094 2042 dL_law_1094 (by decide) (fun _ => (g_widen (Nat.le_succ _) (Nat.le_add_right _ _) (next _ _ _ _ hw ho))) (fun hq => absurd rfl hq)
set_option maxRecDepth 100000 in
set_option maxHeartbeats 4000000 in
theorem law_23 {X : Cx} {l : Launch} {g : Gl} {ad ae : Nat → Nat} (hx : Ok X l g RL cL_law 9 room_1) (hC : KAll g ad ae) (hN : KN g) (hl : l.stackTraces = false) {b L B T o i k n : Nat} {xs : Nat → Int32} (hs : Scr g b L xs) (hi : i + 6 ≤ L) (hL : L ≤ 3072) (hlay : Lay B T o) (hk : k + 1 ≤ room_1.cells ∧ n + 6 ≤ room_1.slots) {σ : Hp} {W : WM} {M : MdM} {f : Nat → Int64} (h : WRel W M) (ho : σ.2 o = some (eJ 1 f)) (next : LN X B T o ad ae k n [(4, .int (nI i)), (0, .ref b), (1, .ref B), (2, .ref T), (3, .ref o)]) : G X (LW σ B T ad ae W M) k n 1099 [(4, .int (nI i)), (0, .ref b), (1, .ref B), (2, .ref T), (3, .ref o)] [] := by
  obtain ⟨v, W1, M1, e1, e2, hw⟩ := f_servedIn h (xs (nI i + 1).toNatClampNeg)
  refine g_aload_n hx 1099 (i := 1) 2 dL_law_1099 rfl rfl ?_
  refine g_aload_n hx 1100 (i := 0) 1 dL_law_1100 rfl rfl ?_
  refine g_iload hx 1101 (i := 4) 0 dL_law_1101 rfl ?_
  refine g_iconst hx 1103 (1) dL_law_1103 rfl ?_
  refine g_iadd hx 1104 dL_law_1104 ?_
  refine g_sld hx 1105 hs (vpi (j := 1) hi hL (by decide) _ rfl) dL_law_1105 ?_
  refine g_callVr hx (c_SA_servedIn l g hC (putMd σ T (owF ad) 0 M) B W (xs (nI i + 1).toNatClampNeg) e1) lkl_172 arl_172 (pW (putMd σ T (owF ad) 0 M) B ae W 0 (by decide)) (T := TX10) (N := 11) rfl (As := [.int (xs (nI i + 1).toNatClampNeg)]) (rest := []) rfl (Nat.le_of_ble_eq_true rfl) ⟨Nat.le_of_ble_eq_true rfl, Nat.le_of_ble_eq_true rfl⟩ ⟨rfl, rfl⟩ ⟨Nat.le_of_succ_le hk.1, Nat.le_trans (Nat.le_add_right _ 6) hk.2⟩ dL_law_1106 ?_
  refine g_aload_n hx 1109 (i := 2) 3 dL_law_1109 rfl rfl ?_
  refine g_aload_n hx 1110 (i := 0) 1 dL_law_1110 rfl rfl ?_
  refine g_iload hx 1111 (i := 4) 0 dL_law_1111 rfl ?_
  refine g_iconst hx 1113 (1) dL_law_1113 rfl ?_
  refine g_iadd hx 1114 dL_law_1114 ?_
  refine g_sld hx 1115 hs (vpi (j := 1) hi hL (by decide) _ rfl) dL_law_1115 ?_
  refine G.heap (LW.md (ad := ad) hlay) ?_
  refine g_callVr hx (c_Md_servedIn (ρ := 0) (by decide) l g (putW σ B ae W1) T (owF ad) M (xs (nI i + 1).toNatClampNeg) e2) lkl_175 arl_175 (pM_o (putW σ B ae W1) T (owF ad) 0 M) (T := TX11) (N := 30) rfl (As := [.int (xs (nI i + 1).toNatClampNeg)]) (rest := [.int v]) rfl (Nat.le_of_ble_eq_true rfl) ⟨Nat.le_of_ble_eq_true rfl, Nat.le_of_ble_eq_true rfl⟩ ⟨rfl, rfl⟩ ⟨Nat.le_of_succ_le hk.1, Nat.le_trans (Nat.le_add_right _ 6) hk.2⟩ dL_law_1116 ?_
  refine G.heap (LW.md (ad := ad) hlay).symm ?_
  exact g_icmp_eq hx 1119 2042 dL_law_1119 (by decide) (fun _ => (g_widen (Nat.le_succ _) (Nat.le_add_right _ _) (next _ _ _ _ hw ho))) (fun hq => absurd rfl hq)
