def SA_init : Option WM := if (0 : Int32) ≤ 3 ∧ (3 : Int32) ≤ 900 then (Option.bind (St_begin (W00.1 9) 3 2 2 2) fun M_528 => lt' (St_addFolder M_528 10 0) fun M_529 => lt' (St_addFolder M_529 20 0) fun M_530 => lt' (St_addFolder M_530 30 4) fun M_531 => lt' (St_addFolder M_531 50 0) fun M_532 => lt' (St_addFolder M_532 40 0) fun M_533 => some (setS (setS (setS (setS (setS (setS (setWL W00 2 (lnfill 3 3)) 9 M_528) 9 M_529) 9 M_530) 9 M_531) 9 M_532) 9 M_533)) else none
theorem lk_X10_68 : Lk md_Ln_fillWithZeros [.methodLink RX10 68 md_Ln_fillWithZeros.y, .instanceMethod md_Ln_fillWithZeros.y, .selects md_Ln_fillWithZeros.y.cls md_Ln_fillWithZeros.y md_Ln_fillWithZeros.y] := lk_of (by decide +kernel)
theorem lk_X10_71 : Lk md_St_begin [.methodLink RX10 71 md_St_begin.y, .instanceMethod md_St_begin.y, .selects md_St_begin.y.cls md_St_begin.y md_St_begin.y] := lk_of (by decide +kernel)
theorem lk_X10_75 : Lk md_St_addFolder [.methodLink RX10 75 md_St_addFolder.y, .instanceMethod md_St_addFolder.y, .selects md_St_addFolder.y.cls md_St_addFolder.y md_St_addFolder.y] := lk_of (by decide +kernel)
set_option maxRecDepth 100000 in
set_option maxHeartbeats 4000000 in
theorem w_SA_init2 {ad ae : Nat → Nat} {X : Cx} {l : Launch} {g : Gl} (hC : KAll g ad ae) (hx : Ok X l g RX10 cX10_init 1 md_SA_init.rm) {σ : Hp} {B : Nat} {r : WM} (hR : Ret X (rs none (putW σ B ae r)) md_SA_init.rm.cells md_SA_init.rm.slots none) (hr : SA_init = some r) : G X (putW σ B ae W00) md_SA_init.rm.cells md_SA_init.rm.slots 124 [(0, .ref B)] [] := by
  unfold SA_init at hr
  refine g_aload_n hx 124 (i := 0) 0 dX10_init_124 rfl rfl ?_
  refine g_get hx 125 (C := RX10) (T := TX10) (N := 11) 2 (.ref (B + 5)) (pW σ B ae W00 0 (by decide)) rfl (by decide) rfl fl_X10_21 dX10_init_125 ?_
  refine g_iconst hx 128 (3) dX10_init_128 rfl ?_
  obtain ⟨hm_527, hr⟩ := ob hr
  refine g_callVv hx (k_fill l g (pW_l2 σ B ae W00) (by decide) 3 hm_527) lk_X10_68 ar_Ln_fillWithZeros (pW_l2 σ B ae W00).1 (T := TX2) (N := 2) rfl (As := [.int 3]) (rest := []) rfl (Nat.le_of_ble_eq_true rfl) ⟨Nat.le_of_ble_eq_true rfl, Nat.le_of_ble_eq_true rfl⟩ ⟨rfl, rfl⟩ ⟨Nat.le_refl _, Nat.le_refl _⟩ dX10_init_129 ?_
  refine G.heap (pW_p2 σ B ae W00 (lnfill 3 3)) ?_
  refine g_aload_n hx 132 (i := 0) 0 dX10_init_132 rfl rfl ?_
  refine g_get hx 133 (C := RX10) (T := TX10) (N := 11) 6 (.ref (B + 332)) (pW σ B ae (setWL W00 2 (lnfill 3 3)) 0 (by decide)) rfl (by decide) rfl fl_X10_50 dX10_init_133 ?_
  refine g_iconst hx 136 (3) dX10_init_136 rfl ?_
  refine g_iconst hx 137 (2) dX10_init_137 rfl ?_
  refine g_iconst hx 138 (2) dX10_init_138 rfl ?_
  refine g_iconst hx 139 (2) dX10_init_139 rfl ?_
  obtain ⟨M_528, eM_528, hr⟩ := bind_e hr
  refine g_callVv hx (MG.at9 (w := setWL W00 2 (lnfill 3 3)) (c_St_begin l g (putW σ B ae (setWL W00 2 (lnfill 3 3))) (B + 332) (W00.1 9) 3 2 2 2 eM_528)) lk_X10_71 ar_St_begin (pW_st9 σ B ae (setWL W00 2 (lnfill 3 3)) 0 (by decide)) (T := TX8) (N := 15) rfl (As := [.int 3, .int 2, .int 2, .int 2]) (rest := []) rfl (Nat.le_of_ble_eq_true rfl) ⟨Nat.le_of_ble_eq_true rfl, Nat.le_of_ble_eq_true rfl⟩ ⟨rfl, rfl⟩ ⟨Nat.le_refl _, Nat.le_refl _⟩ dX10_init_140 ?_
  refine g_aload_n hx 143 (i := 0) 0 dX10_init_143 rfl rfl ?_
  refine g_get hx 144 (C := RX10) (T := TX10) (N := 11) 6 (.ref (B + 332)) (pW σ B ae (setS (setWL W00 2 (lnfill 3 3)) 9 M_528) 0 (by decide)) rfl (by decide) rfl fl_X10_50 dX10_init_144 ?_
  refine g_bipush hx 147 (10) dX10_init_147 rfl ?_
  refine g_iconst hx 149 (0) dX10_init_149 rfl ?_
  obtain ⟨M_529, eM_529, hr⟩ := lt'_e hr
  refine g_callVv hx (MG.at9 (w := setS (setWL W00 2 (lnfill 3 3)) 9 M_528) (c_St_addFolder l g (putW σ B ae (setS (setWL W00 2 (lnfill 3 3)) 9 M_528)) (B + 332) M_528 10 0 eM_529.symm)) lk_X10_75 ar_St_addFolder (pW_st9 σ B ae (setS (setWL W00 2 (lnfill 3 3)) 9 M_528) 0 (by decide)) (T := TX8) (N := 15) rfl (As := [.int 10, .int 0]) (rest := []) rfl (Nat.le_of_ble_eq_true rfl) ⟨Nat.le_of_ble_eq_true rfl, Nat.le_of_ble_eq_true rfl⟩ ⟨rfl, rfl⟩ ⟨Nat.le_refl _, Nat.le_refl _⟩ dX10_init_150 ?_
  refine g_aload_n hx 153 (i := 0) 0 dX10_init_153 rfl rfl ?_
  refine g_get hx 154 (C := RX10) (T := TX10) (N := 11) 6 (.ref (B + 332)) (pW σ B ae (setS (setS (setWL W00 2 (lnfill 3 3)) 9 M_528) 9 M_529) 0 (by decide)) rfl (by decide) rfl fl_X10_50 dX10_init_154 ?_
  refine g_bipush hx 157 (20) dX10_init_157 rfl ?_
  refine g_iconst hx 159 (0) dX10_init_159 rfl ?_
  obtain ⟨M_530, eM_530, hr⟩ := lt'_e hr
  refine g_callVv hx (MG.at9 (w := setS (setS (setWL W00 2 (lnfill 3 3)) 9 M_528) 9 M_529) (c_St_addFolder l g (putW σ B ae (setS (setS (setWL W00 2 (lnfill 3 3)) 9 M_528) 9 M_529)) (B + 332) M_529 20 0 eM_530.symm)) lk_X10_75 ar_St_addFolder (pW_st9 σ B ae (setS (setS (setWL W00 2 (lnfill 3 3)) 9 M_528) 9 M_529) 0 (by decide)) (T := TX8) (N := 15) rfl (As := [.int 20, .int 0]) (rest := []) rfl (Nat.le_of_ble_eq_true rfl) ⟨Nat.le_of_ble_eq_true rfl, Nat.le_of_ble_eq_true rfl⟩ ⟨rfl, rfl⟩ ⟨Nat.le_refl _, Nat.le_refl _⟩ dX10_init_160 ?_
  refine g_aload_n hx 163 (i := 0) 0 dX10_init_163 rfl rfl ?_
  refine g_get hx 164 (C := RX10) (T := TX10) (N := 11) 6 (.ref (B + 332)) (pW σ B ae (setS (setS (setS (setWL W00 2 (lnfill 3 3)) 9 M_528) 9 M_529) 9 M_530) 0 (by decide)) rfl (by decide) rfl fl_X10_50 dX10_init_164 ?_
  refine g_bipush hx 167 (30) dX10_init_167 rfl ?_
  refine g_iconst hx 169 (4) dX10_init_169 rfl ?_
  obtain ⟨M_531, eM_531, hr⟩ := lt'_e hr
  refine g_callVv hx (MG.at9 (w := setS (setS (setS (setWL W00 2 (lnfill 3 3)) 9 M_528) 9 M_529) 9 M_530) (c_St_addFolder l g (putW σ B ae (setS (setS (setS (setWL W00 2 (lnfill 3 3)) 9 M_528) 9 M_529) 9 M_530)) (B + 332) M_530 30 4 eM_531.symm)) lk_X10_75 ar_St_addFolder (pW_st9 σ B ae (setS (setS (setS (setWL W00 2 (lnfill 3 3)) 9 M_528) 9 M_529) 9 M_530) 0 (by decide)) (T := TX8) (N := 15) rfl (As := [.int 30, .int 4]) (rest := []) rfl (Nat.le_of_ble_eq_true rfl) ⟨Nat.le_of_ble_eq_true rfl, Nat.le_of_ble_eq_true rfl⟩ ⟨rfl, rfl⟩ ⟨Nat.le_refl _, Nat.le_refl _⟩ dX10_init_170 ?_
  refine g_aload_n hx 173 (i := 0) 0 dX10_init_173 rfl rfl ?_
  refine g_get hx 174 (C := RX10) (T := TX10) (N := 11) 6 (.ref (B + 332)) (pW σ B ae (setS (setS (setS (setS (setWL W00 2 (lnfill 3 3)) 9 M_528) 9 M_529) 9 M_530) 9 M_531) 0 (by decide)) rfl (by decide) rfl fl_X10_50 dX10_init_174 ?_
  refine g_bipush hx 177 (50) dX10_init_177 rfl ?_
  refine g_iconst hx 179 (0) dX10_init_179 rfl ?_
  obtain ⟨M_532, eM_532, hr⟩ := lt'_e hr
  refine g_callVv hx (MG.at9 (w := setS (setS (setS (setS (setWL W00 2 (lnfill 3 3)) 9 M_528) 9 M_529) 9 M_530) 9 M_531) (c_St_addFolder l g (putW σ B ae (setS (setS (setS (setS (setWL W00 2 (lnfill 3 3)) 9 M_528) 9 M_529) 9 M_530) 9 M_531)) (B + 332) M_531 50 0 eM_532.symm)) lk_X10_75 ar_St_addFolder (pW_st9 σ B ae (setS (setS (setS (setS (setWL W00 2 (lnfill 3 3)) 9 M_528) 9 M_529) 9 M_530) 9 M_531) 0 (by decide)) (T := TX8) (N := 15) rfl (As := [.int 50, .int 0]) (rest := []) rfl (Nat.le_of_ble_eq_true rfl) ⟨Nat.le_of_ble_eq_true rfl, Nat.le_of_ble_eq_true rfl⟩ ⟨rfl, rfl⟩ ⟨Nat.le_refl _, Nat.le_refl _⟩ dX10_init_180 ?_
  refine g_aload_n hx 183 (i := 0) 0 dX10_init_183 rfl rfl ?_
  refine g_get hx 184 (C := RX10) (T := TX10) (N := 11) 6 (.ref (B + 332)) (pW σ B ae (setS (setS (setS (setS (setS (setWL W00 2 (lnfill 3 3)) 9 M_528) 9 M_529) 9 M_530) 9 M_531) 9 M_532) 0 (by decide)) rfl (by decide) rfl fl_X10_50 dX10_init_184 ?_
  refine g_bipush hx 187 (40) dX10_init_187 rfl ?_
  refine g_iconst hx 189 (0) dX10_init_189 rfl ?_
  obtain ⟨M_533, eM_533, hr⟩ := lt'_e hr
  refine g_callVv hx (MG.at9 (w := setS (setS (setS (setS (setS (setWL W00 2 (lnfill 3 3)) 9 M_528) 9 M_529) 9 M_530) 9 M_531) 9 M_532) (c_St_addFolder l g (putW σ B ae (setS (setS (setS (setS (setS (setWL W00 2 (lnfill 3 3)) 9 M_528) 9 M_529) 9 M_530) 9 M_531) 9 M_532)) (B + 332) M_532 40 0 eM_533.symm)) lk_X10_75 ar_St_addFolder (pW_st9 σ B ae (setS (setS (setS (setS (setS (setWL W00 2 (lnfill 3 3)) 9 M_528) 9 M_529) 9 M_530) 9 M_531) 9 M_532) 0 (by decide)) (T := TX8) (N := 15) rfl (As := [.int 40, .int 0]) (rest := []) rfl (Nat.le_of_ble_eq_true rfl) ⟨Nat.le_of_ble_eq_true rfl, Nat.le_of_ble_eq_true rfl⟩ ⟨rfl, rfl⟩ ⟨Nat.le_refl _, Nat.le_refl _⟩ dX10_init_190 ?_
  exact g_vret hx hR 193 dX10_init_193 ⟨rfl, by rw [← Option.some.inj hr] <;> rfl⟩
