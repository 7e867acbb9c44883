/-! the law: its cases -/
theorem lkl_79 : Lk md_SA_feed [.methodLink RL 79 md_SA_feed.y, .instanceMethod md_SA_feed.y, .selects md_SA_feed.y.cls md_SA_feed.y md_SA_feed.y] := lk_of (by decide +kernel)
theorem arl_79 : Arity md_SA_feed 5 := ⟨by decide +kernel, by decide +kernel, by decide +kernel⟩
theorem lkl_83 : Lk md_Md_feed [.methodLink RL 83 md_Md_feed.y, .instanceMethod md_Md_feed.y, .selects md_Md_feed.y.cls md_Md_feed.y md_Md_feed.y] := lk_of (by decide +kernel)
theorem arl_83 : Arity md_Md_feed 5 := ⟨by decide +kernel, by decide +kernel, by decide +kernel⟩
theorem lkw_load : LkW RL 84 md_L_load hh_load := ⟨aw1 (by decide +kernel), aw1 (by decide +kernel), aw1 (by decide +kernel), aw1 (by decide +kernel)⟩
theorem arw_load : Arity md_L_load 3 := ⟨by decide +kernel, by decide +kernel, by decide +kernel⟩
theorem lkl_89 : Lk md_Md_load [.methodLink RL 89 md_Md_load.y, .instanceMethod md_Md_load.y, .selects md_Md_load.y.cls md_Md_load.y md_Md_load.y] := lk_of (by decide +kernel)
theorem arl_89 : Arity md_Md_load 1 := ⟨by decide +kernel, by decide +kernel, by decide +kernel⟩
theorem lkl_90 : Lk md_Md_thrown [.methodLink RL 90 md_Md_thrown.y, .instanceMethod md_Md_thrown.y, .selects md_Md_thrown.y.cls md_Md_thrown.y md_Md_thrown.y] := lk_of (by decide +kernel)
theorem arl_90 : Arity md_Md_thrown 0 := ⟨by decide +kernel, by decide +kernel, by decide +kernel⟩
theorem lkl_94 : Lk md_SA_errorPosition [.methodLink RL 94 md_SA_errorPosition.y, .instanceMethod md_SA_errorPosition.y, .selects md_SA_errorPosition.y.cls md_SA_errorPosition.y md_SA_errorPosition.y] := lk_of (by decide +kernel)
theorem arl_94 : Arity md_SA_errorPosition 0 := ⟨by decide +kernel, by decide +kernel, by decide +kernel⟩
theorem lkl_97 : Lk md_Md_errorPosition [.methodLink RL 97 md_Md_errorPosition.y, .instanceMethod md_Md_errorPosition.y, .selects md_Md_errorPosition.y.cls md_Md_errorPosition.y md_Md_errorPosition.y] := lk_of (by decide +kernel)
theorem arl_97 : Arity md_Md_errorPosition 0 := ⟨by decide +kernel, by decide +kernel, by decide +kernel⟩
theorem lkw_size : LkW RL 98 md_L_size hh_size := ⟨aw1 (by decide +kernel), aw1 (by decide +kernel), aw1 (by decide +kernel), aw1 (by decide +kernel)⟩
theorem arw_size : Arity md_L_size 3 := ⟨by decide +kernel, by decide +kernel, by decide +kernel⟩
theorem lkl_100 : Lk md_Md_size [.methodLink RL 100 md_Md_size.y, .instanceMethod md_Md_size.y, .selects md_Md_size.y.cls md_Md_size.y md_Md_size.y] := lk_of (by decide +kernel)
theorem arl_100 : Arity md_Md_size 1 := ⟨by decide +kernel, by decide +kernel, by decide +kernel⟩
theorem lkw_account : LkW RL 101 md_L_account hh_account := ⟨aw1 (by decide +kernel), aw1 (by decide +kernel), aw1 (by decide +kernel), aw1 (by decide +kernel)⟩
theorem arw_account : Arity md_L_account 3 := ⟨by decide +kernel, by decide +kernel, by decide +kernel⟩
theorem lkl_103 : Lk md_Md_account [.methodLink RL 103 md_Md_account.y, .instanceMethod md_Md_account.y, .selects md_Md_account.y.cls md_Md_account.y md_Md_account.y] := lk_of (by decide +kernel)
theorem arl_103 : Arity md_Md_account 1 := ⟨by decide +kernel, by decide +kernel, by decide +kernel⟩
theorem lkw_folder : LkW RL 104 md_L_folder hh_folder := ⟨aw1 (by decide +kernel), aw1 (by decide +kernel), aw1 (by decide +kernel), aw1 (by decide +kernel)⟩
theorem arw_folder : Arity md_L_folder 4 := ⟨by decide +kernel, by decide +kernel, by decide +kernel⟩
theorem lkl_107 : Lk md_Md_folder [.methodLink RL 107 md_Md_folder.y, .instanceMethod md_Md_folder.y, .selects md_Md_folder.y.cls md_Md_folder.y md_Md_folder.y] := lk_of (by decide +kernel)
theorem arl_107 : Arity md_Md_folder 2 := ⟨by decide +kernel, by decide +kernel, by decide +kernel⟩
theorem lkl_108 : Lk md_SA_marked [.methodLink RL 108 md_SA_marked.y, .instanceMethod md_SA_marked.y, .selects md_SA_marked.y.cls md_SA_marked.y md_SA_marked.y] := lk_of (by decide +kernel)
theorem arl_108 : Arity md_SA_marked 1 := ⟨by decide +kernel, by decide +kernel, by decide +kernel⟩
theorem lkl_111 : Lk md_Md_marked [.methodLink RL 111 md_Md_marked.y, .instanceMethod md_Md_marked.y, .selects md_Md_marked.y.cls md_Md_marked.y md_Md_marked.y] := lk_of (by decide +kernel)
theorem arl_111 : Arity md_Md_marked 1 := ⟨by decide +kernel, by decide +kernel, by decide +kernel⟩
theorem lkl_112 : Lk md_SA_at [.methodLink RL 112 md_SA_at.y, .instanceMethod md_SA_at.y, .selects md_SA_at.y.cls md_SA_at.y md_SA_at.y] := lk_of (by decide +kernel)
theorem arl_112 : Arity md_SA_at 1 := ⟨by decide +kernel, by decide +kernel, by decide +kernel⟩
theorem lkl_115 : Lk md_Md_at [.methodLink RL 115 md_Md_at.y, .instanceMethod md_Md_at.y, .selects md_Md_at.y.cls md_Md_at.y md_Md_at.y] := lk_of (by decide +kernel)
theorem arl_115 : Arity md_Md_at 1 := ⟨by decide +kernel, by decide +kernel, by decide +kernel⟩
theorem lkw_reader : LkW RL 116 md_L_reader hh_reader := ⟨aw1 (by decide +kernel), aw1 (by decide +kernel), aw1 (by decide +kernel), aw1 (by decide +kernel)⟩
theorem arw_reader : Arity md_L_reader 4 := ⟨by decide +kernel, by decide +kernel, by decide +kernel⟩
theorem lkl_118 : Lk md_Md_reader [.methodLink RL 118 md_Md_reader.y, .instanceMethod md_Md_reader.y, .selects md_Md_reader.y.cls md_Md_reader.y md_Md_reader.y] := lk_of (by decide +kernel)
theorem arl_118 : Arity md_Md_reader 2 := ⟨by decide +kernel, by decide +kernel, by decide +kernel⟩
theorem lkw_waiting : LkW RL 119 md_L_waiting hh_waiting := ⟨aw1 (by decide +kernel), aw1 (by decide +kernel), aw1 (by decide +kernel), aw1 (by decide +kernel)⟩
theorem arw_waiting : Arity md_L_waiting 4 := ⟨by decide +kernel, by decide +kernel, by decide +kernel⟩
theorem lkl_121 : Lk md_Md_waiting [.methodLink RL 121 md_Md_waiting.y, .instanceMethod md_Md_waiting.y, .selects md_Md_waiting.y.cls md_Md_waiting.y md_Md_waiting.y] := lk_of (by decide +kernel)
theorem arl_121 : Arity md_Md_waiting 2 := ⟨by decide +kernel, by decide +kernel, by decide +kernel⟩
theorem lkl_122 : Lk md_SA_gap [.methodLink RL 122 md_SA_gap.y, .instanceMethod md_SA_gap.y, .selects md_SA_gap.y.cls md_SA_gap.y md_SA_gap.y] := lk_of (by decide +kernel)
theorem arl_122 : Arity md_SA_gap 0 := ⟨by decide +kernel, by decide +kernel, by decide +kernel⟩
theorem lkl_125 : Lk md_Md_gap [.methodLink RL 125 md_Md_gap.y, .instanceMethod md_Md_gap.y, .selects md_Md_gap.y.cls md_Md_gap.y md_Md_gap.y] := lk_of (by decide +kernel)
theorem arl_125 : Arity md_Md_gap 0 := ⟨by decide +kernel, by decide +kernel, by decide +kernel⟩
theorem lkl_126 : Lk md_SA_found [.methodLink RL 126 md_SA_found.y, .instanceMethod md_SA_found.y, .selects md_SA_found.y.cls md_SA_found.y md_SA_found.y] := lk_of (by decide +kernel)
theorem arl_126 : Arity md_SA_found 1 := ⟨by decide +kernel, by decide +kernel, by decide +kernel⟩
theorem lkl_129 : Lk md_Md_found [.methodLink RL 129 md_Md_found.y, .instanceMethod md_Md_found.y, .selects md_Md_found.y.cls md_Md_found.y md_Md_found.y] := lk_of (by decide +kernel)
theorem arl_129 : Arity md_Md_found 1 := ⟨by decide +kernel, by decide +kernel, by decide +kernel⟩
set_option maxRecDepth 100000 in
set_option maxHeartbeats 4000000 in
theorem law_0 {X : Cx} {l : Launch} {g : Gl} {ad ae : Nat → Nat} (hx : Ok X l g RL cL_law 9 room_1) (hC : KAll g ad ae) (hN : KN g) (hl : l.stackTraces = false) {b L B T o i k n : Nat} {xs : Nat → Int32} (hs : Scr g b L xs) (hi : i + 6 ≤ L) (hL : L ≤ 3072) (hlay : Lay B T o) (hk : k + 1 ≤ room_1.cells ∧ n + 6 ≤ room_1.slots) {σ : Hp} {W : WM} {M : MdM} {f : Nat → Int64} (h : WRel W M) (ho : σ.2 o = some (eJ 1 f)) (next : LN X B T o ad ae k n [(4, .int (nI i)), (0, .ref b), (1, .ref B), (2, .ref T), (3, .ref o)]) : G X (LW σ B T ad ae W M) k n 240 [(4, .int (nI i)), (0, .ref b), (1, .ref B), (2, .ref T), (3, .ref o)] [] := by
  obtain ⟨v, W1, M1, e1, e2, hw⟩ := f_feed h (xs (nI i + 1).toNatClampNeg) (xs (nI i + 2).toNatClampNeg) (xs (nI i + 3).toNatClampNeg) (xs (nI i + 4).toNatClampNeg) (xs (nI i + 5).toNatClampNeg)
  refine g_aload_n hx 240 (i := 1) 2 dL_law_240 rfl rfl ?_
  refine g_aload_n hx 241 (i := 0) 1 dL_law_241 rfl rfl ?_
  refine g_iload hx 242 (i := 4) 0 dL_law_242 rfl ?_
  refine g_iconst hx 244 (1) dL_law_244 rfl ?_
  refine g_iadd hx 245 dL_law_245 ?_
  refine g_sld hx 246 hs (vpi (j := 1) hi hL (by decide) _ rfl) dL_law_246 ?_
  refine g_aload_n hx 247 (i := 0) 1 dL_law_247 rfl rfl ?_
  refine g_iload hx 248 (i := 4) 0 dL_law_248 rfl ?_
  refine g_iconst hx 250 (2) dL_law_250 rfl ?_
  refine g_iadd hx 251 dL_law_251 ?_
  refine g_sld hx 252 hs (vpi (j := 2) hi hL (by decide) _ rfl) dL_law_252 ?_
  refine g_aload_n hx 253 (i := 0) 1 dL_law_253 rfl rfl ?_
  refine g_iload hx 254 (i := 4) 0 dL_law_254 rfl ?_
  refine g_iconst hx 256 (3) dL_law_256 rfl ?_
  refine g_iadd hx 257 dL_law_257 ?_
  refine g_sld hx 258 hs (vpi (j := 3) hi hL (by decide) _ rfl) dL_law_258 ?_
  refine g_aload_n hx 259 (i := 0) 1 dL_law_259 rfl rfl ?_
  refine g_iload hx 260 (i := 4) 0 dL_law_260 rfl ?_
  refine g_iconst hx 262 (4) dL_law_262 rfl ?_
  refine g_iadd hx 263 dL_law_263 ?_
  refine g_sld hx 264 hs (vpi (j := 4) hi hL (by decide) _ rfl) dL_law_264 ?_
  refine g_aload_n hx 265 (i := 0) 1 dL_law_265 rfl rfl ?_
  refine g_iload hx 266 (i := 4) 0 dL_law_266 rfl ?_
  refine g_iconst hx 268 (5) dL_law_268 rfl ?_
  refine g_iadd hx 269 dL_law_269 ?_
  refine g_sld hx 270 hs (vpi (j := 5) hi hL (by decide) _ rfl) dL_law_270 ?_
  refine g_callVr hx (c_SA_feed l g hC (putMd σ T (owF ad) 0 M) B W (xs (nI i + 1).toNatClampNeg) (xs (nI i + 2).toNatClampNeg) (xs (nI i + 3).toNatClampNeg) (xs (nI i + 4).toNatClampNeg) (xs (nI i + 5).toNatClampNeg) e1) lkl_79 arl_79 (pW (putMd σ T (owF ad) 0 M) B ae W 0 (by decide)) (T := TX10) (N := 11) rfl (As := [.int (xs (nI i + 1).toNatClampNeg), .int (xs (nI i + 2).toNatClampNeg), .int (xs (nI i + 3).toNatClampNeg), .int (xs (nI i + 4).toNatClampNeg), .int (xs (nI i + 5).toNatClampNeg)]) (rest := []) rfl (Nat.le_of_ble_eq_true rfl) ⟨Nat.le_of_ble_eq_true rfl, Nat.le_of_ble_eq_true rfl⟩ ⟨rfl, rfl⟩ ⟨Nat.le_of_succ_le hk.1, Nat.le_trans (Nat.le_add_right _ 6) hk.2⟩ dL_law_271 ?_
  refine g_aload_n hx 274 (i := 2) 3 dL_law_274 rfl rfl ?_
  refine g_aload_n hx 275 (i := 0) 1 dL_law_275 rfl rfl ?_
  refine g_iload hx 276 (i := 4) 0 dL_law_276 rfl ?_
  refine g_iconst hx 278 (1) dL_law_278 rfl ?_
  refine g_iadd hx 279 dL_law_279 ?_
  refine g_sld hx 280 hs (vpi (j := 1) hi hL (by decide) _ rfl) dL_law_280 ?_
  refine g_aload_n hx 281 (i := 0) 1 dL_law_281 rfl rfl ?_
  refine g_iload hx 282 (i := 4) 0 dL_law_282 rfl ?_
  refine g_iconst hx 284 (2) dL_law_284 rfl ?_
  refine g_iadd hx 285 dL_law_285 ?_
  refine g_sld hx 286 hs (vpi (j := 2) hi hL (by decide) _ rfl) dL_law_286 ?_
  refine g_aload_n hx 287 (i := 0) 1 dL_law_287 rfl rfl ?_
  refine g_iload hx 288 (i := 4) 0 dL_law_288 rfl ?_
  refine g_iconst hx 290 (3) dL_law_290 rfl ?_
  refine g_iadd hx 291 dL_law_291 ?_
  refine g_sld hx 292 hs (vpi (j := 3) hi hL (by decide) _ rfl) dL_law_292 ?_
  refine g_aload_n hx 293 (i := 0) 1 dL_law_293 rfl rfl ?_
  refine g_iload hx 294 (i := 4) 0 dL_law_294 rfl ?_
  refine g_iconst hx 296 (4) dL_law_296 rfl ?_
  refine g_iadd hx 297 dL_law_297 ?_
  refine g_sld hx 298 hs (vpi (j := 4) hi hL (by decide) _ rfl) dL_law_298 ?_
  refine g_aload_n hx 299 (i := 0) 1 dL_law_299 rfl rfl ?_
  refine g_iload hx 300 (i := 4) 0 dL_law_300 rfl ?_
  refine g_iconst hx 302 (5) dL_law_302 rfl ?_
  refine g_iadd hx 303 dL_law_303 ?_
  refine g_sld hx 304 hs (vpi (j := 5) hi hL (by decide) _ rfl) dL_law_304 ?_
  refine G.heap (LW.md (ad := ad) hlay) ?_
  refine g_callVr hx (c_Md_feed (ρ := 0) (by decide) l g (putW σ B ae W1) T (owF ad) M (xs (nI i + 1).toNatClampNeg) (xs (nI i + 2).toNatClampNeg) (xs (nI i + 3).toNatClampNeg) (xs (nI i + 4).toNatClampNeg) (xs (nI i + 5).toNatClampNeg) e2) lkl_83 arl_83 (pM_o (putW σ B ae W1) T (owF ad) 0 M) (T := TX11) (N := 30) rfl (As := [.int (xs (nI i + 1).toNatClampNeg), .int (xs (nI i + 2).toNatClampNeg), .int (xs (nI i + 3).toNatClampNeg), .int (xs (nI i + 4).toNatClampNeg), .int (xs (nI i + 5).toNatClampNeg)]) (rest := [.int v]) rfl (Nat.le_of_ble_eq_true rfl) ⟨Nat.le_of_ble_eq_true rfl, Nat.le_of_ble_eq_true rfl⟩ ⟨rfl, rfl⟩ ⟨Nat.le_of_succ_le hk.1, Nat.le_trans (Nat.le_add_right _ 6) hk.2⟩ dL_law_305 ?_
  refine G.heap (LW.md (ad := ad) hlay).symm ?_
  exact g_icmp_eq hx 308 2042 dL_law_308 (by decide) (fun _ => (g_widen (Nat.le_succ _) (Nat.le_add_right _ _) (next _ _ _ _ hw ho))) (fun hq => absurd rfl hq)
set_option maxRecDepth 100000 in
set_option maxHeartbeats 4000000 in
theorem law_1 {X : Cx} {l : Launch} {g : Gl} {ad ae : Nat → Nat} (hx : Ok X l g RL cL_law 9 room_1) (hC : KAll g ad ae) (hN : KN g) (hl : l.stackTraces = false) {b L B T o i k n : Nat} {xs : Nat → Int32} (hs : Scr g b L xs) (hi : i + 6 ≤ L) (hL : L ≤ 3072) (hlay : Lay B T o) (hk : k + 1 ≤ room_1.cells ∧ n + 6 ≤ room_1.slots) {σ : Hp} {W : WM} {M : MdM} {f : Nat → Int64} (h : WRel W M) (ho : σ.2 o = some (eJ 1 f)) (next : LN X B T o ad ae k n [(4, .int (nI i)), (0, .ref b), (1, .ref B), (2, .ref T), (3, .ref o)]) : G X (LW σ B T ad ae W M) k n 313 [(4, .int (nI i)), (0, .ref b), (1, .ref B), (2, .ref T), (3, .ref o)] [] := by
  refine g_aload_n hx 313 (i := 1) 2 dL_law_313 rfl rfl ?_
  refine g_aload_n hx 314 (i := 0) 1 dL_law_314 rfl rfl ?_
  refine g_iload hx 315 (i := 4) 0 dL_law_315 rfl ?_
  refine g_iconst hx 317 (1) dL_law_317 rfl ?_
  refine g_iadd hx 318 dL_law_318 ?_
  refine g_sld hx 319 hs (vpi (j := 1) hi hL (by decide) _ rfl) dL_law_319 ?_
  refine g_aload_n hx 320 (i := 3) 4 dL_law_320 rfl rfl ?_
  rcases f_load h (xs (nI i + 1).toNatClampNeg) with ⟨kx, b9, M1, e1, e2, e9, hw⟩ | ⟨v, W1, M1, e1, e2, e9, hw⟩
  · refine g_callW hx (c_L_load l g hC hN hl (putMd σ T (owF ad) 0 M) B W (xs (nI i + 1).toNatClampNeg) (o := o) (LW.out hlay ho) hlay.1 e1 (fun k hk9 => ki_load W (xs (nI i + 1).toNatClampNeg) k (e1.trans (congrArg some hk9)))) lkw_load arw_load (As := [.ref B, .int (xs (nI i + 1).toNatClampNeg), .ref o]) (rest := []) rfl (Nat.le_of_ble_eq_true rfl) ⟨Nat.le_of_ble_eq_true rfl, Nat.le_of_ble_eq_true rfl⟩ hk dL_law_321 (fun v9 σ9 hp => ?_)
    obtain ⟨k9, h9, rfl, h8⟩ := Or.resolve_right hp (fun q => by obtain ⟨u9, h9, -, -⟩ := q; cases h9)
    cases h9
    obtain ⟨z, σm⟩ := σ9
    cases h8
    refine G.heap (show _ = LW (z, σ.2) B T ad ae W M from rfl) ?_
    refine g_istore hx 324 (i := 5) [(5, .int (ci1 kx)), (4, .int (nI i)), (0, .ref b), (1, .ref B), (2, .ref T), (3, .ref o)] dL_law_324 (by decide) rfl ?_
    refine g_aload_n hx 326 (i := 2) 4 dL_law_326 rfl rfl ?_
    refine g_aload_n hx 327 (i := 0) 2 dL_law_327 rfl rfl ?_
    refine g_iload hx 328 (i := 4) 1 dL_law_328 rfl ?_
    refine g_iconst hx 330 (1) dL_law_330 rfl ?_
    refine g_iadd hx 331 dL_law_331 ?_
    refine g_sld hx 332 hs (vpi (j := 1) hi hL (by decide) _ rfl) dL_law_332 ?_
    refine G.heap (LW.md (ad := ad) hlay) ?_
    refine g_callVr hx (c_Md_load l g hC.1 (putW (z, σ.2) B ae W) T M (xs (nI i + 1).toNatClampNeg) e2) lkl_89 arl_89 (pM_o (putW (z, σ.2) B ae W) T (owF ad) 0 M) (T := TX11) (N := 30) rfl (As := [.int (xs (nI i + 1).toNatClampNeg)]) (rest := []) rfl (Nat.le_of_ble_eq_true rfl) ⟨Nat.le_of_ble_eq_true rfl, Nat.le_of_ble_eq_true rfl⟩ ⟨rfl, rfl⟩ hk dL_law_333 ?_
    refine G.heap (LW.md (ad := ad) hlay).symm ?_
    refine g_istore hx 336 (i := 6) [(6, .int b9), (5, .int (ci1 kx)), (4, .int (nI i)), (0, .ref b), (1, .ref B), (2, .ref T), (3, .ref o)] dL_law_336 (by decide) rfl ?_
    refine g_aload_n hx 338 (i := 2) 5 dL_law_338 rfl rfl ?_
    refine G.heap (LW.md (ad := ad) hlay) ?_
    refine g_callVr hx (c_Md_thrown (ρ := 0) (by decide) l g (putW (z, σ.2) B ae W) T (owF ad) M1 rfl) lkl_90 arl_90 (pM_o (putW (z, σ.2) B ae W) T (owF ad) 0 M1) (T := TX11) (N := 30) rfl (As := []) (rest := []) rfl (Nat.le_of_ble_eq_true rfl) ⟨Nat.le_of_ble_eq_true rfl, Nat.le_of_ble_eq_true rfl⟩ ⟨rfl, rfl⟩ hk dL_law_339 ?_
    refine G.heap (LW.md (ad := ad) hlay).symm ?_
    refine g_iload hx 342 (i := 5) 1 dL_law_342 rfl ?_
    refine g_icmp_eq hx 344 349 dL_law_344 (by decide) (fun _ => ?_) (fun hq => absurd e9 hq)
    refine g_iload hx 349 (i := 5) 1 dL_law_349 rfl ?_
    refine g_if_ne hx 351 366 dL_law_351 (by decide) (fun _ => ?_) (fun hq => absurd hq (ci_n _))
    refine g_goto hx 366 2042 dL_law_366 (by decide) ?_
    refine g_ls [2, 3, 4, 5, 6] [(4, .int (nI i)), (0, .ref b), (1, .ref B), (2, .ref T), (3, .ref o)] rfl ?_
    exact next _ _ _ _ hw ho
  · refine g_callW hx (c_L_load l g hC hN hl (putMd σ T (owF ad) 0 M) B W (xs (nI i + 1).toNatClampNeg) (o := o) (LW.out hlay ho) hlay.1 e1 (fun k hk9 => ki_load W (xs (nI i + 1).toNatClampNeg) k (e1.trans (congrArg some hk9)))) lkw_load arw_load (As := [.ref B, .int (xs (nI i + 1).toNatClampNeg), .ref o]) (rest := []) rfl (Nat.le_of_ble_eq_true rfl) ⟨Nat.le_of_ble_eq_true rfl, Nat.le_of_ble_eq_true rfl⟩ hk dL_law_321 (fun v9 σ9 hp => ?_)
    obtain ⟨u9, h9, rfl, rfl⟩ := Or.resolve_left hp (fun q => by obtain ⟨k9, h9, -, -⟩ := q; cases h9)
    cases h9
    refine G.heap (LW.set hlay _) ?_
    refine g_istore hx 324 (i := 5) [(5, .int (0)), (4, .int (nI i)), (0, .ref b), (1, .ref B), (2, .ref T), (3, .ref o)] dL_law_324 (by decide) rfl ?_
    refine g_aload_n hx 326 (i := 2) 4 dL_law_326 rfl rfl ?_
    refine g_aload_n hx 327 (i := 0) 2 dL_law_327 rfl rfl ?_
    refine g_iload hx 328 (i := 4) 1 dL_law_328 rfl ?_
    refine g_iconst hx 330 (1) dL_law_330 rfl ?_
    refine g_iadd hx 331 dL_law_331 ?_
    refine g_sld hx 332 hs (vpi (j := 1) hi hL (by decide) _ rfl) dL_law_332 ?_
    refine G.heap (LW.md (ad := ad) hlay) ?_
    refine g_callVr hx (c_Md_load l g hC.1 (putW (hset σ o (eJ 1 (vp_updL f 0 v.toInt64))) B ae W1) T M (xs (nI i + 1).toNatClampNeg) e2) lkl_89 arl_89 (pM_o (putW (hset σ o (eJ 1 (vp_updL f 0 v.toInt64))) B ae W1) T (owF ad) 0 M) (T := TX11) (N := 30) rfl (As := [.int (xs (nI i + 1).toNatClampNeg)]) (rest := []) rfl (Nat.le_of_ble_eq_true rfl) ⟨Nat.le_of_ble_eq_true rfl, Nat.le_of_ble_eq_true rfl⟩ ⟨rfl, rfl⟩ hk dL_law_333 ?_
    refine G.heap (LW.md (ad := ad) hlay).symm ?_
    refine g_istore hx 336 (i := 6) [(6, .int v), (5, .int (0)), (4, .int (nI i)), (0, .ref b), (1, .ref B), (2, .ref T), (3, .ref o)] dL_law_336 (by decide) rfl ?_
    refine g_aload_n hx 338 (i := 2) 5 dL_law_338 rfl rfl ?_
    refine G.heap (LW.md (ad := ad) hlay) ?_
    refine g_callVr hx (c_Md_thrown (ρ := 0) (by decide) l g (putW (hset σ o (eJ 1 (vp_updL f 0 v.toInt64))) B ae W1) T (owF ad) M1 rfl) lkl_90 arl_90 (pM_o (putW (hset σ o (eJ 1 (vp_updL f 0 v.toInt64))) B ae W1) T (owF ad) 0 M1) (T := TX11) (N := 30) rfl (As := []) (rest := []) rfl (Nat.le_of_ble_eq_true rfl) ⟨Nat.le_of_ble_eq_true rfl, Nat.le_of_ble_eq_true rfl⟩ ⟨rfl, rfl⟩ hk dL_law_339 ?_
    refine G.heap (LW.md (ad := ad) hlay).symm ?_
    refine g_iload hx 342 (i := 5) 1 dL_law_342 rfl ?_
    refine g_icmp_eq hx 344 349 dL_law_344 (by decide) (fun _ => ?_) (fun hq => absurd e9 hq)
    refine g_iload hx 349 (i := 5) 1 dL_law_349 rfl ?_
    refine g_if_ne hx 351 366 dL_law_351 (by decide) (fun hq => absurd rfl hq) (fun _ => ?_)
    refine g_aload_n hx 354 (i := 3) 6 dL_law_354 rfl rfl ?_
    refine g_iconst hx 355 (0) dL_law_355 rfl ?_
    refine g_lald hx 356 (pW_out _ B ae W1 hlay.1 |>.trans (LW.out hlay (hset_self _ _ _))) vp01 dL_law_356 ?_
    refine g_iload hx 357 (i := 6) 0 dL_law_357 rfl ?_
    refine g_i2l hx 359 dL_law_359 ?_
    refine g_lcmp hx 360 dL_law_360 ?_
    refine g_if_eq hx 361 366 dL_law_361 (by decide) (fun _ => ?_) (fun hq => absurd (cmp_ll _) hq)
    refine g_goto hx 366 2042 dL_law_366 (by decide) ?_
    refine g_ls [2, 3, 4, 5, 6] [(4, .int (nI i)), (0, .ref b), (1, .ref B), (2, .ref T), (3, .ref o)] rfl ?_
    exact next _ _ _ _ hw (hset_self _ _ _)
set_option maxRecDepth 100000 in
set_option maxHeartbeats 4000000 in
theorem law_2 {X : Cx} {l : Launch} {g : Gl} {ad ae : Nat → Nat} (hx : Ok X l g RL cL_law 9 room_1) (hC : KAll g ad ae) (hN : KN g) (hl : l.stackTraces = false) {b L B T o i k n : Nat} {xs : Nat → Int32} (hs : Scr g b L xs) (hi : i + 6 ≤ L) (hL : L ≤ 3072) (hlay : Lay B T o) (hk : k + 1 ≤ room_1.cells ∧ n + 6 ≤ room_1.slots) {σ : Hp} {W : WM} {M : MdM} {f : Nat → Int64} (h : WRel W M) (ho : σ.2 o = some (eJ 1 f)) (next : LN X B T o ad ae k n [(4, .int (nI i)), (0, .ref b), (1, .ref B), (2, .ref T), (3, .ref o)]) : G X (LW σ B T ad ae W M) k n 369 [(4, .int (nI i)), (0, .ref b), (1, .ref B), (2, .ref T), (3, .ref o)] [] := by
  obtain ⟨e1, hw⟩ := f_errorPosition h
  refine g_aload_n hx 369 (i := 1) 2 dL_law_369 rfl rfl ?_
  refine g_callVr hx (c_SA_errorPosition l g hC (putMd σ T (owF ad) 0 M) B W rfl) lkl_94 arl_94 (pW (putMd σ T (owF ad) 0 M) B ae W 0 (by decide)) (T := TX10) (N := 11) rfl (As := []) (rest := []) rfl (Nat.le_of_ble_eq_true rfl) ⟨Nat.le_of_ble_eq_true rfl, Nat.le_of_ble_eq_true rfl⟩ ⟨rfl, rfl⟩ ⟨Nat.le_of_succ_le hk.1, Nat.le_trans (Nat.le_add_right _ 6) hk.2⟩ dL_law_370 ?_
  refine g_aload_n hx 373 (i := 2) 3 dL_law_373 rfl rfl ?_
  refine G.heap (LW.md (ad := ad) hlay) ?_
  refine g_callVr hx (c_Md_errorPosition (ρ := 0) (by decide) l g (putW σ B ae W) T (owF ad) M rfl) lkl_97 arl_97 (pM_o (putW σ B ae W) T (owF ad) 0 M) (T := TX11) (N := 30) rfl (As := []) (rest := [.int (SA_errorPosition W)]) rfl (Nat.le_of_ble_eq_true rfl) ⟨Nat.le_of_ble_eq_true rfl, Nat.le_of_ble_eq_true rfl⟩ ⟨rfl, rfl⟩ ⟨Nat.le_of_succ_le hk.1, Nat.le_trans (Nat.le_add_right _ 6) hk.2⟩ dL_law_374 ?_
  refine G.heap (LW.md (ad := ad) hlay).symm ?_
  exact g_icmp_eq hx 377 2042 dL_law_377 (by decide) (fun _ => (g_widen (Nat.le_succ _) (Nat.le_add_right _ _) (next _ _ _ _ hw ho))) (fun hq => absurd e1 hq)
set_option maxRecDepth 100000 in
set_option maxHeartbeats 4000000 in
theorem law_3 {X : Cx} {l : Launch} {g : Gl} {ad ae : Nat → Nat} (hx : Ok X l g RL cL_law 9 room_1) (hC : KAll g ad ae) (hN : KN g) (hl : l.stackTraces = false) {b L B T o i k n : Nat} {xs : Nat → Int32} (hs : Scr g b L xs) (hi : i + 6 ≤ L) (hL : L ≤ 3072) (hlay : Lay B T o) (hk : k + 1 ≤ room_1.cells ∧ n + 6 ≤ room_1.slots) {σ : Hp} {W : WM} {M : MdM} {f : Nat → Int64} (h : WRel W M) (ho : σ.2 o = some (eJ 1 f)) (next : LN X B T o ad ae k n [(4, .int (nI i)), (0, .ref b), (1, .ref B), (2, .ref T), (3, .ref o)]) : G X (LW σ B T ad ae W M) k n 382 [(4, .int (nI i)), (0, .ref b), (1, .ref B), (2, .ref T), (3, .ref o)] [] := by
  refine g_aload_n hx 382 (i := 1) 2 dL_law_382 rfl rfl ?_
  refine g_aload_n hx 383 (i := 0) 1 dL_law_383 rfl rfl ?_
  refine g_iload hx 384 (i := 4) 0 dL_law_384 rfl ?_
  refine g_iconst hx 386 (1) dL_law_386 rfl ?_
  refine g_iadd hx 387 dL_law_387 ?_
  refine g_sld hx 388 hs (vpi (j := 1) hi hL (by decide) _ rfl) dL_law_388 ?_
  refine g_aload_n hx 389 (i := 3) 4 dL_law_389 rfl rfl ?_
  rcases f_size h (xs (nI i + 1).toNatClampNeg) with ⟨kx, b9, M1, e1, e2, e9, hw⟩ | ⟨v, M1, e1, e2, e9, hw⟩
  · refine g_callW hx (c_L_size l g hC hN hl (putMd σ T (owF ad) 0 M) B W (xs (nI i + 1).toNatClampNeg) (o := o) (LW.out hlay ho) hlay.1 e1 (fun k hk9 => ki_size W (xs (nI i + 1).toNatClampNeg) k (e1.trans (congrArg some hk9)))) lkw_size arw_size (As := [.ref B, .int (xs (nI i + 1).toNatClampNeg), .ref o]) (rest := []) rfl (Nat.le_of_ble_eq_true rfl) ⟨Nat.le_of_ble_eq_true rfl, Nat.le_of_ble_eq_true rfl⟩ hk dL_law_390 (fun v9 σ9 hp => ?_)
    obtain ⟨k9, h9, rfl, h8⟩ := Or.resolve_right hp (fun q => by obtain ⟨u9, h9, -, -⟩ := q; cases h9)
    cases h9
    obtain ⟨z, σm⟩ := σ9
    cases h8
    refine G.heap (show _ = LW (z, σ.2) B T ad ae W M from rfl) ?_
    refine g_istore hx 393 (i := 5) [(5, .int (ci1 kx)), (4, .int (nI i)), (0, .ref b), (1, .ref B), (2, .ref T), (3, .ref o)] dL_law_393 (by decide) rfl ?_
    refine g_aload_n hx 395 (i := 2) 4 dL_law_395 rfl rfl ?_
    refine g_aload_n hx 396 (i := 0) 2 dL_law_396 rfl rfl ?_
    refine g_iload hx 397 (i := 4) 1 dL_law_397 rfl ?_
    refine g_iconst hx 399 (1) dL_law_399 rfl ?_
    refine g_iadd hx 400 dL_law_400 ?_
    refine g_sld hx 401 hs (vpi (j := 1) hi hL (by decide) _ rfl) dL_law_401 ?_
    refine G.heap (LW.md (ad := ad) hlay) ?_
    refine g_callVr hx (c_Md_size (ρ := 0) (by decide) l g (putW (z, σ.2) B ae W) T (owF ad) M (xs (nI i + 1).toNatClampNeg) e2) lkl_100 arl_100 (pM_o (putW (z, σ.2) B ae W) T (owF ad) 0 M) (T := TX11) (N := 30) rfl (As := [.int (xs (nI i + 1).toNatClampNeg)]) (rest := []) rfl (Nat.le_of_ble_eq_true rfl) ⟨Nat.le_of_ble_eq_true rfl, Nat.le_of_ble_eq_true rfl⟩ ⟨rfl, rfl⟩ hk dL_law_402 ?_
    refine G.heap (LW.md (ad := ad) hlay).symm ?_
    refine g_istore hx 405 (i := 6) [(6, .int b9), (5, .int (ci1 kx)), (4, .int (nI i)), (0, .ref b), (1, .ref B), (2, .ref T), (3, .ref o)] dL_law_405 (by decide) rfl ?_
    refine g_aload_n hx 407 (i := 2) 5 dL_law_407 rfl rfl ?_
    refine G.heap (LW.md (ad := ad) hlay) ?_
    refine g_callVr hx (c_Md_thrown (ρ := 0) (by decide) l g (putW (z, σ.2) B ae W) T (owF ad) M1 rfl) lkl_90 arl_90 (pM_o (putW (z, σ.2) B ae W) T (owF ad) 0 M1) (T := TX11) (N := 30) rfl (As := []) (rest := []) rfl (Nat.le_of_ble_eq_true rfl) ⟨Nat.le_of_ble_eq_true rfl, Nat.le_of_ble_eq_true rfl⟩ ⟨rfl, rfl⟩ hk dL_law_408 ?_
    refine G.heap (LW.md (ad := ad) hlay).symm ?_
    refine g_iload hx 411 (i := 5) 1 dL_law_411 rfl ?_
    refine g_icmp_eq hx 413 418 dL_law_413 (by decide) (fun _ => ?_) (fun hq => absurd e9 hq)
    refine g_iload hx 418 (i := 5) 1 dL_law_418 rfl ?_
    refine g_if_ne hx 420 435 dL_law_420 (by decide) (fun _ => ?_) (fun hq => absurd hq (ci_n _))
    refine g_goto hx 435 2042 dL_law_435 (by decide) ?_
    refine g_ls [2, 3, 4, 5, 6] [(4, .int (nI i)), (0, .ref b), (1, .ref B), (2, .ref T), (3, .ref o)] rfl ?_
    exact next _ _ _ _ hw ho
  · refine g_callW hx (c_L_size l g hC hN hl (putMd σ T (owF ad) 0 M) B W (xs (nI i + 1).toNatClampNeg) (o := o) (LW.out hlay ho) hlay.1 e1 (fun k hk9 => ki_size W (xs (nI i + 1).toNatClampNeg) k (e1.trans (congrArg some hk9)))) lkw_size arw_size (As := [.ref B, .int (xs (nI i + 1).toNatClampNeg), .ref o]) (rest := []) rfl (Nat.le_of_ble_eq_true rfl) ⟨Nat.le_of_ble_eq_true rfl, Nat.le_of_ble_eq_true rfl⟩ hk dL_law_390 (fun v9 σ9 hp => ?_)
    obtain ⟨u9, h9, rfl, rfl⟩ := Or.resolve_left hp (fun q => by obtain ⟨k9, h9, -, -⟩ := q; cases h9)
    cases h9
    refine G.heap (LW.set hlay _) ?_
    refine g_istore hx 393 (i := 5) [(5, .int (0)), (4, .int (nI i)), (0, .ref b), (1, .ref B), (2, .ref T), (3, .ref o)] dL_law_393 (by decide) rfl ?_
    refine g_aload_n hx 395 (i := 2) 4 dL_law_395 rfl rfl ?_
    refine g_aload_n hx 396 (i := 0) 2 dL_law_396 rfl rfl ?_
    refine g_iload hx 397 (i := 4) 1 dL_law_397 rfl ?_
    refine g_iconst hx 399 (1) dL_law_399 rfl ?_
    refine g_iadd hx 400 dL_law_400 ?_
    refine g_sld hx 401 hs (vpi (j := 1) hi hL (by decide) _ rfl) dL_law_401 ?_
    refine G.heap (LW.md (ad := ad) hlay) ?_
    refine g_callVr hx (c_Md_size (ρ := 0) (by decide) l g (putW (hset σ o (eJ 1 (vp_updL f 0 v.toInt64))) B ae W) T (owF ad) M (xs (nI i + 1).toNatClampNeg) e2) lkl_100 arl_100 (pM_o (putW (hset σ o (eJ 1 (vp_updL f 0 v.toInt64))) B ae W) T (owF ad) 0 M) (T := TX11) (N := 30) rfl (As := [.int (xs (nI i + 1).toNatClampNeg)]) (rest := []) rfl (Nat.le_of_ble_eq_true rfl) ⟨Nat.le_of_ble_eq_true rfl, Nat.le_of_ble_eq_true rfl⟩ ⟨rfl, rfl⟩ hk dL_law_402 ?_
    refine G.heap (LW.md (ad := ad) hlay).symm ?_
    refine g_istore hx 405 (i := 6) [(6, .int v), (5, .int (0)), (4, .int (nI i)), (0, .ref b), (1, .ref B), (2, .ref T), (3, .ref o)] dL_law_405 (by decide) rfl ?_
    refine g_aload_n hx 407 (i := 2) 5 dL_law_407 rfl rfl ?_
    refine G.heap (LW.md (ad := ad) hlay) ?_
    refine g_callVr hx (c_Md_thrown (ρ := 0) (by decide) l g (putW (hset σ o (eJ 1 (vp_updL f 0 v.toInt64))) B ae W) T (owF ad) M1 rfl) lkl_90 arl_90 (pM_o (putW (hset σ o (eJ 1 (vp_updL f 0 v.toInt64))) B ae W) T (owF ad) 0 M1) (T := TX11) (N := 30) rfl (As := []) (rest := []) rfl (Nat.le_of_ble_eq_true rfl) ⟨Nat.le_of_ble_eq_true rfl, Nat.le_of_ble_eq_true rfl⟩ ⟨rfl, rfl⟩ hk dL_law_408 ?_
    refine G.heap (LW.md (ad := ad) hlay).symm ?_
    refine g_iload hx 411 (i := 5) 1 dL_law_411 rfl ?_
    refine g_icmp_eq hx 413 418 dL_law_413 (by decide) (fun _ => ?_) (fun hq => absurd e9 hq)
    refine g_iload hx 418 (i := 5) 1 dL_law_418 rfl ?_
    refine g_if_ne hx 420 435 dL_law_420 (by decide) (fun hq => absurd rfl hq) (fun _ => ?_)
    refine g_aload_n hx 423 (i := 3) 6 dL_law_423 rfl rfl ?_
    refine g_iconst hx 424 (0) dL_law_424 rfl ?_
    refine g_lald hx 425 (pW_out _ B ae W hlay.1 |>.trans (LW.out hlay (hset_self _ _ _))) vp01 dL_law_425 ?_
    refine g_iload hx 426 (i := 6) 0 dL_law_426 rfl ?_
    refine g_i2l hx 428 dL_law_428 ?_
    refine g_lcmp hx 429 dL_law_429 ?_
    refine g_if_eq hx 430 435 dL_law_430 (by decide) (fun _ => ?_) (fun hq => absurd (cmp_ll _) hq)
    refine g_goto hx 435 2042 dL_law_435 (by decide) ?_
    refine g_ls [2, 3, 4, 5, 6] [(4, .int (nI i)), (0, .ref b), (1, .ref B), (2, .ref T), (3, .ref o)] rfl ?_
    exact next _ _ _ _ hw (hset_self _ _ _)
set_option maxRecDepth 100000 in
set_option maxHeartbeats 4000000 in
theorem law_4 {X : Cx} {l : Launch} {g : Gl} {ad ae : Nat → Nat} (hx : Ok X l g RL cL_law 9 room_1) (hC : KAll g ad ae) (hN : KN g) (hl : l.stackTraces = false) {b L B T o i k n : Nat} {xs : Nat → Int32} (hs : Scr g b L xs) (hi : i + 6 ≤ L) (hL : L ≤ 3072) (hlay : Lay B T o) (hk : k + 1 ≤ room_1.cells ∧ n + 6 ≤ room_1.slots) {σ : Hp} {W : WM} {M : MdM} {f : Nat → Int64} (h : WRel W M) (ho : σ.2 o = some (eJ 1 f)) (next : LN X B T o ad ae k n [(4, .int (nI i)), (0, .ref b), (1, .ref B), (2, .ref T), (3, .ref o)]) : G X (LW σ B T ad ae W M) k n 438 [(4, .int (nI i)), (0, .ref b), (1, .ref B), (2, .ref T), (3, .ref o)] [] := by
  refine g_aload_n hx 438 (i := 1) 2 dL_law_438 rfl rfl ?_
  refine g_aload_n hx 439 (i := 0) 1 dL_law_439 rfl rfl ?_
  refine g_iload hx 440 (i := 4) 0 dL_law_440 rfl ?_
  refine g_iconst hx 442 (1) dL_law_442 rfl ?_
  refine g_iadd hx 443 dL_law_443 ?_
  refine g_sld hx 444 hs (vpi (j := 1) hi hL (by decide) _ rfl) dL_law_444 ?_
  refine g_aload_n hx 445 (i := 3) 4 dL_law_445 rfl rfl ?_
  rcases f_account h (xs (nI i + 1).toNatClampNeg) with ⟨kx, b9, M1, e1, e2, e9, hw⟩ | ⟨v, M1, e1, e2, e9, hw⟩
  · refine g_callW hx (c_L_account l g hC hN hl (putMd σ T (owF ad) 0 M) B W (xs (nI i + 1).toNatClampNeg) (o := o) (LW.out hlay ho) hlay.1 e1 (fun k hk9 => ki_account W (xs (nI i + 1).toNatClampNeg) k (e1.trans (congrArg some hk9)))) lkw_account arw_account (As := [.ref B, .int (xs (nI i + 1).toNatClampNeg), .ref o]) (rest := []) rfl (Nat.le_of_ble_eq_true rfl) ⟨Nat.le_of_ble_eq_true rfl, Nat.le_of_ble_eq_true rfl⟩ hk dL_law_446 (fun v9 σ9 hp => ?_)
    obtain ⟨k9, h9, rfl, h8⟩ := Or.resolve_right hp (fun q => by obtain ⟨u9, h9, -, -⟩ := q; cases h9)
    cases h9
    obtain ⟨z, σm⟩ := σ9
    cases h8
    refine G.heap (show _ = LW (z, σ.2) B T ad ae W M from rfl) ?_
    refine g_istore hx 449 (i := 5) [(5, .int (ci1 kx)), (4, .int (nI i)), (0, .ref b), (1, .ref B), (2, .ref T), (3, .ref o)] dL_law_449 (by decide) rfl ?_
    refine g_aload_n hx 451 (i := 2) 4 dL_law_451 rfl rfl ?_
    refine g_aload_n hx 452 (i := 0) 2 dL_law_452 rfl rfl ?_
    refine g_iload hx 453 (i := 4) 1 dL_law_453 rfl ?_
    refine g_iconst hx 455 (1) dL_law_455 rfl ?_
    refine g_iadd hx 456 dL_law_456 ?_
    refine g_sld hx 457 hs (vpi (j := 1) hi hL (by decide) _ rfl) dL_law_457 ?_
    refine G.heap (LW.md (ad := ad) hlay) ?_
    refine g_callVr hx (c_Md_account (ρ := 0) (by decide) l g (putW (z, σ.2) B ae W) T (owF ad) M (xs (nI i + 1).toNatClampNeg) e2) lkl_103 arl_103 (pM_o (putW (z, σ.2) B ae W) T (owF ad) 0 M) (T := TX11) (N := 30) rfl (As := [.int (xs (nI i + 1).toNatClampNeg)]) (rest := []) rfl (Nat.le_of_ble_eq_true rfl) ⟨Nat.le_of_ble_eq_true rfl, Nat.le_of_ble_eq_true rfl⟩ ⟨rfl, rfl⟩ hk dL_law_458 ?_
    refine G.heap (LW.md (ad := ad) hlay).symm ?_
    refine g_istore hx 461 (i := 6) [(6, .int b9), (5, .int (ci1 kx)), (4, .int (nI i)), (0, .ref b), (1, .ref B), (2, .ref T), (3, .ref o)] dL_law_461 (by decide) rfl ?_
    refine g_aload_n hx 463 (i := 2) 5 dL_law_463 rfl rfl ?_
    refine G.heap (LW.md (ad := ad) hlay) ?_
    refine g_callVr hx (c_Md_thrown (ρ := 0) (by decide) l g (putW (z, σ.2) B ae W) T (owF ad) M1 rfl) lkl_90 arl_90 (pM_o (putW (z, σ.2) B ae W) T (owF ad) 0 M1) (T := TX11) (N := 30) rfl (As := []) (rest := []) rfl (Nat.le_of_ble_eq_true rfl) ⟨Nat.le_of_ble_eq_true rfl, Nat.le_of_ble_eq_true rfl⟩ ⟨rfl, rfl⟩ hk dL_law_464 ?_
    refine G.heap (LW.md (ad := ad) hlay).symm ?_
    refine g_iload hx 467 (i := 5) 1 dL_law_467 rfl ?_
    refine g_icmp_eq hx 469 474 dL_law_469 (by decide) (fun _ => ?_) (fun hq => absurd e9 hq)
    refine g_iload hx 474 (i := 5) 1 dL_law_474 rfl ?_
    refine g_if_ne hx 476 491 dL_law_476 (by decide) (fun _ => ?_) (fun hq => absurd hq (ci_n _))
    refine g_goto hx 491 2042 dL_law_491 (by decide) ?_
    refine g_ls [2, 3, 4, 5, 6] [(4, .int (nI i)), (0, .ref b), (1, .ref B), (2, .ref T), (3, .ref o)] rfl ?_
    exact next _ _ _ _ hw ho
  · refine g_callW hx (c_L_account l g hC hN hl (putMd σ T (owF ad) 0 M) B W (xs (nI i + 1).toNatClampNeg) (o := o) (LW.out hlay ho) hlay.1 e1 (fun k hk9 => ki_account W (xs (nI i + 1).toNatClampNeg) k (e1.trans (congrArg some hk9)))) lkw_account arw_account (As := [.ref B, .int (xs (nI i + 1).toNatClampNeg), .ref o]) (rest := []) rfl (Nat.le_of_ble_eq_true rfl) ⟨Nat.le_of_ble_eq_true rfl, Nat.le_of_ble_eq_true rfl⟩ hk dL_law_446 (fun v9 σ9 hp => ?_)
    obtain ⟨u9, h9, rfl, rfl⟩ := Or.resolve_left hp (fun q => by obtain ⟨k9, h9, -, -⟩ := q; cases h9)
    cases h9
    refine G.heap (LW.set hlay _) ?_
    refine g_istore hx 449 (i := 5) [(5, .int (0)), (4, .int (nI i)), (0, .ref b), (1, .ref B), (2, .ref T), (3, .ref o)] dL_law_449 (by decide) rfl ?_
    refine g_aload_n hx 451 (i := 2) 4 dL_law_451 rfl rfl ?_
    refine g_aload_n hx 452 (i := 0) 2 dL_law_452 rfl rfl ?_
    refine g_iload hx 453 (i := 4) 1 dL_law_453 rfl ?_
    refine g_iconst hx 455 (1) dL_law_455 rfl ?_
    refine g_iadd hx 456 dL_law_456 ?_
    refine g_sld hx 457 hs (vpi (j := 1) hi hL (by decide) _ rfl) dL_law_457 ?_
    refine G.heap (LW.md (ad := ad) hlay) ?_
    refine g_callVr hx (c_Md_account (ρ := 0) (by decide) l g (putW (hset σ o (eJ 1 (vp_updL f 0 v.toInt64))) B ae W) T (owF ad) M (xs (nI i + 1).toNatClampNeg) e2) lkl_103 arl_103 (pM_o (putW (hset σ o (eJ 1 (vp_updL f 0 v.toInt64))) B ae W) T (owF ad) 0 M) (T := TX11) (N := 30) rfl (As := [.int (xs (nI i + 1).toNatClampNeg)]) (rest := []) rfl (Nat.le_of_ble_eq_true rfl) ⟨Nat.le_of_ble_eq_true rfl, Nat.le_of_ble_eq_true rfl⟩ ⟨rfl, rfl⟩ hk dL_law_458 ?_
    refine G.heap (LW.md (ad := ad) hlay).symm ?_
    refine g_istore hx 461 (i := 6) [(6, .int v), (5, .int (0)), (4, .int (nI i)), (0, .ref b), (1, .ref B), (2, .ref T), (3, .ref o)] dL_law_461 (by decide) rfl ?_
    refine g_aload_n hx 463 (i := 2) 5 dL_law_463 rfl rfl ?_
    refine G.heap (LW.md (ad := ad) hlay) ?_
    refine g_callVr hx (c_Md_thrown (ρ := 0) (by decide) l g (putW (hset σ o (eJ 1 (vp_updL f 0 v.toInt64))) B ae W) T (owF ad) M1 rfl) lkl_90 arl_90 (pM_o (putW (hset σ o (eJ 1 (vp_updL f 0 v.toInt64))) B ae W) T (owF ad) 0 M1) (T := TX11) (N := 30) rfl (As := []) (rest := []) rfl (Nat.le_of_ble_eq_true rfl) ⟨Nat.le_of_ble_eq_true rfl, Nat.le_of_ble_eq_true rfl⟩ ⟨rfl, rfl⟩ hk dL_law_464 ?_
    refine G.heap (LW.md (ad := ad) hlay).symm ?_
    refine g_iload hx 467 (i := 5) 1 dL_law_467 rfl ?_
    refine g_icmp_eq hx 469 474 dL_law_469 (by decide) (fun _ => ?_) (fun hq => absurd e9 hq)
    refine g_iload hx 474 (i := 5) 1 dL_law_474 rfl ?_
    refine g_if_ne hx 476 491 dL_law_476 (by decide) (fun hq => absurd rfl hq) (fun _ => ?_)
    refine g_aload_n hx 479 (i := 3) 6 dL_law_479 rfl rfl ?_
    refine g_iconst hx 480 (0) dL_law_480 rfl ?_
    refine g_lald hx 481 (pW_out _ B ae W hlay.1 |>.trans (LW.out hlay (hset_self _ _ _))) vp01 dL_law_481 ?_
    refine g_iload hx 482 (i := 6) 0 dL_law_482 rfl ?_
    refine g_i2l hx 484 dL_law_484 ?_
    refine g_lcmp hx 485 dL_law_485 ?_
    refine g_if_eq hx 486 491 dL_law_486 (by decide) (fun _ => ?_) (fun hq => absurd (cmp_ll _) hq)
    refine g_goto hx 491 2042 dL_law_491 (by decide) ?_
    refine g_ls [2, 3, 4, 5, 6] [(4, .int (nI i)), (0, .ref b), (1, .ref B), (2, .ref T), (3, .ref o)] rfl ?_
    exact next _ _ _ _ hw (hset_self _ _ _)
set_option maxRecDepth 100000 in
set_option maxHeartbeats 4000000 in
theorem law_5 {X : Cx} {l : Launch} {g : Gl} {ad ae : Nat → Nat} (hx : Ok X l g RL cL_law 9 room_1) (hC : KAll g ad ae) (hN : KN g) (hl : l.stackTraces = false) {b L B T o i k n : Nat} {xs : Nat → Int32} (hs : Scr g b L xs) (hi : i + 6 ≤ L) (hL : L ≤ 3072) (hlay : Lay B T o) (hk : k + 1 ≤ room_1.cells ∧ n + 6 ≤ room_1.slots) {σ : Hp} {W : WM} {M : MdM} {f : Nat → Int64} (h : WRel W M) (ho : σ.2 o = some (eJ 1 f)) (next : LN X B T o ad ae k n [(4, .int (nI i)), (0, .ref b), (1, .ref B), (2, .ref T), (3, .ref o)]) : G X (LW σ B T ad ae W M) k n 494 [(4, .int (nI i)), (0, .ref b), (1, .ref B), (2, .ref T), (3, .ref o)] [] := by
  refine g_aload_n hx 494 (i := 1) 2 dL_law_494 rfl rfl ?_
  refine g_aload_n hx 495 (i := 0) 1 dL_law_495 rfl rfl ?_
  refine g_iload hx 496 (i := 4) 0 dL_law_496 rfl ?_
  refine g_iconst hx 498 (1) dL_law_498 rfl ?_
  refine g_iadd hx 499 dL_law_499 ?_
  refine g_sld hx 500 hs (vpi (j := 1) hi hL (by decide) _ rfl) dL_law_500 ?_
  refine g_aload_n hx 501 (i := 0) 1 dL_law_501 rfl rfl ?_
  refine g_iload hx 502 (i := 4) 0 dL_law_502 rfl ?_
  refine g_iconst hx 504 (2) dL_law_504 rfl ?_
  refine g_iadd hx 505 dL_law_505 ?_
  refine g_sld hx 506 hs (vpi (j := 2) hi hL (by decide) _ rfl) dL_law_506 ?_
  refine g_aload_n hx 507 (i := 3) 4 dL_law_507 rfl rfl ?_
  rcases f_folder h (xs (nI i + 1).toNatClampNeg) (xs (nI i + 2).toNatClampNeg) with ⟨kx, b9, M1, e1, e2, e9, hw⟩ | ⟨v, M1, e1, e2, e9, hw⟩
  · refine g_callW hx (c_L_folder l g hC hN hl (putMd σ T (owF ad) 0 M) B W (xs (nI i + 1).toNatClampNeg) (xs (nI i + 2).toNatClampNeg) (o := o) (LW.out hlay ho) hlay.1 e1) lkw_folder arw_folder (As := [.ref B, .int (xs (nI i + 1).toNatClampNeg), .int (xs (nI i + 2).toNatClampNeg), .ref o]) (rest := []) rfl (Nat.le_of_ble_eq_true rfl) ⟨Nat.le_of_ble_eq_true rfl, Nat.le_of_ble_eq_true rfl⟩ hk dL_law_508 (fun v9 σ9 hp => ?_)
    obtain ⟨k9, h9, rfl, h8⟩ := Or.resolve_right hp (fun q => by obtain ⟨u9, h9, -, -⟩ := q; cases h9)
    cases h9
    obtain ⟨z, σm⟩ := σ9
    cases h8
    refine G.heap (show _ = LW (z, σ.2) B T ad ae W M from rfl) ?_
    refine g_istore hx 511 (i := 5) [(5, .int (ci2 kx)), (4, .int (nI i)), (0, .ref b), (1, .ref B), (2, .ref T), (3, .ref o)] dL_law_511 (by decide) rfl ?_
    refine g_aload_n hx 513 (i := 2) 4 dL_law_513 rfl rfl ?_
    refine g_aload_n hx 514 (i := 0) 2 dL_law_514 rfl rfl ?_
    refine g_iload hx 515 (i := 4) 1 dL_law_515 rfl ?_
    refine g_iconst hx 517 (1) dL_law_517 rfl ?_
    refine g_iadd hx 518 dL_law_518 ?_
    refine g_sld hx 519 hs (vpi (j := 1) hi hL (by decide) _ rfl) dL_law_519 ?_
    refine g_aload_n hx 520 (i := 0) 2 dL_law_520 rfl rfl ?_
    refine g_iload hx 521 (i := 4) 1 dL_law_521 rfl ?_
    refine g_iconst hx 523 (2) dL_law_523 rfl ?_
    refine g_iadd hx 524 dL_law_524 ?_
    refine g_sld hx 525 hs (vpi (j := 2) hi hL (by decide) _ rfl) dL_law_525 ?_
    refine G.heap (LW.md (ad := ad) hlay) ?_
    refine g_callVr hx (c_Md_folder (ρ := 0) (by decide) l g (putW (z, σ.2) B ae W) T (owF ad) M (xs (nI i + 1).toNatClampNeg) (xs (nI i + 2).toNatClampNeg) e2) lkl_107 arl_107 (pM_o (putW (z, σ.2) B ae W) T (owF ad) 0 M) (T := TX11) (N := 30) rfl (As := [.int (xs (nI i + 1).toNatClampNeg), .int (xs (nI i + 2).toNatClampNeg)]) (rest := []) rfl (Nat.le_of_ble_eq_true rfl) ⟨Nat.le_of_ble_eq_true rfl, Nat.le_of_ble_eq_true rfl⟩ ⟨rfl, rfl⟩ hk dL_law_526 ?_
    refine G.heap (LW.md (ad := ad) hlay).symm ?_
    refine g_istore hx 529 (i := 6) [(6, .int b9), (5, .int (ci2 kx)), (4, .int (nI i)), (0, .ref b), (1, .ref B), (2, .ref T), (3, .ref o)] dL_law_529 (by decide) rfl ?_
    refine g_aload_n hx 531 (i := 2) 5 dL_law_531 rfl rfl ?_
    refine G.heap (LW.md (ad := ad) hlay) ?_
    refine g_callVr hx (c_Md_thrown (ρ := 0) (by decide) l g (putW (z, σ.2) B ae W) T (owF ad) M1 rfl) lkl_90 arl_90 (pM_o (putW (z, σ.2) B ae W) T (owF ad) 0 M1) (T := TX11) (N := 30) rfl (As := []) (rest := []) rfl (Nat.le_of_ble_eq_true rfl) ⟨Nat.le_of_ble_eq_true rfl, Nat.le_of_ble_eq_true rfl⟩ ⟨rfl, rfl⟩ hk dL_law_532 ?_
    refine G.heap (LW.md (ad := ad) hlay).symm ?_
    refine g_iload hx 535 (i := 5) 1 dL_law_535 rfl ?_
    refine g_icmp_eq hx 537 542 dL_law_537 (by decide) (fun _ => ?_) (fun hq => absurd e9 hq)
    refine g_iload hx 542 (i := 5) 1 dL_law_542 rfl ?_
    refine g_if_ne hx 544 559 dL_law_544 (by decide) (fun _ => ?_) (fun hq => absurd hq (ci_n2 _))
    refine g_goto hx 559 2042 dL_law_559 (by decide) ?_
    refine g_ls [2, 3, 4, 5, 6] [(4, .int (nI i)), (0, .ref b), (1, .ref B), (2, .ref T), (3, .ref o)] rfl ?_
    exact next _ _ _ _ hw ho
  · refine g_callW hx (c_L_folder l g hC hN hl (putMd σ T (owF ad) 0 M) B W (xs (nI i + 1).toNatClampNeg) (xs (nI i + 2).toNatClampNeg) (o := o) (LW.out hlay ho) hlay.1 e1) lkw_folder arw_folder (As := [.ref B, .int (xs (nI i + 1).toNatClampNeg), .int (xs (nI i + 2).toNatClampNeg), .ref o]) (rest := []) rfl (Nat.le_of_ble_eq_true rfl) ⟨Nat.le_of_ble_eq_true rfl, Nat.le_of_ble_eq_true rfl⟩ hk dL_law_508 (fun v9 σ9 hp => ?_)
    obtain ⟨u9, h9, rfl, rfl⟩ := Or.resolve_left hp (fun q => by obtain ⟨k9, h9, -, -⟩ := q; cases h9)
    cases h9
    refine G.heap (LW.set hlay _) ?_
    refine g_istore hx 511 (i := 5) [(5, .int (0)), (4, .int (nI i)), (0, .ref b), (1, .ref B), (2, .ref T), (3, .ref o)] dL_law_511 (by decide) rfl ?_
    refine g_aload_n hx 513 (i := 2) 4 dL_law_513 rfl rfl ?_
    refine g_aload_n hx 514 (i := 0) 2 dL_law_514 rfl rfl ?_
    refine g_iload hx 515 (i := 4) 1 dL_law_515 rfl ?_
    refine g_iconst hx 517 (1) dL_law_517 rfl ?_
    refine g_iadd hx 518 dL_law_518 ?_
    refine g_sld hx 519 hs (vpi (j := 1) hi hL (by decide) _ rfl) dL_law_519 ?_
    refine g_aload_n hx 520 (i := 0) 2 dL_law_520 rfl rfl ?_
    refine g_iload hx 521 (i := 4) 1 dL_law_521 rfl ?_
    refine g_iconst hx 523 (2) dL_law_523 rfl ?_
    refine g_iadd hx 524 dL_law_524 ?_
    refine g_sld hx 525 hs (vpi (j := 2) hi hL (by decide) _ rfl) dL_law_525 ?_
    refine G.heap (LW.md (ad := ad) hlay) ?_
    refine g_callVr hx (c_Md_folder (ρ := 0) (by decide) l g (putW (hset σ o (eJ 1 (vp_updL f 0 v.toInt64))) B ae W) T (owF ad) M (xs (nI i + 1).toNatClampNeg) (xs (nI i + 2).toNatClampNeg) e2) lkl_107 arl_107 (pM_o (putW (hset σ o (eJ 1 (vp_updL f 0 v.toInt64))) B ae W) T (owF ad) 0 M) (T := TX11) (N := 30) rfl (As := [.int (xs (nI i + 1).toNatClampNeg), .int (xs (nI i + 2).toNatClampNeg)]) (rest := []) rfl (Nat.le_of_ble_eq_true rfl) ⟨Nat.le_of_ble_eq_true rfl, Nat.le_of_ble_eq_true rfl⟩ ⟨rfl, rfl⟩ hk dL_law_526 ?_
    refine G.heap (LW.md (ad := ad) hlay).symm ?_
    refine g_istore hx 529 (i := 6) [(6, .int v), (5, .int (0)), (4, .int (nI i)), (0, .ref b), (1, .ref B), (2, .ref T), (3, .ref o)] dL_law_529 (by decide) rfl ?_
    refine g_aload_n hx 531 (i := 2) 5 dL_law_531 rfl rfl ?_
    refine G.heap (LW.md (ad := ad) hlay) ?_
    refine g_callVr hx (c_Md_thrown (ρ := 0) (by decide) l g (putW (hset σ o (eJ 1 (vp_updL f 0 v.toInt64))) B ae W) T (owF ad) M1 rfl) lkl_90 arl_90 (pM_o (putW (hset σ o (eJ 1 (vp_updL f 0 v.toInt64))) B ae W) T (owF ad) 0 M1) (T := TX11) (N := 30) rfl (As := []) (rest := []) rfl (Nat.le_of_ble_eq_true rfl) ⟨Nat.le_of_ble_eq_true rfl, Nat.le_of_ble_eq_true rfl⟩ ⟨rfl, rfl⟩ hk dL_law_532 ?_
    refine G.heap (LW.md (ad := ad) hlay).symm ?_
    refine g_iload hx 535 (i := 5) 1 dL_law_535 rfl ?_
    refine g_icmp_eq hx 537 542 dL_law_537 (by decide) (fun _ => ?_) (fun hq => absurd e9 hq)
    refine g_iload hx 542 (i := 5) 1 dL_law_542 rfl ?_
    refine g_if_ne hx 544 559 dL_law_544 (by decide) (fun hq => absurd rfl hq) (fun _ => ?_)
    refine g_aload_n hx 547 (i := 3) 6 dL_law_547 rfl rfl ?_
    refine g_iconst hx 548 (0) dL_law_548 rfl ?_
    refine g_lald hx 549 (pW_out _ B ae W hlay.1 |>.trans (LW.out hlay (hset_self _ _ _))) vp01 dL_law_549 ?_
    refine g_iload hx 550 (i := 6) 0 dL_law_550 rfl ?_
    refine g_i2l hx 552 dL_law_552 ?_
    refine g_lcmp hx 553 dL_law_553 ?_
    refine g_if_eq hx 554 559 dL_law_554 (by decide) (fun _ => ?_) (fun hq => absurd (cmp_ll _) hq)
    refine g_goto hx 559 2042 dL_law_559 (by decide) ?_
    refine g_ls [2, 3, 4, 5, 6] [(4, .int (nI i)), (0, .ref b), (1, .ref B), (2, .ref T), (3, .ref o)] rfl ?_
    exact next _ _ _ _ hw (hset_self _ _ _)
set_option maxRecDepth 100000 in
set_option maxHeartbeats 4000000 in
theorem law_6 {X : Cx} {l : Launch} {g : Gl} {ad ae : Nat → Nat} (hx : Ok X l g RL cL_law 9 room_1) (hC : KAll g ad ae) (hN : KN g) (hl : l.stackTraces = false) {b L B T o i k n : Nat} {xs : Nat → Int32} (hs : Scr g b L xs) (hi : i + 6 ≤ L) (hL : L ≤ 3072) (hlay : Lay B T o) (hk : k + 1 ≤ room_1.cells ∧ n + 6 ≤ room_1.slots) {σ : Hp} {W : WM} {M : MdM} {f : Nat → Int64} (h : WRel W M) (ho : σ.2 o = some (eJ 1 f)) (next : LN X B T o ad ae k n [(4, .int (nI i)), (0, .ref b), (1, .ref B), (2, .ref T), (3, .ref o)]) : G X (LW σ B T ad ae W M) k n 562 [(4, .int (nI i)), (0, .ref b), (1, .ref B), (2, .ref T), (3, .ref o)] [] := by
  obtain ⟨M1, e2, hw⟩ := f_marked h (xs (nI i + 1).toNatClampNeg)
  refine g_aload_n hx 562 (i := 1) 2 dL_law_562 rfl rfl ?_
  refine g_aload_n hx 563 (i := 0) 1 dL_law_563 rfl rfl ?_
  refine g_iload hx 564 (i := 4) 0 dL_law_564 rfl ?_
  refine g_iconst hx 566 (1) dL_law_566 rfl ?_
  refine g_iadd hx 567 dL_law_567 ?_
  refine g_sld hx 568 hs (vpi (j := 1) hi hL (by decide) _ rfl) dL_law_568 ?_
  refine g_callVr hx (c_SA_marked l g hC (putMd σ T (owF ad) 0 M) B W (xs (nI i + 1).toNatClampNeg) rfl) lkl_108 arl_108 (pW (putMd σ T (owF ad) 0 M) B ae W 0 (by decide)) (T := TX10) (N := 11) rfl (As := [.int (xs (nI i + 1).toNatClampNeg)]) (rest := []) rfl (Nat.le_of_ble_eq_true rfl) ⟨Nat.le_of_ble_eq_true rfl, Nat.le_of_ble_eq_true rfl⟩ ⟨rfl, rfl⟩ ⟨Nat.le_of_succ_le hk.1, Nat.le_trans (Nat.le_add_right _ 6) hk.2⟩ dL_law_569 ?_
  refine g_aload_n hx 572 (i := 2) 3 dL_law_572 rfl rfl ?_
  refine g_aload_n hx 573 (i := 0) 1 dL_law_573 rfl rfl ?_
  refine g_iload hx 574 (i := 4) 0 dL_law_574 rfl ?_
  refine g_iconst hx 576 (1) dL_law_576 rfl ?_
  refine g_iadd hx 577 dL_law_577 ?_
  refine g_sld hx 578 hs (vpi (j := 1) hi hL (by decide) _ rfl) dL_law_578 ?_
  refine G.heap (LW.md (ad := ad) hlay) ?_
  refine g_callVr hx (c_Md_marked (ρ := 0) (by decide) l g (putW σ B ae W) T (owF ad) M (xs (nI i + 1).toNatClampNeg) e2) lkl_111 arl_111 (pM_o (putW σ B ae W) T (owF ad) 0 M) (T := TX11) (N := 30) rfl (As := [.int (xs (nI i + 1).toNatClampNeg)]) (rest := [.int (SA_marked W (xs (nI i + 1).toNatClampNeg))]) rfl (Nat.le_of_ble_eq_true rfl) ⟨Nat.le_of_ble_eq_true rfl, Nat.le_of_ble_eq_true rfl⟩ ⟨rfl, rfl⟩ ⟨Nat.le_of_succ_le hk.1, Nat.le_trans (Nat.le_add_right _ 6) hk.2⟩ dL_law_579 ?_
  refine G.heap (LW.md (ad := ad) hlay).symm ?_
  exact g_icmp_eq hx 582 2042 dL_law_582 (by decide) (fun _ => (g_widen (Nat.le_succ _) (Nat.le_add_right _ _) (next _ _ _ _ hw ho))) (fun hq => absurd rfl hq)
set_option maxRecDepth 100000 in
set_option maxHeartbeats 4000000 in
theorem law_7 {X : Cx} {l : Launch} {g : Gl} {ad ae : Nat → Nat} (hx : Ok X l g RL cL_law 9 room_1) (hC : KAll g ad ae) (hN : KN g) (hl : l.stackTraces = false) {b L B T o i k n : Nat} {xs : Nat → Int32} (hs : Scr g b L xs) (hi : i + 6 ≤ L) (hL : L ≤ 3072) (hlay : Lay B T o) (hk : k + 1 ≤ room_1.cells ∧ n + 6 ≤ room_1.slots) {σ : Hp} {W : WM} {M : MdM} {f : Nat → Int64} (h : WRel W M) (ho : σ.2 o = some (eJ 1 f)) (next : LN X B T o ad ae k n [(4, .int (nI i)), (0, .ref b), (1, .ref B), (2, .ref T), (3, .ref o)]) : G X (LW σ B T ad ae W M) k n 587 [(4, .int (nI i)), (0, .ref b), (1, .ref B), (2, .ref T), (3, .ref o)] [] := by
  obtain ⟨M1, e2, hw⟩ := f_at h (xs (nI i + 1).toNatClampNeg)
  refine g_aload_n hx 587 (i := 1) 2 dL_law_587 rfl rfl ?_
  refine g_aload_n hx 588 (i := 0) 1 dL_law_588 rfl rfl ?_
  refine g_iload hx 589 (i := 4) 0 dL_law_589 rfl ?_
  refine g_iconst hx 591 (1) dL_law_591 rfl ?_
  refine g_iadd hx 592 dL_law_592 ?_
  refine g_sld hx 593 hs (vpi (j := 1) hi hL (by decide) _ rfl) dL_law_593 ?_
  refine g_callVr hx (c_SA_at l g hC (putMd σ T (owF ad) 0 M) B W (xs (nI i + 1).toNatClampNeg) rfl) lkl_112 arl_112 (pW (putMd σ T (owF ad) 0 M) B ae W 0 (by decide)) (T := TX10) (N := 11) rfl (As := [.int (xs (nI i + 1).toNatClampNeg)]) (rest := []) rfl (Nat.le_of_ble_eq_true rfl) ⟨Nat.le_of_ble_eq_true rfl, Nat.le_of_ble_eq_true rfl⟩ ⟨rfl, rfl⟩ ⟨Nat.le_of_succ_le hk.1, Nat.le_trans (Nat.le_add_right _ 6) hk.2⟩ dL_law_594 ?_
  refine g_aload_n hx 597 (i := 2) 3 dL_law_597 rfl rfl ?_
  refine g_aload_n hx 598 (i := 0) 1 dL_law_598 rfl rfl ?_
  refine g_iload hx 599 (i := 4) 0 dL_law_599 rfl ?_
  refine g_iconst hx 601 (1) dL_law_601 rfl ?_
  refine g_iadd hx 602 dL_law_602 ?_
  refine g_sld hx 603 hs (vpi (j := 1) hi hL (by decide) _ rfl) dL_law_603 ?_
  refine G.heap (LW.md (ad := ad) hlay) ?_
  refine g_callVr hx (c_Md_at (ρ := 0) (by decide) l g (putW σ B ae W) T (owF ad) M (xs (nI i + 1).toNatClampNeg) e2) lkl_115 arl_115 (pM_o (putW σ B ae W) T (owF ad) 0 M) (T := TX11) (N := 30) rfl (As := [.int (xs (nI i + 1).toNatClampNeg)]) (rest := [.int (SA_at W (xs (nI i + 1).toNatClampNeg))]) rfl (Nat.le_of_ble_eq_true rfl) ⟨Nat.le_of_ble_eq_true rfl, Nat.le_of_ble_eq_true rfl⟩ ⟨rfl, rfl⟩ ⟨Nat.le_of_succ_le hk.1, Nat.le_trans (Nat.le_add_right _ 6) hk.2⟩ dL_law_604 ?_
  refine G.heap (LW.md (ad := ad) hlay).symm ?_
  exact g_icmp_eq hx 607 2042 dL_law_607 (by decide) (fun _ => (g_widen (Nat.le_succ _) (Nat.le_add_right _ _) (next _ _ _ _ hw ho))) (fun hq => absurd rfl hq)
set_option maxRecDepth 100000 in
set_option maxHeartbeats 4000000 in
theorem law_8 {X : Cx} {l : Launch} {g : Gl} {ad ae : Nat → Nat} (hx : Ok X l g RL cL_law 9 room_1) (hC : KAll g ad ae) (hN : KN g) (hl : l.stackTraces = false) {b L B T o i k n : Nat} {xs : Nat → Int32} (hs : Scr g b L xs) (hi : i + 6 ≤ L) (hL : L ≤ 3072) (hlay : Lay B T o) (hk : k + 1 ≤ room_1.cells ∧ n + 6 ≤ room_1.slots) {σ : Hp} {W : WM} {M : MdM} {f : Nat → Int64} (h : WRel W M) (ho : σ.2 o = some (eJ 1 f)) (next : LN X B T o ad ae k n [(4, .int (nI i)), (0, .ref b), (1, .ref B), (2, .ref T), (3, .ref o)]) : G X (LW σ B T ad ae W M) k n 612 [(4, .int (nI i)), (0, .ref b), (1, .ref B), (2, .ref T), (3, .ref o)] [] := by
  refine g_aload_n hx 612 (i := 1) 2 dL_law_612 rfl rfl ?_
  refine g_aload_n hx 613 (i := 0) 1 dL_law_613 rfl rfl ?_
  refine g_iload hx 614 (i := 4) 0 dL_law_614 rfl ?_
  refine g_iconst hx 616 (1) dL_law_616 rfl ?_
  refine g_iadd hx 617 dL_law_617 ?_
  refine g_sld hx 618 hs (vpi (j := 1) hi hL (by decide) _ rfl) dL_law_618 ?_
  refine g_aload_n hx 619 (i := 0) 1 dL_law_619 rfl rfl ?_
  refine g_iload hx 620 (i := 4) 0 dL_law_620 rfl ?_
  refine g_iconst hx 622 (2) dL_law_622 rfl ?_
  refine g_iadd hx 623 dL_law_623 ?_
  refine g_sld hx 624 hs (vpi (j := 2) hi hL (by decide) _ rfl) dL_law_624 ?_
  refine g_aload_n hx 625 (i := 3) 4 dL_law_625 rfl rfl ?_
  rcases f_reader h (xs (nI i + 1).toNatClampNeg) (xs (nI i + 2).toNatClampNeg) with ⟨kx, b9, M1, e1, e2, e9, hw⟩ | ⟨v, M1, e1, e2, e9, hw⟩
  · refine g_callW hx (c_L_reader l g hC hN hl (putMd σ T (owF ad) 0 M) B W (xs (nI i + 1).toNatClampNeg) (xs (nI i + 2).toNatClampNeg) (o := o) (LW.out hlay ho) hlay.1 e1) lkw_reader arw_reader (As := [.ref B, .int (xs (nI i + 1).toNatClampNeg), .int (xs (nI i + 2).toNatClampNeg), .ref o]) (rest := []) rfl (Nat.le_of_ble_eq_true rfl) ⟨Nat.le_of_ble_eq_true rfl, Nat.le_of_ble_eq_true rfl⟩ hk dL_law_626 (fun v9 σ9 hp => ?_)
    obtain ⟨k9, h9, rfl, h8⟩ := Or.resolve_right hp (fun q => by obtain ⟨u9, h9, -, -⟩ := q; cases h9)
    cases h9
    obtain ⟨z, σm⟩ := σ9
    cases h8
    refine G.heap (show _ = LW (z, σ.2) B T ad ae W M from rfl) ?_
    refine g_istore hx 629 (i := 5) [(5, .int (ci2 kx)), (4, .int (nI i)), (0, .ref b), (1, .ref B), (2, .ref T), (3, .ref o)] dL_law_629 (by decide) rfl ?_
    refine g_aload_n hx 631 (i := 2) 4 dL_law_631 rfl rfl ?_
    refine g_aload_n hx 632 (i := 0) 2 dL_law_632 rfl rfl ?_
    refine g_iload hx 633 (i := 4) 1 dL_law_633 rfl ?_
    refine g_iconst hx 635 (1) dL_law_635 rfl ?_
    refine g_iadd hx 636 dL_law_636 ?_
    refine g_sld hx 637 hs (vpi (j := 1) hi hL (by decide) _ rfl) dL_law_637 ?_
    refine g_aload_n hx 638 (i := 0) 2 dL_law_638 rfl rfl ?_
    refine g_iload hx 639 (i := 4) 1 dL_law_639 rfl ?_
    refine g_iconst hx 641 (2) dL_law_641 rfl ?_
    refine g_iadd hx 642 dL_law_642 ?_
    refine g_sld hx 643 hs (vpi (j := 2) hi hL (by decide) _ rfl) dL_law_643 ?_
    refine G.heap (LW.md (ad := ad) hlay) ?_
    refine g_callVr hx (c_Md_reader (ρ := 0) (by decide) l g (putW (z, σ.2) B ae W) T (owF ad) M (xs (nI i + 1).toNatClampNeg) (xs (nI i + 2).toNatClampNeg) e2) lkl_118 arl_118 (pM_o (putW (z, σ.2) B ae W) T (owF ad) 0 M) (T := TX11) (N := 30) rfl (As := [.int (xs (nI i + 1).toNatClampNeg), .int (xs (nI i + 2).toNatClampNeg)]) (rest := []) rfl (Nat.le_of_ble_eq_true rfl) ⟨Nat.le_of_ble_eq_true rfl, Nat.le_of_ble_eq_true rfl⟩ ⟨rfl, rfl⟩ hk dL_law_644 ?_
    refine G.heap (LW.md (ad := ad) hlay).symm ?_
    refine g_istore hx 647 (i := 6) [(6, .int b9), (5, .int (ci2 kx)), (4, .int (nI i)), (0, .ref b), (1, .ref B), (2, .ref T), (3, .ref o)] dL_law_647 (by decide) rfl ?_
    refine g_aload_n hx 649 (i := 2) 5 dL_law_649 rfl rfl ?_
    refine G.heap (LW.md (ad := ad) hlay) ?_
    refine g_callVr hx (c_Md_thrown (ρ := 0) (by decide) l g (putW (z, σ.2) B ae W) T (owF ad) M1 rfl) lkl_90 arl_90 (pM_o (putW (z, σ.2) B ae W) T (owF ad) 0 M1) (T := TX11) (N := 30) rfl (As := []) (rest := []) rfl (Nat.le_of_ble_eq_true rfl) ⟨Nat.le_of_ble_eq_true rfl, Nat.le_of_ble_eq_true rfl⟩ ⟨rfl, rfl⟩ hk dL_law_650 ?_
    refine G.heap (LW.md (ad := ad) hlay).symm ?_
    refine g_iload hx 653 (i := 5) 1 dL_law_653 rfl ?_
    refine g_icmp_eq hx 655 660 dL_law_655 (by decide) (fun _ => ?_) (fun hq => absurd e9 hq)
    refine g_iload hx 660 (i := 5) 1 dL_law_660 rfl ?_
    refine g_if_ne hx 662 677 dL_law_662 (by decide) (fun _ => ?_) (fun hq => absurd hq (ci_n2 _))
    refine g_goto hx 677 2042 dL_law_677 (by decide) ?_
    refine g_ls [2, 3, 4, 5, 6] [(4, .int (nI i)), (0, .ref b), (1, .ref B), (2, .ref T), (3, .ref o)] rfl ?_
    exact next _ _ _ _ hw ho
  · refine g_callW hx (c_L_reader l g hC hN hl (putMd σ T (owF ad) 0 M) B W (xs (nI i + 1).toNatClampNeg) (xs (nI i + 2).toNatClampNeg) (o := o) (LW.out hlay ho) hlay.1 e1) lkw_reader arw_reader (As := [.ref B, .int (xs (nI i + 1).toNatClampNeg), .int (xs (nI i + 2).toNatClampNeg), .ref o]) (rest := []) rfl (Nat.le_of_ble_eq_true rfl) ⟨Nat.le_of_ble_eq_true rfl, Nat.le_of_ble_eq_true rfl⟩ hk dL_law_626 (fun v9 σ9 hp => ?_)
    obtain ⟨u9, h9, rfl, rfl⟩ := Or.resolve_left hp (fun q => by obtain ⟨k9, h9, -, -⟩ := q; cases h9)
    cases h9
    refine G.heap (LW.set hlay _) ?_
    refine g_istore hx 629 (i := 5) [(5, .int (0)), (4, .int (nI i)), (0, .ref b), (1, .ref B), (2, .ref T), (3, .ref o)] dL_law_629 (by decide) rfl ?_
    refine g_aload_n hx 631 (i := 2) 4 dL_law_631 rfl rfl ?_
    refine g_aload_n hx 632 (i := 0) 2 dL_law_632 rfl rfl ?_
    refine g_iload hx 633 (i := 4) 1 dL_law_633 rfl ?_
    refine g_iconst hx 635 (1) dL_law_635 rfl ?_
    refine g_iadd hx 636 dL_law_636 ?_
    refine g_sld hx 637 hs (vpi (j := 1) hi hL (by decide) _ rfl) dL_law_637 ?_
    refine g_aload_n hx 638 (i := 0) 2 dL_law_638 rfl rfl ?_
    refine g_iload hx 639 (i := 4) 1 dL_law_639 rfl ?_
    refine g_iconst hx 641 (2) dL_law_641 rfl ?_
    refine g_iadd hx 642 dL_law_642 ?_
    refine g_sld hx 643 hs (vpi (j := 2) hi hL (by decide) _ rfl) dL_law_643 ?_
    refine G.heap (LW.md (ad := ad) hlay) ?_
    refine g_callVr hx (c_Md_reader (ρ := 0) (by decide) l g (putW (hset σ o (eJ 1 (vp_updL f 0 v.toInt64))) B ae W) T (owF ad) M (xs (nI i + 1).toNatClampNeg) (xs (nI i + 2).toNatClampNeg) e2) lkl_118 arl_118 (pM_o (putW (hset σ o (eJ 1 (vp_updL f 0 v.toInt64))) B ae W) T (owF ad) 0 M) (T := TX11) (N := 30) rfl (As := [.int (xs (nI i + 1).toNatClampNeg), .int (xs (nI i + 2).toNatClampNeg)]) (rest := []) rfl (Nat.le_of_ble_eq_true rfl) ⟨Nat.le_of_ble_eq_true rfl, Nat.le_of_ble_eq_true rfl⟩ ⟨rfl, rfl⟩ hk dL_law_644 ?_
    refine G.heap (LW.md (ad := ad) hlay).symm ?_
    refine g_istore hx 647 (i := 6) [(6, .int v), (5, .int (0)), (4, .int (nI i)), (0, .ref b), (1, .ref B), (2, .ref T), (3, .ref o)] dL_law_647 (by decide) rfl ?_
    refine g_aload_n hx 649 (i := 2) 5 dL_law_649 rfl rfl ?_
    refine G.heap (LW.md (ad := ad) hlay) ?_
    refine g_callVr hx (c_Md_thrown (ρ := 0) (by decide) l g (putW (hset σ o (eJ 1 (vp_updL f 0 v.toInt64))) B ae W) T (owF ad) M1 rfl) lkl_90 arl_90 (pM_o (putW (hset σ o (eJ 1 (vp_updL f 0 v.toInt64))) B ae W) T (owF ad) 0 M1) (T := TX11) (N := 30) rfl (As := []) (rest := []) rfl (Nat.le_of_ble_eq_true rfl) ⟨Nat.le_of_ble_eq_true rfl, Nat.le_of_ble_eq_true rfl⟩ ⟨rfl, rfl⟩ hk dL_law_650 ?_
    refine G.heap (LW.md (ad := ad) hlay).symm ?_
    refine g_iload hx 653 (i := 5) 1 dL_law_653 rfl ?_
    refine g_icmp_eq hx 655 660 dL_law_655 (by decide) (fun _ => ?_) (fun hq => absurd e9 hq)
    refine g_iload hx 660 (i := 5) 1 dL_law_660 rfl ?_
    refine g_if_ne hx 662 677 dL_law_662 (by decide) (fun hq => absurd rfl hq) (fun _ => ?_)
    refine g_aload_n hx 665 (i := 3) 6 dL_law_665 rfl rfl ?_
    refine g_iconst hx 666 (0) dL_law_666 rfl ?_
    refine g_lald hx 667 (pW_out _ B ae W hlay.1 |>.trans (LW.out hlay (hset_self _ _ _))) vp01 dL_law_667 ?_
    refine g_iload hx 668 (i := 6) 0 dL_law_668 rfl ?_
    refine g_i2l hx 670 dL_law_670 ?_
    refine g_lcmp hx 671 dL_law_671 ?_
    refine g_if_eq hx 672 677 dL_law_672 (by decide) (fun _ => ?_) (fun hq => absurd (cmp_ll _) hq)
    refine g_goto hx 677 2042 dL_law_677 (by decide) ?_
    refine g_ls [2, 3, 4, 5, 6] [(4, .int (nI i)), (0, .ref b), (1, .ref B), (2, .ref T), (3, .ref o)] rfl ?_
    exact next _ _ _ _ hw (hset_self _ _ _)
set_option maxRecDepth 100000 in
set_option maxHeartbeats 4000000 in
theorem law_9 {X : Cx} {l : Launch} {g : Gl} {ad ae : Nat → Nat} (hx : Ok X l g RL cL_law 9 room_1) (hC : KAll g ad ae) (hN : KN g) (hl : l.stackTraces = false) {b L B T o i k n : Nat} {xs : Nat → Int32} (hs : Scr g b L xs) (hi : i + 6 ≤ L) (hL : L ≤ 3072) (hlay : Lay B T o) (hk : k + 1 ≤ room_1.cells ∧ n + 6 ≤ room_1.slots) {σ : Hp} {W : WM} {M : MdM} {f : Nat → Int64} (h : WRel W M) (ho : σ.2 o = some (eJ 1 f)) (next : LN X B T o ad ae k n [(4, .int (nI i)), (0, .ref b), (1, .ref B), (2, .ref T), (3, .ref o)]) : G X (LW σ B T ad ae W M) k n 680 [(4, .int (nI i)), (0, .ref b), (1, .ref B), (2, .ref T), (3, .ref o)] [] := by
  refine g_aload_n hx 680 (i := 1) 2 dL_law_680 rfl rfl ?_
  refine g_aload_n hx 681 (i := 0) 1 dL_law_681 rfl rfl ?_
  refine g_iload hx 682 (i := 4) 0 dL_law_682 rfl ?_
  refine g_iconst hx 684 (1) dL_law_684 rfl ?_
  refine g_iadd hx 685 dL_law_685 ?_
  refine g_sld hx 686 hs (vpi (j := 1) hi hL (by decide) _ rfl) dL_law_686 ?_
  refine g_aload_n hx 687 (i := 0) 1 dL_law_687 rfl rfl ?_
  refine g_iload hx 688 (i := 4) 0 dL_law_688 rfl ?_
  refine g_iconst hx 690 (2) dL_law_690 rfl ?_
  refine g_iadd hx 691 dL_law_691 ?_
  refine g_sld hx 692 hs (vpi (j := 2) hi hL (by decide) _ rfl) dL_law_692 ?_
  refine g_aload_n hx 693 (i := 3) 4 dL_law_693 rfl rfl ?_
  rcases f_waiting h (xs (nI i + 1).toNatClampNeg) (xs (nI i + 2).toNatClampNeg) with ⟨kx, b9, M1, e1, e2, e9, hw⟩ | ⟨v, M1, e1, e2, e9, hw⟩
  · refine g_callW hx (c_L_waiting l g hC hN hl (putMd σ T (owF ad) 0 M) B W (xs (nI i + 1).toNatClampNeg) (xs (nI i + 2).toNatClampNeg) (o := o) (LW.out hlay ho) hlay.1 e1 (fun k hk9 => ki_waiting W (xs (nI i + 1).toNatClampNeg) (xs (nI i + 2).toNatClampNeg) k (e1.trans (congrArg some hk9)))) lkw_waiting arw_waiting (As := [.ref B, .int (xs (nI i + 1).toNatClampNeg), .int (xs (nI i + 2).toNatClampNeg), .ref o]) (rest := []) rfl (Nat.le_of_ble_eq_true rfl) ⟨Nat.le_of_ble_eq_true rfl, Nat.le_of_ble_eq_true rfl⟩ hk dL_law_694 (fun v9 σ9 hp => ?_)
    obtain ⟨k9, h9, rfl, h8⟩ := Or.resolve_right hp (fun q => by obtain ⟨u9, h9, -, -⟩ := q; cases h9)
    cases h9
    obtain ⟨z, σm⟩ := σ9
    cases h8
    refine G.heap (show _ = LW (z, σ.2) B T ad ae W M from rfl) ?_
    refine g_istore hx 697 (i := 5) [(5, .int (ci1 kx)), (4, .int (nI i)), (0, .ref b), (1, .ref B), (2, .ref T), (3, .ref o)] dL_law_697 (by decide) rfl ?_
    refine g_aload_n hx 699 (i := 2) 4 dL_law_699 rfl rfl ?_
    refine g_aload_n hx 700 (i := 0) 2 dL_law_700 rfl rfl ?_
    refine g_iload hx 701 (i := 4) 1 dL_law_701 rfl ?_
    refine g_iconst hx 703 (1) dL_law_703 rfl ?_
    refine g_iadd hx 704 dL_law_704 ?_
    refine g_sld hx 705 hs (vpi (j := 1) hi hL (by decide) _ rfl) dL_law_705 ?_
    refine g_aload_n hx 706 (i := 0) 2 dL_law_706 rfl rfl ?_
    refine g_iload hx 707 (i := 4) 1 dL_law_707 rfl ?_
    refine g_iconst hx 709 (2) dL_law_709 rfl ?_
    refine g_iadd hx 710 dL_law_710 ?_
    refine g_sld hx 711 hs (vpi (j := 2) hi hL (by decide) _ rfl) dL_law_711 ?_
    refine G.heap (LW.md (ad := ad) hlay) ?_
    refine g_callVr hx (c_Md_waiting (ρ := 0) (by decide) l g (putW (z, σ.2) B ae W) T (owF ad) M (xs (nI i + 1).toNatClampNeg) (xs (nI i + 2).toNatClampNeg) e2) lkl_121 arl_121 (pM_o (putW (z, σ.2) B ae W) T (owF ad) 0 M) (T := TX11) (N := 30) rfl (As := [.int (xs (nI i + 1).toNatClampNeg), .int (xs (nI i + 2).toNatClampNeg)]) (rest := []) rfl (Nat.le_of_ble_eq_true rfl) ⟨Nat.le_of_ble_eq_true rfl, Nat.le_of_ble_eq_true rfl⟩ ⟨rfl, rfl⟩ hk dL_law_712 ?_
    refine G.heap (LW.md (ad := ad) hlay).symm ?_
    refine g_istore hx 715 (i := 6) [(6, .int b9), (5, .int (ci1 kx)), (4, .int (nI i)), (0, .ref b), (1, .ref B), (2, .ref T), (3, .ref o)] dL_law_715 (by decide) rfl ?_
    refine g_aload_n hx 717 (i := 2) 5 dL_law_717 rfl rfl ?_
    refine G.heap (LW.md (ad := ad) hlay) ?_
    refine g_callVr hx (c_Md_thrown (ρ := 0) (by decide) l g (putW (z, σ.2) B ae W) T (owF ad) M1 rfl) lkl_90 arl_90 (pM_o (putW (z, σ.2) B ae W) T (owF ad) 0 M1) (T := TX11) (N := 30) rfl (As := []) (rest := []) rfl (Nat.le_of_ble_eq_true rfl) ⟨Nat.le_of_ble_eq_true rfl, Nat.le_of_ble_eq_true rfl⟩ ⟨rfl, rfl⟩ hk dL_law_718 ?_
    refine G.heap (LW.md (ad := ad) hlay).symm ?_
    refine g_iload hx 721 (i := 5) 1 dL_law_721 rfl ?_
    refine g_icmp_eq hx 723 728 dL_law_723 (by decide) (fun _ => ?_) (fun hq => absurd e9 hq)
    refine g_iload hx 728 (i := 5) 1 dL_law_728 rfl ?_
    refine g_if_ne hx 730 745 dL_law_730 (by decide) (fun _ => ?_) (fun hq => absurd hq (ci_n _))
    refine g_goto hx 745 2042 dL_law_745 (by decide) ?_
    refine g_ls [2, 3, 4, 5, 6] [(4, .int (nI i)), (0, .ref b), (1, .ref B), (2, .ref T), (3, .ref o)] rfl ?_
    exact next _ _ _ _ hw ho
  · refine g_callW hx (c_L_waiting l g hC hN hl (putMd σ T (owF ad) 0 M) B W (xs (nI i + 1).toNatClampNeg) (xs (nI i + 2).toNatClampNeg) (o := o) (LW.out hlay ho) hlay.1 e1 (fun k hk9 => ki_waiting W (xs (nI i + 1).toNatClampNeg) (xs (nI i + 2).toNatClampNeg) k (e1.trans (congrArg some hk9)))) lkw_waiting arw_waiting (As := [.ref B, .int (xs (nI i + 1).toNatClampNeg), .int (xs (nI i + 2).toNatClampNeg), .ref o]) (rest := []) rfl (Nat.le_of_ble_eq_true rfl) ⟨Nat.le_of_ble_eq_true rfl, Nat.le_of_ble_eq_true rfl⟩ hk dL_law_694 (fun v9 σ9 hp => ?_)
    obtain ⟨u9, h9, rfl, rfl⟩ := Or.resolve_left hp (fun q => by obtain ⟨k9, h9, -, -⟩ := q; cases h9)
    cases h9
    refine G.heap (LW.set hlay _) ?_
    refine g_istore hx 697 (i := 5) [(5, .int (0)), (4, .int (nI i)), (0, .ref b), (1, .ref B), (2, .ref T), (3, .ref o)] dL_law_697 (by decide) rfl ?_
    refine g_aload_n hx 699 (i := 2) 4 dL_law_699 rfl rfl ?_
    refine g_aload_n hx 700 (i := 0) 2 dL_law_700 rfl rfl ?_
    refine g_iload hx 701 (i := 4) 1 dL_law_701 rfl ?_
    refine g_iconst hx 703 (1) dL_law_703 rfl ?_
    refine g_iadd hx 704 dL_law_704 ?_
    refine g_sld hx 705 hs (vpi (j := 1) hi hL (by decide) _ rfl) dL_law_705 ?_
    refine g_aload_n hx 706 (i := 0) 2 dL_law_706 rfl rfl ?_
    refine g_iload hx 707 (i := 4) 1 dL_law_707 rfl ?_
    refine g_iconst hx 709 (2) dL_law_709 rfl ?_
    refine g_iadd hx 710 dL_law_710 ?_
    refine g_sld hx 711 hs (vpi (j := 2) hi hL (by decide) _ rfl) dL_law_711 ?_
    refine G.heap (LW.md (ad := ad) hlay) ?_
    refine g_callVr hx (c_Md_waiting (ρ := 0) (by decide) l g (putW (hset σ o (eJ 1 (vp_updL f 0 v.toInt64))) B ae W) T (owF ad) M (xs (nI i + 1).toNatClampNeg) (xs (nI i + 2).toNatClampNeg) e2) lkl_121 arl_121 (pM_o (putW (hset σ o (eJ 1 (vp_updL f 0 v.toInt64))) B ae W) T (owF ad) 0 M) (T := TX11) (N := 30) rfl (As := [.int (xs (nI i + 1).toNatClampNeg), .int (xs (nI i + 2).toNatClampNeg)]) (rest := []) rfl (Nat.le_of_ble_eq_true rfl) ⟨Nat.le_of_ble_eq_true rfl, Nat.le_of_ble_eq_true rfl⟩ ⟨rfl, rfl⟩ hk dL_law_712 ?_
    refine G.heap (LW.md (ad := ad) hlay).symm ?_
    refine g_istore hx 715 (i := 6) [(6, .int v), (5, .int (0)), (4, .int (nI i)), (0, .ref b), (1, .ref B), (2, .ref T), (3, .ref o)] dL_law_715 (by decide) rfl ?_
    refine g_aload_n hx 717 (i := 2) 5 dL_law_717 rfl rfl ?_
    refine G.heap (LW.md (ad := ad) hlay) ?_
    refine g_callVr hx (c_Md_thrown (ρ := 0) (by decide) l g (putW (hset σ o (eJ 1 (vp_updL f 0 v.toInt64))) B ae W) T (owF ad) M1 rfl) lkl_90 arl_90 (pM_o (putW (hset σ o (eJ 1 (vp_updL f 0 v.toInt64))) B ae W) T (owF ad) 0 M1) (T := TX11) (N := 30) rfl (As := []) (rest := []) rfl (Nat.le_of_ble_eq_true rfl) ⟨Nat.le_of_ble_eq_true rfl, Nat.le_of_ble_eq_true rfl⟩ ⟨rfl, rfl⟩ hk dL_law_718 ?_
    refine G.heap (LW.md (ad := ad) hlay).symm ?_
    refine g_iload hx 721 (i := 5) 1 dL_law_721 rfl ?_
    refine g_icmp_eq hx 723 728 dL_law_723 (by decide) (fun _ => ?_) (fun hq => absurd e9 hq)
    refine g_iload hx 728 (i := 5) 1 dL_law_728 rfl ?_
    refine g_if_ne hx 730 745 dL_law_730 (by decide) (fun hq => absurd rfl hq) (fun _ => ?_)
    refine g_aload_n hx 733 (i := 3) 6 dL_law_733 rfl rfl ?_
    refine g_iconst hx 734 (0) dL_law_734 rfl ?_
    refine g_lald hx 735 (pW_out _ B ae W hlay.1 |>.trans (LW.out hlay (hset_self _ _ _))) vp01 dL_law_735 ?_
    refine g_iload hx 736 (i := 6) 0 dL_law_736 rfl ?_
    refine g_i2l hx 738 dL_law_738 ?_
    refine g_lcmp hx 739 dL_law_739 ?_
    refine g_if_eq hx 740 745 dL_law_740 (by decide) (fun _ => ?_) (fun hq => absurd (cmp_ll _) hq)
    refine g_goto hx 745 2042 dL_law_745 (by decide) ?_
    refine g_ls [2, 3, 4, 5, 6] [(4, .int (nI i)), (0, .ref b), (1, .ref B), (2, .ref T), (3, .ref o)] rfl ?_
    exact next _ _ _ _ hw (hset_self _ _ _)
set_option maxRecDepth 100000 in
set_option maxHeartbeats 4000000 in
theorem law_10 {X : Cx} {l : Launch} {g : Gl} {ad ae : Nat → Nat} (hx : Ok X l g RL cL_law 9 room_1) (hC : KAll g ad ae) (hN : KN g) (hl : l.stackTraces = false) {b L B T o i k n : Nat} {xs : Nat → Int32} (hs : Scr g b L xs) (hi : i + 6 ≤ L) (hL : L ≤ 3072) (hlay : Lay B T o) (hk : k + 1 ≤ room_1.cells ∧ n + 6 ≤ room_1.slots) {σ : Hp} {W : WM} {M : MdM} {f : Nat → Int64} (h : WRel W M) (ho : σ.2 o = some (eJ 1 f)) (next : LN X B T o ad ae k n [(4, .int (nI i)), (0, .ref b), (1, .ref B), (2, .ref T), (3, .ref o)]) : G X (LW σ B T ad ae W M) k n 748 [(4, .int (nI i)), (0, .ref b), (1, .ref B), (2, .ref T), (3, .ref o)] [] := by
  obtain ⟨v, M1, e1, e2, hw⟩ := f_gap h
  refine g_aload_n hx 748 (i := 1) 2 dL_law_748 rfl rfl ?_
  refine g_callVr hx (c_SA_gap l g hC (putMd σ T (owF ad) 0 M) B W e1) lkl_122 arl_122 (pW (putMd σ T (owF ad) 0 M) B ae W 0 (by decide)) (T := TX10) (N := 11) rfl (As := []) (rest := []) rfl (Nat.le_of_ble_eq_true rfl) ⟨Nat.le_of_ble_eq_true rfl, Nat.le_of_ble_eq_true rfl⟩ ⟨rfl, rfl⟩ ⟨Nat.le_of_succ_le hk.1, Nat.le_trans (Nat.le_add_right _ 6) hk.2⟩ dL_law_749 ?_
  refine g_aload_n hx 752 (i := 2) 3 dL_law_752 rfl rfl ?_
  refine G.heap (LW.md (ad := ad) hlay) ?_
  refine g_callVr hx (c_Md_gap (ρ := 0) (by decide) l g (putW σ B ae W) T (owF ad) M e2) lkl_125 arl_125 (pM_o (putW σ B ae W) T (owF ad) 0 M) (T := TX11) (N := 30) rfl (As := []) (rest := [.int v]) rfl (Nat.le_of_ble_eq_true rfl) ⟨Nat.le_of_ble_eq_true rfl, Nat.le_of_ble_eq_true rfl⟩ ⟨rfl, rfl⟩ ⟨Nat.le_of_succ_le hk.1, Nat.le_trans (Nat.le_add_right _ 6) hk.2⟩ dL_law_753 ?_
  refine G.heap (LW.md (ad := ad) hlay).symm ?_
  exact g_icmp_eq hx 756 2042 dL_law_756 (by decide) (fun _ => (g_widen (Nat.le_succ _) (Nat.le_add_right _ _) (next _ _ _ _ hw ho))) (fun hq => absurd rfl hq)
set_option maxRecDepth 100000 in
set_option maxHeartbeats 4000000 in
theorem law_11 {X : Cx} {l : Launch} {g : Gl} {ad ae : Nat → Nat} (hx : Ok X l g RL cL_law 9 room_1) (hC : KAll g ad ae) (hN : KN g) (hl : l.stackTraces = false) {b L B T o i k n : Nat} {xs : Nat → Int32} (hs : Scr g b L xs) (hi : i + 6 ≤ L) (hL : L ≤ 3072) (hlay : Lay B T o) (hk : k + 1 ≤ room_1.cells ∧ n + 6 ≤ room_1.slots) {σ : Hp} {W : WM} {M : MdM} {f : Nat → Int64} (h : WRel W M) (ho : σ.2 o = some (eJ 1 f)) (next : LN X B T o ad ae k n [(4, .int (nI i)), (0, .ref b), (1, .ref B), (2, .ref T), (3, .ref o)]) : G X (LW σ B T ad ae W M) k n 761 [(4, .int (nI i)), (0, .ref b), (1, .ref B), (2, .ref T), (3, .ref o)] [] := by
  obtain ⟨v, W1, M1, e1, e2, hw⟩ := f_found h (xs (nI i + 1).toNatClampNeg)
  refine g_aload_n hx 761 (i := 1) 2 dL_law_761 rfl rfl ?_
  refine g_aload_n hx 762 (i := 0) 1 dL_law_762 rfl rfl ?_
  refine g_iload hx 763 (i := 4) 0 dL_law_763 rfl ?_
  refine g_iconst hx 765 (1) dL_law_765 rfl ?_
  refine g_iadd hx 766 dL_law_766 ?_
  refine g_sld hx 767 hs (vpi (j := 1) hi hL (by decide) _ rfl) dL_law_767 ?_
  refine g_callVr hx (c_SA_found l g hC (putMd σ T (owF ad) 0 M) B W (xs (nI i + 1).toNatClampNeg) e1) lkl_126 arl_126 (pW (putMd σ T (owF ad) 0 M) B ae W 0 (by decide)) (T := TX10) (N := 11) rfl (As := [.int (xs (nI i + 1).toNatClampNeg)]) (rest := []) rfl (Nat.le_of_ble_eq_true rfl) ⟨Nat.le_of_ble_eq_true rfl, Nat.le_of_ble_eq_true rfl⟩ ⟨rfl, rfl⟩ ⟨Nat.le_of_succ_le hk.1, Nat.le_trans (Nat.le_add_right _ 6) hk.2⟩ dL_law_768 ?_
  refine g_aload_n hx 771 (i := 2) 3 dL_law_771 rfl rfl ?_
  refine g_aload_n hx 772 (i := 0) 1 dL_law_772 rfl rfl ?_
  refine g_iload hx 773 (i := 4) 0 dL_law_773 rfl ?_
  refine g_iconst hx 775 (1) dL_law_775 rfl ?_
  refine g_iadd hx 776 dL_law_776 ?_
  refine g_sld hx 777 hs (vpi (j := 1) hi hL (by decide) _ rfl) dL_law_777 ?_
  refine G.heap (LW.md (ad := ad) hlay) ?_
  refine g_callVr hx (c_Md_found (ρ := 0) (by decide) l g (putW σ B ae W1) T (owF ad) M (xs (nI i + 1).toNatClampNeg) e2) lkl_129 arl_129 (pM_o (putW σ B ae W1) T (owF ad) 0 M) (T := TX11) (N := 30) rfl (As := [.int (xs (nI i + 1).toNatClampNeg)]) (rest := [.int v]) rfl (Nat.le_of_ble_eq_true rfl) ⟨Nat.le_of_ble_eq_true rfl, Nat.le_of_ble_eq_true rfl⟩ ⟨rfl, rfl⟩ ⟨Nat.le_of_succ_le hk.1, Nat.le_trans (Nat.le_add_right _ 6) hk.2⟩ dL_law_778 ?_
  refine G.heap (LW.md (ad := ad) hlay).symm ?_
  exact g_icmp_eq hx 781 2042 dL_law_781 (by decide) (fun _ => (g_widen (Nat.le_succ _) (Nat.le_add_right _ _) (next _ _ _ _ hw ho))) (fun hq => absurd rfl hq)
