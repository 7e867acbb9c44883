def M00 : MdM := (fun k => if k = 25 then -1 else 0, fun _ _ => 0)
def Md_init : Option MdM := Option.bind (Md_begin 0 M00 3 2 2 2) fun M_1621 => Option.bind (Md_addFolder 0 M_1621 10 0) fun M_1622 => Option.bind (Md_addFolder 0 M_1622 20 0) fun M_1623 => Option.bind (Md_addFolder 0 M_1623 30 4) fun M_1624 => Option.bind (Md_addFolder 0 M_1624 50 0) fun M_1625 => Option.bind (Md_addFolder 0 M_1625 40 0) fun M_1626 => some (M_1626)
set_option maxRecDepth 100000 in
set_option maxHeartbeats 4000000 in
theorem w_Md_init2 {ad : Nat → Nat} {X : Cx} {l : Launch} {g : Gl} (hC : KS g ad) (hx : Ok X l g RX11 cX11_init 1 md_Md_init.rm) {σ : Hp} {T : Nat} {r : MdM} (hR : Ret X (rs none (putMd σ T (owF ad) 0 r)) md_Md_init.rm.cells md_Md_init.rm.slots none) (hr : Md_init = some r) : G X (putMd σ T (owF ad) 0 M00) md_Md_init.rm.cells md_Md_init.rm.slots 165 [(0, .ref T)] [] := by
  unfold Md_init at hr
  refine g_aload_n hx 165 (i := 0) 0 dX11_init_165 rfl rfl ?_
  refine g_iconst hx 166 (3) dX11_init_166 rfl ?_
  refine g_iconst hx 167 (2) dX11_init_167 rfl ?_
  refine g_iconst hx 168 (2) dX11_init_168 rfl ?_
  refine g_iconst hx 169 (2) dX11_init_169 rfl ?_
  obtain ⟨M_1621, eM_1621, hr⟩ := bind_e hr
  refine g_callVv hx (c_Md_begin (ρ := 0) (by decide) l g σ T (owF ad) M00 3 2 2 2 eM_1621) lk_X11_73 ar_Md_begin (pM_o σ T (owF ad) 0 M00) (T := TX11) (N := 30) rfl (As := [.int 3, .int 2, .int 2, .int 2]) (rest := []) rfl (Nat.le_of_ble_eq_true rfl) ⟨Nat.le_of_ble_eq_true rfl, Nat.le_of_ble_eq_true rfl⟩ ⟨rfl, rfl⟩ ⟨Nat.le_refl _, Nat.le_refl _⟩ dX11_init_170 ?_
  refine g_aload_n hx 173 (i := 0) 0 dX11_init_173 rfl rfl ?_
  refine g_bipush hx 174 (10) dX11_init_174 rfl ?_
  refine g_iconst hx 176 (0) dX11_init_176 rfl ?_
  obtain ⟨M_1622, eM_1622, hr⟩ := bind_e hr
  refine g_callVv hx (c_Md_addFolder (ρ := 0) (by decide) l g σ T (owF ad) M_1621 10 0 eM_1622) lk_X11_77 ar_Md_addFolder (pM_o σ T (owF ad) 0 M_1621) (T := TX11) (N := 30) rfl (As := [.int 10, .int 0]) (rest := []) rfl (Nat.le_of_ble_eq_true rfl) ⟨Nat.le_of_ble_eq_true rfl, Nat.le_of_ble_eq_true rfl⟩ ⟨rfl, rfl⟩ ⟨Nat.le_refl _, Nat.le_refl _⟩ dX11_init_177 ?_
  refine g_aload_n hx 180 (i := 0) 0 dX11_init_180 rfl rfl ?_
  refine g_bipush hx 181 (20) dX11_init_181 rfl ?_
  refine g_iconst hx 183 (0) dX11_init_183 rfl ?_
  obtain ⟨M_1623, eM_1623, hr⟩ := bind_e hr
  refine g_callVv hx (c_Md_addFolder (ρ := 0) (by decide) l g σ T (owF ad) M_1622 20 0 eM_1623) lk_X11_77 ar_Md_addFolder (pM_o σ T (owF ad) 0 M_1622) (T := TX11) (N := 30) rfl (As := [.int 20, .int 0]) (rest := []) rfl (Nat.le_of_ble_eq_true rfl) ⟨Nat.le_of_ble_eq_true rfl, Nat.le_of_ble_eq_true rfl⟩ ⟨rfl, rfl⟩ ⟨Nat.le_refl _, Nat.le_refl _⟩ dX11_init_184 ?_
  refine g_aload_n hx 187 (i := 0) 0 dX11_init_187 rfl rfl ?_
  refine g_bipush hx 188 (30) dX11_init_188 rfl ?_
  refine g_iconst hx 190 (4) dX11_init_190 rfl ?_
  obtain ⟨M_1624, eM_1624, hr⟩ := bind_e hr
  refine g_callVv hx (c_Md_addFolder (ρ := 0) (by decide) l g σ T (owF ad) M_1623 30 4 eM_1624) lk_X11_77 ar_Md_addFolder (pM_o σ T (owF ad) 0 M_1623) (T := TX11) (N := 30) rfl (As := [.int 30, .int 4]) (rest := []) rfl (Nat.le_of_ble_eq_true rfl) ⟨Nat.le_of_ble_eq_true rfl, Nat.le_of_ble_eq_true rfl⟩ ⟨rfl, rfl⟩ ⟨Nat.le_refl _, Nat.le_refl _⟩ dX11_init_191 ?_
  refine g_aload_n hx 194 (i := 0) 0 dX11_init_194 rfl rfl ?_
  refine g_bipush hx 195 (50) dX11_init_195 rfl ?_
  refine g_iconst hx 197 (0) dX11_init_197 rfl ?_
  obtain ⟨M_1625, eM_1625, hr⟩ := bind_e hr
  refine g_callVv hx (c_Md_addFolder (ρ := 0) (by decide) l g σ T (owF ad) M_1624 50 0 eM_1625) lk_X11_77 ar_Md_addFolder (pM_o σ T (owF ad) 0 M_1624) (T := TX11) (N := 30) rfl (As := [.int 50, .int 0]) (rest := []) rfl (Nat.le_of_ble_eq_true rfl) ⟨Nat.le_of_ble_eq_true rfl, Nat.le_of_ble_eq_true rfl⟩ ⟨rfl, rfl⟩ ⟨Nat.le_refl _, Nat.le_refl _⟩ dX11_init_198 ?_
  refine g_aload_n hx 201 (i := 0) 0 dX11_init_201 rfl rfl ?_
  refine g_bipush hx 202 (40) dX11_init_202 rfl ?_
  refine g_iconst hx 204 (0) dX11_init_204 rfl ?_
  obtain ⟨M_1626, eM_1626, hr⟩ := bind_e hr
  refine g_callVv hx (c_Md_addFolder (ρ := 0) (by decide) l g σ T (owF ad) M_1625 40 0 eM_1626) lk_X11_77 ar_Md_addFolder (pM_o σ T (owF ad) 0 M_1625) (T := TX11) (N := 30) rfl (As := [.int 40, .int 0]) (rest := []) rfl (Nat.le_of_ble_eq_true rfl) ⟨Nat.le_of_ble_eq_true rfl, Nat.le_of_ble_eq_true rfl⟩ ⟨rfl, rfl⟩ ⟨Nat.le_refl _, Nat.le_refl _⟩ dX11_init_205 ?_
  exact g_vret hx hR 208 dX11_init_208 ⟨rfl, by rw [← Option.some.inj hr] <;> rfl⟩
theorem mdE0_W (τ : Hp) (ad : Nat → Nat) : hset (hadl τ (mdE0 τ ad)) (τ.1 + 13) (eR 4 7 (owF ad)) = putMd (τ.1 + 14, τ.2) τ.1 (owF ad) 0 M00 := by
  refine Prod.ext rfl (funext fun q => ?_)
  show (if q = τ.1 + 13 then some (eR 4 7 (owF ad)) else if τ.1 ≤ q ∧ q < τ.1 + 14 then (mdE0 τ ad)[q - τ.1]? else τ.2 q) = (if τ.1 ≤ q ∧ q < τ.1 + 14 then some (mdE τ.1 (owF ad) 0 M00 (q - τ.1)) else τ.2 q)
  by_cases hq : q = τ.1 + 13
  · subst hq
    rw [if_pos rfl, if_pos ⟨by omega, by omega⟩, Nat.add_sub_cancel_left]
    rfl
  · rw [if_neg hq]
    by_cases h3 : τ.1 ≤ q ∧ q < τ.1 + 14
    · rw [if_pos h3, if_pos h3]
      obtain ⟨d, hd, rfl⟩ : ∃ d, d < 13 ∧ q = τ.1 + d := ⟨q - τ.1, by omega, by omega⟩
      rw [Nat.add_sub_cancel_left]
      match d, hd with
      | 0, _ => rfl
      | 1, _ => rfl
      | 2, _ => rfl
      | 3, _ => rfl
      | 4, _ => rfl
      | 5, _ => rfl
      | 6, _ => rfl
      | 7, _ => rfl
      | 8, _ => rfl
      | 9, _ => rfl
      | 10, _ => rfl
      | 11, _ => rfl
      | 12, _ => rfl
    · rw [if_neg h3, if_neg h3]
theorem owF_7 (ad : Nat → Nat) : ∀ j, j < 7 → (va_up (va_up (va_up (va_up (va_up (va_up (va_up (fun _ => none) 0 (some (ad 3))) 1 (some (ad 4))) 2 (some (ad 5))) 3 (some (ad 6))) 4 (some (ad 7))) 5 (some (ad 8))) 6 (some (ad 2))) j = owF ad j := fun j hj => match j, hj with
  | 0, _ => rfl
  | 1, _ => rfl
  | 2, _ => rfl
  | 3, _ => rfl
  | 4, _ => rfl
  | 5, _ => rfl
  | 6, _ => rfl
/-- the reference's constructor -/
theorem c_Md_init {ad : Nat → Nat} (l : Launch) (g : Gl) (hC : KS g ad) (hA : KC g) (τ : Hp) {r : MdM} (hr : Md_init = some r) : MG l g md_Md_init [.ref τ.1] (hadl τ [eO 9 [.null, .null, .null, .null, .null, .null, .null, .null, .int 0, .int 0, .int 0, .int 0, .int 0, .null, .null, .null, .int 0, .null, .int 0, .int 0, .int 0, .int 0, .int 0, .int 0, .int 0, .int 0, .int 0, .null, .null, .int 0]]) (rs none (putMd (τ.1 + 14, τ.2) τ.1 (owF ad) 0 r)) := by
  refine MG.intro (by decide +kernel) (Nat.le_of_ble_eq_true rfl) (fun X hx hR hin => ?_)
  refine g_ls [0] [(0, .ref τ.1)] rfl ?_
  refine w_Md_init hA hC τ hx hin ?_
  refine G.swap (a := τ.1 + 13) (e := eR 4 7 _) (e' := eR 4 7 (owF ad)) (hadl_get τ (mdE0 τ ad) 13 (Nat.le_of_ble_eq_true rfl)) (fun g H he => eR_f (owF_7 ad) he) ?_
  exact G.heap (mdE0_W τ ad) (w_Md_init2 hC hx hR hr)
