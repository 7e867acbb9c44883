/-- the component's constructor -/
theorem c_SA_init {ad ae : Nat → Nat} (l : Launch) (g : Gl) (hC : KAll g ad ae) (hA : KC g) (τ : Hp) {r : WM} (hr : SA_init = some r) : MG l g md_SA_init [.ref τ.1] (hadl τ [eO 8 [.null, .null, .null, .null, .null, .null, .null, .null, .null, .int 0, .int 0]]) (rs none (putW (τ.1 + 437, τ.2) τ.1 ae r)) := by
  refine MG.intro (by decide +kernel) (Nat.le_of_ble_eq_true rfl) (fun X hx hR hin => ?_)
  refine g_ls [0] [(0, .ref τ.1)] rfl ?_
  refine w_SA_init hA τ hx hin ?_
  have hlen : (saE τ).length = 437 := by
    obtain ⟨cs, h1, h2⟩ := saE_tail τ
    rw [h2, List.length_append, h1, stks_len]
  refine G.swap (a := τ.1 + 16) (e := eR 1 9 (hiF (τ.1 + 15) 9)) (e' := eR 1 9 (slF τ.1)) (hadl_get τ (saE τ) 16 (by rw [hlen]; decide)) (fun g H he => eR_f (fun j hj => ?_) he) ?_
  · unfold hiF slF
    rw [if_pos hj]
  · exact G.heap (saE_W τ ae) (w_SA_init2 hC hx hR hr)
