/-! forecasts, operations, undo and snapshot on the whole archive -/
theorem b_true : ∀ {b : Bool}, ¬ b = false → b = true
  | true, _ => rfl
  | false, h => absurd rfl h
theorem ml_tk {l : List Nat} {N : Nat} (h : l.length ≤ N) : (ml l).take N = ml l := List.take_of_length_le (by rw [ml_len]; exact h)
theorem map_tk {α : Type} (φ : α → Int32) {l : List α} {N : Nat} (h : l.length ≤ N) : (l.map φ).take N = l.map φ := List.take_of_length_le (by rw [List.length_map]; exact h)
theorem e_cpy {M N : StM} {A : AS} {d : Nat} (h : Rel M A) (hI : Inv A d) : Rel (St_copyFrom M N) A := by
  have hF := hI.F1; have hR := hI.R1; have h1 := hI.rl; have h2 := hI.tl; have h3 := hI.sc
  refine ⟨h.i0, h.i1, h.i2, h.i3, ?_, ?_, ?_, ?_, ?_, ?_, ?_, ?_, ?_, ?_, ?_, ?_, ?_, ?_⟩
  · show (M.2 0).take 24 = _
    rw [h.l0]; exact tk_rg _ (by omega)
  · show (M.2 1).take 24 = _
    rw [h.l1]; exact tk_rg _ (by omega)
  · show (M.2 2).take 24 = _
    rw [h.l2]; exact tk_rg _ (by omega)
  · show (M.2 3).take 24 = _
    rw [h.l3]; exact tk_rg _ (by omega)
  · show (M.2 4).take 24 = _
    rw [h.l4]; exact tk_rg _ (by omega)
  · show (M.2 5).take 8 = _
    rw [h.l5]; exact tk_rg _ (by omega)
  · show (M.2 6).take 8 = _
    rw [h.l6]; exact tk_rg _ (by omega)
  · show (M.2 7).take 24 = _
    rw [h.l7]; exact ml_tk (by omega)
  · show (M.2 10).take 24 = _
    rw [h.la]; exact ml_tk (by omega)
  · show (M.2 11).take 16 = _
    rw [h.lb]; exact map_tk _ h3
  · show (M.2 12).take 16 = _
    rw [h.lc]; exact map_tk _ h3
  · show (M.2 13).take 16 = _
    rw [h.ld]; exact map_tk _ h3
  · show (M.2 14).take 16 = _
    rw [h.lx]; exact map_tk _ h3
  · show (M.2 15).take 11 = _
    rw [h.lf]; exact tk_rg _ (Nat.le_refl _)
theorem it_add : ∀ (m n : Nat) (A : AS), (itA (m + n) A).2 = (itA n (itA m A).2).2 := by
  intro m
  induction m with
  | zero => intro n A; rw [Nat.zero_add]; rfl
  | succ m ih => intro n A; rw [show m + 1 + n = m + n + 1 by omega]; exact ih n (nxA A).2
def svI (r f : Nat) : Nat → Nat → AS → Option Nat
  | 0, _, _ => none
  | i + 1, k, A => if hasS (nxA A).2 r f = false then some k else svI r f i (k + 1) (nxA A).2
theorem svI_some {r f : Nat} : ∀ (i k : Nat) (A : AS) (q : Nat), svI r f i k A = some q → k ≤ q ∧ q < k + i ∧ hasS (itA (q - k + 1) A).2 r f = false ∧ ∀ j, j < q - k → hasS (itA (j + 1) A).2 r f = true := by
  intro i
  induction i with
  | zero => intro k A q h; cases h
  | succ i ih =>
    intro k A q h
    unfold svI at h
    by_cases h1 : hasS (nxA A).2 r f = false
    · rw [if_pos h1] at h
      cases h
      refine ⟨Nat.le_refl _, by omega, ?_, fun j hj => by omega⟩
      rw [Nat.sub_self]; exact h1
    · rw [if_neg h1] at h
      obtain ⟨a, b, e, g⟩ := ih (k + 1) (nxA A).2 q h
      refine ⟨by omega, by omega, ?_, fun j hj => ?_⟩
      · rw [show q - k + 1 = q - (k + 1) + 1 + 1 by omega]; exact e
      · cases j with
        | zero => exact b_true h1
        | succ j => exact g j (by omega)
theorem svI_none {r f : Nat} : ∀ (i k : Nat) (A : AS), svI r f i k A = none → ∀ j, j < i → hasS (itA (j + 1) A).2 r f = true := by
  intro i
  induction i with
  | zero => intro k A h j hj; omega
  | succ i ih =>
    intro k A h j hj
    unfold svI at h
    by_cases h1 : hasS (nxA A).2 r f = false
    · rw [if_pos h1] at h; cases h
    · rw [if_neg h1] at h
      cases j with
      | zero => exact b_true h1
      | succ j => exact ih (k + 1) (nxA A).2 h j (by omega)
theorem nd_cnt {l : List Nat} (h : l.Nodup) (x : Nat) : l.count x = if x ∈ l then 1 else 0 := by
  induction l with
  | nil => rfl
  | cons y l ih =>
    obtain ⟨h1, h2⟩ := List.nodup_cons.mp h
    rw [List.count_cons, ih h2]
    by_cases hy : y = x
    · subst hy
      rw [if_neg h1, if_pos (beq_self_eq_true y), if_pos List.mem_cons_self]
    · rw [if_neg (fun q => hy (beq_iff_eq.mp q)), Nat.add_zero]
      by_cases hx : x ∈ l
      · rw [if_pos hx, if_pos (List.mem_cons_of_mem _ hx)]
      · rw [if_neg hx, if_neg (fun q => by
          rcases List.mem_cons.mp q with q | q
          · exact hy q.symm
          · exact hx q)]
section OpsW
variable {W : WM} {A : AS} {d p c : Nat}
theorem q_missedAfter (h : WR W A p c) (hO : OKs A d) {m : Nat} (hm : m ≤ 99) : ∃ W', SA_missedAfter W (nI m) = some (nI (mis (rmk A.mk (sws A.mk m A.row).2)), W') ∧ WR W' A p c ∧ Qt W W' := by
  have hR := e_cpy (N := W.1 10) h.1 hO.1
  have hS := Rw_swap_eq (hR.rm hO.1) (most := m) (by omega)
  have hR2 : Rel (setL (St_copyFrom (W.1 9) (W.1 10)) 7 (ml (sws A.mk m A.row).2)) (roA A (sws A.mk m A.row).2 A.ac) := ⟨hR.i0, hR.i1, hR.i2, hR.i3, hR.l0, hR.l1, hR.l2, hR.l3, hR.l4, hR.l5, hR.l6, (rfl), hR.la, hR.lb, hR.lc, hR.ld, hR.lx, hR.lf⟩
  have hO2 := i_ro hO (sws_mem A.mk m A.row) (ac := A.ac) rfl rfl rfl
  obtain ⟨L, e⟩ := Rw_missed_eq (hR2.rm hO2.1)
  unfold SA_missedAfter
  rw [if_neg (q_neg (by omega)), if_pos (show nI m ≤ 99 from (q_le (b := 99) (by omega) (by omega)).mpr hm)]
  simp only [lt']
  rw [hS]
  simp only [Option.bind_some]
  rw [e]
  have hq : ∀ X Y Z : StM, Qt W (setS (setS (setS W 10 X) 10 Y) 10 Z) := fun X Y Z => ⟨fun i _ h10 => (s9_o _ _ h10).trans ((s9_o _ _ h10).trans (s9_o _ _ h10)), rfl⟩
  exact ⟨_, rfl, h.qt (hq _ _ _) h.1, hq _ _ _⟩
theorem q_servedBy (h : WR W A p c) (hO : OKs A d) {n : Nat} (hn : n ≤ 60) (hd : d + n ≤ 1000) : ∃ W', SA_servedBy W (nI n) = some (nI (itA n A).1, W') ∧ WR W' A p c ∧ Qt W W' := by
  have hR := e_cpy (N := W.1 10) h.1 hO.1
  have hdy := hO.1.dy
  obtain ⟨M', e, -⟩ := e_pass hR hO hn hd (L := 1059) (by omega) (by omega)
  unfold SA_servedBy
  rw [if_neg (q_neg (by omega)), if_pos (show nI n ≤ 60 from (q_le (b := 60) (by omega) (by omega)).mpr hn)]
  simp only [lt']
  rw [show (1059 : Int32) = nI 1059 from rfl, e]
  have hq : ∀ X Y : StM, Qt W (setS (setS W 10 X) 10 Y) := fun X Y => ⟨fun i _ h10 => (s9_o _ _ h10).trans (s9_o _ _ h10), rfl⟩
  exact ⟨_, rfl, h.qt (hq _ _) h.1, hq _ _⟩
theorem q_waitingIn (h : WR W A p c) (hO : OKs A d) {n : Nat} (hn : n ≤ 60) (hd : d + n ≤ 1000) : ∃ W', SA_waitingIn W (nI n) = some (nI (itA n A).2.sl.length, W') ∧ WR W' A p c ∧ Qt W W' := by
  have hR := e_cpy (N := W.1 10) h.1 hO.1
  have hdy := hO.1.dy
  obtain ⟨M', e, hR2⟩ := e_pass hR hO hn hd (L := 1059) (by omega) (by omega)
  unfold SA_waitingIn
  rw [if_neg (q_neg (by omega)), if_pos (show nI n ≤ 60 from (q_le (b := 60) (by omega) (by omega)).mpr hn)]
  simp only [lt']
  rw [show (1059 : Int32) = nI 1059 from rfl, e]
  have hq : ∀ X Y : StM, Qt W (setS (setS W 10 X) 10 Y) := fun X Y => ⟨fun i _ h10 => (s9_o _ _ h10).trans (s9_o _ _ h10), rfl⟩
  exact ⟨_, congrArg some (Prod.ext (e_cnt_sl hR2) rfl), h.qt (hq _ _) h.1, hq _ _⟩
theorem w_servedIn {r f : Nat} (hr : r < 1000) (hf : f < 1000) (p1 : Int32) : ∀ (i fuel k : Nat) (V : WM) (A : AS) (d : Nat), k + i = 61 → i < fuel → Rel (V.1 10) A → OKs A d → d + i ≤ 1000 → ∃ V', SA_servedIn_L60 fuel V p1 (nI r) (nI f) (nI k) = some (optI (svI r f i k A), V') ∧ (∀ j, j ≠ 10 → V'.1 j = V.1 j) ∧ V'.2 = V.2 := by
  intro i
  induction i with
  | zero =>
    intro fuel k V A d hk hf' h hO hd
    obtain ⟨fuel, rfl⟩ : ∃ k, fuel = k + 1 := ⟨fuel - 1, by omega⟩
    unfold SA_servedIn_L60
    rw [if_pos (show 60 < nI k from (q_lt (a := 60) (by omega) (by omega)).mpr (by omega))]
    exact ⟨V, rfl, fun _ _ => rfl, rfl⟩
  | succ i ih =>
    intro fuel k V A d hk hf' h hO hd
    obtain ⟨fuel, rfl⟩ : ∃ k, fuel = k + 1 := ⟨fuel - 1, by omega⟩
    unfold SA_servedIn_L60 svI
    rw [if_neg (show ¬ 60 < nI k from fun q => by have := (q_lt (a := 60) (by omega) (by omega)).mp q; omega)]
    obtain ⟨M1, e1, h1⟩ := e_nx h hO (by omega)
    have hO1 := (i_nx hO).1
    rw [e1]
    simp only [Option.bind_some]
    rcases e_pf h1 hO1.1 hr hf with ⟨h2, h3⟩ | ⟨q, x, hq, h2, h3, h4⟩
    · rw [h3]
      simp only [Option.bind_some]
      rw [if_pos True.intro, if_pos h2]
      exact ⟨_, rfl, fun j hj => s9_o _ _ hj, rfl⟩
    · have hql := (sp_at hO1.1 hq).1; have hc := hO1.1.sc
      rw [h4]
      simp only [Option.bind_some]
      rw [if_neg (q_m1 (by omega)), if_neg (show ¬ hasS (nxA A).2 r f = false from fun z => by rw [hasS_iff.mpr ⟨x, List.mem_of_getElem? hq, h2, h3⟩] at z; cases z), nI_1]
      obtain ⟨V', e2, g1, g2⟩ := ih fuel (k + 1) (setS V 10 M1) (nxA A).2 (d + 1) (by omega) (by omega) (by rw [show (setS V 10 M1).1 10 = M1 from rfl]; exact h1) hO1 (by omega)
      exact ⟨V', e2, fun j hj => (g1 j hj).trans (s9_o _ _ hj), g2⟩
theorem q_servedIn (h : WR W A p c) (hO : OKs A d) (hd : d + 60 ≤ 1000) {q : Nat} {x : Sp} (hq : A.sl[q]? = some x) : ∃ W', SA_servedIn W (nI q) = some (optI (svI x.r x.f 60 1 A), W') ∧ WR W' A p c ∧ Qt W W' := by
  obtain ⟨hl, hr, hf, -⟩ := sp_at hO.1 hq
  have hR := e_cpy (N := W.1 10) h.1 hO.1
  have hc := hO.1.sc; have hR1 := hO.1.R1; have hF1 := hO.1.F1
  unfold SA_servedIn
  rw [e_slHas h.1 hO.1 (by omega), if_pos hl, if_neg (by decide), h.1.gb hO.1 hq, h.1.gc hO.1 hq]
  simp only [lt']
  obtain ⟨V', e, g1, g2⟩ := w_servedIn (r := x.r) (f := x.f) (by omega) (by omega) (nI q) 60 FU 1 (setS W 10 (St_copyFrom (W.1 9) (W.1 10))) A d (by omega) (by unfold FU; omega) hR hO hd
  have hqt : Qt W V' := ⟨fun i _ h10 => (g1 i h10).trans (s9_o _ _ h10), by rw [g2]; rfl⟩
  exact ⟨V', e, h.qt hqt (by rw [g1 9 (by omega)]; exact h.1), hqt⟩
/-! operations -/
def kp (p c : Nat) : Nat := if c < 8 then p else (p + 1) % 9
def kc (c : Nat) : Nat := if c < 8 then c + 1 else 8
def OpR (W : WM) (A : AS) (p c : Nat) (code : Int32) (A' : AS) (W' : WM) : Prop := (if code < 0 then WR W' A' p c else WR W' A' (kp p c) (kc c)) ∧ Rel (W'.1 ((p + c) % 9)) A ∧ Kp W W'
theorem hix_eq (h7 : W.2.2.1 7 = nI p) (h8 : W.2.2.1 8 = nI c) (hp : p < 9) (hc : c ≤ 8) : hix W = nI ((p + c) % 9) := by
  unfold hix
  rw [h7, h8, nI_add, show (9 : Int32) = nI 9 from rfl, pk_div (by omega) (by omega) (by omega), show nI ((p + c) / 9) * nI 9 = nI ((p + c) / 9 * 9) from (Int32.ofNat_mul _ _).symm, pk_sub (Nat.div_mul_le_self _ _)]
  congr 1
  omega
theorem w_prep (h : WR W A p c) (hI : Inv A d) : ∃ W1, Hi_prepare W = some W1 ∧ W1.1 9 = W.1 9 ∧ Rel (W1.1 ((p + c) % 9)) A ∧ (∀ i, 9 ≤ i → W1.1 i = W.1 i) ∧ W1.2 = W.2 := by
  obtain ⟨h1, h2, h3, h4, h5⟩ := h
  have hm : (p + c) % 9 < 9 := Nat.mod_lt _ (by omega)
  unfold Hi_prepare
  rw [hix_eq h4 h5 h2 h3, if_pos (q_in hm (by omega)), q_cl (by omega)]
  refine ⟨_, rfl, s9_o _ _ (by omega), ?_, fun i hi => s9_o _ _ (by omega), rfl⟩
  show Rel (va_up W.1 ((p + c) % 9) _ ((p + c) % 9)) A
  rw [show ∀ X, va_up W.1 ((p + c) % 9) X ((p + c) % 9) = X from fun X => if_pos rfl]
  exact e_cpy h1 hI
theorem w_op (h : WR W A p c) {W1 : WM} (hp : W1.1 9 = W.1 9 ∧ Rel (W1.1 ((p + c) % 9)) A ∧ (∀ i, 9 ≤ i → W1.1 i = W.1 i) ∧ W1.2 = W.2) {M' : StM} {A' : AS} (hM : Rel M' A') (code : Int32) : ∃ W', (Option.bind (SA_settled (setS W1 9 M') code) fun q => some (q.1, q.2)) = some (code, W') ∧ OpR W A p c code A' W' := by
  obtain ⟨g1, g2, g3, g4⟩ := hp
  obtain ⟨h1, h2, h3, h4, h5⟩ := h
  have hm : (p + c) % 9 < 9 := Nat.mod_lt _ (by omega)
  have e7 : W1.2.2.1 7 = nI p := by rw [g4]; exact h4
  have e8 : W1.2.2.1 8 = nI c := by rw [g4]; exact h5
  have e9 : W1.2.2.1 9 = W.2.2.1 9 := by rw [g4]
  unfold SA_settled OpR
  by_cases h0 : code < 0
  · rw [if_pos h0]
    refine ⟨_, rfl, by rw [if_pos h0]; exact ⟨hM, h2, h3, e7, e8⟩, ?_, g3 11 (by omega), e9⟩
    show Rel (va_up W1.1 9 M' ((p + c) % 9)) A
    rw [show va_up W1.1 9 M' ((p + c) % 9) = W1.1 ((p + c) % 9) from if_neg (by omega)]
    exact g2
  · rw [if_neg h0]
    unfold Hi_keep
    rw [show (setS W1 9 M').2.2.1 8 = nI c from e8, show (setS W1 9 M').2.2.1 7 = nI p from e7]
    unfold kp kc
    by_cases hc : c < 8
    · rw [if_neg (show ¬ (8 : Int32) ≤ nI c from fun q => by have := (q_le (a := 8) (by omega) (by omega)).mp q; omega), if_pos hc, if_pos hc, nI_1]
      refine ⟨_, rfl, by rw [if_neg h0]; exact ⟨hM, h2, hc, e7, rfl⟩, ?_, g3 11 (by omega), e9⟩
      show Rel (va_up W1.1 9 M' ((p + c) % 9)) A
      rw [show va_up W1.1 9 M' ((p + c) % 9) = W1.1 ((p + c) % 9) from if_neg (by omega)]
      exact g2
    · have hc8 : c = 8 := by omega
      rw [if_pos (show (8 : Int32) ≤ nI c from (q_le (a := 8) (by omega) (by omega)).mpr (by omega)), if_neg hc, if_neg hc, nI_1, show (9 : Int32) = nI 9 from rfl, pk_div (by omega) (by omega) (by omega), show nI ((p + 1) / 9) * nI 9 = nI ((p + 1) / 9 * 9) from (Int32.ofNat_mul _ _).symm, pk_sub (Nat.div_mul_le_self _ _), show p + 1 - (p + 1) / 9 * 9 = (p + 1) % 9 by omega]
      have e8' : W1.2.2.1 8 = nI 8 := by rw [e8, hc8]
      refine ⟨_, rfl, by rw [if_neg h0]; exact ⟨hM, Nat.mod_lt _ (by omega), Nat.le_refl _, rfl, e8'⟩, ?_, g3 11 (by omega), e9⟩
      · show Rel (va_up W1.1 9 M' ((p + c) % 9)) A
        rw [show va_up W1.1 9 M' ((p + c) % 9) = W1.1 ((p + c) % 9) from if_neg (by omega)]
        exact g2
theorem o_slip (h : WR W A p c) (hI : Inv A d) {r f : Nat} (hr : r < A.R) (hf : f < A.F) : ∃ W', SA_slip W (nI r) (nI f) = some (if refA A r f = 0 then nI A.sl.length else refA A r f, W') ∧ OpR W A p c (if refA A r f = 0 then nI A.sl.length else refA A r f) (if refA A r f = 0 then slA A r f else A) W' := by
  obtain ⟨W1, e1, hp⟩ := w_prep h hI
  obtain ⟨M', e2, hM⟩ := e_handIn (M := W1.1 9) (by rw [hp.1]; exact h.1) hI hr hf
  unfold SA_slip
  rw [e_hasR h.1 hI hr, e_hasF h.1 hI hf, if_neg (by decide), if_neg (by decide), e1]
  simp only [Option.bind_some]
  rw [e2]
  exact w_op h hp hM _
theorem o_drop (h : WR W A p c) (hI : Inv A d) {q : Nat} (hq : q < 1000) : ∃ W', SA_dropSlip W (nI q) = some (if q < A.sl.length then nI (A.sl.length - 1) else -2, W') ∧ OpR W A p c (if q < A.sl.length then nI (A.sl.length - 1) else -2) (if q < A.sl.length then drA A q else A) W' := by
  obtain ⟨W1, e1, hp⟩ := w_prep h hI
  obtain ⟨M', e2, hM⟩ := e_take (M := W1.1 9) (by rw [hp.1]; exact h.1) hI hq
  unfold SA_dropSlip
  rw [e1]
  simp only [Option.bind_some, lt']
  rw [e2]
  exact w_op h hp hM _
theorem o_give (h : WR W A p c) (hI : Inv A d) {f : Nat} (hf : f < A.F) : ∃ W', SA_giveBack W (nI f) = some (if 0 < A.ho f then hoI (A.ho f) else -2, W') ∧ OpR W A p c (if 0 < A.ho f then hoI (A.ho f) else -2) (if 0 < A.ho f then bbA A f else A) W' := by
  obtain ⟨W1, e1, hp⟩ := w_prep h hI
  obtain ⟨M', e2, hM⟩ := e_bring (M := W1.1 9) (by rw [hp.1]; exact h.1) hI hf
  unfold SA_giveBack
  rw [e_hasF h.1 hI hf, if_neg (by decide), e1]
  simp only [Option.bind_some, lt']
  rw [e2]
  exact w_op h hp hM _
theorem o_days (h : WR W A p c) (hO : OKs A d) {n : Nat} (h1 : 1 ≤ n) (hn : n ≤ 60) (hd : d + n ≤ 999) : ∃ W', SA_days W (nI n) = some (nI (itA n A).1, W') ∧ OpR W A p c (nI (itA n A).1) (itA n A).2 W' := by
  have hdy := hO.1.dy
  obtain ⟨W1, e1, hp⟩ := w_prep h hO.1
  obtain ⟨M', e2, hM⟩ := e_pass (M := W1.1 9) (by rw [hp.1]; exact h.1) hO hn (by omega) (L := 999) (by omega) (by omega)
  unfold SA_days
  rw [if_neg (show ¬ nI n < 1 from fun q => by have := (q_lt (b := 1) (by omega) (by omega)).mp q; omega), if_pos (show nI n ≤ 60 from (q_le (b := 60) (by omega) (by omega)).mpr hn), e1]
  simp only [Option.bind_some]
  rw [show (999 : Int32) = nI 999 from rfl, e2]
  exact w_op h hp hM _
theorem o_misfile (h : WR W A p c) (hI : Inv A d) {f q : Nat} (hf : f < A.F) (hq : q < 1000) : ∃ W', SA_misfile W (nI f) (nI q) = some (if A.st f = 0 then (if q < A.row.length then nI (A.row.idxOf f) else -3) else -2, W') ∧ OpR W A p c (if A.st f = 0 then (if q < A.row.length then nI (A.row.idxOf f) else -3) else -2) (if A.st f = 0 ∧ q < A.row.length then roA A (mvR A.row f q) A.ac else A) W' := by
  obtain ⟨W1, e1, hp⟩ := w_prep h hI
  obtain ⟨M', e2, hM⟩ := e_moveTo (M := W1.1 9) (by rw [hp.1]; exact h.1) hI hf hq
  unfold SA_misfile
  rw [e_hasF h.1 hI hf, if_neg (by decide), e1]
  simp only [Option.bind_some, lt']
  rw [e2]
  exact w_op h hp hM _
theorem o_straighten (h : WR W A p c) (hI : Inv A d) {f : Nat} (hf : f < A.F) : ∃ W', SA_straighten W (nI f) = some (if A.st f = 0 then nI (rnk (rmk A.mk A.row) (A.mk f)) else -2, W') ∧ OpR W A p c (if A.st f = 0 then nI (rnk (rmk A.mk A.row) (A.mk f)) else -2) (if A.st f = 0 then roA A (mvR A.row f (rnk (rmk A.mk A.row) (A.mk f))) A.ac else A) W' := by
  obtain ⟨W1, e1, hp⟩ := w_prep h hI
  obtain ⟨M', e2, hM⟩ := e_toOrder (M := W1.1 9) (by rw [hp.1]; exact h.1) hI hf
  unfold SA_straighten
  rw [e_hasF h.1 hI hf, if_neg (by decide), e1]
  simp only [Option.bind_some]
  rw [e2]
  exact w_op h hp hM _
theorem o_check (h : WR W A p c) (hI : Inv A d) {m : Nat} (h1 : 1 ≤ m) (hm : m ≤ 99) : ∃ W', SA_check W (nI m) = some (nI (sws A.mk m A.row).1, W') ∧ OpR W A p c (nI (sws A.mk m A.row).1) (roA A (sws A.mk m A.row).2 (upd A.ac 9 (A.ac 9 + nI (sws A.mk m A.row).1))) W' := by
  obtain ⟨W1, e1, hp⟩ := w_prep h hI
  obtain ⟨M', e2, hM⟩ := e_swap (M := W1.1 9) (by rw [hp.1]; exact h.1) hI (m := m) (by omega)
  unfold SA_check
  rw [if_neg (show ¬ nI m < 1 from fun q => by have := (q_lt (b := 1) (by omega) (by omega)).mp q; omega), if_pos (show nI m ≤ 99 from (q_le (b := 99) (by omega) (by omega)).mpr hm), e1]
  simp only [Option.bind_some]
  rw [e2]
  exact w_op h hp hM _
theorem o_embargo (h : WR W A p c) (hI : Inv A d) {f v : Nat} (hf : f < A.F) (hv : v ≤ 999) : ∃ W', SA_setEmbargo W (nI f) (nI v) = some (nI (A.em f), W') ∧ OpR W A p c (nI (A.em f)) (cuA A f v) W' := by
  obtain ⟨W1, e1, hp⟩ := w_prep h hI
  obtain ⟨M', e2, hM⟩ := e_until (M := W1.1 9) (by rw [hp.1]; exact h.1) hI hf v
  unfold SA_setEmbargo
  rw [e_hasF h.1 hI hf, if_neg (by decide), if_neg (q_neg (by omega)), if_pos (show nI v ≤ 999 from (q_le (b := 999) (by omega) (by omega)).mpr hv), e1]
  simp only [Option.bind_some, lt']
  rw [e2]
  exact w_op h hp hM _
theorem q_count (h : WR W A p c) : SA_undoCount W = nI c := h.2.2.2.2
theorem o_undo {B : AS} (h : WR W A p (c + 1)) (hs : Rel (W.1 ((p + c) % 9)) B) (hB : Inv B d) : ∃ W', SA_undo W = some (nI c, W') ∧ WR W' B p c ∧ Kp W W' := by
  obtain ⟨h1, h2, h3, h4, h5⟩ := h
  have hm : (p + c) % 9 < 9 := Nat.mod_lt _ (by omega)
  unfold SA_undo Hi_takeBack
  rw [h5, if_neg (show ¬ nI (c + 1) = 0 from fun q => by have := (z0 (by omega)).mp q; omega), nI_pred]
  simp only [lt']
  rw [hix_eq (W := setWI W 8 (nI c)) (p := p) (c := c) h4 rfl h2 (by omega), if_pos (q_in hm (by omega)), q_cl (by omega)]
  simp only [Option.bind_some]
  rw [if_neg (by decide)]
  exact ⟨_, rfl, ⟨e_cpy hs hB, h2, by omega, h4, rfl⟩, rfl, rfl⟩
theorem o_undo0 (h : WR W A p 0) : ∃ W', SA_undo W = some (-1, W') := by
  unfold SA_undo Hi_takeBack
  rw [h.2.2.2.2, if_pos (show nI 0 = 0 from rfl)]
  simp only [Option.bind_some]
  rw [if_pos True.intro]
  exact ⟨_, rfl⟩
theorem o_save (h : WR W A p c) (hI : Inv A d) : WR (SA_saveSnapshot W) A p c ∧ SN (SA_saveSnapshot W) A ∧ ∀ i, i < 9 → (SA_saveSnapshot W).1 i = W.1 i := by
  refine ⟨⟨h.1, h.2.1, h.2.2.1, h.2.2.2.1, h.2.2.2.2⟩, ⟨e_cpy h.1 hI, rfl⟩, fun i hi => s9_o W _ (by omega)⟩
theorem o_restore {B : AS} (h : WR W A p c) (hs : SN W B) (hB : Inv B d) : ∃ W', SA_restoreSnapshot W = (1, W') ∧ WR W' B p 0 ∧ Kp W W' := by
  unfold SA_restoreSnapshot
  rw [hs.2, if_neg (by decide)]
  exact ⟨_, rfl, ⟨e_cpy hs.1 hB, h.2.1, Nat.zero_le _, h.2.2.2.1, rfl⟩, rfl, rfl⟩
/-! the gap, the most asked -/
theorem w_astray (h : Rel (W.1 9) A) (hI : Inv A d) : ∀ (i fuel k : Nat), k + i = A.F → i < fuel → St_foldersAstray_L4 (W.1 9) fuel 0 (nI k) = some 0 := by
  intro i
  induction i with
  | zero =>
    intro fuel k hk hf
    obtain ⟨fuel, rfl⟩ : ∃ k, fuel = k + 1 := ⟨fuel - 1, by omega⟩
    unfold St_foldersAstray_L4
    rw [h.n0, if_pos (show nI A.F ≤ nI k by rw [show k = A.F by omega]; exact Int32.le_refl _)]
  | succ i ih =>
    intro fuel k hk hf
    obtain ⟨fuel, rfl⟩ : ∃ k, fuel = k + 1 := ⟨fuel - 1, by omega⟩
    have hF := hI.F1
    have hk' : k < A.F := by omega
    have h2 := hI.s2 k hk'; have ho := hI.out k hk'; have hr := hI.rw k; have ht := hI.tr k
    unfold St_foldersAstray_L4
    rw [h.n0, if_neg (nI_ge hk' (by omega)), h.l7, h.la, lc_ml hI.rb (by omega), lc_ml hI.tb (by omega), h.g3 hI hk', nd_cnt hI.rn, nd_cnt hI.tn, nI_1]
    simp only [lt']
    have hn := ih fuel (k + 1) (by omega) (by omega)
    rcases (show A.st k = 0 ∨ A.st k = 1 ∨ A.st k = 2 by omega) with e | e | e
    · rw [if_pos (show k ∈ A.row from hr.mpr ⟨hk', e⟩), if_neg (show ¬ k ∈ A.tr from fun q => by have := (ht.mp q).2; omega), if_pos (show hoI (A.ho k) = -1 from (hoI_m1 (hI.hd k hk')).mpr (by omega)), if_pos (show nI 1 + nI 0 = 1 from rfl)]
      exact hn
    · rw [if_neg (show ¬ k ∈ A.row from fun q => by have := (hr.mp q).2; omega), if_neg (show ¬ k ∈ A.tr from fun q => by have := (ht.mp q).2; omega), if_neg (show ¬ hoI (A.ho k) = -1 from fun q => by have := (hoI_m1 (hI.hd k hk')).mp q; omega), if_pos (show nI 0 + nI 0 + 1 = 1 from rfl)]
      exact hn
    · rw [if_neg (show ¬ k ∈ A.row from fun q => by have := (hr.mp q).2; omega), if_pos (show k ∈ A.tr from ht.mpr ⟨hk', e⟩), if_pos (show hoI (A.ho k) = -1 from (hoI_m1 (hI.hd k hk')).mpr (by omega)), if_pos (show nI 0 + nI 1 = 1 from rfl)]
      exact hn
theorem w_above (h : Rel (W.1 9) A) (hI : Inv A d) : ∀ (i fuel k : Nat), k + i = A.R → i < fuel → St_readersAboveLimit_L4 (W.1 9) fuel 0 (nI k) = some 0 := by
  intro i
  induction i with
  | zero =>
    intro fuel k hk hf
    obtain ⟨fuel, rfl⟩ : ∃ k, fuel = k + 1 := ⟨fuel - 1, by omega⟩
    unfold St_readersAboveLimit_L4
    rw [h.n5, if_pos (show nI A.R ≤ nI k by rw [show k = A.R by omega]; exact Int32.le_refl _)]
  | succ i ih =>
    intro fuel k hk hf
    obtain ⟨fuel, rfl⟩ : ∃ k, fuel = k + 1 := ⟨fuel - 1, by omega⟩
    have hR := hI.R1; have hm := hI.m1
    have hk' : k < A.R := by omega
    have hl := hI.hl k hk'
    unfold St_readersAboveLimit_L4
    rw [h.n5, if_neg (nI_ge hk' (by omega)), h.l3, lc_rg, h.i3, sm_congr (g' := fun f => if A.ho f = k + 1 then 1 else 0) (fun f hf => by
      by_cases hh : A.ho f = k + 1
      · rw [if_pos hh, if_pos ((hoI_eq (hI.hd f hf) (by omega)).mpr hh)]
      · rw [if_neg hh, if_neg (fun q => hh ((hoI_eq (hI.hd f hf) (by omega)).mp q))]), ← hI.hv k hk', if_pos ((q_le (by omega) (by omega)).mpr hl), nI_1]
    exact ih fuel (k + 1) (by omega) (by omega)
theorem w_own (h : Rel (W.1 9) A) (hI : Inv A d) : ∀ (i fuel k : Nat), k + i = A.sl.length → i < fuel → St_slipsForOwnFolders_L4 (W.1 9) fuel 0 (nI k) = some 0 := by
  intro i
  induction i with
  | zero =>
    intro fuel k hk hf
    obtain ⟨fuel, rfl⟩ : ∃ k, fuel = k + 1 := ⟨fuel - 1, by omega⟩
    unfold St_slipsForOwnFolders_L4
    rw [e_cnt_sl h, if_pos (show nI A.sl.length ≤ nI k by rw [show k = A.sl.length by omega]; exact Int32.le_refl _)]
  | succ i ih =>
    intro fuel k hk hf
    obtain ⟨fuel, rfl⟩ : ∃ k, fuel = k + 1 := ⟨fuel - 1, by omega⟩
    have hc := hI.sc; have hR := hI.R1
    obtain ⟨x, hx⟩ := sp_ex (A := A) (p := k) (by omega)
    obtain ⟨-, hr, hf', -, -, hh⟩ := sp_at hI hx
    unfold St_slipsForOwnFolders_L4
    rw [e_cnt_sl h, if_neg (nI_ge (by omega) (by omega)), h.gc hI hx, h.gb hI hx, h.g3 hI hf', if_neg (fun q => hh ((hoI_eq (hI.hd _ hf') (by omega)).mp q)), nI_1]
    exact ih fuel (k + 1) (by omega) (by omega)
theorem q_gap (h : Rel (W.1 9) A) (hI : Inv A d) : SA_gap W = some 0 := by
  have e1 := w_astray h hI A.F FU 0 (Nat.zero_add _) (by have := hI.F1; unfold FU; omega)
  have e2 := w_above h hI A.R FU 0 (Nat.zero_add _) (by have := hI.R1; unfold FU; omega)
  have e3 := w_own h hI A.sl.length FU 0 (Nat.zero_add _) (by have := hI.sc; unfold FU; omega)
  unfold SA_gap St_foldersAstray St_readersAboveLimit St_slipsForOwnFolders
  rw [show (0 : Int32) = nI 0 from rfl] at *
  rw [e1]
  simp only [Option.bind_some]
  rw [e2]
  simp only [Option.bind_some]
  rw [e3]
  rfl
theorem w_asked (h : Rel (W.1 9) A) (hI : Inv A d) : ∀ (i fuel k most : Nat) (v : Int32), k + i = A.F → i < fuel → most ≤ 16 → (most = 0 ∧ ∀ g, g < k → cF A g = 0) ∨ 0 ≤ v → ∃ res, SA_mostAsked_L6 W fuel (nI most) v (nI k) = some res ∧ ((∃ g, g < A.F ∧ 0 < cF A g) → 0 ≤ res) := by
  intro i
  induction i with
  | zero =>
    intro fuel k most v hk hf hm hv
    obtain ⟨fuel, rfl⟩ : ∃ k, fuel = k + 1 := ⟨fuel - 1, by omega⟩
    unfold SA_mostAsked_L6
    rw [h.n0, if_pos (show nI A.F ≤ nI k by rw [show k = A.F by omega]; exact Int32.le_refl _)]
    refine ⟨v, rfl, ?_⟩
    rintro ⟨g, h1, h2⟩
    rcases hv with ⟨-, h3⟩ | h3
    · have := h3 g (by omega); omega
    · exact h3
  | succ i ih =>
    intro fuel k most v hk hf hm hv
    obtain ⟨fuel, rfl⟩ : ∃ k, fuel = k + 1 := ⟨fuel - 1, by omega⟩
    have hF := hI.F1; have hc := hI.sc
    have hcf : cF A k ≤ 16 := by
      have : cF A k ≤ (A.sl.map (fun s => s.f)).length := List.count_le_length
      rw [List.length_map] at this
      omega
    unfold SA_mostAsked_L6
    rw [h.n0, if_neg (nI_ge (by omega) (by omega)), cF_eq h hI (by omega), nI_1]
    simp only [lt']
    by_cases h1 : cF A k ≤ most
    · rw [if_pos ((q_le (by omega) (by omega)).mpr h1)]
      refine ih fuel (k + 1) most v (by omega) (by omega) hm ?_
      rcases hv with ⟨h2, h3⟩ | h3
      · refine Or.inl ⟨h2, fun g hg => ?_⟩
        by_cases hgk : g = k
        · subst hgk; omega
        · exact h3 g (by omega)
      · exact Or.inr h3
    · rw [if_neg (fun q => h1 ((q_le (by omega) (by omega)).mp q))]
      exact ih fuel (k + 1) (cF A k) (nI k) (by omega) (by omega) hcf (Or.inr (nI_pos' (by omega)))
theorem q_asked (h : Rel (W.1 9) A) (hI : Inv A d) : ∃ res, SA_mostAsked W = some res ∧ ((∃ g, g < A.F ∧ 0 < cF A g) → 0 ≤ res) :=
  w_asked h hI A.F FU 0 0 (-1) (Nat.zero_add _) (by have := hI.F1; unfold FU; omega) (by omega) (Or.inl ⟨rfl, fun g hg => absurd hg (Nat.not_lt_zero _)⟩)
end OpsW
