/-! what the archive answers, in numbers -/
def WR (W : WM) (A : AS) (p c : Nat) : Prop := Rel (W.1 9) A ∧ p < 9 ∧ c ≤ 8 ∧ W.2.2.1 7 = nI p ∧ W.2.2.1 8 = nI c
def Qt (W W' : WM) : Prop := (∀ i, i ≠ 9 → i ≠ 10 → W'.1 i = W.1 i) ∧ W'.2.2.1 = W.2.2.1
def Kp (W W' : WM) : Prop := W'.1 11 = W.1 11 ∧ W'.2.2.1 9 = W.2.2.1 9
def SN (W : WM) (B : AS) : Prop := Rel (W.1 11) B ∧ W.2.2.1 9 = 1
theorem Qt.rfl' (W : WM) : Qt W W := ⟨fun _ _ _ => rfl, rfl⟩
theorem Qt.tr' {U V W : WM} (h : Qt U V) (g : Qt V W) : Qt U W := ⟨fun i h9 h10 => (g.1 i h9 h10).trans (h.1 i h9 h10), g.2.trans h.2⟩
theorem Qt.kp {U V : WM} (h : Qt U V) : Kp U V := ⟨h.1 11 (by omega) (by omega), congrFun h.2 9⟩
theorem Kp.rfl' (W : WM) : Kp W W := ⟨rfl, rfl⟩
theorem Kp.tr' {U V W : WM} (h : Kp U V) (g : Kp V W) : Kp U W := ⟨g.1.trans h.1, g.2.trans h.2⟩
theorem SN.kp {U V : WM} {B : AS} (h : SN U B) (g : Kp U V) : SN V B := ⟨by rw [g.1]; exact h.1, g.2.trans h.2⟩
theorem WR.qt {W W' : WM} {A : AS} {p c : Nat} (h : WR W A p c) (g : Qt W W') (hr : Rel (W'.1 9) A) : WR W' A p c := ⟨hr, h.2.1, h.2.2.1, by rw [g.2]; exact h.2.2.2.1, by rw [g.2]; exact h.2.2.2.2⟩
theorem s9_9 (W : WM) (M : StM) : (setS W 9 M).1 9 = M := rfl
theorem s9_o (W : WM) (M : StM) {i j : Nat} (h : j ≠ i) : (setS W i M).1 j = W.1 j := if_neg h
theorem qt_s9 (W : WM) (M : StM) : Qt W (setS W 9 M) := ⟨fun i h _ => s9_o W M h, rfl⟩
def cF (A : AS) (f : Nat) : Nat := (A.sl.map (fun s => s.f)).count f
def cR (A : AS) (r : Nat) : Nat := (A.sl.map (fun s => s.r)).count r
def sizA (A : AS) (k : Nat) : Int32 := match k with
  | 0 => nI A.dy
  | 1 => nI A.pe
  | 2 => nI A.hn
  | 3 => nI A.R
  | 4 => nI A.lm
  | 5 => nI A.F
  | 6 => nI A.row.length
  | 7 => nI (sm A.F (fun f => if A.st f = 1 then 1 else 0))
  | 8 => nI A.tr.length
  | 9 => nI A.sl.length
  | 10 => nI (wps (rmk A.mk A.row))
  | _ => nI (A.pe - A.dy % A.pe)
def folA (A : AS) (f k : Nat) : Int32 := match k with
  | 0 => nI (A.mk f)
  | 1 => nI (A.em f)
  | 2 => nI (A.st f)
  | 3 => whA A f
  | 4 => nI (cF A f)
  | 5 => nI (A.le f)
  | _ => if A.dy < A.em f then 1 else 0
def reaA (A : AS) (r k : Nat) : Int32 := match k with
  | 0 => nI (A.hv r)
  | 1 => nI (cR A r)
  | _ => nI (A.rc r)
def spA (A : AS) (x : Sp) (k : Nat) : Int32 := match k with
  | 0 => nI x.r
  | 1 => nI x.f
  | 2 => nI x.d
  | 3 => nI x.t
  | _ => nI (idlA A x)
def waiA (A : AS) (p k : Nat) : Int32 := match A.sl[p]? with
  | none => -1
  | some x => spA A x k
section Query
variable {W : WM} {A : AS} {d p c : Nat}
theorem out_eq (hI : Inv A d) (h : Rel (W.1 9) A) : lncnt ((W.1 9).2 2) 1 = nI (sm A.F (fun f => if A.st f = 1 then 1 else 0)) := by
  rw [h.l2, lc_rg]
  congr 1
  refine sm_congr fun f hf => ?_
  have := hI.s2 f hf
  by_cases h1 : A.st f = 1
  · rw [if_pos h1, if_pos ((z1 (by omega)).mpr h1)]
  · rw [if_neg h1, if_neg (fun q => h1 ((z1 (by omega)).mp q))]
theorem q_size (h : Rel (W.1 9) A) (hI : Inv A d) (hd : d ≤ 2000) {k : Nat} (hk : k < 12) : SA_size W (nI k) = some (sizA A k) := by
  have e10 := Rw_wrongPairs_eq (h.rm hI)
  have e11 := e_toRef h hI hd
  have e7 := out_eq hI h
  have e9 := e_cnt_sl h
  rcases (show k = 0 ∨ k = 1 ∨ k = 2 ∨ k = 3 ∨ k = 4 ∨ k = 5 ∨ k = 6 ∨ k = 7 ∨ k = 8 ∨ k = 9 ∨ k = 10 ∨ k = 11 by omega) with rfl | rfl | rfl | rfl | rfl | rfl | rfl | rfl | rfl | rfl | rfl | rfl
  · exact congrArg some h.i0
  · exact congrArg some h.i1
  · exact congrArg some h.i2
  · exact congrArg some (congrArg nI h.n5)
  · exact congrArg some h.i3
  · exact congrArg some (congrArg nI h.n0)
  · exact congrArg some (congrArg nI h.n7)
  · exact congrArg some e7
  · exact congrArg some (congrArg nI h.na)
  · exact congrArg some e9
  · exact (congrArg (fun x => Option.bind x fun q => some q) e10)
  · exact congrArg some e11
theorem q_acc (h : Rel (W.1 9) A) {k : Nat} (hk : k < 11) (h3 : 3 ≤ k) : SA_account W (nI k) = some (A.ac k) := by
  unfold SA_account
  rw [if_neg (q_neg (by omega)), if_pos (show nI k < 11 from (q_lt (b := 11) (by omega) (by omega)).mpr hk), if_pos (show 3 ≤ nI k from (q_le (a := 3) (by omega) (by omega)).mpr h3)]
  simp only [Option.bind_some]
  rw [h.gf hk]
theorem cF_eq (h : Rel (W.1 9) A) (hI : Inv A d) {f : Nat} (hf : f < 1000) : lncnt ((W.1 9).2 12) (nI f) = nI (cF A f) := by
  rw [h.lc]
  have e := lc_ml (l := A.sl.map (fun s => s.f)) (fun x hx => by
    obtain ⟨s, hs, rfl⟩ := List.mem_map.mp hx
    have := (hI.sl s hs).2.1; have := hI.F1; omega) (v := f) (by omega)
  rw [← show ml (A.sl.map (fun s => s.f)) = A.sl.map (fun s => nI s.f) from List.map_map, e]; rfl
theorem cR_eq (h : Rel (W.1 9) A) (hI : Inv A d) {r : Nat} (hr : r < 1000) : lncnt ((W.1 9).2 11) (nI r) = nI (cR A r) := by
  rw [h.lb]
  have e := lc_ml (l := A.sl.map (fun s => s.r)) (fun x hx => by
    obtain ⟨s, hs, rfl⟩ := List.mem_map.mp hx
    have := (hI.sl s hs).1; have := hI.R1; omega) (v := r) (by omega)
  rw [← show ml (A.sl.map (fun s => s.r)) = A.sl.map (fun s => nI s.r) from List.map_map, e]; rfl
theorem q_fol (h : Rel (W.1 9) A) (hI : Inv A d) (hd : d ≤ 1000) {f : Nat} (hf : f < A.F) {k : Nat} (hk : k < 7) : SA_folder W (nI f) (nI k) = some (folA A f k) := by
  have e6 := e_closed h hI hd hf
  have e3 := e_where h hI hf
  have e4 := cF_eq h hI (f := f) (by have := hI.F1; omega)
  unfold SA_folder
  rw [e_hasF h hI hf, if_neg (by decide)]
  rcases (show k = 0 ∨ k = 1 ∨ k = 2 ∨ k = 3 ∨ k = 4 ∨ k = 5 ∨ k = 6 by omega) with rfl | rfl | rfl | rfl | rfl | rfl | rfl
  · exact congrArg some (h.g0 hI hf)
  · exact congrArg some (h.g1 hI hf)
  · exact congrArg some (h.g2 hI hf)
  · exact congrArg some e3
  · exact congrArg some e4
  · exact congrArg some (h.g4 hI hf)
  · rw [e6]
    show Option.bind (if (if A.dy < A.em f then (1 : Int32) else 0) = 0 then some 0 else some 1) (fun b => some b) = some (if A.dy < A.em f then 1 else 0)
    by_cases h1 : A.dy < A.em f
    · rw [if_pos h1]; rfl
    · rw [if_neg h1]; rfl
theorem q_rea (h : Rel (W.1 9) A) (hI : Inv A d) {r : Nat} (hr : r < A.R) {k : Nat} (hk : k < 3) : SA_reader W (nI r) (nI k) = some (reaA A r k) := by
  have e1 := cR_eq h hI (r := r) (by have := hI.R1; omega)
  unfold SA_reader
  rw [e_hasR h hI hr, if_neg (by decide)]
  rcases (show k = 0 ∨ k = 1 ∨ k = 2 by omega) with rfl | rfl | rfl
  · exact congrArg some (h.g5 hI hr)
  · exact congrArg some e1
  · exact congrArg some (h.g6 hI hr)
theorem q_wai (h : Rel (W.1 9) A) (hI : Inv A d) (hd : d ≤ 1000) {q : Nat} (hq : q < 1000) {k : Nat} (hk : k < 5) : SA_waiting W (nI q) (nI k) = some (waiA A q k) := by
  have hc := hI.sc
  have e4 := e_slHas h hI hq
  unfold SA_waiting waiA
  rw [e4]
  cases hx : A.sl[q]? with
  | none =>
    have hl : A.sl.length ≤ q := List.getElem?_eq_none_iff.mp hx
    rw [if_neg (show ¬ q < A.sl.length by omega)]
    rcases (show k = 0 ∨ k = 1 ∨ k = 2 ∨ k = 3 ∨ k = 4 by omega) with rfl | rfl | rfl | rfl | rfl
    · exact congrArg some (by rw [h.lb]; exact lg_out (by rw [List.length_map]; exact hl) (by omega))
    · exact congrArg some (by rw [h.lc]; exact lg_out (by rw [List.length_map]; exact hl) (by omega))
    · exact congrArg some (by rw [h.ld]; exact lg_out (by rw [List.length_map]; exact hl) (by omega))
    · exact congrArg some (by rw [h.lx]; exact lg_out (by rw [List.length_map]; exact hl) (by omega))
    · rfl
  | some x =>
    rw [if_pos (sp_at hI hx).1]
    have ei := e_idle h hI hd hx
    rcases (show k = 0 ∨ k = 1 ∨ k = 2 ∨ k = 3 ∨ k = 4 by omega) with rfl | rfl | rfl | rfl | rfl
    · exact congrArg some (h.gb hI hx)
    · exact congrArg some (h.gc hI hx)
    · exact congrArg some (h.gd hI hx)
    · exact congrArg some (h.gx hI hx)
    · exact congrArg some ei
theorem q_marked (h : Rel (W.1 9) A) (hI : Inv A d) {f : Nat} (hf : f < A.F) : SA_marked W (nI (A.mk f)) = nI f := by
  have hF := hI.F1
  unfold SA_marked
  rw [h.l0]
  rcases lp_cases (rg A.F (fun i => nI (A.mk i))) (nI (A.mk f)) with ⟨i, h1, h2, -, h3⟩ | ⟨h1, -⟩
  · rw [rg_len] at h1
    rw [rg_d _ h1] at h2
    rw [h3, hI.mi i f h1 hf ((q_eq (by have := hI.mk i h1; omega) (by have := hI.mk f hf; omega)).mp h2)]
  · exact absurd (rg_d _ hf) (h1 f (by rw [rg_len]; exact hf))
theorem q_at (h : Rel (W.1 9) A) (hI : Inv A d) {k : Nat} (hk : k < A.row.length) : SA_at W (nI k) = nI (A.row.getD k 0) := by
  unfold SA_at
  rw [h.l7]; exact lg_ml hk (by have := hI.rl; omega)
theorem q_found (h : WR W A p c) (hI : Inv A d) {m : Nat} (hm : m < 100000) : ∃ W', SA_found W (nI m) = some (optI (halv (rmk A.mk A.row) m).1, W') ∧ WR W' A p c ∧ Qt W W' := by
  unfold SA_found
  rw [Rw_halve_eq (h.1.rm hI) hm]
  exact ⟨_, rfl, h.qt (qt_s9 W _) (by rw [s9_9]; exact h.1.s8 _), qt_s9 W _⟩
theorem q_looks (h : WR W A p c) (hI : Inv A d) {m : Nat} (hm : m < 100000) : ∃ W', SA_looks W (nI m) = some (nI (halv (rmk A.mk A.row) m).2.length, W') ∧ WR W' A p c ∧ Qt W W' := by
  unfold SA_looks
  rw [Rw_halve_eq (h.1.rm hI) hm]
  refine ⟨_, congrArg some (Prod.ext (congrArg nI (ml_len _)) rfl), h.qt (qt_s9 W _) (by rw [s9_9]; exact h.1.s8 _), qt_s9 W _⟩
theorem q_lookedAt (h : WR W A p c) (hI : Inv A d) {m : Nat} (hm : m < 100000) (z : Int32) : ∃ W', SA_lookedAt W (nI m) z = some (lnget (ml A.row) (lnget (ml (halv (rmk A.mk A.row) m).2) z), W') ∧ WR W' A p c ∧ Qt W W' := by
  unfold SA_lookedAt
  rw [Rw_halve_eq (h.1.rm hI) hm]
  refine ⟨_, congrArg some (Prod.ext ?_ rfl), h.qt (qt_s9 W _) (by rw [s9_9]; exact h.1.s8 _), qt_s9 W _⟩
  show lnget ((W.1 9).2 7) _ = _
  rw [h.1.l7]; rfl
theorem q_refile (h : WR W A p c) (hI : Inv A d) {m : Nat} (hm : m < 100000) {q : Nat} (hq : q < 1000) (he : (halv (rmk A.mk A.row) m).1 = some q) : ∃ W', SA_refilePlace W (nI m) = some (nI q, W') ∧ WR W' A p c ∧ Qt W W' := by
  unfold SA_refilePlace
  rw [Rw_halve_eq (h.1.rm hI) hm, he]
  simp only [Option.bind_some, lt']
  rw [if_neg (show ¬ optI (some q) = -1 from q_m1 (by omega))]
  exact ⟨_, rfl, h.qt (qt_s9 W _) (by rw [s9_9]; exact h.1.s8 _), qt_s9 W _⟩
theorem q_missed (h : WR W A p c) (hI : Inv A d) : ∃ W', SA_missed W = some (nI (mis (rmk A.mk A.row)), W') ∧ WR W' A p c ∧ Qt W W' := by
  unfold SA_missed
  obtain ⟨L, e⟩ := Rw_missed_eq (h.1.rm hI)
  rw [e]
  exact ⟨_, rfl, h.qt (qt_s9 W _) (by rw [s9_9]; exact h.1.s8 _), qt_s9 W _⟩
theorem q_inv (h : Rel (W.1 9) A) (hI : Inv A d) : SA_inversions W = some (nI (ivs (rmk A.mk A.row))) := by
  unfold SA_inversions
  rw [Rw_inversions_eq (h.rm hI)]; rfl
theorem q_swapsLeft (h : Rel (W.1 9) A) (hI : Inv A d) : SA_swapsLeft W = some (nI (ivs (rmk A.mk A.row))) := by
  unfold SA_swapsLeft
  rw [Rw_inversions_eq (h.rm hI)]; rfl
theorem q_longest (h : WR W A p c) (hI : Inv A d) : ∃ W', SA_longestOrdered W = some (nI (lgs (rmk A.mk A.row) A.row.length), W') ∧ WR W' A p c ∧ Qt W W' := by
  unfold SA_longestOrdered
  obtain ⟨L, e⟩ := Rw_longest_eq (h.1.rm hI)
  rw [e]
  exact ⟨_, rfl, h.qt (qt_s9 W _) (by rw [s9_9]; exact h.1.s9 _), qt_s9 W _⟩
theorem q_far (h : Rel (W.1 9) A) (hI : Inv A d) : SA_mostMisplaced W = some (optI (far (rmk A.mk A.row) A.row)) := by
  unfold SA_mostMisplaced
  rw [Rw_far_eq (h.rm hI)]; rfl
theorem q_why (h : Rel (W.1 9) A) (hI : Inv A d) {r f : Nat} (hr : r < A.R) (hf : f < A.F) : SA_why W (nI r) (nI f) = some (refA A r f) := by
  unfold SA_why
  rw [e_hasR h hI hr, e_hasF h hI hf, if_neg (by decide), if_neg (by decide), e_ref h hI hr hf]; rfl
theorem q_cause (h : Rel (W.1 9) A) (hI : Inv A d) {q : Nat} {x : Sp} (hq : A.sl[q]? = some x) : SA_why W (nI x.r) (nI x.f) = some (-3) ∧ SA_cause W (nI x.r) (nI x.f) = some (nI q) := by
  obtain ⟨-, hr, hf, -, -, hh⟩ := sp_at hI hq
  have e3 : refA A x.r x.f = -3 := by
    unfold refA
    rw [if_neg hh, if_pos (hasS_iff.mpr ⟨x, List.mem_of_getElem? hq, rfl, rfl⟩)]
  refine ⟨by rw [q_why h hI hr hf, e3], ?_⟩
  unfold SA_cause
  rw [e_hasR h hI hr, e_hasF h hI hf, if_neg (by decide), if_neg (by decide), e_ref h hI hr hf, e3, e_pf_at h hI hq]
  rfl
theorem q_waitsFor (h : Rel (W.1 9) A) (hI : Inv A d) (hd : d ≤ 1000) {q : Nat} {x : Sp} (hq : A.sl[q]? = some x) : (0 ≤ SA_waitsFor W (nI q)) ↔ idlA A x ≠ 0 := by
  obtain ⟨hl, hr, hf, -, -, hh⟩ := sp_at hI hq
  have hc := hI.sc; have hle := idl_le (A := A) x; have hp := hI.p1; have hdy := hI.dy; have hem := hI.em x.f hf
  have hm1 := hI.m1; have hhl := hI.hl x.r hr; have hR := hI.R1; have hho := hI.ho x.f hf
  unfold SA_waitsFor
  rw [e_slHas h hI (by omega), if_pos hl, if_neg (by decide)]
  simp only [lt']
  rw [e_idle h hI hd hq, h.gc hI hq, h.gb hI hq, h.g3 hI hf, e_toRef h hI (by omega), h.g1 hI hf, h.i0, h.g5 hI hr]
  have hid := idl_le (A := A) x
  by_cases h1 : idlA A x = 1
  · rw [if_pos ((z1 (by omega)).mpr h1)]
    have hst : A.st x.f = 1 := by
      unfold idlA at h1
      split at h1
      · assumption
      · split at h1
        · omega
        · split at h1
          · omega
          · split at h1 <;> omega
    have h0 := (hI.out x.f hf).mp hst
    obtain ⟨k, hk⟩ : ∃ k, A.ho x.f = k + 1 := ⟨A.ho x.f - 1, by omega⟩
    rw [hk, hoI_s]
    exact ⟨fun _ => by omega, fun _ => nI_pos' (by omega)⟩
  · rw [if_neg (fun q => h1 ((z1 (by omega)).mp q))]
    by_cases h2 : idlA A x = 2
    · rw [if_pos ((z2 (by omega)).mpr h2)]
      exact ⟨fun _ => by omega, fun _ => nI_pos' (by omega)⟩
    · rw [if_neg (fun q => h2 ((z2 (by omega)).mp q))]
      by_cases h3 : idlA A x = 3
      · rw [if_pos ((z3 (by omega)).mpr h3)]
        have hcl : A.dy < A.em x.f := by
          unfold idlA at h3
          split at h3
          · omega
          · split at h3
            · omega
            · split at h3
              · assumption
              · split at h3 <;> omega
        rw [pk_sub (by omega)]
        exact ⟨fun _ => by omega, fun _ => nI_pos' (by omega)⟩
      · rw [if_neg (fun q => h3 ((z3 (by omega)).mp q))]
        by_cases h4 : idlA A x = 4
        · rw [if_pos ((z4 (by omega)).mpr h4)]
          exact ⟨fun _ => by omega, fun _ => nI_pos' (by omega)⟩
        · rw [if_neg (fun q => h4 ((z4 (by omega)).mp q))]
          exact ⟨fun q => absurd q (by decide), fun q => by omega⟩
end Query
