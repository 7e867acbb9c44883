/-! isServed -/
def srvK2 : WM → Int32 → Int32 → Int32 → Int32 → Int32 → Int32 → Int32 → Int32 → Int32 → Option (Int32 × WM) := fun M_811 v1_802 v2_803 v3_804 v4_805 v5_806 v6_807 v7_808 v8_809 v9_810 => Option.bind (SA_size M_811 6) fun q_812 => lt' (fun (t_813 : Int32) => (lt' (fun (M_816 : WM) => (lt' (SA_restoreSnapshot M_816) fun q_819 => if q_819.1 = 0 ∨ q_819.1 = 1 then (some ((q_819.1, q_819.2))) else none : Option (Int32 × WM))) fun c_817 => if t_813 < 0 then (c_817 M_811) else (Option.bind (SA_size M_811 3) fun q_822 => Option.bind (Lw_most (v1_802 >>> (2 &&& 31)) q_822) fun q_823 => Option.bind (SA_setEmbargo M_811 t_813 0) fun q_824 => lt' (q_824.1) fun v11_825 => if v11_825 < 0 then (some ((0, q_824.2))) else (Option.bind (SA_slip q_824.2 q_823 t_813) fun q_827 => if q_827.1 = 0 then (Option.bind (SA_waiting q_827.2 0 4) fun q_829 => if q_829 = 0 then (Option.bind (SA_size q_827.2 8) fun q_831 => if q_831 = 0 then (Option.bind (SA_servedIn q_827.2 0) fun q_833 => lt' (q_833.1) fun v12_834 => Option.bind (SA_folder q_833.2 t_813 0) fun q_835 => Option.bind (SA_found q_833.2 q_835) fun q_836 => lt' (fun (t_837 : Int32) => (if v12_834 = t_837 then (Option.bind (SA_days q_836.2 3) fun q_841 => if q_841.1 = 1 then (Option.bind (SA_folder q_841.2 t_813 2) fun q_843 => if q_843 = 1 then (Option.bind (SA_folder q_841.2 t_813 3) fun q_845 => if q_845 = q_823 then (c_817 q_841.2) else (some ((0, q_841.2)))) else (some ((0, q_841.2)))) else (some ((0, q_841.2)))) else (some ((0, q_836.2))) : Option (Int32 × WM))) fun c_838 => if q_836.1 < 0 then (c_838 3) else (c_838 1)) else (c_817 q_827.2)) else (c_817 q_827.2)) else (some ((0, q_827.2))))) : Option (Int32 × WM))) fun c_814 => if q_812 ≤ 0 then (c_814 (-1)) else (Option.bind (SA_size M_811 6) fun q_849 => Option.bind (Lw_most v1_802 q_849) fun q_850 => c_814 (SA_at M_811 q_850))
def srvK : WM → Int32 → Int32 → Int32 → Int32 → Int32 → Int32 → Int32 → Int32 → Int32 → Option (Int32 × WM) := fun M_773 v1_764 v2_765 v3_766 v4_767 v5_768 v6_769 v7_770 v8_771 v9_772 => Option.bind (SA_account M_773 4) fun q_774 => if q_774 = v5_768 + v3_766 then (Option.bind (SA_size M_773 9) fun q_776 => if q_776 = v4_767 then (lt' (SA_restoreSnapshot M_773) fun q_778 => if q_778.1 = 0 then (some ((0, q_778.2))) else (Lw_isServed_L171 (srvK2) FU q_778.2 v1_764 v2_765 v3_766 v4_767 v5_768 v6_769 v7_770 v8_771 v9_772)) else (some ((0, M_773)))) else (some ((0, M_773)))
theorem srv_unf (M : WM) (p2 : Int32) : Lw_isServed M p2 = lt' (SA_saveSnapshot M) fun M_712 => Option.bind (Lw_most p2 8) fun q_713 => lt' (1 + q_713) fun v2_714 => Option.bind (SA_servedBy M_712 v2_714) fun q_715 => lt' (q_715.1) fun v3_716 => Option.bind (SA_waitingIn q_715.2 v2_714) fun q_717 => lt' (q_717.1) fun v4_718 => Option.bind (SA_account q_717.2 4) fun q_719 => Option.bind (SA_size q_717.2 9) fun q_720 => lt' (fun (M_722 : WM) (t_721 : Int32) => (Option.bind (SA_waiting M_722 0 0) fun q_725 => Option.bind (SA_waiting M_722 0 1) fun q_726 => Lw_isServed_L72 (srvK) FU M_722 p2 v2_714 v3_716 v4_718 q_719 t_721 q_725 q_726 1 : Option (Int32 × WM))) fun c_723 => if q_720 ≤ 0 then (c_723 q_717.2 (-1)) else (Option.bind (SA_servedIn q_717.2 0) fun q_852 => c_723 q_852.2 q_852.1) := rfl
section Srv
variable {A : AS} {d : Nat}
theorem restore_1 {M : WM} {B : AS} {p c : Nat} (hO : OKs A d) (h : WR M B p c) (hs : SN M A) : ∃ W' p', (lt' (SA_restoreSnapshot M) fun q => if q.1 = 0 ∨ q.1 = 1 then (some ((q.1, q.2))) else none) = some (1, W') ∧ WR W' A p' 0 := by
  obtain ⟨W', e, h1, -⟩ := o_restore h hs hO.1
  refine ⟨W', p, ?_, h1⟩
  rw [e]
  simp only [ltb]
  rw [if_pos (Or.inr True.intro)]
theorem srv_tail2 {M : WM} {C : AS} {p c : Nat} (u : Int32) (hO : OKs A d) (hC : OKs C d) (hd : d + 100 ≤ 900) (h : WR M C p c) (hs : SN M A) (hsl : C.sl = []) (v2 v3 v4 v5 v6 v7 v8 v9 : Int32) : ∃ W' p', srvK2 M u v2 v3 v4 v5 v6 v7 v8 v9 = some (1, W') ∧ WR W' A p' 0 := by
  have hI := hC.1
  have hF := hI.F1; have hR := hI.R1; have hr := hI.rl; have hdy := hI.dy
  have s6 : SA_size M 6 = some (nI C.row.length) := q_size h.1 hI (by omega) (k := 6) (by omega)
  unfold srvK2
  rw [s6]
  simp only [bs]
  by_cases hz : C.row.length = 0
  · obtain ⟨W', p', e, h1⟩ := restore_1 hO h hs
    simp only [ltb] at e
    refine ⟨W', p', ?_, h1⟩
    simp only [ltb]
    rw [if_pos (show nI C.row.length ≤ 0 by rw [hz]; exact Int32.le_refl _), if_pos (show (-1 : Int32) < 0 by decide)]
    exact e
  · have hk : mostN u C.row.length < C.row.length := most_lt _ (by omega)
    have mk' : Lw_most u (nI C.row.length) = some (nI (mostN u C.row.length)) := most_eq _ (by omega) (by omega)
    have ha : SA_at M (nI (mostN u C.row.length)) = nI (C.row.getD (mostN u C.row.length) 0) := q_at h.1 hI hk
    have hfm := (hI.rw _).mp (gdn_mem hk)
    generalize C.row.getD (mostN u C.row.length) 0 = f at hfm ha
    generalize mostN u C.row.length = k at *
    obtain ⟨hfF, hst⟩ := hfm
    have hrR : mostN (u >>> (2 &&& 31)) C.R < C.R := most_lt _ hR.1
    have mr : Lw_most (u >>> (2 &&& 31)) (nI C.R) = some (nI (mostN (u >>> (2 &&& 31)) C.R)) := most_eq _ hR.1 (by omega)
    generalize mostN (u >>> (2 &&& 31)) C.R = r at *
    have s3 : SA_size M 3 = some (nI C.R) := q_size h.1 hI (by omega) (k := 3) (by omega)
    have hem := hI.em f hfF
    obtain ⟨M2, e2, o2⟩ := o_embargo h hI hfF (v := 0) (by omega)
    obtain ⟨p2, c2, h2⟩ := o2.wr
    have hs2 := hs.kp o2.2.2
    have hD := i_cu hC (f := f) (v := 0) (by omega)
    have hho : C.ho f = 0 := by have := hI.out f hfF; omega
    have href : refA (cuA C f 0) r f = 0 := by
      unfold refA hasS
      rw [if_neg (show ¬ (cuA C f 0).ho f = r + 1 by show ¬ C.ho f = r + 1; omega), show (cuA C f 0).sl = [] from hsl]
      rfl
    obtain ⟨M3, e3, o3⟩ := o_slip h2 hD.1 (r := r) (f := f) hrR hfF
    rw [if_pos href] at e3 o3
    rw [if_pos href] at o3
    obtain ⟨p3, c3, h3⟩ := o3.wr
    have hs3 := hs2.kp o3.2.2
    have hE := i_sl hD (r := r) (f := f) hrR hfF href
    have esl : (slA (cuA C f 0) r f).sl = [mkSp r f C.dy 0] := by
      show C.sl ++ [mkSp r f C.dy 0] = _
      rw [hsl]; rfl
    have hx : (slA (cuA C f 0) r f).sl[0]? = some (mkSp r f C.dy 0) := by rw [esl]; rfl
    have l0 : (cuA C f 0).sl.length = 0 := by rw [show (cuA C f 0).sl = [] from hsl]; rfl
    rw [l0] at e3
    have w4 : SA_waiting M3 0 4 = some (nI (idlA (slA (cuA C f 0) r f) (mkSp r f C.dy 0))) := by
      have := q_wai h3.1 hE.1 (by omega) (q := 0) (by omega) (k := 4) (by omega)
      unfold waiA at this
      rw [hx] at this
      exact this
    have s8 : SA_size M3 8 = some (nI C.tr.length) := q_size h3.1 hE.1 (by omega) (k := 8) (by omega)
    have hle := idl_le (A := slA (cuA C f 0) r f) (mkSp r f C.dy 0)
    have e2 : SA_setEmbargo M (nI f) 0 = some (nI (C.em f), M2) := e2
    -- the beginning, the same for all
    have beg : ∀ (Y : Option (Int32 × WM)), (if nI (idlA (slA (cuA C f 0) r f) (mkSp r f C.dy 0)) = 0 then Y else Y) = Y := fun Y => by split <;> rfl
    simp only [ltb]
    rw [if_neg (show ¬ nI C.row.length ≤ 0 from nI_nle (by omega) (by omega)), mk']
    simp only [bs]
    rw [ha, if_neg (show ¬ nI f < 0 from q_neg (by omega)), s3]
    simp only [bs]
    rw [mr]
    simp only [bs]
    rw [e2]
    simp only [bs]
    rw [if_neg (q_neg (a := C.em f) (by omega)), e3]
    simp only [bs]
    rw [if_pos (show nI 0 = 0 from rfl), w4]
    simp only [bs]
    by_cases hid : idlA (slA (cuA C f 0) r f) (mkSp r f C.dy 0) = 0
    · rw [if_pos ((z0 (by omega)).mpr hid), s8]
      simp only [bs]
      have htl := hI.tl
      by_cases ht : C.tr.length = 0
      · rw [if_pos (show nI C.tr.length = 0 by rw [ht]; rfl)]
        obtain ⟨-, -, hhv⟩ := idl_0 hE.1 hx hid
        have hq1 : Q1 r f C.dy 0 C.row C.mk (slA (cuA C f 0) r f) := ⟨esl, hst, uq_s _ _ _, hhv, List.length_eq_zero_iff.mp ht, rfl, rfl, hI.h1.1⟩
        obtain ⟨y1, y2, y3⟩ := single hq1
        obtain ⟨M4, e4, h4, g4⟩ := q_servedIn h3 hE (by omega) hx
        have e4 : SA_servedIn M3 0 = some (optI (svI r f 60 1 (slA (cuA C f 0) r f)), M4) := e4
        rw [y1] at e4
        have f0 : SA_folder M4 (nI f) 0 = some (nI (C.mk f)) := q_fol h4.1 hE.1 (by omega) hfF (k := 0) (by omega)
        have hmk := hI.mk f hfF
        obtain ⟨M5, e5, h5, g5⟩ := q_found h4 hE.1 (m := C.mk f) (by omega)
        have e5 : SA_found M4 (nI (C.mk f)) = some (optI (halv (rmk C.mk C.row) (C.mk f)).1, M5) := e5
        obtain ⟨M6, e6, o6⟩ := o_days h5 hE (n := 3) (by omega) (by omega) (by omega)
        have e6 : SA_days M5 3 = some (nI (itA 3 (slA (cuA C f 0) r f)).1, M6) := e6
        rw [y2] at e6
        obtain ⟨p6, c6, h6⟩ := o6.wr
        have hs6 := ((hs3.kp g4.kp).kp g5.kp).kp o6.2.2
        obtain ⟨hO6, hF6, -⟩ := i_it 3 _ _ hE
        have hfF6 : f < (itA 3 (slA (cuA C f 0) r f)).2.F := by rw [hF6.F]; exact hfF
        have f2 : SA_folder M6 (nI f) 2 = some (nI 1) := by
          have := q_fol h6.1 hO6.1 (by omega) hfF6 (k := 2) (by omega)
          rw [show folA (itA 3 (slA (cuA C f 0) r f)).2 f 2 = nI ((itA 3 (slA (cuA C f 0) r f)).2.st f) from rfl, y3.st] at this
          exact this
        have f3 : SA_folder M6 (nI f) 3 = some (nI r) := by
          have := q_fol h6.1 hO6.1 (by omega) hfF6 (k := 3) (by omega)
          rw [show folA (itA 3 (slA (cuA C f 0) r f)).2 f 3 = whA (itA 3 (slA (cuA C f 0) r f)).2 f from rfl] at this
          unfold whA at this
          rw [if_neg (by rw [y3.st]; omega), if_neg (by rw [y3.st]; omega), y3.ho, hoI_s] at this
          exact this
        obtain ⟨W', p', e, h7⟩ := restore_1 hO h6 hs6
        simp only [ltb] at e
        refine ⟨W', p', ?_, h7⟩
        rw [e4]
        simp only [bs]
        rw [f0]
        simp only [bs]
        rw [e5]
        simp only [bs]
        rw [e6]
        simp only [bs]
        rw [f2]
        simp only [bs]
        rw [f3]
        simp only [bs]
        rw [e]
        have hlt : ∀ x, (halv (rmk C.mk C.row) (C.mk f)).1 = some x → x < 100000 := fun x hx => by
          have := (hal_some _ _ _ _ _ _ hx).2.1
          have hl : (rmk C.mk C.row).length = C.row.length := List.length_map _
          omega
        cases hh : (halv (rmk C.mk C.row) (C.mk f)).1 with
        | none =>
          rw [if_pos (show optI none < 0 by decide), if_pos (show (none : Option Nat) = none from rfl)]
          simp only [if_pos (show optI (some 3) = 3 from rfl), if_pos c11, if_true]
        | some x =>
          rw [if_neg (show ¬ optI (some x) < 0 from q_neg (hlt x hh)), if_neg (show ¬ (some x = none) from fun z => by cases z)]
          simp only [if_pos (show optI (some 1) = 1 from rfl), if_pos c11, if_true]
      · obtain ⟨W', p', e, h1⟩ := restore_1 hO h3 hs3
        simp only [ltb] at e
        refine ⟨W', p', ?_, h1⟩
        rw [if_neg (show ¬ nI C.tr.length = 0 from fun z => ht ((z0 (by omega)).mp z))]
        exact e
    · obtain ⟨W', p', e, h1⟩ := restore_1 hO h3 hs3
      simp only [ltb] at e
      refine ⟨W', p', ?_, h1⟩
      rw [if_neg (fun z => hid ((z0 (by omega)).mp z))]
      exact e
theorem srv_tail {M : WM} {p c n : Nat} (u : Int32) (hO : OKs A d) (hd : d + 100 ≤ 900) (hn : n ≤ 8) (h : WR M (itA n A).2 p c) (hs : SN M A) (v6 v7 v8 v9 : Int32) : ∃ W' p', srvK M u (nI n) (nI (itA n A).1) (nI (itA n A).2.sl.length) (A.ac 4) v6 v7 v8 v9 = some (1, W') ∧ WR W' A p' 0 := by
  obtain ⟨i1, i2, i3, i4, i5⟩ := i_it n A d hO
  have y4 : SA_account M 4 = some (A.ac 4 + nI (itA n A).1) := by
    have := q_acc h.1 (k := 4) (by omega) (by omega)
    rw [i5] at this
    exact this
  have s9 : SA_size M 9 = some (nI (itA n A).2.sl.length) := q_size h.1 i1.1 (by omega) (k := 9) (by omega)
  obtain ⟨M1, e1, h1, k1⟩ := o_restore h hs hO.1
  have hs1 := hs.kp k1
  obtain ⟨M2, p2, c2, h2, hs2, hO2, he⟩ := w_171 (d := d) (by omega) A.sl.length FU p 0 A M1 rfl (by have := hO.1.sc; unfold FU; omega) hO h1 hs1
  obtain ⟨W', p', e, h3⟩ := srv_tail2 u hO hO2 hd h2 hs2 rfl (nI n) (nI (itA n A).1) (nI (itA n A).2.sl.length) (A.ac 4) v6 v7 v8 v9
  refine ⟨W', p', ?_, h3⟩
  unfold srvK
  rw [y4]
  simp only [bs]
  rw [if_pos True.intro, s9]
  simp only [bs]
  rw [if_pos True.intro, e1]
  simp only [ltb]
  rw [if_neg (show ¬ (1 : Int32) = 0 by decide)]
  exact (he srvK2 u _ _ _ _ _ _ _ _).trans e
theorem served_ok {W : WM} {p c : Nat} (u : Int32) (hO : OKs A d) (hd : d + 100 ≤ 900) (h : WR W A p c) : ∃ W' p', Lw_isServed W u = some (1, W') ∧ WR W' A p' 0 := by
  have hI := hO.1
  have hc := hI.sc
  have e8 : Lw_most u 8 = some (nI (mostN u 8)) := most_eq u (m := 8) (by omega) (by omega)
  have hm : mostN u 8 < 8 := most_lt u (by omega)
  generalize mostN u 8 = m at e8 hm
  obtain ⟨h0, hs0, -⟩ := o_save h hI
  generalize hW0 : SA_saveSnapshot W = W0 at h0 hs0
  obtain ⟨V1, e1, h1, g1⟩ := q_servedBy h0 hO (n := 1 + m) (by omega) (by omega)
  obtain ⟨V2, e2, h2, g2⟩ := q_waitingIn h1 hO (n := 1 + m) (by omega) (by omega)
  have hs2 := (hs0.kp g1.kp).kp g2.kp
  have y4 : SA_account V2 4 = some (A.ac 4) := q_acc h2.1 (k := 4) (by omega) (by omega)
  have s9 : SA_size V2 9 = some (nI A.sl.length) := q_size h2.1 hI (by omega) (k := 9) (by omega)
  by_cases hz : A.sl.length = 0
  · have hx : A.sl[0]? = none := List.getElem?_eq_none_iff.mpr (by omega)
    have w0 : SA_waiting V2 0 0 = some (-1) := by
      have := q_wai h2.1 hI (by omega) (q := 0) (by omega) (k := 0) (by omega)
      unfold waiA at this
      rw [hx] at this
      exact this
    have w1 : SA_waiting V2 0 1 = some (-1) := by
      have := q_wai h2.1 hI (by omega) (q := 0) (by omega) (k := 1) (by omega)
      unfold waiA at this
      rw [hx] at this
      exact this
    obtain ⟨M', p', c', v9, h3, hs3, he⟩ := w_72 hO (by omega) (n := 1 + m) (by omega) (v6 := -1) (v7 := -1) (v8 := -1) (Or.inl (by decide)) (1 + m) FU 0 p c V2 (Nat.zero_add _) (by unfold FU; omega) h2 hs2
    obtain ⟨W', pp, e, h4⟩ := srv_tail u hO hd (n := 1 + m) (by omega) h3 hs3 (-1) (-1) (-1) v9
    refine ⟨W', pp, ?_, h4⟩
    rw [srv_unf, hW0]
    simp only [ltb]
    rw [e8]
    simp only [bs]
    rw [show (1 : Int32) + nI m = nI (1 + m) from nI_add 1 m, e1]
    simp only [bs]
    rw [e2]
    simp only [bs]
    rw [y4]
    simp only [bs]
    rw [s9]
    simp only [bs]
    rw [if_pos (show nI A.sl.length ≤ 0 by rw [hz]; exact Int32.le_refl _), w0]
    simp only [bs]
    rw [w1]
    simp only [bs]
    exact (he srvK u _ _ _).trans e
  · obtain ⟨x, hx⟩ := sp_ex (A := A) (p := 0) (by omega)
    obtain ⟨-, hr, hf, -⟩ := sp_at hI hx
    have hR := hI.R1
    obtain ⟨V3, e3, h3', g3⟩ := q_servedIn h2 hO (by omega) hx
    have e3 : SA_servedIn V2 0 = some (optI (svI x.r x.f 60 1 A), V3) := e3
    have w0 : SA_waiting V3 0 0 = some (nI x.r) := by
      have := q_wai h3'.1 hI (by omega) (q := 0) (by omega) (k := 0) (by omega)
      unfold waiA at this
      rw [hx] at this
      exact this
    have w1 : SA_waiting V3 0 1 = some (nI x.f) := by
      have := q_wai h3'.1 hI (by omega) (q := 0) (by omega) (k := 1) (by omega)
      unfold waiA at this
      rw [hx] at this
      exact this
    obtain ⟨M', p', c', v9, h3, hs3, he⟩ := w_72 hO (by omega) (n := 1 + m) (by omega) (v6 := optI (svI x.r x.f 60 1 A)) (v7 := nI x.r) (v8 := nI x.f) (Or.inr ⟨x.r, x.f, rfl, rfl, hr, hf, fun j j1 j2 => sv_ok hO j1 j2⟩) (1 + m) FU 0 p c V3 (Nat.zero_add _) (by unfold FU; omega) h3' (hs2.kp g3.kp)
    obtain ⟨W', pp, e, h4⟩ := srv_tail u hO hd (n := 1 + m) (by omega) h3 hs3 (optI (svI x.r x.f 60 1 A)) (nI x.r) (nI x.f) v9
    refine ⟨W', pp, ?_, h4⟩
    rw [srv_unf, hW0]
    simp only [ltb]
    rw [e8]
    simp only [bs]
    rw [show (1 : Int32) + nI m = nI (1 + m) from nI_add 1 m, e1]
    simp only [bs]
    rw [e2]
    simp only [bs]
    rw [y4]
    simp only [bs]
    rw [s9]
    simp only [bs]
    rw [if_neg (show ¬ nI A.sl.length ≤ 0 from nI_nle (by omega) (by omega)), e3]
    simp only [bs]
    rw [w0]
    simp only [bs]
    rw [w1]
    simp only [bs]
    exact (he srvK u _ _ _).trans e
end Srv
