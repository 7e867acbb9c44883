/-! the text is read, the law goes well -/
section LawOk
variable {L : Nat} {xs : Nat → Int32} {v : Int32} {n : Nat} {B : List Int32}
theorem ld_loop (hn : 1 ≤ n ∧ n ≤ 14) (v1 : Int32) : ∀ (i fuel k : Nat) (M : WM), k + i = n → i < fuel → Rel (M.1 10) (stA L xs v k) → (i = 0 → M.2.2.1 3 = nI 0) → (0 < i → M.2.2.1 3 = nI 1 ∧ Tk_isWord (sx 1) M = some 1 ∧ ∃ pos, TX (txT L xs v n) B M pos (32 :: (flT (fm L xs v k) (txe (txu L xs k)) ++ rest L xs v n (k + 1)))) → ∃ M', Ps_readArchive_L27 fuel M v1 (nI k) = some (0, M') ∧ Rel (M'.1 10) (stA L xs v n) ∧ ∀ j, 5 ≤ j → M'.2.2.1 j = M.2.2.1 j := by
  intro i
  induction i with
  | zero =>
    intro fuel k M hk hf hR h0 _
    obtain ⟨fuel, rfl⟩ : ∃ k, fuel = k + 1 := ⟨fuel - 1, by omega⟩
    obtain rfl : k = n := by omega
    refine ⟨M, ?_, hR, fun j _ => rfl⟩
    rw [Ps_readArchive_L27, if_neg (show ¬ 24 < nI k from fun z => by have := (q_lt (a := 24) (by omega) (by omega)).mp z; omega), if_neg (show ¬ nI k ≤ 0 from nI_nle (by omega) (by omega)), if_pos (show Tk_kind M = 0 from h0 rfl)]
  | succ i ih =>
    intro fuel k M hk hf hR _ h1
    obtain ⟨fuel, rfl⟩ : ∃ k, fuel = k + 1 := ⟨fuel - 1, by omega⟩
    obtain ⟨hkd, hw, pos, hT⟩ := h1 (by omega)
    have hsp := sp_ok L xs v k
    obtain ⟨M1, p1, e1, hT1, hR1, hi1⟩ := ps_folder (e := txe (txu L xs k)) hT (txm_lt (by omega)) hR (by rw [hsp.F]; omega) (by rw [hsp.row, List.length_range]; omega) (fun j hj => by
      rw [hsp.F] at hj
      rw [hsp.mk j hj]
      exact ⟨txm_lt (by omega), fun e => by have := fm_inj L xs v (by omega) (by omega) e; omega⟩)
    have hnext : ∃ M2, Tk_next M1 = some M2 ∧ ∃ M', Ps_readArchive_L27 fuel M2 v1 (nI (k + 1)) = some (0, M') ∧ Rel (M'.1 10) (stA L xs v n) ∧ ∀ j, 5 ≤ j → M'.2.2.1 j = M.2.2.1 j := by
      by_cases hz : i = 0
      · have hkn : k + 1 = n := by omega
        rw [hkn, rest_n] at hT1
        obtain ⟨M2, e2, n2⟩ := nx_end hT1
        refine ⟨M2, e2, ?_⟩
        obtain ⟨M', g1, g2, g3⟩ := ih fuel (k + 1) M2 (by omega) (by omega) (by rw [n2.1]; exact hR1) (fun _ => n2.2.2.2.2.1) (fun z => by omega)
        exact ⟨M', g1, g2, fun j hj => (g3 j hj).trans ((n2.2.2.2.2.2 j hj).trans (hi1 j hj))⟩
      · rw [rest_s L xs v (show k + 1 < n by omega)] at hT1
        obtain ⟨l1, l2, l3⟩ := sx_let 1 (by omega)
        obtain ⟨M2, e2, hT2, s2, k2, w2⟩ := tk_word (noW_32 _) hT1 l1 l2 l3
        refine ⟨M2, e2, ?_⟩
        obtain ⟨M', g1, g2, g3⟩ := ih fuel (k + 1) M2 (by omega) (by omega) (by rw [s2.1]; exact hR1) (fun z => absurd z hz) (fun _ => ⟨k2, w2, _, hT2⟩)
        exact ⟨M', g1, g2, fun j hj => (g3 j hj).trans ((s2.2 j hj).trans (hi1 j hj))⟩
    obtain ⟨M2, e2, M', g1, g2, g3⟩ := hnext
    refine ⟨M', ?_, g2, g3⟩
    have n24 : ¬ nI k = 24 := fun z => by have := (q_eq (b := 24) (by omega) (by omega)).mp z; omega
    rw [Ps_readArchive_L27, nI_1, if_neg (show ¬ 24 < nI k from fun z => by have := (q_lt (a := 24) (by omega) (by omega)).mp z; omega), hw]
    simp only [bs]
    rw [if_neg (show ¬ (1 : Int32) = 0 by decide), if_neg n24, e1]
    simp only [bs]
    rw [if_neg (show ¬ (1 : Int32) = 0 by decide), e2]
    simp only [bs]
    rw [g1, if_neg (show ¬ Tk_kind M = 0 from fun z => by
      have z : M.2.2.1 3 = 0 := z
      rw [hkd] at z
      exact absurd z (by decide))]
    split <;> rfl
theorem lda_ok (hn : 1 ≤ n ∧ n ≤ 14) {M : WM} (hb : M.2.1 0 = txT L xs v n ++ B) (hB : B.length < 20) (h7 : M.2.2.1 7 = nI 0) : ∃ W, SA_load M (nI (txT L xs v n).length) = some (nI n, W) ∧ WR W (stA L xs v n) 0 0 := by
  have hlen := txT_len L xs v n
  obtain ⟨b1, b2, b3, b4, -⟩ := t_bd v
  have hO := st_ok L xs v hn
  have hT0 : TX (txT L xs v n) B (Ps_begin M (nI (txT L xs v n).length)) 0 (sx 0 ++ (32 :: (dg (tx1 v) ++ (32 :: (dg (tx2 v) ++ (32 :: (dg (tx3 v) ++ (32 :: (dg (tx4 v) ++ (59 :: rest L xs v n 0)))))))))) := ⟨hb, rfl, rfl, List.drop_zero.trans (rest_0 L xs v n), Nat.zero_le _, by omega, hB⟩
  obtain ⟨M1, p1, e1, hT1, hR1, hi1⟩ := ps_head hT0 (by omega) (by omega) (by omega) (by omega)
  rw [rest_s L xs v (show 0 < n by omega)] at hT1
  obtain ⟨l1, l2, l3⟩ := sx_let 1 (by omega)
  obtain ⟨M2, e2, hT2, s2, k2, w2⟩ := tk_word (noW_32 _) hT1 l1 l2 l3
  obtain ⟨M3, e3, hR3, hi3⟩ := ld_loop (L := L) (xs := xs) (v := v) (B := B) hn (nI (txT L xs v n).length) n FU 0 M2 (Nat.zero_add _) (by unfold FU; omega) (by rw [s2.1]; exact hR1) (fun z => by omega) (fun _ => ⟨k2, w2, _, hT2⟩)
  have e3 : Ps_readArchive_L27 FU M2 (nI (txT L xs v n).length) 0 = some (0, M3) := e3
  have er : Ps_readArchive M (nI (txT L xs v n).length) = some (0, M3) := by
    unfold Ps_readArchive
    simp only [ltb]
    rw [e1]
    simp only [bs]
    rw [if_neg (show ¬ (1 : Int32) = 0 by decide), e2]
    simp only [bs]
    exact e3
  have h37 : M3.2.2.1 7 = nI 0 := (hi3 7 (by omega)).trans ((s2.2 7 (by omega)).trans ((hi1 7 (by omega)).trans h7))
  have hcp := e_cpy (N := M3.1 9) hR3 hO.1
  have hbl : nI (txT L xs v n).length ≤ nI (M.2.1 0).length := by rw [hb, List.length_append]; exact (q_le (by omega) (by omega)).mpr (by omega)
  unfold SA_load
  rw [if_neg (q_neg (by omega)), if_pos hbl, er]
  simp only [bs, ltb]
  rw [if_pos True.intro]
  refine ⟨_, congrArg some (Prod.ext ?_ rfl), ⟨hcp, by omega, by omega, h37, rfl⟩⟩
  show nI ((St_copyFrom (M3.1 10) (M3.1 9)).2 0).length = nI n
  rw [hcp.n0, (sp_ok L xs v n).F]
end LawOk
theorem init_ok : ∃ W0 : WM, SA_init = some W0 ∧ W0.2.1 0 = [] ∧ W0.2.2.1 7 = nI 0 := by
  obtain ⟨M', e, -⟩ := e_begin (W00.1 9) (t1 := 3) (t2 := 2) (t3 := 2) (t4 := 2) (by omega)
  have e : St_begin (W00.1 9) 3 2 2 2 = some M' := e
  unfold SA_init
  rw [if_pos (by decide), e]
  simp only [bs, ltb]
  exact ⟨_, rfl, rfl, rfl⟩
theorem law_ok (L : Nat) (xs : Nat → Int32) (hL : L ≤ 260) : LawOK L xs := by
  obtain ⟨W0, e0, hb0, h70⟩ := init_ok
  have hn := (t_bd (Lw_cell L xs 0)).2.2.2.2
  have hlen := txT_len L xs (Lw_cell L xs 0) (txn (Lw_cell L xs 0))
  have h255 := txT_255 L xs (Lw_cell L xs 0) (txn (Lw_cell L xs 0)) hn.2
  have hFS : FS W0 [] (W0, fun _ => 0) := ⟨hb0, rfl, fun i hi => (wd_nil i).symm, rfl⟩
  obtain ⟨S1, e1, h1⟩ := fs_say (txT L xs (Lw_cell L xs 0) (txn (Lw_cell L xs 0))) [] (W0, fun _ => 0) hFS (by show 0 + _ ≤ 680; omega) (fun x hx => absurd hx List.not_mem_nil) h255
  rw [List.nil_append] at h1
  obtain ⟨S2, B, e2, h2, h3, h4⟩ := fs_end h1 (by omega) h255
  obtain ⟨W, e3, hW⟩ := lda_ok (L := L) (xs := xs) (v := Lw_cell L xs 0) hn (M := S2.1) h2 h4 (by rw [h3]; exact h70)
  obtain ⟨Ws, f0, f1, f2⟩ := run_ok L xs (st_ok L xs (Lw_cell L xs 0) hn) hW
  exact ⟨W0, e0, S1, e1, _, e2, _, e3, rfl, Ws, f0, f1, f2⟩
