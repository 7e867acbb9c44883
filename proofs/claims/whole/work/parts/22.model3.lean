/-! the String constants of the class and the reference: the words 0 .. 8, then the messages; where each is named -/
def sx (i : Nat) : List Int32 := match i with
  | 0 => [97, 114, 99, 104, 105, 118, 101]
  | 1 => [102, 111, 108, 100, 101, 114]
  | 2 => [117, 110, 116, 105, 108]
  | 3 => [115, 108, 105, 112]
  | 4 => [100, 114, 111, 112]
  | 5 => [114, 101, 116, 117, 114, 110]
  | 6 => [100, 97, 121]
  | 7 => [109, 105, 115, 102, 105, 108, 101]
  | 8 => [99, 104, 101, 99, 107]
  | _ => []
def ldcl : List (String × Nat × String × Nat) := [(RX10, 91, "there are not so many bytes in the buffer", 9), (RX10, 161, "there is no such size", 10), (RX10, 163, "there is no such account", 11), (RX10, 177, "there is no such folder", 12), (RX10, 193, "there is no such number of a folder", 13), (RX10, 201, "there is no such reader", 14), (RX10, 209, "there is no such number of a reader", 15), (RX10, 211, "there is no such number of a slip", 16), (RX10, 255, "there is no such reader or folder", 17), (RX10, 270, "days are 0 to 60", 18), (RX10, 275, "hands are 1 to 6", 19), (RX10, 277, "swaps are 0 to 99", 20), (RX10, 297, "days are 1 to 60", 21), (RX10, 305, "swaps are 1 to 99", 22), (RX10, 310, "a day is 0 to 999", 23), (RX11, 55, "slip", 3), (RX11, 57, "drop", 4), (RX11, 59, "return", 5), (RX11, 61, "day", 6), (RX11, 63, "misfile", 7), (RX11, 65, "check", 8), (RX11, 67, "until", 2), (RX11, 376, "folder", 1), (RX11, 390, "archive", 0), (RX4, 42, "folder", 1), (RX4, 69, "archive", 0), (RX4, 97, "until", 2)]
def StrOK (g : Gl) (a : Nat) (cs : List Int32) : Prop := KJ g ∧ StrAt g a cs ∧ (∀ c ∈ cs, c &&& 255 = c) ∧ cs.length < 1000
def KS (g : Gl) (ad : Nat → Nat) : Prop := KJ g ∧ (∀ i, i < 9 → StrAt g (ad i) (sx i)) ∧ ∀ q ∈ ldcl, ∀ U, g.2.2.2 U → vk_R q.1 q.2.1 q.2.2.1 (ad q.2.2.2) U
theorem sx_ok (i : Nat) (hi : i < 9) : (∀ c ∈ sx i, c &&& 255 = c) ∧ (sx i).length < 1000 := by
  rcases (show i = 0 ∨ i = 1 ∨ i = 2 ∨ i = 3 ∨ i = 4 ∨ i = 5 ∨ i = 6 ∨ i = 7 ∨ i = 8 by omega) with rfl | rfl | rfl | rfl | rfl | rfl | rfl | rfl | rfl <;> exact ⟨by decide, by decide⟩
theorem KS.ok {g : Gl} {ad : Nat → Nat} (h : KS g ad) (i : Nat) (hi : i < 9) : StrOK g (ad i) (sx i) := ⟨h.1, h.2.1 i hi, (sx_ok i hi).1, (sx_ok i hi).2⟩
def wi (k : Nat) : Nat := match k with
  | 0 => 3
  | 1 => 4
  | 2 => 5
  | 3 => 6
  | 4 => 7
  | 5 => 8
  | _ => 2
theorem wi_lt (k : Nat) : wi k < 9 := by unfold wi; split <;> decide
abbrev owF (ad : Nat → Nat) : Nat → Option Nat := fun k => some (ad (wi k))
theorem c_strlen (l : Launch) (g : Gl) (σ : Hp) {a : Nat} {cs : List Int32} (h : StrOK g a cs) : MG l g md_J0_length [.ref a] σ (rs (some (.int (nI cs.length))) σ) := c_J0_length l g h.1 σ h.2.1 h.2.2.2
theorem c_strat (l : Launch) (g : Gl) (σ : Hp) {a : Nat} {cs : List Int32} (h : StrOK g a cs) (i : Int32) (hi : inB i cs.length) : MG l g md_J0_charAt [.ref a, .int i] σ (rs (some (.int (cs.getD i.toNatClampNeg 0))) σ) := by
  obtain ⟨j, hj, rfl⟩ := vp_in_of hi (by have := h.2.2.2; omega)
  have hl := h.2.2.2
  rw [nI_clamp (by omega)]
  exact c_J0_charAt l g h.1 σ h.2.1 h.2.2.1 h.2.2.2 j hj
theorem StrOK.obj {g : Gl} {a : Nat} {cs : List Int32} (h : StrOK g a cs) : ∀ U, g.2.2.2 U → va_O "java/lang/String" a (A0 g) U g.1 := fun U hU => (h.2.1.choose_spec U hU).1
section GQ
variable {X : Cx} {l : Launch} {g : Gl} {own : String} {cc : ByteArray} {nL : Nat} {R : Room} {σ : Hp} {k n : Nat} {ls : List (Nat × Value)} {st : List Value}
theorem g_aldq (hx : Ok X l g own cc nL R) (pc : Nat) {b N : Nat} {f : Nat → Option Nat} {i : Int32} (t : Nat) {C : String} {cA : ClassId} (hk : σ.2 b = some (eR t N f)) (ht : (tysG g)[t]? = some (cA, .object C)) (hcA : cA = g.2.2.1 t) (hin : vp_in i N) (hd : decode cc pc = .ok (.aaload, 1)) (h : G X σ k n (pc + 1) ls (va_rf (f i.toNatClampNeg) :: st)) : G X σ k n pc ls (.int i :: .ref b :: st) := by
  obtain ⟨p, l', e, R', s, m, args, below, meth, c, Q, g'⟩ := X
  obtain ⟨h1, h2, h3, h4, h5, h6, h7, h8, rfl, rfl, rfl⟩ := hx
  intro H locs la hP hS hL
  subst hcA
  exact va_aldq h1 h2 h6 (hP.one hk) 0 t rfl ht hin hd (h H locs la hP hS hL)
theorem g_alenq (hx : Ok X l g own cc nL R) (pc : Nat) {b N : Nat} {f : Nat → Option Nat} (t : Nat) {ty : FieldType} {cA : ClassId} (hk : σ.2 b = some (eR t N f)) (ht : (tysG g)[t]? = some (cA, ty)) (hcA : cA = g.2.2.1 t) (hd : decode cc pc = .ok (.arraylength, 1)) (h : G X σ k n (pc + 1) ls (.int (nI N) :: st)) : G X σ k n pc ls (.ref b :: st) := by
  obtain ⟨p, l', e, R', s, m, args, below, meth, c, Q, g'⟩ := X
  obtain ⟨h1, h2, h3, h4, h5, h6, h7, h8, rfl, rfl, rfl⟩ := hx
  intro H locs la hP hS hL
  subst hcA
  exact va_alen h1 h2 h6 (hP.one hk) 0 t rfl ht rfl hd (h H locs la hP hS hL)
theorem g_ldcwS (hx : Ok X l g own cc nL R) (pc : Nat) {tx : String} {idx q : Nat} (hZ : ∀ U, g.2.2.2 U → vk_R own idx tx q U) (hd : decode cc pc = .ok (.ldc_w idx, 3)) (h : G X σ k n (pc + 3) ls (.ref q :: st)) : G X σ k n pc ls st := by
  obtain ⟨p, l', e, R', s, m, args, below, meth, c, Q, g'⟩ := X
  obtain ⟨h1, h2, h3, h4, h5, h6, h7, h8, rfl, rfl, rfl⟩ := hx
  intro H locs la hP hS hL
  intro T hT Y
  obtain ⟨t, a1, b1⟩ := h H locs la hP hS hL T hT Y
  have hz := hZ s h8.1
  exact ⟨t, Y.ldcStringW h1 h4 (text := tx) (a := q) hz.1 hz.2 (g := F0 m pc la st) rfl (by rw [h2]; exact hd) t a1, b1⟩
end GQ
theorem lt'_e' {α β : Type} {a : α} {f : α → β} {r : β} (h : lt' a f = r) : ∃ x, a = x ∧ f x = r := ⟨a, rfl, h⟩
def md_Md_isWord : Md := (yX11_isWord, cX11_isWord, 4, some .boolean, 4, 100, 0, 0)
def md_Md_accept : Md := (yX11_accept, cX11_accept, 3, some .boolean, 5, 123, 0, 0)
def md_Md_readFolder : Md := (yX11_readFolder, cX11_readFolder, 3, none, 6, 145, 0, 0)
def md_Md_readText : Md := (yX11_readText, cX11_readText, 5, none, 7, 167, 0, 0)
def md_Md_orderHere : Md := (yX11_orderHere, cX11_orderHere, 2, some .int, 5, 123, 0, 0)
def md_Md_readOrder : Md := (yX11_readOrder, cX11_readOrder, 3, none, 6, 144, 0, 0)
def md_Md_load : Md := (yX11_load, cX11_load, 2, some .int, 8, 191, 0, 0)
def md_Md_play : Md := (yX11_play, cX11_play, 3, some .int, 9, 202, 0, 0)
theorem lk_X11_348 : Lk md_J0_length [.methodLink RX11 348 md_J0_length.y, .instanceMethod md_J0_length.y, .selects md_J0_length.y.cls md_J0_length.y md_J0_length.y] := lk_of (by decide +kernel)
theorem lk_X11_351 : Lk md_J0_charAt [.methodLink RX11 351 md_J0_charAt.y, .instanceMethod md_J0_charAt.y, .selects md_J0_charAt.y.cls md_J0_charAt.y md_J0_charAt.y] := lk_of (by decide +kernel)
theorem lk_X11_355 : Lk md_Md_isWord [.methodLink RX11 355 md_Md_isWord.y, .instanceMethod md_Md_isWord.y, .selects md_Md_isWord.y.cls md_Md_isWord.y md_Md_isWord.y] := lk_of (by decide +kernel)
theorem ar_Md_isWord : Arity md_Md_isWord 1 := ⟨by decide +kernel, by decide +kernel, by decide +kernel⟩
theorem lk_X11_378 : Lk md_Md_readNewMark [.methodLink RX11 378 md_Md_readNewMark.y, .instanceMethod md_Md_readNewMark.y, .selects md_Md_readNewMark.y.cls md_Md_readNewMark.y md_Md_readNewMark.y] := lk_of (by decide +kernel)
theorem ar_Md_readNewMark : Arity md_Md_readNewMark 0 := ⟨by decide +kernel, by decide +kernel, by decide +kernel⟩
theorem lk_X11_381 : Lk md_Md_accept [.methodLink RX11 381 md_Md_accept.y, .instanceMethod md_Md_accept.y, .selects md_Md_accept.y.cls md_Md_accept.y md_Md_accept.y] := lk_of (by decide +kernel)
theorem ar_Md_accept : Arity md_Md_accept 1 := ⟨by decide +kernel, by decide +kernel, by decide +kernel⟩
theorem lk_X11_387 : Lk md_Md_expect [.methodLink RX11 387 md_Md_expect.y, .instanceMethod md_Md_expect.y, .selects md_Md_expect.y.cls md_Md_expect.y md_Md_expect.y] := lk_of (by decide +kernel)
theorem ar_Md_expect : Arity md_Md_expect 1 := ⟨by decide +kernel, by decide +kernel, by decide +kernel⟩
theorem lk_X11_77 : Lk md_Md_addFolder [.methodLink RX11 77 md_Md_addFolder.y, .instanceMethod md_Md_addFolder.y, .selects md_Md_addFolder.y.cls md_Md_addFolder.y md_Md_addFolder.y] := lk_of (by decide +kernel)
theorem ar_Md_addFolder : Arity md_Md_addFolder 2 := ⟨by decide +kernel, by decide +kernel, by decide +kernel⟩
theorem lk_X11_73 : Lk md_Md_begin [.methodLink RX11 73 md_Md_begin.y, .instanceMethod md_Md_begin.y, .selects md_Md_begin.y.cls md_Md_begin.y md_Md_begin.y] := lk_of (by decide +kernel)
theorem ar_Md_begin : Arity md_Md_begin 4 := ⟨by decide +kernel, by decide +kernel, by decide +kernel⟩
theorem lk_X11_392 : Lk md_Md_readFolder [.methodLink RX11 392 md_Md_readFolder.y, .instanceMethod md_Md_readFolder.y, .selects md_Md_readFolder.y.cls md_Md_readFolder.y md_Md_readFolder.y] := lk_of (by decide +kernel)
theorem ar_Md_readFolder : Arity md_Md_readFolder 0 := ⟨by decide +kernel, by decide +kernel, by decide +kernel⟩
theorem fl_X11_69 : Cond.fieldLink RX11 69 (TX11 28).1 (TX11 28).2.1 (TX11 28).2.2.1 ∈ aw := aw1 (by decide +kernel)
theorem lk_X11_404 : Lk md_Md_orderHere [.methodLink RX11 404 md_Md_orderHere.y, .instanceMethod md_Md_orderHere.y, .selects md_Md_orderHere.y.cls md_Md_orderHere.y md_Md_orderHere.y] := lk_of (by decide +kernel)
theorem ar_Md_orderHere : Arity md_Md_orderHere 0 := ⟨by decide +kernel, by decide +kernel, by decide +kernel⟩
theorem fl_X11_407 : Cond.fieldLink RX11 407 (TX11 29).1 (TX11 29).2.1 (TX11 29).2.2.1 ∈ aw := aw1 (by decide +kernel)
theorem lk_X11_410 : Lk md_Md_readFirst [.methodLink RX11 410 md_Md_readFirst.y, .instanceMethod md_Md_readFirst.y, .selects md_Md_readFirst.y.cls md_Md_readFirst.y md_Md_readFirst.y] := lk_of (by decide +kernel)
theorem ar_Md_readFirst : Arity md_Md_readFirst 1 := ⟨by decide +kernel, by decide +kernel, by decide +kernel⟩
theorem lk_X11_413 : Lk md_Md_readSecond [.methodLink RX11 413 md_Md_readSecond.y, .instanceMethod md_Md_readSecond.y, .selects md_Md_readSecond.y.cls md_Md_readSecond.y md_Md_readSecond.y] := lk_of (by decide +kernel)
theorem ar_Md_readSecond : Arity md_Md_readSecond 1 := ⟨by decide +kernel, by decide +kernel, by decide +kernel⟩
theorem lk_X11_395 : Lk md_Md_startText [.methodLink RX11 395 md_Md_startText.y, .instanceMethod md_Md_startText.y, .selects md_Md_startText.y.cls md_Md_startText.y md_Md_startText.y] := lk_of (by decide +kernel)
theorem ar_Md_startText : Arity md_Md_startText 1 := ⟨by decide +kernel, by decide +kernel, by decide +kernel⟩
theorem fl_X11_13 : Cond.fieldLink RX11 13 (TX11 1).1 (TX11 1).2.1 (TX11 1).2.2.1 ∈ aw := aw1 (by decide +kernel)
theorem lk_X11_398 : Lk md_Md_readText [.methodLink RX11 398 md_Md_readText.y, .instanceMethod md_Md_readText.y, .selects md_Md_readText.y.cls md_Md_readText.y md_Md_readText.y] := lk_of (by decide +kernel)
theorem ar_Md_readText : Arity md_Md_readText 0 := ⟨by decide +kernel, by decide +kernel, by decide +kernel⟩
theorem lk_X11_401 : Lk md_Md_finish [.methodLink RX11 401 md_Md_finish.y, .instanceMethod md_Md_finish.y, .selects md_Md_finish.y.cls md_Md_finish.y md_Md_finish.y] := lk_of (by decide +kernel)
theorem ar_Md_finish : Arity md_Md_finish 0 := ⟨by decide +kernel, by decide +kernel, by decide +kernel⟩
theorem lk_X11_425 : Lk md_Md_does [.methodLink RX11 425 md_Md_does.y, .instanceMethod md_Md_does.y, .selects md_Md_does.y.cls md_Md_does.y md_Md_does.y] := lk_of (by decide +kernel)
theorem ar_Md_does : Arity md_Md_does 1 := ⟨by decide +kernel, by decide +kernel, by decide +kernel⟩
theorem lk_X11_422 : Lk md_Md_readOrder [.methodLink RX11 422 md_Md_readOrder.y, .instanceMethod md_Md_readOrder.y, .selects md_Md_readOrder.y.cls md_Md_readOrder.y md_Md_readOrder.y] := lk_of (by decide +kernel)
theorem ar_Md_readOrder : Arity md_Md_readOrder 0 := ⟨by decide +kernel, by decide +kernel, by decide +kernel⟩
def Md_isWord_L39 (ρ : Nat) (cs : List Int32) (M : MdM) : Nat → Int32 → Int32 → Option (Int32)
  | 0, _, _ => none
  | n + 1, v2_1110, v3_1111 => if v2_1110 = 0 then (if v2_1110 = 0 ∨ v2_1110 = 1 then (some (v2_1110)) else none) else (if nI cs.length ≤ v3_1111 then (if v2_1110 = 0 ∨ v2_1110 = 1 then (some (v2_1110)) else none) else (if inB v3_1111 cs.length then (if inB ((M.1 21) + v3_1111) 700 then (Option.bind (if cs.getD v3_1111.toNatClampNeg 0 = (M.2 10) ((M.1 21) + v3_1111).toNatClampNeg then (some 1) else (some 0)) fun b_1119 => Md_isWord_L39 ρ cs M n b_1119 (v3_1111 + 1)) else none) else none))
def Md_isWord (ρ : Nat) (cs : List Int32) (M : MdM) : Option (Int32) := Option.bind (if M.1 23 = 0 then (if M.1 22 = 1 then (if nI cs.length = (M.1 20) - (M.1 21) then (some 1) else (some 0)) else (some 0)) else (some 0)) fun b_1109 => Md_isWord_L39 ρ cs M FU b_1109 0
set_option maxRecDepth 100000 in
set_option maxHeartbeats 4000000 in
theorem w_Md_isWord_L39 {ρ : Nat} (hρ : ρ < 2) {a1 : Nat} {cs : List Int32} {X : Cx} {l : Launch} {g : Gl} (hx : Ok X l g RX11 cX11_isWord 4 md_Md_isWord.rm) (hs : StrOK g a1 cs) {σ : Hp} {T : Nat} {ow : Nat → Option Nat} {M : MdM} {r : Int32} (hR : Ret X (rs (some (.int r)) (putMd σ T ow ρ M)) 0 0 (some .boolean)) : ∀ (n : Nat) (v2_1110 v3_1111 : Int32), Md_isWord_L39 ρ cs M n v2_1110 v3_1111 = some r → G X (putMd σ T ow ρ M) 0 0 39 [(0, .ref T), (1, .ref a1), (2, .int v2_1110), (3, .int v3_1111)] [] := by
  intro n
  induction n with
  | zero =>
    intro v2_1110 v3_1111 hr
    rw [Md_isWord_L39] at hr
    cases hr
  | succ n ih =>
    intro v2_1110 v3_1111 hr
    rw [Md_isWord_L39] at hr
    refine g_iload_n hx 39 (i := 2) 2 dX11_isWord_39 rfl rfl ?_
    refine g_if_eq hx 40 82 dX11_isWord_40 (by decide) (fun hc_1112 => ?_) (fun hc_1112 => ?_)
    · have hr := (if_pos hc_1112).symm.trans hr
      refine g_iload_n hx 82 (i := 2) 2 dX11_isWord_82 rfl rfl ?_
      obtain ⟨hz_1113, hr⟩ := ob hr
      exact g_zret hx hR 83 hz_1113 dX11_isWord_83 ⟨by rw [← Option.some.inj hr] <;> rfl, rfl⟩
    · have hr := (if_neg hc_1112).symm.trans hr
      refine g_iload_n hx 43 (i := 3) 3 dX11_isWord_43 rfl rfl ?_
      refine g_aload_n hx 44 (i := 1) 1 dX11_isWord_44 rfl rfl ?_
      refine g_callX hx (c_strlen l g _ hs) lk_X11_348 ar_J0_length (StrOK.obj hs) (As := []) (rest := [.int v3_1111]) rfl (Nat.le_of_ble_eq_true rfl) ⟨Nat.le_of_ble_eq_true rfl, Nat.le_of_ble_eq_true rfl⟩ ⟨rfl, rfl⟩ ⟨Nat.zero_le _, Nat.zero_le _⟩ dX11_isWord_45 ?_
      refine g_icmp_ge hx 48 82 dX11_isWord_48 (by decide) (fun hc_1114 => ?_) (fun hc_1114 => ?_)
      · have hr := (if_pos hc_1114).symm.trans hr
        refine g_iload_n hx 82 (i := 2) 2 dX11_isWord_82 rfl rfl ?_
        obtain ⟨hz_1115, hr⟩ := ob hr
        exact g_zret hx hR 83 hz_1115 dX11_isWord_83 ⟨by rw [← Option.some.inj hr] <;> rfl, rfl⟩
      · have hr := (if_neg hc_1114).symm.trans hr
        refine g_aload_n hx 51 (i := 1) 1 dX11_isWord_51 rfl rfl ?_
        refine g_iload_n hx 52 (i := 3) 3 dX11_isWord_52 rfl rfl ?_
        obtain ⟨hb_1116, hr⟩ := ob hr
        refine g_callX hx (c_strat l g _ hs v3_1111 hb_1116) lk_X11_351 ar_J0_charAt (StrOK.obj hs) (As := [.int v3_1111]) (rest := []) rfl (Nat.le_of_ble_eq_true rfl) ⟨Nat.le_of_ble_eq_true rfl, Nat.le_of_ble_eq_true rfl⟩ ⟨rfl, rfl⟩ ⟨Nat.zero_le _, Nat.zero_le _⟩ dX11_isWord_53 ?_
        refine g_aload_n hx 56 (i := 0) 0 dX11_isWord_56 rfl rfl ?_
        refine g_get hx 57 (C := RX11) (T := TX11) (N := 30) 17 (.ref (T + 11)) (pM_o σ T ow ρ M) rfl (by decide) rfl fl_X11_43 dX11_isWord_57 ?_
        refine g_aload_n hx 60 (i := 0) 0 dX11_isWord_60 rfl rfl ?_
        refine g_get hx 61 (C := RX11) (T := TX11) (N := 30) 21 (.int (M.1 21)) (pM_o σ T ow ρ M) rfl (by decide) rfl fl_X11_324 dX11_isWord_61 ?_
        refine g_iload_n hx 64 (i := 3) 3 dX11_isWord_64 rfl rfl ?_
        refine g_iadd hx 65 dX11_isWord_65 ?_
        obtain ⟨hb_1117, hr⟩ := ob hr
        refine g_iald hx 66 (pM_a σ T ow ρ M 10 (by decide)) hb_1117 dX11_isWord_66 ?_
        obtain ⟨b_1119, eb_1119, hr⟩ := bind_e hr
        have rest : G X (putMd σ T ow ρ M) 0 0 75 [(0, .ref T), (1, .ref a1), (2, .int v2_1110), (3, .int v3_1111)] [.int b_1119] := by
          refine g_istore_n hx 75 (i := 2) [(2, .int b_1119), (0, .ref T), (1, .ref a1), (3, .int v3_1111)] dX11_isWord_75 rfl (by decide) rfl ?_
          refine g_iinc hx 76 (i := 3) 3 (v3_1111 + 1) [(3, .int (v3_1111 + 1)), (2, .int b_1119), (0, .ref T), (1, .ref a1)] dX11_isWord_76 rfl rfl (by decide) rfl ?_
          refine g_goto hx 79 39 dX11_isWord_79 (by decide) ?_
          refine g_ls [2, 3, 1, 0] [(0, .ref T), (1, .ref a1), (2, .int b_1119), (3, .int (v3_1111 + 1))] rfl ?_
          exact ih b_1119 (v3_1111 + 1) hr
        clear hr
        have hr := eb_1119
        refine g_icmp_ne hx 67 74 dX11_isWord_67 (by decide) (fun hc_1118 => ?_) (fun hc_1118 => ?_)
        · have hr := (if_neg hc_1118).symm.trans hr
          refine g_iconst hx 74 (0) dX11_isWord_74 rfl ?_
          exact g_nmi (Option.some.inj hr).symm rest
        · have hr := (if_pos hc_1118).symm.trans hr
          refine g_iconst hx 70 (1) dX11_isWord_70 rfl ?_
          refine g_goto hx 71 75 dX11_isWord_71 (by decide) ?_
          exact g_nmi (Option.some.inj hr).symm rest
set_option maxRecDepth 100000 in
set_option maxHeartbeats 4000000 in
theorem c_Md_isWord {ρ : Nat} (hρ : ρ < 2) {a1 : Nat} {cs : List Int32} (l : Launch) (g : Gl) (hs : StrOK g a1 cs) (σ : Hp) (T : Nat) (ow : Nat → Option Nat) (M : MdM) {r : Int32} (hr : Md_isWord ρ cs M = some r) : MG l g md_Md_isWord [.ref T, .ref a1] (putMd σ T ow ρ M) (rs (some (.int r)) (putMd σ T ow ρ M)) := by
  refine MG.intro (by decide +kernel) (Nat.le_of_ble_eq_true rfl) (fun X hx hR _ => ?_)
  unfold Md_isWord at hr
  refine g_ls [0, 1] [(0, .ref T), (1, .ref a1)] rfl ?_
  refine g_aload_n hx 0 (i := 0) 0 dX11_isWord_0 rfl rfl ?_
  refine g_get hx 1 (C := RX11) (T := TX11) (N := 30) 23 (.int (M.1 23)) (pM_o σ T ow ρ M) rfl (by decide) rfl fl_X11_336 dX11_isWord_1 ?_
  obtain ⟨b_1109, eb_1109, hr⟩ := bind_e hr
  have rest : G X (putMd σ T ow ρ M) 0 0 36 [(0, .ref T), (1, .ref a1)] [.int b_1109] := by
    refine g_istore_n hx 36 (i := 2) [(2, .int b_1109), (0, .ref T), (1, .ref a1)] dX11_isWord_36 rfl (by decide) rfl ?_
    refine g_iconst hx 37 (0) dX11_isWord_37 rfl ?_
    refine g_istore_n hx 38 (i := 3) [(3, .int 0), (2, .int b_1109), (0, .ref T), (1, .ref a1)] dX11_isWord_38 rfl (by decide) rfl ?_
    refine g_ls [2, 3, 1, 0] [(0, .ref T), (1, .ref a1), (2, .int b_1109), (3, .int 0)] rfl ?_
    exact w_Md_isWord_L39 hρ hx hs hR FU b_1109 0 hr
  clear hr
  have hr := eb_1109
  refine g_if_ne hx 4 35 dX11_isWord_4 (by decide) (fun hc_1106 => ?_) (fun hc_1106 => ?_)
  · have hr := (if_neg hc_1106).symm.trans hr
    refine g_iconst hx 35 (0) dX11_isWord_35 rfl ?_
    exact g_nmi (Option.some.inj hr).symm rest
  · have hr := (if_pos hc_1106).symm.trans hr
    refine g_aload_n hx 7 (i := 0) 0 dX11_isWord_7 rfl rfl ?_
    refine g_get hx 8 (C := RX11) (T := TX11) (N := 30) 22 (.int (M.1 22)) (pM_o σ T ow ρ M) rfl (by decide) rfl fl_X11_327 dX11_isWord_8 ?_
    refine g_iconst hx 11 (1) dX11_isWord_11 rfl ?_
    refine g_icmp_ne hx 12 35 dX11_isWord_12 (by decide) (fun hc_1107 => ?_) (fun hc_1107 => ?_)
    · have hr := (if_neg hc_1107).symm.trans hr
      refine g_iconst hx 35 (0) dX11_isWord_35 rfl ?_
      exact g_nmi (Option.some.inj hr).symm rest
    · have hr := (if_pos hc_1107).symm.trans hr
      refine g_aload_n hx 15 (i := 1) 1 dX11_isWord_15 rfl rfl ?_
      refine g_callX hx (c_strlen l g _ hs) lk_X11_348 ar_J0_length (StrOK.obj hs) (As := []) (rest := []) rfl (Nat.le_of_ble_eq_true rfl) ⟨Nat.le_of_ble_eq_true rfl, Nat.le_of_ble_eq_true rfl⟩ ⟨rfl, rfl⟩ ⟨Nat.zero_le _, Nat.zero_le _⟩ dX11_isWord_16 ?_
      refine g_aload_n hx 19 (i := 0) 0 dX11_isWord_19 rfl rfl ?_
      refine g_get hx 20 (C := RX11) (T := TX11) (N := 30) 20 (.int (M.1 20)) (pM_o σ T ow ρ M) rfl (by decide) rfl fl_X11_321 dX11_isWord_20 ?_
      refine g_aload_n hx 23 (i := 0) 0 dX11_isWord_23 rfl rfl ?_
      refine g_get hx 24 (C := RX11) (T := TX11) (N := 30) 21 (.int (M.1 21)) (pM_o σ T ow ρ M) rfl (by decide) rfl fl_X11_324 dX11_isWord_24 ?_
      refine g_isub hx 27 dX11_isWord_27 ?_
      refine g_icmp_ne hx 28 35 dX11_isWord_28 (by decide) (fun hc_1108 => ?_) (fun hc_1108 => ?_)
      · have hr := (if_neg hc_1108).symm.trans hr
        refine g_iconst hx 35 (0) dX11_isWord_35 rfl ?_
        exact g_nmi (Option.some.inj hr).symm rest
      · have hr := (if_pos hc_1108).symm.trans hr
        refine g_iconst hx 31 (1) dX11_isWord_31 rfl ?_
        refine g_goto hx 32 36 dX11_isWord_32 (by decide) ?_
        exact g_nmi (Option.some.inj hr).symm rest
def Md_accept (ρ : Nat) (cs : List Int32) (M : MdM) : Option (Int32 × MdM) := Option.bind (Md_isWord ρ cs M) fun q_1120 => if q_1120 = 0 then (if q_1120 = 0 ∨ q_1120 = 1 then (some ((q_1120, M))) else none) else (Option.bind (Md_scan ρ M) fun M_1123 => if q_1120 = 0 ∨ q_1120 = 1 then (some ((q_1120, M_1123))) else none)
set_option maxRecDepth 100000 in
set_option maxHeartbeats 4000000 in
theorem c_Md_accept {ρ : Nat} (hρ : ρ < 2) {a1 : Nat} {cs : List Int32} (l : Launch) (g : Gl) (hs : StrOK g a1 cs) (σ : Hp) (T : Nat) (ow : Nat → Option Nat) (M : MdM) {r : Int32 × MdM} (hr : Md_accept ρ cs M = some r) : MG l g md_Md_accept [.ref T, .ref a1] (putMd σ T ow ρ M) (rs (some (.int r.1)) (putMd σ T ow ρ r.2)) := by
  refine MG.intro (by decide +kernel) (Nat.le_of_ble_eq_true rfl) (fun X hx hR _ => ?_)
  unfold Md_accept at hr
  refine g_ls [0, 1] [(0, .ref T), (1, .ref a1)] rfl ?_
  refine g_aload_n hx 0 (i := 0) 0 dX11_accept_0 rfl rfl ?_
  refine g_aload_n hx 1 (i := 1) 1 dX11_accept_1 rfl rfl ?_
  obtain ⟨q_1120, eq_1120, hr⟩ := bind_e hr
  refine g_callVr hx (c_Md_isWord hρ l g hs σ T ow M eq_1120) lk_X11_355 ar_Md_isWord (pM_o σ T ow ρ M) (T := TX11) (N := 30) rfl (As := [.ref a1]) (rest := []) rfl (Nat.le_of_ble_eq_true rfl) ⟨Nat.le_of_ble_eq_true rfl, Nat.le_of_ble_eq_true rfl⟩ ⟨rfl, rfl⟩ ⟨Nat.zero_le _, Nat.zero_le _⟩ dX11_accept_2 ?_
  refine g_istore_n hx 5 (i := 2) [(2, .int q_1120), (0, .ref T), (1, .ref a1)] dX11_accept_5 rfl (by decide) rfl ?_
  refine g_iload_n hx 6 (i := 2) 0 dX11_accept_6 rfl rfl ?_
  refine g_if_eq hx 7 14 dX11_accept_7 (by decide) (fun hc_1121 => ?_) (fun hc_1121 => ?_)
  · have hr := (if_pos hc_1121).symm.trans hr
    refine g_iload_n hx 14 (i := 2) 0 dX11_accept_14 rfl rfl ?_
    obtain ⟨hz_1122, hr⟩ := ob hr
    exact g_zret hx hR 15 hz_1122 dX11_accept_15 ⟨by rw [← Option.some.inj hr] <;> rfl, by rw [← Option.some.inj hr] <;> rfl⟩
  · have hr := (if_neg hc_1121).symm.trans hr
    refine g_aload_n hx 10 (i := 0) 1 dX11_accept_10 rfl rfl ?_
    obtain ⟨M_1123, eM_1123, hr⟩ := bind_e hr
    refine g_callVv hx (c_Md_scan hρ l g σ T ow M eM_1123) lk_X11_342 ar_Md_scan (pM_o σ T ow ρ M) (T := TX11) (N := 30) rfl (As := []) (rest := []) rfl (Nat.le_of_ble_eq_true rfl) ⟨Nat.le_of_ble_eq_true rfl, Nat.le_of_ble_eq_true rfl⟩ ⟨rfl, rfl⟩ ⟨Nat.zero_le _, Nat.zero_le _⟩ dX11_accept_11 ?_
    refine g_iload_n hx 14 (i := 2) 0 dX11_accept_14 rfl rfl ?_
    obtain ⟨hz_1124, hr⟩ := ob hr
    exact g_zret hx hR 15 hz_1124 dX11_accept_15 ⟨by rw [← Option.some.inj hr] <;> rfl, by rw [← Option.some.inj hr] <;> rfl⟩
def Md_readFolder (ρ : Nat) (M : MdM) : Option (MdM) := Option.bind (if M.1 23 = 0 then (Option.bind (Md_isWord ρ (sx 1) M) fun q_1126 => if q_1126 = 0 then (some 0) else (some 1)) else (some 1)) fun b_1128 => lt' (Md_demand ρ M b_1128 1) fun M_1129 => Option.bind (if M_1129.1 23 = 0 then (if 24 ≤ (M_1129.2 ρ) (5 : Int32).toNatClampNeg then (some 0) else (some 1)) else (some 1)) fun b_1133 => lt' (Md_demand ρ M_1129 b_1133 4) fun M_1134 => Option.bind (Md_advance ρ M_1134) fun M_1135 => Option.bind (Md_readNewMark ρ M_1135) fun q_1136 => lt' (q_1136.1) fun v1_1137 => Option.bind (Md_accept ρ (sx 2) q_1136.2) fun q_1138 => if q_1138.1 = 0 then (Option.bind (Md_expect ρ q_1138.2 59) fun M_1140 => if M_1140.1 23 = 0 then (Option.bind (Md_addFolder ρ M_1140 v1_1137 0) fun M_1142 => some (M_1142)) else (some (M_1140))) else (Option.bind (Md_readNumber ρ q_1138.2 0 999) fun q_1143 => lt' (q_1143.1) fun v2_1144 => Option.bind (Md_expect ρ q_1143.2 59) fun M_1145 => if M_1145.1 23 = 0 then (Option.bind (Md_addFolder ρ M_1145 v1_1137 v2_1144) fun M_1147 => some (M_1147)) else (some (M_1145)))
set_option maxRecDepth 100000 in
set_option maxHeartbeats 4000000 in
theorem c_Md_readFolder {ρ : Nat} (hρ : ρ < 2) {ad : Nat → Nat} (l : Launch) (g : Gl) (hC : KS g ad) (σ : Hp) (T : Nat) (M : MdM) {r : MdM} (hr : Md_readFolder ρ M = some r) : MG l g md_Md_readFolder [.ref T] (putMd σ T (owF ad) ρ M) (rs none (putMd σ T (owF ad) ρ r)) := by
  refine MG.intro (by decide +kernel) (Nat.le_of_ble_eq_true rfl) (fun X hx hR _ => ?_)
  unfold Md_readFolder at hr
  refine g_ls [0] [(0, .ref T)] rfl ?_
  refine g_aload_n hx 0 (i := 0) 0 dX11_readFolder_0 rfl rfl ?_
  refine g_aload_n hx 1 (i := 0) 0 dX11_readFolder_1 rfl rfl ?_
  refine g_get hx 2 (C := RX11) (T := TX11) (N := 30) 23 (.int (M.1 23)) (pM_o σ T (owF ad) ρ M) rfl (by decide) rfl fl_X11_336 dX11_readFolder_2 ?_
  obtain ⟨b_1128, eb_1128, hr⟩ := bind_e hr
  have rest : G X (putMd σ T (owF ad) ρ M) 0 0 23 [(0, .ref T)] [.int b_1128, .ref T] := by
    refine g_iconst hx 23 (1) dX11_readFolder_23 rfl ?_
    obtain ⟨M_1129, eM_1129, hr⟩ := lt'_e hr
    refine g_callVv hx (c_Md_demand hρ l g σ T (owF ad) M b_1128 1 eM_1129.symm) lk_X11_362 ar_Md_demand (pM_o σ T (owF ad) ρ M) (T := TX11) (N := 30) rfl (As := [.int b_1128, .int 1]) (rest := []) rfl (Nat.le_of_ble_eq_true rfl) ⟨Nat.le_of_ble_eq_true rfl, Nat.le_of_ble_eq_true rfl⟩ ⟨rfl, rfl⟩ ⟨Nat.zero_le _, Nat.zero_le _⟩ dX11_readFolder_24 ?_
    refine g_aload_n hx 27 (i := 0) 0 dX11_readFolder_27 rfl rfl ?_
    refine g_aload_n hx 28 (i := 0) 0 dX11_readFolder_28 rfl rfl ?_
    refine g_get hx 29 (C := RX11) (T := TX11) (N := 30) 23 (.int (M_1129.1 23)) (pM_o σ T (owF ad) ρ M_1129) rfl (by decide) rfl fl_X11_336 dX11_readFolder_29 ?_
    obtain ⟨b_1133, eb_1133, hr⟩ := bind_e hr
    have rest : G X (putMd σ T (owF ad) ρ M_1129) 0 0 51 [(0, .ref T)] [.int b_1133, .ref T] := by
      refine g_iconst hx 51 (4) dX11_readFolder_51 rfl ?_
      obtain ⟨M_1134, eM_1134, hr⟩ := lt'_e hr
      refine g_callVv hx (c_Md_demand hρ l g σ T (owF ad) M_1129 b_1133 4 eM_1134.symm) lk_X11_362 ar_Md_demand (pM_o σ T (owF ad) ρ M_1129) (T := TX11) (N := 30) rfl (As := [.int b_1133, .int 4]) (rest := []) rfl (Nat.le_of_ble_eq_true rfl) ⟨Nat.le_of_ble_eq_true rfl, Nat.le_of_ble_eq_true rfl⟩ ⟨rfl, rfl⟩ ⟨Nat.zero_le _, Nat.zero_le _⟩ dX11_readFolder_52 ?_
      refine g_aload_n hx 55 (i := 0) 0 dX11_readFolder_55 rfl rfl ?_
      obtain ⟨M_1135, eM_1135, hr⟩ := bind_e hr
      refine g_callVv hx (c_Md_advance hρ l g σ T (owF ad) M_1134 eM_1135) lk_X11_366 ar_Md_advance (pM_o σ T (owF ad) ρ M_1134) (T := TX11) (N := 30) rfl (As := []) (rest := []) rfl (Nat.le_of_ble_eq_true rfl) ⟨Nat.le_of_ble_eq_true rfl, Nat.le_of_ble_eq_true rfl⟩ ⟨rfl, rfl⟩ ⟨Nat.zero_le _, Nat.zero_le _⟩ dX11_readFolder_56 ?_
      refine g_aload_n hx 59 (i := 0) 0 dX11_readFolder_59 rfl rfl ?_
      obtain ⟨q_1136, eq_1136, hr⟩ := bind_e hr
      refine g_callVr hx (c_Md_readNewMark hρ l g σ T (owF ad) M_1135 eq_1136) lk_X11_378 ar_Md_readNewMark (pM_o σ T (owF ad) ρ M_1135) (T := TX11) (N := 30) rfl (As := []) (rest := []) rfl (Nat.le_of_ble_eq_true rfl) ⟨Nat.le_of_ble_eq_true rfl, Nat.le_of_ble_eq_true rfl⟩ ⟨rfl, rfl⟩ ⟨Nat.zero_le _, Nat.zero_le _⟩ dX11_readFolder_60 ?_
      obtain ⟨v1_1137, ev1_1137, hr⟩ := lt'_e hr
      refine g_nmi ev1_1137 ?_
      refine g_istore_n hx 63 (i := 1) [(1, .int v1_1137), (0, .ref T)] dX11_readFolder_63 rfl (by decide) rfl ?_
      refine g_aload_n hx 64 (i := 0) 1 dX11_readFolder_64 rfl rfl ?_
      refine g_ldcS hx 65 (hC.2.2 _ (List.mem_of_getElem? (i := 21) rfl)) dX11_readFolder_65 ?_
      obtain ⟨q_1138, eq_1138, hr⟩ := bind_e hr
      refine g_callVr hx (c_Md_accept hρ l g (hC.ok 2 (by decide)) σ T (owF ad) q_1136.2 eq_1138) lk_X11_381 ar_Md_accept (pM_o σ T (owF ad) ρ q_1136.2) (T := TX11) (N := 30) rfl (As := [.ref (ad 2)]) (rest := []) rfl (Nat.le_of_ble_eq_true rfl) ⟨Nat.le_of_ble_eq_true rfl, Nat.le_of_ble_eq_true rfl⟩ ⟨rfl, rfl⟩ ⟨Nat.zero_le _, Nat.zero_le _⟩ dX11_readFolder_67 ?_
      refine g_if_eq hx 70 84 dX11_readFolder_70 (by decide) (fun hc_1139 => ?_) (fun hc_1139 => ?_)
      · have hr := (if_pos hc_1139).symm.trans hr
        refine g_iconst hx 84 (0) dX11_readFolder_84 rfl ?_
        refine g_istore_n hx 85 (i := 2) [(2, .int 0), (1, .int v1_1137), (0, .ref T)] dX11_readFolder_85 rfl (by decide) rfl ?_
        refine g_aload_n hx 86 (i := 0) 2 dX11_readFolder_86 rfl rfl ?_
        refine g_bipush hx 87 (59) dX11_readFolder_87 rfl ?_
        obtain ⟨M_1140, eM_1140, hr⟩ := bind_e hr
        refine g_callVv hx (c_Md_expect hρ l g σ T (owF ad) q_1138.2 59 eM_1140) lk_X11_387 ar_Md_expect (pM_o σ T (owF ad) ρ q_1138.2) (T := TX11) (N := 30) rfl (As := [.int 59]) (rest := []) rfl (Nat.le_of_ble_eq_true rfl) ⟨Nat.le_of_ble_eq_true rfl, Nat.le_of_ble_eq_true rfl⟩ ⟨rfl, rfl⟩ ⟨Nat.zero_le _, Nat.zero_le _⟩ dX11_readFolder_89 ?_
        refine g_aload_n hx 92 (i := 0) 2 dX11_readFolder_92 rfl rfl ?_
        refine g_get hx 93 (C := RX11) (T := TX11) (N := 30) 23 (.int (M_1140.1 23)) (pM_o σ T (owF ad) ρ M_1140) rfl (by decide) rfl fl_X11_336 dX11_readFolder_93 ?_
        refine g_if_ne hx 96 105 dX11_readFolder_96 (by decide) (fun hc_1141 => ?_) (fun hc_1141 => ?_)
        · have hr := (if_neg hc_1141).symm.trans hr
          exact g_vret hx hR 105 dX11_readFolder_105 ⟨rfl, by rw [← Option.some.inj hr] <;> rfl⟩
        · have hr := (if_pos hc_1141).symm.trans hr
          refine g_aload_n hx 99 (i := 0) 2 dX11_readFolder_99 rfl rfl ?_
          refine g_iload_n hx 100 (i := 1) 1 dX11_readFolder_100 rfl rfl ?_
          refine g_iload_n hx 101 (i := 2) 0 dX11_readFolder_101 rfl rfl ?_
          obtain ⟨M_1142, eM_1142, hr⟩ := bind_e hr
          refine g_callVv hx (c_Md_addFolder hρ l g σ T (owF ad) M_1140 v1_1137 0 eM_1142) lk_X11_77 ar_Md_addFolder (pM_o σ T (owF ad) ρ M_1140) (T := TX11) (N := 30) rfl (As := [.int v1_1137, .int 0]) (rest := []) rfl (Nat.le_of_ble_eq_true rfl) ⟨Nat.le_of_ble_eq_true rfl, Nat.le_of_ble_eq_true rfl⟩ ⟨rfl, rfl⟩ ⟨Nat.zero_le _, Nat.zero_le _⟩ dX11_readFolder_102 ?_
          exact g_vret hx hR 105 dX11_readFolder_105 ⟨rfl, by rw [← Option.some.inj hr] <;> rfl⟩
      · have hr := (if_neg hc_1139).symm.trans hr
        refine g_aload_n hx 73 (i := 0) 1 dX11_readFolder_73 rfl rfl ?_
        refine g_iconst hx 74 (0) dX11_readFolder_74 rfl ?_
        refine g_sipush hx 75 (999) dX11_readFolder_75 rfl ?_
        obtain ⟨q_1143, eq_1143, hr⟩ := bind_e hr
        refine g_callVr hx (c_Md_readNumber hρ l g σ T (owF ad) q_1138.2 0 999 eq_1143) lk_X11_384 ar_Md_readNumber (pM_o σ T (owF ad) ρ q_1138.2) (T := TX11) (N := 30) rfl (As := [.int 0, .int 999]) (rest := []) rfl (Nat.le_of_ble_eq_true rfl) ⟨Nat.le_of_ble_eq_true rfl, Nat.le_of_ble_eq_true rfl⟩ ⟨rfl, rfl⟩ ⟨Nat.zero_le _, Nat.zero_le _⟩ dX11_readFolder_78 ?_
        refine g_goto hx 81 85 dX11_readFolder_81 (by decide) ?_
        obtain ⟨v2_1144, ev2_1144, hr⟩ := lt'_e hr
        refine g_nmi ev2_1144 ?_
        refine g_istore_n hx 85 (i := 2) [(2, .int v2_1144), (1, .int v1_1137), (0, .ref T)] dX11_readFolder_85 rfl (by decide) rfl ?_
        refine g_aload_n hx 86 (i := 0) 2 dX11_readFolder_86 rfl rfl ?_
        refine g_bipush hx 87 (59) dX11_readFolder_87 rfl ?_
        obtain ⟨M_1145, eM_1145, hr⟩ := bind_e hr
        refine g_callVv hx (c_Md_expect hρ l g σ T (owF ad) q_1143.2 59 eM_1145) lk_X11_387 ar_Md_expect (pM_o σ T (owF ad) ρ q_1143.2) (T := TX11) (N := 30) rfl (As := [.int 59]) (rest := []) rfl (Nat.le_of_ble_eq_true rfl) ⟨Nat.le_of_ble_eq_true rfl, Nat.le_of_ble_eq_true rfl⟩ ⟨rfl, rfl⟩ ⟨Nat.zero_le _, Nat.zero_le _⟩ dX11_readFolder_89 ?_
        refine g_aload_n hx 92 (i := 0) 2 dX11_readFolder_92 rfl rfl ?_
        refine g_get hx 93 (C := RX11) (T := TX11) (N := 30) 23 (.int (M_1145.1 23)) (pM_o σ T (owF ad) ρ M_1145) rfl (by decide) rfl fl_X11_336 dX11_readFolder_93 ?_
        refine g_if_ne hx 96 105 dX11_readFolder_96 (by decide) (fun hc_1146 => ?_) (fun hc_1146 => ?_)
        · have hr := (if_neg hc_1146).symm.trans hr
          exact g_vret hx hR 105 dX11_readFolder_105 ⟨rfl, by rw [← Option.some.inj hr] <;> rfl⟩
        · have hr := (if_pos hc_1146).symm.trans hr
          refine g_aload_n hx 99 (i := 0) 2 dX11_readFolder_99 rfl rfl ?_
          refine g_iload_n hx 100 (i := 1) 1 dX11_readFolder_100 rfl rfl ?_
          refine g_iload_n hx 101 (i := 2) 0 dX11_readFolder_101 rfl rfl ?_
          obtain ⟨M_1147, eM_1147, hr⟩ := bind_e hr
          refine g_callVv hx (c_Md_addFolder hρ l g σ T (owF ad) M_1145 v1_1137 v2_1144 eM_1147) lk_X11_77 ar_Md_addFolder (pM_o σ T (owF ad) ρ M_1145) (T := TX11) (N := 30) rfl (As := [.int v1_1137, .int v2_1144]) (rest := []) rfl (Nat.le_of_ble_eq_true rfl) ⟨Nat.le_of_ble_eq_true rfl, Nat.le_of_ble_eq_true rfl⟩ ⟨rfl, rfl⟩ ⟨Nat.zero_le _, Nat.zero_le _⟩ dX11_readFolder_102 ?_
          exact g_vret hx hR 105 dX11_readFolder_105 ⟨rfl, by rw [← Option.some.inj hr] <;> rfl⟩
    clear hr
    have hr := eb_1133
    refine g_if_ne hx 32 46 dX11_readFolder_32 (by decide) (fun hc_1130 => ?_) (fun hc_1130 => ?_)
    · have hr := (if_neg hc_1130).symm.trans hr
      refine g_iconst hx 46 (1) dX11_readFolder_46 rfl ?_
      refine g_goto hx 47 51 dX11_readFolder_47 (by decide) ?_
      exact g_nmi (Option.some.inj hr).symm rest
    · have hr := (if_pos hc_1130).symm.trans hr
      refine g_aload_n hx 35 (i := 0) 0 dX11_readFolder_35 rfl rfl ?_
      refine g_get hx 36 (C := RX11) (T := TX11) (N := 30) 7 (.ref (T + 1 + ρ)) (pM_o σ T (owF ad) ρ M_1129) rfl (by decide) rfl fl_X11_31 dX11_readFolder_36 ?_
      refine g_iconst hx 39 (5) dX11_readFolder_39 rfl ?_
      refine g_iald hx 40 (pM_row hρ σ T (owF ad) M_1129) (by decide : inB 5 257) dX11_readFolder_40 ?_
      refine g_bipush hx 41 (24) dX11_readFolder_41 rfl ?_
      refine g_icmp_ge hx 43 50 dX11_readFolder_43 (by decide) (fun hc_1132 => ?_) (fun hc_1132 => ?_)
      · have hr := (if_pos hc_1132).symm.trans hr
        refine g_iconst hx 50 (0) dX11_readFolder_50 rfl ?_
        exact g_nmi (Option.some.inj hr).symm rest
      · have hr := (if_neg hc_1132).symm.trans hr
        refine g_iconst hx 46 (1) dX11_readFolder_46 rfl ?_
        refine g_goto hx 47 51 dX11_readFolder_47 (by decide) ?_
        exact g_nmi (Option.some.inj hr).symm rest
  clear hr
  have hr := eb_1128
  refine g_if_ne hx 5 18 dX11_readFolder_5 (by decide) (fun hc_1125 => ?_) (fun hc_1125 => ?_)
  · have hr := (if_neg hc_1125).symm.trans hr
    refine g_iconst hx 18 (1) dX11_readFolder_18 rfl ?_
    refine g_goto hx 19 23 dX11_readFolder_19 (by decide) ?_
    exact g_nmi (Option.some.inj hr).symm rest
  · have hr := (if_pos hc_1125).symm.trans hr
    refine g_aload_n hx 8 (i := 0) 0 dX11_readFolder_8 rfl rfl ?_
    refine g_ldcwS hx 9 (hC.2.2 _ (List.mem_of_getElem? (i := 22) rfl)) dX11_readFolder_9 ?_
    obtain ⟨q_1126, eq_1126, hr⟩ := bind_e hr
    refine g_callVr hx (c_Md_isWord hρ l g (hC.ok 1 (by decide)) σ T (owF ad) M eq_1126) lk_X11_355 ar_Md_isWord (pM_o σ T (owF ad) ρ M) (T := TX11) (N := 30) rfl (As := [.ref (ad 1)]) (rest := [.ref T]) rfl (Nat.le_of_ble_eq_true rfl) ⟨Nat.le_of_ble_eq_true rfl, Nat.le_of_ble_eq_true rfl⟩ ⟨rfl, rfl⟩ ⟨Nat.zero_le _, Nat.zero_le _⟩ dX11_readFolder_12 ?_
    refine g_if_eq hx 15 22 dX11_readFolder_15 (by decide) (fun hc_1127 => ?_) (fun hc_1127 => ?_)
    · have hr := (if_pos hc_1127).symm.trans hr
      refine g_iconst hx 22 (0) dX11_readFolder_22 rfl ?_
      exact g_nmi (Option.some.inj hr).symm rest
    · have hr := (if_neg hc_1127).symm.trans hr
      refine g_iconst hx 18 (1) dX11_readFolder_18 rfl ?_
      refine g_goto hx 19 23 dX11_readFolder_19 (by decide) ?_
      exact g_nmi (Option.some.inj hr).symm rest
def Md_readText_L67 (ρ : Nat) : Nat → MdM → Int32 → Int32 → Int32 → Int32 → Option (MdM)
  | 0, _, _, _, _, _ => none
  | n + 1, M, v1_1162, v2_1163, v3_1164, v4_1165 => if M.1 23 = 0 then (if M.1 22 = 0 then (some (M)) else (Option.bind (Md_readFolder ρ M) fun M_1168 => Md_readText_L67 ρ n M_1168 v1_1162 v2_1163 v3_1164 v4_1165)) else (some (M))
def Md_readText (ρ : Nat) (M : MdM) : Option (MdM) := Option.bind (Md_isWord ρ (sx 0) M) fun q_1148 => lt' (Md_demand ρ M q_1148 1) fun M_1149 => Option.bind (Md_advance ρ M_1149) fun M_1150 => Option.bind (Md_readNumber ρ M_1150 1 14) fun q_1151 => lt' (q_1151.1) fun v1_1152 => Option.bind (Md_readNumber ρ q_1151.2 1 6) fun q_1153 => lt' (q_1153.1) fun v2_1154 => Option.bind (Md_readNumber ρ q_1153.2 1 8) fun q_1155 => lt' (q_1155.1) fun v3_1156 => Option.bind (Md_readNumber ρ q_1155.2 1 5) fun q_1157 => lt' (q_1157.1) fun v4_1158 => Option.bind (Md_begin ρ q_1157.2 v1_1152 v2_1154 v3_1156 v4_1158) fun M_1159 => Option.bind (Md_expect ρ M_1159 59) fun M_1160 => Option.bind (Md_readFolder ρ M_1160) fun M_1161 => Md_readText_L67 ρ FU M_1161 v1_1152 v2_1154 v3_1156 v4_1158
set_option maxRecDepth 100000 in
set_option maxHeartbeats 4000000 in
theorem w_Md_readText_L67 {ρ : Nat} (hρ : ρ < 2) {ad : Nat → Nat} {X : Cx} {l : Launch} {g : Gl} (hx : Ok X l g RX11 cX11_readText 5 md_Md_readText.rm) (hC : KS g ad) {σ : Hp} {T : Nat} {r : MdM} (hR : Ret X (rs none (putMd σ T (owF ad) ρ r)) 0 0 (none)) : ∀ (n : Nat) (M : MdM) (v1_1162 v2_1163 v3_1164 v4_1165 : Int32), Md_readText_L67 ρ n M v1_1162 v2_1163 v3_1164 v4_1165 = some r → G X (putMd σ T (owF ad) ρ M) 0 0 67 [(0, .ref T), (1, .int v1_1162), (2, .int v2_1163), (3, .int v3_1164), (4, .int v4_1165)] [] := by
  intro n
  induction n with
  | zero =>
    intro M v1_1162 v2_1163 v3_1164 v4_1165 hr
    rw [Md_readText_L67] at hr
    cases hr
  | succ n ih =>
    intro M v1_1162 v2_1163 v3_1164 v4_1165 hr
    rw [Md_readText_L67] at hr
    refine g_aload_n hx 67 (i := 0) 0 dX11_readText_67 rfl rfl ?_
    refine g_get hx 68 (C := RX11) (T := TX11) (N := 30) 23 (.int (M.1 23)) (pM_o σ T (owF ad) ρ M) rfl (by decide) rfl fl_X11_336 dX11_readText_68 ?_
    refine g_if_ne hx 71 88 dX11_readText_71 (by decide) (fun hc_1166 => ?_) (fun hc_1166 => ?_)
    · have hr := (if_neg hc_1166).symm.trans hr
      exact g_vret hx hR 88 dX11_readText_88 ⟨rfl, by rw [← Option.some.inj hr] <;> rfl⟩
    · have hr := (if_pos hc_1166).symm.trans hr
      refine g_aload_n hx 74 (i := 0) 0 dX11_readText_74 rfl rfl ?_
      refine g_get hx 75 (C := RX11) (T := TX11) (N := 30) 22 (.int (M.1 22)) (pM_o σ T (owF ad) ρ M) rfl (by decide) rfl fl_X11_327 dX11_readText_75 ?_
      refine g_if_eq hx 78 88 dX11_readText_78 (by decide) (fun hc_1167 => ?_) (fun hc_1167 => ?_)
      · have hr := (if_pos hc_1167).symm.trans hr
        exact g_vret hx hR 88 dX11_readText_88 ⟨rfl, by rw [← Option.some.inj hr] <;> rfl⟩
      · have hr := (if_neg hc_1167).symm.trans hr
        refine g_aload_n hx 81 (i := 0) 0 dX11_readText_81 rfl rfl ?_
        obtain ⟨M_1168, eM_1168, hr⟩ := bind_e hr
        refine g_callVv hx (c_Md_readFolder hρ l g hC σ T M eM_1168) lk_X11_392 ar_Md_readFolder (pM_o σ T (owF ad) ρ M) (T := TX11) (N := 30) rfl (As := []) (rest := []) rfl (Nat.le_of_ble_eq_true rfl) ⟨Nat.le_of_ble_eq_true rfl, Nat.le_of_ble_eq_true rfl⟩ ⟨rfl, rfl⟩ ⟨Nat.zero_le _, Nat.zero_le _⟩ dX11_readText_82 ?_
        refine g_goto hx 85 67 dX11_readText_85 (by decide) ?_
        refine g_ls [0, 1, 2, 3, 4] [(0, .ref T), (1, .int v1_1162), (2, .int v2_1163), (3, .int v3_1164), (4, .int v4_1165)] rfl ?_
        exact ih M_1168 v1_1162 v2_1163 v3_1164 v4_1165 hr
set_option maxRecDepth 100000 in
set_option maxHeartbeats 4000000 in
theorem c_Md_readText {ρ : Nat} (hρ : ρ < 2) {ad : Nat → Nat} (l : Launch) (g : Gl) (hC : KS g ad) (σ : Hp) (T : Nat) (M : MdM) {r : MdM} (hr : Md_readText ρ M = some r) : MG l g md_Md_readText [.ref T] (putMd σ T (owF ad) ρ M) (rs none (putMd σ T (owF ad) ρ r)) := by
  refine MG.intro (by decide +kernel) (Nat.le_of_ble_eq_true rfl) (fun X hx hR _ => ?_)
  unfold Md_readText at hr
  refine g_ls [0] [(0, .ref T)] rfl ?_
  refine g_aload_n hx 0 (i := 0) 0 dX11_readText_0 rfl rfl ?_
  refine g_aload_n hx 1 (i := 0) 0 dX11_readText_1 rfl rfl ?_
  refine g_ldcwS hx 2 (hC.2.2 _ (List.mem_of_getElem? (i := 23) rfl)) dX11_readText_2 ?_
  obtain ⟨q_1148, eq_1148, hr⟩ := bind_e hr
  refine g_callVr hx (c_Md_isWord hρ l g (hC.ok 0 (by decide)) σ T (owF ad) M eq_1148) lk_X11_355 ar_Md_isWord (pM_o σ T (owF ad) ρ M) (T := TX11) (N := 30) rfl (As := [.ref (ad 0)]) (rest := [.ref T]) rfl (Nat.le_of_ble_eq_true rfl) ⟨Nat.le_of_ble_eq_true rfl, Nat.le_of_ble_eq_true rfl⟩ ⟨rfl, rfl⟩ ⟨Nat.zero_le _, Nat.zero_le _⟩ dX11_readText_5 ?_
  refine g_iconst hx 8 (1) dX11_readText_8 rfl ?_
  obtain ⟨M_1149, eM_1149, hr⟩ := lt'_e hr
  refine g_callVv hx (c_Md_demand hρ l g σ T (owF ad) M q_1148 1 eM_1149.symm) lk_X11_362 ar_Md_demand (pM_o σ T (owF ad) ρ M) (T := TX11) (N := 30) rfl (As := [.int q_1148, .int 1]) (rest := []) rfl (Nat.le_of_ble_eq_true rfl) ⟨Nat.le_of_ble_eq_true rfl, Nat.le_of_ble_eq_true rfl⟩ ⟨rfl, rfl⟩ ⟨Nat.zero_le _, Nat.zero_le _⟩ dX11_readText_9 ?_
  refine g_aload_n hx 12 (i := 0) 0 dX11_readText_12 rfl rfl ?_
  obtain ⟨M_1150, eM_1150, hr⟩ := bind_e hr
  refine g_callVv hx (c_Md_advance hρ l g σ T (owF ad) M_1149 eM_1150) lk_X11_366 ar_Md_advance (pM_o σ T (owF ad) ρ M_1149) (T := TX11) (N := 30) rfl (As := []) (rest := []) rfl (Nat.le_of_ble_eq_true rfl) ⟨Nat.le_of_ble_eq_true rfl, Nat.le_of_ble_eq_true rfl⟩ ⟨rfl, rfl⟩ ⟨Nat.zero_le _, Nat.zero_le _⟩ dX11_readText_13 ?_
  refine g_aload_n hx 16 (i := 0) 0 dX11_readText_16 rfl rfl ?_
  refine g_iconst hx 17 (1) dX11_readText_17 rfl ?_
  refine g_bipush hx 18 (14) dX11_readText_18 rfl ?_
  obtain ⟨q_1151, eq_1151, hr⟩ := bind_e hr
  refine g_callVr hx (c_Md_readNumber hρ l g σ T (owF ad) M_1150 1 14 eq_1151) lk_X11_384 ar_Md_readNumber (pM_o σ T (owF ad) ρ M_1150) (T := TX11) (N := 30) rfl (As := [.int 1, .int 14]) (rest := []) rfl (Nat.le_of_ble_eq_true rfl) ⟨Nat.le_of_ble_eq_true rfl, Nat.le_of_ble_eq_true rfl⟩ ⟨rfl, rfl⟩ ⟨Nat.zero_le _, Nat.zero_le _⟩ dX11_readText_20 ?_
  obtain ⟨v1_1152, ev1_1152, hr⟩ := lt'_e hr
  refine g_nmi ev1_1152 ?_
  refine g_istore_n hx 23 (i := 1) [(1, .int v1_1152), (0, .ref T)] dX11_readText_23 rfl (by decide) rfl ?_
  refine g_aload_n hx 24 (i := 0) 1 dX11_readText_24 rfl rfl ?_
  refine g_iconst hx 25 (1) dX11_readText_25 rfl ?_
  refine g_bipush hx 26 (6) dX11_readText_26 rfl ?_
  obtain ⟨q_1153, eq_1153, hr⟩ := bind_e hr
  refine g_callVr hx (c_Md_readNumber hρ l g σ T (owF ad) q_1151.2 1 6 eq_1153) lk_X11_384 ar_Md_readNumber (pM_o σ T (owF ad) ρ q_1151.2) (T := TX11) (N := 30) rfl (As := [.int 1, .int 6]) (rest := []) rfl (Nat.le_of_ble_eq_true rfl) ⟨Nat.le_of_ble_eq_true rfl, Nat.le_of_ble_eq_true rfl⟩ ⟨rfl, rfl⟩ ⟨Nat.zero_le _, Nat.zero_le _⟩ dX11_readText_28 ?_
  obtain ⟨v2_1154, ev2_1154, hr⟩ := lt'_e hr
  refine g_nmi ev2_1154 ?_
  refine g_istore_n hx 31 (i := 2) [(2, .int v2_1154), (1, .int v1_1152), (0, .ref T)] dX11_readText_31 rfl (by decide) rfl ?_
  refine g_aload_n hx 32 (i := 0) 2 dX11_readText_32 rfl rfl ?_
  refine g_iconst hx 33 (1) dX11_readText_33 rfl ?_
  refine g_bipush hx 34 (8) dX11_readText_34 rfl ?_
  obtain ⟨q_1155, eq_1155, hr⟩ := bind_e hr
  refine g_callVr hx (c_Md_readNumber hρ l g σ T (owF ad) q_1153.2 1 8 eq_1155) lk_X11_384 ar_Md_readNumber (pM_o σ T (owF ad) ρ q_1153.2) (T := TX11) (N := 30) rfl (As := [.int 1, .int 8]) (rest := []) rfl (Nat.le_of_ble_eq_true rfl) ⟨Nat.le_of_ble_eq_true rfl, Nat.le_of_ble_eq_true rfl⟩ ⟨rfl, rfl⟩ ⟨Nat.zero_le _, Nat.zero_le _⟩ dX11_readText_36 ?_
  obtain ⟨v3_1156, ev3_1156, hr⟩ := lt'_e hr
  refine g_nmi ev3_1156 ?_
  refine g_istore_n hx 39 (i := 3) [(3, .int v3_1156), (2, .int v2_1154), (1, .int v1_1152), (0, .ref T)] dX11_readText_39 rfl (by decide) rfl ?_
  refine g_aload_n hx 40 (i := 0) 3 dX11_readText_40 rfl rfl ?_
  refine g_iconst hx 41 (1) dX11_readText_41 rfl ?_
  refine g_iconst hx 42 (5) dX11_readText_42 rfl ?_
  obtain ⟨q_1157, eq_1157, hr⟩ := bind_e hr
  refine g_callVr hx (c_Md_readNumber hρ l g σ T (owF ad) q_1155.2 1 5 eq_1157) lk_X11_384 ar_Md_readNumber (pM_o σ T (owF ad) ρ q_1155.2) (T := TX11) (N := 30) rfl (As := [.int 1, .int 5]) (rest := []) rfl (Nat.le_of_ble_eq_true rfl) ⟨Nat.le_of_ble_eq_true rfl, Nat.le_of_ble_eq_true rfl⟩ ⟨rfl, rfl⟩ ⟨Nat.zero_le _, Nat.zero_le _⟩ dX11_readText_43 ?_
  obtain ⟨v4_1158, ev4_1158, hr⟩ := lt'_e hr
  refine g_nmi ev4_1158 ?_
  refine g_istore hx 46 (i := 4) [(4, .int v4_1158), (3, .int v3_1156), (2, .int v2_1154), (1, .int v1_1152), (0, .ref T)] dX11_readText_46 (by decide) rfl ?_
  refine g_aload_n hx 48 (i := 0) 4 dX11_readText_48 rfl rfl ?_
  refine g_iload_n hx 49 (i := 1) 3 dX11_readText_49 rfl rfl ?_
  refine g_iload_n hx 50 (i := 2) 2 dX11_readText_50 rfl rfl ?_
  refine g_iload_n hx 51 (i := 3) 1 dX11_readText_51 rfl rfl ?_
  refine g_iload hx 52 (i := 4) 0 dX11_readText_52 rfl ?_
  obtain ⟨M_1159, eM_1159, hr⟩ := bind_e hr
  refine g_callVv hx (c_Md_begin hρ l g σ T (owF ad) q_1157.2 v1_1152 v2_1154 v3_1156 v4_1158 eM_1159) lk_X11_73 ar_Md_begin (pM_o σ T (owF ad) ρ q_1157.2) (T := TX11) (N := 30) rfl (As := [.int v1_1152, .int v2_1154, .int v3_1156, .int v4_1158]) (rest := []) rfl (Nat.le_of_ble_eq_true rfl) ⟨Nat.le_of_ble_eq_true rfl, Nat.le_of_ble_eq_true rfl⟩ ⟨rfl, rfl⟩ ⟨Nat.zero_le _, Nat.zero_le _⟩ dX11_readText_54 ?_
  refine g_aload_n hx 57 (i := 0) 4 dX11_readText_57 rfl rfl ?_
  refine g_bipush hx 58 (59) dX11_readText_58 rfl ?_
  obtain ⟨M_1160, eM_1160, hr⟩ := bind_e hr
  refine g_callVv hx (c_Md_expect hρ l g σ T (owF ad) M_1159 59 eM_1160) lk_X11_387 ar_Md_expect (pM_o σ T (owF ad) ρ M_1159) (T := TX11) (N := 30) rfl (As := [.int 59]) (rest := []) rfl (Nat.le_of_ble_eq_true rfl) ⟨Nat.le_of_ble_eq_true rfl, Nat.le_of_ble_eq_true rfl⟩ ⟨rfl, rfl⟩ ⟨Nat.zero_le _, Nat.zero_le _⟩ dX11_readText_60 ?_
  refine g_aload_n hx 63 (i := 0) 4 dX11_readText_63 rfl rfl ?_
  obtain ⟨M_1161, eM_1161, hr⟩ := bind_e hr
  refine g_callVv hx (c_Md_readFolder hρ l g hC σ T M_1160 eM_1161) lk_X11_392 ar_Md_readFolder (pM_o σ T (owF ad) ρ M_1160) (T := TX11) (N := 30) rfl (As := []) (rest := []) rfl (Nat.le_of_ble_eq_true rfl) ⟨Nat.le_of_ble_eq_true rfl, Nat.le_of_ble_eq_true rfl⟩ ⟨rfl, rfl⟩ ⟨Nat.zero_le _, Nat.zero_le _⟩ dX11_readText_64 ?_
  refine g_ls [4, 3, 2, 1, 0] [(0, .ref T), (1, .int v1_1152), (2, .int v2_1154), (3, .int v3_1156), (4, .int v4_1158)] rfl ?_
  exact w_Md_readText_L67 hρ hx hC hR FU M_1161 v1_1152 v2_1154 v3_1156 v4_1158 hr
def Md_orderHere_L2 (ρ : Nat) (M : MdM) : Nat → Int32 → Option (Int32)
  | 0, _ => none
  | n + 1, v1_1169 => if nI 7 ≤ v1_1169 then (some ((-1))) else (if inB v1_1169 7 then (Option.bind (Md_isWord ρ (sx (wi v1_1169.toNatClampNeg)) M) fun q_1172 => if q_1172 = 0 then (Md_orderHere_L2 ρ M n (v1_1169 + 1)) else (some (v1_1169))) else none)
def Md_orderHere (ρ : Nat) (M : MdM) : Option (Int32) := Md_orderHere_L2 ρ M FU 0
set_option maxRecDepth 100000 in
set_option maxHeartbeats 4000000 in
theorem w_Md_orderHere_L2 {ρ : Nat} (hρ : ρ < 2) {ad : Nat → Nat} {X : Cx} {l : Launch} {g : Gl} (hx : Ok X l g RX11 cX11_orderHere 2 md_Md_orderHere.rm) (hC : KS g ad) {σ : Hp} {T : Nat} {M : MdM} {r : Int32} (hR : Ret X (rs (some (.int r)) (putMd σ T (owF ad) ρ M)) 0 0 (some .int)) : ∀ (n : Nat) (v1_1169 : Int32), Md_orderHere_L2 ρ M n v1_1169 = some r → G X (putMd σ T (owF ad) ρ M) 0 0 2 [(0, .ref T), (1, .int v1_1169)] [] := by
  intro n
  induction n with
  | zero =>
    intro v1_1169 hr
    rw [Md_orderHere_L2] at hr
    cases hr
  | succ n ih =>
    intro v1_1169 hr
    rw [Md_orderHere_L2] at hr
    refine g_iload_n hx 2 (i := 1) 1 dX11_orderHere_2 rfl rfl ?_
    refine g_aload_n hx 3 (i := 0) 0 dX11_orderHere_3 rfl rfl ?_
    refine g_get hx 4 (C := RX11) (T := TX11) (N := 30) 28 (.ref (T + 13)) (pM_o σ T (owF ad) ρ M) rfl (by decide) rfl fl_X11_69 dX11_orderHere_4 ?_
    refine g_alenq hx 7 4 (pM σ T (owF ad) ρ M 13 (by decide)) rfl rfl dX11_orderHere_7 ?_
    refine g_icmp_ge hx 8 32 dX11_orderHere_8 (by decide) (fun hc_1170 => ?_) (fun hc_1170 => ?_)
    · have hr := (if_pos hc_1170).symm.trans hr
      refine g_iconst hx 32 (-1) dX11_orderHere_32 rfl ?_
      exact g_iret hx hR 33 dX11_orderHere_33 ⟨by rw [← Option.some.inj hr] <;> rfl, rfl⟩
    · have hr := (if_neg hc_1170).symm.trans hr
      refine g_aload_n hx 11 (i := 0) 0 dX11_orderHere_11 rfl rfl ?_
      refine g_aload_n hx 12 (i := 0) 0 dX11_orderHere_12 rfl rfl ?_
      refine g_get hx 13 (C := RX11) (T := TX11) (N := 30) 28 (.ref (T + 13)) (pM_o σ T (owF ad) ρ M) rfl (by decide) rfl fl_X11_69 dX11_orderHere_13 ?_
      refine g_iload_n hx 16 (i := 1) 1 dX11_orderHere_16 rfl rfl ?_
      obtain ⟨hb_1171, hr⟩ := ob hr
      refine g_aldq hx 17 4 (pM σ T (owF ad) ρ M 13 (by decide)) rfl rfl hb_1171 dX11_orderHere_17 ?_
      obtain ⟨q_1172, eq_1172, hr⟩ := bind_e hr
      refine g_callVr hx (c_Md_isWord hρ l g (hC.ok (wi v1_1169.toNatClampNeg) (wi_lt _)) σ T (owF ad) M eq_1172) lk_X11_355 ar_Md_isWord (pM_o σ T (owF ad) ρ M) (T := TX11) (N := 30) rfl (As := [.ref (ad (wi v1_1169.toNatClampNeg))]) (rest := []) rfl (Nat.le_of_ble_eq_true rfl) ⟨Nat.le_of_ble_eq_true rfl, Nat.le_of_ble_eq_true rfl⟩ ⟨rfl, rfl⟩ ⟨Nat.zero_le _, Nat.zero_le _⟩ dX11_orderHere_18 ?_
      refine g_if_eq hx 21 26 dX11_orderHere_21 (by decide) (fun hc_1173 => ?_) (fun hc_1173 => ?_)
      · have hr := (if_pos hc_1173).symm.trans hr
        refine g_iinc hx 26 (i := 1) 1 (v1_1169 + 1) [(1, .int (v1_1169 + 1)), (0, .ref T)] dX11_orderHere_26 rfl rfl (by decide) rfl ?_
        refine g_goto hx 29 2 dX11_orderHere_29 (by decide) ?_
        refine g_ls [1, 0] [(0, .ref T), (1, .int (v1_1169 + 1))] rfl ?_
        exact ih (v1_1169 + 1) hr
      · have hr := (if_neg hc_1173).symm.trans hr
        refine g_iload_n hx 24 (i := 1) 1 dX11_orderHere_24 rfl rfl ?_
        exact g_iret hx hR 25 dX11_orderHere_25 ⟨by rw [← Option.some.inj hr] <;> rfl, rfl⟩
set_option maxRecDepth 100000 in
set_option maxHeartbeats 4000000 in
theorem c_Md_orderHere {ρ : Nat} (hρ : ρ < 2) {ad : Nat → Nat} (l : Launch) (g : Gl) (hC : KS g ad) (σ : Hp) (T : Nat) (M : MdM) {r : Int32} (hr : Md_orderHere ρ M = some r) : MG l g md_Md_orderHere [.ref T] (putMd σ T (owF ad) ρ M) (rs (some (.int r)) (putMd σ T (owF ad) ρ M)) := by
  refine MG.intro (by decide +kernel) (Nat.le_of_ble_eq_true rfl) (fun X hx hR _ => ?_)
  unfold Md_orderHere at hr
  refine g_ls [0] [(0, .ref T)] rfl ?_
  refine g_iconst hx 0 (0) dX11_orderHere_0 rfl ?_
  refine g_istore_n hx 1 (i := 1) [(1, .int 0), (0, .ref T)] dX11_orderHere_1 rfl (by decide) rfl ?_
  refine g_ls [1, 0] [(0, .ref T), (1, .int 0)] rfl ?_
  exact w_Md_orderHere_L2 hρ hx hC hR FU 0 hr
def Md_readOrder (ρ : Nat) (M : MdM) : Option (MdM) := Option.bind (Md_orderHere ρ M) fun q_1174 => Option.bind (if q_1174 = (-1) then (some 0) else (some 1)) fun b_1176 => lt' (Md_demand ρ M b_1176 1) fun M_1177 => Option.bind (if M_1177.1 23 = 0 then (if 20 ≤ M_1177.1 29 then (some 0) else (some 1)) else (some 1)) fun b_1180 => lt' (Md_demand ρ M_1177 b_1180 4) fun M_1181 => Option.bind (Md_advance ρ M_1181) fun M_1182 => if M_1182.1 23 = 0 then (lt' (3 * (M_1182.1 29)) fun v2_1184 => if inB v2_1184 60 then (Option.bind (Md_readFirst ρ (setA M_1182 11 (upd (M_1182.2 11) v2_1184.toNatClampNeg q_1174)) q_1174) fun q_1186 => if inB (v2_1184 + 1) 60 then (Option.bind (Md_readSecond ρ (setA q_1186.2 11 (upd (q_1186.2.2 11) (v2_1184 + 1).toNatClampNeg q_1186.1)) q_1174) fun q_1188 => if inB (v2_1184 + 2) 60 then (Option.bind (Md_expect ρ (setA q_1188.2 11 (upd (q_1188.2.2 11) (v2_1184 + 2).toNatClampNeg q_1188.1)) 59) fun M_1190 => some (setF M_1190 29 ((M_1190.1 29) + 1))) else none) else none) else none) else (some (M_1182))
set_option maxRecDepth 100000 in
set_option maxHeartbeats 4000000 in
theorem c_Md_readOrder {ρ : Nat} (hρ : ρ < 2) {ad : Nat → Nat} (l : Launch) (g : Gl) (hC : KS g ad) (σ : Hp) (T : Nat) (M : MdM) {r : MdM} (hr : Md_readOrder ρ M = some r) : MG l g md_Md_readOrder [.ref T] (putMd σ T (owF ad) ρ M) (rs none (putMd σ T (owF ad) ρ r)) := by
  refine MG.intro (by decide +kernel) (Nat.le_of_ble_eq_true rfl) (fun X hx hR _ => ?_)
  unfold Md_readOrder at hr
  refine g_ls [0] [(0, .ref T)] rfl ?_
  refine g_aload_n hx 0 (i := 0) 0 dX11_readOrder_0 rfl rfl ?_
  obtain ⟨q_1174, eq_1174, hr⟩ := bind_e hr
  refine g_callVr hx (c_Md_orderHere hρ l g hC σ T M eq_1174) lk_X11_404 ar_Md_orderHere (pM_o σ T (owF ad) ρ M) (T := TX11) (N := 30) rfl (As := []) (rest := []) rfl (Nat.le_of_ble_eq_true rfl) ⟨Nat.le_of_ble_eq_true rfl, Nat.le_of_ble_eq_true rfl⟩ ⟨rfl, rfl⟩ ⟨Nat.zero_le _, Nat.zero_le _⟩ dX11_readOrder_1 ?_
  refine g_istore_n hx 4 (i := 1) [(1, .int q_1174), (0, .ref T)] dX11_readOrder_4 rfl (by decide) rfl ?_
  refine g_aload_n hx 5 (i := 0) 1 dX11_readOrder_5 rfl rfl ?_
  refine g_iload_n hx 6 (i := 1) 0 dX11_readOrder_6 rfl rfl ?_
  refine g_iconst hx 7 (-1) dX11_readOrder_7 rfl ?_
  obtain ⟨b_1176, eb_1176, hr⟩ := bind_e hr
  have rest : G X (putMd σ T (owF ad) ρ M) 0 0 16 [(1, .int q_1174), (0, .ref T)] [.int b_1176, .ref T] := by
    refine g_iconst hx 16 (1) dX11_readOrder_16 rfl ?_
    obtain ⟨M_1177, eM_1177, hr⟩ := lt'_e hr
    refine g_callVv hx (c_Md_demand hρ l g σ T (owF ad) M b_1176 1 eM_1177.symm) lk_X11_362 ar_Md_demand (pM_o σ T (owF ad) ρ M) (T := TX11) (N := 30) rfl (As := [.int b_1176, .int 1]) (rest := []) rfl (Nat.le_of_ble_eq_true rfl) ⟨Nat.le_of_ble_eq_true rfl, Nat.le_of_ble_eq_true rfl⟩ ⟨rfl, rfl⟩ ⟨Nat.zero_le _, Nat.zero_le _⟩ dX11_readOrder_17 ?_
    refine g_aload_n hx 20 (i := 0) 1 dX11_readOrder_20 rfl rfl ?_
    refine g_aload_n hx 21 (i := 0) 1 dX11_readOrder_21 rfl rfl ?_
    refine g_get hx 22 (C := RX11) (T := TX11) (N := 30) 23 (.int (M_1177.1 23)) (pM_o σ T (owF ad) ρ M_1177) rfl (by decide) rfl fl_X11_336 dX11_readOrder_22 ?_
    obtain ⟨b_1180, eb_1180, hr⟩ := bind_e hr
    have rest : G X (putMd σ T (owF ad) ρ M_1177) 0 0 42 [(1, .int q_1174), (0, .ref T)] [.int b_1180, .ref T] := by
      refine g_iconst hx 42 (4) dX11_readOrder_42 rfl ?_
      obtain ⟨M_1181, eM_1181, hr⟩ := lt'_e hr
      refine g_callVv hx (c_Md_demand hρ l g σ T (owF ad) M_1177 b_1180 4 eM_1181.symm) lk_X11_362 ar_Md_demand (pM_o σ T (owF ad) ρ M_1177) (T := TX11) (N := 30) rfl (As := [.int b_1180, .int 4]) (rest := []) rfl (Nat.le_of_ble_eq_true rfl) ⟨Nat.le_of_ble_eq_true rfl, Nat.le_of_ble_eq_true rfl⟩ ⟨rfl, rfl⟩ ⟨Nat.zero_le _, Nat.zero_le _⟩ dX11_readOrder_43 ?_
      refine g_aload_n hx 46 (i := 0) 1 dX11_readOrder_46 rfl rfl ?_
      obtain ⟨M_1182, eM_1182, hr⟩ := bind_e hr
      refine g_callVv hx (c_Md_advance hρ l g σ T (owF ad) M_1181 eM_1182) lk_X11_366 ar_Md_advance (pM_o σ T (owF ad) ρ M_1181) (T := TX11) (N := 30) rfl (As := []) (rest := []) rfl (Nat.le_of_ble_eq_true rfl) ⟨Nat.le_of_ble_eq_true rfl, Nat.le_of_ble_eq_true rfl⟩ ⟨rfl, rfl⟩ ⟨Nat.zero_le _, Nat.zero_le _⟩ dX11_readOrder_47 ?_
      refine g_aload_n hx 50 (i := 0) 1 dX11_readOrder_50 rfl rfl ?_
      refine g_get hx 51 (C := RX11) (T := TX11) (N := 30) 23 (.int (M_1182.1 23)) (pM_o σ T (owF ad) ρ M_1182) rfl (by decide) rfl fl_X11_336 dX11_readOrder_51 ?_
      refine g_if_eq hx 54 58 dX11_readOrder_54 (by decide) (fun hc_1183 => ?_) (fun hc_1183 => ?_)
      · have hr := (if_pos hc_1183).symm.trans hr
        refine g_iconst hx 58 (3) dX11_readOrder_58 rfl ?_
        refine g_aload_n hx 59 (i := 0) 1 dX11_readOrder_59 rfl rfl ?_
        refine g_get hx 60 (C := RX11) (T := TX11) (N := 30) 29 (.int (M_1182.1 29)) (pM_o σ T (owF ad) ρ M_1182) rfl (by decide) rfl fl_X11_407 dX11_readOrder_60 ?_
        refine g_imul hx 63 dX11_readOrder_63 ?_
        obtain ⟨v2_1184, ev2_1184, hr⟩ := lt'_e hr
        refine g_nmi ev2_1184 ?_
        refine g_istore_n hx 64 (i := 2) [(2, .int v2_1184), (1, .int q_1174), (0, .ref T)] dX11_readOrder_64 rfl (by decide) rfl ?_
        refine g_aload_n hx 65 (i := 0) 2 dX11_readOrder_65 rfl rfl ?_
        refine g_get hx 66 (C := RX11) (T := TX11) (N := 30) 27 (.ref (T + 12)) (pM_o σ T (owF ad) ρ M_1182) rfl (by decide) rfl fl_X11_50 dX11_readOrder_66 ?_
        refine g_iload_n hx 69 (i := 2) 0 dX11_readOrder_69 rfl rfl ?_
        refine g_iload_n hx 70 (i := 1) 1 dX11_readOrder_70 rfl rfl ?_
        obtain ⟨hb_1185, hr⟩ := ob hr
        refine g_iast hx 71 (pM_a σ T (owF ad) ρ M_1182 11 (by decide)) hb_1185 dX11_readOrder_71 ?_
        refine G.heap (pM_s σ T (owF ad) ρ M_1182 11 (by decide) (upd (M_1182.2 11) v2_1184.toNatClampNeg q_1174)) ?_
        refine g_aload_n hx 72 (i := 0) 2 dX11_readOrder_72 rfl rfl ?_
        refine g_get hx 73 (C := RX11) (T := TX11) (N := 30) 27 (.ref (T + 12)) (pM_o σ T (owF ad) ρ (setA M_1182 11 (upd (M_1182.2 11) v2_1184.toNatClampNeg q_1174))) rfl (by decide) rfl fl_X11_50 dX11_readOrder_73 ?_
        refine g_iload_n hx 76 (i := 2) 0 dX11_readOrder_76 rfl rfl ?_
        refine g_iconst hx 77 (1) dX11_readOrder_77 rfl ?_
        refine g_iadd hx 78 dX11_readOrder_78 ?_
        refine g_aload_n hx 79 (i := 0) 2 dX11_readOrder_79 rfl rfl ?_
        refine g_iload_n hx 80 (i := 1) 1 dX11_readOrder_80 rfl rfl ?_
        obtain ⟨q_1186, eq_1186, hr⟩ := bind_e hr
        refine g_callVr hx (c_Md_readFirst hρ l g σ T (owF ad) (setA M_1182 11 (upd (M_1182.2 11) v2_1184.toNatClampNeg q_1174)) q_1174 eq_1186) lk_X11_410 ar_Md_readFirst (pM_o σ T (owF ad) ρ (setA M_1182 11 (upd (M_1182.2 11) v2_1184.toNatClampNeg q_1174))) (T := TX11) (N := 30) rfl (As := [.int q_1174]) (rest := [.int (v2_1184 + 1), .ref (T + 12)]) rfl (Nat.le_of_ble_eq_true rfl) ⟨Nat.le_of_ble_eq_true rfl, Nat.le_of_ble_eq_true rfl⟩ ⟨rfl, rfl⟩ ⟨Nat.zero_le _, Nat.zero_le _⟩ dX11_readOrder_81 ?_
        obtain ⟨hb_1187, hr⟩ := ob hr
        refine g_iast hx 84 (pM_a σ T (owF ad) ρ q_1186.2 11 (by decide)) hb_1187 dX11_readOrder_84 ?_
        refine G.heap (pM_s σ T (owF ad) ρ q_1186.2 11 (by decide) (upd (q_1186.2.2 11) (v2_1184 + 1).toNatClampNeg q_1186.1)) ?_
        refine g_aload_n hx 85 (i := 0) 2 dX11_readOrder_85 rfl rfl ?_
        refine g_get hx 86 (C := RX11) (T := TX11) (N := 30) 27 (.ref (T + 12)) (pM_o σ T (owF ad) ρ (setA q_1186.2 11 (upd (q_1186.2.2 11) (v2_1184 + 1).toNatClampNeg q_1186.1))) rfl (by decide) rfl fl_X11_50 dX11_readOrder_86 ?_
        refine g_iload_n hx 89 (i := 2) 0 dX11_readOrder_89 rfl rfl ?_
        refine g_iconst hx 90 (2) dX11_readOrder_90 rfl ?_
        refine g_iadd hx 91 dX11_readOrder_91 ?_
        refine g_aload_n hx 92 (i := 0) 2 dX11_readOrder_92 rfl rfl ?_
        refine g_iload_n hx 93 (i := 1) 1 dX11_readOrder_93 rfl rfl ?_
        obtain ⟨q_1188, eq_1188, hr⟩ := bind_e hr
        refine g_callVr hx (c_Md_readSecond hρ l g σ T (owF ad) (setA q_1186.2 11 (upd (q_1186.2.2 11) (v2_1184 + 1).toNatClampNeg q_1186.1)) q_1174 eq_1188) lk_X11_413 ar_Md_readSecond (pM_o σ T (owF ad) ρ (setA q_1186.2 11 (upd (q_1186.2.2 11) (v2_1184 + 1).toNatClampNeg q_1186.1))) (T := TX11) (N := 30) rfl (As := [.int q_1174]) (rest := [.int (v2_1184 + 2), .ref (T + 12)]) rfl (Nat.le_of_ble_eq_true rfl) ⟨Nat.le_of_ble_eq_true rfl, Nat.le_of_ble_eq_true rfl⟩ ⟨rfl, rfl⟩ ⟨Nat.zero_le _, Nat.zero_le _⟩ dX11_readOrder_94 ?_
        obtain ⟨hb_1189, hr⟩ := ob hr
        refine g_iast hx 97 (pM_a σ T (owF ad) ρ q_1188.2 11 (by decide)) hb_1189 dX11_readOrder_97 ?_
        refine G.heap (pM_s σ T (owF ad) ρ q_1188.2 11 (by decide) (upd (q_1188.2.2 11) (v2_1184 + 2).toNatClampNeg q_1188.1)) ?_
        refine g_aload_n hx 98 (i := 0) 2 dX11_readOrder_98 rfl rfl ?_
        refine g_bipush hx 99 (59) dX11_readOrder_99 rfl ?_
        obtain ⟨M_1190, eM_1190, hr⟩ := bind_e hr
        refine g_callVv hx (c_Md_expect hρ l g σ T (owF ad) (setA q_1188.2 11 (upd (q_1188.2.2 11) (v2_1184 + 2).toNatClampNeg q_1188.1)) 59 eM_1190) lk_X11_387 ar_Md_expect (pM_o σ T (owF ad) ρ (setA q_1188.2 11 (upd (q_1188.2.2 11) (v2_1184 + 2).toNatClampNeg q_1188.1))) (T := TX11) (N := 30) rfl (As := [.int 59]) (rest := []) rfl (Nat.le_of_ble_eq_true rfl) ⟨Nat.le_of_ble_eq_true rfl, Nat.le_of_ble_eq_true rfl⟩ ⟨rfl, rfl⟩ ⟨Nat.zero_le _, Nat.zero_le _⟩ dX11_readOrder_101 ?_
        refine g_aload_n hx 104 (i := 0) 2 dX11_readOrder_104 rfl rfl ?_
        refine g_dup hx 105 dX11_readOrder_105 rfl ?_
        refine g_get hx 106 (C := RX11) (T := TX11) (N := 30) 29 (.int (M_1190.1 29)) (pM_o σ T (owF ad) ρ M_1190) rfl (by decide) rfl fl_X11_407 dX11_readOrder_106 ?_
        refine g_iconst hx 109 (1) dX11_readOrder_109 rfl ?_
        refine g_iadd hx 110 dX11_readOrder_110 ?_
        refine g_put hx 111 (C := RX11) (T := TX11) (N := 30) 29 .int _ (pM_o σ T (owF ad) ρ M_1190) rfl (by decide) fl_X11_407 rfl rfl rfl rfl (Nat.le_of_ble_eq_true rfl) rfl dX11_readOrder_111 ?_
        refine G.heap (pM_f σ T (owF ad) ρ M_1190 29 ((M_1190.1 29) + 1)) ?_
        exact g_vret hx hR 114 dX11_readOrder_114 ⟨rfl, by rw [← Option.some.inj hr] <;> rfl⟩
      · have hr := (if_neg hc_1183).symm.trans hr
        exact g_vret hx hR 57 dX11_readOrder_57 ⟨rfl, by rw [← Option.some.inj hr] <;> rfl⟩
    clear hr
    have hr := eb_1180
    refine g_if_ne hx 25 37 dX11_readOrder_25 (by decide) (fun hc_1178 => ?_) (fun hc_1178 => ?_)
    · have hr := (if_neg hc_1178).symm.trans hr
      refine g_iconst hx 37 (1) dX11_readOrder_37 rfl ?_
      refine g_goto hx 38 42 dX11_readOrder_38 (by decide) ?_
      exact g_nmi (Option.some.inj hr).symm rest
    · have hr := (if_pos hc_1178).symm.trans hr
      refine g_aload_n hx 28 (i := 0) 1 dX11_readOrder_28 rfl rfl ?_
      refine g_get hx 29 (C := RX11) (T := TX11) (N := 30) 29 (.int (M_1177.1 29)) (pM_o σ T (owF ad) ρ M_1177) rfl (by decide) rfl fl_X11_407 dX11_readOrder_29 ?_
      refine g_bipush hx 32 (20) dX11_readOrder_32 rfl ?_
      refine g_icmp_ge hx 34 41 dX11_readOrder_34 (by decide) (fun hc_1179 => ?_) (fun hc_1179 => ?_)
      · have hr := (if_pos hc_1179).symm.trans hr
        refine g_iconst hx 41 (0) dX11_readOrder_41 rfl ?_
        exact g_nmi (Option.some.inj hr).symm rest
      · have hr := (if_neg hc_1179).symm.trans hr
        refine g_iconst hx 37 (1) dX11_readOrder_37 rfl ?_
        refine g_goto hx 38 42 dX11_readOrder_38 (by decide) ?_
        exact g_nmi (Option.some.inj hr).symm rest
  clear hr
  have hr := eb_1176
  refine g_icmp_eq hx 8 15 dX11_readOrder_8 (by decide) (fun hc_1175 => ?_) (fun hc_1175 => ?_)
  · have hr := (if_pos hc_1175).symm.trans hr
    refine g_iconst hx 15 (0) dX11_readOrder_15 rfl ?_
    exact g_nmi (Option.some.inj hr).symm rest
  · have hr := (if_neg hc_1175).symm.trans hr
    refine g_iconst hx 11 (1) dX11_readOrder_11 rfl ?_
    refine g_goto hx 12 16 dX11_readOrder_12 (by decide) ?_
    exact g_nmi (Option.some.inj hr).symm rest
def Md_load (M : MdM) (p1 : Int32) : Option (Int32 × MdM) := if Md_inRange p1 0 (M.1 18) = 0 then (lt' (Md_raise 0 (setF M 9 0) 1) fun q_1192 => some ((q_1192.1, q_1192.2))) else (Option.bind (Md_startText 0 (setF M 9 0) p1) fun M_1193 => Option.bind (Md_readText 1 M_1193) fun M_1194 => lt' (Md_finish 0 M_1194) fun q_1195 => if q_1195.1 = 0 then (Option.bind (Md_copy q_1195.2 1 0 0 0) fun M_1197 => some (((M_1197.2 0) (5 : Int32).toNatClampNeg, setF (setF M_1197 8 0) 10 0))) else (some (((-10) - (q_1195.2.1 23), q_1195.2))))
set_option maxRecDepth 100000 in
set_option maxHeartbeats 4000000 in
theorem c_Md_load {ad : Nat → Nat} (l : Launch) (g : Gl) (hC : KS g ad) (σ : Hp) (T : Nat) (M : MdM) (p1 : Int32) {r : Int32 × MdM} (hr : Md_load M p1 = some r) : MG l g md_Md_load [.ref T, .int p1] (putMd σ T (owF ad) 0 M) (rs (some (.int r.1)) (putMd σ T (owF ad) 0 r.2)) := by
  refine MG.intro (by decide +kernel) (Nat.le_of_ble_eq_true rfl) (fun X hx hR _ => ?_)
  unfold Md_load at hr
  refine g_ls [0, 1] [(0, .ref T), (1, .int p1)] rfl ?_
  refine g_aload_n hx 0 (i := 0) 0 dX11_load_0 rfl rfl ?_
  refine g_iconst hx 1 (0) dX11_load_1 rfl ?_
  refine g_put hx 2 (C := RX11) (T := TX11) (N := 30) 9 .int _ (pM_o σ T (owF ad) 0 M) rfl (by decide) fl_X11_81 rfl rfl rfl rfl (Nat.le_of_ble_eq_true rfl) rfl dX11_load_2 ?_
  refine G.heap (pM_f σ T (owF ad) 0 M 9 0) ?_
  refine g_iload_n hx 5 (i := 1) 1 dX11_load_5 rfl rfl ?_
  refine g_iconst hx 6 (0) dX11_load_6 rfl ?_
  refine g_aload_n hx 7 (i := 0) 0 dX11_load_7 rfl rfl ?_
  refine g_get hx 8 (C := RX11) (T := TX11) (N := 30) 18 (.int (M.1 18)) (pM_o σ T (owF ad) 0 (setF M 9 0)) rfl (by decide) rfl fl_X11_312 dX11_load_8 ?_
  refine g_callSr hx (c_Md_inRange l g _ p1 0 (M.1 18) rfl) lk_X11_91 ar_Md_inRange (As := [.int p1, .int 0, .int (M.1 18)]) (rest := []) rfl (Nat.le_of_ble_eq_true rfl) ⟨Nat.le_of_ble_eq_true rfl, Nat.le_of_ble_eq_true rfl⟩ ⟨rfl, rfl⟩ ⟨Nat.zero_le _, Nat.zero_le _⟩ dX11_load_11 ?_
  refine g_if_ne hx 14 23 dX11_load_14 (by decide) (fun hc_1191 => ?_) (fun hc_1191 => ?_)
  · have hr := (if_neg hc_1191).symm.trans hr
    refine g_aload_n hx 23 (i := 0) 0 dX11_load_23 rfl rfl ?_
    refine g_iload_n hx 24 (i := 1) 1 dX11_load_24 rfl rfl ?_
    obtain ⟨M_1193, eM_1193, hr⟩ := bind_e hr
    refine g_callVv hx (c_Md_startText (ρ := 0) (by decide) l g σ T (owF ad) (setF M 9 0) p1 eM_1193) lk_X11_395 ar_Md_startText (pM_o σ T (owF ad) 0 (setF M 9 0)) (T := TX11) (N := 30) rfl (As := [.int p1]) (rest := []) rfl (Nat.le_of_ble_eq_true rfl) ⟨Nat.le_of_ble_eq_true rfl, Nat.le_of_ble_eq_true rfl⟩ ⟨rfl, rfl⟩ ⟨Nat.zero_le _, Nat.zero_le _⟩ dX11_load_25 ?_
    refine g_aload_n hx 28 (i := 0) 0 dX11_load_28 rfl rfl ?_
    refine g_aload_n hx 29 (i := 0) 0 dX11_load_29 rfl rfl ?_
    refine g_get hx 30 (C := RX11) (T := TX11) (N := 30) 1 (.ref (T + 2)) (pM_o σ T (owF ad) 0 M_1193) rfl (by decide) rfl fl_X11_13 dX11_load_30 ?_
    refine g_put hx 33 (C := RX11) (T := TX11) (N := 30) 7 (.array .int) _ (pM_o σ T (owF ad) 0 M_1193) rfl (by decide) fl_X11_31 rfl rfl rfl rfl (Nat.le_of_ble_eq_true rfl) rfl dX11_load_33 ?_
    refine G.heap (pM_obj σ T (owF ad) 0 1 M_1193 M_1193 rfl) ?_
    refine g_aload_n hx 36 (i := 0) 0 dX11_load_36 rfl rfl ?_
    obtain ⟨M_1194, eM_1194, hr⟩ := bind_e hr
    refine g_callVv hx (c_Md_readText (ρ := 1) (by decide) l g hC σ T M_1193 eM_1194) lk_X11_398 ar_Md_readText (pM_o σ T (owF ad) 1 M_1193) (T := TX11) (N := 30) rfl (As := []) (rest := []) rfl (Nat.le_of_ble_eq_true rfl) ⟨Nat.le_of_ble_eq_true rfl, Nat.le_of_ble_eq_true rfl⟩ ⟨rfl, rfl⟩ ⟨Nat.zero_le _, Nat.zero_le _⟩ dX11_load_37 ?_
    refine g_aload_n hx 40 (i := 0) 0 dX11_load_40 rfl rfl ?_
    refine g_aload_n hx 41 (i := 0) 0 dX11_load_41 rfl rfl ?_
    refine g_get hx 42 (C := RX11) (T := TX11) (N := 30) 0 (.ref (T + 1)) (pM_o σ T (owF ad) 1 M_1194) rfl (by decide) rfl fl_X11_9 dX11_load_42 ?_
    refine g_put hx 45 (C := RX11) (T := TX11) (N := 30) 7 (.array .int) _ (pM_o σ T (owF ad) 1 M_1194) rfl (by decide) fl_X11_31 rfl rfl rfl rfl (Nat.le_of_ble_eq_true rfl) rfl dX11_load_45 ?_
    refine G.heap (pM_obj σ T (owF ad) 1 0 M_1194 M_1194 rfl) ?_
    refine g_aload_n hx 48 (i := 0) 0 dX11_load_48 rfl rfl ?_
    obtain ⟨q_1195, eq_1195, hr⟩ := lt'_e hr
    refine g_callVr hx (c_Md_finish (ρ := 0) (by decide) l g σ T (owF ad) M_1194 eq_1195.symm) lk_X11_401 ar_Md_finish (pM_o σ T (owF ad) 0 M_1194) (T := TX11) (N := 30) rfl (As := []) (rest := []) rfl (Nat.le_of_ble_eq_true rfl) ⟨Nat.le_of_ble_eq_true rfl, Nat.le_of_ble_eq_true rfl⟩ ⟨rfl, rfl⟩ ⟨Nat.zero_le _, Nat.zero_le _⟩ dX11_load_49 ?_
    refine g_if_eq hx 52 63 dX11_load_52 (by decide) (fun hc_1196 => ?_) (fun hc_1196 => ?_)
    · have hr := (if_pos hc_1196).symm.trans hr
      refine g_aload_n hx 63 (i := 0) 0 dX11_load_63 rfl rfl ?_
      refine g_get hx 64 (C := RX11) (T := TX11) (N := 30) 1 (.ref (T + 2)) (pM_o σ T (owF ad) 0 q_1195.2) rfl (by decide) rfl fl_X11_13 dX11_load_64 ?_
      refine g_iconst hx 67 (0) dX11_load_67 rfl ?_
      refine g_aload_n hx 68 (i := 0) 0 dX11_load_68 rfl rfl ?_
      refine g_get hx 69 (C := RX11) (T := TX11) (N := 30) 0 (.ref (T + 1)) (pM_o σ T (owF ad) 0 q_1195.2) rfl (by decide) rfl fl_X11_9 dX11_load_69 ?_
      refine g_iconst hx 72 (0) dX11_load_72 rfl ?_
      obtain ⟨M_1197, eM_1197, hr⟩ := bind_e hr
      refine g_callSv hx (c_Md_copy l g σ T (owF ad) 0 q_1195.2 1 0 (by decide) (by decide) 0 0 eM_1197) lk_X11_238 ar_Md_copy (As := [.ref (T + 2), .int 0, .ref (T + 1), .int 0]) (rest := []) rfl (Nat.le_of_ble_eq_true rfl) ⟨Nat.le_of_ble_eq_true rfl, Nat.le_of_ble_eq_true rfl⟩ ⟨rfl, rfl⟩ ⟨Nat.zero_le _, Nat.zero_le _⟩ dX11_load_73 ?_
      refine g_aload_n hx 76 (i := 0) 0 dX11_load_76 rfl rfl ?_
      refine g_iconst hx 77 (0) dX11_load_77 rfl ?_
      refine g_put hx 78 (C := RX11) (T := TX11) (N := 30) 8 .int _ (pM_o σ T (owF ad) 0 M_1197) rfl (by decide) fl_X11_263 rfl rfl rfl rfl (Nat.le_of_ble_eq_true rfl) rfl dX11_load_78 ?_
      refine G.heap (pM_f σ T (owF ad) 0 M_1197 8 0) ?_
      refine g_aload_n hx 81 (i := 0) 0 dX11_load_81 rfl rfl ?_
      refine g_iconst hx 82 (0) dX11_load_82 rfl ?_
      refine g_put hx 83 (C := RX11) (T := TX11) (N := 30) 10 .boolean _ (pM_o σ T (owF ad) 0 (setF M_1197 8 0)) rfl (by decide) fl_X11_308 rfl rfl rfl rfl (Nat.le_of_ble_eq_true rfl) rfl dX11_load_83 ?_
      refine G.heap (pM_f σ T (owF ad) 0 (setF M_1197 8 0) 10 0) ?_
      refine g_aload_n hx 86 (i := 0) 0 dX11_load_86 rfl rfl ?_
      refine g_get hx 87 (C := RX11) (T := TX11) (N := 30) 7 (.ref (T + 1 + 0)) (pM_o σ T (owF ad) 0 (setF (setF M_1197 8 0) 10 0)) rfl (by decide) rfl fl_X11_31 dX11_load_87 ?_
      refine g_iconst hx 90 (5) dX11_load_90 rfl ?_
      refine g_iald hx 91 (pM_a σ T (owF ad) 0 (setF (setF M_1197 8 0) 10 0) 0 (by decide)) (by decide : inB 5 257) dX11_load_91 ?_
      exact g_iret hx hR 92 dX11_load_92 ⟨by rw [← Option.some.inj hr] <;> rfl, by rw [← Option.some.inj hr] <;> rfl⟩
    · have hr := (if_neg hc_1196).symm.trans hr
      refine g_bipush hx 55 (-10) dX11_load_55 rfl ?_
      refine g_aload_n hx 57 (i := 0) 0 dX11_load_57 rfl rfl ?_
      refine g_get hx 58 (C := RX11) (T := TX11) (N := 30) 23 (.int (q_1195.2.1 23)) (pM_o σ T (owF ad) 0 q_1195.2) rfl (by decide) rfl fl_X11_336 dX11_load_58 ?_
      refine g_isub hx 61 dX11_load_61 ?_
      exact g_iret hx hR 62 dX11_load_62 ⟨by rw [← Option.some.inj hr] <;> rfl, by rw [← Option.some.inj hr] <;> rfl⟩
  · have hr := (if_pos hc_1191).symm.trans hr
    refine g_aload_n hx 17 (i := 0) 0 dX11_load_17 rfl rfl ?_
    refine g_iconst hx 18 (1) dX11_load_18 rfl ?_
    obtain ⟨q_1192, eq_1192, hr⟩ := lt'_e hr
    refine g_callVr hx (c_Md_raise (ρ := 0) (by decide) l g σ T (owF ad) (setF M 9 0) 1 eq_1192.symm) lk_X11_195 ar_Md_raise (pM_o σ T (owF ad) 0 (setF M 9 0)) (T := TX11) (N := 30) rfl (As := [.int 1]) (rest := []) rfl (Nat.le_of_ble_eq_true rfl) ⟨Nat.le_of_ble_eq_true rfl, Nat.le_of_ble_eq_true rfl⟩ ⟨rfl, rfl⟩ ⟨Nat.zero_le _, Nat.zero_le _⟩ dX11_load_19 ?_
    exact g_iret hx hR 22 dX11_load_22 ⟨by rw [← Option.some.inj hr] <;> rfl, by rw [← Option.some.inj hr] <;> rfl⟩
def Md_play_L79 : Nat → MdM → Int32 → Int32 → Option (Int32 × MdM)
  | 0, _, _, _ => none
  | n + 1, M, v1_1209, v2_1210 => if M.1 29 ≤ v2_1210 then (some ((v2_1210, M))) else (Option.bind (Md_does 0 M (3 * v2_1210)) fun q_1212 => if q_1212.1 < 0 then (some ((v2_1210, q_1212.2))) else (Md_play_L79 n q_1212.2 v1_1209 (v2_1210 + 1)))
def Md_play_L33 : Nat → MdM → Int32 → Option (Int32 × MdM)
  | 0, _, _ => none
  | n + 1, M, v1_1202 => if M.1 23 = 0 then (if M.1 22 = 0 then (lt' (Md_finish 0 M) fun q_1205 => if q_1205.1 = 0 then (Option.bind (Md_keep 0 q_1205.2) fun M_1207 => Option.bind (Md_record 0 M_1207) fun M_1208 => Md_play_L79 FU M_1208 v1_1202 0) else (some (((-10) - (q_1205.2.1 23), q_1205.2)))) else (Option.bind (Md_readOrder 0 M) fun M_1214 => Md_play_L33 n M_1214 v1_1202)) else (lt' (Md_finish 0 M) fun q_1215 => if q_1215.1 = 0 then (Option.bind (Md_keep 0 q_1215.2) fun M_1217 => Option.bind (Md_record 0 M_1217) fun M_1218 => Md_play_L79 FU M_1218 v1_1202 0) else (some (((-10) - (q_1215.2.1 23), q_1215.2))))
def Md_play (M : MdM) (p1 : Int32) : Option (Int32 × MdM) := if Md_inRange p1 0 (M.1 18) = 0 then (lt' (Md_raise 0 (setF M 9 0) 1) fun q_1200 => some ((q_1200.1, q_1200.2))) else (Option.bind (Md_startText 0 (setF (setF M 9 0) 29 0) p1) fun M_1201 => Md_play_L33 FU M_1201 p1)
set_option maxRecDepth 100000 in
set_option maxHeartbeats 4000000 in
theorem w_Md_play_L79 {ad : Nat → Nat} {X : Cx} {l : Launch} {g : Gl} (hx : Ok X l g RX11 cX11_play 3 md_Md_play.rm) (hC : KS g ad) {σ : Hp} {T : Nat} {r : Int32 × MdM} (hR : Ret X (rs (some (.int r.1)) (putMd σ T (owF ad) 0 r.2)) 0 0 (some .int)) : ∀ (n : Nat) (M : MdM) (v1_1209 v2_1210 : Int32), Md_play_L79 n M v1_1209 v2_1210 = some r → G X (putMd σ T (owF ad) 0 M) 0 0 79 [(0, .ref T), (1, .int v1_1209), (2, .int v2_1210)] [] := by
  intro n
  induction n with
  | zero =>
    intro M v1_1209 v2_1210 hr
    rw [Md_play_L79] at hr
    cases hr
  | succ n ih =>
    intro M v1_1209 v2_1210 hr
    rw [Md_play_L79] at hr
    refine g_iload_n hx 79 (i := 2) 2 dX11_play_79 rfl rfl ?_
    refine g_aload_n hx 80 (i := 0) 0 dX11_play_80 rfl rfl ?_
    refine g_get hx 81 (C := RX11) (T := TX11) (N := 30) 29 (.int (M.1 29)) (pM_o σ T (owF ad) 0 M) rfl (by decide) rfl fl_X11_407 dX11_play_81 ?_
    refine g_icmp_ge hx 84 103 dX11_play_84 (by decide) (fun hc_1211 => ?_) (fun hc_1211 => ?_)
    · have hr := (if_pos hc_1211).symm.trans hr
      refine g_iload_n hx 103 (i := 2) 2 dX11_play_103 rfl rfl ?_
      exact g_iret hx hR 104 dX11_play_104 ⟨by rw [← Option.some.inj hr] <;> rfl, by rw [← Option.some.inj hr] <;> rfl⟩
    · have hr := (if_neg hc_1211).symm.trans hr
      refine g_aload_n hx 87 (i := 0) 0 dX11_play_87 rfl rfl ?_
      refine g_iconst hx 88 (3) dX11_play_88 rfl ?_
      refine g_iload_n hx 89 (i := 2) 2 dX11_play_89 rfl rfl ?_
      refine g_imul hx 90 dX11_play_90 ?_
      obtain ⟨q_1212, eq_1212, hr⟩ := bind_e hr
      refine g_callVr hx (c_Md_does (ρ := 0) (by decide) l g σ T (owF ad) M (3 * v2_1210) eq_1212) lk_X11_425 ar_Md_does (pM_o σ T (owF ad) 0 M) (T := TX11) (N := 30) rfl (As := [.int (3 * v2_1210)]) (rest := []) rfl (Nat.le_of_ble_eq_true rfl) ⟨Nat.le_of_ble_eq_true rfl, Nat.le_of_ble_eq_true rfl⟩ ⟨rfl, rfl⟩ ⟨Nat.zero_le _, Nat.zero_le _⟩ dX11_play_91 ?_
      refine g_if_lt hx 94 103 dX11_play_94 (by decide) (fun hc_1213 => ?_) (fun hc_1213 => ?_)
      · have hr := (if_pos hc_1213).symm.trans hr
        refine g_iload_n hx 103 (i := 2) 2 dX11_play_103 rfl rfl ?_
        exact g_iret hx hR 104 dX11_play_104 ⟨by rw [← Option.some.inj hr] <;> rfl, by rw [← Option.some.inj hr] <;> rfl⟩
      · have hr := (if_neg hc_1213).symm.trans hr
        refine g_iinc hx 97 (i := 2) 2 (v2_1210 + 1) [(2, .int (v2_1210 + 1)), (0, .ref T), (1, .int v1_1209)] dX11_play_97 rfl rfl (by decide) rfl ?_
        refine g_goto hx 100 79 dX11_play_100 (by decide) ?_
        refine g_ls [1, 2, 0] [(0, .ref T), (1, .int v1_1209), (2, .int (v2_1210 + 1))] rfl ?_
        exact ih q_1212.2 v1_1209 (v2_1210 + 1) hr
set_option maxRecDepth 100000 in
set_option maxHeartbeats 4000000 in
theorem w_Md_play_L33 {ad : Nat → Nat} {X : Cx} {l : Launch} {g : Gl} (hx : Ok X l g RX11 cX11_play 3 md_Md_play.rm) (hC : KS g ad) {σ : Hp} {T : Nat} {r : Int32 × MdM} (hR : Ret X (rs (some (.int r.1)) (putMd σ T (owF ad) 0 r.2)) 0 0 (some .int)) : ∀ (n : Nat) (M : MdM) (v1_1202 : Int32), Md_play_L33 n M v1_1202 = some r → G X (putMd σ T (owF ad) 0 M) 0 0 33 [(0, .ref T), (1, .int v1_1202)] [] := by
  intro n
  induction n with
  | zero =>
    intro M v1_1202 hr
    rw [Md_play_L33] at hr
    cases hr
  | succ n ih =>
    intro M v1_1202 hr
    rw [Md_play_L33] at hr
    refine g_aload_n hx 33 (i := 0) 0 dX11_play_33 rfl rfl ?_
    refine g_get hx 34 (C := RX11) (T := TX11) (N := 30) 23 (.int (M.1 23)) (pM_o σ T (owF ad) 0 M) rfl (by decide) rfl fl_X11_336 dX11_play_34 ?_
    refine g_if_ne hx 37 54 dX11_play_37 (by decide) (fun hc_1203 => ?_) (fun hc_1203 => ?_)
    · have hr := (if_neg hc_1203).symm.trans hr
      refine g_aload_n hx 54 (i := 0) 0 dX11_play_54 rfl rfl ?_
      obtain ⟨q_1215, eq_1215, hr⟩ := lt'_e hr
      refine g_callVr hx (c_Md_finish (ρ := 0) (by decide) l g σ T (owF ad) M eq_1215.symm) lk_X11_401 ar_Md_finish (pM_o σ T (owF ad) 0 M) (T := TX11) (N := 30) rfl (As := []) (rest := []) rfl (Nat.le_of_ble_eq_true rfl) ⟨Nat.le_of_ble_eq_true rfl, Nat.le_of_ble_eq_true rfl⟩ ⟨rfl, rfl⟩ ⟨Nat.zero_le _, Nat.zero_le _⟩ dX11_play_55 ?_
      refine g_if_eq hx 58 69 dX11_play_58 (by decide) (fun hc_1216 => ?_) (fun hc_1216 => ?_)
      · have hr := (if_pos hc_1216).symm.trans hr
        refine g_aload_n hx 69 (i := 0) 0 dX11_play_69 rfl rfl ?_
        obtain ⟨M_1217, eM_1217, hr⟩ := bind_e hr
        refine g_callVv hx (c_Md_keep (ρ := 0) (by decide) l g σ T (owF ad) q_1215.2 eM_1217) lk_X11_269 ar_Md_keep (pM_o σ T (owF ad) 0 q_1215.2) (T := TX11) (N := 30) rfl (As := []) (rest := []) rfl (Nat.le_of_ble_eq_true rfl) ⟨Nat.le_of_ble_eq_true rfl, Nat.le_of_ble_eq_true rfl⟩ ⟨rfl, rfl⟩ ⟨Nat.zero_le _, Nat.zero_le _⟩ dX11_play_70 ?_
        refine g_aload_n hx 73 (i := 0) 0 dX11_play_73 rfl rfl ?_
        obtain ⟨M_1218, eM_1218, hr⟩ := bind_e hr
        refine g_callVv hx (c_Md_record (ρ := 0) (by decide) l g σ T (owF ad) M_1217 eM_1218) lk_X11_266 ar_Md_record (pM_o σ T (owF ad) 0 M_1217) (T := TX11) (N := 30) rfl (As := []) (rest := []) rfl (Nat.le_of_ble_eq_true rfl) ⟨Nat.le_of_ble_eq_true rfl, Nat.le_of_ble_eq_true rfl⟩ ⟨rfl, rfl⟩ ⟨Nat.zero_le _, Nat.zero_le _⟩ dX11_play_74 ?_
        refine g_iconst hx 77 (0) dX11_play_77 rfl ?_
        refine g_istore_n hx 78 (i := 2) [(2, .int 0), (0, .ref T), (1, .int v1_1202)] dX11_play_78 rfl (by decide) rfl ?_
        refine g_ls [1, 2, 0] [(0, .ref T), (1, .int v1_1202), (2, .int 0)] rfl ?_
        exact w_Md_play_L79 hx hC hR FU M_1218 v1_1202 0 hr
      · have hr := (if_neg hc_1216).symm.trans hr
        refine g_bipush hx 61 (-10) dX11_play_61 rfl ?_
        refine g_aload_n hx 63 (i := 0) 0 dX11_play_63 rfl rfl ?_
        refine g_get hx 64 (C := RX11) (T := TX11) (N := 30) 23 (.int (q_1215.2.1 23)) (pM_o σ T (owF ad) 0 q_1215.2) rfl (by decide) rfl fl_X11_336 dX11_play_64 ?_
        refine g_isub hx 67 dX11_play_67 ?_
        exact g_iret hx hR 68 dX11_play_68 ⟨by rw [← Option.some.inj hr] <;> rfl, by rw [← Option.some.inj hr] <;> rfl⟩
    · have hr := (if_pos hc_1203).symm.trans hr
      refine g_aload_n hx 40 (i := 0) 0 dX11_play_40 rfl rfl ?_
      refine g_get hx 41 (C := RX11) (T := TX11) (N := 30) 22 (.int (M.1 22)) (pM_o σ T (owF ad) 0 M) rfl (by decide) rfl fl_X11_327 dX11_play_41 ?_
      refine g_if_eq hx 44 54 dX11_play_44 (by decide) (fun hc_1204 => ?_) (fun hc_1204 => ?_)
      · have hr := (if_pos hc_1204).symm.trans hr
        refine g_aload_n hx 54 (i := 0) 0 dX11_play_54 rfl rfl ?_
        obtain ⟨q_1205, eq_1205, hr⟩ := lt'_e hr
        refine g_callVr hx (c_Md_finish (ρ := 0) (by decide) l g σ T (owF ad) M eq_1205.symm) lk_X11_401 ar_Md_finish (pM_o σ T (owF ad) 0 M) (T := TX11) (N := 30) rfl (As := []) (rest := []) rfl (Nat.le_of_ble_eq_true rfl) ⟨Nat.le_of_ble_eq_true rfl, Nat.le_of_ble_eq_true rfl⟩ ⟨rfl, rfl⟩ ⟨Nat.zero_le _, Nat.zero_le _⟩ dX11_play_55 ?_
        refine g_if_eq hx 58 69 dX11_play_58 (by decide) (fun hc_1206 => ?_) (fun hc_1206 => ?_)
        · have hr := (if_pos hc_1206).symm.trans hr
          refine g_aload_n hx 69 (i := 0) 0 dX11_play_69 rfl rfl ?_
          obtain ⟨M_1207, eM_1207, hr⟩ := bind_e hr
          refine g_callVv hx (c_Md_keep (ρ := 0) (by decide) l g σ T (owF ad) q_1205.2 eM_1207) lk_X11_269 ar_Md_keep (pM_o σ T (owF ad) 0 q_1205.2) (T := TX11) (N := 30) rfl (As := []) (rest := []) rfl (Nat.le_of_ble_eq_true rfl) ⟨Nat.le_of_ble_eq_true rfl, Nat.le_of_ble_eq_true rfl⟩ ⟨rfl, rfl⟩ ⟨Nat.zero_le _, Nat.zero_le _⟩ dX11_play_70 ?_
          refine g_aload_n hx 73 (i := 0) 0 dX11_play_73 rfl rfl ?_
          obtain ⟨M_1208, eM_1208, hr⟩ := bind_e hr
          refine g_callVv hx (c_Md_record (ρ := 0) (by decide) l g σ T (owF ad) M_1207 eM_1208) lk_X11_266 ar_Md_record (pM_o σ T (owF ad) 0 M_1207) (T := TX11) (N := 30) rfl (As := []) (rest := []) rfl (Nat.le_of_ble_eq_true rfl) ⟨Nat.le_of_ble_eq_true rfl, Nat.le_of_ble_eq_true rfl⟩ ⟨rfl, rfl⟩ ⟨Nat.zero_le _, Nat.zero_le _⟩ dX11_play_74 ?_
          refine g_iconst hx 77 (0) dX11_play_77 rfl ?_
          refine g_istore_n hx 78 (i := 2) [(2, .int 0), (0, .ref T), (1, .int v1_1202)] dX11_play_78 rfl (by decide) rfl ?_
          refine g_ls [1, 2, 0] [(0, .ref T), (1, .int v1_1202), (2, .int 0)] rfl ?_
          exact w_Md_play_L79 hx hC hR FU M_1208 v1_1202 0 hr
        · have hr := (if_neg hc_1206).symm.trans hr
          refine g_bipush hx 61 (-10) dX11_play_61 rfl ?_
          refine g_aload_n hx 63 (i := 0) 0 dX11_play_63 rfl rfl ?_
          refine g_get hx 64 (C := RX11) (T := TX11) (N := 30) 23 (.int (q_1205.2.1 23)) (pM_o σ T (owF ad) 0 q_1205.2) rfl (by decide) rfl fl_X11_336 dX11_play_64 ?_
          refine g_isub hx 67 dX11_play_67 ?_
          exact g_iret hx hR 68 dX11_play_68 ⟨by rw [← Option.some.inj hr] <;> rfl, by rw [← Option.some.inj hr] <;> rfl⟩
      · have hr := (if_neg hc_1204).symm.trans hr
        refine g_aload_n hx 47 (i := 0) 0 dX11_play_47 rfl rfl ?_
        obtain ⟨M_1214, eM_1214, hr⟩ := bind_e hr
        refine g_callVv hx (c_Md_readOrder (ρ := 0) (by decide) l g hC σ T M eM_1214) lk_X11_422 ar_Md_readOrder (pM_o σ T (owF ad) 0 M) (T := TX11) (N := 30) rfl (As := []) (rest := []) rfl (Nat.le_of_ble_eq_true rfl) ⟨Nat.le_of_ble_eq_true rfl, Nat.le_of_ble_eq_true rfl⟩ ⟨rfl, rfl⟩ ⟨Nat.zero_le _, Nat.zero_le _⟩ dX11_play_48 ?_
        refine g_goto hx 51 33 dX11_play_51 (by decide) ?_
        refine g_ls [0, 1] [(0, .ref T), (1, .int v1_1202)] rfl ?_
        exact ih M_1214 v1_1202 hr
set_option maxRecDepth 100000 in
set_option maxHeartbeats 4000000 in
theorem c_Md_play {ad : Nat → Nat} (l : Launch) (g : Gl) (hC : KS g ad) (σ : Hp) (T : Nat) (M : MdM) (p1 : Int32) {r : Int32 × MdM} (hr : Md_play M p1 = some r) : MG l g md_Md_play [.ref T, .int p1] (putMd σ T (owF ad) 0 M) (rs (some (.int r.1)) (putMd σ T (owF ad) 0 r.2)) := by
  refine MG.intro (by decide +kernel) (Nat.le_of_ble_eq_true rfl) (fun X hx hR _ => ?_)
  unfold Md_play at hr
  refine g_ls [0, 1] [(0, .ref T), (1, .int p1)] rfl ?_
  refine g_aload_n hx 0 (i := 0) 0 dX11_play_0 rfl rfl ?_
  refine g_iconst hx 1 (0) dX11_play_1 rfl ?_
  refine g_put hx 2 (C := RX11) (T := TX11) (N := 30) 9 .int _ (pM_o σ T (owF ad) 0 M) rfl (by decide) fl_X11_81 rfl rfl rfl rfl (Nat.le_of_ble_eq_true rfl) rfl dX11_play_2 ?_
  refine G.heap (pM_f σ T (owF ad) 0 M 9 0) ?_
  refine g_iload_n hx 5 (i := 1) 1 dX11_play_5 rfl rfl ?_
  refine g_iconst hx 6 (0) dX11_play_6 rfl ?_
  refine g_aload_n hx 7 (i := 0) 0 dX11_play_7 rfl rfl ?_
  refine g_get hx 8 (C := RX11) (T := TX11) (N := 30) 18 (.int (M.1 18)) (pM_o σ T (owF ad) 0 (setF M 9 0)) rfl (by decide) rfl fl_X11_312 dX11_play_8 ?_
  refine g_callSr hx (c_Md_inRange l g _ p1 0 (M.1 18) rfl) lk_X11_91 ar_Md_inRange (As := [.int p1, .int 0, .int (M.1 18)]) (rest := []) rfl (Nat.le_of_ble_eq_true rfl) ⟨Nat.le_of_ble_eq_true rfl, Nat.le_of_ble_eq_true rfl⟩ ⟨rfl, rfl⟩ ⟨Nat.zero_le _, Nat.zero_le _⟩ dX11_play_11 ?_
  refine g_if_ne hx 14 23 dX11_play_14 (by decide) (fun hc_1199 => ?_) (fun hc_1199 => ?_)
  · have hr := (if_neg hc_1199).symm.trans hr
    refine g_aload_n hx 23 (i := 0) 0 dX11_play_23 rfl rfl ?_
    refine g_iconst hx 24 (0) dX11_play_24 rfl ?_
    refine g_put hx 25 (C := RX11) (T := TX11) (N := 30) 29 .int _ (pM_o σ T (owF ad) 0 (setF M 9 0)) rfl (by decide) fl_X11_407 rfl rfl rfl rfl (Nat.le_of_ble_eq_true rfl) rfl dX11_play_25 ?_
    refine G.heap (pM_f σ T (owF ad) 0 (setF M 9 0) 29 0) ?_
    refine g_aload_n hx 28 (i := 0) 0 dX11_play_28 rfl rfl ?_
    refine g_iload_n hx 29 (i := 1) 1 dX11_play_29 rfl rfl ?_
    obtain ⟨M_1201, eM_1201, hr⟩ := bind_e hr
    refine g_callVv hx (c_Md_startText (ρ := 0) (by decide) l g σ T (owF ad) (setF (setF M 9 0) 29 0) p1 eM_1201) lk_X11_395 ar_Md_startText (pM_o σ T (owF ad) 0 (setF (setF M 9 0) 29 0)) (T := TX11) (N := 30) rfl (As := [.int p1]) (rest := []) rfl (Nat.le_of_ble_eq_true rfl) ⟨Nat.le_of_ble_eq_true rfl, Nat.le_of_ble_eq_true rfl⟩ ⟨rfl, rfl⟩ ⟨Nat.zero_le _, Nat.zero_le _⟩ dX11_play_30 ?_
    refine g_ls [0, 1] [(0, .ref T), (1, .int p1)] rfl ?_
    exact w_Md_play_L33 hx hC hR FU M_1201 p1 hr
  · have hr := (if_pos hc_1199).symm.trans hr
    refine g_aload_n hx 17 (i := 0) 0 dX11_play_17 rfl rfl ?_
    refine g_iconst hx 18 (1) dX11_play_18 rfl ?_
    obtain ⟨q_1200, eq_1200, hr⟩ := lt'_e hr
    refine g_callVr hx (c_Md_raise (ρ := 0) (by decide) l g σ T (owF ad) (setF M 9 0) 1 eq_1200.symm) lk_X11_195 ar_Md_raise (pM_o σ T (owF ad) 0 (setF M 9 0)) (T := TX11) (N := 30) rfl (As := [.int 1]) (rest := []) rfl (Nat.le_of_ble_eq_true rfl) ⟨Nat.le_of_ble_eq_true rfl, Nat.le_of_ble_eq_true rfl⟩ ⟨rfl, rfl⟩ ⟨Nat.zero_le _, Nat.zero_le _⟩ dX11_play_19 ?_
    exact g_iret hx hR 22 dX11_play_22 ⟨by rw [← Option.some.inj hr] <;> rfl, by rw [← Option.some.inj hr] <;> rfl⟩
