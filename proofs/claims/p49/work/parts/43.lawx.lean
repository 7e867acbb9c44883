/-! the law: numbers out of the script, the text fed, all that is shown -/
abbrev LwS : Type := WM × (Nat → Int32)
theorem pW_out (σ : Hp) (B : Nat) (ae : Nat → Nat) (w : WM) {o : Nat} (h : o < B ∨ B + 437 ≤ o) : (putW σ B ae w).2 o = σ.2 o := if_neg (by omega)
theorem pW_hset {σ : Hp} {B o : Nat} {ae : Nat → Nat} {w : WM} (h : o < B ∨ B + 437 ≤ o) (e : Ent) : hset (putW σ B ae w) o e = putW (hset σ o e) B ae w := by
  refine Prod.ext rfl (funext fun a => ?_)
  show (if a = o then some e else if B ≤ a ∧ a < B + 437 then _ else σ.2 a) = (if B ≤ a ∧ a < B + 437 then _ else if a = o then some e else σ.2 a)
  by_cases h1 : a = o
  · rw [if_pos h1, if_neg (by omega), if_pos h1]
  · rw [if_neg h1]
    by_cases h2 : B ≤ a ∧ a < B + 437
    · rw [if_pos h2, if_pos h2]
    · rw [if_neg h2, if_neg h2, if_neg h1]
theorem pW_x {σ : Hp} {B o : Nat} {ae : Nat → Nat} {w : WM} {e : Ent} (h : o < B ∨ B + 437 ≤ o) (e' : Ent) : hset (putW (hset σ o e) B ae w) o e' = putW (hset σ o e') B ae w := by rw [pW_hset h, hset_hset]
theorem pW_push {σ : Hp} {B : Nat} {ae : Nat → Nat} {w : WM} (h : B + 437 ≤ σ.1) (e : Ent) : hpush (putW σ B ae w) e = putW (hpush σ e) B ae w := by
  refine Prod.ext rfl (funext fun a => ?_)
  show (if a = σ.1 then some e else if B ≤ a ∧ a < B + 437 then _ else σ.2 a) = (if B ≤ a ∧ a < B + 437 then _ else if a = σ.1 then some e else σ.2 a)
  by_cases h1 : a = σ.1
  · rw [if_pos h1, if_neg (by omega), if_pos h1]
  · rw [if_neg h1]
    by_cases h2 : B ≤ a ∧ a < B + 437
    · rw [if_pos h2, if_pos h2]
    · rw [if_neg h2, if_neg h2, if_neg h1]
theorem pW_xp {σ : Hp} {B : Nat} {ae : Nat → Nat} {w : WM} {e : Ent} (h : B + 437 ≤ σ.1) (e' : Ent) : hset (putW (hpush σ e) B ae w) σ.1 e' = putW (hpush σ e') B ae w := by rw [pW_hset (Or.inr h), hset_hpush]
section GL
variable {X : Cx} {l : Launch} {g : Gl} {own : String} {cc : ByteArray} {nL : Nat} {R : Room} {σ : Hp} {k n : Nat} {ls : List (Nat × Value)} {st : List Value}
/-- the script, a row below the world -/
def Scr (g : Gl) (b L : Nat) (xs : Nat → Int32) : Prop := b < g.1.size ∧ ∀ U, g.2.2.2 U → va_X b L xs U g.1
theorem g_sld (hx : Ok X l g own cc nL R) (pc : Nat) {b L : Nat} {xs : Nat → Int32} {i : Int32} (hs : Scr g b L xs) (hin : vp_in i L) (hd : decode cc pc = .ok (.iaload, 1)) (h : G X σ k n (pc + 1) ls (.int (xs i.toNatClampNeg) :: st)) : G X σ k n pc ls (.int i :: .ref b :: st) := by
  obtain ⟨p, l', e, R', s, m, args, below, meth, c, Q, g'⟩ := X
  obtain ⟨h1, h2, h3, h4, h5, h6, h7, h8, rfl, rfl, rfl⟩ := hx
  intro H locs la hP hS hL
  have hX := (hs.2 s h8.1).kept ((hS.2.1 b (Nat.lt_of_lt_of_le hs.1 h7) (Nat.not_le.mpr hs.1)).symm.trans (hP.1.2 b hs.1))
  exact va_sld h1 h2 hX (Nat.lt_of_lt_of_le hs.1 h7) (Nat.not_le.mpr hs.1) hS hin hd (h H locs la hP hS hL)
theorem g_slen (hx : Ok X l g own cc nL R) (pc : Nat) {b L : Nat} {xs : Nat → Int32} (hs : Scr g b L xs) (hd : decode cc pc = .ok (.arraylength, 1)) (h : G X σ k n (pc + 1) ls (.int (nI L) :: st)) : G X σ k n pc ls (.ref b :: st) := by
  obtain ⟨p, l', e, R', s, m, args, below, meth, c, Q, g'⟩ := X
  obtain ⟨h1, h2, h3, h4, h5, h6, h7, h8, rfl, rfl, rfl⟩ := hx
  intro H locs la hP hS hL
  have hX := (hs.2 s h8.1).kept ((hS.2.1 b (Nat.lt_of_lt_of_le hs.1 h7) (Nat.not_le.mpr hs.1)).symm.trans (hP.1.2 b hs.1))
  exact va_slen h1 h2 hX (Nat.lt_of_lt_of_le hs.1 h7) (Nat.not_le.mpr hs.1) hS hd (h H locs la hP hS hL)
end GL
def md_Lw_add : Md := (yL_add, cL_add, 4, none, 3, 68, 0, 0)
def md_Lw_end : Md := (yL_end, cL_end, 3, some .int, 4, 91, 0, 0)
def md_Lw_alike : Md := (yL_alike, cL_alike, 3, some .boolean, 0, 0, 0, 0)
def md_Lw_all : Md := (yL_all, cL_all, 8, some (.array .int), 4, 87, 1, 300)
def md_Lw_cell : Md := (yL_cell, cL_cell, 2, some .int, 0, 0, 0, 0)
theorem lk_L_8 : Lk md_SA_feed [.methodLink RL 8 md_SA_feed.y, .instanceMethod md_SA_feed.y, .selects md_SA_feed.y.cls md_SA_feed.y md_SA_feed.y] := lk_of (by decide +kernel)
theorem ar_SA_feed : Arity md_SA_feed 5 := ⟨by decide +kernel, by decide +kernel, by decide +kernel⟩
theorem lk_L_24 : Lk md_Lw_add [.methodLink RL 24 md_Lw_add.y, .static md_Lw_add.y] := lk_of (by decide +kernel)
theorem ar_Lw_add : Arity md_Lw_add 3 := ⟨by decide +kernel, by decide +kernel, by decide +kernel⟩
def Lw_cell (L : Nat) (xs : Nat → Int32) (j : Nat) : Int32 := if j < L then xs j else nI (37 * j)
theorem c_Lw_cell (l : Launch) (g : Gl) (σ : Hp) {b L : Nat} {xs : Nat → Int32} (hs : Scr g b L xs) (hL : L < 100000) (j : Nat) (hj : j < 1000) : MG l g md_Lw_cell [.ref b, .int (nI j)] σ (rs (some (.int (Lw_cell L xs j))) σ) := by
  refine MG.intro (by decide +kernel) (Nat.le_of_ble_eq_true rfl) (fun X hx hR _ => ?_)
  refine g_ls [0, 1] [(0, .ref b), (1, .int (nI j))] rfl ?_
  refine g_iload_n hx 0 (i := 1) 1 dL_cell_0 rfl rfl ?_
  refine g_aload_n hx 1 (i := 0) 0 dL_cell_1 rfl rfl ?_
  refine g_slen hx 2 hs dL_cell_2 ?_
  by_cases h : j < L
  · refine g_icmp_ge hx 3 12 dL_cell_3 (by decide) (fun hc => absurd hc (nI_ge h (by omega))) (fun _ => ?_)
    refine g_aload_n hx 6 (i := 0) 0 dL_cell_6 rfl rfl ?_
    refine g_iload_n hx 7 (i := 1) 1 dL_cell_7 rfl rfl ?_
    refine g_sld hx 8 hs (vp_in_nI h (by omega)) dL_cell_8 ?_
    rw [nI_clamp (show j < 2 ^ 31 by omega)]
    refine g_goto hx 9 16 dL_cell_9 (by decide) ?_
    exact g_iret hx hR 16 dL_cell_16 ⟨by unfold Lw_cell; rw [if_pos h], rfl⟩
  · refine g_icmp_ge hx 3 12 dL_cell_3 (by decide) (fun _ => ?_) (fun hc => absurd (nI_le (by omega) (by omega)) hc)
    refine g_bipush hx 12 37 dL_cell_12 rfl ?_
    refine g_iload_n hx 14 (i := 1) 1 dL_cell_14 rfl rfl ?_
    refine g_imul hx 15 dL_cell_15 ?_
    exact g_iret hx hR 16 dL_cell_16 ⟨by unfold Lw_cell; rw [if_neg h, show (37 : Int32) * nI j = nI (37 * j) from (Int32.ofNat_mul 37 j).symm], rfl⟩
def Lw_add_L65 : Nat → LwS → Int32 → Int32 → Option (LwS)
  | 0, _, _, _ => none
  | n + 1, M, v2_550, v3_551 => if 5 ≤ v3_551 then (some (M)) else (if inB v3_551 6 then (Lw_add_L65 n (M.1, upd M.2 v3_551.toNatClampNeg 0) v2_550 (v3_551 + 1)) else none)
def Lw_add (M : LwS) (p2 : Int32) : Option (LwS) := if inB 5 6 then (if inB (((M.2 (5 : Int32).toNatClampNeg) - (M.2 (5 : Int32).toNatClampNeg) / 20 * 20) / 4) 6 then (if inB 5 6 then (if inB (((M.2 (5 : Int32).toNatClampNeg) - (M.2 (5 : Int32).toNatClampNeg) / 20 * 20) / 4) 6 then (if inB 5 6 then (if inB 5 6 then (if inB 5 6 then (if ((upd (upd M.2 (((M.2 (5 : Int32).toNatClampNeg) - (M.2 (5 : Int32).toNatClampNeg) / 20 * 20) / 4).toNatClampNeg ((M.2 (((M.2 (5 : Int32).toNatClampNeg) - (M.2 (5 : Int32).toNatClampNeg) / 20 * 20) / 4).toNatClampNeg) ||| (p2 <<< ((24 - (8 * ((M.2 (5 : Int32).toNatClampNeg) - (M.2 (5 : Int32).toNatClampNeg) / 4 * 4))) &&& 31)))) (5 : Int32).toNatClampNeg (((upd M.2 (((M.2 (5 : Int32).toNatClampNeg) - (M.2 (5 : Int32).toNatClampNeg) / 20 * 20) / 4).toNatClampNeg ((M.2 (((M.2 (5 : Int32).toNatClampNeg) - (M.2 (5 : Int32).toNatClampNeg) / 20 * 20) / 4).toNatClampNeg) ||| (p2 <<< ((24 - (8 * ((M.2 (5 : Int32).toNatClampNeg) - (M.2 (5 : Int32).toNatClampNeg) / 4 * 4))) &&& 31)))) (5 : Int32).toNatClampNeg) + 1)) (5 : Int32).toNatClampNeg) - ((upd (upd M.2 (((M.2 (5 : Int32).toNatClampNeg) - (M.2 (5 : Int32).toNatClampNeg) / 20 * 20) / 4).toNatClampNeg ((M.2 (((M.2 (5 : Int32).toNatClampNeg) - (M.2 (5 : Int32).toNatClampNeg) / 20 * 20) / 4).toNatClampNeg) ||| (p2 <<< ((24 - (8 * ((M.2 (5 : Int32).toNatClampNeg) - (M.2 (5 : Int32).toNatClampNeg) / 4 * 4))) &&& 31)))) (5 : Int32).toNatClampNeg (((upd M.2 (((M.2 (5 : Int32).toNatClampNeg) - (M.2 (5 : Int32).toNatClampNeg) / 20 * 20) / 4).toNatClampNeg ((M.2 (((M.2 (5 : Int32).toNatClampNeg) - (M.2 (5 : Int32).toNatClampNeg) / 20 * 20) / 4).toNatClampNeg) ||| (p2 <<< ((24 - (8 * ((M.2 (5 : Int32).toNatClampNeg) - (M.2 (5 : Int32).toNatClampNeg) / 4 * 4))) &&& 31)))) (5 : Int32).toNatClampNeg) + 1)) (5 : Int32).toNatClampNeg) / 20 * 20 = 0 then (if inB 0 6 then (if inB 1 6 then (if inB 2 6 then (if inB 3 6 then (if inB 4 6 then (Option.bind (SA_feed M.1 ((upd (upd M.2 (((M.2 (5 : Int32).toNatClampNeg) - (M.2 (5 : Int32).toNatClampNeg) / 20 * 20) / 4).toNatClampNeg ((M.2 (((M.2 (5 : Int32).toNatClampNeg) - (M.2 (5 : Int32).toNatClampNeg) / 20 * 20) / 4).toNatClampNeg) ||| (p2 <<< ((24 - (8 * ((M.2 (5 : Int32).toNatClampNeg) - (M.2 (5 : Int32).toNatClampNeg) / 4 * 4))) &&& 31)))) (5 : Int32).toNatClampNeg (((upd M.2 (((M.2 (5 : Int32).toNatClampNeg) - (M.2 (5 : Int32).toNatClampNeg) / 20 * 20) / 4).toNatClampNeg ((M.2 (((M.2 (5 : Int32).toNatClampNeg) - (M.2 (5 : Int32).toNatClampNeg) / 20 * 20) / 4).toNatClampNeg) ||| (p2 <<< ((24 - (8 * ((M.2 (5 : Int32).toNatClampNeg) - (M.2 (5 : Int32).toNatClampNeg) / 4 * 4))) &&& 31)))) (5 : Int32).toNatClampNeg) + 1)) (0 : Int32).toNatClampNeg) ((upd (upd M.2 (((M.2 (5 : Int32).toNatClampNeg) - (M.2 (5 : Int32).toNatClampNeg) / 20 * 20) / 4).toNatClampNeg ((M.2 (((M.2 (5 : Int32).toNatClampNeg) - (M.2 (5 : Int32).toNatClampNeg) / 20 * 20) / 4).toNatClampNeg) ||| (p2 <<< ((24 - (8 * ((M.2 (5 : Int32).toNatClampNeg) - (M.2 (5 : Int32).toNatClampNeg) / 4 * 4))) &&& 31)))) (5 : Int32).toNatClampNeg (((upd M.2 (((M.2 (5 : Int32).toNatClampNeg) - (M.2 (5 : Int32).toNatClampNeg) / 20 * 20) / 4).toNatClampNeg ((M.2 (((M.2 (5 : Int32).toNatClampNeg) - (M.2 (5 : Int32).toNatClampNeg) / 20 * 20) / 4).toNatClampNeg) ||| (p2 <<< ((24 - (8 * ((M.2 (5 : Int32).toNatClampNeg) - (M.2 (5 : Int32).toNatClampNeg) / 4 * 4))) &&& 31)))) (5 : Int32).toNatClampNeg) + 1)) (1 : Int32).toNatClampNeg) ((upd (upd M.2 (((M.2 (5 : Int32).toNatClampNeg) - (M.2 (5 : Int32).toNatClampNeg) / 20 * 20) / 4).toNatClampNeg ((M.2 (((M.2 (5 : Int32).toNatClampNeg) - (M.2 (5 : Int32).toNatClampNeg) / 20 * 20) / 4).toNatClampNeg) ||| (p2 <<< ((24 - (8 * ((M.2 (5 : Int32).toNatClampNeg) - (M.2 (5 : Int32).toNatClampNeg) / 4 * 4))) &&& 31)))) (5 : Int32).toNatClampNeg (((upd M.2 (((M.2 (5 : Int32).toNatClampNeg) - (M.2 (5 : Int32).toNatClampNeg) / 20 * 20) / 4).toNatClampNeg ((M.2 (((M.2 (5 : Int32).toNatClampNeg) - (M.2 (5 : Int32).toNatClampNeg) / 20 * 20) / 4).toNatClampNeg) ||| (p2 <<< ((24 - (8 * ((M.2 (5 : Int32).toNatClampNeg) - (M.2 (5 : Int32).toNatClampNeg) / 4 * 4))) &&& 31)))) (5 : Int32).toNatClampNeg) + 1)) (2 : Int32).toNatClampNeg) ((upd (upd M.2 (((M.2 (5 : Int32).toNatClampNeg) - (M.2 (5 : Int32).toNatClampNeg) / 20 * 20) / 4).toNatClampNeg ((M.2 (((M.2 (5 : Int32).toNatClampNeg) - (M.2 (5 : Int32).toNatClampNeg) / 20 * 20) / 4).toNatClampNeg) ||| (p2 <<< ((24 - (8 * ((M.2 (5 : Int32).toNatClampNeg) - (M.2 (5 : Int32).toNatClampNeg) / 4 * 4))) &&& 31)))) (5 : Int32).toNatClampNeg (((upd M.2 (((M.2 (5 : Int32).toNatClampNeg) - (M.2 (5 : Int32).toNatClampNeg) / 20 * 20) / 4).toNatClampNeg ((M.2 (((M.2 (5 : Int32).toNatClampNeg) - (M.2 (5 : Int32).toNatClampNeg) / 20 * 20) / 4).toNatClampNeg) ||| (p2 <<< ((24 - (8 * ((M.2 (5 : Int32).toNatClampNeg) - (M.2 (5 : Int32).toNatClampNeg) / 4 * 4))) &&& 31)))) (5 : Int32).toNatClampNeg) + 1)) (3 : Int32).toNatClampNeg) ((upd (upd M.2 (((M.2 (5 : Int32).toNatClampNeg) - (M.2 (5 : Int32).toNatClampNeg) / 20 * 20) / 4).toNatClampNeg ((M.2 (((M.2 (5 : Int32).toNatClampNeg) - (M.2 (5 : Int32).toNatClampNeg) / 20 * 20) / 4).toNatClampNeg) ||| (p2 <<< ((24 - (8 * ((M.2 (5 : Int32).toNatClampNeg) - (M.2 (5 : Int32).toNatClampNeg) / 4 * 4))) &&& 31)))) (5 : Int32).toNatClampNeg (((upd M.2 (((M.2 (5 : Int32).toNatClampNeg) - (M.2 (5 : Int32).toNatClampNeg) / 20 * 20) / 4).toNatClampNeg ((M.2 (((M.2 (5 : Int32).toNatClampNeg) - (M.2 (5 : Int32).toNatClampNeg) / 20 * 20) / 4).toNatClampNeg) ||| (p2 <<< ((24 - (8 * ((M.2 (5 : Int32).toNatClampNeg) - (M.2 (5 : Int32).toNatClampNeg) / 4 * 4))) &&& 31)))) (5 : Int32).toNatClampNeg) + 1)) (4 : Int32).toNatClampNeg)) fun q_549 => Lw_add_L65 FU (q_549.2, upd (upd M.2 (((M.2 (5 : Int32).toNatClampNeg) - (M.2 (5 : Int32).toNatClampNeg) / 20 * 20) / 4).toNatClampNeg ((M.2 (((M.2 (5 : Int32).toNatClampNeg) - (M.2 (5 : Int32).toNatClampNeg) / 20 * 20) / 4).toNatClampNeg) ||| (p2 <<< ((24 - (8 * ((M.2 (5 : Int32).toNatClampNeg) - (M.2 (5 : Int32).toNatClampNeg) / 4 * 4))) &&& 31)))) (5 : Int32).toNatClampNeg (((upd M.2 (((M.2 (5 : Int32).toNatClampNeg) - (M.2 (5 : Int32).toNatClampNeg) / 20 * 20) / 4).toNatClampNeg ((M.2 (((M.2 (5 : Int32).toNatClampNeg) - (M.2 (5 : Int32).toNatClampNeg) / 20 * 20) / 4).toNatClampNeg) ||| (p2 <<< ((24 - (8 * ((M.2 (5 : Int32).toNatClampNeg) - (M.2 (5 : Int32).toNatClampNeg) / 4 * 4))) &&& 31)))) (5 : Int32).toNatClampNeg) + 1)) p2 0) else none) else none) else none) else none) else none) else (some ((M.1, upd (upd M.2 (((M.2 (5 : Int32).toNatClampNeg) - (M.2 (5 : Int32).toNatClampNeg) / 20 * 20) / 4).toNatClampNeg ((M.2 (((M.2 (5 : Int32).toNatClampNeg) - (M.2 (5 : Int32).toNatClampNeg) / 20 * 20) / 4).toNatClampNeg) ||| (p2 <<< ((24 - (8 * ((M.2 (5 : Int32).toNatClampNeg) - (M.2 (5 : Int32).toNatClampNeg) / 4 * 4))) &&& 31)))) (5 : Int32).toNatClampNeg (((upd M.2 (((M.2 (5 : Int32).toNatClampNeg) - (M.2 (5 : Int32).toNatClampNeg) / 20 * 20) / 4).toNatClampNeg ((M.2 (((M.2 (5 : Int32).toNatClampNeg) - (M.2 (5 : Int32).toNatClampNeg) / 20 * 20) / 4).toNatClampNeg) ||| (p2 <<< ((24 - (8 * ((M.2 (5 : Int32).toNatClampNeg) - (M.2 (5 : Int32).toNatClampNeg) / 4 * 4))) &&& 31)))) (5 : Int32).toNatClampNeg) + 1))))) else none) else none) else none) else none) else none) else none) else none
set_option maxRecDepth 100000 in
set_option maxHeartbeats 4000000 in
theorem w_Lw_add_L65 {ad ae : Nat → Nat} {σ : Hp} {B wa : Nat} {X : Cx} {l : Launch} {g : Gl} (hx : Ok X l g RL cL_add 4 md_Lw_add.rm) (hC : KAll g ad ae) (hwa : wa < B ∨ B + 437 ≤ wa)  {r : LwS} (hR : Ret X (rs none (putW (hset σ wa (eI 6 r.2)) B ae r.1)) 0 0 (none)) : ∀ (n : Nat) (M : LwS) (v2_550 v3_551 : Int32), Lw_add_L65 n M v2_550 v3_551 = some r → G X (putW (hset σ wa (eI 6 M.2)) B ae M.1) 0 0 65 [(0, .ref B), (1, .ref wa), (2, .int v2_550), (3, .int v3_551)] [] := by
  intro n
  induction n with
  | zero =>
    intro M v2_550 v3_551 hr
    rw [Lw_add_L65] at hr
    cases hr
  | succ n ih =>
    intro M v2_550 v3_551 hr
    rw [Lw_add_L65] at hr
    refine g_iload_n hx 65 (i := 3) 3 dL_add_65 rfl rfl ?_
    refine g_iconst hx 66 (5) dL_add_66 rfl ?_
    refine g_icmp_ge hx 67 80 dL_add_67 (by decide) (fun hc_552 => ?_) (fun hc_552 => ?_)
    · have hr := (if_pos hc_552).symm.trans hr
      exact g_vret hx hR 80 dL_add_80 ⟨rfl, by rw [← Option.some.inj hr] <;> rfl⟩
    · have hr := (if_neg hc_552).symm.trans hr
      refine g_aload_n hx 70 (i := 1) 1 dL_add_70 rfl rfl ?_
      refine g_iload_n hx 71 (i := 3) 3 dL_add_71 rfl rfl ?_
      refine g_iconst hx 72 (0) dL_add_72 rfl ?_
      obtain ⟨hb_553, hr⟩ := ob hr
      refine g_iast hx 73 ((pW_out _ B ae M.1 hwa).trans (hset_self σ wa _)) hb_553 dL_add_73 ?_
      refine G.heap (pW_x hwa _) ?_
      refine g_iinc hx 74 (i := 3) 3 (v3_551 + 1) [(3, .int (v3_551 + 1)), (0, .ref B), (1, .ref wa), (2, .int v2_550)] dL_add_74 rfl rfl (by decide) rfl ?_
      refine g_goto hx 77 65 dL_add_77 (by decide) ?_
      refine g_ls [1, 2, 3, 0] [(0, .ref B), (1, .ref wa), (2, .int v2_550), (3, .int (v3_551 + 1))] rfl ?_
      exact ih (M.1, upd M.2 v3_551.toNatClampNeg 0) v2_550 (v3_551 + 1) hr
set_option maxRecDepth 100000 in
set_option maxHeartbeats 4000000 in
theorem c_Lw_add {ad ae : Nat → Nat} {σ : Hp} {B wa : Nat} (l : Launch) (g : Gl) (hC : KAll g ad ae) (hwa : wa < B ∨ B + 437 ≤ wa) (M : LwS) (p2 : Int32) {r : LwS} (hr : Lw_add M p2 = some r) : MG l g md_Lw_add [.ref B, .ref wa, .int p2] (putW (hset σ wa (eI 6 M.2)) B ae M.1) (rs none (putW (hset σ wa (eI 6 r.2)) B ae r.1)) := by
  refine MG.intro (by decide +kernel) (Nat.le_of_ble_eq_true rfl) (fun X hx hR _ => ?_)
  unfold Lw_add at hr
  refine g_ls [0, 1, 2] [(0, .ref B), (1, .ref wa), (2, .int p2)] rfl ?_
  refine g_aload_n hx 0 (i := 1) 1 dL_add_0 rfl rfl ?_
  refine g_aload_n hx 1 (i := 1) 1 dL_add_1 rfl rfl ?_
  refine g_iconst hx 2 (5) dL_add_2 rfl ?_
  obtain ⟨hb_534, hr⟩ := ob hr
  refine g_iald hx 3 ((pW_out _ B ae M.1 hwa).trans (hset_self σ wa _)) hb_534 dL_add_3 ?_
  refine g_bipush hx 4 (20) dL_add_4 rfl ?_
  refine g_irem hx 6 dL_add_6 (by decide) ?_
  refine g_iconst hx 7 (4) dL_add_7 rfl ?_
  refine g_idiv hx 8 dL_add_8 (by decide) ?_
  refine g_dup2 hx 9 dL_add_9 rfl rfl ?_
  obtain ⟨hb_535, hr⟩ := ob hr
  refine g_iald hx 10 ((pW_out _ B ae M.1 hwa).trans (hset_self σ wa _)) hb_535 dL_add_10 ?_
  refine g_iload_n hx 11 (i := 2) 2 dL_add_11 rfl rfl ?_
  refine g_bipush hx 12 (24) dL_add_12 rfl ?_
  refine g_bipush hx 14 (8) dL_add_14 rfl ?_
  refine g_aload_n hx 16 (i := 1) 1 dL_add_16 rfl rfl ?_
  refine g_iconst hx 17 (5) dL_add_17 rfl ?_
  obtain ⟨hb_536, hr⟩ := ob hr
  refine g_iald hx 18 ((pW_out _ B ae M.1 hwa).trans (hset_self σ wa _)) hb_536 dL_add_18 ?_
  refine g_iconst hx 19 (4) dL_add_19 rfl ?_
  refine g_irem hx 20 dL_add_20 (by decide) ?_
  refine g_imul hx 21 dL_add_21 ?_
  refine g_isub hx 22 dL_add_22 ?_
  refine g_ishl hx 23 dL_add_23 ?_
  refine g_ior hx 24 dL_add_24 ?_
  obtain ⟨hb_537, hr⟩ := ob hr
  refine g_iast hx 25 ((pW_out _ B ae M.1 hwa).trans (hset_self σ wa _)) hb_537 dL_add_25 ?_
  refine G.heap (pW_x hwa _) ?_
  refine g_aload_n hx 26 (i := 1) 1 dL_add_26 rfl rfl ?_
  refine g_iconst hx 27 (5) dL_add_27 rfl ?_
  refine g_dup2 hx 28 dL_add_28 rfl rfl ?_
  obtain ⟨hb_539, hr⟩ := ob hr
  refine g_iald hx 29 ((pW_out _ B ae M.1 hwa).trans (hset_self σ wa _)) hb_539 dL_add_29 ?_
  refine g_iconst hx 30 (1) dL_add_30 rfl ?_
  refine g_iadd hx 31 dL_add_31 ?_
  obtain ⟨hb_540, hr⟩ := ob hr
  refine g_iast hx 32 ((pW_out _ B ae M.1 hwa).trans (hset_self σ wa _)) hb_540 dL_add_32 ?_
  refine G.heap (pW_x hwa _) ?_
  refine g_aload_n hx 33 (i := 1) 1 dL_add_33 rfl rfl ?_
  refine g_iconst hx 34 (5) dL_add_34 rfl ?_
  obtain ⟨hb_542, hr⟩ := ob hr
  refine g_iald hx 35 ((pW_out _ B ae M.1 hwa).trans (hset_self σ wa _)) hb_542 dL_add_35 ?_
  refine g_bipush hx 36 (20) dL_add_36 rfl ?_
  refine g_irem hx 38 dL_add_38 (by decide) ?_
  refine g_if_eq hx 39 43 dL_add_39 (by decide) (fun hc_543 => ?_) (fun hc_543 => ?_)
  · have hr := (if_pos hc_543).symm.trans hr
    refine g_aload_n hx 43 (i := 0) 0 dL_add_43 rfl rfl ?_
    refine g_aload_n hx 44 (i := 1) 1 dL_add_44 rfl rfl ?_
    refine g_iconst hx 45 (0) dL_add_45 rfl ?_
    obtain ⟨hb_544, hr⟩ := ob hr
    refine g_iald hx 46 ((pW_out _ B ae M.1 hwa).trans (hset_self σ wa _)) hb_544 dL_add_46 ?_
    refine g_aload_n hx 47 (i := 1) 1 dL_add_47 rfl rfl ?_
    refine g_iconst hx 48 (1) dL_add_48 rfl ?_
    obtain ⟨hb_545, hr⟩ := ob hr
    refine g_iald hx 49 ((pW_out _ B ae M.1 hwa).trans (hset_self σ wa _)) hb_545 dL_add_49 ?_
    refine g_aload_n hx 50 (i := 1) 1 dL_add_50 rfl rfl ?_
    refine g_iconst hx 51 (2) dL_add_51 rfl ?_
    obtain ⟨hb_546, hr⟩ := ob hr
    refine g_iald hx 52 ((pW_out _ B ae M.1 hwa).trans (hset_self σ wa _)) hb_546 dL_add_52 ?_
    refine g_aload_n hx 53 (i := 1) 1 dL_add_53 rfl rfl ?_
    refine g_iconst hx 54 (3) dL_add_54 rfl ?_
    obtain ⟨hb_547, hr⟩ := ob hr
    refine g_iald hx 55 ((pW_out _ B ae M.1 hwa).trans (hset_self σ wa _)) hb_547 dL_add_55 ?_
    refine g_aload_n hx 56 (i := 1) 1 dL_add_56 rfl rfl ?_
    refine g_iconst hx 57 (4) dL_add_57 rfl ?_
    obtain ⟨hb_548, hr⟩ := ob hr
    refine g_iald hx 58 ((pW_out _ B ae M.1 hwa).trans (hset_self σ wa _)) hb_548 dL_add_58 ?_
    obtain ⟨q_549, eq_549, hr⟩ := bind_e hr
    refine g_callVr hx (c_SA_feed l g hC (hset σ wa (eI 6 (upd (upd M.2 (((M.2 (5 : Int32).toNatClampNeg) - (M.2 (5 : Int32).toNatClampNeg) / 20 * 20) / 4).toNatClampNeg ((M.2 (((M.2 (5 : Int32).toNatClampNeg) - (M.2 (5 : Int32).toNatClampNeg) / 20 * 20) / 4).toNatClampNeg) ||| (p2 <<< ((24 - (8 * ((M.2 (5 : Int32).toNatClampNeg) - (M.2 (5 : Int32).toNatClampNeg) / 4 * 4))) &&& 31)))) (5 : Int32).toNatClampNeg (((upd M.2 (((M.2 (5 : Int32).toNatClampNeg) - (M.2 (5 : Int32).toNatClampNeg) / 20 * 20) / 4).toNatClampNeg ((M.2 (((M.2 (5 : Int32).toNatClampNeg) - (M.2 (5 : Int32).toNatClampNeg) / 20 * 20) / 4).toNatClampNeg) ||| (p2 <<< ((24 - (8 * ((M.2 (5 : Int32).toNatClampNeg) - (M.2 (5 : Int32).toNatClampNeg) / 4 * 4))) &&& 31)))) (5 : Int32).toNatClampNeg) + 1)))) B M.1 ((upd (upd M.2 (((M.2 (5 : Int32).toNatClampNeg) - (M.2 (5 : Int32).toNatClampNeg) / 20 * 20) / 4).toNatClampNeg ((M.2 (((M.2 (5 : Int32).toNatClampNeg) - (M.2 (5 : Int32).toNatClampNeg) / 20 * 20) / 4).toNatClampNeg) ||| (p2 <<< ((24 - (8 * ((M.2 (5 : Int32).toNatClampNeg) - (M.2 (5 : Int32).toNatClampNeg) / 4 * 4))) &&& 31)))) (5 : Int32).toNatClampNeg (((upd M.2 (((M.2 (5 : Int32).toNatClampNeg) - (M.2 (5 : Int32).toNatClampNeg) / 20 * 20) / 4).toNatClampNeg ((M.2 (((M.2 (5 : Int32).toNatClampNeg) - (M.2 (5 : Int32).toNatClampNeg) / 20 * 20) / 4).toNatClampNeg) ||| (p2 <<< ((24 - (8 * ((M.2 (5 : Int32).toNatClampNeg) - (M.2 (5 : Int32).toNatClampNeg) / 4 * 4))) &&& 31)))) (5 : Int32).toNatClampNeg) + 1)) (0 : Int32).toNatClampNeg) ((upd (upd M.2 (((M.2 (5 : Int32).toNatClampNeg) - (M.2 (5 : Int32).toNatClampNeg) / 20 * 20) / 4).toNatClampNeg ((M.2 (((M.2 (5 : Int32).toNatClampNeg) - (M.2 (5 : Int32).toNatClampNeg) / 20 * 20) / 4).toNatClampNeg) ||| (p2 <<< ((24 - (8 * ((M.2 (5 : Int32).toNatClampNeg) - (M.2 (5 : Int32).toNatClampNeg) / 4 * 4))) &&& 31)))) (5 : Int32).toNatClampNeg (((upd M.2 (((M.2 (5 : Int32).toNatClampNeg) - (M.2 (5 : Int32).toNatClampNeg) / 20 * 20) / 4).toNatClampNeg ((M.2 (((M.2 (5 : Int32).toNatClampNeg) - (M.2 (5 : Int32).toNatClampNeg) / 20 * 20) / 4).toNatClampNeg) ||| (p2 <<< ((24 - (8 * ((M.2 (5 : Int32).toNatClampNeg) - (M.2 (5 : Int32).toNatClampNeg) / 4 * 4))) &&& 31)))) (5 : Int32).toNatClampNeg) + 1)) (1 : Int32).toNatClampNeg) ((upd (upd M.2 (((M.2 (5 : Int32).toNatClampNeg) - (M.2 (5 : Int32).toNatClampNeg) / 20 * 20) / 4).toNatClampNeg ((M.2 (((M.2 (5 : Int32).toNatClampNeg) - (M.2 (5 : Int32).toNatClampNeg) / 20 * 20) / 4).toNatClampNeg) ||| (p2 <<< ((24 - (8 * ((M.2 (5 : Int32).toNatClampNeg) - (M.2 (5 : Int32).toNatClampNeg) / 4 * 4))) &&& 31)))) (5 : Int32).toNatClampNeg (((upd M.2 (((M.2 (5 : Int32).toNatClampNeg) - (M.2 (5 : Int32).toNatClampNeg) / 20 * 20) / 4).toNatClampNeg ((M.2 (((M.2 (5 : Int32).toNatClampNeg) - (M.2 (5 : Int32).toNatClampNeg) / 20 * 20) / 4).toNatClampNeg) ||| (p2 <<< ((24 - (8 * ((M.2 (5 : Int32).toNatClampNeg) - (M.2 (5 : Int32).toNatClampNeg) / 4 * 4))) &&& 31)))) (5 : Int32).toNatClampNeg) + 1)) (2 : Int32).toNatClampNeg) ((upd (upd M.2 (((M.2 (5 : Int32).toNatClampNeg) - (M.2 (5 : Int32).toNatClampNeg) / 20 * 20) / 4).toNatClampNeg ((M.2 (((M.2 (5 : Int32).toNatClampNeg) - (M.2 (5 : Int32).toNatClampNeg) / 20 * 20) / 4).toNatClampNeg) ||| (p2 <<< ((24 - (8 * ((M.2 (5 : Int32).toNatClampNeg) - (M.2 (5 : Int32).toNatClampNeg) / 4 * 4))) &&& 31)))) (5 : Int32).toNatClampNeg (((upd M.2 (((M.2 (5 : Int32).toNatClampNeg) - (M.2 (5 : Int32).toNatClampNeg) / 20 * 20) / 4).toNatClampNeg ((M.2 (((M.2 (5 : Int32).toNatClampNeg) - (M.2 (5 : Int32).toNatClampNeg) / 20 * 20) / 4).toNatClampNeg) ||| (p2 <<< ((24 - (8 * ((M.2 (5 : Int32).toNatClampNeg) - (M.2 (5 : Int32).toNatClampNeg) / 4 * 4))) &&& 31)))) (5 : Int32).toNatClampNeg) + 1)) (3 : Int32).toNatClampNeg) ((upd (upd M.2 (((M.2 (5 : Int32).toNatClampNeg) - (M.2 (5 : Int32).toNatClampNeg) / 20 * 20) / 4).toNatClampNeg ((M.2 (((M.2 (5 : Int32).toNatClampNeg) - (M.2 (5 : Int32).toNatClampNeg) / 20 * 20) / 4).toNatClampNeg) ||| (p2 <<< ((24 - (8 * ((M.2 (5 : Int32).toNatClampNeg) - (M.2 (5 : Int32).toNatClampNeg) / 4 * 4))) &&& 31)))) (5 : Int32).toNatClampNeg (((upd M.2 (((M.2 (5 : Int32).toNatClampNeg) - (M.2 (5 : Int32).toNatClampNeg) / 20 * 20) / 4).toNatClampNeg ((M.2 (((M.2 (5 : Int32).toNatClampNeg) - (M.2 (5 : Int32).toNatClampNeg) / 20 * 20) / 4).toNatClampNeg) ||| (p2 <<< ((24 - (8 * ((M.2 (5 : Int32).toNatClampNeg) - (M.2 (5 : Int32).toNatClampNeg) / 4 * 4))) &&& 31)))) (5 : Int32).toNatClampNeg) + 1)) (4 : Int32).toNatClampNeg) eq_549) lk_L_8 ar_SA_feed (pW (hset σ wa (eI 6 (upd (upd M.2 (((M.2 (5 : Int32).toNatClampNeg) - (M.2 (5 : Int32).toNatClampNeg) / 20 * 20) / 4).toNatClampNeg ((M.2 (((M.2 (5 : Int32).toNatClampNeg) - (M.2 (5 : Int32).toNatClampNeg) / 20 * 20) / 4).toNatClampNeg) ||| (p2 <<< ((24 - (8 * ((M.2 (5 : Int32).toNatClampNeg) - (M.2 (5 : Int32).toNatClampNeg) / 4 * 4))) &&& 31)))) (5 : Int32).toNatClampNeg (((upd M.2 (((M.2 (5 : Int32).toNatClampNeg) - (M.2 (5 : Int32).toNatClampNeg) / 20 * 20) / 4).toNatClampNeg ((M.2 (((M.2 (5 : Int32).toNatClampNeg) - (M.2 (5 : Int32).toNatClampNeg) / 20 * 20) / 4).toNatClampNeg) ||| (p2 <<< ((24 - (8 * ((M.2 (5 : Int32).toNatClampNeg) - (M.2 (5 : Int32).toNatClampNeg) / 4 * 4))) &&& 31)))) (5 : Int32).toNatClampNeg) + 1)))) B ae M.1 0 (by decide)) (T := TX10) (N := 11) rfl (As := [.int ((upd (upd M.2 (((M.2 (5 : Int32).toNatClampNeg) - (M.2 (5 : Int32).toNatClampNeg) / 20 * 20) / 4).toNatClampNeg ((M.2 (((M.2 (5 : Int32).toNatClampNeg) - (M.2 (5 : Int32).toNatClampNeg) / 20 * 20) / 4).toNatClampNeg) ||| (p2 <<< ((24 - (8 * ((M.2 (5 : Int32).toNatClampNeg) - (M.2 (5 : Int32).toNatClampNeg) / 4 * 4))) &&& 31)))) (5 : Int32).toNatClampNeg (((upd M.2 (((M.2 (5 : Int32).toNatClampNeg) - (M.2 (5 : Int32).toNatClampNeg) / 20 * 20) / 4).toNatClampNeg ((M.2 (((M.2 (5 : Int32).toNatClampNeg) - (M.2 (5 : Int32).toNatClampNeg) / 20 * 20) / 4).toNatClampNeg) ||| (p2 <<< ((24 - (8 * ((M.2 (5 : Int32).toNatClampNeg) - (M.2 (5 : Int32).toNatClampNeg) / 4 * 4))) &&& 31)))) (5 : Int32).toNatClampNeg) + 1)) (0 : Int32).toNatClampNeg), .int ((upd (upd M.2 (((M.2 (5 : Int32).toNatClampNeg) - (M.2 (5 : Int32).toNatClampNeg) / 20 * 20) / 4).toNatClampNeg ((M.2 (((M.2 (5 : Int32).toNatClampNeg) - (M.2 (5 : Int32).toNatClampNeg) / 20 * 20) / 4).toNatClampNeg) ||| (p2 <<< ((24 - (8 * ((M.2 (5 : Int32).toNatClampNeg) - (M.2 (5 : Int32).toNatClampNeg) / 4 * 4))) &&& 31)))) (5 : Int32).toNatClampNeg (((upd M.2 (((M.2 (5 : Int32).toNatClampNeg) - (M.2 (5 : Int32).toNatClampNeg) / 20 * 20) / 4).toNatClampNeg ((M.2 (((M.2 (5 : Int32).toNatClampNeg) - (M.2 (5 : Int32).toNatClampNeg) / 20 * 20) / 4).toNatClampNeg) ||| (p2 <<< ((24 - (8 * ((M.2 (5 : Int32).toNatClampNeg) - (M.2 (5 : Int32).toNatClampNeg) / 4 * 4))) &&& 31)))) (5 : Int32).toNatClampNeg) + 1)) (1 : Int32).toNatClampNeg), .int ((upd (upd M.2 (((M.2 (5 : Int32).toNatClampNeg) - (M.2 (5 : Int32).toNatClampNeg) / 20 * 20) / 4).toNatClampNeg ((M.2 (((M.2 (5 : Int32).toNatClampNeg) - (M.2 (5 : Int32).toNatClampNeg) / 20 * 20) / 4).toNatClampNeg) ||| (p2 <<< ((24 - (8 * ((M.2 (5 : Int32).toNatClampNeg) - (M.2 (5 : Int32).toNatClampNeg) / 4 * 4))) &&& 31)))) (5 : Int32).toNatClampNeg (((upd M.2 (((M.2 (5 : Int32).toNatClampNeg) - (M.2 (5 : Int32).toNatClampNeg) / 20 * 20) / 4).toNatClampNeg ((M.2 (((M.2 (5 : Int32).toNatClampNeg) - (M.2 (5 : Int32).toNatClampNeg) / 20 * 20) / 4).toNatClampNeg) ||| (p2 <<< ((24 - (8 * ((M.2 (5 : Int32).toNatClampNeg) - (M.2 (5 : Int32).toNatClampNeg) / 4 * 4))) &&& 31)))) (5 : Int32).toNatClampNeg) + 1)) (2 : Int32).toNatClampNeg), .int ((upd (upd M.2 (((M.2 (5 : Int32).toNatClampNeg) - (M.2 (5 : Int32).toNatClampNeg) / 20 * 20) / 4).toNatClampNeg ((M.2 (((M.2 (5 : Int32).toNatClampNeg) - (M.2 (5 : Int32).toNatClampNeg) / 20 * 20) / 4).toNatClampNeg) ||| (p2 <<< ((24 - (8 * ((M.2 (5 : Int32).toNatClampNeg) - (M.2 (5 : Int32).toNatClampNeg) / 4 * 4))) &&& 31)))) (5 : Int32).toNatClampNeg (((upd M.2 (((M.2 (5 : Int32).toNatClampNeg) - (M.2 (5 : Int32).toNatClampNeg) / 20 * 20) / 4).toNatClampNeg ((M.2 (((M.2 (5 : Int32).toNatClampNeg) - (M.2 (5 : Int32).toNatClampNeg) / 20 * 20) / 4).toNatClampNeg) ||| (p2 <<< ((24 - (8 * ((M.2 (5 : Int32).toNatClampNeg) - (M.2 (5 : Int32).toNatClampNeg) / 4 * 4))) &&& 31)))) (5 : Int32).toNatClampNeg) + 1)) (3 : Int32).toNatClampNeg), .int ((upd (upd M.2 (((M.2 (5 : Int32).toNatClampNeg) - (M.2 (5 : Int32).toNatClampNeg) / 20 * 20) / 4).toNatClampNeg ((M.2 (((M.2 (5 : Int32).toNatClampNeg) - (M.2 (5 : Int32).toNatClampNeg) / 20 * 20) / 4).toNatClampNeg) ||| (p2 <<< ((24 - (8 * ((M.2 (5 : Int32).toNatClampNeg) - (M.2 (5 : Int32).toNatClampNeg) / 4 * 4))) &&& 31)))) (5 : Int32).toNatClampNeg (((upd M.2 (((M.2 (5 : Int32).toNatClampNeg) - (M.2 (5 : Int32).toNatClampNeg) / 20 * 20) / 4).toNatClampNeg ((M.2 (((M.2 (5 : Int32).toNatClampNeg) - (M.2 (5 : Int32).toNatClampNeg) / 20 * 20) / 4).toNatClampNeg) ||| (p2 <<< ((24 - (8 * ((M.2 (5 : Int32).toNatClampNeg) - (M.2 (5 : Int32).toNatClampNeg) / 4 * 4))) &&& 31)))) (5 : Int32).toNatClampNeg) + 1)) (4 : Int32).toNatClampNeg)]) (rest := []) rfl (Nat.le_of_ble_eq_true rfl) ⟨Nat.le_of_ble_eq_true rfl, Nat.le_of_ble_eq_true rfl⟩ ⟨rfl, rfl⟩ ⟨Nat.zero_le _, Nat.zero_le _⟩ dL_add_59 ?_
    refine g_pop hx 62 dL_add_62 rfl ?_
    refine g_iconst hx 63 (0) dL_add_63 rfl ?_
    refine g_istore_n hx 64 (i := 3) [(3, .int 0), (0, .ref B), (1, .ref wa), (2, .int p2)] dL_add_64 rfl (by decide) rfl ?_
    refine g_ls [1, 2, 3, 0] [(0, .ref B), (1, .ref wa), (2, .int p2), (3, .int 0)] rfl ?_
    exact w_Lw_add_L65 hx hC hwa hR FU (q_549.2, upd (upd M.2 (((M.2 (5 : Int32).toNatClampNeg) - (M.2 (5 : Int32).toNatClampNeg) / 20 * 20) / 4).toNatClampNeg ((M.2 (((M.2 (5 : Int32).toNatClampNeg) - (M.2 (5 : Int32).toNatClampNeg) / 20 * 20) / 4).toNatClampNeg) ||| (p2 <<< ((24 - (8 * ((M.2 (5 : Int32).toNatClampNeg) - (M.2 (5 : Int32).toNatClampNeg) / 4 * 4))) &&& 31)))) (5 : Int32).toNatClampNeg (((upd M.2 (((M.2 (5 : Int32).toNatClampNeg) - (M.2 (5 : Int32).toNatClampNeg) / 20 * 20) / 4).toNatClampNeg ((M.2 (((M.2 (5 : Int32).toNatClampNeg) - (M.2 (5 : Int32).toNatClampNeg) / 20 * 20) / 4).toNatClampNeg) ||| (p2 <<< ((24 - (8 * ((M.2 (5 : Int32).toNatClampNeg) - (M.2 (5 : Int32).toNatClampNeg) / 4 * 4))) &&& 31)))) (5 : Int32).toNatClampNeg) + 1)) p2 0 hr
  · have hr := (if_neg hc_543).symm.trans hr
    exact g_vret hx hR 42 dL_add_42 ⟨rfl, by rw [← Option.some.inj hr] <;> rfl⟩
def Lw_end_L4 : Nat → LwS → Int32 → Option (Int32 × LwS)
  | 0, _, _ => none
  | n + 1, M, v2_557 => if inB 5 6 then (if (M.2 (5 : Int32).toNatClampNeg) - (M.2 (5 : Int32).toNatClampNeg) / 20 * 20 = 0 then (if inB 5 6 then (some ((v2_557, (M.1, upd M.2 (5 : Int32).toNatClampNeg 0)))) else none) else (Option.bind (Lw_add M 32) fun S_562 => Lw_end_L4 n S_562 v2_557)) else none
def Lw_end (M : LwS) : Option (Int32 × LwS) := if inB 5 6 then (lt' (M.2 (5 : Int32).toNatClampNeg) fun v2_556 => Lw_end_L4 FU M v2_556) else none
set_option maxRecDepth 100000 in
set_option maxHeartbeats 4000000 in
theorem w_Lw_end_L4 {ad ae : Nat → Nat} {σ : Hp} {B wa : Nat} {X : Cx} {l : Launch} {g : Gl} (hx : Ok X l g RL cL_end 3 md_Lw_end.rm) (hC : KAll g ad ae) (hwa : wa < B ∨ B + 437 ≤ wa)  {r : Int32 × LwS} (hR : Ret X (rs (some (.int r.1)) (putW (hset σ wa (eI 6 r.2.2)) B ae r.2.1)) 0 0 (some .int)) : ∀ (n : Nat) (M : LwS) (v2_557 : Int32), Lw_end_L4 n M v2_557 = some r → G X (putW (hset σ wa (eI 6 M.2)) B ae M.1) 0 0 4 [(0, .ref B), (1, .ref wa), (2, .int v2_557)] [] := by
  intro n
  induction n with
  | zero =>
    intro M v2_557 hr
    rw [Lw_end_L4] at hr
    cases hr
  | succ n ih =>
    intro M v2_557 hr
    rw [Lw_end_L4] at hr
    refine g_aload_n hx 4 (i := 1) 1 dL_end_4 rfl rfl ?_
    refine g_iconst hx 5 (5) dL_end_5 rfl ?_
    obtain ⟨hb_558, hr⟩ := ob hr
    refine g_iald hx 6 ((pW_out _ B ae M.1 hwa).trans (hset_self σ wa _)) hb_558 dL_end_6 ?_
    refine g_bipush hx 7 (20) dL_end_7 rfl ?_
    refine g_irem hx 9 dL_end_9 (by decide) ?_
    refine g_if_eq hx 10 23 dL_end_10 (by decide) (fun hc_559 => ?_) (fun hc_559 => ?_)
    · have hr := (if_pos hc_559).symm.trans hr
      refine g_aload_n hx 23 (i := 1) 1 dL_end_23 rfl rfl ?_
      refine g_iconst hx 24 (5) dL_end_24 rfl ?_
      refine g_iconst hx 25 (0) dL_end_25 rfl ?_
      obtain ⟨hb_560, hr⟩ := ob hr
      refine g_iast hx 26 ((pW_out _ B ae M.1 hwa).trans (hset_self σ wa _)) hb_560 dL_end_26 ?_
      refine G.heap (pW_x hwa _) ?_
      refine g_iload_n hx 27 (i := 2) 2 dL_end_27 rfl rfl ?_
      exact g_iret hx hR 28 dL_end_28 ⟨by rw [← Option.some.inj hr] <;> rfl, by rw [← Option.some.inj hr] <;> rfl⟩
    · have hr := (if_neg hc_559).symm.trans hr
      refine g_aload_n hx 13 (i := 0) 0 dL_end_13 rfl rfl ?_
      refine g_aload_n hx 14 (i := 1) 1 dL_end_14 rfl rfl ?_
      refine g_bipush hx 15 (32) dL_end_15 rfl ?_
      obtain ⟨S_562, eS_562, hr⟩ := bind_e hr
      refine g_callSv hx (c_Lw_add l g hC hwa (σ := σ) M 32 eS_562) lk_L_24 ar_Lw_add (As := [.ref B, .ref wa, .int 32]) (rest := []) rfl (Nat.le_of_ble_eq_true rfl) ⟨Nat.le_of_ble_eq_true rfl, Nat.le_of_ble_eq_true rfl⟩ ⟨rfl, rfl⟩ ⟨Nat.zero_le _, Nat.zero_le _⟩ dL_end_17 ?_
      refine g_goto hx 20 4 dL_end_20 (by decide) ?_
      refine g_ls [0, 1, 2] [(0, .ref B), (1, .ref wa), (2, .int v2_557)] rfl ?_
      exact ih S_562 v2_557 hr
set_option maxRecDepth 100000 in
set_option maxHeartbeats 4000000 in
theorem c_Lw_end {ad ae : Nat → Nat} {σ : Hp} {B wa : Nat} (l : Launch) (g : Gl) (hC : KAll g ad ae) (hwa : wa < B ∨ B + 437 ≤ wa) (M : LwS) {r : Int32 × LwS} (hr : Lw_end M = some r) : MG l g md_Lw_end [.ref B, .ref wa] (putW (hset σ wa (eI 6 M.2)) B ae M.1) (rs (some (.int r.1)) (putW (hset σ wa (eI 6 r.2.2)) B ae r.2.1)) := by
  refine MG.intro (by decide +kernel) (Nat.le_of_ble_eq_true rfl) (fun X hx hR _ => ?_)
  unfold Lw_end at hr
  refine g_ls [0, 1] [(0, .ref B), (1, .ref wa)] rfl ?_
  refine g_aload_n hx 0 (i := 1) 1 dL_end_0 rfl rfl ?_
  refine g_iconst hx 1 (5) dL_end_1 rfl ?_
  obtain ⟨hb_555, hr⟩ := ob hr
  refine g_iald hx 2 ((pW_out _ B ae M.1 hwa).trans (hset_self σ wa _)) hb_555 dL_end_2 ?_
  obtain ⟨v2_556, ev2_556, hr⟩ := lt'_e hr
  refine g_nmi ev2_556 ?_
  refine g_istore_n hx 3 (i := 2) [(2, .int v2_556), (0, .ref B), (1, .ref wa)] dL_end_3 rfl (by decide) rfl ?_
  refine g_ls [1, 2, 0] [(0, .ref B), (1, .ref wa), (2, .int v2_556)] rfl ?_
  exact w_Lw_end_L4 hx hC hwa hR FU M v2_556 hr
def Lw_alike_L11 (N1 N2 : Nat) (f1 f2 : Nat → Int32) : Nat → Int32 → Option (Int32)
  | 0, _ => none
  | n + 1, v2_564 => if nI N1 ≤ v2_564 then (some (1)) else (if inB v2_564 N1 then (if inB v2_564 N2 then (if f1 v2_564.toNatClampNeg = f2 v2_564.toNatClampNeg then (Lw_alike_L11 N1 N2 f1 f2 n (v2_564 + 1)) else (some (0))) else none) else none)
def Lw_alike (N1 N2 : Nat) (f1 f2 : Nat → Int32) : Option (Int32) := if nI N1 = nI N2 then (Lw_alike_L11 N1 N2 f1 f2 FU 0) else (some (0))
set_option maxRecDepth 100000 in
set_option maxHeartbeats 4000000 in
theorem w_Lw_alike_L11 {σ : Hp} {a1 a2 N1 N2 : Nat} {f1 f2 : Nat → Int32} {X : Cx} {l : Launch} {g : Gl} (hx : Ok X l g RL cL_alike 3 md_Lw_alike.rm) (h1 : σ.2 a1 = some (eI N1 f1)) (h2 : σ.2 a2 = some (eI N2 f2))  {r : Int32} (hR : Ret X (rs (some (.int r)) σ) 0 0 (some .boolean)) : ∀ (n : Nat) (v2_564 : Int32), Lw_alike_L11 N1 N2 f1 f2 n v2_564 = some r → G X σ 0 0 11 [(0, .ref a1), (1, .ref a2), (2, .int v2_564)] [] := by
  intro n
  induction n with
  | zero =>
    intro v2_564 hr
    rw [Lw_alike_L11] at hr
    cases hr
  | succ n ih =>
    intro v2_564 hr
    rw [Lw_alike_L11] at hr
    refine g_iload_n hx 11 (i := 2) 2 dL_alike_11 rfl rfl ?_
    refine g_aload_n hx 12 (i := 0) 0 dL_alike_12 rfl rfl ?_
    refine g_alen hx 13 h1 dL_alike_13 ?_
    refine g_icmp_ge hx 14 34 dL_alike_14 (by decide) (fun hc_565 => ?_) (fun hc_565 => ?_)
    · have hr := (if_pos hc_565).symm.trans hr
      refine g_iconst hx 34 (1) dL_alike_34 rfl ?_
      exact g_zret hx hR 35 (Or.inr rfl) dL_alike_35 ⟨by rw [← Option.some.inj hr] <;> rfl, rfl⟩
    · have hr := (if_neg hc_565).symm.trans hr
      refine g_aload_n hx 17 (i := 0) 0 dL_alike_17 rfl rfl ?_
      refine g_iload_n hx 18 (i := 2) 2 dL_alike_18 rfl rfl ?_
      obtain ⟨hb_566, hr⟩ := ob hr
      refine g_iald hx 19 h1 hb_566 dL_alike_19 ?_
      refine g_aload_n hx 20 (i := 1) 1 dL_alike_20 rfl rfl ?_
      refine g_iload_n hx 21 (i := 2) 2 dL_alike_21 rfl rfl ?_
      obtain ⟨hb_567, hr⟩ := ob hr
      refine g_iald hx 22 h2 hb_567 dL_alike_22 ?_
      refine g_icmp_eq hx 23 28 dL_alike_23 (by decide) (fun hc_568 => ?_) (fun hc_568 => ?_)
      · have hr := (if_pos hc_568).symm.trans hr
        refine g_iinc hx 28 (i := 2) 2 (v2_564 + 1) [(2, .int (v2_564 + 1)), (0, .ref a1), (1, .ref a2)] dL_alike_28 rfl rfl (by decide) rfl ?_
        refine g_goto hx 31 11 dL_alike_31 (by decide) ?_
        refine g_ls [1, 2, 0] [(0, .ref a1), (1, .ref a2), (2, .int (v2_564 + 1))] rfl ?_
        exact ih (v2_564 + 1) hr
      · have hr := (if_neg hc_568).symm.trans hr
        refine g_iconst hx 26 (0) dL_alike_26 rfl ?_
        exact g_zret hx hR 27 (Or.inl rfl) dL_alike_27 ⟨by rw [← Option.some.inj hr] <;> rfl, rfl⟩
set_option maxRecDepth 100000 in
set_option maxHeartbeats 4000000 in
theorem c_Lw_alike {σ : Hp} {a1 a2 N1 N2 : Nat} {f1 f2 : Nat → Int32} (l : Launch) (g : Gl) (h1 : σ.2 a1 = some (eI N1 f1)) (h2 : σ.2 a2 = some (eI N2 f2))  {r : Int32} (hr : Lw_alike N1 N2 f1 f2 = some r) : MG l g md_Lw_alike [.ref a1, .ref a2] σ (rs (some (.int r)) σ) := by
  refine MG.intro (by decide +kernel) (Nat.le_of_ble_eq_true rfl) (fun X hx hR _ => ?_)
  unfold Lw_alike at hr
  refine g_ls [0, 1] [(0, .ref a1), (1, .ref a2)] rfl ?_
  refine g_aload_n hx 0 (i := 0) 0 dL_alike_0 rfl rfl ?_
  refine g_alen hx 1 h1 dL_alike_1 ?_
  refine g_aload_n hx 2 (i := 1) 1 dL_alike_2 rfl rfl ?_
  refine g_alen hx 3 h2 dL_alike_3 ?_
  refine g_icmp_eq hx 4 9 dL_alike_4 (by decide) (fun hc_563 => ?_) (fun hc_563 => ?_)
  · have hr := (if_pos hc_563).symm.trans hr
    refine g_iconst hx 9 (0) dL_alike_9 rfl ?_
    refine g_istore_n hx 10 (i := 2) [(2, .int 0), (0, .ref a1), (1, .ref a2)] dL_alike_10 rfl (by decide) rfl ?_
    refine g_ls [1, 2, 0] [(0, .ref a1), (1, .ref a2), (2, .int 0)] rfl ?_
    exact w_Lw_alike_L11 hx h1 h2 hR FU 0 hr
  · have hr := (if_neg hc_563).symm.trans hr
    refine g_iconst hx 7 (0) dL_alike_7 rfl ?_
    exact g_zret hx hR 8 (Or.inl rfl) dL_alike_8 ⟨by rw [← Option.some.inj hr] <;> rfl, rfl⟩
def Lw_all_L206 (V : WM) (N : Nat) (k : (Nat → Int32) → Int32 → Int32 → Int32 → Int32 → Int32 → Int32 → Option (Nat × (Nat → Int32))) : Nat → (Nat → Int32) → Int32 → Int32 → Int32 → Int32 → Int32 → Int32 → Option (Nat × (Nat → Int32))
  | 0, _, _, _, _, _, _, _ => none
  | n + 1, M, v1_603, v2_604, v3_605, v5_606, v6_607, v7_608 => if 3 ≤ v7_608 then (k M v1_603 v2_604 v3_605 v5_606 v6_607 v7_608) else (Option.bind (SA_reader V v6_607 v7_608) fun q_610 => if inB v5_606 N then (Lw_all_L206 V N k n (upd M v5_606.toNatClampNeg q_610) v1_603 v2_604 v3_605 (v5_606 + 1) v6_607 (v7_608 + 1)) else none)
def Lw_all_L197 (V : WM) (N : Nat) : Nat → (Nat → Int32) → Int32 → Int32 → Int32 → Int32 → Int32 → Option (Nat × (Nat → Int32))
  | 0, _, _, _, _, _, _ => none
  | n + 1, M, v1_597, v2_598, v3_599, v5_600, v6_601 => if v3_599 ≤ v6_601 then (some (N, M)) else (Lw_all_L206 V N (fun M_624 v1_618 v2_619 v3_620 v5_621 v6_622 v7_623 => Lw_all_L197 V N n M_624 v1_618 v2_619 v3_620 v5_621 (v6_622 + 1)) FU M v1_597 v2_598 v3_599 v5_600 v6_601 0)
def Lw_all_L160 (V : WM) (N : Nat) (k : (Nat → Int32) → Int32 → Int32 → Int32 → Int32 → Int32 → Int32 → Option (Nat × (Nat → Int32))) : Nat → (Nat → Int32) → Int32 → Int32 → Int32 → Int32 → Int32 → Int32 → Option (Nat × (Nat → Int32))
  | 0, _, _, _, _, _, _, _ => none
  | n + 1, M, v1_625, v2_626, v3_627, v5_628, v6_629, v7_630 => if 5 ≤ v7_630 then (k M v1_625 v2_626 v3_627 v5_628 v6_629 v7_630) else (Option.bind (SA_waiting V v6_629 v7_630) fun q_632 => if inB v5_628 N then (Lw_all_L160 V N k n (upd M v5_628.toNatClampNeg q_632) v1_625 v2_626 v3_627 (v5_628 + 1) v6_629 (v7_630 + 1)) else none)
def Lw_all_L151 (V : WM) (N : Nat) : Nat → (Nat → Int32) → Int32 → Int32 → Int32 → Int32 → Int32 → Option (Nat × (Nat → Int32))
  | 0, _, _, _, _, _, _ => none
  | n + 1, M, v1_591, v2_592, v3_593, v5_594, v6_595 => if v2_592 ≤ v6_595 then (Lw_all_L197 V N FU M v1_591 v2_592 v3_593 v5_594 0) else (Lw_all_L160 V N (fun M_646 v1_640 v2_641 v3_642 v5_643 v6_644 v7_645 => Lw_all_L151 V N n M_646 v1_640 v2_641 v3_642 v5_643 (v6_644 + 1)) FU M v1_591 v2_592 v3_593 v5_594 v6_595 0)
def Lw_all_L113 (V : WM) (N : Nat) (k : (Nat → Int32) → Int32 → Int32 → Int32 → Int32 → Int32 → Int32 → Option (Nat × (Nat → Int32))) : Nat → (Nat → Int32) → Int32 → Int32 → Int32 → Int32 → Int32 → Int32 → Option (Nat × (Nat → Int32))
  | 0, _, _, _, _, _, _, _ => none
  | n + 1, M, v1_647, v2_648, v3_649, v5_650, v6_651, v7_652 => if 7 ≤ v7_652 then (k M v1_647 v2_648 v3_649 v5_650 v6_651 v7_652) else (Option.bind (SA_folder V v6_651 v7_652) fun q_654 => if inB v5_650 N then (Lw_all_L113 V N k n (upd M v5_650.toNatClampNeg q_654) v1_647 v2_648 v3_649 (v5_650 + 1) v6_651 (v7_652 + 1)) else none)
def Lw_all_L104 (V : WM) (N : Nat) : Nat → (Nat → Int32) → Int32 → Int32 → Int32 → Int32 → Int32 → Option (Nat × (Nat → Int32))
  | 0, _, _, _, _, _, _ => none
  | n + 1, M, v1_585, v2_586, v3_587, v5_588, v6_589 => if v1_585 ≤ v6_589 then (Lw_all_L151 V N FU M v1_585 v2_586 v3_587 v5_588 0) else (Lw_all_L113 V N (fun M_668 v1_662 v2_663 v3_664 v5_665 v6_666 v7_667 => Lw_all_L104 V N n M_668 v1_662 v2_663 v3_664 v5_665 (v6_666 + 1)) FU M v1_585 v2_586 v3_587 v5_588 v6_589 0)
def Lw_all_L74 (V : WM) (N : Nat) : Nat → (Nat → Int32) → Int32 → Int32 → Int32 → Int32 → Int32 → Option (Nat × (Nat → Int32))
  | 0, _, _, _, _, _, _ => none
  | n + 1, M, v1_579, v2_580, v3_581, v5_582, v6_583 => if 11 ≤ v6_583 then (Lw_all_L104 V N FU M v1_579 v2_580 v3_581 v5_582 0) else (Option.bind (SA_account V v6_583) fun q_669 => if inB v5_582 N then (Lw_all_L74 V N n (upd M v5_582.toNatClampNeg q_669) v1_579 v2_580 v3_581 (v5_582 + 1) (v6_583 + 1)) else none)
def Lw_all_L44 (V : WM) (N : Nat) : Nat → (Nat → Int32) → Int32 → Int32 → Int32 → Int32 → Int32 → Option (Nat × (Nat → Int32))
  | 0, _, _, _, _, _, _ => none
  | n + 1, M, v1_573, v2_574, v3_575, v5_576, v6_577 => if 12 ≤ v6_577 then (Lw_all_L74 V N FU M v1_573 v2_574 v3_575 v5_576 3) else (Option.bind (SA_size V v6_577) fun q_671 => if inB v5_576 N then (Lw_all_L44 V N n (upd M v5_576.toNatClampNeg q_671) v1_573 v2_574 v3_575 (v5_576 + 1) (v6_577 + 1)) else none)
def Lw_all (V : WM) : Option (Nat × (Nat → Int32)) := Option.bind (SA_size V 5) fun q_569 => Option.bind (SA_size V 9) fun q_570 => Option.bind (SA_size V 3) fun q_571 => if ¬ (((20 + (7 * q_569)) + (5 * q_570)) + (3 * q_571) < 0) ∧ (((20 + (7 * q_569)) + (5 * q_570)) + (3 * q_571)).toNatClampNeg ≤ 300 then (lt' (((20 + (7 * q_569)) + (5 * q_570)) + (3 * q_571)).toNatClampNeg fun N => Lw_all_L44 V N FU (fun _ => 0) q_569 q_570 q_571 0 0) else none
set_option maxRecDepth 100000 in
set_option maxHeartbeats 4000000 in
theorem w_Lw_all_L206 {ad ae : Nat → Nat} {σ : Hp} {B N : Nat} {V : WM} {X : Cx} {l : Launch} {g : Gl} (hx : Ok X l g RL cL_all 8 md_Lw_all.rm) (hC : KAll g ad ae) (hB : B + 437 ≤ σ.1)  {r : Nat × (Nat → Int32)} (hR : Ret X (rs (some (.ref σ.1)) (putW (hpush σ (eI r.1 r.2)) B ae V)) 1 300 (some (.array .int))) (k : (Nat → Int32) → Int32 → Int32 → Int32 → Int32 → Int32 → Int32 → Option (Nat × (Nat → Int32))) (hk : ∀ (M : (Nat → Int32)) (w1_612 w2_613 w3_614 w5_615 w6_616 w7_617 : Int32), k M w1_612 w2_613 w3_614 w5_615 w6_616 w7_617 = some r → G X (putW (hpush σ (eI N M)) B ae V) 1 300 234 [(0, .ref B), (1, .int w1_612), (2, .int w2_613), (3, .int w3_614), (4, .ref σ.1), (5, .int w5_615), (6, .int w6_616), (7, .int w7_617)] []) : ∀ (n : Nat) (M : (Nat → Int32)) (v1_603 v2_604 v3_605 v5_606 v6_607 v7_608 : Int32), Lw_all_L206 V N k n M v1_603 v2_604 v3_605 v5_606 v6_607 v7_608 = some r → G X (putW (hpush σ (eI N M)) B ae V) 1 300 206 [(0, .ref B), (1, .int v1_603), (2, .int v2_604), (3, .int v3_605), (4, .ref σ.1), (5, .int v5_606), (6, .int v6_607), (7, .int v7_608)] [] := by
  intro n
  induction n with
  | zero =>
    intro M v1_603 v2_604 v3_605 v5_606 v6_607 v7_608 hr
    rw [Lw_all_L206] at hr
    cases hr
  | succ n ih =>
    intro M v1_603 v2_604 v3_605 v5_606 v6_607 v7_608 hr
    rw [Lw_all_L206] at hr
    refine g_iload hx 206 (i := 7) 7 dL_all_206 rfl ?_
    refine g_iconst hx 208 (3) dL_all_208 rfl ?_
    refine g_icmp_ge hx 209 234 dL_all_209 (by decide) (fun hc_609 => ?_) (fun hc_609 => ?_)
    · have hr := (if_pos hc_609).symm.trans hr
      refine g_ls [0, 1, 2, 3, 4, 5, 6, 7] [(0, .ref B), (1, .int v1_603), (2, .int v2_604), (3, .int v3_605), (4, .ref σ.1), (5, .int v5_606), (6, .int v6_607), (7, .int v7_608)] rfl ?_
      exact hk M v1_603 v2_604 v3_605 v5_606 v6_607 v7_608 hr
    · have hr := (if_neg hc_609).symm.trans hr
      refine g_aload hx 212 (i := 4) 4 dL_all_212 rfl ?_
      refine g_iload hx 214 (i := 5) 5 dL_all_214 rfl ?_
      refine g_iinc hx 216 (i := 5) 5 (v5_606 + 1) [(5, .int (v5_606 + 1)), (0, .ref B), (1, .int v1_603), (2, .int v2_604), (3, .int v3_605), (4, .ref σ.1), (6, .int v6_607), (7, .int v7_608)] dL_all_216 rfl rfl (by decide) rfl ?_
      refine g_aload_n hx 219 (i := 0) 1 dL_all_219 rfl rfl ?_
      refine g_iload hx 220 (i := 6) 6 dL_all_220 rfl ?_
      refine g_iload hx 222 (i := 7) 7 dL_all_222 rfl ?_
      obtain ⟨q_610, eq_610, hr⟩ := bind_e hr
      refine g_callVr hx (c_SA_reader l g hC (hpush σ (eI N M)) B V v6_607 v7_608 eq_610) lk_L_44 ar_SA_reader (pW (hpush σ (eI N M)) B ae V 0 (by decide)) (T := TX10) (N := 11) rfl (As := [.int v6_607, .int v7_608]) (rest := [.int v5_606, .ref σ.1]) rfl (Nat.le_of_ble_eq_true rfl) ⟨Nat.le_of_ble_eq_true rfl, Nat.le_of_ble_eq_true rfl⟩ ⟨rfl, rfl⟩ ⟨Nat.le_of_ble_eq_true rfl, Nat.le_of_ble_eq_true rfl⟩ dL_all_224 ?_
      obtain ⟨hb_611, hr⟩ := ob hr
      refine g_iast hx 227 ((pW_out _ B ae V (Or.inr hB)).trans (hpush_self σ _)) hb_611 dL_all_227 ?_
      refine G.heap (pW_xp hB _) ?_
      refine g_iinc hx 228 (i := 7) 7 (v7_608 + 1) [(7, .int (v7_608 + 1)), (5, .int (v5_606 + 1)), (0, .ref B), (1, .int v1_603), (2, .int v2_604), (3, .int v3_605), (4, .ref σ.1), (6, .int v6_607)] dL_all_228 rfl rfl (by decide) rfl ?_
      refine g_goto hx 231 206 dL_all_231 (by decide) ?_
      refine g_ls [2, 3, 4, 5, 6, 1, 7, 0] [(0, .ref B), (1, .int v1_603), (2, .int v2_604), (3, .int v3_605), (4, .ref σ.1), (5, .int (v5_606 + 1)), (6, .int v6_607), (7, .int (v7_608 + 1))] rfl ?_
      exact ih (upd M v5_606.toNatClampNeg q_610) v1_603 v2_604 v3_605 (v5_606 + 1) v6_607 (v7_608 + 1) hr
set_option maxRecDepth 100000 in
set_option maxHeartbeats 4000000 in
theorem w_Lw_all_L197 {ad ae : Nat → Nat} {σ : Hp} {B N : Nat} {V : WM} {X : Cx} {l : Launch} {g : Gl} (hx : Ok X l g RL cL_all 8 md_Lw_all.rm) (hC : KAll g ad ae) (hB : B + 437 ≤ σ.1)  {r : Nat × (Nat → Int32)} (hR : Ret X (rs (some (.ref σ.1)) (putW (hpush σ (eI r.1 r.2)) B ae V)) 1 300 (some (.array .int))) : ∀ (n : Nat) (M : (Nat → Int32)) (v1_597 v2_598 v3_599 v5_600 v6_601 : Int32), Lw_all_L197 V N n M v1_597 v2_598 v3_599 v5_600 v6_601 = some r → G X (putW (hpush σ (eI N M)) B ae V) 1 300 197 [(0, .ref B), (1, .int v1_597), (2, .int v2_598), (3, .int v3_599), (4, .ref σ.1), (5, .int v5_600), (6, .int v6_601)] [] := by
  intro n
  induction n with
  | zero =>
    intro M v1_597 v2_598 v3_599 v5_600 v6_601 hr
    rw [Lw_all_L197] at hr
    cases hr
  | succ n ih =>
    intro M v1_597 v2_598 v3_599 v5_600 v6_601 hr
    rw [Lw_all_L197] at hr
    refine g_iload hx 197 (i := 6) 6 dL_all_197 rfl ?_
    refine g_iload_n hx 199 (i := 3) 3 dL_all_199 rfl rfl ?_
    refine g_icmp_ge hx 200 240 dL_all_200 (by decide) (fun hc_602 => ?_) (fun hc_602 => ?_)
    · have hr := (if_pos hc_602).symm.trans hr
      refine g_aload hx 240 (i := 4) 4 dL_all_240 rfl ?_
      exact g_bret hx hR 242 dL_all_242 ⟨rfl, by rw [← Option.some.inj hr]⟩
    · have hr := (if_neg hc_602).symm.trans hr
      refine g_iconst hx 203 (0) dL_all_203 rfl ?_
      refine g_istore hx 204 (i := 7) [(7, .int 0), (0, .ref B), (1, .int v1_597), (2, .int v2_598), (3, .int v3_599), (4, .ref σ.1), (5, .int v5_600), (6, .int v6_601)] dL_all_204 (by decide) rfl ?_
      refine g_ls [1, 2, 3, 4, 5, 6, 7, 0] [(0, .ref B), (1, .int v1_597), (2, .int v2_598), (3, .int v3_599), (4, .ref σ.1), (5, .int v5_600), (6, .int v6_601), (7, .int 0)] rfl ?_
      refine w_Lw_all_L206 hx hC hB hR _ (fun M_624 v1_618 v2_619 v3_620 v5_621 v6_622 v7_623 hr => ?_) FU M v1_597 v2_598 v3_599 v5_600 v6_601 0 hr
      refine g_iinc hx 234 (i := 6) 6 (v6_622 + 1) [(6, .int (v6_622 + 1)), (0, .ref B), (1, .int v1_618), (2, .int v2_619), (3, .int v3_620), (4, .ref σ.1), (5, .int v5_621), (7, .int v7_623)] dL_all_234 rfl rfl (by decide) rfl ?_
      refine g_goto hx 237 197 dL_all_237 (by decide) ?_
      refine g_ls [1, 2, 3, 4, 5, 6, 0] [(0, .ref B), (1, .int v1_618), (2, .int v2_619), (3, .int v3_620), (4, .ref σ.1), (5, .int v5_621), (6, .int (v6_622 + 1))] rfl ?_
      exact ih M_624 v1_618 v2_619 v3_620 v5_621 (v6_622 + 1) hr
set_option maxRecDepth 100000 in
set_option maxHeartbeats 4000000 in
theorem w_Lw_all_L160 {ad ae : Nat → Nat} {σ : Hp} {B N : Nat} {V : WM} {X : Cx} {l : Launch} {g : Gl} (hx : Ok X l g RL cL_all 8 md_Lw_all.rm) (hC : KAll g ad ae) (hB : B + 437 ≤ σ.1)  {r : Nat × (Nat → Int32)} (hR : Ret X (rs (some (.ref σ.1)) (putW (hpush σ (eI r.1 r.2)) B ae V)) 1 300 (some (.array .int))) (k : (Nat → Int32) → Int32 → Int32 → Int32 → Int32 → Int32 → Int32 → Option (Nat × (Nat → Int32))) (hk : ∀ (M : (Nat → Int32)) (w1_634 w2_635 w3_636 w5_637 w6_638 w7_639 : Int32), k M w1_634 w2_635 w3_636 w5_637 w6_638 w7_639 = some r → G X (putW (hpush σ (eI N M)) B ae V) 1 300 188 [(0, .ref B), (1, .int w1_634), (2, .int w2_635), (3, .int w3_636), (4, .ref σ.1), (5, .int w5_637), (6, .int w6_638), (7, .int w7_639)] []) : ∀ (n : Nat) (M : (Nat → Int32)) (v1_625 v2_626 v3_627 v5_628 v6_629 v7_630 : Int32), Lw_all_L160 V N k n M v1_625 v2_626 v3_627 v5_628 v6_629 v7_630 = some r → G X (putW (hpush σ (eI N M)) B ae V) 1 300 160 [(0, .ref B), (1, .int v1_625), (2, .int v2_626), (3, .int v3_627), (4, .ref σ.1), (5, .int v5_628), (6, .int v6_629), (7, .int v7_630)] [] := by
  intro n
  induction n with
  | zero =>
    intro M v1_625 v2_626 v3_627 v5_628 v6_629 v7_630 hr
    rw [Lw_all_L160] at hr
    cases hr
  | succ n ih =>
    intro M v1_625 v2_626 v3_627 v5_628 v6_629 v7_630 hr
    rw [Lw_all_L160] at hr
    refine g_iload hx 160 (i := 7) 7 dL_all_160 rfl ?_
    refine g_iconst hx 162 (5) dL_all_162 rfl ?_
    refine g_icmp_ge hx 163 188 dL_all_163 (by decide) (fun hc_631 => ?_) (fun hc_631 => ?_)
    · have hr := (if_pos hc_631).symm.trans hr
      refine g_ls [0, 1, 2, 3, 4, 5, 6, 7] [(0, .ref B), (1, .int v1_625), (2, .int v2_626), (3, .int v3_627), (4, .ref σ.1), (5, .int v5_628), (6, .int v6_629), (7, .int v7_630)] rfl ?_
      exact hk M v1_625 v2_626 v3_627 v5_628 v6_629 v7_630 hr
    · have hr := (if_neg hc_631).symm.trans hr
      refine g_aload hx 166 (i := 4) 4 dL_all_166 rfl ?_
      refine g_iload hx 168 (i := 5) 5 dL_all_168 rfl ?_
      refine g_iinc hx 170 (i := 5) 5 (v5_628 + 1) [(5, .int (v5_628 + 1)), (0, .ref B), (1, .int v1_625), (2, .int v2_626), (3, .int v3_627), (4, .ref σ.1), (6, .int v6_629), (7, .int v7_630)] dL_all_170 rfl rfl (by decide) rfl ?_
      refine g_aload_n hx 173 (i := 0) 1 dL_all_173 rfl rfl ?_
      refine g_iload hx 174 (i := 6) 6 dL_all_174 rfl ?_
      refine g_iload hx 176 (i := 7) 7 dL_all_176 rfl ?_
      obtain ⟨q_632, eq_632, hr⟩ := bind_e hr
      refine g_callVr hx (c_SA_waiting l g hC (hpush σ (eI N M)) B V v6_629 v7_630 eq_632) lk_L_41 ar_SA_waiting (pW (hpush σ (eI N M)) B ae V 0 (by decide)) (T := TX10) (N := 11) rfl (As := [.int v6_629, .int v7_630]) (rest := [.int v5_628, .ref σ.1]) rfl (Nat.le_of_ble_eq_true rfl) ⟨Nat.le_of_ble_eq_true rfl, Nat.le_of_ble_eq_true rfl⟩ ⟨rfl, rfl⟩ ⟨Nat.le_of_ble_eq_true rfl, Nat.le_of_ble_eq_true rfl⟩ dL_all_178 ?_
      obtain ⟨hb_633, hr⟩ := ob hr
      refine g_iast hx 181 ((pW_out _ B ae V (Or.inr hB)).trans (hpush_self σ _)) hb_633 dL_all_181 ?_
      refine G.heap (pW_xp hB _) ?_
      refine g_iinc hx 182 (i := 7) 7 (v7_630 + 1) [(7, .int (v7_630 + 1)), (5, .int (v5_628 + 1)), (0, .ref B), (1, .int v1_625), (2, .int v2_626), (3, .int v3_627), (4, .ref σ.1), (6, .int v6_629)] dL_all_182 rfl rfl (by decide) rfl ?_
      refine g_goto hx 185 160 dL_all_185 (by decide) ?_
      refine g_ls [2, 3, 4, 5, 6, 1, 7, 0] [(0, .ref B), (1, .int v1_625), (2, .int v2_626), (3, .int v3_627), (4, .ref σ.1), (5, .int (v5_628 + 1)), (6, .int v6_629), (7, .int (v7_630 + 1))] rfl ?_
      exact ih (upd M v5_628.toNatClampNeg q_632) v1_625 v2_626 v3_627 (v5_628 + 1) v6_629 (v7_630 + 1) hr
set_option maxRecDepth 100000 in
set_option maxHeartbeats 4000000 in
theorem w_Lw_all_L151 {ad ae : Nat → Nat} {σ : Hp} {B N : Nat} {V : WM} {X : Cx} {l : Launch} {g : Gl} (hx : Ok X l g RL cL_all 8 md_Lw_all.rm) (hC : KAll g ad ae) (hB : B + 437 ≤ σ.1)  {r : Nat × (Nat → Int32)} (hR : Ret X (rs (some (.ref σ.1)) (putW (hpush σ (eI r.1 r.2)) B ae V)) 1 300 (some (.array .int))) : ∀ (n : Nat) (M : (Nat → Int32)) (v1_591 v2_592 v3_593 v5_594 v6_595 : Int32), Lw_all_L151 V N n M v1_591 v2_592 v3_593 v5_594 v6_595 = some r → G X (putW (hpush σ (eI N M)) B ae V) 1 300 151 [(0, .ref B), (1, .int v1_591), (2, .int v2_592), (3, .int v3_593), (4, .ref σ.1), (5, .int v5_594), (6, .int v6_595)] [] := by
  intro n
  induction n with
  | zero =>
    intro M v1_591 v2_592 v3_593 v5_594 v6_595 hr
    rw [Lw_all_L151] at hr
    cases hr
  | succ n ih =>
    intro M v1_591 v2_592 v3_593 v5_594 v6_595 hr
    rw [Lw_all_L151] at hr
    refine g_iload hx 151 (i := 6) 6 dL_all_151 rfl ?_
    refine g_iload_n hx 153 (i := 2) 2 dL_all_153 rfl rfl ?_
    refine g_icmp_ge hx 154 194 dL_all_154 (by decide) (fun hc_596 => ?_) (fun hc_596 => ?_)
    · have hr := (if_pos hc_596).symm.trans hr
      refine g_iconst hx 194 (0) dL_all_194 rfl ?_
      refine g_istore hx 195 (i := 6) [(6, .int 0), (0, .ref B), (1, .int v1_591), (2, .int v2_592), (3, .int v3_593), (4, .ref σ.1), (5, .int v5_594)] dL_all_195 (by decide) rfl ?_
      refine g_ls [1, 2, 3, 4, 5, 6, 0] [(0, .ref B), (1, .int v1_591), (2, .int v2_592), (3, .int v3_593), (4, .ref σ.1), (5, .int v5_594), (6, .int 0)] rfl ?_
      exact w_Lw_all_L197 hx hC hB hR FU M v1_591 v2_592 v3_593 v5_594 0 hr
    · have hr := (if_neg hc_596).symm.trans hr
      refine g_iconst hx 157 (0) dL_all_157 rfl ?_
      refine g_istore hx 158 (i := 7) [(7, .int 0), (0, .ref B), (1, .int v1_591), (2, .int v2_592), (3, .int v3_593), (4, .ref σ.1), (5, .int v5_594), (6, .int v6_595)] dL_all_158 (by decide) rfl ?_
      refine g_ls [1, 2, 3, 4, 5, 6, 7, 0] [(0, .ref B), (1, .int v1_591), (2, .int v2_592), (3, .int v3_593), (4, .ref σ.1), (5, .int v5_594), (6, .int v6_595), (7, .int 0)] rfl ?_
      refine w_Lw_all_L160 hx hC hB hR _ (fun M_646 v1_640 v2_641 v3_642 v5_643 v6_644 v7_645 hr => ?_) FU M v1_591 v2_592 v3_593 v5_594 v6_595 0 hr
      refine g_iinc hx 188 (i := 6) 6 (v6_644 + 1) [(6, .int (v6_644 + 1)), (0, .ref B), (1, .int v1_640), (2, .int v2_641), (3, .int v3_642), (4, .ref σ.1), (5, .int v5_643), (7, .int v7_645)] dL_all_188 rfl rfl (by decide) rfl ?_
      refine g_goto hx 191 151 dL_all_191 (by decide) ?_
      refine g_ls [1, 2, 3, 4, 5, 6, 0] [(0, .ref B), (1, .int v1_640), (2, .int v2_641), (3, .int v3_642), (4, .ref σ.1), (5, .int v5_643), (6, .int (v6_644 + 1))] rfl ?_
      exact ih M_646 v1_640 v2_641 v3_642 v5_643 (v6_644 + 1) hr
set_option maxRecDepth 100000 in
set_option maxHeartbeats 4000000 in
theorem w_Lw_all_L113 {ad ae : Nat → Nat} {σ : Hp} {B N : Nat} {V : WM} {X : Cx} {l : Launch} {g : Gl} (hx : Ok X l g RL cL_all 8 md_Lw_all.rm) (hC : KAll g ad ae) (hB : B + 437 ≤ σ.1)  {r : Nat × (Nat → Int32)} (hR : Ret X (rs (some (.ref σ.1)) (putW (hpush σ (eI r.1 r.2)) B ae V)) 1 300 (some (.array .int))) (k : (Nat → Int32) → Int32 → Int32 → Int32 → Int32 → Int32 → Int32 → Option (Nat × (Nat → Int32))) (hk : ∀ (M : (Nat → Int32)) (w1_656 w2_657 w3_658 w5_659 w6_660 w7_661 : Int32), k M w1_656 w2_657 w3_658 w5_659 w6_660 w7_661 = some r → G X (putW (hpush σ (eI N M)) B ae V) 1 300 142 [(0, .ref B), (1, .int w1_656), (2, .int w2_657), (3, .int w3_658), (4, .ref σ.1), (5, .int w5_659), (6, .int w6_660), (7, .int w7_661)] []) : ∀ (n : Nat) (M : (Nat → Int32)) (v1_647 v2_648 v3_649 v5_650 v6_651 v7_652 : Int32), Lw_all_L113 V N k n M v1_647 v2_648 v3_649 v5_650 v6_651 v7_652 = some r → G X (putW (hpush σ (eI N M)) B ae V) 1 300 113 [(0, .ref B), (1, .int v1_647), (2, .int v2_648), (3, .int v3_649), (4, .ref σ.1), (5, .int v5_650), (6, .int v6_651), (7, .int v7_652)] [] := by
  intro n
  induction n with
  | zero =>
    intro M v1_647 v2_648 v3_649 v5_650 v6_651 v7_652 hr
    rw [Lw_all_L113] at hr
    cases hr
  | succ n ih =>
    intro M v1_647 v2_648 v3_649 v5_650 v6_651 v7_652 hr
    rw [Lw_all_L113] at hr
    refine g_iload hx 113 (i := 7) 7 dL_all_113 rfl ?_
    refine g_bipush hx 115 (7) dL_all_115 rfl ?_
    refine g_icmp_ge hx 117 142 dL_all_117 (by decide) (fun hc_653 => ?_) (fun hc_653 => ?_)
    · have hr := (if_pos hc_653).symm.trans hr
      refine g_ls [0, 1, 2, 3, 4, 5, 6, 7] [(0, .ref B), (1, .int v1_647), (2, .int v2_648), (3, .int v3_649), (4, .ref σ.1), (5, .int v5_650), (6, .int v6_651), (7, .int v7_652)] rfl ?_
      exact hk M v1_647 v2_648 v3_649 v5_650 v6_651 v7_652 hr
    · have hr := (if_neg hc_653).symm.trans hr
      refine g_aload hx 120 (i := 4) 4 dL_all_120 rfl ?_
      refine g_iload hx 122 (i := 5) 5 dL_all_122 rfl ?_
      refine g_iinc hx 124 (i := 5) 5 (v5_650 + 1) [(5, .int (v5_650 + 1)), (0, .ref B), (1, .int v1_647), (2, .int v2_648), (3, .int v3_649), (4, .ref σ.1), (6, .int v6_651), (7, .int v7_652)] dL_all_124 rfl rfl (by decide) rfl ?_
      refine g_aload_n hx 127 (i := 0) 1 dL_all_127 rfl rfl ?_
      refine g_iload hx 128 (i := 6) 6 dL_all_128 rfl ?_
      refine g_iload hx 130 (i := 7) 7 dL_all_130 rfl ?_
      obtain ⟨q_654, eq_654, hr⟩ := bind_e hr
      refine g_callVr hx (c_SA_folder l g hC (hpush σ (eI N M)) B V v6_651 v7_652 eq_654) lk_L_37 ar_SA_folder (pW (hpush σ (eI N M)) B ae V 0 (by decide)) (T := TX10) (N := 11) rfl (As := [.int v6_651, .int v7_652]) (rest := [.int v5_650, .ref σ.1]) rfl (Nat.le_of_ble_eq_true rfl) ⟨Nat.le_of_ble_eq_true rfl, Nat.le_of_ble_eq_true rfl⟩ ⟨rfl, rfl⟩ ⟨Nat.le_of_ble_eq_true rfl, Nat.le_of_ble_eq_true rfl⟩ dL_all_132 ?_
      obtain ⟨hb_655, hr⟩ := ob hr
      refine g_iast hx 135 ((pW_out _ B ae V (Or.inr hB)).trans (hpush_self σ _)) hb_655 dL_all_135 ?_
      refine G.heap (pW_xp hB _) ?_
      refine g_iinc hx 136 (i := 7) 7 (v7_652 + 1) [(7, .int (v7_652 + 1)), (5, .int (v5_650 + 1)), (0, .ref B), (1, .int v1_647), (2, .int v2_648), (3, .int v3_649), (4, .ref σ.1), (6, .int v6_651)] dL_all_136 rfl rfl (by decide) rfl ?_
      refine g_goto hx 139 113 dL_all_139 (by decide) ?_
      refine g_ls [2, 3, 4, 5, 6, 1, 7, 0] [(0, .ref B), (1, .int v1_647), (2, .int v2_648), (3, .int v3_649), (4, .ref σ.1), (5, .int (v5_650 + 1)), (6, .int v6_651), (7, .int (v7_652 + 1))] rfl ?_
      exact ih (upd M v5_650.toNatClampNeg q_654) v1_647 v2_648 v3_649 (v5_650 + 1) v6_651 (v7_652 + 1) hr
set_option maxRecDepth 100000 in
set_option maxHeartbeats 4000000 in
theorem w_Lw_all_L104 {ad ae : Nat → Nat} {σ : Hp} {B N : Nat} {V : WM} {X : Cx} {l : Launch} {g : Gl} (hx : Ok X l g RL cL_all 8 md_Lw_all.rm) (hC : KAll g ad ae) (hB : B + 437 ≤ σ.1)  {r : Nat × (Nat → Int32)} (hR : Ret X (rs (some (.ref σ.1)) (putW (hpush σ (eI r.1 r.2)) B ae V)) 1 300 (some (.array .int))) : ∀ (n : Nat) (M : (Nat → Int32)) (v1_585 v2_586 v3_587 v5_588 v6_589 : Int32), Lw_all_L104 V N n M v1_585 v2_586 v3_587 v5_588 v6_589 = some r → G X (putW (hpush σ (eI N M)) B ae V) 1 300 104 [(0, .ref B), (1, .int v1_585), (2, .int v2_586), (3, .int v3_587), (4, .ref σ.1), (5, .int v5_588), (6, .int v6_589)] [] := by
  intro n
  induction n with
  | zero =>
    intro M v1_585 v2_586 v3_587 v5_588 v6_589 hr
    rw [Lw_all_L104] at hr
    cases hr
  | succ n ih =>
    intro M v1_585 v2_586 v3_587 v5_588 v6_589 hr
    rw [Lw_all_L104] at hr
    refine g_iload hx 104 (i := 6) 6 dL_all_104 rfl ?_
    refine g_iload_n hx 106 (i := 1) 1 dL_all_106 rfl rfl ?_
    refine g_icmp_ge hx 107 148 dL_all_107 (by decide) (fun hc_590 => ?_) (fun hc_590 => ?_)
    · have hr := (if_pos hc_590).symm.trans hr
      refine g_iconst hx 148 (0) dL_all_148 rfl ?_
      refine g_istore hx 149 (i := 6) [(6, .int 0), (0, .ref B), (1, .int v1_585), (2, .int v2_586), (3, .int v3_587), (4, .ref σ.1), (5, .int v5_588)] dL_all_149 (by decide) rfl ?_
      refine g_ls [1, 2, 3, 4, 5, 6, 0] [(0, .ref B), (1, .int v1_585), (2, .int v2_586), (3, .int v3_587), (4, .ref σ.1), (5, .int v5_588), (6, .int 0)] rfl ?_
      exact w_Lw_all_L151 hx hC hB hR FU M v1_585 v2_586 v3_587 v5_588 0 hr
    · have hr := (if_neg hc_590).symm.trans hr
      refine g_iconst hx 110 (0) dL_all_110 rfl ?_
      refine g_istore hx 111 (i := 7) [(7, .int 0), (0, .ref B), (1, .int v1_585), (2, .int v2_586), (3, .int v3_587), (4, .ref σ.1), (5, .int v5_588), (6, .int v6_589)] dL_all_111 (by decide) rfl ?_
      refine g_ls [1, 2, 3, 4, 5, 6, 7, 0] [(0, .ref B), (1, .int v1_585), (2, .int v2_586), (3, .int v3_587), (4, .ref σ.1), (5, .int v5_588), (6, .int v6_589), (7, .int 0)] rfl ?_
      refine w_Lw_all_L113 hx hC hB hR _ (fun M_668 v1_662 v2_663 v3_664 v5_665 v6_666 v7_667 hr => ?_) FU M v1_585 v2_586 v3_587 v5_588 v6_589 0 hr
      refine g_iinc hx 142 (i := 6) 6 (v6_666 + 1) [(6, .int (v6_666 + 1)), (0, .ref B), (1, .int v1_662), (2, .int v2_663), (3, .int v3_664), (4, .ref σ.1), (5, .int v5_665), (7, .int v7_667)] dL_all_142 rfl rfl (by decide) rfl ?_
      refine g_goto hx 145 104 dL_all_145 (by decide) ?_
      refine g_ls [1, 2, 3, 4, 5, 6, 0] [(0, .ref B), (1, .int v1_662), (2, .int v2_663), (3, .int v3_664), (4, .ref σ.1), (5, .int v5_665), (6, .int (v6_666 + 1))] rfl ?_
      exact ih M_668 v1_662 v2_663 v3_664 v5_665 (v6_666 + 1) hr
set_option maxRecDepth 100000 in
set_option maxHeartbeats 4000000 in
theorem w_Lw_all_L74 {ad ae : Nat → Nat} {σ : Hp} {B N : Nat} {V : WM} {X : Cx} {l : Launch} {g : Gl} (hx : Ok X l g RL cL_all 8 md_Lw_all.rm) (hC : KAll g ad ae) (hB : B + 437 ≤ σ.1)  {r : Nat × (Nat → Int32)} (hR : Ret X (rs (some (.ref σ.1)) (putW (hpush σ (eI r.1 r.2)) B ae V)) 1 300 (some (.array .int))) : ∀ (n : Nat) (M : (Nat → Int32)) (v1_579 v2_580 v3_581 v5_582 v6_583 : Int32), Lw_all_L74 V N n M v1_579 v2_580 v3_581 v5_582 v6_583 = some r → G X (putW (hpush σ (eI N M)) B ae V) 1 300 74 [(0, .ref B), (1, .int v1_579), (2, .int v2_580), (3, .int v3_581), (4, .ref σ.1), (5, .int v5_582), (6, .int v6_583)] [] := by
  intro n
  induction n with
  | zero =>
    intro M v1_579 v2_580 v3_581 v5_582 v6_583 hr
    rw [Lw_all_L74] at hr
    cases hr
  | succ n ih =>
    intro M v1_579 v2_580 v3_581 v5_582 v6_583 hr
    rw [Lw_all_L74] at hr
    refine g_iload hx 74 (i := 6) 6 dL_all_74 rfl ?_
    refine g_bipush hx 76 (11) dL_all_76 rfl ?_
    refine g_icmp_ge hx 78 101 dL_all_78 (by decide) (fun hc_584 => ?_) (fun hc_584 => ?_)
    · have hr := (if_pos hc_584).symm.trans hr
      refine g_iconst hx 101 (0) dL_all_101 rfl ?_
      refine g_istore hx 102 (i := 6) [(6, .int 0), (0, .ref B), (1, .int v1_579), (2, .int v2_580), (3, .int v3_581), (4, .ref σ.1), (5, .int v5_582)] dL_all_102 (by decide) rfl ?_
      refine g_ls [1, 2, 3, 4, 5, 6, 0] [(0, .ref B), (1, .int v1_579), (2, .int v2_580), (3, .int v3_581), (4, .ref σ.1), (5, .int v5_582), (6, .int 0)] rfl ?_
      exact w_Lw_all_L104 hx hC hB hR FU M v1_579 v2_580 v3_581 v5_582 0 hr
    · have hr := (if_neg hc_584).symm.trans hr
      refine g_aload hx 81 (i := 4) 4 dL_all_81 rfl ?_
      refine g_iload hx 83 (i := 5) 5 dL_all_83 rfl ?_
      refine g_iinc hx 85 (i := 5) 5 (v5_582 + 1) [(5, .int (v5_582 + 1)), (0, .ref B), (1, .int v1_579), (2, .int v2_580), (3, .int v3_581), (4, .ref σ.1), (6, .int v6_583)] dL_all_85 rfl rfl (by decide) rfl ?_
      refine g_aload_n hx 88 (i := 0) 1 dL_all_88 rfl rfl ?_
      refine g_iload hx 89 (i := 6) 6 dL_all_89 rfl ?_
      obtain ⟨q_669, eq_669, hr⟩ := bind_e hr
      refine g_callVr hx (c_SA_account l g hC (hpush σ (eI N M)) B V v6_583 eq_669) lk_L_34 ar_SA_account (pW (hpush σ (eI N M)) B ae V 0 (by decide)) (T := TX10) (N := 11) rfl (As := [.int v6_583]) (rest := [.int v5_582, .ref σ.1]) rfl (Nat.le_of_ble_eq_true rfl) ⟨Nat.le_of_ble_eq_true rfl, Nat.le_of_ble_eq_true rfl⟩ ⟨rfl, rfl⟩ ⟨Nat.le_of_ble_eq_true rfl, Nat.le_of_ble_eq_true rfl⟩ dL_all_91 ?_
      obtain ⟨hb_670, hr⟩ := ob hr
      refine g_iast hx 94 ((pW_out _ B ae V (Or.inr hB)).trans (hpush_self σ _)) hb_670 dL_all_94 ?_
      refine G.heap (pW_xp hB _) ?_
      refine g_iinc hx 95 (i := 6) 6 (v6_583 + 1) [(6, .int (v6_583 + 1)), (5, .int (v5_582 + 1)), (0, .ref B), (1, .int v1_579), (2, .int v2_580), (3, .int v3_581), (4, .ref σ.1)] dL_all_95 rfl rfl (by decide) rfl ?_
      refine g_goto hx 98 74 dL_all_98 (by decide) ?_
      refine g_ls [2, 3, 4, 5, 6, 1, 0] [(0, .ref B), (1, .int v1_579), (2, .int v2_580), (3, .int v3_581), (4, .ref σ.1), (5, .int (v5_582 + 1)), (6, .int (v6_583 + 1))] rfl ?_
      exact ih (upd M v5_582.toNatClampNeg q_669) v1_579 v2_580 v3_581 (v5_582 + 1) (v6_583 + 1) hr
set_option maxRecDepth 100000 in
set_option maxHeartbeats 4000000 in
theorem w_Lw_all_L44 {ad ae : Nat → Nat} {σ : Hp} {B N : Nat} {V : WM} {X : Cx} {l : Launch} {g : Gl} (hx : Ok X l g RL cL_all 8 md_Lw_all.rm) (hC : KAll g ad ae) (hB : B + 437 ≤ σ.1)  {r : Nat × (Nat → Int32)} (hR : Ret X (rs (some (.ref σ.1)) (putW (hpush σ (eI r.1 r.2)) B ae V)) 1 300 (some (.array .int))) : ∀ (n : Nat) (M : (Nat → Int32)) (v1_573 v2_574 v3_575 v5_576 v6_577 : Int32), Lw_all_L44 V N n M v1_573 v2_574 v3_575 v5_576 v6_577 = some r → G X (putW (hpush σ (eI N M)) B ae V) 1 300 44 [(0, .ref B), (1, .int v1_573), (2, .int v2_574), (3, .int v3_575), (4, .ref σ.1), (5, .int v5_576), (6, .int v6_577)] [] := by
  intro n
  induction n with
  | zero =>
    intro M v1_573 v2_574 v3_575 v5_576 v6_577 hr
    rw [Lw_all_L44] at hr
    cases hr
  | succ n ih =>
    intro M v1_573 v2_574 v3_575 v5_576 v6_577 hr
    rw [Lw_all_L44] at hr
    refine g_iload hx 44 (i := 6) 6 dL_all_44 rfl ?_
    refine g_bipush hx 46 (12) dL_all_46 rfl ?_
    refine g_icmp_ge hx 48 71 dL_all_48 (by decide) (fun hc_578 => ?_) (fun hc_578 => ?_)
    · have hr := (if_pos hc_578).symm.trans hr
      refine g_iconst hx 71 (3) dL_all_71 rfl ?_
      refine g_istore hx 72 (i := 6) [(6, .int 3), (0, .ref B), (1, .int v1_573), (2, .int v2_574), (3, .int v3_575), (4, .ref σ.1), (5, .int v5_576)] dL_all_72 (by decide) rfl ?_
      refine g_ls [1, 2, 3, 4, 5, 6, 0] [(0, .ref B), (1, .int v1_573), (2, .int v2_574), (3, .int v3_575), (4, .ref σ.1), (5, .int v5_576), (6, .int 3)] rfl ?_
      exact w_Lw_all_L74 hx hC hB hR FU M v1_573 v2_574 v3_575 v5_576 3 hr
    · have hr := (if_neg hc_578).symm.trans hr
      refine g_aload hx 51 (i := 4) 4 dL_all_51 rfl ?_
      refine g_iload hx 53 (i := 5) 5 dL_all_53 rfl ?_
      refine g_iinc hx 55 (i := 5) 5 (v5_576 + 1) [(5, .int (v5_576 + 1)), (0, .ref B), (1, .int v1_573), (2, .int v2_574), (3, .int v3_575), (4, .ref σ.1), (6, .int v6_577)] dL_all_55 rfl rfl (by decide) rfl ?_
      refine g_aload_n hx 58 (i := 0) 1 dL_all_58 rfl rfl ?_
      refine g_iload hx 59 (i := 6) 6 dL_all_59 rfl ?_
      obtain ⟨q_671, eq_671, hr⟩ := bind_e hr
      refine g_callVr hx (c_SA_size l g hC (hpush σ (eI N M)) B V v6_577 eq_671) lk_L_30 ar_SA_size (pW (hpush σ (eI N M)) B ae V 0 (by decide)) (T := TX10) (N := 11) rfl (As := [.int v6_577]) (rest := [.int v5_576, .ref σ.1]) rfl (Nat.le_of_ble_eq_true rfl) ⟨Nat.le_of_ble_eq_true rfl, Nat.le_of_ble_eq_true rfl⟩ ⟨rfl, rfl⟩ ⟨Nat.le_of_ble_eq_true rfl, Nat.le_of_ble_eq_true rfl⟩ dL_all_61 ?_
      obtain ⟨hb_672, hr⟩ := ob hr
      refine g_iast hx 64 ((pW_out _ B ae V (Or.inr hB)).trans (hpush_self σ _)) hb_672 dL_all_64 ?_
      refine G.heap (pW_xp hB _) ?_
      refine g_iinc hx 65 (i := 6) 6 (v6_577 + 1) [(6, .int (v6_577 + 1)), (5, .int (v5_576 + 1)), (0, .ref B), (1, .int v1_573), (2, .int v2_574), (3, .int v3_575), (4, .ref σ.1)] dL_all_65 rfl rfl (by decide) rfl ?_
      refine g_goto hx 68 44 dL_all_68 (by decide) ?_
      refine g_ls [2, 3, 4, 5, 6, 1, 0] [(0, .ref B), (1, .int v1_573), (2, .int v2_574), (3, .int v3_575), (4, .ref σ.1), (5, .int (v5_576 + 1)), (6, .int (v6_577 + 1))] rfl ?_
      exact ih (upd M v5_576.toNatClampNeg q_671) v1_573 v2_574 v3_575 (v5_576 + 1) (v6_577 + 1) hr
set_option maxRecDepth 100000 in
set_option maxHeartbeats 4000000 in
theorem c_Lw_all {ad ae : Nat → Nat} (l : Launch) (g : Gl) (hC : KAll g ad ae) (σ : Hp) (B : Nat) (hB : B + 437 ≤ σ.1) (V : WM) {r : Nat × (Nat → Int32)} (hr : Lw_all V = some r) : MG l g md_Lw_all [.ref B] (putW σ B ae V) (rs (some (.ref σ.1)) (putW (hpush σ (eI r.1 r.2)) B ae V)) := by
  refine MG.intro (by decide +kernel) (Nat.le_of_ble_eq_true rfl) (fun X hx hR _ => ?_)
  unfold Lw_all at hr
  refine g_ls [0] [(0, .ref B)] rfl ?_
  refine g_aload_n hx 0 (i := 0) 0 dL_all_0 rfl rfl ?_
  refine g_iconst hx 1 (5) dL_all_1 rfl ?_
  obtain ⟨q_569, eq_569, hr⟩ := bind_e hr
  refine g_callVr hx (c_SA_size l g hC σ B V 5 eq_569) lk_L_30 ar_SA_size (pW σ B ae V 0 (by decide)) (T := TX10) (N := 11) rfl (As := [.int 5]) (rest := []) rfl (Nat.le_of_ble_eq_true rfl) ⟨Nat.le_of_ble_eq_true rfl, Nat.le_of_ble_eq_true rfl⟩ ⟨rfl, rfl⟩ ⟨Nat.le_of_ble_eq_true rfl, Nat.le_of_ble_eq_true rfl⟩ dL_all_2 ?_
  refine g_istore_n hx 5 (i := 1) [(1, .int q_569), (0, .ref B)] dL_all_5 rfl (by decide) rfl ?_
  refine g_aload_n hx 6 (i := 0) 1 dL_all_6 rfl rfl ?_
  refine g_bipush hx 7 (9) dL_all_7 rfl ?_
  obtain ⟨q_570, eq_570, hr⟩ := bind_e hr
  refine g_callVr hx (c_SA_size l g hC σ B V 9 eq_570) lk_L_30 ar_SA_size (pW σ B ae V 0 (by decide)) (T := TX10) (N := 11) rfl (As := [.int 9]) (rest := []) rfl (Nat.le_of_ble_eq_true rfl) ⟨Nat.le_of_ble_eq_true rfl, Nat.le_of_ble_eq_true rfl⟩ ⟨rfl, rfl⟩ ⟨Nat.le_of_ble_eq_true rfl, Nat.le_of_ble_eq_true rfl⟩ dL_all_9 ?_
  refine g_istore_n hx 12 (i := 2) [(2, .int q_570), (1, .int q_569), (0, .ref B)] dL_all_12 rfl (by decide) rfl ?_
  refine g_aload_n hx 13 (i := 0) 2 dL_all_13 rfl rfl ?_
  refine g_iconst hx 14 (3) dL_all_14 rfl ?_
  obtain ⟨q_571, eq_571, hr⟩ := bind_e hr
  refine g_callVr hx (c_SA_size l g hC σ B V 3 eq_571) lk_L_30 ar_SA_size (pW σ B ae V 0 (by decide)) (T := TX10) (N := 11) rfl (As := [.int 3]) (rest := []) rfl (Nat.le_of_ble_eq_true rfl) ⟨Nat.le_of_ble_eq_true rfl, Nat.le_of_ble_eq_true rfl⟩ ⟨rfl, rfl⟩ ⟨Nat.le_of_ble_eq_true rfl, Nat.le_of_ble_eq_true rfl⟩ dL_all_15 ?_
  refine g_istore_n hx 18 (i := 3) [(3, .int q_571), (2, .int q_570), (1, .int q_569), (0, .ref B)] dL_all_18 rfl (by decide) rfl ?_
  refine g_bipush hx 19 (20) dL_all_19 rfl ?_
  refine g_bipush hx 21 (7) dL_all_21 rfl ?_
  refine g_iload_n hx 23 (i := 1) 2 dL_all_23 rfl rfl ?_
  refine g_imul hx 24 dL_all_24 ?_
  refine g_iadd hx 25 dL_all_25 ?_
  refine g_iconst hx 26 (5) dL_all_26 rfl ?_
  refine g_iload_n hx 27 (i := 2) 1 dL_all_27 rfl rfl ?_
  refine g_imul hx 28 dL_all_28 ?_
  refine g_iadd hx 29 dL_all_29 ?_
  refine g_iconst hx 30 (3) dL_all_30 rfl ?_
  refine g_iload_n hx 31 (i := 3) 0 dL_all_31 rfl rfl ?_
  refine g_imul hx 32 dL_all_32 ?_
  refine g_iadd hx 33 dL_all_33 ?_
  obtain ⟨hz_572, hr⟩ := ob hr
  obtain ⟨N, eN, hr⟩ := lt'_e hr
  have hN : N ≤ 300 := by rw [eN]; exact hz_572.2
  refine g_newI hx 34 N arc_int hz_572.1 eN.symm (by show N * 4 ≤ _; omega) ⟨Nat.le_of_ble_eq_true rfl, by show 0 + N ≤ 300; omega⟩ dL_all_34 ?_
  refine G.heap (pW_push hB _) ?_
  refine G.widen (k' := 1) (n' := 300) (Nat.le_of_ble_eq_true rfl) (by omega) ?_
  refine g_astore hx 36 (i := 4) [(4, .ref σ.1), (3, .int q_571), (2, .int q_570), (1, .int q_569), (0, .ref B)] dL_all_36 (by decide) rfl ?_
  refine g_iconst hx 38 (0) dL_all_38 rfl ?_
  refine g_istore hx 39 (i := 5) [(5, .int 0), (4, .ref σ.1), (3, .int q_571), (2, .int q_570), (1, .int q_569), (0, .ref B)] dL_all_39 (by decide) rfl ?_
  refine g_iconst hx 41 (0) dL_all_41 rfl ?_
  refine g_istore hx 42 (i := 6) [(6, .int 0), (5, .int 0), (4, .ref σ.1), (3, .int q_571), (2, .int q_570), (1, .int q_569), (0, .ref B)] dL_all_42 (by decide) rfl ?_
  refine g_ls [6, 5, 4, 3, 2, 1, 0] [(0, .ref B), (1, .int q_569), (2, .int q_570), (3, .int q_571), (4, .ref σ.1), (5, .int 0), (6, .int 0)] rfl ?_
  exact w_Lw_all_L44 hx hC hB hR FU (fun _ => 0) q_569 q_570 q_571 0 0 hr
