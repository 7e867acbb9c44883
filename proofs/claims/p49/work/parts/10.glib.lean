/-! a symbolic heap: its size, and what is known of some cells -/
def aw : List Cond := lw_tbl.filter goodWord
theorem aw_good : aw.all goodWord = true := List.all_eq_true.mpr fun w h => (List.mem_filter.mp h).2
theorem aw_of {ws : List Cond} (h : ws.all (fun w => decide (w ∈ lw_tbl) && goodWord w) = true) : ∀ w ∈ ws, w ∈ aw := fun w hw => by
  have h1 := List.all_eq_true.mp h w hw
  rw [Bool.and_eq_true, decide_eq_true_eq] at h1
  exact List.mem_filter.mpr ⟨h1.1, h1.2⟩
abbrev Ent : Type := ((Nat × vp_A) ⊕ (Nat × List Value)) ⊕ (Nat × List Int32)
abbrev Hp : Type := Nat × (Nat → Option Ent)
/-- the heap below the world, the classes' numbers and slots, the array classes' numbers, what is known of the tables -/
abbrev Gl : Type := Heap × va_G × (Nat → ClassId) × (State → Prop)
abbrev eO (c : Nat) (fs : List Value) : Ent := .inl (.inr (c, fs))
abbrev eI (N : Nat) (f : Nat → Int32) : Ent := .inl (.inl (0, N, .inl f))
/-- a row of bytes, as ints -/
abbrev eB (N : Nat) (f : Nat → Int32) : Ent := .inl (.inl (3, N, .inl f))
abbrev eR (t N : Nat) (f : Nat → Option Nat) : Ent := .inl (.inl (t, N, .inr (.inr (.inr (.inr f)))))
abbrev eL (N : Nat) (xs : List Int32) : Ent := .inr (N, xs)
def tysG (g : Gl) : List (ClassId × FieldType) := [(g.2.2.1 0, .int), (g.2.2.1 1, .object "SlipArchive$Stacks"), (g.2.2.1 2, .object "SlipArchive$Order"), (g.2.2.1 3, .byte)]
def pre_ok (f : Nat → Int32) (N : Nat) (xs : List Int32) : Prop := xs.length ≤ N ∧ ∀ i, i < xs.length → f i = xs.getD i 0
def entAt (g : Gl) (k : Nat) (e : Ent) (H : Heap) : Prop := match e with
  | .inl (.inl (t, a)) => va_at g.2.1 vwCl (k, .inl (g.2.2.1 t, a)) H
  | .inl (.inr o) => va_at g.2.1 vwCl (k, .inr o) H
  | .inr (N, xs) => ∃ f, va_at g.2.1 vwCl (k, .inl (g.2.2.1 0, N, .inl f)) H ∧ pre_ok f N xs
theorem entAt.kept {g : Gl} {k : Nat} {e : Ent} {H H1 : Heap} (h : entAt g k e H) (hq : H1[k]? = H[k]?) : entAt g k e H1 := by
  rcases e with (⟨t, a⟩ | o) | ⟨N, xs⟩
  · exact va_at.kept (D := g.2.1) (cl := vwCl) (q := (k, .inl (g.2.2.1 t, a))) h hq
  · exact va_at.kept (D := g.2.1) (cl := vwCl) (q := (k, .inr o)) h hq
  · obtain ⟨f, h1, h2⟩ := h
    exact ⟨f, va_at.kept (D := g.2.1) (cl := vwCl) (q := (k, .inl (g.2.2.1 0, N, .inl f))) h1 hq, h2⟩
theorem entAt.lt {g : Gl} {k : Nat} {e : Ent} {H : Heap} (h : entAt g k e H) : k < H.size := by
  rcases e with (⟨t, a⟩ | o) | ⟨N, xs⟩
  · exact va_at.lt (D := g.2.1) (cl := vwCl) (q := (k, .inl (g.2.2.1 t, a))) h
  · exact va_at.lt (D := g.2.1) (cl := vwCl) (q := (k, .inr o)) h
  · obtain ⟨f, h1, h2⟩ := h
    exact va_at.lt (D := g.2.1) (cl := vwCl) (q := (k, .inl (g.2.2.1 0, N, .inl f))) h1
def HP (g : Gl) (σ : Hp) (H : Heap) : Prop := (H.size = σ.1 ∧ ∀ q, q < g.1.size → H[q]? = g.1[q]?) ∧ ∀ k e, σ.2 k = some e → g.1.size ≤ k ∧ entAt g k e H
def hset (σ : Hp) (k : Nat) (e : Ent) : Hp := (σ.1, fun j => if j = k then some e else σ.2 j)
def hpush (σ : Hp) (e : Ent) : Hp := (σ.1 + 1, fun j => if j = σ.1 then some e else σ.2 j)
theorem hset_self (σ : Hp) (k : Nat) (e : Ent) : (hset σ k e).2 k = some e := if_pos rfl
theorem hset_ne (σ : Hp) {k j : Nat} (e : Ent) (h : j ≠ k) : (hset σ k e).2 j = σ.2 j := if_neg h
theorem HP.lt {g : Gl} {σ : Hp} {H : Heap} (h : HP g σ H) {k : Nat} {e : Ent} (he : σ.2 k = some e) : k < H.size := (h.2 k e he).2.lt
theorem HP.set {g : Gl} {σ : Hp} {H H1 : Heap} {k : Nat} {e0 e : Ent} (h : HP g σ H) (h0 : σ.2 k = some e0) (he : entAt g k e H1) (hz : H1.size = H.size) (hq : ∀ q : Nat, q ≠ k → H1[q]? = H[q]?) : HP g (hset σ k e) H1 := by
  refine ⟨⟨hz.trans h.1.1, fun q hq' => (hq q (by have := (h.2 k e0 h0).1; omega)).trans (h.1.2 q hq')⟩, fun j e' hj => ?_⟩
  by_cases hjk : j = k
  · subst hjk
    rw [hset_self] at hj
    cases hj
    exact ⟨(h.2 j e0 h0).1, he⟩
  · rw [hset_ne _ _ hjk] at hj
    exact ⟨(h.2 j e' hj).1, (h.2 j e' hj).2.kept (hq j hjk)⟩
theorem HP.push {g : Gl} {σ : Hp} {H H1 : Heap} {e : Ent} (h : HP g σ H) (hg : g.1.size ≤ H.size) (he : entAt g σ.1 e H1) (hz : H1.size = H.size + 1) (hq : ∀ q : Nat, q < H.size → H1[q]? = H[q]?) : HP g (hpush σ e) H1 := by
  refine ⟨⟨by rw [hz, h.1.1]; rfl, fun q hq' => (hq q (Nat.lt_of_lt_of_le hq' hg)).trans (h.1.2 q hq')⟩, fun j e' hj => ?_⟩
  by_cases hjk : j = σ.1
  · rw [show (hpush σ e).2 j = some e from if_pos hjk] at hj
    cases hj
    subst hjk
    exact ⟨by rw [← h.1.1]; exact hg, he⟩
  · rw [show (hpush σ e).2 j = σ.2 j from if_neg hjk] at hj
    exact ⟨(h.2 j e' hj).1, (h.2 j e' hj).2.kept (hq j (h.lt hj))⟩
/-- fewer cells known -/
theorem HP.sub {g : Gl} {σ τ : Hp} {H : Heap} (h : HP g σ H) (hz : σ.1 = τ.1) (hs : ∀ k e, τ.2 k = some e → σ.2 k = some e) : HP g τ H := ⟨⟨h.1.1.trans hz, h.1.2⟩, fun k e hk => h.2 k e (hs k e hk)⟩
theorem HP.opened {g : Gl} {σ : Hp} {H : Heap} {k N : Nat} {xs : List Int32} (h : HP g σ H) (hk : σ.2 k = some (eL N xs)) : ∃ f, pre_ok f N xs ∧ HP g (hset σ k (eI N f)) H := by
  obtain ⟨h1, f, h2, h3⟩ := h.2 k _ hk
  exact ⟨f, h3, h.set hk (show entAt g k (eI N f) H from h2) rfl (fun _ _ => rfl)⟩
theorem HP.closed {g : Gl} {σ : Hp} {H : Heap} {k N : Nat} {f : Nat → Int32} {xs : List Int32} (h : HP g σ H) (hk : σ.2 k = some (eI N f)) (hp : pre_ok f N xs) : HP g (hset σ k (eL N xs)) H :=
  h.set hk (show entAt g k (eL N xs) H from ⟨f, (h.2 k _ hk).2, hp⟩) rfl (fun _ _ => rfl)
theorem hset_hset (σ : Hp) (k : Nat) (e e' : Ent) : hset (hset σ k e) k e' = hset σ k e' := by
  refine Prod.ext rfl (funext fun j => ?_)
  by_cases h : j = k <;> simp [hset, h]
theorem hset_id {σ : Hp} {k : Nat} {e : Ent} (h : σ.2 k = some e) : hset σ k e = σ := by
  refine Prod.ext rfl (funext fun j => ?_)
  by_cases hj : j = k
  · subst hj; simp [hset, h]
  · simp [hset, hj]
theorem hset_comm (σ : Hp) {k k' : Nat} (e e' : Ent) (h : k ≠ k') : hset (hset σ k e) k' e' = hset (hset σ k' e') k e := by
  refine Prod.ext rfl (funext fun j => ?_)
  by_cases h1 : j = k
  · subst h1; simp [hset, h]
  · by_cases h2 : j = k' <;> simp [hset, h1, h2]
    intro h3; exact absurd h3.symm h
/-! a walk's surroundings in one word -/
abbrev Cx : Type := Program × Launch × Env × Room × State × MethodId × Array Value × List Frame × Method × Code × (State → Prop) × Gl
def G (X : Cx) (σ : Hp) (k n pc : Nat) (ls : List (Nat × Value)) (st : List Value) : Prop := match X with
  | (p, l, e, R, s, m, args, below, meth, c, Q, g) => ∀ (H : Heap) (locs : List Loc) (la : Array Slot), HP g σ H → va_S (fun q => g.1.size ≤ q) s.heap H locs → lv_has la c.maxLocals ls → W p l e R s m args below meth c H locs k n Q (F0 m pc la st)
def Kok (g : Gl) : Prop := ∀ u U : State, u.WarmedH U.vm → g.2.2.2 u → g.2.2.2 U
def Ok (X : Cx) (l0 : Launch) (g0 : Gl) (own : String) (cc : ByteArray) (nL : Nat) (R0 : Room) : Prop := match X with
  | (p, l, _, R, s, m, args, _, _, c, _, g) => p.tables.exec = Jvm.exec ∧ c.code = cc ∧ c.maxLocals = nL ∧ s.vm.findClass own = some m.cls ∧ (∀ w ∈ aw, w.before args s = true) ∧ va_K g.2.1 vwCl (tysG g) s ∧ g.1.size ≤ s.heap.size ∧ (g.2.2.2 s ∧ Kok g) ∧ l = l0 ∧ g = g0 ∧ R = R0
/-- a contract's start and end -/
def MGp (g : Gl) (av : List Value) (σ : Hp) : Array Value → State → Prop := fun a U => a = av.toArray ∧ HP g σ U.heap ∧ g.1.size ≤ U.heap.size ∧ va_K g.2.1 vwCl (tysG g) U ∧ g.2.2.2 U ∧ Kok g
def MGq (g : Gl) (Post : Option Value → Hp → Prop) : Array Value → State → Outcome → State → Prop := fun _ U o t => ∃ v σ', o = .returned v ∧ Post v σ' ∧ HP g σ' t.heap ∧ U.heap.size ≤ t.heap.size ∧ ∀ q : Nat, q < U.heap.size → ¬ g.1.size ≤ q → t.heap[q]? = U.heap[q]?
/-- a method: its name, code, locals, answer's type, frames and locals' words below it, cells and slots that it makes -/
abbrev Md : Type := MethodName × ByteArray × Nat × Option FieldType × Nat × Nat × Nat × Nat
abbrev Md.y (M : Md) : MethodName := M.1
abbrev Md.b (M : Md) : ByteArray := M.2.1
abbrev Md.nL (M : Md) : Nat := M.2.2.1
abbrev Md.rt (M : Md) : Option FieldType := M.2.2.2.1
abbrev Md.rm (M : Md) : Room := { frames := M.2.2.2.2.1, cells := M.2.2.2.2.2.2.1, slots := M.2.2.2.2.2.2.2, locals := M.2.2.2.2.2.1 }
def MG (l : Launch) (g : Gl) (M : Md) (av : List Value) (σ : Hp) (Post : Option Value → Hp → Prop) : Prop :=
  Met l M.y (.code M.y M.b M.nL M.rt :: aw) M.rm (MGp g av σ) (MGq g Post) M.rm.cells M.rm.slots (fun q => g.1.size ≤ q)
/-- the answer and the heap are known -/
abbrev rs (v : Option Value) (σ : Hp) : Option Value → Hp → Prop := fun v' σ' => v' = v ∧ σ' = σ
def Ret (X : Cx) (Post : Option Value → Hp → Prop) (mc ms : Nat) (rt : Option FieldType) : Prop := match X with
  | (_, _, _, _, s, _, args, below, meth, _, Q, g) => Q = MQ below (MGq g Post) args s mc ms (fun q => g.1.size ≤ q) ∧ meth.sig.returnType = rt ∧ meth.locks = false
theorem MG.weaken {l : Launch} {g : Gl} {M : Md} {av : List Value} {σ : Hp} {Post Post' : Option Value → Hp → Prop} (h : MG l g M av σ Post) (hp : ∀ v σ', Post v σ' → Post' v σ') : MG l g M av σ Post' := by
  have : ∀ a st o t, MGq g Post a st o t → MGq g Post' a st o t := fun a st o t ⟨v, σ', h1, h2, h3⟩ => ⟨v, σ', h1, hp _ _ h2, h3⟩
  intro p e ha hc hk s m args below hf happ hP hK
  obtain ⟨k, o, h1, h2, h3, h4, h5⟩ := h p e ha hc hk s m args below hf happ hP hK
  exact ⟨k, o, h1, h2, h3, this _ _ _ _ h4, h5⟩
section GI
variable {X : Cx} {l : Launch} {g : Gl} {own : String} {cc : ByteArray} {nL : Nat} {R : Room} {σ : Hp} {k n : Nat} {ls : List (Nat × Value)} {st : List Value}
theorem g_iconst (hx : Ok X l g own cc nL R) (pc : Nat) {a : Int} (v : Int32) (hd : decode cc pc = .ok (.iconst a, 1)) (hv : Int32.ofInt a = v) (h : G X σ k n (pc + 1) ls (.int v :: st)) : G X σ k n pc ls (st) := by
  obtain ⟨p, l', e, R', s, m, args, below, meth, c, Q, g'⟩ := X
  obtain ⟨h1, h2, h3, h4, h5, h6, h7, h8, rfl, rfl, rfl⟩ := hx
  intro H locs la hP hS hL
  exact lv_iconst h1 h2 hd hv (h H locs la hP hS hL)
theorem g_bipush (hx : Ok X l g own cc nL R) (pc : Nat) {a : Int} (v : Int32) (hd : decode cc pc = .ok (.bipush a, 2)) (hv : (Int8.ofInt a).toInt32 = v) (h : G X σ k n (pc + 2) ls (.int v :: st)) : G X σ k n pc ls (st) := by
  obtain ⟨p, l', e, R', s, m, args, below, meth, c, Q, g'⟩ := X
  obtain ⟨h1, h2, h3, h4, h5, h6, h7, h8, rfl, rfl, rfl⟩ := hx
  intro H locs la hP hS hL
  exact lv_bipush h1 h2 hd hv (h H locs la hP hS hL)
theorem g_sipush (hx : Ok X l g own cc nL R) (pc : Nat) {a : Int} (v : Int32) (hd : decode cc pc = .ok (.sipush a, 3)) (hv : (Int16.ofInt a).toInt32 = v) (h : G X σ k n (pc + 3) ls (.int v :: st)) : G X σ k n pc ls (st) := by
  obtain ⟨p, l', e, R', s, m, args, below, meth, c, Q, g'⟩ := X
  obtain ⟨h1, h2, h3, h4, h5, h6, h7, h8, rfl, rfl, rfl⟩ := hx
  intro H locs la hP hS hL
  exact lv_sipush h1 h2 hd hv (h H locs la hP hS hL)
theorem g_iload_n (hx : Ok X l g own cc nL R) (pc : Nat) {f : Fin 4} {i : Nat} {v : Int32} (j : Nat) (hd : decode cc pc = .ok (.iload_n f, 1)) (hi : (f : Nat) = i) (hl : ls[j]? = some (i, .int v)) (h : G X σ k n (pc + 1) ls (.int v :: st)) : G X σ k n pc ls (st) := by
  obtain ⟨p, l', e, R', s, m, args, below, meth, c, Q, g'⟩ := X
  obtain ⟨h1, h2, h3, h4, h5, h6, h7, h8, rfl, rfl, rfl⟩ := hx
  intro H locs la hP hS hL
  exact lv_iload_n h1 h2 hd hi (lv_at hL j hl) (h H locs la hP hS hL)
theorem g_iload (hx : Ok X l g own cc nL R) (pc : Nat) {i : Nat} {v : Int32} (j : Nat) (hd : decode cc pc = .ok (.iload i, 2)) (hl : ls[j]? = some (i, .int v)) (h : G X σ k n (pc + 2) ls (.int v :: st)) : G X σ k n pc ls (st) := by
  obtain ⟨p, l', e, R', s, m, args, below, meth, c, Q, g'⟩ := X
  obtain ⟨h1, h2, h3, h4, h5, h6, h7, h8, rfl, rfl, rfl⟩ := hx
  intro H locs la hP hS hL
  exact lv_iload h1 h2 hd (lv_at hL j hl) (h H locs la hP hS hL)
theorem g_aload_n (hx : Ok X l g own cc nL R) (pc : Nat) {f : Fin 4} {i : Nat} {v : Nat} (j : Nat) (hd : decode cc pc = .ok (.aload_n f, 1)) (hi : (f : Nat) = i) (hl : ls[j]? = some (i, .ref v)) (h : G X σ k n (pc + 1) ls (.ref v :: st)) : G X σ k n pc ls (st) := by
  obtain ⟨p, l', e, R', s, m, args, below, meth, c, Q, g'⟩ := X
  obtain ⟨h1, h2, h3, h4, h5, h6, h7, h8, rfl, rfl, rfl⟩ := hx
  intro H locs la hP hS hL
  exact lv_aload_n h1 h2 hd hi (lv_at hL j hl) (h H locs la hP hS hL)
theorem g_aload (hx : Ok X l g own cc nL R) (pc : Nat) {i : Nat} {v : Nat} (j : Nat) (hd : decode cc pc = .ok (.aload i, 2)) (hl : ls[j]? = some (i, .ref v)) (h : G X σ k n (pc + 2) ls (.ref v :: st)) : G X σ k n pc ls (st) := by
  obtain ⟨p, l', e, R', s, m, args, below, meth, c, Q, g'⟩ := X
  obtain ⟨h1, h2, h3, h4, h5, h6, h7, h8, rfl, rfl, rfl⟩ := hx
  intro H locs la hP hS hL
  exact lv_aload h1 h2 hd (lv_at hL j hl) (h H locs la hP hS hL)
theorem g_aload_nN (hx : Ok X l g own cc nL R) (pc : Nat) {f : Fin 4} {i : Nat} (j : Nat) (hd : decode cc pc = .ok (.aload_n f, 1)) (hi : (f : Nat) = i) (hl : ls[j]? = some (i, .null)) (h : G X σ k n (pc + 1) ls (.null :: st)) : G X σ k n pc ls (st) := by
  obtain ⟨p, l', e, R', s, m, args, below, meth, c, Q, g'⟩ := X
  obtain ⟨h1, h2, h3, h4, h5, h6, h7, h8, rfl, rfl, rfl⟩ := hx
  intro H locs la hP hS hL
  exact lv_aload_nN h1 h2 hd hi (lv_at hL j hl) (h H locs la hP hS hL)
theorem g_aloadN (hx : Ok X l g own cc nL R) (pc : Nat) {i : Nat} (j : Nat) (hd : decode cc pc = .ok (.aload i, 2)) (hl : ls[j]? = some (i, .null)) (h : G X σ k n (pc + 2) ls (.null :: st)) : G X σ k n pc ls (st) := by
  obtain ⟨p, l', e, R', s, m, args, below, meth, c, Q, g'⟩ := X
  obtain ⟨h1, h2, h3, h4, h5, h6, h7, h8, rfl, rfl, rfl⟩ := hx
  intro H locs la hP hS hL
  exact lv_aloadN h1 h2 hd (lv_at hL j hl) (h H locs la hP hS hL)
theorem g_null (hx : Ok X l g own cc nL R) (pc : Nat)  (hd : decode cc pc = .ok (.aconst_null, 1)) (h : G X σ k n (pc + 1) ls (.null :: st)) : G X σ k n pc ls (st) := by
  obtain ⟨p, l', e, R', s, m, args, below, meth, c, Q, g'⟩ := X
  obtain ⟨h1, h2, h3, h4, h5, h6, h7, h8, rfl, rfl, rfl⟩ := hx
  intro H locs la hP hS hL
  exact lv_null h1 h2 hd (h H locs la hP hS hL)
theorem g_iadd (hx : Ok X l g own cc nL R) (pc : Nat) {x y : Int32} (hd : decode cc pc = .ok (.iadd, 1)) (h : G X σ k n (pc + 1) ls (.int (x + y) :: st)) : G X σ k n pc ls (.int y :: .int x :: st) := by
  obtain ⟨p, l', e, R', s, m, args, below, meth, c, Q, g'⟩ := X
  obtain ⟨h1, h2, h3, h4, h5, h6, h7, h8, rfl, rfl, rfl⟩ := hx
  intro H locs la hP hS hL
  exact lv_iadd h1 h2 hd (h H locs la hP hS hL)
theorem g_isub (hx : Ok X l g own cc nL R) (pc : Nat) {x y : Int32} (hd : decode cc pc = .ok (.isub, 1)) (h : G X σ k n (pc + 1) ls (.int (x - y) :: st)) : G X σ k n pc ls (.int y :: .int x :: st) := by
  obtain ⟨p, l', e, R', s, m, args, below, meth, c, Q, g'⟩ := X
  obtain ⟨h1, h2, h3, h4, h5, h6, h7, h8, rfl, rfl, rfl⟩ := hx
  intro H locs la hP hS hL
  exact lv_isub h1 h2 hd (h H locs la hP hS hL)
theorem g_imul (hx : Ok X l g own cc nL R) (pc : Nat) {x y : Int32} (hd : decode cc pc = .ok (.imul, 1)) (h : G X σ k n (pc + 1) ls (.int (x * y) :: st)) : G X σ k n pc ls (.int y :: .int x :: st) := by
  obtain ⟨p, l', e, R', s, m, args, below, meth, c, Q, g'⟩ := X
  obtain ⟨h1, h2, h3, h4, h5, h6, h7, h8, rfl, rfl, rfl⟩ := hx
  intro H locs la hP hS hL
  exact lv_imul h1 h2 hd (h H locs la hP hS hL)
theorem g_iand (hx : Ok X l g own cc nL R) (pc : Nat) {x y : Int32} (hd : decode cc pc = .ok (.iand, 1)) (h : G X σ k n (pc + 1) ls (.int (x &&& y) :: st)) : G X σ k n pc ls (.int y :: .int x :: st) := by
  obtain ⟨p, l', e, R', s, m, args, below, meth, c, Q, g'⟩ := X
  obtain ⟨h1, h2, h3, h4, h5, h6, h7, h8, rfl, rfl, rfl⟩ := hx
  intro H locs la hP hS hL
  exact lv_iand h1 h2 hd (h H locs la hP hS hL)
theorem g_ior (hx : Ok X l g own cc nL R) (pc : Nat) {x y : Int32} (hd : decode cc pc = .ok (.ior, 1)) (h : G X σ k n (pc + 1) ls (.int (x ||| y) :: st)) : G X σ k n pc ls (.int y :: .int x :: st) := by
  obtain ⟨p, l', e, R', s, m, args, below, meth, c, Q, g'⟩ := X
  obtain ⟨h1, h2, h3, h4, h5, h6, h7, h8, rfl, rfl, rfl⟩ := hx
  intro H locs la hP hS hL
  exact lv_ior h1 h2 hd (h H locs la hP hS hL)
theorem g_ixor (hx : Ok X l g own cc nL R) (pc : Nat) {x y : Int32} (hd : decode cc pc = .ok (.ixor, 1)) (h : G X σ k n (pc + 1) ls (.int (x ^^^ y) :: st)) : G X σ k n pc ls (.int y :: .int x :: st) := by
  obtain ⟨p, l', e, R', s, m, args, below, meth, c, Q, g'⟩ := X
  obtain ⟨h1, h2, h3, h4, h5, h6, h7, h8, rfl, rfl, rfl⟩ := hx
  intro H locs la hP hS hL
  exact lv_ixor h1 h2 hd (h H locs la hP hS hL)
theorem g_ishl (hx : Ok X l g own cc nL R) (pc : Nat) {x y : Int32} (hd : decode cc pc = .ok (.ishl, 1)) (h : G X σ k n (pc + 1) ls (.int (x <<< (y &&& 31)) :: st)) : G X σ k n pc ls (.int y :: .int x :: st) := by
  obtain ⟨p, l', e, R', s, m, args, below, meth, c, Q, g'⟩ := X
  obtain ⟨h1, h2, h3, h4, h5, h6, h7, h8, rfl, rfl, rfl⟩ := hx
  intro H locs la hP hS hL
  exact lv_ishl h1 h2 hd (h H locs la hP hS hL)
theorem g_ishr (hx : Ok X l g own cc nL R) (pc : Nat) {x y : Int32} (hd : decode cc pc = .ok (.ishr, 1)) (h : G X σ k n (pc + 1) ls (.int (x >>> (y &&& 31)) :: st)) : G X σ k n pc ls (.int y :: .int x :: st) := by
  obtain ⟨p, l', e, R', s, m, args, below, meth, c, Q, g'⟩ := X
  obtain ⟨h1, h2, h3, h4, h5, h6, h7, h8, rfl, rfl, rfl⟩ := hx
  intro H locs la hP hS hL
  exact lv_ishr h1 h2 hd (h H locs la hP hS hL)
theorem g_iushr (hx : Ok X l g own cc nL R) (pc : Nat) {x y : Int32} (hd : decode cc pc = .ok (.iushr, 1)) (h : G X σ k n (pc + 1) ls (.int ((x.toUInt32 >>> (y.toUInt32 &&& Int32.toUInt32 31)).toInt32) :: st)) : G X σ k n pc ls (.int y :: .int x :: st) := by
  obtain ⟨p, l', e, R', s, m, args, below, meth, c, Q, g'⟩ := X
  obtain ⟨h1, h2, h3, h4, h5, h6, h7, h8, rfl, rfl, rfl⟩ := hx
  intro H locs la hP hS hL
  exact lv_iushr h1 h2 hd rfl (h H locs la hP hS hL)
theorem g_ineg (hx : Ok X l g own cc nL R) (pc : Nat) {x : Int32} (hd : decode cc pc = .ok (.ineg, 1)) (h : G X σ k n (pc + 1) ls (.int (-x) :: st)) : G X σ k n pc ls (.int x :: st) := by
  obtain ⟨p, l', e, R', s, m, args, below, meth, c, Q, g'⟩ := X
  obtain ⟨h1, h2, h3, h4, h5, h6, h7, h8, rfl, rfl, rfl⟩ := hx
  intro H locs la hP hS hL
  exact lv_ineg h1 h2 hd (h H locs la hP hS hL)
theorem g_idiv (hx : Ok X l g own cc nL R) (pc : Nat) {x y : Int32} (hd : decode cc pc = .ok (.idiv, 1)) (hne : ¬ y = 0) (h : G X σ k n (pc + 1) ls (.int (x / y) :: st)) : G X σ k n pc ls (.int y :: .int x :: st) := by
  obtain ⟨p, l', e, R', s, m, args, below, meth, c, Q, g'⟩ := X
  obtain ⟨h1, h2, h3, h4, h5, h6, h7, h8, rfl, rfl, rfl⟩ := hx
  intro H locs la hP hS hL
  exact lv_idiv h1 h2 hd hne (h H locs la hP hS hL)
theorem g_irem (hx : Ok X l g own cc nL R) (pc : Nat) {x y : Int32} (hd : decode cc pc = .ok (.irem, 1)) (hne : ¬ y = 0) (h : G X σ k n (pc + 1) ls (.int (x - x / y * y) :: st)) : G X σ k n pc ls (.int y :: .int x :: st) := by
  obtain ⟨p, l', e, R', s, m, args, below, meth, c, Q, g'⟩ := X
  obtain ⟨h1, h2, h3, h4, h5, h6, h7, h8, rfl, rfl, rfl⟩ := hx
  intro H locs la hP hS hL
  exact lv_irem h1 h2 hd hne (h H locs la hP hS hL)
theorem g_dup (hx : Ok X l g own cc nL R) (pc : Nat) {va : Value} (hd : decode cc pc = .ok (.dup, 1)) (hva : va.category = 1) (h : G X σ k n (pc + 1) ls (va :: va :: st)) : G X σ k n pc ls (va :: st) := by
  obtain ⟨p, l', e, R', s, m, args, below, meth, c, Q, g'⟩ := X
  obtain ⟨h1, h2, h3, h4, h5, h6, h7, h8, rfl, rfl, rfl⟩ := hx
  intro H locs la hP hS hL
  exact lv_dup h1 h2 hd hva (h H locs la hP hS hL)
theorem g_pop (hx : Ok X l g own cc nL R) (pc : Nat) {va : Value} (hd : decode cc pc = .ok (.pop, 1)) (hva : va.category = 1) (h : G X σ k n (pc + 1) ls (st)) : G X σ k n pc ls (va :: st) := by
  obtain ⟨p, l', e, R', s, m, args, below, meth, c, Q, g'⟩ := X
  obtain ⟨h1, h2, h3, h4, h5, h6, h7, h8, rfl, rfl, rfl⟩ := hx
  intro H locs la hP hS hL
  exact lv_pop h1 h2 hd hva (h H locs la hP hS hL)
theorem g_dup_x1 (hx : Ok X l g own cc nL R) (pc : Nat) {va vb : Value} (hd : decode cc pc = .ok (.dup_x1, 1)) (hva : va.category = 1) (hvb : vb.category = 1) (h : G X σ k n (pc + 1) ls (va :: vb :: va :: st)) : G X σ k n pc ls (va :: vb :: st) := by
  obtain ⟨p, l', e, R', s, m, args, below, meth, c, Q, g'⟩ := X
  obtain ⟨h1, h2, h3, h4, h5, h6, h7, h8, rfl, rfl, rfl⟩ := hx
  intro H locs la hP hS hL
  exact lv_dup_x1 h1 h2 hd hva hvb (h H locs la hP hS hL)
theorem g_dup2 (hx : Ok X l g own cc nL R) (pc : Nat) {va vb : Value} (hd : decode cc pc = .ok (.dup2, 1)) (hva : va.category = 1) (hvb : vb.category = 1) (h : G X σ k n (pc + 1) ls (va :: vb :: va :: vb :: st)) : G X σ k n pc ls (va :: vb :: st) := by
  obtain ⟨p, l', e, R', s, m, args, below, meth, c, Q, g'⟩ := X
  obtain ⟨h1, h2, h3, h4, h5, h6, h7, h8, rfl, rfl, rfl⟩ := hx
  intro H locs la hP hS hL
  exact lv_dup2_11 h1 h2 hd hva hvb (h H locs la hP hS hL)
theorem g_i2l (hx : Ok X l g own cc nL R) (pc : Nat) {x : Int32} (hd : decode cc pc = .ok (.i2l, 1)) (h : G X σ k n (pc + 1) ls (.long x.toInt64 :: st)) : G X σ k n pc ls (.int x :: st) := by
  obtain ⟨p, l', e, R', s, m, args, below, meth, c, Q, g'⟩ := X
  obtain ⟨h1, h2, h3, h4, h5, h6, h7, h8, rfl, rfl, rfl⟩ := hx
  intro H locs la hP hS hL
  exact lv_i2l h1 h2 hd rfl (h H locs la hP hS hL)
theorem g_ldci (hx : Ok X l g own cc nL R) (pc : Nat) {i : Nat} {v : Int32} (hd : decode cc pc = .ok (.ldc i, 2)) (hc : (Cond.constant own i v) ∈ aw) (h : G X σ k n (pc + 2) ls (.int v :: st)) : G X σ k n pc ls (st) := by
  obtain ⟨p, l', e, R', s, m, args, below, meth, c, Q, g'⟩ := X
  obtain ⟨h1, h2, h3, h4, h5, h6, h7, h8, rfl, rfl, rfl⟩ := hx
  intro H locs la hP hS hL
  exact lv_ldc h1 h2 h4 (h5 _ hc) hd (h H locs la hP hS hL)
theorem g_istore_n (hx : Ok X l g own cc nL R) (pc : Nat) {f : Fin 4} {i : Nat} {v : Int32} (ls' : List (Nat × Value)) (hd : decode cc pc = .ok (.istore_n f, 1)) (hi : (f : Nat) = i) (hn : i < nL) (hl : (i, Value.int v) :: ls.filter (fun q => !(q.1 == i) && !(q.1 + 1 == i && q.2.category == 2)) = ls') (h : G X σ k n (pc + 1) ls' st) : G X σ k n pc ls (Value.int v :: st) := by
  obtain ⟨p, l', e, R', s, m, args, below, meth, c, Q, g'⟩ := X
  obtain ⟨h1, h2, h3, h4, h5, h6, h7, h8, rfl, rfl, rfl⟩ := hx
  intro H locs la hP hS hL
  exact lv_istore_n h1 h2 hd hi hL (by rw [h3]; exact hn) hl (fun la' hL' => h H locs la' hP hS hL')
theorem g_istore (hx : Ok X l g own cc nL R) (pc : Nat) {i : Nat} {v : Int32} (ls' : List (Nat × Value)) (hd : decode cc pc = .ok (.istore i, 2)) (hn : i < nL) (hl : (i, Value.int v) :: ls.filter (fun q => !(q.1 == i) && !(q.1 + 1 == i && q.2.category == 2)) = ls') (h : G X σ k n (pc + 2) ls' st) : G X σ k n pc ls (Value.int v :: st) := by
  obtain ⟨p, l', e, R', s, m, args, below, meth, c, Q, g'⟩ := X
  obtain ⟨h1, h2, h3, h4, h5, h6, h7, h8, rfl, rfl, rfl⟩ := hx
  intro H locs la hP hS hL
  exact lv_istore h1 h2 hd hL (by rw [h3]; exact hn) hl (fun la' hL' => h H locs la' hP hS hL')
theorem g_astore_n (hx : Ok X l g own cc nL R) (pc : Nat) {f : Fin 4} {i : Nat} {v : Nat} (ls' : List (Nat × Value)) (hd : decode cc pc = .ok (.astore_n f, 1)) (hi : (f : Nat) = i) (hn : i < nL) (hl : (i, Value.ref v) :: ls.filter (fun q => !(q.1 == i) && !(q.1 + 1 == i && q.2.category == 2)) = ls') (h : G X σ k n (pc + 1) ls' st) : G X σ k n pc ls (Value.ref v :: st) := by
  obtain ⟨p, l', e, R', s, m, args, below, meth, c, Q, g'⟩ := X
  obtain ⟨h1, h2, h3, h4, h5, h6, h7, h8, rfl, rfl, rfl⟩ := hx
  intro H locs la hP hS hL
  exact lv_astore_n h1 h2 hd hi hL (by rw [h3]; exact hn) hl (fun la' hL' => h H locs la' hP hS hL')
theorem g_astore (hx : Ok X l g own cc nL R) (pc : Nat) {i : Nat} {v : Nat} (ls' : List (Nat × Value)) (hd : decode cc pc = .ok (.astore i, 2)) (hn : i < nL) (hl : (i, Value.ref v) :: ls.filter (fun q => !(q.1 == i) && !(q.1 + 1 == i && q.2.category == 2)) = ls') (h : G X σ k n (pc + 2) ls' st) : G X σ k n pc ls (Value.ref v :: st) := by
  obtain ⟨p, l', e, R', s, m, args, below, meth, c, Q, g'⟩ := X
  obtain ⟨h1, h2, h3, h4, h5, h6, h7, h8, rfl, rfl, rfl⟩ := hx
  intro H locs la hP hS hL
  exact lv_astore h1 h2 hd hL (by rw [h3]; exact hn) hl (fun la' hL' => h H locs la' hP hS hL')
theorem g_astore_nN (hx : Ok X l g own cc nL R) (pc : Nat) {f : Fin 4} {i : Nat} (ls' : List (Nat × Value)) (hd : decode cc pc = .ok (.astore_n f, 1)) (hi : (f : Nat) = i) (hn : i < nL) (hl : (i, Value.null) :: ls.filter (fun q => !(q.1 == i) && !(q.1 + 1 == i && q.2.category == 2)) = ls') (h : G X σ k n (pc + 1) ls' st) : G X σ k n pc ls (Value.null :: st) := by
  obtain ⟨p, l', e, R', s, m, args, below, meth, c, Q, g'⟩ := X
  obtain ⟨h1, h2, h3, h4, h5, h6, h7, h8, rfl, rfl, rfl⟩ := hx
  intro H locs la hP hS hL
  exact lv_astore_nN h1 h2 hd hi hL (by rw [h3]; exact hn) hl (fun la' hL' => h H locs la' hP hS hL')
theorem g_astoreN (hx : Ok X l g own cc nL R) (pc : Nat) {i : Nat} (ls' : List (Nat × Value)) (hd : decode cc pc = .ok (.astore i, 2)) (hn : i < nL) (hl : (i, Value.null) :: ls.filter (fun q => !(q.1 == i) && !(q.1 + 1 == i && q.2.category == 2)) = ls') (h : G X σ k n (pc + 2) ls' st) : G X σ k n pc ls (Value.null :: st) := by
  obtain ⟨p, l', e, R', s, m, args, below, meth, c, Q, g'⟩ := X
  obtain ⟨h1, h2, h3, h4, h5, h6, h7, h8, rfl, rfl, rfl⟩ := hx
  intro H locs la hP hS hL
  exact lv_astoreN h1 h2 hd hL (by rw [h3]; exact hn) hl (fun la' hL' => h H locs la' hP hS hL')
theorem g_iinc (hx : Ok X l g own cc nL R) (pc : Nat) {i : Nat} {a : Int} {x : Int32} (j : Nat) (v : Int32) (ls' : List (Nat × Value)) (hd : decode cc pc = .ok (.iinc i a, 3)) (hj : ls[j]? = some (i, .int x)) (hv : x + Int32.ofInt a = v) (hn : i < nL) (hl : (i, Value.int v) :: ls.filter (fun q => !(q.1 == i) && !(q.1 + 1 == i && q.2.category == 2)) = ls') (h : G X σ k n (pc + 3) ls' st) : G X σ k n pc ls st := by
  obtain ⟨p, l', e, R', s, m, args, below, meth, c, Q, g'⟩ := X
  obtain ⟨h1, h2, h3, h4, h5, h6, h7, h8, rfl, rfl, rfl⟩ := hx
  intro H locs la hP hS hL
  exact lv_iinc h1 h2 hd hL hj hv (by rw [h3]; exact hn) hl (fun la' hL' => h H locs la' hP hS hL')
theorem g_if_eq (hx : Ok X l g own cc nL R) (pc : Nat) {x : Int32} {off : Int} (tgt : Nat) (hd : decode cc pc = .ok (.ifCond .eq off, 3)) (ht : (pc : Int) + off = (tgt : Int)) (ha : x = 0 → G X σ k n tgt ls st) (hb : ¬ (x = 0) → G X σ k n (pc + 3) ls st) : G X σ k n pc ls (.int x :: st) := by
  obtain ⟨p, l', e, R', s, m, args, below, meth, c, Q, g'⟩ := X
  obtain ⟨h1, h2, h3, h4, h5, h6, h7, h8, rfl, rfl, rfl⟩ := hx
  intro H locs la hP hS hL
  exact lv_if_eq h1 h2 hd ht (fun hc => ha hc H locs la hP hS hL) (fun hc => hb hc H locs la hP hS hL)
theorem g_icmp_eq (hx : Ok X l g own cc nL R) (pc : Nat) {x y : Int32} {off : Int} (tgt : Nat) (hd : decode cc pc = .ok (.if_icmp .eq off, 3)) (ht : (pc : Int) + off = (tgt : Int)) (ha : x = y → G X σ k n tgt ls st) (hb : ¬ (x = y) → G X σ k n (pc + 3) ls st) : G X σ k n pc ls (.int y :: .int x :: st) := by
  obtain ⟨p, l', e, R', s, m, args, below, meth, c, Q, g'⟩ := X
  obtain ⟨h1, h2, h3, h4, h5, h6, h7, h8, rfl, rfl, rfl⟩ := hx
  intro H locs la hP hS hL
  exact lv_icmp_eq h1 h2 hd ht (fun hc => ha hc H locs la hP hS hL) (fun hc => hb hc H locs la hP hS hL)
theorem g_if_ne (hx : Ok X l g own cc nL R) (pc : Nat) {x : Int32} {off : Int} (tgt : Nat) (hd : decode cc pc = .ok (.ifCond .ne off, 3)) (ht : (pc : Int) + off = (tgt : Int)) (ha : ¬ x = 0 → G X σ k n tgt ls st) (hb : x = 0 → G X σ k n (pc + 3) ls st) : G X σ k n pc ls (.int x :: st) := by
  obtain ⟨p, l', e, R', s, m, args, below, meth, c, Q, g'⟩ := X
  obtain ⟨h1, h2, h3, h4, h5, h6, h7, h8, rfl, rfl, rfl⟩ := hx
  intro H locs la hP hS hL
  exact lv_if_ne h1 h2 hd ht (fun hc => ha hc H locs la hP hS hL) (fun hc => hb hc H locs la hP hS hL)
theorem g_icmp_ne (hx : Ok X l g own cc nL R) (pc : Nat) {x y : Int32} {off : Int} (tgt : Nat) (hd : decode cc pc = .ok (.if_icmp .ne off, 3)) (ht : (pc : Int) + off = (tgt : Int)) (ha : ¬ x = y → G X σ k n tgt ls st) (hb : x = y → G X σ k n (pc + 3) ls st) : G X σ k n pc ls (.int y :: .int x :: st) := by
  obtain ⟨p, l', e, R', s, m, args, below, meth, c, Q, g'⟩ := X
  obtain ⟨h1, h2, h3, h4, h5, h6, h7, h8, rfl, rfl, rfl⟩ := hx
  intro H locs la hP hS hL
  exact lv_icmp_ne h1 h2 hd ht (fun hc => ha hc H locs la hP hS hL) (fun hc => hb hc H locs la hP hS hL)
theorem g_if_lt (hx : Ok X l g own cc nL R) (pc : Nat) {x : Int32} {off : Int} (tgt : Nat) (hd : decode cc pc = .ok (.ifCond .lt off, 3)) (ht : (pc : Int) + off = (tgt : Int)) (ha : x < 0 → G X σ k n tgt ls st) (hb : ¬ (x < 0) → G X σ k n (pc + 3) ls st) : G X σ k n pc ls (.int x :: st) := by
  obtain ⟨p, l', e, R', s, m, args, below, meth, c, Q, g'⟩ := X
  obtain ⟨h1, h2, h3, h4, h5, h6, h7, h8, rfl, rfl, rfl⟩ := hx
  intro H locs la hP hS hL
  exact lv_if_lt h1 h2 hd ht (fun hc => ha hc H locs la hP hS hL) (fun hc => hb hc H locs la hP hS hL)
theorem g_icmp_lt (hx : Ok X l g own cc nL R) (pc : Nat) {x y : Int32} {off : Int} (tgt : Nat) (hd : decode cc pc = .ok (.if_icmp .lt off, 3)) (ht : (pc : Int) + off = (tgt : Int)) (ha : x < y → G X σ k n tgt ls st) (hb : ¬ (x < y) → G X σ k n (pc + 3) ls st) : G X σ k n pc ls (.int y :: .int x :: st) := by
  obtain ⟨p, l', e, R', s, m, args, below, meth, c, Q, g'⟩ := X
  obtain ⟨h1, h2, h3, h4, h5, h6, h7, h8, rfl, rfl, rfl⟩ := hx
  intro H locs la hP hS hL
  exact lv_icmp_lt h1 h2 hd ht (fun hc => ha hc H locs la hP hS hL) (fun hc => hb hc H locs la hP hS hL)
theorem g_if_ge (hx : Ok X l g own cc nL R) (pc : Nat) {x : Int32} {off : Int} (tgt : Nat) (hd : decode cc pc = .ok (.ifCond .ge off, 3)) (ht : (pc : Int) + off = (tgt : Int)) (ha : 0 ≤ x → G X σ k n tgt ls st) (hb : ¬ (0 ≤ x) → G X σ k n (pc + 3) ls st) : G X σ k n pc ls (.int x :: st) := by
  obtain ⟨p, l', e, R', s, m, args, below, meth, c, Q, g'⟩ := X
  obtain ⟨h1, h2, h3, h4, h5, h6, h7, h8, rfl, rfl, rfl⟩ := hx
  intro H locs la hP hS hL
  exact lv_if_ge h1 h2 hd ht (fun hc => ha hc H locs la hP hS hL) (fun hc => hb hc H locs la hP hS hL)
theorem g_icmp_ge (hx : Ok X l g own cc nL R) (pc : Nat) {x y : Int32} {off : Int} (tgt : Nat) (hd : decode cc pc = .ok (.if_icmp .ge off, 3)) (ht : (pc : Int) + off = (tgt : Int)) (ha : y ≤ x → G X σ k n tgt ls st) (hb : ¬ (y ≤ x) → G X σ k n (pc + 3) ls st) : G X σ k n pc ls (.int y :: .int x :: st) := by
  obtain ⟨p, l', e, R', s, m, args, below, meth, c, Q, g'⟩ := X
  obtain ⟨h1, h2, h3, h4, h5, h6, h7, h8, rfl, rfl, rfl⟩ := hx
  intro H locs la hP hS hL
  exact lv_icmp_ge h1 h2 hd ht (fun hc => ha hc H locs la hP hS hL) (fun hc => hb hc H locs la hP hS hL)
theorem g_if_gt (hx : Ok X l g own cc nL R) (pc : Nat) {x : Int32} {off : Int} (tgt : Nat) (hd : decode cc pc = .ok (.ifCond .gt off, 3)) (ht : (pc : Int) + off = (tgt : Int)) (ha : 0 < x → G X σ k n tgt ls st) (hb : ¬ (0 < x) → G X σ k n (pc + 3) ls st) : G X σ k n pc ls (.int x :: st) := by
  obtain ⟨p, l', e, R', s, m, args, below, meth, c, Q, g'⟩ := X
  obtain ⟨h1, h2, h3, h4, h5, h6, h7, h8, rfl, rfl, rfl⟩ := hx
  intro H locs la hP hS hL
  exact lv_if_gt h1 h2 hd ht (fun hc => ha hc H locs la hP hS hL) (fun hc => hb hc H locs la hP hS hL)
theorem g_icmp_gt (hx : Ok X l g own cc nL R) (pc : Nat) {x y : Int32} {off : Int} (tgt : Nat) (hd : decode cc pc = .ok (.if_icmp .gt off, 3)) (ht : (pc : Int) + off = (tgt : Int)) (ha : y < x → G X σ k n tgt ls st) (hb : ¬ (y < x) → G X σ k n (pc + 3) ls st) : G X σ k n pc ls (.int y :: .int x :: st) := by
  obtain ⟨p, l', e, R', s, m, args, below, meth, c, Q, g'⟩ := X
  obtain ⟨h1, h2, h3, h4, h5, h6, h7, h8, rfl, rfl, rfl⟩ := hx
  intro H locs la hP hS hL
  exact lv_icmp_gt h1 h2 hd ht (fun hc => ha hc H locs la hP hS hL) (fun hc => hb hc H locs la hP hS hL)
theorem g_if_le (hx : Ok X l g own cc nL R) (pc : Nat) {x : Int32} {off : Int} (tgt : Nat) (hd : decode cc pc = .ok (.ifCond .le off, 3)) (ht : (pc : Int) + off = (tgt : Int)) (ha : x ≤ 0 → G X σ k n tgt ls st) (hb : ¬ (x ≤ 0) → G X σ k n (pc + 3) ls st) : G X σ k n pc ls (.int x :: st) := by
  obtain ⟨p, l', e, R', s, m, args, below, meth, c, Q, g'⟩ := X
  obtain ⟨h1, h2, h3, h4, h5, h6, h7, h8, rfl, rfl, rfl⟩ := hx
  intro H locs la hP hS hL
  exact lv_if_le h1 h2 hd ht (fun hc => ha hc H locs la hP hS hL) (fun hc => hb hc H locs la hP hS hL)
theorem g_icmp_le (hx : Ok X l g own cc nL R) (pc : Nat) {x y : Int32} {off : Int} (tgt : Nat) (hd : decode cc pc = .ok (.if_icmp .le off, 3)) (ht : (pc : Int) + off = (tgt : Int)) (ha : x ≤ y → G X σ k n tgt ls st) (hb : ¬ (x ≤ y) → G X σ k n (pc + 3) ls st) : G X σ k n pc ls (.int y :: .int x :: st) := by
  obtain ⟨p, l', e, R', s, m, args, below, meth, c, Q, g'⟩ := X
  obtain ⟨h1, h2, h3, h4, h5, h6, h7, h8, rfl, rfl, rfl⟩ := hx
  intro H locs la hP hS hL
  exact lv_icmp_le h1 h2 hd ht (fun hc => ha hc H locs la hP hS hL) (fun hc => hb hc H locs la hP hS hL)
theorem g_goto (hx : Ok X l g own cc nL R) (pc : Nat) {off : Int} (tgt : Nat) (hd : decode cc pc = .ok (.goto off, 3)) (ht : (pc : Int) + off = (tgt : Int)) (h : G X σ k n tgt ls st) : G X σ k n pc ls st := by
  obtain ⟨p, l', e, R', s, m, args, below, meth, c, Q, g'⟩ := X
  obtain ⟨h1, h2, h3, h4, h5, h6, h7, h8, rfl, rfl, rfl⟩ := hx
  intro H locs la hP hS hL
  exact lv_goto h1 h2 hd ht (h H locs la hP hS hL)
theorem g_ifnonnull (hx : Ok X l g own cc nL R) (pc : Nat) {v : Nat} {off : Int} (tgt : Nat) (hd : decode cc pc = .ok (.ifnonnull off, 3)) (ht : (pc : Int) + off = (tgt : Int)) (h : G X σ k n tgt ls st) : G X σ k n pc ls (.ref v :: st) := by
  obtain ⟨p, l', e, R', s, m, args, below, meth, c, Q, g'⟩ := X
  obtain ⟨h1, h2, h3, h4, h5, h6, h7, h8, rfl, rfl, rfl⟩ := hx
  intro H locs la hP hS hL
  exact lv_ifnonnull h1 h2 hd ht (h H locs la hP hS hL)
theorem g_ifnull (hx : Ok X l g own cc nL R) (pc : Nat) {v : Nat} {off : Int} (hd : decode cc pc = .ok (.ifnull off, 3)) (h : G X σ k n (pc + 3) ls st) : G X σ k n pc ls (.ref v :: st) := by
  obtain ⟨p, l', e, R', s, m, args, below, meth, c, Q, g'⟩ := X
  obtain ⟨h1, h2, h3, h4, h5, h6, h7, h8, rfl, rfl, rfl⟩ := hx
  intro H locs la hP hS hL
  exact lv_ifnull h1 h2 hd (h H locs la hP hS hL)
theorem g_ifnullN (hx : Ok X l g own cc nL R) (pc : Nat) {off : Int} (tgt : Nat) (hd : decode cc pc = .ok (.ifnull off, 3)) (ht : (pc : Int) + off = (tgt : Int)) (h : G X σ k n tgt ls st) : G X σ k n pc ls (.null :: st) := by
  obtain ⟨p, l', e, R', s, m, args, below, meth, c, Q, g'⟩ := X
  obtain ⟨h1, h2, h3, h4, h5, h6, h7, h8, rfl, rfl, rfl⟩ := hx
  intro H locs la hP hS hL
  exact lv_ifnullN h1 h2 hd ht (h H locs la hP hS hL)
theorem g_ifnonnullN (hx : Ok X l g own cc nL R) (pc : Nat) {off : Int} (hd : decode cc pc = .ok (.ifnonnull off, 3)) (h : G X σ k n (pc + 3) ls st) : G X σ k n pc ls (.null :: st) := by
  obtain ⟨p, l', e, R', s, m, args, below, meth, c, Q, g'⟩ := X
  obtain ⟨h1, h2, h3, h4, h5, h6, h7, h8, rfl, rfl, rfl⟩ := hx
  intro H locs la hP hS hL
  exact lv_ifnonnullN h1 h2 hd (h H locs la hP hS hL)
theorem g_tableOut (hx : Ok X l g own cc nL R) (pc : Nat) {dflt lo hi : Int} {offs : Array Int} {len : Nat} {x : Int32} (tgt : Nat) (hd : decode cc pc = .ok (.tableswitch dflt lo hi offs, len)) (hq : x.toInt < lo ∨ hi < x.toInt) (ht : (pc : Int) + dflt = (tgt : Int)) (h : G X σ k n tgt ls st) : G X σ k n pc ls (.int x :: st) := by
  obtain ⟨p, l', e, R', s, m, args, below, meth, c, Q, g'⟩ := X
  obtain ⟨h1, h2, h3, h4, h5, h6, h7, h8, rfl, rfl, rfl⟩ := hx
  intro H locs la hP hS hL
  exact lv_tableOut h1 h2 hd hq ht (h H locs la hP hS hL)
theorem g_tableIn (hx : Ok X l g own cc nL R) (pc : Nat) {dflt lo hi : Int} {offs : Array Int} {len : Nat} {x : Int32} {off : Int} (tgt : Nat) (hd : decode cc pc = .ok (.tableswitch dflt lo hi offs, len)) (ha : ¬ x.toInt < lo) (hb : ¬ hi < x.toInt) (ho : offs[(x.toInt - lo).toNat]? = some off) (ht : (pc : Int) + off = (tgt : Int)) (h : G X σ k n tgt ls st) : G X σ k n pc ls (.int x :: st) := by
  obtain ⟨p, l', e, R', s, m, args, below, meth, c, Q, g'⟩ := X
  obtain ⟨h1, h2, h3, h4, h5, h6, h7, h8, rfl, rfl, rfl⟩ := hx
  intro H locs la hP hS hL
  exact lv_tableIn h1 h2 hd ha hb ho ht (h H locs la hP hS hL)
theorem g_lookup (hx : Ok X l g own cc nL R) (pc : Nat) {dflt : Int} {ps : Array (Int × Int)} {len : Nat} {x : Int32} {off : Int} (tgt : Nat) (hd : decode cc pc = .ok (.lookupswitch dflt ps, len)) (hp : (ps.toList.zip (ps.toList.drop 1)).all (fun (a, next) => a.1 < next.1) = true) (ho : Op.lookupswitch.offset ps.toList dflt x.toInt = off) (ht : (pc : Int) + off = (tgt : Int)) (h : G X σ k n tgt ls st) : G X σ k n pc ls (.int x :: st) := by
  obtain ⟨p, l', e, R', s, m, args, below, meth, c, Q, g'⟩ := X
  obtain ⟨h1, h2, h3, h4, h5, h6, h7, h8, rfl, rfl, rfl⟩ := hx
  intro H locs la hP hS hL
  exact lv_lookup h1 h2 hd hp ho ht (h H locs la hP hS hL)
theorem G.heap {σ' : Hp} {pc : Nat} (he : σ = σ') (h : G X σ' k n pc ls st) : G X σ k n pc ls st := he ▸ h
theorem G.widen {k' n' pc : Nat} (hk : k ≤ k') (hn : n ≤ n') (h : G X σ k' n' pc ls st) : G X σ k n pc ls st := by
  obtain ⟨p, l', e, R', s, m, args, below, meth, c, Q, g'⟩ := X
  intro H locs la hP hS hL
  exact W.widen hk hn (h H locs la hP hS hL)
theorem G.opn {pc a N : Nat} {xs : List Int32} (hk : σ.2 a = some (eL N xs)) (h : ∀ f, pre_ok f N xs → G X (hset σ a (eI N f)) k n pc ls st) : G X σ k n pc ls st := by
  obtain ⟨p, l', e, R', s, m, args, below, meth, c, Q, g'⟩ := X
  intro H locs la hP hS hL
  obtain ⟨f, hf, hP'⟩ := hP.opened hk
  exact h f hf H locs la hP' hS hL
theorem G.cls {pc a N : Nat} {f : Nat → Int32} {xs : List Int32} (hk : σ.2 a = some (eI N f)) (hp : pre_ok f N xs) (h : G X (hset σ a (eL N xs)) k n pc ls st) : G X σ k n pc ls st := by
  obtain ⟨p, l', e, R', s, m, args, below, meth, c, Q, g'⟩ := X
  intro H locs la hP hS hL
  exact h H locs la (hP.closed hk hp) hS hL
end GI
