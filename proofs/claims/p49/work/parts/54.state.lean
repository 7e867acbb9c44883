/-! the state of the stacks in numbers -/
abbrev Sp : Type := (Nat) × (Nat) × (Nat) × (Nat)
abbrev Sp.r (A : Sp) : Nat := A.1
abbrev Sp.f (A : Sp) : Nat := A.2.1
abbrev Sp.d (A : Sp) : Nat := A.2.2.1
abbrev Sp.t (A : Sp) : Nat := A.2.2.2
abbrev mkSp (r_ : Nat) (f_ : Nat) (d_ : Nat) (t_ : Nat) : Sp := (r_, f_, d_, t_)
abbrev AS : Type := (Nat) × (Nat) × (Nat) × (Nat) × (Nat) × (Nat) × (Nat → Nat) × (Nat → Nat) × (Nat → Nat) × (Nat → Nat) × (Nat → Nat) × (Nat → Nat) × (Nat → Nat) × (List Nat) × (List Nat) × (List Sp) × (Nat → Int32)
abbrev AS.dy (A : AS) : Nat := A.1
abbrev AS.pe (A : AS) : Nat := A.2.1
abbrev AS.hn (A : AS) : Nat := A.2.2.1
abbrev AS.lm (A : AS) : Nat := A.2.2.2.1
abbrev AS.F (A : AS) : Nat := A.2.2.2.2.1
abbrev AS.R (A : AS) : Nat := A.2.2.2.2.2.1
abbrev AS.mk (A : AS) : Nat → Nat := A.2.2.2.2.2.2.1
abbrev AS.em (A : AS) : Nat → Nat := A.2.2.2.2.2.2.2.1
abbrev AS.st (A : AS) : Nat → Nat := A.2.2.2.2.2.2.2.2.1
abbrev AS.ho (A : AS) : Nat → Nat := A.2.2.2.2.2.2.2.2.2.1
abbrev AS.le (A : AS) : Nat → Nat := A.2.2.2.2.2.2.2.2.2.2.1
abbrev AS.hv (A : AS) : Nat → Nat := A.2.2.2.2.2.2.2.2.2.2.2.1
abbrev AS.rc (A : AS) : Nat → Nat := A.2.2.2.2.2.2.2.2.2.2.2.2.1
abbrev AS.row (A : AS) : List Nat := A.2.2.2.2.2.2.2.2.2.2.2.2.2.1
abbrev AS.tr (A : AS) : List Nat := A.2.2.2.2.2.2.2.2.2.2.2.2.2.2.1
abbrev AS.sl (A : AS) : List Sp := A.2.2.2.2.2.2.2.2.2.2.2.2.2.2.2.1
abbrev AS.ac (A : AS) : Nat → Int32 := A.2.2.2.2.2.2.2.2.2.2.2.2.2.2.2.2
abbrev mkAS (dy_ : Nat) (pe_ : Nat) (hn_ : Nat) (lm_ : Nat) (F_ : Nat) (R_ : Nat) (mk_ : Nat → Nat) (em_ : Nat → Nat) (st_ : Nat → Nat) (ho_ : Nat → Nat) (le_ : Nat → Nat) (hv_ : Nat → Nat) (rc_ : Nat → Nat) (row_ : List Nat) (tr_ : List Nat) (sl_ : List Sp) (ac_ : Nat → Int32) : AS := (dy_, pe_, hn_, lm_, F_, R_, mk_, em_, st_, ho_, le_, hv_, rc_, row_, tr_, sl_, ac_)
theorem z0 {a : Nat} (h : a < 100000) : nI a = 0 ↔ a = 0 := q_eq (b := 0) h (by omega)
theorem z1 {a : Nat} (h : a < 100000) : nI a = 1 ↔ a = 1 := q_eq (b := 1) h (by omega)
theorem z2 {a : Nat} (h : a < 100000) : nI a = 2 ↔ a = 2 := q_eq (b := 2) h (by omega)
theorem z3 {a : Nat} (h : a < 100000) : nI a = 3 ↔ a = 3 := q_eq (b := 3) h (by omega)
theorem z4 {a : Nat} (h : a < 100000) : nI a = 4 ↔ a = 4 := q_eq (b := 4) h (by omega)
def hoI (h : Nat) : Int32 := nI h - 1
theorem hoI_s (r : Nat) : hoI (r + 1) = nI r := nI_pred r
theorem hoI_0 : hoI 0 = -1 := by decide
theorem hoI_eq {h r : Nat} (hh : h < 1000) (hr : r < 1000) : hoI h = nI r ↔ h = r + 1 := by
  cases h with
  | zero => rw [hoI_0]; exact ⟨fun q => absurd q.symm (q_m1 (by omega)), fun q => by omega⟩
  | succ k => rw [hoI_s, q_eq (by omega) (by omega)]; omega
theorem hoI_m1 {h : Nat} (hh : h < 1000) : hoI h = -1 ↔ h = 0 := by
  cases h with
  | zero => exact ⟨fun _ => rfl, fun _ => hoI_0⟩
  | succ k => rw [hoI_s]; exact ⟨fun q => absurd q (q_m1 (by omega)), fun q => by omega⟩
/-- a stack's heap image and the numbers that it holds; lists 8 and 9 are scratch -/
def Rel (M : StM) (A : AS) : Prop := (M.1 0 = nI A.dy) ∧ (M.1 1 = nI A.pe) ∧ (M.1 2 = nI A.hn) ∧ (M.1 3 = nI A.lm) ∧ (M.2 0 = rg A.F (fun i => nI (A.mk i))) ∧ (M.2 1 = rg A.F (fun i => nI (A.em i))) ∧ (M.2 2 = rg A.F (fun i => nI (A.st i))) ∧ (M.2 3 = rg A.F (fun i => hoI (A.ho i))) ∧ (M.2 4 = rg A.F (fun i => nI (A.le i))) ∧ (M.2 5 = rg A.R (fun i => nI (A.hv i))) ∧ (M.2 6 = rg A.R (fun i => nI (A.rc i))) ∧ (M.2 7 = ml A.row) ∧ (M.2 10 = ml A.tr) ∧ (M.2 11 = A.sl.map (fun s => nI s.r)) ∧ (M.2 12 = A.sl.map (fun s => nI s.f)) ∧ (M.2 13 = A.sl.map (fun s => nI s.d)) ∧ (M.2 14 = A.sl.map (fun s => nI s.t)) ∧ (M.2 15 = rg 11 A.ac)
theorem Rel.i0 {M : StM} {A : AS} (h : Rel M A) : M.1 0 = nI A.dy := h.1
theorem Rel.i1 {M : StM} {A : AS} (h : Rel M A) : M.1 1 = nI A.pe := h.2.1
theorem Rel.i2 {M : StM} {A : AS} (h : Rel M A) : M.1 2 = nI A.hn := h.2.2.1
theorem Rel.i3 {M : StM} {A : AS} (h : Rel M A) : M.1 3 = nI A.lm := h.2.2.2.1
theorem Rel.l0 {M : StM} {A : AS} (h : Rel M A) : M.2 0 = rg A.F (fun i => nI (A.mk i)) := h.2.2.2.2.1
theorem Rel.l1 {M : StM} {A : AS} (h : Rel M A) : M.2 1 = rg A.F (fun i => nI (A.em i)) := h.2.2.2.2.2.1
theorem Rel.l2 {M : StM} {A : AS} (h : Rel M A) : M.2 2 = rg A.F (fun i => nI (A.st i)) := h.2.2.2.2.2.2.1
theorem Rel.l3 {M : StM} {A : AS} (h : Rel M A) : M.2 3 = rg A.F (fun i => hoI (A.ho i)) := h.2.2.2.2.2.2.2.1
theorem Rel.l4 {M : StM} {A : AS} (h : Rel M A) : M.2 4 = rg A.F (fun i => nI (A.le i)) := h.2.2.2.2.2.2.2.2.1
theorem Rel.l5 {M : StM} {A : AS} (h : Rel M A) : M.2 5 = rg A.R (fun i => nI (A.hv i)) := h.2.2.2.2.2.2.2.2.2.1
theorem Rel.l6 {M : StM} {A : AS} (h : Rel M A) : M.2 6 = rg A.R (fun i => nI (A.rc i)) := h.2.2.2.2.2.2.2.2.2.2.1
theorem Rel.l7 {M : StM} {A : AS} (h : Rel M A) : M.2 7 = ml A.row := h.2.2.2.2.2.2.2.2.2.2.2.1
theorem Rel.la {M : StM} {A : AS} (h : Rel M A) : M.2 10 = ml A.tr := h.2.2.2.2.2.2.2.2.2.2.2.2.1
theorem Rel.lb {M : StM} {A : AS} (h : Rel M A) : M.2 11 = A.sl.map (fun s => nI s.r) := h.2.2.2.2.2.2.2.2.2.2.2.2.2.1
theorem Rel.lc {M : StM} {A : AS} (h : Rel M A) : M.2 12 = A.sl.map (fun s => nI s.f) := h.2.2.2.2.2.2.2.2.2.2.2.2.2.2.1
theorem Rel.ld {M : StM} {A : AS} (h : Rel M A) : M.2 13 = A.sl.map (fun s => nI s.d) := h.2.2.2.2.2.2.2.2.2.2.2.2.2.2.2.1
theorem Rel.lx {M : StM} {A : AS} (h : Rel M A) : M.2 14 = A.sl.map (fun s => nI s.t) := h.2.2.2.2.2.2.2.2.2.2.2.2.2.2.2.2.1
theorem Rel.lf {M : StM} {A : AS} (h : Rel M A) : M.2 15 = rg 11 A.ac := h.2.2.2.2.2.2.2.2.2.2.2.2.2.2.2.2.2
theorem Rel.s8 {M : StM} {A : AS} (h : Rel M A) (L : List Int32) : Rel (setL M 8 L) A :=
  ⟨h.i0, h.i1, h.i2, h.i3, h.l0, h.l1, h.l2, h.l3, h.l4, h.l5, h.l6, h.l7, h.la, h.lb, h.lc, h.ld, h.lx, h.lf⟩
theorem Rel.s9 {M : StM} {A : AS} (h : Rel M A) (L : List Int32) : Rel (setL M 9 L) A :=
  ⟨h.i0, h.i1, h.i2, h.i3, h.l0, h.l1, h.l2, h.l3, h.l4, h.l5, h.l6, h.l7, h.la, h.lb, h.lc, h.ld, h.lx, h.lf⟩
def hasS (A : AS) (r f : Nat) : Bool := A.sl.any fun s => s.r == r && s.f == f
theorem hasS_iff {A : AS} {r f : Nat} : hasS A r f = true ↔ ∃ s ∈ A.sl, s.r = r ∧ s.f = f := by
  unfold hasS
  rw [List.any_eq_true]
  constructor
  · rintro ⟨s, h1, h2⟩
    rw [Bool.and_eq_true, beq_iff_eq, beq_iff_eq] at h2
    exact ⟨s, h1, h2⟩
  · rintro ⟨s, h1, h2⟩
    exact ⟨s, h1, by rw [Bool.and_eq_true, beq_iff_eq, beq_iff_eq]; exact h2⟩
/-- what holds of each state that comes; d bounds the day and what was handed in -/
def Inv (A : AS) (d : Nat) : Prop := (0 < A.F ∧ A.F ≤ 14) ∧ (0 < A.R ∧ A.R ≤ 4) ∧ (0 < A.pe ∧ A.pe ≤ 5) ∧ (0 < A.hn ∧ A.hn ≤ 3) ∧ (0 < A.lm ∧ A.lm ≤ 3) ∧ (A.dy ≤ d) ∧ (∀ i, i < A.F → A.mk i < 1000) ∧ (∀ i j, i < A.F → j < A.F → A.mk i = A.mk j → i = j) ∧ (∀ i, i < A.F → A.em i ≤ 999) ∧ (∀ i, i < A.F → A.ho i ≤ A.R) ∧ (∀ f, f ∈ A.row ↔ f < A.F ∧ A.st f = 0) ∧ (∀ f, f ∈ A.tr ↔ f < A.F ∧ A.st f = 2) ∧ (∀ f, f < A.F → (A.st f = 1 ↔ 0 < A.ho f)) ∧ (∀ f, f < A.F → A.st f ≤ 2) ∧ (A.row.Nodup) ∧ (A.tr.Nodup) ∧ (∀ r, r < A.R → A.hv r = sm A.F (fun f => if A.ho f = r + 1 then 1 else 0)) ∧ (∀ r, r < A.R → A.hv r ≤ A.lm) ∧ (∀ s ∈ A.sl, s.r < A.R ∧ s.f < A.F ∧ s.d ≤ A.dy ∧ s.t ≤ 2 ∧ A.ho s.f ≠ s.r + 1) ∧ ((A.sl.map (fun s => (s.r, s.f))).Nodup) ∧ (A.sl.length ≤ 16)
theorem Inv.F1 {A : AS} {d : Nat} (h : Inv A d) : 0 < A.F ∧ A.F ≤ 14 := h.1
theorem Inv.R1 {A : AS} {d : Nat} (h : Inv A d) : 0 < A.R ∧ A.R ≤ 4 := h.2.1
theorem Inv.p1 {A : AS} {d : Nat} (h : Inv A d) : 0 < A.pe ∧ A.pe ≤ 5 := h.2.2.1
theorem Inv.h1 {A : AS} {d : Nat} (h : Inv A d) : 0 < A.hn ∧ A.hn ≤ 3 := h.2.2.2.1
theorem Inv.m1 {A : AS} {d : Nat} (h : Inv A d) : 0 < A.lm ∧ A.lm ≤ 3 := h.2.2.2.2.1
theorem Inv.dy {A : AS} {d : Nat} (h : Inv A d) : A.dy ≤ d := h.2.2.2.2.2.1
theorem Inv.mk {A : AS} {d : Nat} (h : Inv A d) : ∀ i, i < A.F → A.mk i < 1000 := h.2.2.2.2.2.2.1
theorem Inv.mi {A : AS} {d : Nat} (h : Inv A d) : ∀ i j, i < A.F → j < A.F → A.mk i = A.mk j → i = j := h.2.2.2.2.2.2.2.1
theorem Inv.em {A : AS} {d : Nat} (h : Inv A d) : ∀ i, i < A.F → A.em i ≤ 999 := h.2.2.2.2.2.2.2.2.1
theorem Inv.ho {A : AS} {d : Nat} (h : Inv A d) : ∀ i, i < A.F → A.ho i ≤ A.R := h.2.2.2.2.2.2.2.2.2.1
theorem Inv.rw {A : AS} {d : Nat} (h : Inv A d) : ∀ f, f ∈ A.row ↔ f < A.F ∧ A.st f = 0 := h.2.2.2.2.2.2.2.2.2.2.1
theorem Inv.tr {A : AS} {d : Nat} (h : Inv A d) : ∀ f, f ∈ A.tr ↔ f < A.F ∧ A.st f = 2 := h.2.2.2.2.2.2.2.2.2.2.2.1
theorem Inv.out {A : AS} {d : Nat} (h : Inv A d) : ∀ f, f < A.F → (A.st f = 1 ↔ 0 < A.ho f) := h.2.2.2.2.2.2.2.2.2.2.2.2.1
theorem Inv.s2 {A : AS} {d : Nat} (h : Inv A d) : ∀ f, f < A.F → A.st f ≤ 2 := h.2.2.2.2.2.2.2.2.2.2.2.2.2.1
theorem Inv.rn {A : AS} {d : Nat} (h : Inv A d) : A.row.Nodup := h.2.2.2.2.2.2.2.2.2.2.2.2.2.2.1
theorem Inv.tn {A : AS} {d : Nat} (h : Inv A d) : A.tr.Nodup := h.2.2.2.2.2.2.2.2.2.2.2.2.2.2.2.1
theorem Inv.hv {A : AS} {d : Nat} (h : Inv A d) : ∀ r, r < A.R → A.hv r = sm A.F (fun f => if A.ho f = r + 1 then 1 else 0) := h.2.2.2.2.2.2.2.2.2.2.2.2.2.2.2.2.1
theorem Inv.hl {A : AS} {d : Nat} (h : Inv A d) : ∀ r, r < A.R → A.hv r ≤ A.lm := h.2.2.2.2.2.2.2.2.2.2.2.2.2.2.2.2.2.1
theorem Inv.sl {A : AS} {d : Nat} (h : Inv A d) : ∀ s ∈ A.sl, s.r < A.R ∧ s.f < A.F ∧ s.d ≤ A.dy ∧ s.t ≤ 2 ∧ A.ho s.f ≠ s.r + 1 := h.2.2.2.2.2.2.2.2.2.2.2.2.2.2.2.2.2.2.1
theorem Inv.sn {A : AS} {d : Nat} (h : Inv A d) : (A.sl.map (fun s => (s.r, s.f))).Nodup := h.2.2.2.2.2.2.2.2.2.2.2.2.2.2.2.2.2.2.2.1
theorem Inv.sc {A : AS} {d : Nat} (h : Inv A d) : A.sl.length ≤ 16 := h.2.2.2.2.2.2.2.2.2.2.2.2.2.2.2.2.2.2.2.2
def Acc (A : AS) (d : Nat) : Prop := ∃ n w h : Nat, sm A.F A.le = n ∧ sm A.R A.rc = n ∧ A.ac 4 = nI n ∧ A.ac 6 = nI w ∧ A.ac 3 = nI h ∧ w ≤ n ∧ n + A.sl.length ≤ h ∧ h ≤ d
theorem Acc.wide {A : AS} {d d' : Nat} (h : Acc A d) (hd : d ≤ d') : Acc A d' := by
  obtain ⟨n, w, k, h1, h2, h3, h4, h5, h6, h7, h8⟩ := h
  exact ⟨n, w, k, h1, h2, h3, h4, h5, h6, h7, Nat.le_trans h8 hd⟩
theorem Inv.wide {A : AS} {d d' : Nat} (h : Inv A d) (hd : d ≤ d') : Inv A d' :=
  ⟨h.F1, h.R1, h.p1, h.h1, h.m1, (Nat.le_trans h.dy hd), h.mk, h.mi, h.em, h.ho, h.rw, h.tr, h.out, h.s2, h.rn, h.tn, h.hv, h.hl, h.sl, h.sn, h.sc⟩
/-- as many as stand in a list without doubles -/
theorem nd_len {P : Nat → Bool} : ∀ {n : Nat} {l : List Nat}, l.Nodup → (∀ f, f ∈ l ↔ f < n ∧ P f = true) → l.length = sm n (fun f => if P f = true then 1 else 0) := by
  intro n
  induction n with
  | zero =>
    intro l hn hm
    cases l with
    | nil => rfl
    | cons x l => exact absurd ((hm x).mp List.mem_cons_self).1 (Nat.not_lt_zero _)
  | succ n ih =>
    intro l hn hm
    show _ = sm n _ + (if P n = true then 1 else 0)
    have h1 := ih (l := l.erase n) (hn.erase n) (fun f => by
      rw [hn.mem_erase_iff, hm f]
      constructor
      · rintro ⟨a, b, c⟩; exact ⟨by omega, c⟩
      · rintro ⟨a, b⟩; exact ⟨by omega, by omega, b⟩)
    by_cases h : n ∈ l
    · rw [if_pos ((hm n).mp h).2, ← h1, List.length_erase_of_mem h]
      have := List.length_pos_of_mem h
      omega
    · rw [if_neg (fun q => h ((hm n).mpr ⟨by omega, q⟩)), ← h1, List.erase_of_not_mem h, Nat.add_zero]
section InvS
variable {A : AS} {d : Nat}
theorem Inv.rlen (h : Inv A d) : A.row.length = sm A.F (fun f => if A.st f = 0 then 1 else 0) := by
  rw [nd_len (P := fun f => A.st f == 0) (n := A.F) h.rn (fun f => by rw [h.rw f, beq_iff_eq])]
  exact sm_congr fun f _ => by simp
theorem Inv.tlen (h : Inv A d) : A.tr.length = sm A.F (fun f => if A.st f = 2 then 1 else 0) := by
  rw [nd_len (P := fun f => A.st f == 2) (n := A.F) h.tn (fun f => by rw [h.tr f, beq_iff_eq])]
  exact sm_congr fun f _ => by simp
theorem sm_1 (n : Nat) : sm n (fun _ => 1) = n := by
  induction n with
  | zero => rfl
  | succ n ih => show sm n (fun _ => 1) + 1 = n + 1; rw [ih]
theorem Inv.all (h : Inv A d) : A.row.length + sm A.F (fun f => if A.st f = 1 then 1 else 0) + A.tr.length = A.F := by
  rw [h.rlen, h.tlen, ← sm_add, ← sm_add]
  conv => rhs; rw [← sm_1 A.F]
  exact sm_congr fun f hf => by
    have := h.s2 f hf
    rcases (show A.st f = 0 ∨ A.st f = 1 ∨ A.st f = 2 by omega) with e | e | e <;> simp [e]
theorem Inv.rl (h : Inv A d) : A.row.length ≤ 14 := by have := h.all; have := h.F1; omega
theorem Inv.tl (h : Inv A d) : A.tr.length ≤ 14 := by have := h.all; have := h.F1; omega
theorem Inv.rb (h : Inv A d) : B5 A.row := fun f hf => by have := ((h.rw f).mp hf).1; have := h.F1; omega
theorem Inv.tb (h : Inv A d) : B5 A.tr := fun f hf => by have := ((h.tr f).mp hf).1; have := h.F1; omega
theorem Inv.hd (h : Inv A d) (i : Nat) (hi : i < A.F) : A.ho i < 1000 := by have := h.ho i hi; have := h.R1; omega
/-- who has a folder, summed: all that are out -/
theorem sm_swap : ∀ (n m : Nat) (g : Nat → Nat → Nat), sm n (fun i => sm m (fun j => g i j)) = sm m (fun j => sm n (fun i => g i j)) := by
  intro n
  induction n with
  | zero => intro m g; exact (sm_0 m).symm
  | succ n ih =>
    intro m g
    show sm n (fun i => sm m (fun j => g i j)) + sm m (fun j => g n j) = sm m (fun j => sm n (fun i => g i j) + g n j)
    rw [ih m g, ← sm_add]
theorem Inv.outs (h : Inv A d) : sm A.R A.hv = sm A.F (fun f => if A.st f = 1 then 1 else 0) := by
  rw [sm_congr (g' := fun r => sm A.F (fun f => if A.ho f = r + 1 then 1 else 0)) h.hv, sm_swap]
  refine sm_congr fun f hf => ?_
  have h1 := h.out f hf; have h2 := h.ho f hf
  by_cases h0 : A.ho f = 0
  · rw [if_neg (by rw [h1]; omega)]
    exact sm_z' fun r _ => if_neg (by omega)
  · rw [if_pos (h1.mpr (by omega))]
    rw [sm_congr (g' := fun r => if r = A.ho f - 1 then 1 else 0) (fun r _ => by
      by_cases hr : r = A.ho f - 1
      · rw [if_pos hr, if_pos (by omega)]
      · rw [if_neg hr, if_neg (by omega)])]
    exact sm_one (by omega) 1
end InvS
/-! what the stacks answer -/
section Q
variable {M : StM} {A : AS} {d : Nat}
theorem Rel.rm (h : Rel M A) (hI : Inv A d) : RM M A.mk A.row := by
  refine ⟨h.l7, by have := hI.rl; omega, hI.rb, fun f hf => ?_⟩
  have h1 := ((hI.rw f).mp hf).1
  rw [h.l0, lg_rg _ h1 (by have := hI.F1; omega)]
  exact ⟨rfl, by have := hI.mk f h1; omega⟩
theorem Rel.g0 (h : Rel M A) (hI : Inv A d) {f : Nat} (hf : f < A.F) : lnget (M.2 0) (nI f) = nI (A.mk f) := by rw [h.l0, lg_rg _ hf (by have := hI.F1; omega)]
theorem Rel.g1 (h : Rel M A) (hI : Inv A d) {f : Nat} (hf : f < A.F) : lnget (M.2 1) (nI f) = nI (A.em f) := by rw [h.l1, lg_rg _ hf (by have := hI.F1; omega)]
theorem Rel.g2 (h : Rel M A) (hI : Inv A d) {f : Nat} (hf : f < A.F) : lnget (M.2 2) (nI f) = nI (A.st f) := by rw [h.l2, lg_rg _ hf (by have := hI.F1; omega)]
theorem Rel.g3 (h : Rel M A) (hI : Inv A d) {f : Nat} (hf : f < A.F) : lnget (M.2 3) (nI f) = hoI (A.ho f) := by rw [h.l3, lg_rg _ hf (by have := hI.F1; omega)]
theorem Rel.g4 (h : Rel M A) (hI : Inv A d) {f : Nat} (hf : f < A.F) : lnget (M.2 4) (nI f) = nI (A.le f) := by rw [h.l4, lg_rg _ hf (by have := hI.F1; omega)]
theorem Rel.g5 (h : Rel M A) (hI : Inv A d) {r : Nat} (hr : r < A.R) : lnget (M.2 5) (nI r) = nI (A.hv r) := by rw [h.l5, lg_rg _ hr (by have := hI.R1; omega)]
theorem Rel.g6 (h : Rel M A) (hI : Inv A d) {r : Nat} (hr : r < A.R) : lnget (M.2 6) (nI r) = nI (A.rc r) := by rw [h.l6, lg_rg _ hr (by have := hI.R1; omega)]
theorem Rel.gb (h : Rel M A) (hI : Inv A d) {p : Nat} {s : Sp} (hp : A.sl[p]? = some s) : lnget (M.2 11) (nI p) = nI s.r := by rw [h.lb]; exact lg_some hp (by have := hI.sc; omega)
theorem Rel.gc (h : Rel M A) (hI : Inv A d) {p : Nat} {s : Sp} (hp : A.sl[p]? = some s) : lnget (M.2 12) (nI p) = nI s.f := by rw [h.lc]; exact lg_some hp (by have := hI.sc; omega)
theorem Rel.gd (h : Rel M A) (hI : Inv A d) {p : Nat} {s : Sp} (hp : A.sl[p]? = some s) : lnget (M.2 13) (nI p) = nI s.d := by rw [h.ld]; exact lg_some hp (by have := hI.sc; omega)
theorem Rel.gx (h : Rel M A) (hI : Inv A d) {p : Nat} {s : Sp} (hp : A.sl[p]? = some s) : lnget (M.2 14) (nI p) = nI s.t := by rw [h.lx]; exact lg_some hp (by have := hI.sc; omega)
theorem Rel.gf (h : Rel M A) {k : Nat} (hk : k < 11) : lnget (M.2 15) (nI k) = A.ac k := by rw [h.lf, lg_rg _ hk (by omega)]
theorem Rel.n0 (h : Rel M A) : (M.2 0).length = A.F := by rw [h.l0, rg_len]
theorem Rel.n5 (h : Rel M A) : (M.2 5).length = A.R := by rw [h.l5, rg_len]
theorem Rel.n7 (h : Rel M A) : (M.2 7).length = A.row.length := by rw [h.l7, ml_len]
theorem Rel.na (h : Rel M A) : (M.2 10).length = A.tr.length := by rw [h.la, ml_len]
theorem Rel.nb (h : Rel M A) : (M.2 11).length = A.sl.length := by rw [h.lb, List.length_map]
theorem sp_at {p : Nat} {s : Sp} (hI : Inv A d) (hp : A.sl[p]? = some s) : p < A.sl.length ∧ s.r < A.R ∧ s.f < A.F ∧ s.d ≤ A.dy ∧ s.t ≤ 2 ∧ A.ho s.f ≠ s.r + 1 :=
  ⟨(List.getElem?_eq_some_iff.mp hp).1, hI.sl s (List.mem_of_getElem? hp)⟩
theorem sp_ex {p : Nat} (hp : p < A.sl.length) : ∃ s, A.sl[p]? = some s := ⟨_, List.getElem?_eq_getElem hp⟩
theorem e_hasF (h : Rel M A) (hI : Inv A d) {f : Nat} (hf : f < A.F) : St_hasFolder M (nI f) = 1 := by
  have := hI.F1
  unfold St_hasFolder
  rw [if_neg (q_neg (by omega)), h.n0, if_neg (fun q => by have := (q_le (by omega) (by omega)).mp q; omega)]
theorem e_hasR (h : Rel M A) (hI : Inv A d) {r : Nat} (hr : r < A.R) : St_hasReader M (nI r) = 1 := by
  have := hI.R1
  unfold St_hasReader
  rw [if_neg (q_neg (by omega)), h.n5, if_neg (fun q => by have := (q_le (by omega) (by omega)).mp q; omega)]
theorem e_slHas (h : Rel M A) (hI : Inv A d) {p : Nat} (hp : p < 1000) : Sl_has M (nI p) = if p < A.sl.length then 1 else 0 := by
  have := hI.sc
  unfold Sl_has
  rw [if_neg (q_neg (by omega)), h.nb]
  by_cases h1 : p < A.sl.length
  · rw [if_pos h1, if_neg (fun q => by have := (q_le (by omega) (by omega)).mp q; omega)]
  · rw [if_neg h1, if_pos ((q_le (by omega) (by omega)).mpr (by omega))]
theorem e_cnt_sl (h : Rel M A) : Sl_count M = nI A.sl.length := by unfold Sl_count; rw [h.nb]
theorem e_closed (h : Rel M A) (hI : Inv A d) (hd : d ≤ 1000) {f : Nat} (hf : f < A.F) : St_isClosed M (nI f) = if A.dy < A.em f then 1 else 0 := by
  have := hI.em f hf; have := hI.dy
  unfold St_isClosed
  rw [h.g1 hI hf, h.i0]
  by_cases h1 : A.dy < A.em f
  · rw [if_pos h1, if_neg (fun q => by have := (q_le (by omega) (by omega)).mp q; omega)]
  · rw [if_neg h1, if_pos ((q_le (by omega) (by omega)).mpr (by omega))]
def whA (A : AS) (f : Nat) : Int32 := if A.st f = 0 then nI (A.row.idxOf f) else if A.st f = 2 then nI (A.tr.idxOf f) else hoI (A.ho f)
theorem e_where (h : Rel M A) (hI : Inv A d) {f : Nat} (hf : f < A.F) : St_whereabouts M (nI f) = whA A f := by
  have := hI.s2 f hf; have := hI.F1
  unfold St_whereabouts whA
  rw [h.g2 hI hf, h.l7, h.la, lp_ml hI.rb (by omega), lp_ml hI.tb (by omega), h.g3 hI hf]
  by_cases h0 : A.st f = 0
  · rw [if_pos h0, if_pos (by rw [h0]; rfl), if_pos ((hI.rw f).mpr ⟨hf, h0⟩)]
  · rw [if_neg h0, if_neg (fun q => h0 ((z0 (by omega)).mp q))]
    by_cases h2 : A.st f = 2
    · rw [if_pos h2, if_pos (by rw [h2]; rfl), if_pos ((hI.tr f).mpr ⟨hf, h2⟩)]
    · rw [if_neg h2, if_neg (fun q => h2 ((z2 (by omega)).mp q))]
theorem e_refDay (h : Rel M A) (hI : Inv A d) (hd : d ≤ 2000) : St_isRefilingDay M = if A.dy % A.pe = 0 then 1 else 0 := by
  have := hI.p1; have := hI.dy
  unfold St_isRefilingDay
  rw [h.i0, h.i1, if_neg (fun q => by have := (q_le (b := 0) (by omega) (by omega)).mp q; omega), pk_div (by omega) (by omega) (by omega), show nI (A.dy / A.pe) * nI A.pe = nI (A.dy / A.pe * A.pe) from (Int32.ofNat_mul _ _).symm, pk_sub (Nat.div_mul_le_self _ _)]
  have h1 := Nat.div_add_mod A.dy A.pe
  rw [Nat.mul_comm] at h1
  rw [show A.dy - A.dy / A.pe * A.pe = A.dy % A.pe by omega]
  have h2 := Nat.mod_lt A.dy hI.p1.1
  by_cases h0 : A.dy % A.pe = 0
  · rw [if_pos h0, h0]; rfl
  · rw [if_neg h0, if_neg (fun q => h0 ((z0 (by omega)).mp q))]
theorem e_toRef (h : Rel M A) (hI : Inv A d) (hd : d ≤ 2000) : St_daysToRefiling M = nI (A.pe - A.dy % A.pe) := by
  have := hI.p1; have := hI.dy
  unfold St_daysToRefiling
  rw [h.i0, h.i1, if_neg (fun q => by have := (q_le (b := 0) (by omega) (by omega)).mp q; omega), pk_div (by omega) (by omega) (by omega), show nI (A.dy / A.pe) * nI A.pe = nI (A.dy / A.pe * A.pe) from (Int32.ofNat_mul _ _).symm, pk_sub (Nat.div_mul_le_self _ _)]
  have h1 := Nat.div_add_mod A.dy A.pe
  rw [Nat.mul_comm] at h1
  have h2 := Nat.mod_lt A.dy hI.p1.1
  rw [show A.dy - A.dy / A.pe * A.pe = A.dy % A.pe by omega, pk_sub (by omega)]
def idlA (A : AS) (s : Sp) : Nat := if A.st s.f = 1 then 1 else if A.st s.f = 2 then 2 else if A.dy < A.em s.f then 3 else if A.hv s.r < A.lm then 0 else 4
theorem e_idle (h : Rel M A) (hI : Inv A d) (hd : d ≤ 1000) {p : Nat} {s : Sp} (hp : A.sl[p]? = some s) : St_idleness M (nI p) = nI (idlA A s) := by
  obtain ⟨-, hr, hf, -⟩ := sp_at hI hp
  have := hI.s2 s.f hf; have := hI.hl s.r hr; have := hI.m1
  unfold St_idleness idlA
  simp only [lt']
  rw [h.gc hI hp, h.gb hI hp, h.g2 hI hf, h.g5 hI hr, h.i3, e_closed h hI hd hf]
  by_cases h1 : A.st s.f = 1
  · rw [if_pos h1, if_pos (by rw [h1]; rfl)]; rfl
  · rw [if_neg h1, if_neg (fun q => h1 ((z1 (by omega)).mp q))]
    by_cases h2 : A.st s.f = 2
    · rw [if_pos h2, if_pos (by rw [h2]; rfl)]; rfl
    · rw [if_neg h2, if_neg (fun q => h2 ((z2 (by omega)).mp q))]
      by_cases h3 : A.dy < A.em s.f
      · rw [if_pos h3, if_pos h3, if_neg (by decide)]; rfl
      · rw [if_neg h3, if_neg h3, if_pos rfl]
        by_cases h4 : A.hv s.r < A.lm
        · rw [if_pos h4, if_pos ((q_lt (by omega) (by omega)).mpr h4)]; rfl
        · rw [if_neg h4, if_neg (fun q => h4 ((q_lt (by omega) (by omega)).mp q))]; rfl
/-- the first slip of a reader for a folder -/
theorem w_pf (h : Rel M A) (hI : Inv A d) {r f : Nat} (hr : r < 1000) (hf : f < 1000) : ∀ (i fuel k : Nat), k + i = A.sl.length → i < fuel → (∀ q s, q < k → A.sl[q]? = some s → ¬ (s.r = r ∧ s.f = f)) → (hasS A r f = false ∧ Sl_placeFor_L2 M fuel (nI r) (nI f) (nI k) = some (-1)) ∨ (∃ p s, A.sl[p]? = some s ∧ s.r = r ∧ s.f = f ∧ Sl_placeFor_L2 M fuel (nI r) (nI f) (nI k) = some (nI p)) := by
  intro i
  induction i with
  | zero =>
    intro fuel k hk hfu hno
    obtain ⟨fuel, rfl⟩ : ∃ k, fuel = k + 1 := ⟨fuel - 1, by omega⟩
    refine Or.inl ⟨?_, ?_⟩
    · cases e : hasS A r f with
      | false => rfl
      | true =>
        obtain ⟨s, hs, h1⟩ := hasS_iff.mp e
        obtain ⟨q, hq, e2⟩ := List.mem_iff_getElem.mp hs
        exact absurd h1 (hno q s (by omega) (by rw [List.getElem?_eq_getElem hq, e2]))
    · unfold Sl_placeFor_L2
      rw [h.nb, if_pos (show nI A.sl.length ≤ nI k from by rw [show k = A.sl.length by omega]; exact Int32.le_refl _)]
  | succ i ih =>
    intro fuel k hk hfu hno
    obtain ⟨fuel, rfl⟩ : ∃ k, fuel = k + 1 := ⟨fuel - 1, by omega⟩
    have hc := hI.sc
    obtain ⟨s, hs⟩ := sp_ex (A := A) (p := k) (by omega)
    obtain ⟨-, h1, h2, -⟩ := sp_at hI hs
    have := hI.F1; have := hI.R1
    unfold Sl_placeFor_L2
    rw [h.nb, if_neg (nI_ge (by omega) (by omega)), h.gb hI hs, h.gc hI hs, nI_1]
    by_cases he : s.r = r ∧ s.f = f
    · rw [if_pos (by rw [he.1]), if_pos (by rw [he.2])]
      exact Or.inr ⟨k, s, hs, he.1, he.2, rfl⟩
    · have hn := ih fuel (k + 1) (by omega) (by omega) (fun q t hq ht => by
        by_cases hqk : q = k
        · subst hqk; rw [hs] at ht; cases ht; exact he
        · exact hno q t (by omega) ht)
      by_cases h3 : s.r = r
      · rw [if_pos (by rw [h3]), if_neg (fun q => he ⟨h3, (q_eq (by omega) (by omega)).mp q⟩)]; exact hn
      · rw [if_neg (fun q => h3 ((q_eq (by omega) (by omega)).mp q))]; exact hn
theorem e_pf (h : Rel M A) (hI : Inv A d) {r f : Nat} (hr : r < 1000) (hf : f < 1000) : (hasS A r f = false ∧ Sl_placeFor M (nI r) (nI f) = some (-1)) ∨ (∃ p s, A.sl[p]? = some s ∧ s.r = r ∧ s.f = f ∧ Sl_placeFor M (nI r) (nI f) = some (nI p)) :=
  w_pf h hI hr hf A.sl.length FU 0 (Nat.zero_add _) (by have := hI.sc; unfold FU; omega) (fun q s hq => absurd hq (Nat.not_lt_zero _))
theorem sl_inj (hI : Inv A d) {p q : Nat} {s t : Sp} (hp : A.sl[p]? = some s) (hq : A.sl[q]? = some t) (h1 : s.r = t.r) (h2 : s.f = t.f) : p = q := by
  have e1 : (A.sl.map (fun s => (s.r, s.f)))[p]? = some (s.r, s.f) := by rw [List.getElem?_map, hp]; rfl
  have e2 : (A.sl.map (fun s => (s.r, s.f)))[q]? = some (s.r, s.f) := by rw [List.getElem?_map, hq, h1, h2]; rfl
  have hl : p < (A.sl.map (fun s => (s.r, s.f))).length := by rw [List.length_map]; exact (sp_at hI hp).1
  exact (List.getElem?_inj hl hI.sn).mp (e1.trans e2.symm)
theorem e_pf_at (h : Rel M A) (hI : Inv A d) {p : Nat} {s : Sp} (hp : A.sl[p]? = some s) : Sl_placeFor M (nI s.r) (nI s.f) = some (nI p) := by
  obtain ⟨-, h1, h2, -⟩ := sp_at hI hp
  have := hI.F1; have := hI.R1
  rcases e_pf h hI (r := s.r) (f := s.f) (by omega) (by omega) with ⟨h3, -⟩ | ⟨q, t, hq, h3, h4, h5⟩
  · rw [hasS_iff.mpr ⟨s, List.mem_of_getElem? hp, rfl, rfl⟩] at h3; cases h3
  · rw [h5, sl_inj hI hq hp h3 h4]
theorem e_pf_no (h : Rel M A) (hI : Inv A d) {r f : Nat} (hr : r < 1000) (hf : f < 1000) (hn : hasS A r f = false) : Sl_placeFor M (nI r) (nI f) = some (-1) := by
  rcases e_pf h hI hr hf with ⟨-, h1⟩ | ⟨p, s, hp, h1, h2, -⟩
  · exact h1
  · rw [hasS_iff.mpr ⟨s, List.mem_of_getElem? hp, h1, h2⟩] at hn; cases hn
def refA (A : AS) (r f : Nat) : Int32 := if A.ho f = r + 1 then -2 else if hasS A r f = true then -3 else if A.sl.length < 16 then 0 else -4
theorem e_ref (h : Rel M A) (hI : Inv A d) {r f : Nat} (hr : r < A.R) (hf : f < A.F) : St_refusal M (nI r) (nI f) = some (refA A r f) := by
  have := hI.F1; have := hI.R1; have := hI.sc
  unfold St_refusal refA
  rw [e_hasR h hI hr, e_hasF h hI hf, if_neg (by decide), if_neg (by decide), h.g3 hI hf]
  by_cases h1 : A.ho f = r + 1
  · rw [if_pos h1, if_pos ((hoI_eq (hI.hd f hf) (by omega)).mpr h1)]
  · rw [if_neg h1, if_neg (fun q => h1 ((hoI_eq (hI.hd f hf) (by omega)).mp q))]
    rcases e_pf h hI (r := r) (f := f) (by omega) (by omega) with ⟨h2, h3⟩ | ⟨p, s, hp, h2, h3, h4⟩
    · rw [h3, h2]
      simp only [Option.bind_some]
      rw [if_pos True.intro, if_neg (show ¬ false = true by decide), e_cnt_sl h]
      by_cases h5 : A.sl.length < 16
      · rw [if_pos h5, if_pos (show nI A.sl.length < 16 from (q_lt (b := 16) (by omega) (by omega)).mpr h5)]
      · rw [if_neg h5, if_neg (show ¬ nI A.sl.length < 16 from fun q => h5 ((q_lt (b := 16) (by omega) (by omega)).mp q))]
    · rw [h4, hasS_iff.mpr ⟨s, List.mem_of_getElem? hp, h2, h3⟩]
      simp only [Option.bind_some]
      rw [if_neg (q_m1 (by have := (sp_at hI hp).1; omega)), if_pos True.intro]
end Q
