/-! a script is done (reference) -/
def PZr (N a k : Nat) : Prop := PYr N a k ∨ a = N + 263 ∨ a = N + 264
section R89
variable {sa sv d N B p p' : Nat} {m m' : am_M} {s g : Nat → Int32} {q : Nat → Int64} {x : Ins} {t : EX} {C A Z : List Ins}
theorem PZr.xf {a k : Nat} (h : PZr N a k) : XF N a k := by
  rcases h with h | h
  · exact h.xf
  · exact XF.hi (by omega)
theorem PYr.n {a k : Nat} (h : PYr N a k) : ¬ a = N + 260 ∧ ¬ a = N + 261 ∧ ¬ a = N + 262 ∧ ¬ (a = N + 243 ∧ k = 39) ∧ ¬ a = N + 263 ∧ ¬ a = N + 264 := by
  unfold PYr RXB RX RB at h
  omega
theorem CdR.fr {P : Nat → Nat → Prop} (h : CdR m N C) (hf : Fr P m m') (hp : ∀ a k, P a k → ¬ a = N + 260 ∧ ¬ a = N + 261 ∧ ¬ a = N + 262 ∧ ¬ (a = N + 243 ∧ k = 39)) : CdR m' N C := ⟨(hf.2.1 _ _ (fun z => (hp _ _ z).2.2.2 ⟨rfl, rfl⟩)).trans h.1, fun k x hx => by
  obtain ⟨g0, g1, g2⟩ := h.2 k x hx
  exact ⟨(hf.2.1 _ _ (fun z => (hp _ _ z).1 rfl)).trans g0, fun z z2 => (hf.2.1 _ _ (fun z => (hp _ _ z).2.1 rfl)).trans (g1 z z2), fun z => (hf.2.1 _ _ (fun z => (hp _ _ z).2.2.1 rfl)).trans (g2 z)⟩⟩
/-- a reference that does a script -/
def YY (m : am_M) (N B : Nat) (s : Nat → Int32) (C : List Ins) (t : EX) : Prop := RS m N t.1 t.2.1 ∧ EG B s t ∧ CdR m N C ∧ C.length ≤ 60 ∧ gi_ m (N + 243) 0 = nI 0
theorem ex40_O (h : 40 ≤ t.2.2) : exO x t = (false, t) := if_pos h
theorem ex40_L {α : Type} {f : α → EX → Bool × EX} (hf : ∀ x t, 40 ≤ t.2.2 → (f x t).2 = t) : ∀ (l : List α) (t : EX), 40 ≤ t.2.2 → (exL f l t).2 = t := by
  intro l
  induction l with
  | nil => intro t _; rfl
  | cons x l ih =>
    intro t h
    have e : exL f (x :: l) t = bif (f x t).1 then exL f l (f x t).2 else (false, (f x t).2) := rfl
    rw [e, hf x t h]
    cases (f x t).1 with
    | false => rfl
    | true => exact ih t h
theorem ex40_R {f : EX → Bool × EX} (hf : ∀ t, 40 ≤ t.2.2 → (f t).2 = t) : ∀ (n : Nat) (t : EX), 40 ≤ t.2.2 → (exR f n t).2 = t := by
  intro n
  induction n with
  | zero => intro t _; rfl
  | succ n ih =>
    intro t h
    have e : exR f (n + 1) t = bif (f t).1 then exR f n (f t).2 else (false, (f t).2) := rfl
    rw [e, hf t h]
    cases (f t).1 with
    | false => rfl
    | true => exact ih t h
theorem ex40_I : ∀ (k : Nat) (x : Cm k) (t : EX), 40 ≤ t.2.2 → (exI k x t).2 = t := by
  intro k
  induction k with
  | zero => intro x t h; exact congrArg Prod.snd (ex40_O (x := x) h)
  | succ k ih =>
    intro x t h
    cases x with
    | inl x => exact congrArg Prod.snd (ex40_O (x := x) h)
    | inr x => exact ex40_R (fun t h => ex40_L ih x.2 t h) x.1 t h
/-- the reference at place pc, so many repeats deep -/
noncomputable def rst (sa sv D : Nat) (N : Nat) (t : EX) (inner pc : Nat) (m : am_M) (o5 : Option Value) : Option am_R := r354 sa sv D 9 [some (.ref (N + 243)), some (.int (nI t.2.2)), some (.int (nI inner)), some (.int (nI pc)), some (.int (nI 1)), o5] [] m
/-- how the reference leaves a part of the code -/
def OuR (sa sv D N B : Nat) (s : Nat → Int32) (C : List Ins) (inner pc : Nat) (m : am_M) (r : Option am_R) (y : Bool × EX) : Prop := (∃ m' o5, y.1 = true ∧ r = rst sa sv D N y.2 inner pc m' o5 ∧ Fr (PZr N) m m' ∧ YY m' N B s C y.2 ∧ ∀ i, i < inner → gi_ m' (N + 263) i = gi_ m (N + 263) i ∧ gi_ m' (N + 264) i = gi_ m (N + 264) i) ∨ ∃ m', (y.1 = false ∨ 40 ≤ y.2.2.2) ∧ r = some (.inl (some (.int (nI y.2.2.2))), m') ∧ Fr (PZr N) m m' ∧ YY m' N B s C y.2
theorem rst_40 (h : YY m N B s C t) (h40 : 40 ≤ t.2.2) (inner pc : Nat) (hpc : pc ≤ 60) (o5 : Option Value) : rst sa sv d N t inner pc m o5 = some (.inl (some (.int (nI t.2.2))), m) := by
  have hX := h.1.1
  have t40 := h.2.1.2.1
  have c60 := h.2.2.2.1
  have n10 : (nI 1 = 0) = False := eq_false (by decide)
  unfold rst
  rw [b354_9]
  simp (disch := omega) only [gq_true, gb_true, gb_false, true_and, and_true, eq_self, not_false_eq_true, not_true_eq_false, true_or, or_true, false_or, or_false, false_and, and_false, c0_v, ci_v, cl_v, cf_v, pk_mul, nI_add, nI_clamp, nI_lt0, nI_0le, nI_eq0, nI_lt0r, nI_ltE, nI_leE, nI_eqE, nI_m1, in_t, ba0, ba1, Nat.one_ne_zero, Nat.reduceEqDiff, Nat.reduceLeDiff, Nat.add_eq_zero_iff, n10, xk243 hX, h.2.2.1.1, h40, gb_same]
theorem rst_end (h : YY m N B s C t) (inner : Nat) (o5 : Option Value) : rst sa sv d N t inner C.length m o5 = some (.inl (some (.int (nI t.2.2))), m) := by
  have hX := h.1.1
  have c60 := h.2.2.2.1
  have n10 : (nI 1 = 0) = False := eq_false (by decide)
  unfold rst
  rw [b354_9]
  simp (disch := omega) only [gq_true, gb_true, gb_false, true_and, and_true, eq_self, not_false_eq_true, not_true_eq_false, true_or, or_true, false_or, or_false, false_and, and_false, c0_v, ci_v, cl_v, cf_v, pk_mul, nI_add, nI_clamp, nI_lt0, nI_0le, nI_eq0, nI_lt0r, nI_ltE, nI_leE, nI_eqE, nI_m1, in_t, ba0, ba1, Nat.one_ne_zero, Nat.reduceEqDiff, Nat.reduceLeDiff, Nat.add_eq_zero_iff, n10, xk243 hX, h.2.2.1.1, Nat.le_refl]
/-- a plain command -/
theorem rst_op (h : YY m N B s C t) (hB : B + 40 < 2 ^ 29) (hx : InG s x) (pc inner : Nat) (hc : C[pc]? = some x) (o5 : Option Value) : OuR sa sv (d + 7) N B s C inner (pc + 1) m (rst sa sv (d + 7) N t inner pc m o5) (exO x t) := by
  have hX := h.1.1
  have c60 := h.2.2.2.1
  have hpc : pc < C.length := by
    rcases Nat.lt_or_ge pc C.length with z | z
    · exact z
    · rw [List.getElem?_eq_none z] at hc
      cases hc
  by_cases h40 : 40 ≤ t.2.2
  · rw [ex40_O h40]
    exact Or.inr ⟨m, Or.inl rfl, rst_40 h h40 inner pc (by omega) o5, Fr.refl _ _, h⟩
  · obtain ⟨hR, hE, hC, -, h00⟩ := h
    obtain ⟨g0, g1, g2⟩ := hC.2 pc x hc
    have hx' := hx.cg hE.2.2.1 hE.2.2.2
    have rk : ¬ rkd x.1 = 5 ∧ ¬ rkd x.1 = 6 ∧ rkd x.1 < 10 := by
      unfold InG at hx
      unfold rkd
      (repeat' split) <;> omega
    have n6 : ¬ x.1 = 6 := by unfold InG at hx; omega
    have c := y352 (sa := sa) (sv := sv) (d := d) hR hE.1 (by have := hE.2.1; omega) hx' (gi_ m (N + 261) pc) (gi_ m (N + 262) pc) (fun z => g1 z n6) g2
    have n10 : (nI 1 = 0) = False := eq_false (by decide)
    have z260 : (N + 260 = 0) = False := eq_false (by omega)
    have z261 : (N + 261 = 0) = False := eq_false (by omega)
    have z262 : (N + 262 = 0) = False := eq_false (by omega)
    have EGn := exO_G (x := x) hE hB hx
    unfold exO at EGn ⊢
    rw [if_neg h40] at EGn ⊢
    cases y : dO x t.1 t.2.1 with
    | none =>
      rw [y] at c
      have c' : am_ca sa sv (d + 7) 352 [.ref (N + 243), .int (nI (rkd x.1)), .int (gi_ m (N + 261) pc), .int (gi_ m (N + 262) pc)] m = some (.inl (some (.int (nI 0))), m) := c
      refine Or.inr ⟨m, Or.inl rfl, ?_, Fr.refl _ _, hR, hE, hC, c60, h00⟩
      unfold rst
      rw [b354_9]
      simp (disch := omega) only [gq_true, gb_true, gb_false, true_and, and_true, eq_self, not_false_eq_true, not_true_eq_false, true_or, or_true, false_or, or_false, false_and, and_false, c0_v, ci_v, cl_v, cf_v, pk_mul, nI_add, nI_clamp, nI_lt0, nI_0le, nI_eq0, nI_lt0r, nI_ltE, nI_leE, nI_eqE, nI_m1, in_t, ba0, ba1, Nat.one_ne_zero, Nat.reduceEqDiff, Nat.reduceLeDiff, Nat.add_eq_zero_iff, n10, xk243 hX, hC.1, eq_false (show ¬ C.length ≤ pc by omega), eq_false h40, xr243_34 hX, xk260 hX, z260, g0, eq_false rk.1, eq_false rk.2.1, xr243_35 hX, xk261 hX, z261, xr243_36 hX, xk262 hX, z262, c', y223_0]
      rw [b354_9]
      simp (disch := omega) only [gq_true, gb_true, gb_false, true_and, and_true, eq_self, not_false_eq_true, not_true_eq_false, true_or, or_true, false_or, or_false, false_and, and_false, c0_v, ci_v, cl_v, cf_v, pk_mul, nI_add, nI_clamp, nI_lt0, nI_0le, nI_eq0, nI_lt0r, nI_ltE, nI_leE, nI_eqE, nI_m1, in_t, ba0, ba1, Nat.one_ne_zero, Nat.reduceEqDiff, Nat.reduceLeDiff, Nat.add_eq_zero_iff, Nat.add_zero]
    | some y' =>
      rw [y] at c EGn
      obtain ⟨m1, c1, c2, c3, c5⟩ := c
      refine Or.inl ⟨m1, o5, rfl, ?_, c2.mono fun a k z => Or.inl z, ⟨c3, EGn, hC.fr c2 (fun a k z => ⟨z.n.1, z.n.2.1, z.n.2.2.1, z.n.2.2.2.1⟩), c60, c5.trans h00⟩, fun i _ => ⟨c2.2.1 _ _ (fun z => z.n.2.2.2.2.1 rfl), c2.2.1 _ _ (fun z => z.n.2.2.2.2.2 rfl)⟩⟩
      unfold rst
      rw [b354_9]
      simp (disch := omega) only [gq_true, gb_true, gb_false, true_and, and_true, eq_self, not_false_eq_true, not_true_eq_false, true_or, or_true, false_or, or_false, false_and, and_false, c0_v, ci_v, cl_v, cf_v, pk_mul, nI_add, nI_clamp, nI_lt0, nI_0le, nI_eq0, nI_lt0r, nI_ltE, nI_leE, nI_eqE, nI_m1, in_t, ba0, ba1, Nat.one_ne_zero, Nat.reduceEqDiff, Nat.reduceLeDiff, Nat.add_eq_zero_iff, n10, xk243 hX, hC.1, eq_false (show ¬ C.length ≤ pc by omega), eq_false h40, xr243_34 hX, xk260 hX, z260, g0, eq_false rk.1, eq_false rk.2.1, xr243_35 hX, xk261 hX, z261, xr243_36 hX, xk262 hX, z262, c1, y223_1]
end R89
