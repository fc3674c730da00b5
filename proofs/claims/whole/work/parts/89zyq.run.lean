/-! a script is done (class): lists and repeats -/
section R89
variable {sa sv d N o B p : Nat} {m m' : am_M} {s : Nat → Int32} {g : Nat → Int32} {t : EX} {x : Ins}
def pr_ (b : Bool) : Int32 := tr_ b
/-- a list of rows is done from p to p' -/
def RnL (sa sv D N o B : Nat) (s g : Nat → Int32) (k : Nat) : Prop := ∀ (l : List (Cm k)) (p p' : Nat) (m : am_M) (t : EX) (l1 : Int32), RwL (RwI g s k) p p' l → p' ≤ 30 → XX m N o B s g t → ∃ m', r99 sa sv D 3 [some (.ref (N + 10)), some (.int l1), some (.int (nI p')), some (.int (nI (2 - k))), some (.int (nI p))] [] m = some (.inl (some (.int (tr_ (exL (exI k) l t).1))), m') ∧ Fr (PXr N o) m m' ∧ XX m' N o B s g (exL (exI k) l t).2
/-- one row is done -/
def RnI (sa sv D N o B : Nat) (s g : Nat → Int32) (k : Nat) : Prop := ∀ (x : Cm k) (p r p' : Nat) (m : am_M) (t : EX) (l1 : Int32), RwI g s k p r x → p < r → r ≤ p' → p' ≤ 30 → XX m N o B s g t → ∃ m', r99 sa sv D 3 [some (.ref (N + 10)), some (.int l1), some (.int (nI p')), some (.int (nI (2 - k))), some (.int (nI p))] [] m = (bif (exI k x t).1 then r99 sa sv D 3 [some (.ref (N + 10)), some (.int l1), some (.int (nI p')), some (.int (nI (2 - k))), some (.int (nI r))] [] m' else some (.inl (some (.int (nI 0))), m')) ∧ Fr (PXr N o) m m' ∧ XX m' N o B s g (exI k x t).2
theorem RnL_of {D k : Nat} (h : RnI sa sv D N o B s g k) : RnL sa sv D N o B s g k := by
  intro l
  induction l with
  | nil =>
    intro p p' m t l1 hr hp hX
    have e : p = p' := hr
    refine ⟨m, ?_, Fr.refl _ _, hX⟩
    rw [e, b99_3]
    simp (disch := omega) only [gq_true, gb_true, gb_false, true_and, and_true, eq_self, not_false_eq_true, not_true_eq_false, true_or, or_true, false_or, or_false, false_and, and_false, c0_v, ci_v, cl_v, cf_v, pk_mul, nI_add, nI_clamp, nI_lt0, nI_0le, nI_eq0, nI_lt0r, nI_ltE, nI_leE, nI_eqE, nI_m1, in_t, ba0, ba1, Nat.one_ne_zero, Nat.reduceEqDiff, Nat.reduceLeDiff, Nat.add_eq_zero_iff, Nat.le_refl]
    rfl
  | cons x l ih =>
    intro p p' m t l1 hr hp hX
    obtain ⟨r, r1, r2, r3⟩ := hr
    have rle := RwL_le l r p' r3
    obtain ⟨m1, a1, a2, a3⟩ := h x p r p' m t l1 r2 r1 rle hp hX
    have e : exL (exI k) (x :: l) t = bif (exI k x t).1 then exL (exI k) l (exI k x t).2 else (false, (exI k x t).2) := rfl
    rw [e]
    cases z : (exI k x t).1 with
    | false =>
      rw [z] at a1
      exact ⟨m1, a1, a2, a3⟩
    | true =>
      rw [z] at a1
      obtain ⟨m2, b1, b2, b3⟩ := ih r p' m1 _ l1 r3 hp a3
      exact ⟨m2, a1.trans b1, a2.trans b2, b3⟩
theorem x100_25 {D k : Nat} (hL : RnL sa sv D N o B s g k) (l : List (Cm k)) (p r n : Nat) (hr : RwL (RwI g s k) (p + 1) r l) (h30 : r ≤ 30) (hpr : p < r) (hg3 : g (p * 4 + 3) = nI r) (hn : n ≤ 20) (hk : k ≤ 1) : ∀ (c i : Nat) (m : am_M) (t : EX), i + c = n → XX m N o B s g t → ∃ m', r100 sa sv (D + 1) 25 [some (.ref (N + 10)), some (.int (nI p)), some (.int (nI (2 - (k + 1)))), some (.int (nI n)), some (.int (nI i))] [] m = some (.inl (some (.int (tr_ (exR (exL (exI k) l) c t).1))), m') ∧ Fr (PXr N o) m m' ∧ XX m' N o B s g (exR (exL (exI k) l) c t).2 := by
  intro c
  induction c with
  | zero =>
    intro i m t hi hX
    refine ⟨m, ?_, Fr.refl _ _, hX⟩
    rw [show i = n by omega, b100_25]
    simp (disch := omega) only [gq_true, gb_true, gb_false, true_and, and_true, eq_self, not_false_eq_true, not_true_eq_false, true_or, or_true, false_or, or_false, false_and, and_false, c0_v, ci_v, cl_v, cf_v, pk_mul, nI_add, nI_clamp, nI_lt0, nI_0le, nI_eq0, nI_lt0r, nI_ltE, nI_leE, nI_eqE, nI_m1, in_t, ba0, ba1, Nat.one_ne_zero, Nat.reduceEqDiff, Nat.reduceLeDiff, Nat.add_eq_zero_iff, Nat.le_refl]
    rfl
  | succ c ih =>
    intro i m t hi hX
    have hXm := hX.1.1
    have z11 : (N + 11 = 0) = False := eq_false (by omega)
    have c3 := x127c (sa := sa) (sv := sv) (d := D) hXm p 3 (by omega) (by omega)
    have w3 : gi_ m (N + 12) (p * 4 + 3) = nI r := by rw [hX.2.2.2.2]; exact hg3
    rw [w3] at c3
    obtain ⟨m1, a1, a2, a3⟩ := hL l (p + 1) r m t (nI (p + 1)) hr h30 hX
    have c99 : am_ca sa sv (D + 1) 99 [.ref (N + 10), .int (nI (p + 1)), .int (nI r), .int (nI (2 - k))] m = some (.inl (some (.int (tr_ (exL (exI k) l t).1))), m1) := by
      rw [c99, b99_0]
      exact a1
    have e : exR (exL (exI k) l) (c + 1) t = bif (exL (exI k) l t).1 then exR (exL (exI k) l) c (exL (exI k) l t).2 else (false, (exL (exI k) l t).2) := rfl
    have oo : 2 - (k + 1) + 1 = 2 - k := by omega
    rw [e]
    cases z : (exL (exI k) l t).1 with
    | false =>
      rw [z, tr_f] at c99
      refine ⟨m1, ?_, a2, a3⟩
      rw [b100_25]
      simp (disch := omega) only [gq_true, gb_true, gb_false, true_and, and_true, eq_self, not_false_eq_true, not_true_eq_false, true_or, or_true, false_or, or_false, false_and, and_false, c0_v, ci_v, cl_v, cf_v, pk_mul, nI_add, nI_clamp, nI_lt0, nI_0le, nI_eq0, nI_lt0r, nI_ltE, nI_leE, nI_eqE, nI_m1, in_t, ba0, ba1, Nat.one_ne_zero, Nat.reduceEqDiff, Nat.reduceLeDiff, Nat.add_eq_zero_iff, eq_false (show ¬ n ≤ i by omega), xk10 hXm, xr10_0 hXm, z11, xk11 hXm, c3, oo, c99]
      rfl
    | true =>
      rw [z, tr_t] at c99
      obtain ⟨m2, b1, b2, b3⟩ := ih (i + 1) m1 _ (by omega) a3
      have n10 : (nI 1 = 0) = False := eq_false (by decide)
      refine ⟨m2, ?_, a2.trans b2, b3⟩
      rw [b100_25]
      simp (disch := omega) only [gq_true, gb_true, gb_false, true_and, and_true, eq_self, not_false_eq_true, not_true_eq_false, true_or, or_true, false_or, or_false, false_and, and_false, c0_v, ci_v, cl_v, cf_v, pk_mul, nI_add, nI_clamp, nI_lt0, nI_0le, nI_eq0, nI_lt0r, nI_ltE, nI_leE, nI_eqE, nI_m1, in_t, ba0, ba1, Nat.one_ne_zero, Nat.reduceEqDiff, Nat.reduceLeDiff, Nat.add_eq_zero_iff, eq_false (show ¬ n ≤ i by omega), xk10 hXm, xr10_0 hXm, z11, xk11 hXm, c3, oo, c99, n10]
      exact b1
theorem RnI_op (hB : B + 40 < 2 ^ 29) (k : Nat) (x : Ins) (p p' : Nat) (m : am_M) (t : EX) (l1 : Int32) (hr : RwO g p x) (hx : InG s x) (hp : p + 1 ≤ p') (h30 : p' ≤ 30) (hX : XX m N o B s g t) : ∃ m', r99 sa sv (d + 5) 3 [some (.ref (N + 10)), some (.int l1), some (.int (nI p')), some (.int (nI (2 - k))), some (.int (nI p))] [] m = (bif (exO x t).1 then r99 sa sv (d + 5) 3 [some (.ref (N + 10)), some (.int l1), some (.int (nI p')), some (.int (nI (2 - k))), some (.int (nI (p + 1)))] [] m' else some (.inl (some (.int (nI 0))), m')) ∧ Fr (PXr N o) m m' ∧ XX m' N o B s g (exO x t).2 := x99_op hX hB (by omega) hr hx l1 (nI (2 - k)) p' (by omega) h30
theorem RnI_k (hB : B + 40 < 2 ^ 29) : ∀ k, k ≤ 2 → RnI sa sv (d + 5 + 2 * k) N o B s g k := by
  intro k
  induction k with
  | zero =>
    intro _ x p r p' m t l1 hr hp hr2 h30 hX
    obtain ⟨r1, r2, r3⟩ := hr
    subst r1
    exact RnI_op (d := d) hB 0 x p p' m t l1 r2 r3 hr2 h30 hX
  | succ k ih =>
    intro hk x p r p' m t l1 hr hp hr2 h30 hX
    cases x with
    | inl x =>
      obtain ⟨r1, r2, r3⟩ := hr
      subst r1
      have dd : d + 5 + 2 * (k + 1) = d + 2 * (k + 1) + 5 := by omega
      rw [dd]
      exact RnI_op (d := d + 2 * (k + 1)) hB (k + 1) x p p' m t l1 r2 r3 hr2 h30 hX
    | inr x =>
      obtain ⟨n, l⟩ := x
      obtain ⟨r1, r2, r3, r4, r5⟩ := hr
      have hXm := hX.1.1
      have z11 : (N + 11 = 0) = False := eq_false (by omega)
      have hg := hX.2.2.2.2
      have c0 := x127c (sa := sa) (sv := sv) (d := d + 5 + 2 * k + 1) hXm p 0 (by omega) (by omega)
      have w0 : gi_ m (N + 12) (p * 4 + 0) = nI 27 := by rw [hg]; exact r1
      rw [w0] at c0
      have c1 := x127c (sa := sa) (sv := sv) (d := d + 5 + 2 * k) hXm p 1 (by omega) (by omega)
      have w1 : gi_ m (N + 12) (p * 4 + 1) = nI n := by rw [hg]; exact r2
      rw [w1] at c1
      obtain ⟨m1, a1, a2, a3⟩ := x100_25 (RnL_of (ih (by omega))) l p r n r5 (by omega) hp r3 r4.2 (by omega) n 0 m t (by omega) hX
      have hX1 := a3.1.1
      have c3 := x127c (sa := sa) (sv := sv) (d := d + 5 + 2 * k + 1) hX1 p 3 (by omega) (by omega)
      have w3 : gi_ m1 (N + 12) (p * 4 + 3) = nI r := by rw [a3.2.2.2.2]; exact r3
      rw [w3] at c3
      have q100 : am_ca sa sv (d + 5 + 2 * k + 2) 100 [.ref (N + 10), .int (nI p), .int (nI (2 - (k + 1)))] m = some (.inl (some (.int (tr_ (exR (exL (exI k) l) n t).1))), m1) := by
        rw [c100, b100_0]
        simp (disch := omega) only [gq_true, gb_true, gb_false, true_and, and_true, eq_self, not_false_eq_true, not_true_eq_false, true_or, or_true, false_or, or_false, false_and, and_false, c0_v, ci_v, cl_v, cf_v, pk_mul, nI_add, nI_clamp, nI_lt0, nI_0le, nI_eq0, nI_lt0r, nI_ltE, nI_leE, nI_eqE, nI_m1, in_t, ba0, ba1, Nat.one_ne_zero, Nat.reduceEqDiff, Nat.reduceLeDiff, Nat.add_eq_zero_iff, eq_true (show 2 - (k + 1) < 2 by omega), xk10 hXm, xr10_0 hXm, z11, xk11 hXm, c1]
        rw [if_neg (by omega)]
        exact a1
      have e : exI (k + 1) (.inr (n, l)) t = exR (exL (exI k) l) n t := rfl
      rw [e]
      have dd : d + 5 + 2 * (k + 1) = d + 5 + 2 * k + 2 := by omega
      rw [dd]
      cases z : (exR (exL (exI k) l) n t).1 with
      | false =>
        rw [z, tr_f] at q100
        refine ⟨m1, ?_, a2, a3⟩
        rw [b99_3]
        simp (disch := omega) only [gq_true, gb_true, gb_false, true_and, and_true, eq_self, not_false_eq_true, not_true_eq_false, true_or, or_true, false_or, or_false, false_and, and_false, c0_v, ci_v, cl_v, cf_v, pk_mul, nI_add, nI_clamp, nI_lt0, nI_0le, nI_eq0, nI_lt0r, nI_ltE, nI_leE, nI_eqE, nI_m1, in_t, ba0, ba1, Nat.one_ne_zero, Nat.reduceEqDiff, Nat.reduceLeDiff, Nat.add_eq_zero_iff, eq_false (show ¬ p' ≤ p by omega), xk10 hXm, xr10_0 hXm, z11, xk11 hXm, c0, q100, Nat.reduceEqDiff]
        rfl
      | true =>
        rw [z, tr_t] at q100
        have n10 : (nI 1 = 0) = False := eq_false (by decide)
        obtain ⟨r', hr'⟩ : ∃ r', r = r' + 1 := ⟨r - 1, by omega⟩
        refine ⟨m1, ?_, a2, a3⟩
        rw [b99_3]
        simp (disch := omega) only [gq_true, gb_true, gb_false, true_and, and_true, eq_self, not_false_eq_true, not_true_eq_false, true_or, or_true, false_or, or_false, false_and, and_false, c0_v, ci_v, cl_v, cf_v, pk_mul, nI_add, nI_clamp, nI_lt0, nI_0le, nI_eq0, nI_lt0r, nI_ltE, nI_leE, nI_eqE, nI_m1, in_t, ba0, ba1, Nat.one_ne_zero, Nat.reduceEqDiff, Nat.reduceLeDiff, Nat.add_eq_zero_iff, eq_false (show ¬ p' ≤ p by omega), xk10 hXm, xr10_0 hXm, z11, xk11 hXm, c0, q100, n10, xk10 hX1, xr10_0 hX1, xk11 hX1, c3, Nat.reduceEqDiff]
        rw [hr', nI_p1]
        by_cases y : p < r'
        · rw [if_pos (by rw [nI_ltE (by omega) (by omega)]; exact y), nI_add]
          rfl
        · rw [if_neg (by rw [nI_ltE (by omega) (by omega)]; exact y), nI_add, show p = r' by omega]
          rfl
end R89
