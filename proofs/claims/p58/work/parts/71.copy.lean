/-! a table takes what another holds -/
section R71
variable {sa sv d : Nat} {m : am_M}
theorem x131 (a b a' b' n : Nat) (ha : gk_ m a = (1, 8)) (hb : gk_ m b = (1, 8)) (ra : gr_ m a 1 = a') (rb : gr_ m b 1 = b') (ka : gk_ m a' = (2, n)) (kb : gk_ m b' = (2, n)) (hn : n < 2 ^ 31) (ha0 : ¬ a' = 0) (hb0 : ¬ b' = 0) (hab : ¬ b' = a') (h1 : ¬ b = a') : am_ca sa sv (d + 1) 131 [.ref a, .ref b] m = some (.inl none, si_ (ri_ m a' (va_cpy (gi_ m b') (gi_ m a') 0 0 n)) a 2 (gi_ (ri_ m a' (va_cpy (gi_ m b') (gi_ m a') 0 0 n)) b 2)) := by
  rw [c131, b131_0]
  simp (disch := omega) only [gq_true, gb_true, gb_false, true_and, and_true, eq_self, not_false_eq_true, not_true_eq_false, true_or, or_true, false_or, or_false, false_and, and_false, c0_v, ci_v, cl_v, cf_v, pk_mul, nI_add, nI_clamp, nI_lt0, nI_0le, nI_eq0, nI_lt0r, nI_ltE, nI_leE, nI_eqE, nI_m1, in_t, ba0, ba1, Nat.one_ne_zero, Nat.reduceEqDiff, Nat.reduceLeDiff, Nat.add_eq_zero_iff, ha, hb, ra, rb, ka, kb, eq_false ha0, eq_false hb0, eq_false hab, Nat.reduceEqDiff, Nat.reduceLeDiff]
  simp only [ite_self]
  simp (disch := omega) only [gq_true, gb_true, gb_false, true_and, and_true, eq_self, not_false_eq_true, not_true_eq_false, true_or, or_true, false_or, or_false, false_and, and_false, c0_v, ci_v, cl_v, cf_v, pk_mul, nI_add, nI_clamp, nI_lt0, nI_0le, nI_eq0, nI_lt0r, nI_ltE, nI_leE, nI_eqE, nI_m1, in_t, ba0, ba1, Nat.one_ne_zero, Nat.reduceEqDiff, Nat.reduceLeDiff, Nat.add_eq_zero_iff, Nat.zero_add, Nat.le_refl]
end R71
