/-! the reference books: what is open, and the lines -/
section R72
variable {sa sv d N : Nat} {m : am_M}
theorem y339_130 (hX : XS m N) (w a : Int32) (P : Nat → Nat) (hp : ∀ u, u < 12 → gi_ m (N + 257) u = nI (P u)) (o4 o5 : Option Value) : ∃ m', r339 sa sv d 130 [some (.ref (N + 243)), some (.int w), some (.int a), some (.int (nI 0)), o4, o5] [] m = r339 sa sv d 165 [some (.ref (N + 243)), some (.int w), some (.int a), some (.int (nI 0)), o4, o5] [] m' ∧ Fr (RB N) m m' ∧ gl_ m' (N + 249) = gl_ m (N + 249) ∧ ∀ k, gi_ m' (N + 245) k = if 690 ≤ k ∧ k < 762 ∧ (k - 690) % 6 = 5 then nI (P ((k - 690) / 6)) else gi_ m (N + 245) k := by
  obtain ⟨m', g1, g2, g3, g4⟩ := lp_inv (fun i m1 => r339 sa sv d 130 [some (.ref (N + 243)), some (.int w), some (.int a), some (.int (nI i)), o4, o5] [] m1) (fun i m1 => Fr (RB N) m m1 ∧ gl_ m1 (N + 249) = gl_ m (N + 249) ∧ ∀ k, gi_ m1 (N + 245) k = if 690 ≤ k ∧ k < 690 + 6 * i ∧ (k - 690) % 6 = 5 then nI (P ((k - 690) / 6)) else gi_ m (N + 245) k) 12 (fun i m1 hi ⟨h1, h2, h3⟩ => by
    have hX1 := hX.frB h1
    have e1 : gi_ m1 (N + 257) i = nI (P i) := (h1.2.1 _ _ (by rintro (z | z) <;> omega)).trans (hp i hi)
    refine ⟨si_ m1 (N + 245) (690 + 6 * i + 5) (nI (P i)), ?_, h1.si (Or.inr rfl), h2, fun k => ?_⟩
    · show r339 sa sv d 130 _ [] m1 = _
      rw [b339_130, gb_neg (by rw [nI_leE (by omega) (by omega)]; omega)]
      simp (disch := omega) only [gq_true, gb_true, gb_false, true_and, and_true, eq_self, not_false_eq_true, not_true_eq_false, true_or, or_true, false_or, or_false, false_and, and_false, c0_v, ci_v, cl_v, cf_v, pk_mul, nI_add, nI_clamp, nI_lt0, nI_0le, nI_eq0, nI_lt0r, nI_ltE, nI_leE, nI_eqE, nI_m1, in_t, ba0, ba1, Nat.one_ne_zero, Nat.reduceEqDiff, Nat.reduceLeDiff, Nat.add_eq_zero_iff, xk243 hX1, xr243_15 hX1, xk245 hX1, xr243_30 hX1, xk257 hX1, e1]
    · rw [gi_si]
      by_cases e : k = 690 + 6 * i + 5
      · rw [if_pos ⟨rfl, e⟩, if_pos (by omega), show (k - 690) / 6 = i by omega]
      · rw [if_neg (fun z => e z.2), h3 k]
        by_cases e2 : 690 ≤ k ∧ k < 690 + 6 * i ∧ (k - 690) % 6 = 5
        · rw [if_pos e2, if_pos (by omega)]
        · rw [if_neg e2, if_neg (by omega)]) m ⟨Fr.refl _ _, rfl, fun k => by rw [if_neg (by omega)]⟩
  refine ⟨m', g1.trans ?_, g2, g3, g4⟩
  show r339 sa sv d 130 _ [] m' = _
  rw [b339_130]
  simp (disch := omega) only [gq_true, gb_true, gb_false, true_and, and_true, eq_self, not_false_eq_true, not_true_eq_false, true_or, or_true, false_or, or_false, false_and, and_false, c0_v, ci_v, cl_v, cf_v, pk_mul, nI_add, nI_clamp, nI_lt0, nI_0le, nI_eq0, nI_lt0r, nI_ltE, nI_leE, nI_eqE, nI_m1, in_t, ba0, ba1, Nat.one_ne_zero, Nat.reduceEqDiff, Nat.reduceLeDiff, Nat.add_eq_zero_iff, Nat.le_refl]
theorem y339_308 (hX : XS m N) (w a : Int32) {l : List Ln} {g : Nat → Nat} (hl : l.length ≤ 64) (hr : gi_ m (N + 243) 33 = nI l.length) (o4 o5 : Option Value) : ∃ m', r339 sa sv d 308 [some (.ref (N + 243)), some (.int w), some (.int a), some (.int (nI 0)), o4, o5] [] m = some (.inl (some (.int (nI l.length))), m') ∧ Fr (RB N) m m' ∧ gl_ m' (N + 249) = gl_ m (N + 249) ∧ ∀ k, gi_ m' (N + 245) k = if k = 6 then nI l.length else if 767 ≤ k ∧ k < 767 + 4 * l.length then gi_ m (N + 255) (k - 767) else gi_ m (N + 245) k := by
  obtain ⟨m', g1, g2, g3, g4⟩ := lp_inv (fun i m1 => r339 sa sv d 308 [some (.ref (N + 243)), some (.int w), some (.int a), some (.int (nI i)), o4, o5] [] m1) (fun i m1 => Fr (RB N) m m1 ∧ gl_ m1 (N + 249) = gl_ m (N + 249) ∧ ∀ k, gi_ m1 (N + 245) k = if 767 ≤ k ∧ k < 767 + i then gi_ m (N + 255) (k - 767) else gi_ m (N + 245) k) (4 * l.length) (fun i m1 hi ⟨h1, h2, h3⟩ => by
    have hX1 := hX.frB h1
    have e1 : gi_ m1 (N + 255) i = gi_ m (N + 255) i := h1.2.1 _ _ (by rintro (z | z) <;> omega)
    have e2 : gi_ m1 (N + 243) 33 = nI l.length := (h1.2.1 _ _ (by rintro (z | z) <;> omega)).trans hr
    refine ⟨si_ m1 (N + 245) (767 + i) (gi_ m (N + 255) i), ?_, h1.si (Or.inr rfl), h2, fun k => ?_⟩
    · show r339 sa sv d 308 _ [] m1 = _
      rw [b339_308]
      simp (disch := omega) only [gq_true, gb_true, gb_false, true_and, and_true, eq_self, not_false_eq_true, not_true_eq_false, true_or, or_true, false_or, or_false, false_and, and_false, c0_v, ci_v, cl_v, cf_v, pk_mul, nI_add, nI_clamp, nI_lt0, nI_0le, nI_eq0, nI_lt0r, nI_ltE, nI_leE, nI_eqE, nI_m1, in_t, ba0, ba1, Nat.one_ne_zero, Nat.reduceEqDiff, Nat.reduceLeDiff, Nat.add_eq_zero_iff, xk243 hX1, e2, eq_false (show ¬ 4 * l.length ≤ i by omega), xr243_15 hX1, xk245 hX1, xr243_28 hX1, xk255 hX1, e1]
    · rw [gi_si]
      by_cases e : k = 767 + i
      · rw [if_pos ⟨rfl, e⟩, if_pos (by omega), show k - 767 = i by omega]
      · rw [if_neg (fun z => e z.2), h3 k]
        by_cases e2 : 767 ≤ k ∧ k < 767 + i
        · rw [if_pos e2, if_pos (by omega)]
        · rw [if_neg e2, if_neg (by omega)]) m ⟨Fr.refl _ _, rfl, fun k => by rw [if_neg (by omega)]⟩
  have hX1 := hX.frB g2
  have e2 : gi_ m' (N + 243) 33 = nI l.length := (g2.2.1 _ _ (by rintro (z | z) <;> omega)).trans hr
  refine ⟨si_ m' (N + 245) 6 (nI l.length), g1.trans ?_, g2.si (Or.inr rfl), g3, fun k => ?_⟩
  · show r339 sa sv d 308 _ [] m' = _
    rw [b339_308]
    simp (disch := omega) only [gq_true, gb_true, gb_false, true_and, and_true, eq_self, not_false_eq_true, not_true_eq_false, true_or, or_true, false_or, or_false, false_and, and_false, c0_v, ci_v, cl_v, cf_v, pk_mul, nI_add, nI_clamp, nI_lt0, nI_0le, nI_eq0, nI_lt0r, nI_ltE, nI_leE, nI_eqE, nI_m1, in_t, ba0, ba1, Nat.one_ne_zero, Nat.reduceEqDiff, Nat.reduceLeDiff, Nat.add_eq_zero_iff, xk243 hX1, e2, Nat.le_refl, xr243_15 hX1, xk245 hX1, gi_si, eq_false (show ¬ N + 243 = N + 245 by omega), if_false]
  · rw [gi_si]
    by_cases e : k = 6
    · rw [if_pos ⟨rfl, e⟩, if_pos e]
    · rw [if_neg (fun z => e z.2), if_neg e, g4 k]
end R72
