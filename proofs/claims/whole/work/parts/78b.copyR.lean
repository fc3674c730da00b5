/-! the reference keeps, undoes, saves, restores -/
section R78
variable {sa sv d N : Nat} {m : am_M}
def RK (N a k : Nat) : Prop := a = N + 247 ∨ a = N + 251 ∨ (a = N + 243 ∧ k = 23)
theorem RK.x {N a k : Nat} (h : RK N a k) : XF N a k := by
  rcases h with h | h | ⟨h, h2⟩
  · exact ⟨by omega, Or.inl (by omega)⟩
  · exact ⟨by omega, Or.inl (by omega)⟩
  · exact ⟨by omega, Or.inr (Or.inl ⟨by omega, by omega⟩)⟩
theorem y251_92 (hX : XS m N) (v : Nat) (hv : v < 5) (hu : gi_ m (N + 243) 23 = nI v) : ∃ m', r251 sa sv d 92 [some (.ref (N + 243)), some (.int (nI 0))] [] m = some (.inl none, m') ∧ Fr (RK N) m m' ∧ gi_ m' (N + 243) 23 = nI (v + 1) ∧ (∀ k, gi_ m' (N + 247) k = if 1023 * v ≤ k ∧ k < 1023 * v + 1023 then gi_ m (N + 248) (k - 1023 * v) else gi_ m (N + 247) k) ∧ (∀ k, gl_ m' (N + 251) k = if 484 * v ≤ k ∧ k < 484 * v + 484 then gl_ m (N + 252) (k - 484 * v) else gl_ m (N + 251) k) := by
  obtain ⟨m1, g1, g2, g3⟩ := lp_ri (fun i m1 => r251 sa sv d 92 [some (.ref (N + 243)), some (.int (nI i))] [] m1) (N + 247) (1023 * v) 1023 (fun k => gi_ m (N + 248) k) m (fun i m1 hi f1 f2 => by
    have hX1 := hX.fr1 f1 (by omega)
    have e : gi_ m1 (N + 243) 23 = nI v := (f1.2.1 _ _ (by omega)).trans hu
    show r251 sa sv d 92 _ [] m1 = _
    rw [b251_92, gb_neg (by rw [nI_leE (by omega) (by omega)]; omega)]
    simp (disch := omega) only [gq_true, gb_true, gb_false, true_and, and_true, eq_self, not_false_eq_true, not_true_eq_false, true_or, or_true, false_or, or_false, false_and, and_false, c0_v, ci_v, cl_v, cf_v, pk_mul, nI_add, nI_clamp, nI_lt0, nI_0le, nI_eq0, nI_lt0r, nI_ltE, nI_leE, nI_eqE, nI_m1, in_t, ba0, ba1, Nat.one_ne_zero, Nat.reduceEqDiff, Nat.reduceLeDiff, Nat.add_eq_zero_iff, xk243 hX1, xr243_17 hX1, xr243_18 hX1, xk247 hX1, xk248 hX1, e]
    rw [f1.2.1 (N + 248) _ (by omega)])
  have hX1 := hX.fr1 g2 (by omega)
  have u1 : gi_ m1 (N + 243) 23 = nI v := (g2.2.1 _ _ (by omega)).trans hu
  obtain ⟨m2, k1, k2, k3⟩ := lp_rl (fun i m1 => r251 sa sv d 128 [some (.ref (N + 243)), some (.int (nI i))] [] m1) (N + 251) (484 * v) 484 (fun k => gl_ m (N + 252) k) m1 (fun i m2 hi f1 f2 => by
    have hX2 := hX1.fr1 f1 (by omega)
    have e : gi_ m2 (N + 243) 23 = nI v := (f1.2.1 _ _ (by omega)).trans u1
    show r251 sa sv d 128 _ [] m2 = _
    rw [b251_128, gb_neg (by rw [nI_leE (by omega) (by omega)]; omega)]
    simp (disch := omega) only [gq_true, gb_true, gb_false, true_and, and_true, eq_self, not_false_eq_true, not_true_eq_false, true_or, or_true, false_or, or_false, false_and, and_false, c0_v, ci_v, cl_v, cf_v, pk_mul, nI_add, nI_clamp, nI_lt0, nI_0le, nI_eq0, nI_lt0r, nI_ltE, nI_leE, nI_eqE, nI_m1, in_t, ba0, ba1, Nat.one_ne_zero, Nat.reduceEqDiff, Nat.reduceLeDiff, Nat.add_eq_zero_iff, xk243 hX2, xr243_21 hX2, xr243_22 hX2, xk251 hX2, xk252 hX2, e]
    rw [f1.2.2.1 (N + 252) _ (by omega), g2.2.2.1 (N + 252) _ (by omega)])
  have hX2 := hX1.fr1 k2 (by omega)
  have u2 : gi_ m2 (N + 243) 23 = nI v := (k2.2.1 _ _ (by omega)).trans u1
  refine ⟨si_ m2 (N + 243) 23 (nI (v + 1)), ?_, ((g2.mono fun a k z => Or.inl z).trans (k2.mono fun a k z => Or.inr (Or.inl z))).si (Or.inr (Or.inr ⟨rfl, rfl⟩)), by rw [gi_si, if_pos ⟨rfl, rfl⟩], fun k => ?_, fun k => ?_⟩
  · refine g1.trans ?_
    show r251 sa sv d 92 _ [] m1 = _
    rw [b251_92, gb_pos (by rw [nI_leE (by omega) (by omega)]; omega)]
    refine k1.trans ?_
    show r251 sa sv d 128 _ [] m2 = _
    rw [b251_128, gb_pos (by rw [nI_leE (by omega) (by omega)]; omega)]
    simp (disch := omega) only [gq_true, gb_true, gb_false, true_and, and_true, eq_self, not_false_eq_true, not_true_eq_false, true_or, or_true, false_or, or_false, false_and, and_false, c0_v, ci_v, cl_v, cf_v, pk_mul, nI_add, nI_clamp, nI_lt0, nI_0le, nI_eq0, nI_lt0r, nI_ltE, nI_leE, nI_eqE, nI_m1, in_t, ba0, ba1, Nat.one_ne_zero, Nat.reduceEqDiff, Nat.reduceLeDiff, Nat.add_eq_zero_iff, xk243 hX2, u2]
  · rw [gi_si, if_neg (by omega), k2.2.1 _ _ (by omega), g3 k]
  · rw [gl_si, k3 k, g2.2.2.1 _ _ (by omega)]
/-- what lies aside is kept -/
theorem y251 (hX : XS m N) (u : Nat) (hu5 : u ≤ 5) (hu : gi_ m (N + 243) 23 = nI u) : ∃ m', am_ca sa sv (d + 1) 251 [.ref (N + 243)] m = some (.inl none, m') ∧ Fr (RK N) m m' ∧ gi_ m' (N + 243) 23 = nI (min u 4 + 1) ∧ (∀ i k, i < min u 4 → k < 1023 → gi_ m' (N + 247) (1023 * i + k) = gi_ m (N + 247) (1023 * (i + (u - min u 4)) + k)) ∧ (∀ i k, i < min u 4 → k < 484 → gl_ m' (N + 251) (484 * i + k) = gl_ m (N + 251) (484 * (i + (u - min u 4)) + k)) ∧ (∀ k, k < 1023 → gi_ m' (N + 247) (1023 * min u 4 + k) = gi_ m (N + 248) k) ∧ (∀ k, k < 484 → gl_ m' (N + 251) (484 * min u 4 + k) = gl_ m (N + 252) k) := by
  by_cases h5 : u = 5
  · subst h5
    rw [show min 5 4 = 4 by decide]
    have hF0 : Fr (RK N) m (si_ m (N + 243) 23 (nI 4)) := (Fr.refl _ _).si (Or.inr (Or.inr ⟨rfl, rfl⟩))
    have hX0 := hX.frg hF0 (fun a k z => z.x)
    have u0 : gi_ (si_ m (N + 243) 23 (nI 4)) (N + 243) 23 = nI 4 := by rw [gi_si, if_pos ⟨rfl, rfl⟩]
    have v0 : ∀ a k, ¬ a = N + 243 → gi_ (si_ m (N + 243) 23 (nI 4)) a k = gi_ m a k := fun a k h => by rw [gi_si, if_neg (fun z => h z.1)]
    have l0 : ∀ a k, gl_ (si_ m (N + 243) 23 (nI 4)) a k = gl_ m a k := fun a k => rfl
    generalize hm0 : si_ m (N + 243) 23 (nI 4) = m0 at *
    obtain ⟨m1, g1, g2, g3⟩ := lp_ri (fun i m1 => r251 sa sv d 20 [some (.ref (N + 243)), some (.int (nI i))] [] m1) (N + 247) 0 4092 (fun k => gi_ m0 (N + 247) (k + 1023)) m0 (fun i m1 hi f1 f2 => by
      have hX1 := hX0.fr1 f1 (by omega)
      have e : gi_ m1 (N + 243) 23 = nI 4 := (f1.2.1 _ _ (by omega)).trans u0
      have e2 := f2 (i + 1023)
      rw [if_neg (by omega)] at e2
      show r251 sa sv d 20 _ [] m1 = _
      rw [b251_20]
      simp (disch := omega) only [gq_true, gb_true, gb_false, true_and, and_true, eq_self, not_false_eq_true, not_true_eq_false, true_or, or_true, false_or, or_false, false_and, and_false, c0_v, ci_v, cl_v, cf_v, pk_mul, nI_add, nI_clamp, nI_lt0, nI_0le, nI_eq0, nI_lt0r, nI_ltE, nI_leE, nI_eqE, nI_m1, in_t, ba0, ba1, Nat.one_ne_zero, Nat.reduceEqDiff, Nat.reduceLeDiff, Nat.add_eq_zero_iff, xk243 hX1, e, xr243_17 hX1, xk247 hX1, Nat.reduceMul, eq_false (show ¬ 4092 ≤ i by omega), e2, Nat.zero_add])
    have hX1 := hX0.fr1 g2 (by omega)
    have u1 : gi_ m1 (N + 243) 23 = nI 4 := (g2.2.1 _ _ (by omega)).trans u0
    obtain ⟨m2, k1, k2, k3⟩ := lp_rl (fun i m1 => r251 sa sv d 56 [some (.ref (N + 243)), some (.int (nI i))] [] m1) (N + 251) 0 1936 (fun k => gl_ m0 (N + 251) (k + 484)) m1 (fun i m2 hi f1 f2 => by
      have hX2 := hX1.fr1 f1 (by omega)
      have e : gi_ m2 (N + 243) 23 = nI 4 := (f1.2.1 _ _ (by omega)).trans u1
      have e2 := f2 (i + 484)
      rw [if_neg (by omega), g2.2.2.1 _ _ (by omega)] at e2
      show r251 sa sv d 56 _ [] m2 = _
      rw [b251_56]
      simp (disch := omega) only [gq_true, gb_true, gb_false, true_and, and_true, eq_self, not_false_eq_true, not_true_eq_false, true_or, or_true, false_or, or_false, false_and, and_false, c0_v, ci_v, cl_v, cf_v, pk_mul, nI_add, nI_clamp, nI_lt0, nI_0le, nI_eq0, nI_lt0r, nI_ltE, nI_leE, nI_eqE, nI_m1, in_t, ba0, ba1, Nat.one_ne_zero, Nat.reduceEqDiff, Nat.reduceLeDiff, Nat.add_eq_zero_iff, xk243 hX2, e, xr243_21 hX2, xk251 hX2, Nat.reduceMul, eq_false (show ¬ 1936 ≤ i by omega), e2, Nat.zero_add])
    have hX2 := hX1.fr1 k2 (by omega)
    have u2 : gi_ m2 (N + 243) 23 = nI 4 := (k2.2.1 _ _ (by omega)).trans u1
    obtain ⟨m3, q1, q2, q3, q4, q5⟩ := y251_92 (sa := sa) (sv := sv) (d := d) hX2 4 (by omega) u2
    refine ⟨m3, ?_, ((hF0.trans (g2.mono fun a k z => Or.inl z)).trans (k2.mono fun a k z => Or.inr (Or.inl z))).trans q2, q3, fun i k hi hk => ?_, fun i k hi hk => ?_, fun k hk => ?_, fun k hk => ?_⟩
    · rw [c251, b251_0]
      simp (disch := omega) only [gq_true, gb_true, gb_false, true_and, and_true, eq_self, not_false_eq_true, not_true_eq_false, true_or, or_true, false_or, or_false, false_and, and_false, c0_v, ci_v, cl_v, cf_v, pk_mul, nI_add, nI_clamp, nI_lt0, nI_0le, nI_eq0, nI_lt0r, nI_ltE, nI_leE, nI_eqE, nI_m1, in_t, ba0, ba1, Nat.one_ne_zero, Nat.reduceEqDiff, Nat.reduceLeDiff, Nat.add_eq_zero_iff, xk243 hX, hu, show nI 5 - nI 1 = nI 4 from dm_s 4, hm0]
      refine g1.trans ?_
      show r251 sa sv d 20 _ [] m1 = _
      rw [b251_20]
      simp (disch := omega) only [gq_true, gb_true, gb_false, true_and, and_true, eq_self, not_false_eq_true, not_true_eq_false, true_or, or_true, false_or, or_false, false_and, and_false, c0_v, ci_v, cl_v, cf_v, pk_mul, nI_add, nI_clamp, nI_lt0, nI_0le, nI_eq0, nI_lt0r, nI_ltE, nI_leE, nI_eqE, nI_m1, in_t, ba0, ba1, Nat.one_ne_zero, Nat.reduceEqDiff, Nat.reduceLeDiff, Nat.add_eq_zero_iff, xk243 hX1, u1, Nat.reduceMul, Nat.le_refl]
      refine k1.trans ?_
      show r251 sa sv d 56 _ [] m2 = _
      rw [b251_56]
      simp (disch := omega) only [gq_true, gb_true, gb_false, true_and, and_true, eq_self, not_false_eq_true, not_true_eq_false, true_or, or_true, false_or, or_false, false_and, and_false, c0_v, ci_v, cl_v, cf_v, pk_mul, nI_add, nI_clamp, nI_lt0, nI_0le, nI_eq0, nI_lt0r, nI_ltE, nI_leE, nI_eqE, nI_m1, in_t, ba0, ba1, Nat.one_ne_zero, Nat.reduceEqDiff, Nat.reduceLeDiff, Nat.add_eq_zero_iff, xk243 hX2, u2, Nat.reduceMul, Nat.le_refl]
      exact q1
    · skip
      rw [q4, if_neg (by omega), k2.2.1 _ _ (by omega), g3, if_pos (by omega)]
      show gi_ m0 (N + 247) (1023 * i + k - 0 + 1023) = gi_ m (N + 247) (1023 * (i + (5 - 4)) + k)
      rw [v0 _ _ (by omega), show 1023 * i + k - 0 + 1023 = 1023 * (i + (5 - 4)) + k by omega]
    · skip
      rw [q5, if_neg (by omega), k3, if_pos (by omega)]
      show gl_ m0 (N + 251) (484 * i + k - 0 + 484) = gl_ m (N + 251) (484 * (i + (5 - 4)) + k)
      rw [l0, show 484 * i + k - 0 + 484 = 484 * (i + (5 - 4)) + k by omega]
    · rw [q4, if_pos (by omega), k2.2.1 _ _ (by omega), g2.2.1 _ _ (by omega), v0 _ _ (by omega), show 1023 * 4 + k - 1023 * 4 = k by omega]
    · rw [q5, if_pos (by omega), k2.2.2.1 _ _ (by omega), g2.2.2.1 _ _ (by omega), l0, show 484 * 4 + k - 484 * 4 = k by omega]
  · obtain ⟨m3, q1, q2, q3, q4, q5⟩ := y251_92 (sa := sa) (sv := sv) (d := d) hX u (by omega) hu
    have e : min u 4 = u := by omega
    refine ⟨m3, ?_, q2, by rw [e]; exact q3, fun i k hi hk => ?_, fun i k hi hk => ?_, fun k hk => ?_, fun k hk => ?_⟩
    · rw [c251, b251_0]
      simp (disch := omega) only [gq_true, gb_true, gb_false, true_and, and_true, eq_self, not_false_eq_true, not_true_eq_false, true_or, or_true, false_or, or_false, false_and, and_false, c0_v, ci_v, cl_v, cf_v, pk_mul, nI_add, nI_clamp, nI_lt0, nI_0le, nI_eq0, nI_lt0r, nI_ltE, nI_leE, nI_eqE, nI_m1, in_t, ba0, ba1, Nat.one_ne_zero, Nat.reduceEqDiff, Nat.reduceLeDiff, Nat.add_eq_zero_iff, xk243 hX, hu]
      rw [gb_neg h5]
      exact q1
    · rw [q4, if_neg (by omega), show i + (u - min u 4) = i by omega]
    · rw [q5, if_neg (by omega), show i + (u - min u 4) = i by omega]
    · rw [e, q4, if_pos (by omega), show 1023 * u + k - 1023 * u = k by omega]
    · rw [e, q5, if_pos (by omega), show 484 * u + k - 484 * u = k by omega]
end R78
