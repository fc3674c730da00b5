/-! the reference undoes, saves, restores -/
section R78
variable {sa sv d N : Nat} {m : am_M}
theorem y252_0 (hX : XS m N) (hu : gi_ m (N + 243) 23 = nI 0) : am_ca sa sv (d + 1) 252 [.ref (N + 243)] m = some (.inl (some (.int ((-1 : Int32)))), si_ m (N + 243) 0 (nI 0)) := by
  rw [c252, b252_0]
  have e : gi_ (si_ m (N + 243) 0 (nI 0)) (N + 243) 23 = nI 0 := by rw [gi_si, if_neg (by omega)]; exact hu
  simp (disch := omega) only [gq_true, gb_true, gb_false, true_and, and_true, eq_self, not_false_eq_true, not_true_eq_false, true_or, or_true, false_or, or_false, false_and, and_false, c0_v, ci_v, cl_v, cf_v, pk_mul, nI_add, nI_clamp, nI_lt0, nI_0le, nI_eq0, nI_lt0r, nI_ltE, nI_leE, nI_eqE, nI_m1, in_t, ba0, ba1, Nat.one_ne_zero, Nat.reduceEqDiff, Nat.reduceLeDiff, Nat.add_eq_zero_iff, xk243 hX, e]
/-- what was kept last comes back -/
def RU (N a k : Nat) : Prop := a = N + 245 ∨ a = N + 249 ∨ (a = N + 243 ∧ (k = 23 ∨ k = 0))
theorem RU.x {N a k : Nat} (h : RU N a k) : XF N a k := by
  rcases h with h | h | ⟨h, h2⟩
  · exact ⟨by omega, Or.inl (by omega)⟩
  · exact ⟨by omega, Or.inl (by omega)⟩
  · exact ⟨by omega, Or.inr (Or.inl ⟨by omega, by omega⟩)⟩
theorem y252 (hX : XS m N) (u : Nat) (hu5 : u < 5) (hu : gi_ m (N + 243) 23 = nI (u + 1)) : ∃ m', am_ca sa sv (d + 1) 252 [.ref (N + 243)] m = some (.inl (some (.int (nI u))), m') ∧ Fr (RU N) m m' ∧ gi_ m' (N + 243) 23 = nI u ∧ (∀ k, gi_ m' (N + 245) k = if k < 1023 then gi_ m (N + 247) (1023 * u + k) else gi_ m (N + 245) k) ∧ (∀ k, gl_ m' (N + 249) k = if k < 484 then gl_ m (N + 251) (484 * u + k) else gl_ m (N + 249) k) := by
  have e : gi_ (si_ m (N + 243) 0 (nI 0)) (N + 243) 23 = nI (u + 1) := by rw [gi_si, if_neg (by omega)]; exact hu
  have hF0 : Fr (RU N) m (si_ (si_ m (N + 243) 0 (nI 0)) (N + 243) 23 (nI u)) := ((Fr.refl _ _).si (Or.inr (Or.inr ⟨rfl, Or.inr rfl⟩))).si (Or.inr (Or.inr ⟨rfl, Or.inl rfl⟩))
  have hX0 := hX.frg hF0 (fun a k z => z.x)
  have u0 : gi_ (si_ (si_ m (N + 243) 0 (nI 0)) (N + 243) 23 (nI u)) (N + 243) 23 = nI u := by rw [gi_si, if_pos ⟨rfl, rfl⟩]
  have v0 : ∀ a k, ¬ a = N + 243 → gi_ (si_ (si_ m (N + 243) 0 (nI 0)) (N + 243) 23 (nI u)) a k = gi_ m a k := fun a k h => by rw [gi_si, if_neg (fun z => h z.1), gi_si, if_neg (fun z => h z.1)]
  have l0 : ∀ a k, gl_ (si_ (si_ m (N + 243) 0 (nI 0)) (N + 243) 23 (nI u)) a k = gl_ m a k := fun a k => rfl
  generalize hm0 : si_ (si_ m (N + 243) 0 (nI 0)) (N + 243) 23 (nI u) = m0 at *
  obtain ⟨m1, g1, g2, g3⟩ := lp_ri (fun i m1 => r252 sa sv d 26 [some (.ref (N + 243)), some (.int (nI i))] [] m1) (N + 245) 0 1023 (fun k => gi_ m0 (N + 247) (1023 * u + k)) m0 (fun i m1 hi f1 f2 => by
    have hX1 := hX0.fr1 f1 (by omega)
    have e : gi_ m1 (N + 243) 23 = nI u := (f1.2.1 _ _ (by omega)).trans u0
    show r252 sa sv d 26 _ [] m1 = _
    rw [b252_26, gb_neg (by rw [nI_leE (by omega) (by omega)]; omega)]
    simp (disch := omega) only [gq_true, gb_true, gb_false, true_and, and_true, eq_self, not_false_eq_true, not_true_eq_false, true_or, or_true, false_or, or_false, false_and, and_false, c0_v, ci_v, cl_v, cf_v, pk_mul, nI_add, nI_clamp, nI_lt0, nI_0le, nI_eq0, nI_lt0r, nI_ltE, nI_leE, nI_eqE, nI_m1, in_t, ba0, ba1, Nat.one_ne_zero, Nat.reduceEqDiff, Nat.reduceLeDiff, Nat.add_eq_zero_iff, xk243 hX1, e, xr243_15 hX1, xk245 hX1, xr243_17 hX1, xk247 hX1, Nat.zero_add]
    rw [f1.2.1 (N + 247) _ (by omega)])
  have hX1 := hX0.fr1 g2 (by omega)
  have u1 : gi_ m1 (N + 243) 23 = nI u := (g2.2.1 _ _ (by omega)).trans u0
  obtain ⟨m2, k1, k2, k3⟩ := lp_rl (fun i m1 => r252 sa sv d 62 [some (.ref (N + 243)), some (.int (nI i))] [] m1) (N + 249) 0 484 (fun k => gl_ m0 (N + 251) (484 * u + k)) m1 (fun i m2 hi f1 f2 => by
    have hX2 := hX1.fr1 f1 (by omega)
    have e : gi_ m2 (N + 243) 23 = nI u := (f1.2.1 _ _ (by omega)).trans u1
    show r252 sa sv d 62 _ [] m2 = _
    rw [b252_62, gb_neg (by rw [nI_leE (by omega) (by omega)]; omega)]
    simp (disch := omega) only [gq_true, gb_true, gb_false, true_and, and_true, eq_self, not_false_eq_true, not_true_eq_false, true_or, or_true, false_or, or_false, false_and, and_false, c0_v, ci_v, cl_v, cf_v, pk_mul, nI_add, nI_clamp, nI_lt0, nI_0le, nI_eq0, nI_lt0r, nI_ltE, nI_leE, nI_eqE, nI_m1, in_t, ba0, ba1, Nat.one_ne_zero, Nat.reduceEqDiff, Nat.reduceLeDiff, Nat.add_eq_zero_iff, xk243 hX2, e, xr243_19 hX2, xk249 hX2, xr243_21 hX2, xk251 hX2, Nat.zero_add]
    rw [f1.2.2.1 (N + 251) _ (by omega), g2.2.2.1 (N + 251) _ (by omega)])
  have hX2 := hX1.fr1 k2 (by omega)
  have u2 : gi_ m2 (N + 243) 23 = nI u := (k2.2.1 _ _ (by omega)).trans u1
  refine ⟨m2, ?_, (hF0.trans (g2.mono fun a k z => Or.inl z)).trans (k2.mono fun a k z => Or.inr (Or.inl z)), u2, fun k => ?_, fun k => ?_⟩
  · rw [c252, b252_0]
    simp (disch := omega) only [gq_true, gb_true, gb_false, true_and, and_true, eq_self, not_false_eq_true, not_true_eq_false, true_or, or_true, false_or, or_false, false_and, and_false, c0_v, ci_v, cl_v, cf_v, pk_mul, nI_add, nI_clamp, nI_lt0, nI_0le, nI_eq0, nI_lt0r, nI_ltE, nI_leE, nI_eqE, nI_m1, in_t, ba0, ba1, Nat.one_ne_zero, Nat.reduceEqDiff, Nat.reduceLeDiff, Nat.add_eq_zero_iff, xk243 hX, e, show nI (u + 1) - nI 1 = nI u from dm_s u, hm0]
    refine g1.trans ?_
    show r252 sa sv d 26 _ [] m1 = _
    rw [b252_26, gb_pos (by rw [nI_leE (by omega) (by omega)]; omega)]
    refine k1.trans ?_
    show r252 sa sv d 62 _ [] m2 = _
    rw [b252_62, gb_pos (by rw [nI_leE (by omega) (by omega)]; omega)]
    simp (disch := omega) only [gq_true, gb_true, gb_false, true_and, and_true, eq_self, not_false_eq_true, not_true_eq_false, true_or, or_true, false_or, or_false, false_and, and_false, c0_v, ci_v, cl_v, cf_v, pk_mul, nI_add, nI_clamp, nI_lt0, nI_0le, nI_eq0, nI_lt0r, nI_ltE, nI_leE, nI_eqE, nI_m1, in_t, ba0, ba1, Nat.one_ne_zero, Nat.reduceEqDiff, Nat.reduceLeDiff, Nat.add_eq_zero_iff, xk243 hX2, u2]
  · rw [k2.2.1 _ _ (by omega), g3 k]
    simp only [Nat.zero_le, true_and, Nat.zero_add, Nat.sub_zero]
    by_cases hk : k < 1023
    · rw [if_pos hk, if_pos hk, v0 _ _ (by omega)]
    · rw [if_neg hk, if_neg hk, v0 _ _ (by omega)]
  · rw [k3 k, g2.2.2.1 _ _ (by omega)]
    simp only [Nat.zero_le, true_and, Nat.zero_add, Nat.sub_zero, l0]
def RV (N a k : Nat) : Prop := a = N + 246 ∨ a = N + 250 ∨ (a = N + 243 ∧ (k = 24 ∨ k = 0))
theorem RV.x {N a k : Nat} (h : RV N a k) : XF N a k := by
  rcases h with h | h | ⟨h, h2⟩
  · exact ⟨by omega, Or.inl (by omega)⟩
  · exact ⟨by omega, Or.inl (by omega)⟩
  · exact ⟨by omega, Or.inr (Or.inl ⟨by omega, by omega⟩)⟩
theorem y253 (hX : XS m N) : ∃ m', am_ca sa sv (d + 1) 253 [.ref (N + 243)] m = some (.inl (some (.int (gi_ m (N + 245) 4))), m') ∧ Fr (RV N) m m' ∧ gi_ m' (N + 243) 24 = nI 1 ∧ (∀ k, k < 1023 → gi_ m' (N + 246) k = gi_ m (N + 245) k) ∧ (∀ k, k < 484 → gl_ m' (N + 250) k = gl_ m (N + 249) k) := by
  have hF0 : Fr (RV N) m (si_ m (N + 243) 0 (nI 0)) := (Fr.refl _ _).si (Or.inr (Or.inr ⟨rfl, Or.inr rfl⟩))
  have hX0 := hX.frg hF0 (fun a k z => z.x)
  have v0 : ∀ a k, ¬ a = N + 243 → gi_ (si_ m (N + 243) 0 (nI 0)) a k = gi_ m a k := fun a k h => by rw [gi_si, if_neg (fun z => h z.1)]
  have l0 : ∀ a k, gl_ (si_ m (N + 243) 0 (nI 0)) a k = gl_ m a k := fun a k => rfl
  generalize hm0 : si_ m (N + 243) 0 (nI 0) = m0 at *
  obtain ⟨m1, g1, g2, g3⟩ := lp_ri (fun i m1 => r253 sa sv d 7 [some (.ref (N + 243)), some (.int (nI i))] [] m1) (N + 246) 0 1023 (fun k => gi_ m (N + 245) k) m0 (fun i m1 hi f1 f2 => by
    have hX1 := hX0.fr1 f1 (by omega)
    show r253 sa sv d 7 _ [] m1 = _
    rw [b253_7, gb_neg (by rw [nI_leE (by omega) (by omega)]; omega)]
    simp (disch := omega) only [gq_true, gb_true, gb_false, true_and, and_true, eq_self, not_false_eq_true, not_true_eq_false, true_or, or_true, false_or, or_false, false_and, and_false, c0_v, ci_v, cl_v, cf_v, pk_mul, nI_add, nI_clamp, nI_lt0, nI_0le, nI_eq0, nI_lt0r, nI_ltE, nI_leE, nI_eqE, nI_m1, in_t, ba0, ba1, Nat.one_ne_zero, Nat.reduceEqDiff, Nat.reduceLeDiff, Nat.add_eq_zero_iff, xk243 hX1, xr243_15 hX1, xr243_16 hX1, xk245 hX1, xk246 hX1, Nat.zero_add]
    rw [f1.2.1 _ _ (by omega), v0 _ _ (by omega)])
  have hX1 := hX0.fr1 g2 (by omega)
  obtain ⟨m2, k1, k2, k3⟩ := lp_rl (fun i m1 => r253 sa sv d 34 [some (.ref (N + 243)), some (.int (nI i))] [] m1) (N + 250) 0 484 (fun k => gl_ m (N + 249) k) m1 (fun i m2 hi f1 f2 => by
    have hX2 := hX1.fr1 f1 (by omega)
    show r253 sa sv d 34 _ [] m2 = _
    rw [b253_34, gb_neg (by rw [nI_leE (by omega) (by omega)]; omega)]
    simp (disch := omega) only [gq_true, gb_true, gb_false, true_and, and_true, eq_self, not_false_eq_true, not_true_eq_false, true_or, or_true, false_or, or_false, false_and, and_false, c0_v, ci_v, cl_v, cf_v, pk_mul, nI_add, nI_clamp, nI_lt0, nI_0le, nI_eq0, nI_lt0r, nI_ltE, nI_leE, nI_eqE, nI_m1, in_t, ba0, ba1, Nat.one_ne_zero, Nat.reduceEqDiff, Nat.reduceLeDiff, Nat.add_eq_zero_iff, xk243 hX2, xr243_19 hX2, xr243_20 hX2, xk249 hX2, xk250 hX2, Nat.zero_add]
    rw [f1.2.2.1 _ _ (by omega), g2.2.2.1 _ _ (by omega), l0])
  have hX2 := hX1.fr1 k2 (by omega)
  refine ⟨si_ m2 (N + 243) 24 (nI 1), ?_, ((hF0.trans (g2.mono fun a k z => Or.inl z)).trans (k2.mono fun a k z => Or.inr (Or.inl z))).si (Or.inr (Or.inr ⟨rfl, Or.inl rfl⟩)), by rw [gi_si, if_pos ⟨rfl, rfl⟩], fun k hk => ?_, fun k hk => ?_⟩
  · rw [c253, b253_0]
    simp (disch := omega) only [gq_true, gb_true, gb_false, true_and, and_true, eq_self, not_false_eq_true, not_true_eq_false, true_or, or_true, false_or, or_false, false_and, and_false, c0_v, ci_v, cl_v, cf_v, pk_mul, nI_add, nI_clamp, nI_lt0, nI_0le, nI_eq0, nI_lt0r, nI_ltE, nI_leE, nI_eqE, nI_m1, in_t, ba0, ba1, Nat.one_ne_zero, Nat.reduceEqDiff, Nat.reduceLeDiff, Nat.add_eq_zero_iff, xk243 hX, hm0]
    refine g1.trans ?_
    show r253 sa sv d 7 _ [] m1 = _
    rw [b253_7, gb_pos (by rw [nI_leE (by omega) (by omega)]; omega)]
    refine k1.trans ?_
    show r253 sa sv d 34 _ [] m2 = _
    rw [b253_34, gb_pos (by rw [nI_leE (by omega) (by omega)]; omega)]
    have e9 : gi_ (si_ m2 (N + 243) 24 (nI 1)) (N + 245) 4 = gi_ m (N + 245) 4 := by rw [gi_si, if_neg (by omega), k2.2.1 _ _ (by omega), g2.2.1 _ _ (by omega), v0 _ _ (by omega)]
    simp (disch := omega) only [gq_true, gb_true, gb_false, true_and, and_true, eq_self, not_false_eq_true, not_true_eq_false, true_or, or_true, false_or, or_false, false_and, and_false, c0_v, ci_v, cl_v, cf_v, pk_mul, nI_add, nI_clamp, nI_lt0, nI_0le, nI_eq0, nI_lt0r, nI_ltE, nI_leE, nI_eqE, nI_m1, in_t, ba0, ba1, Nat.one_ne_zero, Nat.reduceEqDiff, Nat.reduceLeDiff, Nat.add_eq_zero_iff, xk243 hX2, xr243_15 hX2, xk245 hX2, e9]
  · rw [gi_si, if_neg (by omega), k2.2.1 _ _ (by omega), g3 k, if_pos (by omega)]; rfl
  · rw [gl_si, k3 k, if_pos (by omega)]; rfl
theorem y254 (hR : XS m N) (hk : gi_ m (N + 243) 24 = nI 1) : ∃ m', am_ca sa sv (d + 3) 254 [.ref (N + 243)] m = some (.inl (some (.int (gi_ m (N + 246) 4))), m') ∧ Fr (RU N) m m' ∧ gi_ m' (N + 243) 23 = nI 0 ∧ gi_ m' (N + 243) 0 = nI 0 ∧ (∀ k, gi_ m' (N + 245) k = if k < 1023 then gi_ m (N + 246) k else gi_ m (N + 245) k) ∧ (∀ k, gl_ m' (N + 249) k = if k < 484 then gl_ m (N + 250) k else gl_ m (N + 249) k) := by
  have hF0 : Fr (RU N) m (si_ m (N + 243) 0 (nI 0)) := (Fr.refl _ _).si (Or.inr (Or.inr ⟨rfl, Or.inr rfl⟩))
  have hX0 := hR.frg hF0 (fun a k z => z.x)
  have h225 := y225_1 (sa := sa) (sv := sv) (d := d) (m := m) (N := N) (s := gi_ m (N + 245)) (q := gl_ m (N + 249)) ⟨hR, rfl, rfl⟩
  have z0 : gi_ (si_ m (N + 243) 0 (nI 0)) (N + 243) 0 = nI 0 := by rw [gi_si, if_pos ⟨rfl, rfl⟩]
  have v0 : ∀ a k, ¬ a = N + 243 → gi_ (si_ m (N + 243) 0 (nI 0)) a k = gi_ m a k := fun a k h => by rw [gi_si, if_neg (fun z => h z.1)]
  have l0 : ∀ a k, gl_ (si_ m (N + 243) 0 (nI 0)) a k = gl_ m a k := fun a k => rfl
  generalize hm0 : si_ m (N + 243) 0 (nI 0) = m0 at *
  obtain ⟨m1, g1, g2, g3⟩ := lp_ri (fun i m1 => r254 sa sv (d + 2) 15 [some (.ref (N + 243)), some (.int (nI i))] [] m1) (N + 245) 0 1023 (fun k => gi_ m (N + 246) k) m0 (fun i m1 hi f1 f2 => by
    have hX1 := hX0.fr1 f1 (by omega)
    show r254 sa sv (d + 2) 15 _ [] m1 = _
    rw [b254_15, gb_neg (by rw [nI_leE (by omega) (by omega)]; omega)]
    simp (disch := omega) only [gq_true, gb_true, gb_false, true_and, and_true, eq_self, not_false_eq_true, not_true_eq_false, true_or, or_true, false_or, or_false, false_and, and_false, c0_v, ci_v, cl_v, cf_v, pk_mul, nI_add, nI_clamp, nI_lt0, nI_0le, nI_eq0, nI_lt0r, nI_ltE, nI_leE, nI_eqE, nI_m1, in_t, ba0, ba1, Nat.one_ne_zero, Nat.reduceEqDiff, Nat.reduceLeDiff, Nat.add_eq_zero_iff, xk243 hX1, xr243_15 hX1, xr243_16 hX1, xk245 hX1, xk246 hX1, Nat.zero_add]
    rw [f1.2.1 _ _ (by omega), v0 _ _ (by omega)])
  have hX1 := hX0.fr1 g2 (by omega)
  obtain ⟨m2, k1, k2, k3⟩ := lp_rl (fun i m1 => r254 sa sv (d + 2) 42 [some (.ref (N + 243)), some (.int (nI i))] [] m1) (N + 249) 0 484 (fun k => gl_ m (N + 250) k) m1 (fun i m2 hi f1 f2 => by
    have hX2 := hX1.fr1 f1 (by omega)
    show r254 sa sv (d + 2) 42 _ [] m2 = _
    rw [b254_42, gb_neg (by rw [nI_leE (by omega) (by omega)]; omega)]
    simp (disch := omega) only [gq_true, gb_true, gb_false, true_and, and_true, eq_self, not_false_eq_true, not_true_eq_false, true_or, or_true, false_or, or_false, false_and, and_false, c0_v, ci_v, cl_v, cf_v, pk_mul, nI_add, nI_clamp, nI_lt0, nI_0le, nI_eq0, nI_lt0r, nI_ltE, nI_leE, nI_eqE, nI_m1, in_t, ba0, ba1, Nat.one_ne_zero, Nat.reduceEqDiff, Nat.reduceLeDiff, Nat.add_eq_zero_iff, xk243 hX2, xr243_19 hX2, xr243_20 hX2, xk249 hX2, xk250 hX2, Nat.zero_add]
    rw [f1.2.2.1 _ _ (by omega), g2.2.2.1 _ _ (by omega), l0])
  have hX2 := hX1.fr1 k2 (by omega)
  refine ⟨si_ m2 (N + 243) 23 (nI 0), ?_, ((hF0.trans (g2.mono fun a k z => Or.inl z)).trans (k2.mono fun a k z => Or.inr (Or.inl z))).si (Or.inr (Or.inr ⟨rfl, Or.inl rfl⟩)), by rw [gi_si, if_pos ⟨rfl, rfl⟩], by rw [gi_si, if_neg (by omega), k2.2.1 _ _ (by omega), g2.2.1 _ _ (by omega), z0], fun k => ?_, fun k => ?_⟩
  · rw [c254, b254_0]
    simp (disch := omega) only [gq_true, gb_true, gb_false, true_and, and_true, eq_self, not_false_eq_true, not_true_eq_false, true_or, or_true, false_or, or_false, false_and, and_false, c0_v, ci_v, cl_v, cf_v, pk_mul, nI_add, nI_clamp, nI_lt0, nI_0le, nI_eq0, nI_lt0r, nI_ltE, nI_leE, nI_eqE, nI_m1, in_t, ba0, ba1, Nat.one_ne_zero, Nat.reduceEqDiff, Nat.reduceLeDiff, Nat.add_eq_zero_iff, xk243 hR, hk, h225]
    refine g1.trans ?_
    show r254 sa sv (d + 2) 15 _ [] m1 = _
    rw [b254_15, gb_pos (by rw [nI_leE (by omega) (by omega)]; omega)]
    refine k1.trans ?_
    show r254 sa sv (d + 2) 42 _ [] m2 = _
    rw [b254_42, gb_pos (by rw [nI_leE (by omega) (by omega)]; omega)]
    have e9 : gi_ (si_ m2 (N + 243) 23 (nI 0)) (N + 245) 4 = gi_ m (N + 246) 4 := by rw [gi_si, if_neg (by omega), k2.2.1 _ _ (by omega), g3, if_pos (by omega)]
    simp (disch := omega) only [gq_true, gb_true, gb_false, true_and, and_true, eq_self, not_false_eq_true, not_true_eq_false, true_or, or_true, false_or, or_false, false_and, and_false, c0_v, ci_v, cl_v, cf_v, pk_mul, nI_add, nI_clamp, nI_lt0, nI_0le, nI_eq0, nI_lt0r, nI_ltE, nI_leE, nI_eqE, nI_m1, in_t, ba0, ba1, Nat.one_ne_zero, Nat.reduceEqDiff, Nat.reduceLeDiff, Nat.add_eq_zero_iff, xk243 hX2, xr243_15 hX2, xk245 hX2, e9]
  · rw [gi_si, if_neg (by omega), k2.2.1 _ _ (by omega), g3 k]
    simp only [Nat.zero_le, true_and, Nat.zero_add, Nat.sub_zero]
    by_cases hk : k < 1023
    · rw [if_pos hk, if_pos hk]
    · rw [if_neg hk, if_neg hk, v0 _ _ (by omega)]
  · rw [gl_si, k3 k, g2.2.2.1 _ _ (by omega)]
    simp only [Nat.zero_le, true_and, Nat.zero_add, Nat.sub_zero, l0]
end R78
