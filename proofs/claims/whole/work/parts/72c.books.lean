/-! the reference books: what grew and came back -/
def bD2 (G R : Nat → Nat) (i k : Nat) : Nat := if k < 10 then (if k < i then G k else 0) else if k < 50 then (if (k - 10) % 4 = 2 ∧ (k - 10) / 4 < i then R ((k - 10) / 4) else 0) else if k < 80 then (if (k - 50) % 3 = 2 ∧ (k - 50) / 3 < i then R ((k - 50) / 3) else 0) else 0
section R72
variable {sa sv d N : Nat} {m : am_M}
theorem bD2_0 (G R : Nat → Nat) (k : Nat) : bD2 G R 0 k = 0 := by
  unfold bD2
  repeat' split
  all_goals first | rfl | omega
theorem bD2_s (G R : Nat → Nat) (i k : Nat) (hi : i < 10) : bD2 G R (i + 1) k = if k = 50 + 3 * i + 2 then R i else if k = 10 + 4 * i + 2 then R i else if k = i then G i else bD2 G R i k := by
  unfold bD2
  by_cases h1 : k = 50 + 3 * i + 2
  · rw [if_pos h1, if_neg (by omega), if_neg (by omega), if_pos (by omega), if_pos (by omega), show (k - 50) / 3 = i by omega]
  · rw [if_neg h1]
    by_cases h2 : k = 10 + 4 * i + 2
    · rw [if_pos h2, if_neg (by omega), if_pos (by omega), if_pos (by omega), show (k - 10) / 4 = i by omega]
    · rw [if_neg h2]
      by_cases h3 : k = i
      · rw [if_pos h3, if_pos (by omega), if_pos (by omega), h3]
      · rw [if_neg h3]
        by_cases k1 : k < 10
        · rw [if_pos k1, if_pos k1]
          by_cases e : k < i
          · rw [if_pos e, if_pos (by omega)]
          · rw [if_neg e, if_neg (by omega)]
        · rw [if_neg k1, if_neg k1]
          by_cases k2 : k < 50
          · rw [if_pos k2, if_pos k2]
            by_cases e : (k - 10) % 4 = 2 ∧ (k - 10) / 4 < i
            · rw [if_pos e, if_pos (by omega)]
            · rw [if_neg e, if_neg (by omega)]
          · rw [if_neg k2, if_neg k2]
            by_cases k3 : k < 80
            · rw [if_pos k3, if_pos k3]
              by_cases e : (k - 50) % 3 = 2 ∧ (k - 50) / 3 < i
              · rw [if_pos e, if_pos (by omega)]
              · rw [if_neg e, if_neg (by omega)]
            · rw [if_neg k3, if_neg k3]
theorem y339_52 (hX : XS m N) (w a : Int32) (G R : Nat → Nat) (hg : ∀ u, u < 10 → gi_ m (N + 258) u = nI (G u)) (hr : ∀ u, u < 10 → gi_ m (N + 259) u = nI (R u)) (o4 o5 : Option Value) : ∃ m', r339 sa sv d 52 [some (.ref (N + 243)), some (.int w), some (.int a), some (.int (nI 0)), o4, o5] [] m = r339 sa sv d 130 [some (.ref (N + 243)), some (.int w), some (.int a), some (.int (nI 0)), o4, o5] [] m' ∧ Fr (RB N) m m' ∧ gi_ m' (N + 245) = gi_ m (N + 245) ∧ ∀ k, gl_ m' (N + 249) k = gl_ m (N + 249) k + (nI (bD2 G R 10 k)).toInt64 := by
  obtain ⟨m', g1, g2, g3, g4⟩ := lp_inv (fun i m1 => r339 sa sv d 52 [some (.ref (N + 243)), some (.int w), some (.int a), some (.int (nI i)), o4, o5] [] m1) (fun i m1 => Fr (RB N) m m1 ∧ gi_ m1 (N + 245) = gi_ m (N + 245) ∧ ∀ k, gl_ m1 (N + 249) k = gl_ m (N + 249) k + (nI (bD2 G R i k)).toInt64) 10 (fun i m1 hi ⟨h1, h2, h3⟩ => by
    have hX1 := hX.frB h1
    have e1 : gi_ m1 (N + 258) i = nI (G i) := (h1.2.1 _ _ (by rintro (z | z) <;> omega)).trans (hg i hi)
    have e2 : gi_ m1 (N + 259) i = nI (R i) := (h1.2.1 _ _ (by rintro (z | z) <;> omega)).trans (hr i hi)
    refine ⟨ad_ (ad_ (ad_ m1 (N + 249) i (nI (G i)).toInt64) (N + 249) (10 + 4 * i + 2) (nI (R i)).toInt64) (N + 249) (50 + 3 * i + 2) (nI (R i)).toInt64, ?_, ((h1.ad (Or.inl rfl)).ad (Or.inl rfl)).ad (Or.inl rfl), h2, fun k => ?_⟩
    · show r339 sa sv d 52 _ [] m1 = _
      rw [b339_52, gb_neg (by rw [nI_leE (by omega) (by omega)]; omega)]
      simp (disch := omega) only [gq_true, gb_true, gb_false, true_and, and_true, eq_self, not_false_eq_true, not_true_eq_false, true_or, or_true, false_or, or_false, false_and, and_false, c0_v, ci_v, cl_v, cf_v, pk_mul, nI_add, nI_clamp, nI_lt0, nI_0le, nI_eq0, nI_lt0r, nI_ltE, nI_leE, nI_eqE, nI_m1, in_t, ba0, ba1, Nat.one_ne_zero, Nat.reduceEqDiff, Nat.reduceLeDiff, Nat.add_eq_zero_iff, xk243 hX1, xr243_19 hX1, xk249 hX1, xr243_31 hX1, xk258 hX1, xr243_32 hX1, xk259 hX1, e1, e2, Nat.zero_add]
      rfl
    · rw [gl_ad, gl_ad, gl_ad, h3 k, bD2_s _ _ _ _ hi]
      have z1 : (k = 50 + 3 * i + 2 ∨ k = 10 + 4 * i + 2 ∨ k = i) → bD2 G R i k = 0 := fun hk => by
        unfold bD2
        rcases hk with hk | hk | hk
        · rw [if_neg (by omega), if_neg (by omega), if_pos (by omega), if_neg (by omega)]
        · rw [if_neg (by omega), if_pos (by omega), if_neg (by omega)]
        · rw [if_pos (by omega), if_neg (by omega)]
      by_cases c1 : k = 50 + 3 * i + 2
      · rw [if_pos ⟨rfl, c1⟩, if_neg (by omega), if_neg (by omega), if_pos c1, z1 (Or.inl c1), nL_0]
      · rw [if_neg (fun z => c1 z.2), if_neg c1]
        by_cases c2 : k = 10 + 4 * i + 2
        · rw [if_pos ⟨rfl, c2⟩, if_neg (by omega), if_pos c2, z1 (Or.inr (Or.inl c2)), nL_0]
        · rw [if_neg (fun z => c2 z.2), if_neg c2]
          by_cases c3 : k = i
          · rw [if_pos ⟨rfl, c3⟩, if_pos c3, z1 (Or.inr (Or.inr c3)), nL_0]
          · rw [if_neg (fun z => c3 z.2), if_neg c3]) m ⟨Fr.refl _ _, rfl, fun k => by rw [bD2_0, nL_0]⟩
  refine ⟨m', g1.trans ?_, g2, g3, g4⟩
  show r339 sa sv d 52 _ [] m' = _
  rw [b339_52]
  simp (disch := omega) only [gq_true, gb_true, gb_false, true_and, and_true, eq_self, not_false_eq_true, not_true_eq_false, true_or, or_true, false_or, or_false, false_and, and_false, c0_v, ci_v, cl_v, cf_v, pk_mul, nI_add, nI_clamp, nI_lt0, nI_0le, nI_eq0, nI_lt0r, nI_ltE, nI_leE, nI_eqE, nI_m1, in_t, ba0, ba1, Nat.one_ne_zero, Nat.reduceEqDiff, Nat.reduceLeDiff, Nat.add_eq_zero_iff, Nat.le_refl]
end R72
