/-! the reference books: what came -/
def RB (N : Nat) (a k : Nat) : Prop := a = N + 249 ∨ a = N + 245
theorem XS.frB {m m' : am_M} {N : Nat} (h : XS m N) (hf : Fr (RB N) m m') : XS m' N := by
  refine h.fr hf (fun x hx => ?_) (fun x hx => ?_)
  · have h2 := of_decide_eq_true (List.all_eq_true.mp (by decide : xr_.all (fun x => decide (¬ (x.1 = 249 ∨ x.1 = 245))) = true) x hx)
    rintro (z | z) <;> exact h2 (by omega)
  · have h2 := of_decide_eq_true (List.all_eq_true.mp (by decide : xw_.all (fun x => decide (¬ (x.1 = 249 ∨ x.1 = 245))) = true) x hx)
    rintro (z | z) <;> exact h2 (by omega)
section R72
variable {sa sv d N : Nat} {m : am_M}
theorem y339_18 (hX : XS m N) (w a : Int32) (f : Nat → Nat) (hf : ∀ u, u < 12 → gi_ m (N + 256) u = nI (f u)) (o4 o5 : Option Value) : ∃ m', r339 sa sv d 18 [some (.ref (N + 243)), some (.int w), some (.int a), some (.int (nI 0)), o4, o5] [] m = r339 sa sv d 52 [some (.ref (N + 243)), some (.int w), some (.int a), some (.int (nI 0)), o4, o5] [] m' ∧ Fr (RB N) m m' ∧ gi_ m' (N + 245) = gi_ m (N + 245) ∧ ∀ k, gl_ m' (N + 249) k = gl_ m (N + 249) k + (nI (if 200 ≤ k ∧ k < 212 then f (k - 200) else 0)).toInt64 := by
  obtain ⟨m', g1, g2, g3, g4⟩ := lp_inv (fun i m1 => r339 sa sv d 18 [some (.ref (N + 243)), some (.int w), some (.int a), some (.int (nI i)), o4, o5] [] m1) (fun i m1 => Fr (RB N) m m1 ∧ gi_ m1 (N + 245) = gi_ m (N + 245) ∧ ∀ k, gl_ m1 (N + 249) k = gl_ m (N + 249) k + (nI (if 200 ≤ k ∧ k < 200 + i then f (k - 200) else 0)).toInt64) 12 (fun i m1 hi ⟨h1, h2, h3⟩ => by
    have hX1 := hX.frB h1
    have e1 : gi_ m1 (N + 256) i = nI (f i) := (h1.2.1 _ _ (by rintro (z | z) <;> omega)).trans (hf i hi)
    refine ⟨sl_ m1 (N + 249) (200 + i) (gl_ m1 (N + 249) (200 + i) + (nI (f i)).toInt64), ?_, h1.sl (Or.inl rfl), h2, fun k => ?_⟩
    · show r339 sa sv d 18 _ [] m1 = _
      rw [b339_18, gb_neg (by rw [nI_leE (by omega) (by omega)]; omega)]
      simp (disch := omega) only [gq_true, gb_true, gb_false, true_and, and_true, eq_self, not_false_eq_true, not_true_eq_false, true_or, or_true, false_or, or_false, false_and, and_false, c0_v, ci_v, cl_v, cf_v, pk_mul, nI_add, nI_clamp, nI_lt0, nI_0le, nI_eq0, nI_lt0r, nI_ltE, nI_leE, nI_eqE, nI_m1, in_t, ba0, ba1, Nat.one_ne_zero, Nat.reduceEqDiff, Nat.reduceLeDiff, Nat.add_eq_zero_iff, xk243 hX1, xr243_19 hX1, xk249 hX1, xr243_29 hX1, xk256 hX1, e1]
    · rw [gl_sl]
      by_cases e : k = 200 + i
      · rw [if_pos ⟨rfl, e⟩, h3 (200 + i), if_neg (by omega), nL_0, e, if_pos (by omega), show 200 + i - 200 = i by omega]
      · rw [if_neg (fun z => e z.2), h3 k]
        by_cases e2 : 200 ≤ k ∧ k < 200 + i
        · rw [if_pos e2, if_pos (by omega)]
        · rw [if_neg e2, if_neg (by omega)]) m ⟨Fr.refl _ _, rfl, fun k => by rw [if_neg (by omega), nL_0]⟩
  refine ⟨m', g1.trans ?_, g2, g3, g4⟩
  show r339 sa sv d 18 _ [] m' = _
  rw [b339_18]
  simp (disch := omega) only [gq_true, gb_true, gb_false, true_and, and_true, eq_self, not_false_eq_true, not_true_eq_false, true_or, or_true, false_or, or_false, false_and, and_false, c0_v, ci_v, cl_v, cf_v, pk_mul, nI_add, nI_clamp, nI_lt0, nI_0le, nI_eq0, nI_lt0r, nI_ltE, nI_leE, nI_eqE, nI_m1, in_t, ba0, ba1, Nat.one_ne_zero, Nat.reduceEqDiff, Nat.reduceLeDiff, Nat.add_eq_zero_iff, Nat.le_refl]
end R72
