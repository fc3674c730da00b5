/-! does an assignment fit: the reference -/
section R89
variable {sa sv d N T n i B : Nat} {m : am_M} {b : Nat → Nat} {s s' : Nat → Int32} {q q' : Nat → Int64} {σ : Er ⊕ Nat}
theorem y278 (hR : RS m N s q) (hC : WC s) (hA : WA s) (p w t c f u : Nat) (hp : p < 2 ^ 20) (hw : w < 2 ^ 20) (ht : t < 2 ^ 20) (hc : c ≤ 100) (hf : f < 10000) (hu : u < 10000) : am_ca sa sv (d + 4) 278 [.ref (N + 243), .int (nI p), .int (nI w), .int (nI t), .int (nI c), .int (nI f), .int (nI u)] m = some (.inl (some (.int (nI (whA s p w t c f u)))), m) := by
  have hX := hR.1
  obtain ⟨t2, hna⟩ := (wc_na hC).c (by decide)
  have na : gi_ m (N + 245) 2 = nI (cN s 2) := (rs hR 2).trans t2
  have hl : ∀ day, lv_ s p w day (cN s 2) ≤ 100 := fun day => wa_s hA p w day
  have step : ∀ j k g (o9 : Option Value), k + j = cN s 2 → ((g = 0 ∧ 100 < mst_ s p w f u k + c) ∨ (g = 1 ∧ mst_ s p w f u k + c ≤ 100)) → r278 sa sv (d + 3) 40 [some (.ref (N + 243)), some (.int (nI p)), some (.int (nI w)), some (.int (nI t)), some (.int (nI c)), some (.int (nI f)), some (.int (nI u)), some (.int (nI g)), some (.int (nI k)), o9] [] m = some (.inl (some (.int (nI (if mst_ s p w f u (cN s 2) + c ≤ 100 then 0 else 6)))), m) := by
    intro j
    induction j with
    | zero =>
      intro k g o9 hk hg
      obtain rfl : k = cN s 2 := by omega
      rw [b278_40]
      simp (disch := omega) only [gq_true, gb_true, gb_false, true_and, and_true, eq_self, not_false_eq_true, not_true_eq_false, true_or, or_true, false_or, or_false, false_and, and_false, c0_v, ci_v, cl_v, cf_v, pk_mul, nI_add, nI_clamp, nI_lt0, nI_0le, nI_eq0, nI_lt0r, nI_ltE, nI_leE, nI_eqE, nI_m1, in_t, ba0, ba1, Nat.one_ne_zero, Nat.reduceEqDiff, Nat.reduceLeDiff, Nat.add_eq_zero_iff, xk243 hX, xr243_15 hX, xk245 hX, na, Nat.le_refl]
      rcases hg with ⟨rfl, hg⟩ | ⟨rfl, hg⟩
      · rw [gb_pos rfl, if_neg (by omega)]
      · rw [gb_neg (by decide), if_pos hg]
    | succ j ih =>
      intro k g o9 hk hg
      obtain ⟨t4, h4⟩ := (wa_f hA k (by omega)).c (by decide)
      have e257 := y257 (sa := sa) (sv := sv) (d := d + 2) hR k 4 (by omega)
      rw [t4] at e257
      have hm : mst_ s p w f u (k + 1) = if f < cN s (594 + 6 * k + 4) ∧ cN s (594 + 6 * k + 4) < u then max (mst_ s p w f u k) (lv_ s p w (cN s (594 + 6 * k + 4)) (cN s 2)) else mst_ s p w f u k := rfl
      have hmf := mst_f (s := s) p w f u k
      generalize hst : cN s (594 + 6 * k + 4) = st at *
      have e276 := y276 (sa := sa) (sv := sv) (d := d) hR hC hA p w st (by omega) (by omega) (by omega)
      have hls := hl st
      rw [b278_40]
      simp (disch := omega) only [gq_true, gb_true, gb_false, true_and, and_true, eq_self, not_false_eq_true, not_true_eq_false, true_or, or_true, false_or, or_false, false_and, and_false, c0_v, ci_v, cl_v, cf_v, pk_mul, nI_add, nI_clamp, nI_lt0, nI_0le, nI_eq0, nI_lt0r, nI_ltE, nI_leE, nI_eqE, nI_m1, in_t, ba0, ba1, Nat.one_ne_zero, Nat.reduceEqDiff, Nat.reduceLeDiff, Nat.add_eq_zero_iff, xk243 hX, xr243_15 hX, xk245 hX, na, eq_false (show ¬ cN s 2 ≤ k by omega), e257, e276]
      rcases hg with ⟨rfl, hg⟩ | ⟨rfl, hg⟩
      · rw [gb_pos rfl]
        exact ih (k + 1) 0 _ (by omega) (Or.inl ⟨rfl, by rw [hm]; split <;> omega⟩)
      · rw [gb_neg (by decide)]
        by_cases q1 : st < f
        · rw [gb_pos q1]
          exact ih (k + 1) 1 _ (by omega) (Or.inr ⟨rfl, by rw [hm, if_neg (by omega)]; exact hg⟩)
        · rw [gb_neg q1]
          by_cases q2 : u ≤ st
          · rw [gb_pos q2]
            exact ih (k + 1) 1 _ (by omega) (Or.inr ⟨rfl, by rw [hm, if_neg (by omega)]; exact hg⟩)
          · rw [gb_neg q2]
            by_cases q3 : 100 < lv_ s p w st (cN s 2) + c
            · rw [gb_pos q3]
              exact ih (k + 1) 0 _ (by omega) (Or.inl ⟨rfl, by
                rw [hm]
                by_cases q4 : st = f
                · rw [q4] at q3; omega
                · rw [if_pos (by omega)]; omega⟩)
            · rw [gb_neg q3]
              exact ih (k + 1) 1 _ (by omega) (Or.inr ⟨rfl, by rw [hm]; split <;> omega⟩)
  have e276 := y276 (sa := sa) (sv := sv) (d := d) hR hC hA p w f (by omega) (by omega) (by omega)
  have hlf := hl f
  rw [c278, b278_0]
  simp (disch := omega) only [gq_true, gb_true, gb_false, true_and, and_true, eq_self, not_false_eq_true, not_true_eq_false, true_or, or_true, false_or, or_false, false_and, and_false, c0_v, ci_v, cl_v, cf_v, pk_mul, nI_add, nI_clamp, nI_lt0, nI_0le, nI_eq0, nI_lt0r, nI_ltE, nI_leE, nI_eqE, nI_m1, in_t, ba0, ba1, Nat.one_ne_zero, Nat.reduceEqDiff, Nat.reduceLeDiff, Nat.add_eq_zero_iff, xk243 hX, e276]
  unfold whA
  by_cases q1 : p = t
  · rw [if_pos q1, gb_pos q1]
  · rw [if_neg q1, gb_neg q1]
    by_cases q2 : f < u
    · rw [if_pos q2, gb_pos q2]
      by_cases q3 : 100 < lv_ s p w f (cN s 2) + c
      · rw [gb_pos q3]
        exact step (cN s 2) 0 0 _ (Nat.zero_add _) (Or.inl ⟨rfl, q3⟩)
      · rw [gb_neg q3]
        exact step (cN s 2) 0 1 _ (Nat.zero_add _) (Or.inr ⟨rfl, by show lv_ s p w f (cN s 2) + c ≤ 100; omega⟩)
    · rw [if_neg q2, gb_neg q2]
end R89
