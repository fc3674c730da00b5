/-! a sample is read: the reference -/
section R89
variable {sa sv d N T n i B : Nat} {m : am_M} {b : Nat → Nat} {s s' : Nat → Int32} {q q' : Nat → Int64} {σ : Er ⊕ Nat}
theorem y273 (hR : RS m N s q) (hC : WC s) (hW : WW s) (v t p : Nat) (ht : t < cN s 1) (hv : v < 12) (hp : p ≤ 90) : am_ca sa sv (d + 2) 273 [.ref (N + 243), .int (nI v), .int (nI t), .int (nI p)] m = some (.inl (some (.int (nI (whS s v t p)))), m) := by
  have hnw := isN_lt (wc_nw hC) (by decide)
  obtain ⟨t59, hc⟩ := (ww_no hW t ht).c (by decide)
  have hsb := ww_os hW t ht
  have hX := hR.1
  have t60 : ∀ k, k < cN s (59 + 48 * t) → s (60 + 48 * t + k) = nI (cN s (60 + 48 * t + k)) ∧ cN s (60 + 48 * t + k) < t := fun k hk => (ww_ow hW t k ht hk).c (by omega)
  have t63 : ∀ k, k < cN s (59 + 48 * t) → s (63 + 48 * t + k) = nI (cN s (63 + 48 * t + k)) ∧ cN s (63 + 48 * t + k) < 91 := fun k hk => (ww_oc hW t k ht hk).c (by decide)
  have sb : ∀ k, k ≤ cN s (59 + 48 * t) → sum_ (fun i => cN s (63 + 48 * t + i)) k ≤ 91 * k := by
    intro k
    induction k with
    | zero => intro _; exact Nat.le_refl _
    | succ k ih =>
      intro hk
      have h1 := ih (by omega)
      have h2 := (t63 k (by omega)).2
      show sum_ (fun i => cN s (63 + 48 * t + i)) k + cN s (63 + 48 * t + k) ≤ _
      omega
  have step : ∀ j k g, k + j = cN s (59 + 48 * t) → ((g = 0 ∧ (t ≤ v ∨ ∃ j, j < k ∧ cN s (60 + 48 * t + j) = v)) ∨ (g = 1 ∧ ¬ (t ≤ v ∨ ∃ j, j < k ∧ cN s (60 + 48 * t + j) = v))) → r273 sa sv (d + 1) 18 [some (.ref (N + 243)), some (.int (nI v)), some (.int (nI t)), some (.int (nI p)), some (.int (nI g)), some (.int (nI (p + sum_ (fun i => cN s (63 + 48 * t + i)) k))), some (.int (nI k))] [] m = some (.inl (some (.int (nI (whS s v t p)))), m) := by
    intro j
    induction j with
    | zero =>
      intro k g hk hg
      obtain rfl : k = cN s (59 + 48 * t) := by omega
      rw [b273_18]
      simp (disch := omega) only [gq_true, gb_true, gb_false, true_and, and_true, eq_self, not_false_eq_true, not_true_eq_false, true_or, or_true, false_or, or_false, false_and, and_false, c0_v, ci_v, cl_v, cf_v, pk_mul, nI_add, nI_clamp, nI_lt0, nI_0le, nI_eq0, nI_lt0r, nI_ltE, nI_leE, nI_eqE, nI_m1, in_t, ba0, ba1, Nat.one_ne_zero, Nat.reduceEqDiff, Nat.reduceLeDiff, Nat.add_eq_zero_iff, xk243 hX, y256 hR t 41 (59 + 48 * t) (by omega) (by omega), t59, Nat.le_refl]
      have tb := orF_tb (fun i => cN s (60 + 48 * t + i)) v (cN s (59 + 48 * t))
      unfold whS
      rcases hg with ⟨rfl, hg⟩ | ⟨rfl, hg⟩
      · rw [gb_pos rfl]
        rcases hg with hg | hg
        · rw [if_pos hg]
        · rw [decide_eq_true hg] at tb
          rw [tb, if_pos rfl]
          split <;> rfl
      · rw [gb_neg (by decide), if_neg (fun z => hg (Or.inl z))]
        rw [decide_eq_false (fun z => hg (Or.inr z))] at tb
        rw [tb, if_neg (by decide)]
        by_cases e : p + sum_ (fun i => cN s (63 + 48 * t + i)) (cN s (59 + 48 * t)) ≤ 90
        · rw [gb_pos e, if_pos (by omega)]
        · rw [gb_neg e, if_neg (by omega)]
    | succ j ih =>
      intro k g hk hg
      have h1 := t60 k (by omega)
      have h2 := t63 k (by omega)
      have hs := sb k (by omega)
      have e53 : ∀ g', (t ≤ v ∨ ∃ j, j < k + 1 ∧ cN s (60 + 48 * t + j) = v) → r273 sa sv (d + 1) 53 [some (.ref (N + 243)), some (.int (nI v)), some (.int (nI t)), some (.int (nI p)), some (.int (nI g')), some (.int (nI (p + sum_ (fun i => cN s (63 + 48 * t + i)) k))), some (.int (nI k))] [] m = some (.inl (some (.int (nI (whS s v t p)))), m) := fun g' hg' => by
        rw [b273_53]
        simp (disch := omega) only [gq_true, gb_true, gb_false, true_and, and_true, eq_self, not_false_eq_true, not_true_eq_false, true_or, or_true, false_or, or_false, false_and, and_false, c0_v, ci_v, cl_v, cf_v, pk_mul, nI_add, nI_clamp, nI_lt0, nI_0le, nI_eq0, nI_lt0r, nI_ltE, nI_leE, nI_eqE, nI_m1, in_t, ba0, ba1, Nat.one_ne_zero, Nat.reduceEqDiff, Nat.reduceLeDiff, Nat.add_eq_zero_iff, xk243 hX, y256 hR t (45 + k) (63 + 48 * t + k) (by omega) (by omega), h2.1]
        have := ih (k + 1) 0 (by omega) (Or.inl ⟨rfl, hg'⟩)
        rw [Nat.add_assoc]
        exact this
      rw [b273_18]
      simp (disch := omega) only [gq_true, gb_true, gb_false, true_and, and_true, eq_self, not_false_eq_true, not_true_eq_false, true_or, or_true, false_or, or_false, false_and, and_false, c0_v, ci_v, cl_v, cf_v, pk_mul, nI_add, nI_clamp, nI_lt0, nI_0le, nI_eq0, nI_lt0r, nI_ltE, nI_leE, nI_eqE, nI_m1, in_t, ba0, ba1, Nat.one_ne_zero, Nat.reduceEqDiff, Nat.reduceLeDiff, Nat.add_eq_zero_iff, xk243 hX, y256 hR t 41 (59 + 48 * t) (by omega) (by omega), t59, eq_false (show ¬ cN s (59 + 48 * t) ≤ k by omega), e53]
      rcases hg with ⟨rfl, hg⟩ | ⟨rfl, hg⟩
      · rw [gb_pos rfl]
        exact e53 0 (by
          rcases hg with hg | ⟨j', h3, h4⟩
          · exact Or.inl hg
          · exact Or.inr ⟨j', by omega, h4⟩)
      · rw [gb_neg (by decide)]
        simp (disch := omega) only [gq_true, gb_true, gb_false, true_and, and_true, eq_self, not_false_eq_true, not_true_eq_false, true_or, or_true, false_or, or_false, false_and, and_false, c0_v, ci_v, cl_v, cf_v, pk_mul, nI_add, nI_clamp, nI_lt0, nI_0le, nI_eq0, nI_lt0r, nI_ltE, nI_leE, nI_eqE, nI_m1, in_t, ba0, ba1, Nat.one_ne_zero, Nat.reduceEqDiff, Nat.reduceLeDiff, Nat.add_eq_zero_iff, xk243 hX, y256 hR t (42 + k) (60 + 48 * t + k) (by omega) (by omega), h1.1]
        by_cases e : cN s (60 + 48 * t + k) = v
        · rw [gb_pos e]
          exact e53 1 (Or.inr ⟨k, by omega, e⟩)
        · rw [gb_neg e]
          simp (disch := omega) only [gq_true, gb_true, gb_false, true_and, and_true, eq_self, not_false_eq_true, not_true_eq_false, true_or, or_true, false_or, or_false, false_and, and_false, c0_v, ci_v, cl_v, cf_v, pk_mul, nI_add, nI_clamp, nI_lt0, nI_0le, nI_eq0, nI_lt0r, nI_ltE, nI_leE, nI_eqE, nI_m1, in_t, ba0, ba1, Nat.one_ne_zero, Nat.reduceEqDiff, Nat.reduceLeDiff, Nat.add_eq_zero_iff, xk243 hX, y256 hR t (45 + k) (63 + 48 * t + k) (by omega) (by omega), h2.1]
          have := ih (k + 1) 1 (by omega) (Or.inr ⟨rfl, by
            rintro (h3 | ⟨j', h3, h4⟩)
            · exact hg (Or.inl h3)
            · by_cases e2 : j' = k
              · subst e2; exact e h4
              · exact hg (Or.inr ⟨j', by omega, h4⟩)⟩)
          rw [Nat.add_assoc]
          exact this
  rw [c273, b273_0]
  simp (disch := omega) only [gq_true, gb_true, gb_false, true_and, and_true, eq_self, not_false_eq_true, not_true_eq_false, true_or, or_true, false_or, or_false, false_and, and_false, c0_v, ci_v, cl_v, cf_v, pk_mul, nI_add, nI_clamp, nI_lt0, nI_0le, nI_eq0, nI_lt0r, nI_ltE, nI_leE, nI_eqE, nI_m1, in_t, ba0, ba1, Nat.one_ne_zero, Nat.reduceEqDiff, Nat.reduceLeDiff, Nat.add_eq_zero_iff]
  by_cases e : t ≤ v
  · rw [gb_pos e]
    exact step (cN s (59 + 48 * t)) 0 0 (Nat.zero_add _) (Or.inl ⟨rfl, Or.inl e⟩)
  · rw [gb_neg e]
    exact step (cN s (59 + 48 * t)) 0 1 (Nat.zero_add _) (Or.inr ⟨rfl, fun z => by rcases z with z | ⟨j, z, -⟩ <;> omega⟩)
end R89
