/-! the reference's steps in a text: own words, names, signs, words, numbers -/
theorem gb_or {α : Type} {p r : Prop} {x y : Option α} : gb_ p x (gb_ r x y) = gb_ (p ∨ r) x y := by
  by_cases h : p
  · rw [gb_pos h, gb_pos (Or.inl h)]
  · rw [gb_neg h]
    by_cases h2 : r
    · rw [gb_pos h2, gb_pos (Or.inr h2)]
    · rw [gb_neg h2, gb_neg (fun z => z.elim h h2)]
section D80
variable {sa sv d N : Nat} {m : am_M} {b : Nat → Nat} {n : Nat} {σ : Er ⊕ Nat}
theorem y241_165 (hX : XS m N) (o2 : Option Value) : r241 sa sv d 165 [some (.ref (N + 243)), some (.int (nI 0)), o2] [.int (nI 0)] m = gb_ (gl_ m (N + 243) 14 = (494 : Int64) ∨ gl_ m (N + 243) 14 = (89 : Int64) ∨ gl_ m (N + 243) 14 = (316784037 : Int64) ∨ gl_ m (N + 243) 14 = (525939 : Int64) ∨ gl_ m (N + 243) 14 = (609949268 : Int64) ∨ gl_ m (N + 243) 14 = (3554917 : Int64) ∨ gl_ m (N + 243) 14 = (609752116 : Int64)) (some (.inl (some (.int (nI 1))), m)) (some (.inl (some (.int (nI 0))), m)) := by
  rw [b241_165]
  simp (disch := omega) only [gq_true, gb_true, gb_false, true_and, and_true, eq_self, not_false_eq_true, not_true_eq_false, true_or, or_true, false_or, or_false, false_and, and_false, c0_v, ci_v, cl_v, cf_v, pk_mul, nI_add, nI_clamp, nI_lt0, nI_0le, nI_eq0, nI_lt0r, nI_ltE, nI_leE, nI_eqE, nI_m1, in_t, ba0, ba1, Nat.one_ne_zero, Nat.reduceEqDiff, Nat.reduceLeDiff, Nat.add_eq_zero_iff, xk243 hX, lgc_eq, gb_or]
theorem y241_165a (o2 : Option Value) (x : Int32) : r241 sa sv d 165 [some (.ref (N + 243)), some (.int (nI 1)), o2] [.int x] m = some (.inl (some (.int (nI 1))), m) := by
  rw [b241_165]
  simp (disch := omega) only [gq_true, gb_true, gb_false, true_and, and_true, eq_self, not_false_eq_true, not_true_eq_false, true_or, or_true, false_or, or_false, false_and, and_false, c0_v, ci_v, cl_v, cf_v, pk_mul, nI_add, nI_clamp, nI_lt0, nI_0le, nI_eq0, nI_lt0r, nI_ltE, nI_leE, nI_eqE, nI_m1, in_t, ba0, ba1, Nat.one_ne_zero, Nat.reduceEqDiff, Nat.reduceLeDiff, Nat.add_eq_zero_iff]
theorem y241_165b (o2 : Option Value) : r241 sa sv d 165 [some (.ref (N + 243)), some (.int (nI 0)), o2] [.int (nI 1)] m = some (.inl (some (.int (nI 1))), m) := by
  rw [b241_165]
  simp (disch := omega) only [gq_true, gb_true, gb_false, true_and, and_true, eq_self, not_false_eq_true, not_true_eq_false, true_or, or_true, false_or, or_false, false_and, and_false, c0_v, ci_v, cl_v, cf_v, pk_mul, nI_add, nI_clamp, nI_lt0, nI_0le, nI_eq0, nI_lt0r, nI_ltE, nI_leE, nI_eqE, nI_m1, in_t, ba0, ba1, Nat.one_ne_zero, Nat.reduceEqDiff, Nat.reduceLeDiff, Nat.add_eq_zero_iff]
theorem y241 (hX : XS m N) : am_ca sa sv (d + 1) 241 [.ref (N + 243)] m = some (.inl (some (.int (tr_ (decide (¬ wki (gl_ m (N + 243) 14) = 2))))), m) := by
  have hq : ∀ k, k < 21 → ∀ x, x = qi_ k → gl_ m (N + 243) 14 = x → ¬ wki (gl_ m (N + 243) 14) = 2 := fun k hk x hx h => by
    have := (wki_q hk (gl_ m (N + 243) 14)).mpr (h.trans hx)
    omega
  rw [c241, b241_0]
  simp (disch := omega) only [gq_true, gb_true, gb_false, true_and, and_true, eq_self, not_false_eq_true, not_true_eq_false, true_or, or_true, false_or, or_false, false_and, and_false, c0_v, ci_v, cl_v, cf_v, pk_mul, nI_add, nI_clamp, nI_lt0, nI_0le, nI_eq0, nI_lt0r, nI_ltE, nI_leE, nI_eqE, nI_m1, in_t, ba0, ba1, Nat.one_ne_zero, Nat.reduceEqDiff, Nat.reduceLeDiff, Nat.add_eq_zero_iff, xk243 hX, lgc_eq, gb_or, b241_82, y241_165a, gb_same, y241_165 hX, y241_165b]
  by_cases p1 : gl_ m (N + 243) 14 = (16835749 : Int64) ∨ gl_ m (N + 243) 14 = (12748404 : Int64) ∨ gl_ m (N + 243) 14 = (769611 : Int64) ∨ gl_ m (N + 243) 14 = (3659954 : Int64) ∨ gl_ m (N + 243) 14 = (486 : Int64) ∨ gl_ m (N + 243) 14 = (639025541 : Int64) ∨ gl_ m (N + 243) 14 = (302 : Int64) ∨ gl_ m (N + 243) 14 = (20459828 : Int64) ∨ gl_ m (N + 243) 14 = (215533 : Int64) ∨ gl_ m (N + 243) 14 = (54109422 : Int64) ∨ gl_ m (N + 243) 14 = (655 : Int64) ∨ gl_ m (N + 243) 14 = (22499628 : Int64) ∨ gl_ m (N + 243) 14 = (1231075429 : Int64) ∨ gl_ m (N + 243) 14 = (591493 : Int64) ∨ gl_ m (N + 243) 14 = (494 : Int64) ∨ gl_ m (N + 243) 14 = (89 : Int64) ∨ gl_ m (N + 243) 14 = (316784037 : Int64) ∨ gl_ m (N + 243) 14 = (525939 : Int64) ∨ gl_ m (N + 243) 14 = (609949268 : Int64) ∨ gl_ m (N + 243) 14 = (3554917 : Int64) ∨ gl_ m (N + 243) 14 = (609752116 : Int64)
  · rw [gb_pos p1]
    have : ¬ wki (gl_ m (N + 243) 14) = 2 := by
      rcases p1 with h | h | h | h | h | h | h | h | h | h | h | h | h | h | h | h | h | h | h | h | h
      · exact hq 0 (by decide) _ rfl h
      · exact hq 1 (by decide) _ rfl h
      · exact hq 2 (by decide) _ rfl h
      · exact hq 3 (by decide) _ rfl h
      · exact hq 4 (by decide) _ rfl h
      · exact hq 5 (by decide) _ rfl h
      · exact hq 6 (by decide) _ rfl h
      · exact hq 7 (by decide) _ rfl h
      · exact hq 8 (by decide) _ rfl h
      · exact hq 9 (by decide) _ rfl h
      · exact hq 10 (by decide) _ rfl h
      · exact hq 11 (by decide) _ rfl h
      · exact hq 12 (by decide) _ rfl h
      · exact hq 13 (by decide) _ rfl h
      · exact hq 14 (by decide) _ rfl h
      · exact hq 15 (by decide) _ rfl h
      · exact hq 16 (by decide) _ rfl h
      · exact hq 17 (by decide) _ rfl h
      · exact hq 18 (by decide) _ rfl h
      · exact hq 19 (by decide) _ rfl h
      · exact hq 20 (by decide) _ rfl h
    rw [decide_eq_true this]; rfl
  · rw [gb_neg p1]
    have : wki (gl_ m (N + 243) 14) = 2 := by
      rcases wki_2 (gl_ m (N + 243) 14) with h | ⟨h, h2⟩
      · exact h
      · exfalso
        have h3 := (wki_q (show wki (gl_ m (N + 243) 14) - 7 < 21 by omega) (gl_ m (N + 243) 14)).mp (by omega)
        have h5 : wki (gl_ m (N + 243) 14) - 7 < 21 := by omega
        generalize wki (gl_ m (N + 243) 14) - 7 = k at h3 h5
        have h4 : k = 0 ∨ k = 1 ∨ k = 2 ∨ k = 3 ∨ k = 4 ∨ k = 5 ∨ k = 6 ∨ k = 7 ∨ k = 8 ∨ k = 9 ∨ k = 10 ∨ k = 11 ∨ k = 12 ∨ k = 13 ∨ k = 14 ∨ k = 15 ∨ k = 16 ∨ k = 17 ∨ k = 18 ∨ k = 19 ∨ k = 20 := by omega
        rcases h4 with rfl | rfl | rfl | rfl | rfl | rfl | rfl | rfl | rfl | rfl | rfl | rfl | rfl | rfl | rfl | rfl | rfl | rfl | rfl | rfl | rfl
        · exact p1 (Or.inl h3)
        · exact p1 (Or.inr (Or.inl h3))
        · exact p1 (Or.inr (Or.inr (Or.inl h3)))
        · exact p1 (Or.inr (Or.inr (Or.inr (Or.inl h3))))
        · exact p1 (Or.inr (Or.inr (Or.inr (Or.inr (Or.inl h3)))))
        · exact p1 (Or.inr (Or.inr (Or.inr (Or.inr (Or.inr (Or.inl h3))))))
        · exact p1 (Or.inr (Or.inr (Or.inr (Or.inr (Or.inr (Or.inr (Or.inl h3)))))))
        · exact p1 (Or.inr (Or.inr (Or.inr (Or.inr (Or.inr (Or.inr (Or.inr (Or.inl h3))))))))
        · exact p1 (Or.inr (Or.inr (Or.inr (Or.inr (Or.inr (Or.inr (Or.inr (Or.inr (Or.inl h3)))))))))
        · exact p1 (Or.inr (Or.inr (Or.inr (Or.inr (Or.inr (Or.inr (Or.inr (Or.inr (Or.inr (Or.inl h3))))))))))
        · exact p1 (Or.inr (Or.inr (Or.inr (Or.inr (Or.inr (Or.inr (Or.inr (Or.inr (Or.inr (Or.inr (Or.inl h3)))))))))))
        · exact p1 (Or.inr (Or.inr (Or.inr (Or.inr (Or.inr (Or.inr (Or.inr (Or.inr (Or.inr (Or.inr (Or.inr (Or.inl h3))))))))))))
        · exact p1 (Or.inr (Or.inr (Or.inr (Or.inr (Or.inr (Or.inr (Or.inr (Or.inr (Or.inr (Or.inr (Or.inr (Or.inr (Or.inl h3)))))))))))))
        · exact p1 (Or.inr (Or.inr (Or.inr (Or.inr (Or.inr (Or.inr (Or.inr (Or.inr (Or.inr (Or.inr (Or.inr (Or.inr (Or.inr (Or.inl h3))))))))))))))
        · exact p1 (Or.inr (Or.inr (Or.inr (Or.inr (Or.inr (Or.inr (Or.inr (Or.inr (Or.inr (Or.inr (Or.inr (Or.inr (Or.inr (Or.inr (Or.inl h3)))))))))))))))
        · exact p1 (Or.inr (Or.inr (Or.inr (Or.inr (Or.inr (Or.inr (Or.inr (Or.inr (Or.inr (Or.inr (Or.inr (Or.inr (Or.inr (Or.inr (Or.inr (Or.inl h3))))))))))))))))
        · exact p1 (Or.inr (Or.inr (Or.inr (Or.inr (Or.inr (Or.inr (Or.inr (Or.inr (Or.inr (Or.inr (Or.inr (Or.inr (Or.inr (Or.inr (Or.inr (Or.inr (Or.inl h3)))))))))))))))))
        · exact p1 (Or.inr (Or.inr (Or.inr (Or.inr (Or.inr (Or.inr (Or.inr (Or.inr (Or.inr (Or.inr (Or.inr (Or.inr (Or.inr (Or.inr (Or.inr (Or.inr (Or.inr (Or.inl h3))))))))))))))))))
        · exact p1 (Or.inr (Or.inr (Or.inr (Or.inr (Or.inr (Or.inr (Or.inr (Or.inr (Or.inr (Or.inr (Or.inr (Or.inr (Or.inr (Or.inr (Or.inr (Or.inr (Or.inr (Or.inr (Or.inl h3)))))))))))))))))))
        · exact p1 (Or.inr (Or.inr (Or.inr (Or.inr (Or.inr (Or.inr (Or.inr (Or.inr (Or.inr (Or.inr (Or.inr (Or.inr (Or.inr (Or.inr (Or.inr (Or.inr (Or.inr (Or.inr (Or.inr (Or.inl h3))))))))))))))))))))
        · exact p1 (Or.inr (Or.inr (Or.inr (Or.inr (Or.inr (Or.inr (Or.inr (Or.inr (Or.inr (Or.inr (Or.inr (Or.inr (Or.inr (Or.inr (Or.inr (Or.inr (Or.inr (Or.inr (Or.inr (Or.inr (h3)))))))))))))))))))))
    rw [decide_eq_false (fun z => z this)]; rfl
end D80
