/-! a script is done (reference): lists and repeats -/
section R89
variable {sa sv d D N B p p' inner pc : Nat} {m m' m1 : am_M} {s g : Nat → Int32} {q : Nat → Int64} {x : Ins} {t : EX} {C A Z : List Ins} {r : Option am_R} {y : Bool × EX}
theorem OuR.tr (hf : Fr (PZr N) m m1) (hst : ∀ i, i < inner → gi_ m1 (N + 263) i = gi_ m (N + 263) i ∧ gi_ m1 (N + 264) i = gi_ m (N + 264) i) (h : OuR sa sv D N B s C inner pc m1 r y) : OuR sa sv D N B s C inner pc m r y := by
  rcases h with ⟨m', o5, h1, h2, h3, h4, h5⟩ | ⟨m', h1, h2, h3, h4⟩
  · exact Or.inl ⟨m', o5, h1, h2, hf.trans h3, h4, fun i hi => ⟨(h5 i hi).1.trans (hst i hi).1, (h5 i hi).2.trans (hst i hi).2⟩⟩
  · exact Or.inr ⟨m', h1, h2, hf.trans h3, h4⟩
theorem C_at (hC : C = A ++ x :: Z) : C[A.length]? = some x := by
  rw [hC, List.getElem?_append_right (Nat.le_refl _), Nat.sub_self]
  rfl
/-- a repeat begins -/
theorem rst_rp (h : YY m N B s C t) (n z : Nat) (hc : C[pc]? = some (27, n, z)) (hi : inner < 2) (h40 : ¬ 40 ≤ t.2.2) (o5 : Option Value) : rst sa sv D N t inner pc m o5 = rst sa sv D N t (inner + 1) (pc + 1) (si_ (si_ m (N + 263) inner (nI pc)) (N + 264) inner (nI n)) o5 := by
  have hX := h.1.1
  have c60 := h.2.2.2.1
  have hpc : pc < C.length := by
    rcases Nat.lt_or_ge pc C.length with z | z
    · exact z
    · rw [List.getElem?_eq_none z] at hc
      cases hc
  obtain ⟨g0, g1, g2⟩ := h.2.2.1.2 pc _ hc
  have g0' : gi_ m (N + 260) pc = nI 5 := g0
  have g1' : gi_ m (N + 261) pc = nI n := g1 (by show ¬ (27 : Nat) = 26; decide) (by show ¬ (27 : Nat) = 6; decide)
  have e1 : gi_ (si_ m (N + 263) inner (nI pc)) (N + 261) pc = nI n := (if_neg (by omega)).trans g1'
  have n10 : (nI 1 = 0) = False := eq_false (by decide)
  have z260 : (N + 260 = 0) = False := eq_false (by omega)
  have z261 : (N + 261 = 0) = False := eq_false (by omega)
  have z263 : (N + 263 = 0) = False := eq_false (by omega)
  have z264 : (N + 264 = 0) = False := eq_false (by omega)
  unfold rst
  rw [b354_9]
  simp (disch := omega) only [gq_true, gb_true, gb_false, true_and, and_true, eq_self, not_false_eq_true, not_true_eq_false, true_or, or_true, false_or, or_false, false_and, and_false, c0_v, ci_v, cl_v, cf_v, pk_mul, nI_add, nI_clamp, nI_lt0, nI_0le, nI_eq0, nI_lt0r, nI_ltE, nI_leE, nI_eqE, nI_m1, in_t, ba0, ba1, Nat.one_ne_zero, Nat.reduceEqDiff, Nat.reduceLeDiff, Nat.add_eq_zero_iff, n10, xk243 hX, h.2.2.1.1, eq_false (show ¬ C.length ≤ pc by omega), eq_false h40, xr243_34 hX, xk260 hX, z260, g0', xr243_37 hX, xk263 hX, z263, xr243_38 hX, z264, xr243_35 hX, xk261 hX, z261, xk264 hX, e1]
/-- a repeat's end -/
theorem rst_en (h : YY m N B s C t) (z1 z2 c : Nat) (hc : C[pc]? = some (6, z1, z2)) (hi : inner < 2) (h40 : ¬ 40 ≤ t.2.2) (b0 : Nat) (hb : gi_ m (N + 263) inner = nI b0) (hl : gi_ m (N + 264) inner = nI (c + 1)) (hc20 : c < 20) (o5 : Option Value) : ∃ o6, rst sa sv (D + 1) N t (inner + 1) pc m o5 = if c = 0 then rst sa sv (D + 1) N t inner (pc + 1) (si_ m (N + 264) inner (nI c)) o6 else rst sa sv (D + 1) N t (inner + 1) (b0 + 1) (si_ m (N + 264) inner (nI c)) o6 := by
  have hX := h.1.1
  have c60 := h.2.2.2.1
  have hpc : pc < C.length := by
    rcases Nat.lt_or_ge pc C.length with z | z
    · exact z
    · rw [List.getElem?_eq_none z] at hc
      cases hc
  obtain ⟨g0, -, -⟩ := h.2.2.1.2 pc _ hc
  have g0' : gi_ m (N + 260) pc = nI 6 := g0
  have e1 : gi_ (si_ m (N + 264) inner (nI c)) (N + 264) inner = nI c := if_pos ⟨rfl, rfl⟩
  have e2 : gi_ (si_ m (N + 264) inner (nI c)) (N + 263) inner = nI b0 := (if_neg (by omega)).trans hb
  have f : Fr (PZr N) m (si_ m (N + 264) inner (nI c)) := (Fr.refl _ _).si (Or.inr (Or.inr rfl))
  have hX1 := hX.frg f (fun a k z => z.xf)
  have n10 : (nI 1 = 0) = False := eq_false (by decide)
  have n00 : (nI 0 = 0) = True := eq_true rfl
  have z260 : (N + 260 = 0) = False := eq_false (by omega)
  have z263 : (N + 263 = 0) = False := eq_false (by omega)
  have z264 : (N + 264 = 0) = False := eq_false (by omega)
  by_cases c0 : c = 0
  · refine ⟨some (.int (nI 0)), ?_⟩
    rw [if_pos c0]
    unfold rst
    rw [b354_9]
    simp (disch := omega) only [gq_true, gb_true, gb_false, true_and, and_true, eq_self, not_false_eq_true, not_true_eq_false, true_or, or_true, false_or, or_false, false_and, and_false, c0_v, ci_v, cl_v, cf_v, pk_mul, nI_add, nI_clamp, nI_lt0, nI_0le, nI_eq0, nI_lt0r, nI_ltE, nI_leE, nI_eqE, nI_m1, in_t, ba0, ba1, Nat.one_ne_zero, Nat.reduceEqDiff, Nat.reduceLeDiff, Nat.add_eq_zero_iff, n10, xk243 hX, h.2.2.1.1, eq_false (show ¬ C.length ≤ pc by omega), eq_false h40, xr243_34 hX, xk260 hX, z260, g0', xr243_38 hX, xk264 hX, z264, nI_p1, hl, e1, c0, Nat.le_refl, Nat.reduceEqDiff]
    rw [c0] at e1 e2
    simp (disch := omega) only [gq_true, gb_true, gb_false, true_and, and_true, eq_self, not_false_eq_true, not_true_eq_false, true_or, or_true, false_or, or_false, false_and, and_false, c0_v, ci_v, cl_v, cf_v, pk_mul, nI_add, nI_clamp, nI_lt0, nI_0le, nI_eq0, nI_lt0r, nI_ltE, nI_leE, nI_eqE, nI_m1, in_t, ba0, ba1, Nat.one_ne_zero, Nat.reduceEqDiff, Nat.reduceLeDiff, Nat.add_eq_zero_iff, nI_le0, Nat.le_refl, e1]
    rw [b354_105]
    simp (disch := omega) only [gq_true, gb_true, gb_false, true_and, and_true, eq_self, not_false_eq_true, not_true_eq_false, true_or, or_true, false_or, or_false, false_and, and_false, c0_v, ci_v, cl_v, cf_v, pk_mul, nI_add, nI_clamp, nI_lt0, nI_0le, nI_eq0, nI_lt0r, nI_ltE, nI_leE, nI_eqE, nI_m1, in_t, ba0, ba1, Nat.one_ne_zero, Nat.reduceEqDiff, Nat.reduceLeDiff, Nat.add_eq_zero_iff]
    rw [b354_128]
    simp (disch := omega) only [gq_true, gb_true, gb_false, true_and, and_true, eq_self, not_false_eq_true, not_true_eq_false, true_or, or_true, false_or, or_false, false_and, and_false, c0_v, ci_v, cl_v, cf_v, pk_mul, nI_add, nI_clamp, nI_lt0, nI_0le, nI_eq0, nI_lt0r, nI_ltE, nI_leE, nI_eqE, nI_m1, in_t, ba0, ba1, Nat.one_ne_zero, Nat.reduceEqDiff, Nat.reduceLeDiff, Nat.add_eq_zero_iff, y223_1, nI_p1]
  · refine ⟨some (.int (nI 1)), ?_⟩
    rw [if_neg c0]
    have m0 : nI (inner + 1) - nI 0 = nI (inner + 1) := Int32.sub_zero _
    unfold rst
    rw [b354_9]
    simp (disch := omega) only [gq_true, gb_true, gb_false, true_and, and_true, eq_self, not_false_eq_true, not_true_eq_false, true_or, or_true, false_or, or_false, false_and, and_false, c0_v, ci_v, cl_v, cf_v, pk_mul, nI_add, nI_clamp, nI_lt0, nI_0le, nI_eq0, nI_lt0r, nI_ltE, nI_leE, nI_eqE, nI_m1, in_t, ba0, ba1, Nat.one_ne_zero, Nat.reduceEqDiff, Nat.reduceLeDiff, Nat.add_eq_zero_iff, n10, xk243 hX, h.2.2.1.1, eq_false (show ¬ C.length ≤ pc by omega), eq_false h40, xr243_34 hX, xk260 hX, z260, g0', xr243_38 hX, xk264 hX, z264, nI_p1, hl, e1, nI_le0, eq_false c0, Nat.reduceEqDiff]
    rw [b354_105]
    simp (disch := omega) only [gq_true, gb_true, gb_false, true_and, and_true, eq_self, not_false_eq_true, not_true_eq_false, true_or, or_true, false_or, or_false, false_and, and_false, c0_v, ci_v, cl_v, cf_v, pk_mul, nI_add, nI_clamp, nI_lt0, nI_0le, nI_eq0, nI_lt0r, nI_ltE, nI_leE, nI_eqE, nI_m1, in_t, ba0, ba1, Nat.one_ne_zero, Nat.reduceEqDiff, Nat.reduceLeDiff, Nat.add_eq_zero_iff, n10, xk243 hX1, xr243_37 hX1, xk263 hX1, z263, nI_p1, e2]
    rw [b354_128]
    simp (disch := omega) only [gq_true, gb_true, gb_false, true_and, and_true, eq_self, not_false_eq_true, not_true_eq_false, true_or, or_true, false_or, or_false, false_and, and_false, c0_v, ci_v, cl_v, cf_v, pk_mul, nI_add, nI_clamp, nI_lt0, nI_0le, nI_eq0, nI_lt0r, nI_ltE, nI_leE, nI_eqE, nI_m1, in_t, ba0, ba1, Nat.one_ne_zero, Nat.reduceEqDiff, Nat.reduceLeDiff, Nat.add_eq_zero_iff, n10, y223_0, m0]
end R89
