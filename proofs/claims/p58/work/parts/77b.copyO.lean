/-! an office takes what another holds: the methods -/
section R77
variable {sa sv d : Nat} {m0 m : am_M} {a b : Nat} {fI : Nat → Nat → Int32} {fL : Nat → Nat → Int64} {S : Nat → Prop}
theorem x131c (h : PCo m0 a fI fL S m) (hab : a + 27 ≤ b ∨ b + 27 ≤ a) (e1 : ∀ j k, fI j k = gi_ m0 (b + j) k) (j w n : Nat) (hj : j = 7 ∨ j = 9 ∨ j = 11 ∨ j = 13 ∨ j = 15 ∨ j = 17) (ta : TS m (a + j) w n) (tb : TS m (b + j) w n) (hn : n < 2 ^ 20) (hd : ∀ k, dI_ (j + 1) k → k < n) : ∃ m', am_ca sa sv (d + 1) 131 [.ref (a + j), .ref (b + j)] m = some (.inl none, m') ∧ PCo m0 a fI fL (fun i => S i ∨ i = j + 1 ∨ i = j) m' := by
  obtain ⟨a1, a2, a3, a4⟩ := ta
  obtain ⟨b1, b2, b3, b4⟩ := tb
  have p1 := h.ri (j + 1) n (va_cpy (gi_ m (b + j + 1)) (gi_ m (a + j + 1)) 0 0 n) (by omega) (fun k z => by
    rw [cpy0 _ _ _ _ (hd k z), e1, show b + j + 1 = b + (j + 1) from rfl, (h.src hab (j + 1) (by omega)).1])
  have ev : gi_ (ri_ m (a + (j + 1)) (va_cpy (gi_ m (b + j + 1)) (gi_ m (a + j + 1)) 0 0 n)) (b + j) 2 = fI j 2 := by
    rw [gi_ri, if_neg (by omega), e1, (h.src hab j (by omega)).1]
  have p2 := p1.si (j := j) (k := 2) (fI j 2) (by omega) (by omega) (fun _ => rfl)
  have p3 := p2.add j (fun k z => by
    have : k = 2 := by unfold dI_ at z; omega
    rw [this, gi_si, if_pos ⟨rfl, rfl⟩]) (fun k z => by unfold dL_' at z; omega)
  refine ⟨_, x131 (a + j) (b + j) (a + j + 1) (b + j + 1) n a1 b1 a3 b3 a4 b4 (by omega) (by omega) (by omega) (by omega) (by omega), ?_⟩
  rw [show a + j + 1 = a + (j + 1) from rfl] at *
  rw [ev]
  exact p3.mono fun i z => by rcases z with z | z | z; exact Or.inl (Or.inl z); exact Or.inl (Or.inr z); exact Or.inr z
theorem x2 (h : PCo m0 a fI fL S m) (hab : a + 27 ≤ b ∨ b + 27 ≤ a) (hb : OS m0 b) (e1 : ∀ j k, fI j k = gi_ m0 (b + j) k) (e2 : ∀ j k, fL j k = gl_ m0 (b + j) k) : ∃ m', am_ca sa sv (d + 2) 2 [.ref (a + 1), .ref (b + 1)] m = some (.inl none, m') ∧ PCo m0 a fI fL (fun i => S i ∨ (1 ≤ i ∧ i < 13)) m' := by
  have nz : ∀ j, ¬ a + (j + 1) = 0 := fun j => by omega
  have hA := h.2.1
  have hB := h.osb hab hb
  have v0 : gi_ m (b + 1) 0 = fI 1 0 := by rw [e1, (h.src hab 1 (by omega)).1]
  have v1 : gi_ m (b + 1) 1 = fI 1 1 := by rw [e1, (h.src hab 1 (by omega)).1]
  have q1 := (h.si (j := 1) (k := 0) (fI 1 0) (by omega) (by omega) (fun _ => rfl)).si (j := 1) (k := 1) (fI 1 1) (by omega) (by omega) (fun _ => rfl)
  have p1 := q1.add 1 (fun k z => by
    have : k = 0 ∨ k = 1 := by unfold dI_ at z; omega
    rcases this with rfl | rfl
    · rw [gi_si, if_neg (by omega), gi_si, if_pos ⟨rfl, rfl⟩]
    · rw [gi_si, if_pos ⟨rfl, rfl⟩]) (fun k z => by unfold dL_' at z; omega)
  have p2 := p1.rl 2 10 (va_cpy (gl_ m (b + 2)) (gl_ m (a + 2)) 0 0 10) (by omega) (fun k z => by
    rw [cpy0 _ _ _ _ (by unfold dL_' at z; omega), e2, (h.src hab 2 (by omega)).2])
  generalize hm2 : rl_ (si_ (si_ m (a + 1) 0 (fI 1 0)) (a + 1) 1 (fI 1 1)) (a + 2) (va_cpy (gl_ m (b + 2)) (gl_ m (a + 2)) 0 0 10) = m2 at p2
  have hA2 := p2.2.1
  have hB2 := p2.osb hab hb
  have p3 := p2.ri 3 10 (va_cpy (gi_ m2 (b + 3)) (gi_ m2 (a + 3)) 0 0 10) (by omega) (fun k z => by
    rw [cpy0 _ _ _ _ (by unfold dI_ at z; omega), e1, (p2.src hab 3 (by omega)).1])
  generalize hm3 : ri_ m2 (a + 3) (va_cpy (gi_ m2 (b + 3)) (gi_ m2 (a + 3)) 0 0 10) = m3 at p3
  have hA3 := p3.2.1
  have hB3 := p3.osb hab hb
  have p4 := p3.rl 4 12 (va_cpy (gl_ m3 (b + 4)) (gl_ m3 (a + 4)) 0 0 12) (by omega) (fun k z => by
    rw [cpy0 _ _ _ _ (by unfold dL_' at z; omega), e2, (p3.src hab 4 (by omega)).2])
  generalize hm4 : rl_ m3 (a + 4) (va_cpy (gl_ m3 (b + 4)) (gl_ m3 (a + 4)) 0 0 12) = m4 at p4
  have hA4 := p4.2.1
  have hB4 := p4.osb hab hb
  have p5 := p4.ri 5 12 (va_cpy (gi_ m4 (b + 5)) (gi_ m4 (a + 5)) 0 0 12) (by omega) (fun k z => by
    rw [cpy0 _ _ _ _ (by unfold dI_ at z; omega), e1, (p4.src hab 5 (by omega)).1])
  generalize hm5 : ri_ m4 (a + 5) (va_cpy (gi_ m4 (b + 5)) (gi_ m4 (a + 5)) 0 0 12) = m5 at p5
  have hA5 := p5.2.1
  have hB5 := p5.osb hab hb
  have p6 := p5.ri 6 12 (va_cpy (gi_ m5 (b + 6)) (gi_ m5 (a + 6)) 0 0 12) (by omega) (fun k z => by
    rw [cpy0 _ _ _ _ (by unfold dI_ at z; omega), e1, (p5.src hab 6 (by omega)).1])
  generalize hm6 : ri_ m5 (a + 6) (va_cpy (gi_ m5 (b + 6)) (gi_ m5 (a + 6)) 0 0 12) = m6 at p6
  have hA6 := p6.2.1
  have hB6 := p6.osb hab hb
  obtain ⟨m7, g7, p7⟩ := x131c (sa := sa) (sv := sv) (d := d) p6 hab e1 7 2 72 (by omega) (ot7 hA6) (ot7 hB6) (by decide) (fun k z => by unfold dI_ at z; omega)
  have hA7 := p7.2.1
  have hB7 := p7.osb hab hb
  obtain ⟨m8, g8, p8⟩ := x131c (sa := sa) (sv := sv) (d := d) p7 hab e1 9 2 96 (by omega) (ot9 hA7) (ot9 hB7) (by decide) (fun k z => by unfold dI_ at z; omega)
  have hA8 := p8.2.1
  have hB8 := p8.osb hab hb
  obtain ⟨m9, g9, p9⟩ := x131c (sa := sa) (sv := sv) (d := d) p8 hab e1 11 2 384 (by omega) (ot11 hA8) (ot11 hB8) (by decide) (fun k z => by unfold dI_ at z; omega)
  refine ⟨m9, ?_, p9.mono fun i z => ?_⟩
  · have w1 : ∀ v : Int32, gi_ (si_ m (a + 1) 0 v) (b + 1) 1 = gi_ m (b + 1) 1 := fun v => by rw [gi_si, if_neg (by omega)]
    rw [c2, b2_0]
    simp (disch := omega) only [gq_true, gb_true, gb_false, true_and, and_true, eq_self, not_false_eq_true, not_true_eq_false, true_or, or_true, false_or, or_false, false_and, and_false, c0_v, ci_v, cl_v, cf_v, pk_mul, nI_add, nI_clamp, nI_lt0, nI_0le, nI_eq0, nI_lt0r, nI_ltE, nI_leE, nI_eqE, nI_m1, in_t, ba0, ba1, Nat.one_ne_zero, Nat.reduceEqDiff, Nat.reduceLeDiff, Nat.add_eq_zero_iff, Nat.reduceEqDiff, Nat.reduceLeDiff, Nat.zero_add, Nat.le_refl, ok1 hA, ok1 hB, or1_2 hA, or1_2 hB, ok2 hA, ok2 hB, eq_false (show ¬ b + 2 = a + 2 by omega), w1, v0, v1, hm2]
    rw [b2_31]
    simp (disch := omega) only [gq_true, gb_true, gb_false, true_and, and_true, eq_self, not_false_eq_true, not_true_eq_false, true_or, or_true, false_or, or_false, false_and, and_false, c0_v, ci_v, cl_v, cf_v, pk_mul, nI_add, nI_clamp, nI_lt0, nI_0le, nI_eq0, nI_lt0r, nI_ltE, nI_leE, nI_eqE, nI_m1, in_t, ba0, ba1, Nat.one_ne_zero, Nat.reduceEqDiff, Nat.reduceLeDiff, Nat.add_eq_zero_iff, Nat.reduceEqDiff, Nat.reduceLeDiff, Nat.zero_add, Nat.le_refl, ok1 hA2, ok1 hB2, or1_3 hA2, or1_3 hB2, ok3 hA2, ok3 hB2, eq_false (show ¬ b + 3 = a + 3 by omega), hm3]
    rw [b2_46]
    simp (disch := omega) only [gq_true, gb_true, gb_false, true_and, and_true, eq_self, not_false_eq_true, not_true_eq_false, true_or, or_true, false_or, or_false, false_and, and_false, c0_v, ci_v, cl_v, cf_v, pk_mul, nI_add, nI_clamp, nI_lt0, nI_0le, nI_eq0, nI_lt0r, nI_ltE, nI_leE, nI_eqE, nI_m1, in_t, ba0, ba1, Nat.one_ne_zero, Nat.reduceEqDiff, Nat.reduceLeDiff, Nat.add_eq_zero_iff, Nat.reduceEqDiff, Nat.reduceLeDiff, Nat.zero_add, Nat.le_refl, ok1 hA3, ok1 hB3, or1_4 hA3, or1_4 hB3, ok4 hA3, ok4 hB3, eq_false (show ¬ b + 4 = a + 4 by omega), hm4]
    rw [b2_61]
    simp (disch := omega) only [gq_true, gb_true, gb_false, true_and, and_true, eq_self, not_false_eq_true, not_true_eq_false, true_or, or_true, false_or, or_false, false_and, and_false, c0_v, ci_v, cl_v, cf_v, pk_mul, nI_add, nI_clamp, nI_lt0, nI_0le, nI_eq0, nI_lt0r, nI_ltE, nI_leE, nI_eqE, nI_m1, in_t, ba0, ba1, Nat.one_ne_zero, Nat.reduceEqDiff, Nat.reduceLeDiff, Nat.add_eq_zero_iff, Nat.reduceEqDiff, Nat.reduceLeDiff, Nat.zero_add, Nat.le_refl, ok1 hA4, ok1 hB4, or1_5 hA4, or1_5 hB4, ok5 hA4, ok5 hB4, eq_false (show ¬ b + 5 = a + 5 by omega), hm5]
    rw [b2_76]
    simp (disch := omega) only [gq_true, gb_true, gb_false, true_and, and_true, eq_self, not_false_eq_true, not_true_eq_false, true_or, or_true, false_or, or_false, false_and, and_false, c0_v, ci_v, cl_v, cf_v, pk_mul, nI_add, nI_clamp, nI_lt0, nI_0le, nI_eq0, nI_lt0r, nI_ltE, nI_leE, nI_eqE, nI_m1, in_t, ba0, ba1, Nat.one_ne_zero, Nat.reduceEqDiff, Nat.reduceLeDiff, Nat.add_eq_zero_iff, Nat.reduceEqDiff, Nat.reduceLeDiff, Nat.zero_add, Nat.le_refl, ok1 hA5, ok1 hB5, or1_6 hA5, or1_6 hB5, ok6 hA5, ok6 hB5, eq_false (show ¬ b + 6 = a + 6 by omega), or1_7 hA5, or1_7 hB5, ok7 hA5, hm6]
    rw [g7, c0_v]
    simp (disch := omega) only [gq_true, gb_true, gb_false, true_and, and_true, eq_self, not_false_eq_true, not_true_eq_false, true_or, or_true, false_or, or_false, false_and, and_false, c0_v, ci_v, cl_v, cf_v, pk_mul, nI_add, nI_clamp, nI_lt0, nI_0le, nI_eq0, nI_lt0r, nI_ltE, nI_leE, nI_eqE, nI_m1, in_t, ba0, ba1, Nat.one_ne_zero, Nat.reduceEqDiff, Nat.reduceLeDiff, Nat.add_eq_zero_iff, ok1 hA7, ok1 hB7, or1_8 hA7, or1_8 hB7, ok9 hA7]
    rw [g8, c0_v]
    simp (disch := omega) only [gq_true, gb_true, gb_false, true_and, and_true, eq_self, not_false_eq_true, not_true_eq_false, true_or, or_true, false_or, or_false, false_and, and_false, c0_v, ci_v, cl_v, cf_v, pk_mul, nI_add, nI_clamp, nI_lt0, nI_0le, nI_eq0, nI_lt0r, nI_ltE, nI_leE, nI_eqE, nI_m1, in_t, ba0, ba1, Nat.one_ne_zero, Nat.reduceEqDiff, Nat.reduceLeDiff, Nat.add_eq_zero_iff, ok1 hA8, ok1 hB8, or1_9 hA8, or1_9 hB8, ok11 hA8]
    rw [g9, c0_v]
  · rcases z with z | z
    · exact Or.inl (Or.inl (Or.inl (Or.inl (Or.inl (Or.inl (Or.inl (Or.inl (Or.inl z))))))))
    · have : i = 1 ∨ i = 2 ∨ i = 3 ∨ i = 4 ∨ i = 5 ∨ i = 6 ∨ i = 7 ∨ i = 8 ∨ i = 9 ∨ i = 10 ∨ i = 11 ∨ i = 12 := by omega
      omega
end R77
