/-! an office takes what another holds: the ledger, the whole; an office is emptied -/
section R77
variable {sa sv d : Nat} {m0 m : am_M} {a b : Nat} {fI : Nat → Nat → Int32} {fL : Nat → Nat → Int64} {S : Nat → Prop}
theorem x48 (h : PCo m0 a fI fL S m) (hab : a + 27 ≤ b ∨ b + 27 ≤ a) (hb : OS m0 b) (e1 : ∀ j k, fI j k = gi_ m0 (b + j) k) (e2 : ∀ j k, fL j k = gl_ m0 (b + j) k) : ∃ m', am_ca sa sv (d + 1) 48 [.ref (a + 19), .ref (b + 19)] m = some (.inl none, m') ∧ PCo m0 a fI fL (fun i => S i ∨ (19 ≤ i ∧ i < 27)) m' := by
  have hA0 := h.2.1
  have hB0 := h.osb hab hb
  have p0 := h
  have p1 := p0.rl 20 10 (va_cpy (gl_ m (b + 20)) (gl_ m (a + 20)) 0 0 10) (by omega) (fun k z => by
    rw [cpy0 _ _ _ _ (by unfold dL_' at z; omega), e2, (p0.src hab 20 (by omega)).2])
  generalize hm1 : rl_ m (a + 20) (va_cpy (gl_ m (b + 20)) (gl_ m (a + 20)) 0 0 10) = m1 at p1
  have hA1 := p1.2.1
  have hB1 := p1.osb hab hb
  have p2 := p1.rl 21 40 (va_cpy (gl_ m1 (b + 21)) (gl_ m1 (a + 21)) 0 0 40) (by omega) (fun k z => by
    rw [cpy0 _ _ _ _ (by unfold dL_' at z; omega), e2, (p1.src hab 21 (by omega)).2])
  generalize hm2 : rl_ m1 (a + 21) (va_cpy (gl_ m1 (b + 21)) (gl_ m1 (a + 21)) 0 0 40) = m2 at p2
  have hA2 := p2.2.1
  have hB2 := p2.osb hab hb
  have p3 := p2.rl 22 30 (va_cpy (gl_ m2 (b + 22)) (gl_ m2 (a + 22)) 0 0 30) (by omega) (fun k z => by
    rw [cpy0 _ _ _ _ (by unfold dL_' at z; omega), e2, (p2.src hab 22 (by omega)).2])
  generalize hm3 : rl_ m2 (a + 22) (va_cpy (gl_ m2 (b + 22)) (gl_ m2 (a + 22)) 0 0 30) = m3 at p3
  have hA3 := p3.2.1
  have hB3 := p3.osb hab hb
  have p4 := p3.rl 23 120 (va_cpy (gl_ m3 (b + 23)) (gl_ m3 (a + 23)) 0 0 120) (by omega) (fun k z => by
    rw [cpy0 _ _ _ _ (by unfold dL_' at z; omega), e2, (p3.src hab 23 (by omega)).2])
  generalize hm4 : rl_ m3 (a + 23) (va_cpy (gl_ m3 (b + 23)) (gl_ m3 (a + 23)) 0 0 120) = m4 at p4
  have hA4 := p4.2.1
  have hB4 := p4.osb hab hb
  have p5 := p4.rl 24 12 (va_cpy (gl_ m4 (b + 24)) (gl_ m4 (a + 24)) 0 0 12) (by omega) (fun k z => by
    rw [cpy0 _ _ _ _ (by unfold dL_' at z; omega), e2, (p4.src hab 24 (by omega)).2])
  generalize hm5 : rl_ m4 (a + 24) (va_cpy (gl_ m4 (b + 24)) (gl_ m4 (a + 24)) 0 0 12) = m5 at p5
  have hA5 := p5.2.1
  have hB5 := p5.osb hab hb
  have p6 := p5.rl 25 250 (va_cpy (gl_ m5 (b + 25)) (gl_ m5 (a + 25)) 0 0 250) (by omega) (fun k z => by
    rw [cpy0 _ _ _ _ (by unfold dL_' at z; omega), e2, (p5.src hab 25 (by omega)).2])
  generalize hm6 : rl_ m5 (a + 25) (va_cpy (gl_ m5 (b + 25)) (gl_ m5 (a + 25)) 0 0 250) = m6 at p6
  have hA6 := p6.2.1
  have hB6 := p6.osb hab hb
  have p7 := p6.ri 26 5 (va_cpy (gi_ m6 (b + 26)) (gi_ m6 (a + 26)) 0 0 5) (by omega) (fun k z => by
    rw [cpy0 _ _ _ _ (by unfold dI_ at z; omega), e1, (p6.src hab 26 (by omega)).1])
  have w7 : gi_ (ri_ m6 (a + 26) (va_cpy (gi_ m6 (b + 26)) (gi_ m6 (a + 26)) 0 0 5)) (b + 19) 7 = fI 19 7 := by rw [gi_ri, if_neg (by omega), e1, (p6.src hab 19 (by omega)).1]
  generalize hm7 : ri_ m6 (a + 26) (va_cpy (gi_ m6 (b + 26)) (gi_ m6 (a + 26)) 0 0 5) = m7 at p7 w7
  have p8 := (p7.si (j := 19) (k := 7) (fI 19 7) (by omega) (by omega) (fun _ => rfl)).add 19 (fun k z => by
    have : k = 7 := by unfold dI_ at z; omega
    rw [this, gi_si, if_pos ⟨rfl, rfl⟩]) (fun k z => by unfold dL_' at z; omega)
  refine ⟨_, ?_, p8.mono fun i z => ?_⟩
  · rw [c48, b48_0]
    simp (disch := omega) only [gq_true, gb_true, gb_false, true_and, and_true, eq_self, not_false_eq_true, not_true_eq_false, true_or, or_true, false_or, or_false, false_and, and_false, c0_v, ci_v, cl_v, cf_v, pk_mul, nI_add, nI_clamp, nI_lt0, nI_0le, nI_eq0, nI_lt0r, nI_ltE, nI_leE, nI_eqE, nI_m1, in_t, ba0, ba1, Nat.one_ne_zero, Nat.reduceEqDiff, Nat.reduceLeDiff, Nat.add_eq_zero_iff, Nat.reduceEqDiff, Nat.reduceLeDiff, Nat.zero_add, Nat.le_refl, ok19 hA0, ok19 hB0, or19_0 hA0, or19_0 hB0, ok20 hA0, ok20 hB0, eq_false (show ¬ b + 20 = a + 20 by omega), hm1]
    rw [b48_18]
    simp (disch := omega) only [gq_true, gb_true, gb_false, true_and, and_true, eq_self, not_false_eq_true, not_true_eq_false, true_or, or_true, false_or, or_false, false_and, and_false, c0_v, ci_v, cl_v, cf_v, pk_mul, nI_add, nI_clamp, nI_lt0, nI_0le, nI_eq0, nI_lt0r, nI_ltE, nI_leE, nI_eqE, nI_m1, in_t, ba0, ba1, Nat.one_ne_zero, Nat.reduceEqDiff, Nat.reduceLeDiff, Nat.add_eq_zero_iff, Nat.reduceEqDiff, Nat.reduceLeDiff, Nat.zero_add, Nat.le_refl, ok19 hA1, ok19 hB1, or19_1 hA1, or19_1 hB1, ok21 hA1, ok21 hB1, eq_false (show ¬ b + 21 = a + 21 by omega), hm2]
    rw [b48_36]
    simp (disch := omega) only [gq_true, gb_true, gb_false, true_and, and_true, eq_self, not_false_eq_true, not_true_eq_false, true_or, or_true, false_or, or_false, false_and, and_false, c0_v, ci_v, cl_v, cf_v, pk_mul, nI_add, nI_clamp, nI_lt0, nI_0le, nI_eq0, nI_lt0r, nI_ltE, nI_leE, nI_eqE, nI_m1, in_t, ba0, ba1, Nat.one_ne_zero, Nat.reduceEqDiff, Nat.reduceLeDiff, Nat.add_eq_zero_iff, Nat.reduceEqDiff, Nat.reduceLeDiff, Nat.zero_add, Nat.le_refl, ok19 hA2, ok19 hB2, or19_2 hA2, or19_2 hB2, ok22 hA2, ok22 hB2, eq_false (show ¬ b + 22 = a + 22 by omega), hm3]
    rw [b48_54]
    simp (disch := omega) only [gq_true, gb_true, gb_false, true_and, and_true, eq_self, not_false_eq_true, not_true_eq_false, true_or, or_true, false_or, or_false, false_and, and_false, c0_v, ci_v, cl_v, cf_v, pk_mul, nI_add, nI_clamp, nI_lt0, nI_0le, nI_eq0, nI_lt0r, nI_ltE, nI_leE, nI_eqE, nI_m1, in_t, ba0, ba1, Nat.one_ne_zero, Nat.reduceEqDiff, Nat.reduceLeDiff, Nat.add_eq_zero_iff, Nat.reduceEqDiff, Nat.reduceLeDiff, Nat.zero_add, Nat.le_refl, ok19 hA3, ok19 hB3, or19_3 hA3, or19_3 hB3, ok23 hA3, ok23 hB3, eq_false (show ¬ b + 23 = a + 23 by omega), hm4]
    rw [b48_72]
    simp (disch := omega) only [gq_true, gb_true, gb_false, true_and, and_true, eq_self, not_false_eq_true, not_true_eq_false, true_or, or_true, false_or, or_false, false_and, and_false, c0_v, ci_v, cl_v, cf_v, pk_mul, nI_add, nI_clamp, nI_lt0, nI_0le, nI_eq0, nI_lt0r, nI_ltE, nI_leE, nI_eqE, nI_m1, in_t, ba0, ba1, Nat.one_ne_zero, Nat.reduceEqDiff, Nat.reduceLeDiff, Nat.add_eq_zero_iff, Nat.reduceEqDiff, Nat.reduceLeDiff, Nat.zero_add, Nat.le_refl, ok19 hA4, ok19 hB4, or19_4 hA4, or19_4 hB4, ok24 hA4, ok24 hB4, eq_false (show ¬ b + 24 = a + 24 by omega), hm5]
    rw [b48_90]
    simp (disch := omega) only [gq_true, gb_true, gb_false, true_and, and_true, eq_self, not_false_eq_true, not_true_eq_false, true_or, or_true, false_or, or_false, false_and, and_false, c0_v, ci_v, cl_v, cf_v, pk_mul, nI_add, nI_clamp, nI_lt0, nI_0le, nI_eq0, nI_lt0r, nI_ltE, nI_leE, nI_eqE, nI_m1, in_t, ba0, ba1, Nat.one_ne_zero, Nat.reduceEqDiff, Nat.reduceLeDiff, Nat.add_eq_zero_iff, Nat.reduceEqDiff, Nat.reduceLeDiff, Nat.zero_add, Nat.le_refl, ok19 hA5, ok19 hB5, or19_5 hA5, or19_5 hB5, ok25 hA5, ok25 hB5, eq_false (show ¬ b + 25 = a + 25 by omega), hm6]
    rw [b48_108]
    simp (disch := omega) only [gq_true, gb_true, gb_false, true_and, and_true, eq_self, not_false_eq_true, not_true_eq_false, true_or, or_true, false_or, or_false, false_and, and_false, c0_v, ci_v, cl_v, cf_v, pk_mul, nI_add, nI_clamp, nI_lt0, nI_0le, nI_eq0, nI_lt0r, nI_ltE, nI_leE, nI_eqE, nI_m1, in_t, ba0, ba1, Nat.one_ne_zero, Nat.reduceEqDiff, Nat.reduceLeDiff, Nat.add_eq_zero_iff, Nat.reduceEqDiff, Nat.reduceLeDiff, Nat.zero_add, Nat.le_refl, ok19 hA6, ok19 hB6, or19_6 hA6, or19_6 hB6, ok26 hA6, ok26 hB6, eq_false (show ¬ b + 26 = a + 26 by omega), hm7, w7]
  · rcases z with z | z
    · exact Or.inl (Or.inl (Or.inl (Or.inl (Or.inl (Or.inl (Or.inl (Or.inl z)))))))
    · have : i = 19 ∨ i = 20 ∨ i = 21 ∨ i = 22 ∨ i = 23 ∨ i = 24 ∨ i = 25 ∨ i = 26 := by omega
      omega
/-- an office takes what another holds -/
theorem x72 (ha : OS m a) (hb : OS m b) (ha0 : 0 < a) (hb0 : 0 < b) (hab : a + 27 ≤ b ∨ b + 27 ≤ a) : ∃ m', am_ca sa sv (d + 3) 72 [.ref a, .ref b] m = some (.inl none, m') ∧ PCo m a (fun j => gi_ m (b + j)) (fun j => gl_ m (b + j)) (fun i => i < 27) m' := by
  have h0 : PCo m a (fun j => gi_ m (b + j)) (fun j => gl_ m (b + j)) (fun _ => False) m := ⟨Fr.refl _ _, ha, fun _ _ z => z.elim, fun _ _ z => z.elim⟩
  have e1 : ∀ j k, (fun j => gi_ m (b + j)) j k = gi_ m (b + j) k := fun _ _ => rfl
  have e2 : ∀ j k, (fun j => gl_ m (b + j)) j k = gl_ m (b + j) k := fun _ _ => rfl
  have p1 := (h0.si (j := 0) (k := 0) (gi_ m b 0) (by omega) (by omega) (fun _ => rfl)).add 0 (fun k z => by
    have : k = 0 := by unfold dI_ at z; omega
    rw [this, gi_si, if_pos ⟨rfl, rfl⟩]; rfl) (fun k z => by unfold dL_' at z; omega)
  rw [show a + 0 = a from rfl] at p1
  generalize hm1 : si_ m a 0 (gi_ m b 0) = m1 at p1
  have hA1 := p1.2.1
  obtain ⟨m2, g2, p2⟩ := x2 (sa := sa) (sv := sv) (d := d) p1 hab hb e1 e2
  have hA2 := p2.2.1
  have hB2 := p2.osb hab hb
  obtain ⟨m3, g3, p3⟩ := x131c (sa := sa) (sv := sv) (d := d + 1) p2 hab e1 13 6 96 (by omega) (ot13 hA2) (ot13 hB2) (by decide) (fun k z => by unfold dI_ at z; omega)
  have hA3 := p3.2.1
  have hB3 := p3.osb hab hb
  obtain ⟨m4, g4, p4⟩ := x131c (sa := sa) (sv := sv) (d := d + 1) p3 hab e1 15 6 72 (by omega) (ot15 hA3) (ot15 hB3) (by decide) (fun k z => by unfold dI_ at z; omega)
  have hA4 := p4.2.1
  have hB4 := p4.osb hab hb
  obtain ⟨m5, g5, p5⟩ := x131c (sa := sa) (sv := sv) (d := d + 1) p4 hab e1 17 4 256 (by omega) (ot17 hA4) (ot17 hB4) (by decide) (fun k z => by unfold dI_ at z; omega)
  have hA5 := p5.2.1
  have hB5 := p5.osb hab hb
  obtain ⟨m6, g6, p6⟩ := x48 (sa := sa) (sv := sv) (d := d + 1) p5 hab hb e1 e2
  refine ⟨m6, ?_, p6.mono fun i z => by omega⟩
  rw [c72, b72_0]
  simp (disch := omega) only [gq_true, gb_true, gb_false, true_and, and_true, eq_self, not_false_eq_true, not_true_eq_false, true_or, or_true, false_or, or_false, false_and, and_false, c0_v, ci_v, cl_v, cf_v, pk_mul, nI_add, nI_clamp, nI_lt0, nI_0le, nI_eq0, nI_lt0r, nI_ltE, nI_leE, nI_eqE, nI_m1, in_t, ba0, ba1, Nat.one_ne_zero, Nat.reduceEqDiff, Nat.reduceLeDiff, Nat.add_eq_zero_iff, ok0 ha, ok0 hb, or0_1 ha, or0_1 hb, ok1 ha, hm1]
  rw [g2, c0_v]
  simp (disch := omega) only [gq_true, gb_true, gb_false, true_and, and_true, eq_self, not_false_eq_true, not_true_eq_false, true_or, or_true, false_or, or_false, false_and, and_false, c0_v, ci_v, cl_v, cf_v, pk_mul, nI_add, nI_clamp, nI_lt0, nI_0le, nI_eq0, nI_lt0r, nI_ltE, nI_leE, nI_eqE, nI_m1, in_t, ba0, ba1, Nat.one_ne_zero, Nat.reduceEqDiff, Nat.reduceLeDiff, Nat.add_eq_zero_iff, ok0 hA2, ok0 hB2, or0_2 hA2, or0_2 hB2, ok13 hA2]
  rw [g3, c0_v]
  simp (disch := omega) only [gq_true, gb_true, gb_false, true_and, and_true, eq_self, not_false_eq_true, not_true_eq_false, true_or, or_true, false_or, or_false, false_and, and_false, c0_v, ci_v, cl_v, cf_v, pk_mul, nI_add, nI_clamp, nI_lt0, nI_0le, nI_eq0, nI_lt0r, nI_ltE, nI_leE, nI_eqE, nI_m1, in_t, ba0, ba1, Nat.one_ne_zero, Nat.reduceEqDiff, Nat.reduceLeDiff, Nat.add_eq_zero_iff, ok0 hA3, ok0 hB3, or0_3 hA3, or0_3 hB3, ok15 hA3]
  rw [g4, c0_v]
  simp (disch := omega) only [gq_true, gb_true, gb_false, true_and, and_true, eq_self, not_false_eq_true, not_true_eq_false, true_or, or_true, false_or, or_false, false_and, and_false, c0_v, ci_v, cl_v, cf_v, pk_mul, nI_add, nI_clamp, nI_lt0, nI_0le, nI_eq0, nI_lt0r, nI_ltE, nI_leE, nI_eqE, nI_m1, in_t, ba0, ba1, Nat.one_ne_zero, Nat.reduceEqDiff, Nat.reduceLeDiff, Nat.add_eq_zero_iff, ok0 hA4, ok0 hB4, or0_4 hA4, or0_4 hB4, ok17 hA4]
  rw [g5, c0_v]
  simp (disch := omega) only [gq_true, gb_true, gb_false, true_and, and_true, eq_self, not_false_eq_true, not_true_eq_false, true_or, or_true, false_or, or_false, false_and, and_false, c0_v, ci_v, cl_v, cf_v, pk_mul, nI_add, nI_clamp, nI_lt0, nI_0le, nI_eq0, nI_lt0r, nI_ltE, nI_leE, nI_eqE, nI_m1, in_t, ba0, ba1, Nat.one_ne_zero, Nat.reduceEqDiff, Nat.reduceLeDiff, Nat.add_eq_zero_iff, ok0 hA5, ok0 hB5, or0_5 hA5, or0_5 hB5, ok19 hA5]
  rw [g6, c0_v]
theorem x130c (h : PCo m0 a (fun _ _ => 0) (fun _ _ => 0) S m) (j w n : Nat) (hj : j = 7 ∨ j = 9 ∨ j = 11 ∨ j = 13 ∨ j = 15 ∨ j = 17) (ta : TS m (a + j) w n) (hn : n < 2 ^ 20) (hd : ∀ k, dI_ (j + 1) k → k < n) : ∃ m', am_ca sa sv (d + 2) 130 [.ref (a + j)] m = some (.inl none, m') ∧ PCo m0 a (fun _ _ => 0) (fun _ _ => 0) (fun i => S i ∨ i = j + 1 ∨ i = j) m' := by
  obtain ⟨a1, a2, a3, a4⟩ := ta
  obtain ⟨m1, g1, f1, v1⟩ := x368 (sa := sa) (sv := sv) (d := d) (a + j + 1) n (nI 0) a4 (by omega)
  rw [show a + j + 1 = a + (j + 1) from rfl] at *
  have p1 := h.fri (j + 1) (by omega) f1 (fun k z => by rw [v1 k (hd k z)]; rfl)
  have a1' : gk_ m1 (a + j) = (1, 8) := by rw [f1.1.1]; exact a1
  have p3 := (p1.si (j := j) (k := 2) (nI 0) (by omega) (by omega) (fun _ => rfl)).add j (fun k z => by
    have : k = 2 := by unfold dI_ at z; omega
    rw [this, gi_si, if_pos ⟨rfl, rfl⟩]; rfl) (fun k z => by unfold dL_' at z; omega)
  refine ⟨si_ m1 (a + j) 2 (nI 0), ?_, p3.mono fun i z => by rcases z with z | z | z; exact Or.inl (Or.inl z); exact Or.inl (Or.inr z); exact Or.inr z⟩
  rw [c130, b130_0]
  simp (disch := omega) only [gq_true, gb_true, gb_false, true_and, and_true, eq_self, not_false_eq_true, not_true_eq_false, true_or, or_true, false_or, or_false, false_and, and_false, c0_v, ci_v, cl_v, cf_v, pk_mul, nI_add, nI_clamp, nI_lt0, nI_0le, nI_eq0, nI_lt0r, nI_ltE, nI_leE, nI_eqE, nI_m1, in_t, ba0, ba1, Nat.one_ne_zero, Nat.reduceEqDiff, Nat.reduceLeDiff, Nat.add_eq_zero_iff, a1, a3]
  rw [g1, c0_v]
  simp (disch := omega) only [gq_true, gb_true, gb_false, true_and, and_true, eq_self, not_false_eq_true, not_true_eq_false, true_or, or_true, false_or, or_false, false_and, and_false, c0_v, ci_v, cl_v, cf_v, pk_mul, nI_add, nI_clamp, nI_lt0, nI_0le, nI_eq0, nI_lt0r, nI_ltE, nI_leE, nI_eqE, nI_m1, in_t, ba0, ba1, Nat.one_ne_zero, Nat.reduceEqDiff, Nat.reduceLeDiff, Nat.add_eq_zero_iff, a1']
theorem x1 (p0 : PCo m0 a (fun _ _ => 0) (fun _ _ => 0) S m) : ∃ m', am_ca sa sv (d + 3) 1 [.ref (a + 1)] m = some (.inl none, m') ∧ PCo m0 a (fun _ _ => 0) (fun _ _ => 0) (fun i => S i ∨ (1 ≤ i ∧ i < 13)) m' := by
  have hA := p0.2.1
  have p1 := ((p0.si (j := 1) (k := 0) (nI 0) (by omega) (by omega) (fun _ => rfl)).si (j := 1) (k := 1) (nI 0) (by omega) (by omega) (fun _ => rfl)).add 1 (fun k z => by
    have : k = 0 ∨ k = 1 := by unfold dI_ at z; omega
    rcases this with rfl | rfl
    · rw [gi_si, if_neg (by omega), gi_si, if_pos ⟨rfl, rfl⟩]; rfl
    · rw [gi_si, if_pos ⟨rfl, rfl⟩]; rfl) (fun k z => by unfold dL_' at z; omega)
  generalize hm1 : si_ (si_ m (a + 1) 0 (nI 0)) (a + 1) 1 (nI 0) = m1 at p1
  have hA1 := p1.2.1
  obtain ⟨m2, g2, f2, v2⟩ := x367 (sa := sa) (sv := sv) (d := d + 1) (a + 2) 10 0 (ok2 hA1) (by decide)
  have p2 := p1.frl 2 (by omega) f2 (fun k z => by rw [v2 k (by unfold dL_' at z; omega)])
  have hA2 := p2.2.1
  obtain ⟨m3, g3, f3, v3⟩ := x368 (sa := sa) (sv := sv) (d := d + 1) (a + 3) 10 (nI 0) (ok3 hA2) (by decide)
  have p3 := p2.fri 3 (by omega) f3 (fun k z => by rw [v3 k (by unfold dI_ at z; omega)]; rfl)
  have hA3 := p3.2.1
  obtain ⟨m4, g4, f4, v4⟩ := x367 (sa := sa) (sv := sv) (d := d + 1) (a + 4) 12 0 (ok4 hA3) (by decide)
  have p4 := p3.frl 4 (by omega) f4 (fun k z => by rw [v4 k (by unfold dL_' at z; omega)])
  have hA4 := p4.2.1
  obtain ⟨m5, g5, f5, v5⟩ := x368 (sa := sa) (sv := sv) (d := d + 1) (a + 5) 12 (nI 0) (ok5 hA4) (by decide)
  have p5 := p4.fri 5 (by omega) f5 (fun k z => by rw [v5 k (by unfold dI_ at z; omega)]; rfl)
  have hA5 := p5.2.1
  obtain ⟨m6, g6, f6, v6⟩ := x368 (sa := sa) (sv := sv) (d := d + 1) (a + 6) 12 (nI 0) (ok6 hA5) (by decide)
  have p6 := p5.fri 6 (by omega) f6 (fun k z => by rw [v6 k (by unfold dI_ at z; omega)]; rfl)
  have hA6 := p6.2.1
  obtain ⟨m7, g7, p7⟩ := x130c (sa := sa) (sv := sv) (d := d) p6 7 2 72 (by omega) (ot7 hA6) (by decide) (fun k z => by unfold dI_ at z; omega)
  have hA7 := p7.2.1
  obtain ⟨m8, g8, p8⟩ := x130c (sa := sa) (sv := sv) (d := d) p7 9 2 96 (by omega) (ot9 hA7) (by decide) (fun k z => by unfold dI_ at z; omega)
  have hA8 := p8.2.1
  obtain ⟨m9, g9, p9⟩ := x130c (sa := sa) (sv := sv) (d := d) p8 11 2 384 (by omega) (ot11 hA8) (by decide) (fun k z => by unfold dI_ at z; omega)
  have hA9 := p9.2.1
  refine ⟨m9, ?_, p9.mono fun i z => ?_⟩
  · rw [c1, b1_0]
    simp (disch := omega) only [gq_true, gb_true, gb_false, true_and, and_true, eq_self, not_false_eq_true, not_true_eq_false, true_or, or_true, false_or, or_false, false_and, and_false, c0_v, ci_v, cl_v, cf_v, pk_mul, nI_add, nI_clamp, nI_lt0, nI_0le, nI_eq0, nI_lt0r, nI_ltE, nI_leE, nI_eqE, nI_m1, in_t, ba0, ba1, Nat.one_ne_zero, Nat.reduceEqDiff, Nat.reduceLeDiff, Nat.add_eq_zero_iff, ok1 hA, or1_2 hA, hm1]
    rw [g2, c0_v]
    simp (disch := omega) only [gq_true, gb_true, gb_false, true_and, and_true, eq_self, not_false_eq_true, not_true_eq_false, true_or, or_true, false_or, or_false, false_and, and_false, c0_v, ci_v, cl_v, cf_v, pk_mul, nI_add, nI_clamp, nI_lt0, nI_0le, nI_eq0, nI_lt0r, nI_ltE, nI_leE, nI_eqE, nI_m1, in_t, ba0, ba1, Nat.one_ne_zero, Nat.reduceEqDiff, Nat.reduceLeDiff, Nat.add_eq_zero_iff, ok1 hA2, or1_3 hA2]
    rw [g3, c0_v]
    simp (disch := omega) only [gq_true, gb_true, gb_false, true_and, and_true, eq_self, not_false_eq_true, not_true_eq_false, true_or, or_true, false_or, or_false, false_and, and_false, c0_v, ci_v, cl_v, cf_v, pk_mul, nI_add, nI_clamp, nI_lt0, nI_0le, nI_eq0, nI_lt0r, nI_ltE, nI_leE, nI_eqE, nI_m1, in_t, ba0, ba1, Nat.one_ne_zero, Nat.reduceEqDiff, Nat.reduceLeDiff, Nat.add_eq_zero_iff, ok1 hA3, or1_4 hA3]
    rw [g4, c0_v]
    simp (disch := omega) only [gq_true, gb_true, gb_false, true_and, and_true, eq_self, not_false_eq_true, not_true_eq_false, true_or, or_true, false_or, or_false, false_and, and_false, c0_v, ci_v, cl_v, cf_v, pk_mul, nI_add, nI_clamp, nI_lt0, nI_0le, nI_eq0, nI_lt0r, nI_ltE, nI_leE, nI_eqE, nI_m1, in_t, ba0, ba1, Nat.one_ne_zero, Nat.reduceEqDiff, Nat.reduceLeDiff, Nat.add_eq_zero_iff, ok1 hA4, or1_5 hA4]
    rw [g5, c0_v]
    simp (disch := omega) only [gq_true, gb_true, gb_false, true_and, and_true, eq_self, not_false_eq_true, not_true_eq_false, true_or, or_true, false_or, or_false, false_and, and_false, c0_v, ci_v, cl_v, cf_v, pk_mul, nI_add, nI_clamp, nI_lt0, nI_0le, nI_eq0, nI_lt0r, nI_ltE, nI_leE, nI_eqE, nI_m1, in_t, ba0, ba1, Nat.one_ne_zero, Nat.reduceEqDiff, Nat.reduceLeDiff, Nat.add_eq_zero_iff, ok1 hA5, or1_6 hA5]
    rw [g6, c0_v]
    simp (disch := omega) only [gq_true, gb_true, gb_false, true_and, and_true, eq_self, not_false_eq_true, not_true_eq_false, true_or, or_true, false_or, or_false, false_and, and_false, c0_v, ci_v, cl_v, cf_v, pk_mul, nI_add, nI_clamp, nI_lt0, nI_0le, nI_eq0, nI_lt0r, nI_ltE, nI_leE, nI_eqE, nI_m1, in_t, ba0, ba1, Nat.one_ne_zero, Nat.reduceEqDiff, Nat.reduceLeDiff, Nat.add_eq_zero_iff, ok1 hA6, or1_7 hA6, ok7 hA6]
    rw [g7, c0_v]
    simp (disch := omega) only [gq_true, gb_true, gb_false, true_and, and_true, eq_self, not_false_eq_true, not_true_eq_false, true_or, or_true, false_or, or_false, false_and, and_false, c0_v, ci_v, cl_v, cf_v, pk_mul, nI_add, nI_clamp, nI_lt0, nI_0le, nI_eq0, nI_lt0r, nI_ltE, nI_leE, nI_eqE, nI_m1, in_t, ba0, ba1, Nat.one_ne_zero, Nat.reduceEqDiff, Nat.reduceLeDiff, Nat.add_eq_zero_iff, ok1 hA7, or1_8 hA7, ok9 hA7]
    rw [g8, c0_v]
    simp (disch := omega) only [gq_true, gb_true, gb_false, true_and, and_true, eq_self, not_false_eq_true, not_true_eq_false, true_or, or_true, false_or, or_false, false_and, and_false, c0_v, ci_v, cl_v, cf_v, pk_mul, nI_add, nI_clamp, nI_lt0, nI_0le, nI_eq0, nI_lt0r, nI_ltE, nI_leE, nI_eqE, nI_m1, in_t, ba0, ba1, Nat.one_ne_zero, Nat.reduceEqDiff, Nat.reduceLeDiff, Nat.add_eq_zero_iff, ok1 hA8, or1_9 hA8, ok11 hA8]
    rw [g9, c0_v]
  · rcases z with z | z
    · exact Or.inl (Or.inl (Or.inl (Or.inl (Or.inl (Or.inl (Or.inl (Or.inl (Or.inl z))))))))
    · have : i = 1 ∨ i = 2 ∨ i = 3 ∨ i = 4 ∨ i = 5 ∨ i = 6 ∨ i = 7 ∨ i = 8 ∨ i = 9 ∨ i = 10 ∨ i = 11 ∨ i = 12 := by omega
      omega
theorem x47 (p0 : PCo m0 a (fun _ _ => 0) (fun _ _ => 0) S m) : ∃ m', am_ca sa sv (d + 2) 47 [.ref (a + 19)] m = some (.inl none, m') ∧ PCo m0 a (fun _ _ => 0) (fun _ _ => 0) (fun i => S i ∨ (19 ≤ i ∧ i < 27)) m' := by
  have hA0 := p0.2.1
  obtain ⟨m1, g1, f1, v1⟩ := x367 (sa := sa) (sv := sv) (d := d) (a + 20) 10 0 (ok20 hA0) (by decide)
  have p1 := p0.frl 20 (by omega) f1 (fun k z => by rw [v1 k (by unfold dL_' at z; omega)])
  have hA1 := p1.2.1
  obtain ⟨m2, g2, f2, v2⟩ := x367 (sa := sa) (sv := sv) (d := d) (a + 21) 40 0 (ok21 hA1) (by decide)
  have p2 := p1.frl 21 (by omega) f2 (fun k z => by rw [v2 k (by unfold dL_' at z; omega)])
  have hA2 := p2.2.1
  obtain ⟨m3, g3, f3, v3⟩ := x367 (sa := sa) (sv := sv) (d := d) (a + 22) 30 0 (ok22 hA2) (by decide)
  have p3 := p2.frl 22 (by omega) f3 (fun k z => by rw [v3 k (by unfold dL_' at z; omega)])
  have hA3 := p3.2.1
  obtain ⟨m4, g4, f4, v4⟩ := x367 (sa := sa) (sv := sv) (d := d) (a + 23) 120 0 (ok23 hA3) (by decide)
  have p4 := p3.frl 23 (by omega) f4 (fun k z => by rw [v4 k (by unfold dL_' at z; omega)])
  have hA4 := p4.2.1
  obtain ⟨m5, g5, f5, v5⟩ := x367 (sa := sa) (sv := sv) (d := d) (a + 24) 12 0 (ok24 hA4) (by decide)
  have p5 := p4.frl 24 (by omega) f5 (fun k z => by rw [v5 k (by unfold dL_' at z; omega)])
  have hA5 := p5.2.1
  obtain ⟨m6, g6, f6, v6⟩ := x367 (sa := sa) (sv := sv) (d := d) (a + 25) 250 0 (ok25 hA5) (by decide)
  have p6 := p5.frl 25 (by omega) f6 (fun k z => by rw [v6 k (by unfold dL_' at z; omega)])
  have hA6 := p6.2.1
  obtain ⟨m7, g7, f7, v7⟩ := x368 (sa := sa) (sv := sv) (d := d) (a + 26) 5 (nI 0) (ok26 hA6) (by decide)
  have p7 := p6.fri 26 (by omega) f7 (fun k z => by rw [v7 k (by unfold dI_ at z; omega)]; rfl)
  have hA7 := p7.2.1
  have p8 := (p7.si (j := 19) (k := 7) (nI 0) (by omega) (by omega) (fun _ => rfl)).add 19 (fun k z => by
    have : k = 7 := by unfold dI_ at z; omega
    rw [this, gi_si, if_pos ⟨rfl, rfl⟩]; rfl) (fun k z => by unfold dL_' at z; omega)
  refine ⟨si_ m7 (a + 19) 7 (nI 0), ?_, p8.mono fun i z => ?_⟩
  · rw [c47, b47_0]
    simp (disch := omega) only [gq_true, gb_true, gb_false, true_and, and_true, eq_self, not_false_eq_true, not_true_eq_false, true_or, or_true, false_or, or_false, false_and, and_false, c0_v, ci_v, cl_v, cf_v, pk_mul, nI_add, nI_clamp, nI_lt0, nI_0le, nI_eq0, nI_lt0r, nI_ltE, nI_leE, nI_eqE, nI_m1, in_t, ba0, ba1, Nat.one_ne_zero, Nat.reduceEqDiff, Nat.reduceLeDiff, Nat.add_eq_zero_iff, ok19 hA0, or19_0 hA0]
    rw [g1, c0_v]
    simp (disch := omega) only [gq_true, gb_true, gb_false, true_and, and_true, eq_self, not_false_eq_true, not_true_eq_false, true_or, or_true, false_or, or_false, false_and, and_false, c0_v, ci_v, cl_v, cf_v, pk_mul, nI_add, nI_clamp, nI_lt0, nI_0le, nI_eq0, nI_lt0r, nI_ltE, nI_leE, nI_eqE, nI_m1, in_t, ba0, ba1, Nat.one_ne_zero, Nat.reduceEqDiff, Nat.reduceLeDiff, Nat.add_eq_zero_iff, ok19 hA1, or19_1 hA1]
    rw [g2, c0_v]
    simp (disch := omega) only [gq_true, gb_true, gb_false, true_and, and_true, eq_self, not_false_eq_true, not_true_eq_false, true_or, or_true, false_or, or_false, false_and, and_false, c0_v, ci_v, cl_v, cf_v, pk_mul, nI_add, nI_clamp, nI_lt0, nI_0le, nI_eq0, nI_lt0r, nI_ltE, nI_leE, nI_eqE, nI_m1, in_t, ba0, ba1, Nat.one_ne_zero, Nat.reduceEqDiff, Nat.reduceLeDiff, Nat.add_eq_zero_iff, ok19 hA2, or19_2 hA2]
    rw [g3, c0_v]
    simp (disch := omega) only [gq_true, gb_true, gb_false, true_and, and_true, eq_self, not_false_eq_true, not_true_eq_false, true_or, or_true, false_or, or_false, false_and, and_false, c0_v, ci_v, cl_v, cf_v, pk_mul, nI_add, nI_clamp, nI_lt0, nI_0le, nI_eq0, nI_lt0r, nI_ltE, nI_leE, nI_eqE, nI_m1, in_t, ba0, ba1, Nat.one_ne_zero, Nat.reduceEqDiff, Nat.reduceLeDiff, Nat.add_eq_zero_iff, ok19 hA3, or19_3 hA3]
    rw [g4, c0_v]
    simp (disch := omega) only [gq_true, gb_true, gb_false, true_and, and_true, eq_self, not_false_eq_true, not_true_eq_false, true_or, or_true, false_or, or_false, false_and, and_false, c0_v, ci_v, cl_v, cf_v, pk_mul, nI_add, nI_clamp, nI_lt0, nI_0le, nI_eq0, nI_lt0r, nI_ltE, nI_leE, nI_eqE, nI_m1, in_t, ba0, ba1, Nat.one_ne_zero, Nat.reduceEqDiff, Nat.reduceLeDiff, Nat.add_eq_zero_iff, ok19 hA4, or19_4 hA4]
    rw [g5, c0_v]
    simp (disch := omega) only [gq_true, gb_true, gb_false, true_and, and_true, eq_self, not_false_eq_true, not_true_eq_false, true_or, or_true, false_or, or_false, false_and, and_false, c0_v, ci_v, cl_v, cf_v, pk_mul, nI_add, nI_clamp, nI_lt0, nI_0le, nI_eq0, nI_lt0r, nI_ltE, nI_leE, nI_eqE, nI_m1, in_t, ba0, ba1, Nat.one_ne_zero, Nat.reduceEqDiff, Nat.reduceLeDiff, Nat.add_eq_zero_iff, ok19 hA5, or19_5 hA5]
    rw [g6, c0_v]
    simp (disch := omega) only [gq_true, gb_true, gb_false, true_and, and_true, eq_self, not_false_eq_true, not_true_eq_false, true_or, or_true, false_or, or_false, false_and, and_false, c0_v, ci_v, cl_v, cf_v, pk_mul, nI_add, nI_clamp, nI_lt0, nI_0le, nI_eq0, nI_lt0r, nI_ltE, nI_leE, nI_eqE, nI_m1, in_t, ba0, ba1, Nat.one_ne_zero, Nat.reduceEqDiff, Nat.reduceLeDiff, Nat.add_eq_zero_iff, ok19 hA6, or19_6 hA6]
    rw [g7, c0_v]
    simp (disch := omega) only [gq_true, gb_true, gb_false, true_and, and_true, eq_self, not_false_eq_true, not_true_eq_false, true_or, or_true, false_or, or_false, false_and, and_false, c0_v, ci_v, cl_v, cf_v, pk_mul, nI_add, nI_clamp, nI_lt0, nI_0le, nI_eq0, nI_lt0r, nI_ltE, nI_leE, nI_eqE, nI_m1, in_t, ba0, ba1, Nat.one_ne_zero, Nat.reduceEqDiff, Nat.reduceLeDiff, Nat.add_eq_zero_iff, ok19 hA7]
  · rcases z with z | z
    · exact Or.inl (Or.inl (Or.inl (Or.inl (Or.inl (Or.inl (Or.inl (Or.inl z)))))))
    · have : i = 19 ∨ i = 20 ∨ i = 21 ∨ i = 22 ∨ i = 23 ∨ i = 24 ∨ i = 25 ∨ i = 26 := by omega
      omega
/-- an office is emptied -/
theorem x71 (ha : OS m a) (ha0 : 0 < a) : ∃ m', am_ca sa sv (d + 4) 71 [.ref a] m = some (.inl none, m') ∧ PCo m a (fun _ _ => 0) (fun _ _ => 0) (fun i => i < 27) m' := by
  have h0 : PCo m a (fun _ _ => 0) (fun _ _ => 0) (fun _ => False) m := ⟨Fr.refl _ _, ha, fun _ _ z => z.elim, fun _ _ z => z.elim⟩
  have p1 := (h0.si (j := 0) (k := 0) (nI 0) (by omega) (by omega) (fun _ => rfl)).add 0 (fun k z => by
    have : k = 0 := by unfold dI_ at z; omega
    rw [this, gi_si, if_pos ⟨rfl, rfl⟩]; rfl) (fun k z => by unfold dL_' at z; omega)
  rw [show a + 0 = a from rfl] at p1
  generalize hm1 : si_ m a 0 (nI 0) = m1 at p1
  have hA1 := p1.2.1
  obtain ⟨m2, g2, p2⟩ := x1 (sa := sa) (sv := sv) (d := d) p1
  have hA2 := p2.2.1
  obtain ⟨m3, g3, p3⟩ := x130c (sa := sa) (sv := sv) (d := d + 1) p2 13 6 96 (by omega) (ot13 hA2) (by decide) (fun k z => by unfold dI_ at z; omega)
  have hA3 := p3.2.1
  obtain ⟨m4, g4, p4⟩ := x130c (sa := sa) (sv := sv) (d := d + 1) p3 15 6 72 (by omega) (ot15 hA3) (by decide) (fun k z => by unfold dI_ at z; omega)
  have hA4 := p4.2.1
  obtain ⟨m5, g5, p5⟩ := x130c (sa := sa) (sv := sv) (d := d + 1) p4 17 4 256 (by omega) (ot17 hA4) (by decide) (fun k z => by unfold dI_ at z; omega)
  have hA5 := p5.2.1
  obtain ⟨m6, g6, p6⟩ := x47 (sa := sa) (sv := sv) (d := d + 1) p5
  refine ⟨m6, ?_, p6.mono fun i z => by omega⟩
  rw [c71, b71_0]
  simp (disch := omega) only [gq_true, gb_true, gb_false, true_and, and_true, eq_self, not_false_eq_true, not_true_eq_false, true_or, or_true, false_or, or_false, false_and, and_false, c0_v, ci_v, cl_v, cf_v, pk_mul, nI_add, nI_clamp, nI_lt0, nI_0le, nI_eq0, nI_lt0r, nI_ltE, nI_leE, nI_eqE, nI_m1, in_t, ba0, ba1, Nat.one_ne_zero, Nat.reduceEqDiff, Nat.reduceLeDiff, Nat.add_eq_zero_iff, ok0 ha, or0_1 ha, ok1 ha, hm1]
  rw [g2, c0_v]
  simp (disch := omega) only [gq_true, gb_true, gb_false, true_and, and_true, eq_self, not_false_eq_true, not_true_eq_false, true_or, or_true, false_or, or_false, false_and, and_false, c0_v, ci_v, cl_v, cf_v, pk_mul, nI_add, nI_clamp, nI_lt0, nI_0le, nI_eq0, nI_lt0r, nI_ltE, nI_leE, nI_eqE, nI_m1, in_t, ba0, ba1, Nat.one_ne_zero, Nat.reduceEqDiff, Nat.reduceLeDiff, Nat.add_eq_zero_iff, ok0 hA2, or0_2 hA2, ok13 hA2]
  rw [g3, c0_v]
  simp (disch := omega) only [gq_true, gb_true, gb_false, true_and, and_true, eq_self, not_false_eq_true, not_true_eq_false, true_or, or_true, false_or, or_false, false_and, and_false, c0_v, ci_v, cl_v, cf_v, pk_mul, nI_add, nI_clamp, nI_lt0, nI_0le, nI_eq0, nI_lt0r, nI_ltE, nI_leE, nI_eqE, nI_m1, in_t, ba0, ba1, Nat.one_ne_zero, Nat.reduceEqDiff, Nat.reduceLeDiff, Nat.add_eq_zero_iff, ok0 hA3, or0_3 hA3, ok15 hA3]
  rw [g4, c0_v]
  simp (disch := omega) only [gq_true, gb_true, gb_false, true_and, and_true, eq_self, not_false_eq_true, not_true_eq_false, true_or, or_true, false_or, or_false, false_and, and_false, c0_v, ci_v, cl_v, cf_v, pk_mul, nI_add, nI_clamp, nI_lt0, nI_0le, nI_eq0, nI_lt0r, nI_ltE, nI_leE, nI_eqE, nI_m1, in_t, ba0, ba1, Nat.one_ne_zero, Nat.reduceEqDiff, Nat.reduceLeDiff, Nat.add_eq_zero_iff, ok0 hA4, or0_4 hA4, ok17 hA4]
  rw [g5, c0_v]
  simp (disch := omega) only [gq_true, gb_true, gb_false, true_and, and_true, eq_self, not_false_eq_true, not_true_eq_false, true_or, or_true, false_or, or_false, false_and, and_false, c0_v, ci_v, cl_v, cf_v, pk_mul, nI_add, nI_clamp, nI_lt0, nI_0le, nI_eq0, nI_lt0r, nI_ltE, nI_leE, nI_eqE, nI_m1, in_t, ba0, ba1, Nat.one_ne_zero, Nat.reduceEqDiff, Nat.reduceLeDiff, Nat.add_eq_zero_iff, ok0 hA5, or0_5 hA5, ok19 hA5]
  rw [g6, c0_v]
end R77
