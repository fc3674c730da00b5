/-! commands and repeats are read (class) -/
section I89
variable {sa sv d N o oo T n B W i j K a k : Nat} {b : Nat → Nat} {m m' : am_M} {s : Nat → Int32} {q : Nat → Int64} {P : Nat → Nat → Prop}
/-- the tests ahead of a command -/
theorem x105_0 (h : CT m N b n T i) (hS : SC m N o s q W) (hW : W ≤ 30) (ho : oo ≤ 2) {Q : Nat → Ins → am_M → Prop} (R : Nat → Er ⊕ (Nat × Ins)) (hr : ∀ l3, (Kd b n i = 8 ∨ (23 ≤ Kd b n i ∧ Kd b n i ≤ 27)) → ¬ (Kd b n i = 27 ∧ oo = 2) → W < 30 → CW N m (PC N W) (fun _ => none) Q (R i) (r105 sa sv (d + 2) 87 [some (.ref (N + 13)), some (.int (nI oo)), some (.int (nI (Kd b n i))), some (.int (nI l3)), none] [] m)) : CW N m (PC N W) (fun _ => none) Q (if ¬ (Kd b n i = 8 ∨ (23 ≤ Kd b n i ∧ Kd b n i ≤ 27)) then rr_ b n 1 i else if Kd b n i = 27 ∧ oo = 2 then rr_ b n 4 i else if W = 30 then rr_ b n 6 i else R i) (am_ca sa sv (d + 3) 105 [.ref (N + 13), .int (nI oo)] m) := by
  have hX := h.1
  have hK := Kd_lt b n i
  have z2 : (N + 2 = 0) = False := eq_false (by omega)
  have z10 : (N + 10 = 0) = False := eq_false (by omega)
  have z11 : (N + 11 = 0) = False := eq_false (by omega)
  have q142 := x142 (sa := sa) (sv := sv) (d := d + 1) h
  have q1 := x149 (sa := sa) (sv := sv) (d := d + 1) h 1
  have q4 := x149 (sa := sa) (sv := sv) (d := d + 1) h 4
  have q6 := x149 (sa := sa) (sv := sv) (d := d + 1) h 6
  have rW : gi_ m (N + 11) 2 = nI W := hS.2.2.2.2
  have s44 : ∀ l3, (Kd b n i = 8 ∨ (23 ≤ Kd b n i ∧ Kd b n i ≤ 27)) → CW N m (PC N W) (fun _ => none) Q (if Kd b n i = 27 ∧ oo = 2 then rr_ b n 4 i else if W = 30 then rr_ b n 6 i else R i) (r105 sa sv (d + 2) 44 [some (.ref (N + 13)), some (.int (nI oo)), some (.int (nI (Kd b n i))), some (.int (nI l3)), none] [] m) := fun l3 hk => by
    by_cases k27 : Kd b n i = 27
    · by_cases o2 : oo = 2
      · rw [if_pos ⟨k27, o2⟩, b105_44]
        simp (disch := omega) only [gq_true, gb_true, gb_false, true_and, and_true, eq_self, not_false_eq_true, not_true_eq_false, true_or, or_true, false_or, or_false, false_and, and_false, c0_v, ci_v, cl_v, cf_v, pk_mul, nI_add, nI_clamp, nI_lt0, nI_0le, nI_eq0, nI_lt0r, nI_ltE, nI_leE, nI_eqE, nI_m1, in_t, ba0, ba1, Nat.one_ne_zero, Nat.reduceEqDiff, Nat.reduceLeDiff, Nat.add_eq_zero_iff, k27, o2, Nat.lt_irrefl, xk13 hX, xr13_0 hX, xk2 hX, z2, q4, c0_x, xg_v]
        exact CW.fail h 4
      · rw [if_neg (fun z => o2 z.2)]
        by_cases w30 : W = 30
        · rw [if_pos w30, b105_44]
          simp (disch := omega) only [gq_true, gb_true, gb_false, true_and, and_true, eq_self, not_false_eq_true, not_true_eq_false, true_or, or_true, false_or, or_false, false_and, and_false, c0_v, ci_v, cl_v, cf_v, pk_mul, nI_add, nI_clamp, nI_lt0, nI_0le, nI_eq0, nI_lt0r, nI_ltE, nI_leE, nI_eqE, nI_m1, in_t, ba0, ba1, Nat.one_ne_zero, Nat.reduceEqDiff, Nat.reduceLeDiff, Nat.add_eq_zero_iff, k27, eq_true (show oo < 2 by omega), xk13 hX, xr13_0 hX, xr13_1 hX, xk10 hX, xr10_0 hX, xk11 hX, xk2 hX, z2, z10, z11, rW, w30, Nat.lt_irrefl, q6, c0_x, xg_v]
          exact CW.fail h 6
        · rw [if_neg w30, b105_44]
          have := hr l3 hk (fun z => o2 z.2) (by omega)
          rw [k27] at this
          simp (disch := omega) only [gq_true, gb_true, gb_false, true_and, and_true, eq_self, not_false_eq_true, not_true_eq_false, true_or, or_true, false_or, or_false, false_and, and_false, c0_v, ci_v, cl_v, cf_v, pk_mul, nI_add, nI_clamp, nI_lt0, nI_0le, nI_eq0, nI_lt0r, nI_ltE, nI_leE, nI_eqE, nI_m1, in_t, ba0, ba1, Nat.one_ne_zero, Nat.reduceEqDiff, Nat.reduceLeDiff, Nat.add_eq_zero_iff, k27, eq_true (show oo < 2 by omega), xk13 hX, xr13_1 hX, xk10 hX, xr10_0 hX, xk11 hX, z10, z11, rW, eq_true (show W < 30 by omega)]
          exact this
    · rw [if_neg (fun z => k27 z.1)]
      by_cases w30 : W = 30
      · rw [if_pos w30, b105_44]
        simp (disch := omega) only [gq_true, gb_true, gb_false, true_and, and_true, eq_self, not_false_eq_true, not_true_eq_false, true_or, or_true, false_or, or_false, false_and, and_false, c0_v, ci_v, cl_v, cf_v, pk_mul, nI_add, nI_clamp, nI_lt0, nI_0le, nI_eq0, nI_lt0r, nI_ltE, nI_leE, nI_eqE, nI_m1, in_t, ba0, ba1, Nat.one_ne_zero, Nat.reduceEqDiff, Nat.reduceLeDiff, Nat.add_eq_zero_iff, eq_false k27, xk13 hX, xr13_0 hX, xr13_1 hX, xk10 hX, xr10_0 hX, xk11 hX, xk2 hX, z2, z10, z11, rW, w30, Nat.lt_irrefl, q6, c0_x, xg_v]
        exact CW.fail h 6
      · rw [if_neg w30, b105_44]
        simp (disch := omega) only [gq_true, gb_true, gb_false, true_and, and_true, eq_self, not_false_eq_true, not_true_eq_false, true_or, or_true, false_or, or_false, false_and, and_false, c0_v, ci_v, cl_v, cf_v, pk_mul, nI_add, nI_clamp, nI_lt0, nI_0le, nI_eq0, nI_lt0r, nI_ltE, nI_leE, nI_eqE, nI_m1, in_t, ba0, ba1, Nat.one_ne_zero, Nat.reduceEqDiff, Nat.reduceLeDiff, Nat.add_eq_zero_iff, eq_false k27, xk13 hX, xr13_1 hX, xk10 hX, xr10_0 hX, xk11 hX, z10, z11, rW, eq_true (show W < 30 by omega)]
        exact hr l3 hk (fun z => k27 z.1) (by omega)
  have n10 : (nI 1 = 0) = False := eq_false (by decide)
  have n00 : (nI 0 = 0) = True := eq_true rfl
  rw [c105, b105_0]
  simp (disch := omega) only [gq_true, gb_true, gb_false, true_and, and_true, eq_self, not_false_eq_true, not_true_eq_false, true_or, or_true, false_or, or_false, false_and, and_false, c0_v, ci_v, cl_v, cf_v, pk_mul, nI_add, nI_clamp, nI_lt0, nI_0le, nI_eq0, nI_lt0r, nI_ltE, nI_leE, nI_eqE, nI_m1, in_t, ba0, ba1, Nat.one_ne_zero, Nat.reduceEqDiff, Nat.reduceLeDiff, Nat.add_eq_zero_iff, xk13 hX, xr13_0 hX, xk2 hX, z2, q142]
  by_cases k8 : Kd b n i = 8
  · rw [gb_pos k8, if_neg (fun z => z (Or.inl k8))]
    exact s44 1 (Or.inl k8)
  · rw [gb_neg k8]
    by_cases k23 : Kd b n i < 23
    · rw [gb_pos k23, if_pos (by omega)]
      simp (disch := omega) only [gq_true, gb_true, gb_false, true_and, and_true, eq_self, not_false_eq_true, not_true_eq_false, true_or, or_true, false_or, or_false, false_and, and_false, c0_v, ci_v, cl_v, cf_v, pk_mul, nI_add, nI_clamp, nI_lt0, nI_0le, nI_eq0, nI_lt0r, nI_ltE, nI_leE, nI_eqE, nI_m1, in_t, ba0, ba1, Nat.one_ne_zero, Nat.reduceEqDiff, Nat.reduceLeDiff, Nat.add_eq_zero_iff, xk13 hX, xr13_0 hX, xk2 hX, z2, q1, c0_x, xg_v]
      exact CW.fail h 1
    · rw [gb_neg k23, if_neg (fun z => z (Or.inr (by omega))), gb_neg (by omega)]
      exact s44 1 (Or.inr (by omega))
theorem x105 (h : CT m N b n T i) (hS : SC m N o s q W) (hG : WG B s q) (hW : W ≤ 30) (ho : oo ≤ 2) (hk : ¬ Kd b n i = 27) : CW N m (PC N W) (fun _ => none) (QC N o T n W b s q) (sCm s q b n oo W i) (am_ca sa sv (d + 3) 105 [.ref (N + 13), .int (nI oo)] m) := by
  rw [sCm_t]
  exact x105_0 h hS hW ho (fun i => sCt s q b n i) (fun l3 h1 h2 h3 => x105_87 h hS hG h3 (by omega) (nI l3) none)
end I89
