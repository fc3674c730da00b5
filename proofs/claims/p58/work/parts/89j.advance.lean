/-! an advance, an assignment are read: the class, whole -/
section I89
variable {sa sv d N o T n i B : Nat} {m : am_M} {b : Nat → Nat} {s : Nat → Int32} {q : Nat → Int64}
theorem mst_le (hA : WA s) (p w f u : Nat) : ∀ i, mst_ s p w f u i ≤ 100 := by
  intro i
  induction i with
  | zero => exact wa_s hA p w f
  | succ i ih =>
    show (if f < cN s (594 + 6 * i + 4) ∧ cN s (594 + 6 * i + 4) < u then max (mst_ s p w f u i) (lv_ s p w (cN s (594 + 6 * i + 4)) (cN s 2)) else mst_ s p w f u i) ≤ 100
    have := wa_s hA p w (cN s (594 + 6 * i + 4))
    split <;> omega
theorem x116 (h : CT m N b n T i) (hS : SR m N o s q) (hG : WG B s q) (hk : ¬ Kd b n i = 0) : CW N m (PU N o) (fun _ => none) (fun j z m' => CT m' N b n T j ∧ SR m' N o z.1 z.2) (sAS s q b n i) (am_ca sa sv (d + 5) 116 [.ref (N + 7)] m) := by
  have hC := hG.1.1
  have hA := hG.1.2.2.1
  obtain ⟨t2, hna⟩ := (wc_na hC).c (by decide)
  have hnp := isN_lt (wc_np hC) (by decide)
  have hnw := isN_lt (wc_nw hC) (by decide)
  have na : gi_ m (o + 13) 2 = nI (cN s 2) := (ov_na hS.V).trans t2
  have z13 : (o + 13 = 0) = False := eq_false (by omega)
  rw [c116, b116_0]
  simp (disch := omega) only [gq_true, gb_true, gb_false, true_and, and_true, eq_self, not_false_eq_true, not_true_eq_false, true_or, or_true, false_or, or_false, false_and, and_false, c0_v, ci_v, cl_v, cf_v, pk_mul, nI_add, nI_clamp, nI_lt0, nI_0le, nI_eq0, nI_lt0r, nI_ltE, nI_leE, nI_eqE, nI_m1, in_t, ba0, ba1, Nat.one_ne_zero, Nat.reduceEqDiff, Nat.reduceLeDiff, Nat.add_eq_zero_iff, xk7 h.1, hS.r2, hS.z0, ok0 hS.O, or0_2 hS.O, z13, ok13 hS.O, na]
  unfold sAS
  refine CW.c0 ((x118 (sa := sa) (sv := sv) (d := d + 2) h hk (cN s 2) 16 (by omega) (by decide)).st h hS (fun x e => by have := (sFst_i e).2; have := h.lt hk; omega)) (fun _ => rfl) (fun x1 m1 e1 f1 ⟨h1, s1⟩ => ?_)
  simp (disch := omega) only [gq_true, gb_true, gb_false, true_and, and_true, eq_self, not_false_eq_true, not_true_eq_false, true_or, or_true, false_or, or_false, false_and, and_false, c0_v, ci_v, cl_v, cf_v, pk_mul, nI_add, nI_clamp, nI_lt0, nI_0le, nI_eq0, nI_lt0r, nI_ltE, nI_leE, nI_eqE, nI_m1, in_t, ba0, ba1, Nat.one_ne_zero, Nat.reduceEqDiff, Nat.reduceLeDiff, Nat.add_eq_zero_iff, xk7 h1.1, xr7_0 h1.1, xk2 h1.1]
  refine CW.ci nI ((x120 (sa := sa) (sv := sv) (d := d + 1) h1 s1 hC).st h1 s1 (fun x e => by have z := sPay_i e; have := h1.lt (by omega); omega)) (fun _ => rfl) (fun x2 m2 e2 f2 ⟨h2, s2⟩ => ?_)
  simp (disch := omega) only [gq_true, gb_true, gb_false, true_and, and_true, eq_self, not_false_eq_true, not_true_eq_false, true_or, or_true, false_or, or_false, false_and, and_false, c0_v, ci_v, cl_v, cf_v, pk_mul, nI_add, nI_clamp, nI_lt0, nI_0le, nI_eq0, nI_lt0r, nI_ltE, nI_leE, nI_eqE, nI_m1, in_t, ba0, ba1, Nat.one_ne_zero, Nat.reduceEqDiff, Nat.reduceLeDiff, Nat.add_eq_zero_iff, xk7 h2.1, xr7_0 h2.1, xk2 h2.1, s2.r2, s2.z0, ok0 s2.O]
  refine CW.c0 ((x144 (sa := sa) (sv := sv) (d := d + 2) h2 13 (by decide) (by decide)).st h2 s2 (fun x e => by have z := sTake_i e; have := h2.lt (by omega); omega)) (fun _ => rfl) (fun x3 m3 e3 f3 ⟨h3, s3⟩ => ?_)
  simp (disch := omega) only [gq_true, gb_true, gb_false, true_and, and_true, eq_self, not_false_eq_true, not_true_eq_false, true_or, or_true, false_or, or_false, false_and, and_false, c0_v, ci_v, cl_v, cf_v, pk_mul, nI_add, nI_clamp, nI_lt0, nI_0le, nI_eq0, nI_lt0r, nI_ltE, nI_leE, nI_eqE, nI_m1, in_t, ba0, ba1, Nat.one_ne_zero, Nat.reduceEqDiff, Nat.reduceLeDiff, Nat.add_eq_zero_iff, xk7 h3.1, xr7_0 h3.1, xk2 h3.1, s3.r2, s3.z0, ok0 s3.O]
  refine CW.ci nI ((x121 (sa := sa) (sv := sv) (d := d + 1) h3 s3 hC).st h3 s3 (fun x e => by have z := sWrk_i e; have := h3.lt (by omega); omega)) (fun _ => rfl) (fun x4 m4 e4 f4 ⟨h4, s4⟩ => ?_)
  simp (disch := omega) only [gq_true, gb_true, gb_false, true_and, and_true, eq_self, not_false_eq_true, not_true_eq_false, true_or, or_true, false_or, or_false, false_and, and_false, c0_v, ci_v, cl_v, cf_v, pk_mul, nI_add, nI_clamp, nI_lt0, nI_0le, nI_eq0, nI_lt0r, nI_ltE, nI_leE, nI_eqE, nI_m1, in_t, ba0, ba1, Nat.one_ne_zero, Nat.reduceEqDiff, Nat.reduceLeDiff, Nat.add_eq_zero_iff, xk7 h4.1, xr7_0 h4.1, xk2 h4.1, s4.r2, s4.z0, ok0 s4.O]
  refine CW.c0 ((x144 (sa := sa) (sv := sv) (d := d + 2) h4 17 (by decide) (by decide)).st h4 s4 (fun x e => by have z := sTake_i e; have := h4.lt (by omega); omega)) (fun _ => rfl) (fun x5 m5 e5 f5 ⟨h5, s5⟩ => ?_)
  simp (disch := omega) only [gq_true, gb_true, gb_false, true_and, and_true, eq_self, not_false_eq_true, not_true_eq_false, true_or, or_true, false_or, or_false, false_and, and_false, c0_v, ci_v, cl_v, cf_v, pk_mul, nI_add, nI_clamp, nI_lt0, nI_0le, nI_eq0, nI_lt0r, nI_ltE, nI_leE, nI_eqE, nI_m1, in_t, ba0, ba1, Nat.one_ne_zero, Nat.reduceEqDiff, Nat.reduceLeDiff, Nat.add_eq_zero_iff, xk7 h5.1, xr7_0 h5.1, xk2 h5.1, s5.r2, s5.z0, ok0 s5.O]
  refine CW.ci nI ((x120 (sa := sa) (sv := sv) (d := d + 1) h5 s5 hC).st h5 s5 (fun x e => by have z := sPay_i e; have := h5.lt (by omega); omega)) (fun _ => rfl) (fun x6 m6 e6 f6 ⟨h6, s6⟩ => ?_)
  simp (disch := omega) only [gq_true, gb_true, gb_false, true_and, and_true, eq_self, not_false_eq_true, not_true_eq_false, true_or, or_true, false_or, or_false, false_and, and_false, c0_v, ci_v, cl_v, cf_v, pk_mul, nI_add, nI_clamp, nI_lt0, nI_0le, nI_eq0, nI_lt0r, nI_ltE, nI_leE, nI_eqE, nI_m1, in_t, ba0, ba1, Nat.one_ne_zero, Nat.reduceEqDiff, Nat.reduceLeDiff, Nat.add_eq_zero_iff, xk7 h6.1, xr7_0 h6.1, xk2 h6.1, s6.r2, s6.z0, ok0 s6.O]
  refine CW.ci nI ((x145 (sa := sa) (sv := sv) (d := d + 2) h6 1 100 (by decide) (by decide)).st h6 s6 (fun x e => by have z := sNum_i e; have := h6.lt (by omega); omega)) (fun _ => rfl) (fun x7 m7 e7 f7 ⟨h7, s7⟩ => ?_)
  simp (disch := omega) only [gq_true, gb_true, gb_false, true_and, and_true, eq_self, not_false_eq_true, not_true_eq_false, true_or, or_true, false_or, or_false, false_and, and_false, c0_v, ci_v, cl_v, cf_v, pk_mul, nI_add, nI_clamp, nI_lt0, nI_0le, nI_eq0, nI_lt0r, nI_ltE, nI_leE, nI_eqE, nI_m1, in_t, ba0, ba1, Nat.one_ne_zero, Nat.reduceEqDiff, Nat.reduceLeDiff, Nat.add_eq_zero_iff, xk7 h7.1, xr7_0 h7.1, xk2 h7.1, s7.r2, s7.z0, ok0 s7.O]
  refine CW.c0 ((x144 (sa := sa) (sv := sv) (d := d + 2) h7 15 (by decide) (by decide)).st h7 s7 (fun x e => by have z := sTake_i e; have := h7.lt (by omega); omega)) (fun _ => rfl) (fun x8 m8 e8 f8 ⟨h8, s8⟩ => ?_)
  simp (disch := omega) only [gq_true, gb_true, gb_false, true_and, and_true, eq_self, not_false_eq_true, not_true_eq_false, true_or, or_true, false_or, or_false, false_and, and_false, c0_v, ci_v, cl_v, cf_v, pk_mul, nI_add, nI_clamp, nI_lt0, nI_0le, nI_eq0, nI_lt0r, nI_ltE, nI_leE, nI_eqE, nI_m1, in_t, ba0, ba1, Nat.one_ne_zero, Nat.reduceEqDiff, Nat.reduceLeDiff, Nat.add_eq_zero_iff, xk7 h8.1, xr7_0 h8.1, xk2 h8.1, s8.r2, s8.z0, ok0 s8.O]
  refine CW.ci nI ((x145 (sa := sa) (sv := sv) (d := d + 2) h8 0 9999 (by decide) (by decide)).st h8 s8 (fun x e => by have z := sNum_i e; have := h8.lt (by omega); omega)) (fun _ => rfl) (fun x9 m9 e9 f9 ⟨h9, s9⟩ => ?_)
  simp (disch := omega) only [gq_true, gb_true, gb_false, true_and, and_true, eq_self, not_false_eq_true, not_true_eq_false, true_or, or_true, false_or, or_false, false_and, and_false, c0_v, ci_v, cl_v, cf_v, pk_mul, nI_add, nI_clamp, nI_lt0, nI_0le, nI_eq0, nI_lt0r, nI_ltE, nI_leE, nI_eqE, nI_m1, in_t, ba0, ba1, Nat.one_ne_zero, Nat.reduceEqDiff, Nat.reduceLeDiff, Nat.add_eq_zero_iff, xk7 h9.1, xr7_0 h9.1, xk2 h9.1, s9.r2, s9.z0, ok0 s9.O]
  refine CW.c0 ((x144 (sa := sa) (sv := sv) (d := d + 2) h9 18 (by decide) (by decide)).st h9 s9 (fun x e => by have z := sTake_i e; have := h9.lt (by omega); omega)) (fun _ => rfl) (fun x10 m10 e10 f10 ⟨h10, s10⟩ => ?_)
  simp (disch := omega) only [gq_true, gb_true, gb_false, true_and, and_true, eq_self, not_false_eq_true, not_true_eq_false, true_or, or_true, false_or, or_false, false_and, and_false, c0_v, ci_v, cl_v, cf_v, pk_mul, nI_add, nI_clamp, nI_lt0, nI_0le, nI_eq0, nI_lt0r, nI_ltE, nI_leE, nI_eqE, nI_m1, in_t, ba0, ba1, Nat.one_ne_zero, Nat.reduceEqDiff, Nat.reduceLeDiff, Nat.add_eq_zero_iff, xk7 h10.1, xr7_0 h10.1, xk2 h10.1, s10.r2, s10.z0, ok0 s10.O]
  refine CW.ci nI ((x145 (sa := sa) (sv := sv) (d := d + 2) h10 1 9999 (by decide) (by decide)).st h10 s10 (fun x e => by have z := sNum_i e; have := h10.lt (by omega); omega)) (fun _ => rfl) (fun x11 m11 e11 f11 ⟨h11, s11⟩ => ?_)
  simp (disch := omega) only [gq_true, gb_true, gb_false, true_and, and_true, eq_self, not_false_eq_true, not_true_eq_false, true_or, or_true, false_or, or_false, false_and, and_false, c0_v, ci_v, cl_v, cf_v, pk_mul, nI_add, nI_clamp, nI_lt0, nI_0le, nI_eq0, nI_lt0r, nI_ltE, nI_leE, nI_eqE, nI_m1, in_t, ba0, ba1, Nat.one_ne_zero, Nat.reduceEqDiff, Nat.reduceLeDiff, Nat.add_eq_zero_iff, xk7 h11.1, xr7_0 h11.1, xk2 h11.1, s11.r2, s11.z0, ok0 s11.O]
  have k1 := (sFst_i e1).1
  have k2 := (sPay_i e2).2.2
  have k4 := (sWrk_i e4).2.2.1
  have k6 := (sPay_i e6).2.2
  have k7 := (sNum_i e7).2.2.2
  have k9 := (sNum_i e9).2.2.2
  have k11 := (sNum_i e11).2.2.2
  have hm : mst_ s x2.2 x4.2 x9.2 x11.2 (cN s 2) ≤ 100 := mst_le hA _ _ _ _ _
  unfold whA
  simp (disch := omega) only [gq_true, gb_true, gb_false, true_and, and_true, eq_self, not_false_eq_true, not_true_eq_false, true_or, or_true, false_or, or_false, false_and, and_false, c0_v, ci_v, cl_v, cf_v, pk_mul, nI_add, nI_clamp, nI_lt0, nI_0le, nI_eq0, nI_lt0r, nI_ltE, nI_leE, nI_eqE, nI_m1, in_t, ba0, ba1, Nat.one_ne_zero, Nat.reduceEqDiff, Nat.reduceLeDiff, Nat.add_eq_zero_iff, x76 (sa := sa) (sv := sv) (d := d) s11.O s11.V hC hA x4.2 x2.2 x9.2 x11.2 (by omega) (by omega) (by omega) (by omega)]
  by_cases q1 : x2.2 = x6.2
  · rw [if_pos q1, gb_pos q1]
    exact x116_155 h11 s11 hC (by omega) _ _ _ _ _ _ 5 (by decide) _
  · rw [if_neg q1, gb_neg q1]
    by_cases q2 : x9.2 < x11.2
    · rw [if_pos q2, gb_pos q2]
      by_cases q3 : mst_ s x2.2 x4.2 x9.2 x11.2 (cN s 2) + x7.2 ≤ 100
      · rw [if_pos q3, gb_pos q3]
        exact x116_155 h11 s11 hC (by omega) _ _ _ _ _ _ 0 (by decide) _
      · rw [if_neg q3, gb_neg q3]
        exact x116_155 h11 s11 hC (by omega) _ _ _ _ _ _ 6 (by decide) _
    · rw [if_neg q2, gb_neg q2]
      exact x116_155 h11 s11 hC (by omega) _ _ _ _ _ _ 5 (by decide) _
theorem x117 (h : CT m N b n T i) (hS : SR m N o s q) (hG : WG B s q) (hk : ¬ Kd b n i = 0) : CW N m (PU N o) (fun _ => none) (fun j z m' => CT m' N b n T j ∧ SR m' N o z.1 z.2) (sAD s q b n i) (am_ca sa sv (d + 5) 117 [.ref (N + 7)] m) := by
  have hC := hG.1.1
  obtain ⟨t2, hna⟩ := (wc_nd hC).c (by decide)
  have hnp := isN_lt (wc_np hC) (by decide)
  have hnw := isN_lt (wc_nw hC) (by decide)
  have na : gi_ m (o + 15) 2 = nI (cN s 3) := (ov_nd hS.V).trans t2
  have z15 : (o + 15 = 0) = False := eq_false (by omega)
  rw [c117, b117_0]
  simp (disch := omega) only [gq_true, gb_true, gb_false, true_and, and_true, eq_self, not_false_eq_true, not_true_eq_false, true_or, or_true, false_or, or_false, false_and, and_false, c0_v, ci_v, cl_v, cf_v, pk_mul, nI_add, nI_clamp, nI_lt0, nI_0le, nI_eq0, nI_lt0r, nI_ltE, nI_leE, nI_eqE, nI_m1, in_t, ba0, ba1, Nat.one_ne_zero, Nat.reduceEqDiff, Nat.reduceLeDiff, Nat.add_eq_zero_iff, xk7 h.1, hS.r2, hS.z0, ok0 hS.O, or0_3 hS.O, z15, ok15 hS.O, na]
  unfold sAD
  refine CW.c0 ((x118 (sa := sa) (sv := sv) (d := d + 2) h hk (cN s 3) 12 (by omega) (by decide)).st h hS (fun x e => by have := (sFst_i e).2; have := h.lt hk; omega)) (fun _ => rfl) (fun x1 m1 e1 f1 ⟨h1, s1⟩ => ?_)
  simp (disch := omega) only [gq_true, gb_true, gb_false, true_and, and_true, eq_self, not_false_eq_true, not_true_eq_false, true_or, or_true, false_or, or_false, false_and, and_false, c0_v, ci_v, cl_v, cf_v, pk_mul, nI_add, nI_clamp, nI_lt0, nI_0le, nI_eq0, nI_lt0r, nI_ltE, nI_leE, nI_eqE, nI_m1, in_t, ba0, ba1, Nat.one_ne_zero, Nat.reduceEqDiff, Nat.reduceLeDiff, Nat.add_eq_zero_iff, xk7 h1.1, xr7_0 h1.1, xk2 h1.1]
  refine CW.ci nI ((x120 (sa := sa) (sv := sv) (d := d + 1) h1 s1 hC).st h1 s1 (fun x e => by have z := sPay_i e; have := h1.lt (by omega); omega)) (fun _ => rfl) (fun x2 m2 e2 f2 ⟨h2, s2⟩ => ?_)
  simp (disch := omega) only [gq_true, gb_true, gb_false, true_and, and_true, eq_self, not_false_eq_true, not_true_eq_false, true_or, or_true, false_or, or_false, false_and, and_false, c0_v, ci_v, cl_v, cf_v, pk_mul, nI_add, nI_clamp, nI_lt0, nI_0le, nI_eq0, nI_lt0r, nI_ltE, nI_leE, nI_eqE, nI_m1, in_t, ba0, ba1, Nat.one_ne_zero, Nat.reduceEqDiff, Nat.reduceLeDiff, Nat.add_eq_zero_iff, xk7 h2.1, xr7_0 h2.1, xk2 h2.1, s2.r2, s2.z0, ok0 s2.O]
  refine CW.ci nI ((x145 (sa := sa) (sv := sv) (d := d + 2) h2 1 999999 (by decide) (by decide)).st h2 s2 (fun x e => by have z := sNum_i e; have := h2.lt (by omega); omega)) (fun _ => rfl) (fun x3 m3 e3 f3 ⟨h3, s3⟩ => ?_)
  simp (disch := omega) only [gq_true, gb_true, gb_false, true_and, and_true, eq_self, not_false_eq_true, not_true_eq_false, true_or, or_true, false_or, or_false, false_and, and_false, c0_v, ci_v, cl_v, cf_v, pk_mul, nI_add, nI_clamp, nI_lt0, nI_0le, nI_eq0, nI_lt0r, nI_ltE, nI_leE, nI_eqE, nI_m1, in_t, ba0, ba1, Nat.one_ne_zero, Nat.reduceEqDiff, Nat.reduceLeDiff, Nat.add_eq_zero_iff, xk7 h3.1, xr7_0 h3.1, xk2 h3.1, s3.r2, s3.z0, ok0 s3.O]
  refine CW.c0 ((x144 (sa := sa) (sv := sv) (d := d + 2) h3 17 (by decide) (by decide)).st h3 s3 (fun x e => by have z := sTake_i e; have := h3.lt (by omega); omega)) (fun _ => rfl) (fun x4 m4 e4 f4 ⟨h4, s4⟩ => ?_)
  simp (disch := omega) only [gq_true, gb_true, gb_false, true_and, and_true, eq_self, not_false_eq_true, not_true_eq_false, true_or, or_true, false_or, or_false, false_and, and_false, c0_v, ci_v, cl_v, cf_v, pk_mul, nI_add, nI_clamp, nI_lt0, nI_0le, nI_eq0, nI_lt0r, nI_ltE, nI_leE, nI_eqE, nI_m1, in_t, ba0, ba1, Nat.one_ne_zero, Nat.reduceEqDiff, Nat.reduceLeDiff, Nat.add_eq_zero_iff, xk7 h4.1, xr7_0 h4.1, xk2 h4.1, s4.r2, s4.z0, ok0 s4.O]
  refine CW.ci nI ((x120 (sa := sa) (sv := sv) (d := d + 1) h4 s4 hC).st h4 s4 (fun x e => by have z := sPay_i e; have := h4.lt (by omega); omega)) (fun _ => rfl) (fun x5 m5 e5 f5 ⟨h5, s5⟩ => ?_)
  simp (disch := omega) only [gq_true, gb_true, gb_false, true_and, and_true, eq_self, not_false_eq_true, not_true_eq_false, true_or, or_true, false_or, or_false, false_and, and_false, c0_v, ci_v, cl_v, cf_v, pk_mul, nI_add, nI_clamp, nI_lt0, nI_0le, nI_eq0, nI_lt0r, nI_ltE, nI_leE, nI_eqE, nI_m1, in_t, ba0, ba1, Nat.one_ne_zero, Nat.reduceEqDiff, Nat.reduceLeDiff, Nat.add_eq_zero_iff, xk7 h5.1, xr7_0 h5.1, xk2 h5.1, s5.r2, s5.z0, ok0 s5.O]
  refine CW.c0 ((x144 (sa := sa) (sv := sv) (d := d + 2) h5 20 (by decide) (by decide)).st h5 s5 (fun x e => by have z := sTake_i e; have := h5.lt (by omega); omega)) (fun _ => rfl) (fun x6 m6 e6 f6 ⟨h6, s6⟩ => ?_)
  simp (disch := omega) only [gq_true, gb_true, gb_false, true_and, and_true, eq_self, not_false_eq_true, not_true_eq_false, true_or, or_true, false_or, or_false, false_and, and_false, c0_v, ci_v, cl_v, cf_v, pk_mul, nI_add, nI_clamp, nI_lt0, nI_0le, nI_eq0, nI_lt0r, nI_ltE, nI_leE, nI_eqE, nI_m1, in_t, ba0, ba1, Nat.one_ne_zero, Nat.reduceEqDiff, Nat.reduceLeDiff, Nat.add_eq_zero_iff, xk7 h6.1, xr7_0 h6.1, xk2 h6.1, s6.r2, s6.z0, ok0 s6.O]
  refine CW.ci nI ((x145 (sa := sa) (sv := sv) (d := d + 2) h6 1 100 (by decide) (by decide)).st h6 s6 (fun x e => by have z := sNum_i e; have := h6.lt (by omega); omega)) (fun _ => rfl) (fun x7 m7 e7 f7 ⟨h7, s7⟩ => ?_)
  simp (disch := omega) only [gq_true, gb_true, gb_false, true_and, and_true, eq_self, not_false_eq_true, not_true_eq_false, true_or, or_true, false_or, or_false, false_and, and_false, c0_v, ci_v, cl_v, cf_v, pk_mul, nI_add, nI_clamp, nI_lt0, nI_0le, nI_eq0, nI_lt0r, nI_ltE, nI_leE, nI_eqE, nI_m1, in_t, ba0, ba1, Nat.one_ne_zero, Nat.reduceEqDiff, Nat.reduceLeDiff, Nat.add_eq_zero_iff, xk7 h7.1, xr7_0 h7.1, xk2 h7.1, s7.r2, s7.z0, ok0 s7.O]
  have k1 := (sFst_i e1).1
  have k2 := (sPay_i e2).2.2
  have k3 := (sNum_i e3).2.2.2
  have k5 := (sPay_i e5).2.2
  have k7 := (sNum_i e7).2.2.2
  have hK := Kd_lt b n x7.1
  simp (disch := omega) only [gq_true, gb_true, gb_false, true_and, and_true, eq_self, not_false_eq_true, not_true_eq_false, true_or, or_true, false_or, or_false, false_and, and_false, c0_v, ci_v, cl_v, cf_v, pk_mul, nI_add, nI_clamp, nI_lt0, nI_0le, nI_eq0, nI_lt0r, nI_ltE, nI_leE, nI_eqE, nI_m1, in_t, ba0, ba1, Nat.one_ne_zero, Nat.reduceEqDiff, Nat.reduceLeDiff, Nat.add_eq_zero_iff, xk7 h7.1, xr7_0 h7.1, xk2 h7.1, x142 (sa := sa) (sv := sv) (d := d + 3) h7]
  by_cases e : Kd b n x7.1 = 21
  · rw [if_pos e, gb_pos e]
    have h8 : CT (stp m7 N (x7.1 + 1)) N b n T (x7.1 + 1) := h7.set (by have := h7.lt (by omega); omega)
    have s8 := s7.stp (x7.1 + 1)
    have f8 : Fr (PU N o) m7 (stp m7 N (x7.1 + 1)) := (Fr.refl _ _).si (Or.inl (Or.inl ⟨rfl, by omega, by omega⟩))
    have e143 : am_ca sa sv (d + 4) 143 [.ref (N + 2)] m7 = some (.inl none, stp m7 N (x7.1 + 1)) := x143 (sa := sa) (sv := sv) (d := d + 3) h7 (h7.lt (by omega))
    rw [e143, c0_v]
    refine CW.tr ?_ f8 (fun _ _ z => z)
    generalize stp m7 N (x7.1 + 1) = m8 at *
    simp (disch := omega) only [gq_true, gb_true, gb_false, true_and, and_true, eq_self, not_false_eq_true, not_true_eq_false, true_or, or_true, false_or, or_false, false_and, and_false, c0_v, ci_v, cl_v, cf_v, pk_mul, nI_add, nI_clamp, nI_lt0, nI_0le, nI_eq0, nI_lt0r, nI_ltE, nI_leE, nI_eqE, nI_m1, in_t, ba0, ba1, Nat.one_ne_zero, Nat.reduceEqDiff, Nat.reduceLeDiff, Nat.add_eq_zero_iff, xk7 h8.1]
    refine CW.ci nI ((x121 (sa := sa) (sv := sv) (d := d + 1) h8 s8 hC).st h8 s8 (fun x e => by have z := sWrk_i e; have := h8.lt (by omega); omega)) (fun _ => rfl) (fun x9 m9 e9 f9 ⟨h9, s9⟩ => ?_)
    simp (disch := omega) only [gq_true, gb_true, gb_false, true_and, and_true, eq_self, not_false_eq_true, not_true_eq_false, true_or, or_true, false_or, or_false, false_and, and_false, c0_v, ci_v, cl_v, cf_v, pk_mul, nI_add, nI_clamp, nI_lt0, nI_0le, nI_eq0, nI_lt0r, nI_ltE, nI_leE, nI_eqE, nI_m1, in_t, ba0, ba1, Nat.one_ne_zero, Nat.reduceEqDiff, Nat.reduceLeDiff, Nat.add_eq_zero_iff, xk7 h9.1, xr7_0 h9.1, xk2 h9.1]
    unfold sADt
    by_cases q1 : x2.2 = x5.2
    · rw [if_pos q1, gb_pos q1]
      exact x117_114 h9 s9 hC (by omega) _ _ _ _ _ 7 (by decide) _
    · rw [if_neg q1, gb_neg q1]
      exact x117_114 h9 s9 hC (by omega) _ _ _ _ _ 0 (by decide) _
  · rw [if_neg e, gb_neg e]
    unfold sADt
    by_cases q1 : x2.2 = x5.2
    · rw [if_pos q1, gb_pos q1]
      exact x117_114 h7 s7 hC (by omega) _ _ _ _ _ 7 (by decide) _
    · rw [if_neg q1, gb_neg q1]
      exact x117_114 h7 s7 hC (by omega) _ _ _ _ _ 0 (by decide) _
end I89
