/-! income, pass, revert, setLeast, close: the class -/
section I89
variable {sa sv d N o n B : Nat} {X : TX} {m m' : am_M} {f : Nat → Nat} {P : Nat → Nat → Prop} {s s' : Nat → Int32} {q q' : Nat → Int64}
theorem TC.cq (h : TC m N X) (hF : TF m N f X) (hG : XG B X) (hN : 0 < N) (hB : B < 2 ^ 30) : CQ B m N (oa N (f 7)) X.s X.q := ⟨h.x, hN, hF.2.1, by unfold oa; omega, h.o _ (hF.1.lt (by omega)), hF.2.2.2.2.1, hG.1.1, hB⟩
theorem XF.a15 {a k : Nat} (h : N + 15 ≤ a) (h2 : a ≤ N + 20) : XF N a k := ⟨by omega, Or.inr (Or.inr (Or.inr (Or.inr (Or.inr (Or.inr (Or.inr (Or.inr (Or.inl (by omega)))))))))⟩
theorem XF.a22 {a k : Nat} (h : a = N + 22) : XF N a k := ⟨by omega, Or.inr (Or.inr (Or.inr (Or.inr (Or.inr (Or.inr (Or.inr (Or.inr (Or.inr (Or.inl (by omega))))))))))⟩
theorem XF.a21 {a k : Nat} (h : a = N + 11 ∨ a = N + 21) (h2 : 2 ≤ k) : XF N a k := ⟨by omega, Or.inr (Or.inr (Or.inr (Or.inr (Or.inr (Or.inr (Or.inr (Or.inr (Or.inr (Or.inr (Or.inr (Or.inr (Or.inr (Or.inl (by omega))))))))))))))⟩
theorem XF.a10 {a k : Nat} (h : a = N + 10) (h2 : 1 ≤ k) : XF N a k := ⟨by omega, Or.inr (Or.inr (Or.inr (Or.inr (Or.inr (Or.inr (Or.inr (Or.inr (Or.inr (Or.inr (Or.inr (Or.inr (Or.inr (Or.inr (Or.inl (by omega)))))))))))))))⟩
theorem XF.a13 {a k : Nat} (h : a = N + 13) (h2 : 2 ≤ k) : XF N a k := ⟨by omega, Or.inr (Or.inr (Or.inr (Or.inr (Or.inr (Or.inr (Or.inr (Or.inr (Or.inr (Or.inr (Or.inr (Or.inr (Or.inr (Or.inr (Or.inr (Or.inl (by omega))))))))))))))))⟩
theorem XF.a14 {a k : Nat} (h : a = N + 14) (h2 : 7 ≤ k) : XF N a k := ⟨by omega, Or.inr (Or.inr (Or.inr (Or.inr (Or.inr (Or.inr (Or.inr (Or.inr (Or.inr (Or.inr (Or.inr (Or.inr (Or.inr (Or.inr (Or.inr (Or.inr (Or.inl (by omega)))))))))))))))))⟩
theorem XF.a23 {a k : Nat} (h : a = N + 23) (h2 : 2 ≤ k) : XF N a k := ⟨by omega, Or.inr (Or.inr (Or.inr (Or.inr (Or.inr (Or.inr (Or.inr (Or.inr (Or.inr (Or.inr (Or.inr (Or.inr (Or.inr (Or.inr (Or.inr (Or.inr (Or.inr ((by omega))))))))))))))))))⟩
theorem XF.a12 {a k : Nat} (h : a = N + 12) : XF N a k := ⟨by omega, Or.inr (Or.inr (Or.inr (Or.inr (Or.inr (Or.inr (Or.inr (Or.inl (by omega))))))))⟩
theorem DX.xf {a k : Nat} (h : DX N a k) : XF N a k ∧ (a < N + 27 ∧ ¬ a = N ∧ ¬ a = N + 1 ∧ ¬ a = N + 2 ∧ ¬ a = N + 3 ∧ ¬ a = N + 23 ∧ ¬ a = N + 24 ∧ ¬ a = N + 26) := by
  unfold DX DP DQ DC DL at h
  refine ⟨?_, by omega⟩
  by_cases h1 : N + 15 ≤ a ∧ a ≤ N + 20
  · exact XF.a15 h1.1 h1.2
  · by_cases h2 : a = N + 22
    · exact XF.a22 h2
    · by_cases h3 : a = N + 21
      · exact XF.a21 (Or.inr h3) (by omega)
      · exact XF.a14 (by omega) (by omega)
theorem P211.c {a k : Nat} (hf : SL f) (h : P211 N f a k) : KC N a k := ⟨(h.x hf).2.2, (h.x hf).1⟩
theorem OA.c {a k j : Nat} (h : OA (oa N j) a) (hj : j < 8) : KC N a k := by
  have h1 := oa_lo N j
  have h2 := oa_hi N hj
  unfold OA at h
  exact ⟨by omega, XF.of (by omega) (by omega)⟩
/-- the present office of a class that kept what was -/
theorem x211o (h : TC m N X) (hF : TF m N f X) (hG : XG B X) : ∃ m' g, am_ca sa sv (d + 4) 211 [.ref N] m = some (.inl none, m') ∧ Fr (KC N) m m' ∧ TC m' N X.rem ∧ TF m' N g X.rem ∧ g 7 = f 7 := by
  obtain ⟨m', g, a1, a2, a3, a4, a5, a6⟩ := x211 (sa := sa) (sv := sv) (d := d) h hF hG
  exact ⟨m', g, a1, a2.mono fun a k z => z.c hF.1, a3, a4, a6⟩
def incE (s : Nat → Int32) (w a : Int32) : Option Nat := E3 (inR w (cN s 1)) (amt_ a)
def incX (X : TX) (w a : Int32) : TX := bif inR w (cN X.s 1) && amt_ a then X.rem.wS (bS_ X.s (dL_ X.s w.toNatClampNeg a.toNatClampNeg)) (bQ_ X.s (dL_ X.s w.toNatClampNeg a.toNatClampNeg) (dvd_ X.s (cN X.s 4) w.toNatClampNeg a.toNatClampNeg).1 X.q) else X
theorem x200 (h : TC m N X) (hG : XG B X) (hN : 0 < N) (hB : B < 2 ^ 29) (w a : Int32) : CI m N (incX X w a) (incE X.s w a) (nI (dL_ X.s w.toNatClampNeg a.toNatClampNeg).length) (am_ca sa sv (d + 6) 200 [.ref N, .int w, .int a] m) := by
  obtain ⟨f, hF⟩ := h.f
  have h' := h.cq hF hG hN (show B < 2 ^ 30 by omega)
  have hX := h.x
  have hC := hG.1.C
  obtain ⟨e1, b1⟩ := (wc_nw hC).c (by decide)
  obtain ⟨e4, b4⟩ := (wc_day hC).c (by decide)
  unfold incX incE E3
  cases h1 : inR w (cN X.s 1) with
  | false =>
    refine ⟨m, Fr.refl _ _, h, ?_⟩
    rw [c200, b200_0]
    simp (disch := omega) only [gq_true, gb_true, gb_false, true_and, and_true, eq_self, not_false_eq_true, not_true_eq_false, true_or, or_true, false_or, or_false, false_and, and_false, c0_v, ci_v, cl_v, cf_v, pk_mul, nI_add, nI_clamp, nI_lt0, nI_0le, nI_eq0, nI_lt0r, nI_ltE, nI_leE, nI_eqE, nI_m1, in_t, ba0, ba1, Nat.one_ne_zero, Nat.reduceEqDiff, Nat.reduceLeDiff, Nat.add_eq_zero_iff, xk0 hX, x213f h' _ h1, c0_x, xg_v, cond_false]
  | true =>
    obtain ⟨w, hw, rfl⟩ := (inR_t (by omega)).mp h1
    cases h2 : amt_ a with
    | false =>
      refine ⟨m, Fr.refl _ _, h, ?_⟩
      rw [c200, b200_0]
      simp (disch := omega) only [gq_true, gb_true, gb_false, true_and, and_true, eq_self, not_false_eq_true, not_true_eq_false, true_or, or_true, false_or, or_false, false_and, and_false, c0_v, ci_v, cl_v, cf_v, pk_mul, nI_add, nI_clamp, nI_lt0, nI_0le, nI_eq0, nI_lt0r, nI_ltE, nI_leE, nI_eqE, nI_m1, in_t, ba0, ba1, Nat.one_ne_zero, Nat.reduceEqDiff, Nat.reduceLeDiff, Nat.add_eq_zero_iff, xk0 hX, x213s h' w hw b1, x217f a h2, x215_0, c0_x, xg_v, cond_false, cond_true]
    | true =>
      obtain ⟨a, ha1, ha, rfl⟩ := amt_t.mp h2
      obtain ⟨m5, g, a1, a2, a3, a4, a5⟩ := x211o (sa := sa) (sv := sv) (d := d + 1) h hF hG
      have g7 := a4.1.lt (i := 7) (by omega)
      have hO5 := a3.o _ g7
      have hV5 : OV m5 (oa N (g 7)) X.s X.q := a4.2.2.2.2.1
      have l7 := oa_lo N (g 7)
      have r5 : gr_ m5 N 13 = oa N (g 7) := a4.2.1
      obtain ⟨m6, m7, m8, m9, p1, p2, p3, p4, p5, p6, p7, p8, p9, q1, q2, q3, q4, q5⟩ := xbook (sa := sa) (sv := sv) (d := d + 1) a3.x hO5 hV5 (oa_lo N _) (oa_hi N g7) hG.1 w a hw ha
      have nN : ∀ a k, DX N a k ∨ OA (oa N (g 7)) a → ¬ a = N := fun a k z z2 => by
        rcases z with z | z
        · have := DX.xf z; omega
        · unfold OA at z; omega
      have r8 : gr_ m8 N 13 = oa N (g 7) := (p8.2.2.2.1 _ _ (fun z => nN N 13 (Or.inl z) rfl)).trans r5
      have r9 : gr_ m9 N 13 = oa N (g 7) := (q2.2.2.2.1 _ _ (fun z => nN N 13 z rfl)).trans r5
      have k8 : gk_ m8 = gk_ m5 := p8.1.1
      have d5 : gi_ m5 (oa N (g 7)) 0 = nI (cN X.s 4) := (ov_day hV5).trans e4
      rw [nI_clamp (by omega), nI_clamp (by omega)]
      obtain ⟨t1, t2⟩ := TC.off a3 a4 q2 (fun a k z => by
        rcases z with z | z
        · exact ⟨(DX.xf z).1, Or.inr (DX.xf z).2⟩
        · exact ⟨(OA.c z g7 : KC N a k).2, Or.inl z⟩) q4 q5
      refine ⟨m9, a2.trans (q2.mono fun a k z => ?_), t1, ?_⟩
      · rcases z with z | z
        · have := DX.xf z
          exact ⟨by omega, this.1⟩
        · exact OA.c z g7
      · rw [c200, b200_0]
        simp (disch := omega) only [gq_true, gb_true, gb_false, true_and, and_true, eq_self, not_false_eq_true, not_true_eq_false, true_or, or_true, false_or, or_false, false_and, and_false, c0_v, ci_v, cl_v, cf_v, pk_mul, nI_add, nI_clamp, nI_lt0, nI_0le, nI_eq0, nI_lt0r, nI_ltE, nI_leE, nI_eqE, nI_m1, in_t, ba0, ba1, Nat.one_ne_zero, Nat.reduceEqDiff, Nat.reduceLeDiff, Nat.add_eq_zero_iff, xk0 hX, x213s h' w hw b1, x217s a ha1 ha, x215_1, cond_true]
        rw [a1, c0_v]
        simp (disch := omega) only [gq_true, gb_true, gb_false, true_and, and_true, eq_self, not_false_eq_true, not_true_eq_false, true_or, or_true, false_or, or_false, false_and, and_false, c0_v, ci_v, cl_v, cf_v, pk_mul, nI_add, nI_clamp, nI_lt0, nI_0le, nI_eq0, nI_lt0r, nI_ltE, nI_leE, nI_eqE, nI_m1, in_t, ba0, ba1, Nat.one_ne_zero, Nat.reduceEqDiff, Nat.reduceLeDiff, Nat.add_eq_zero_iff, xk0 a3.x, xr0_6 a3.x, xk14 a3.x, r5, oa_z, ok0 hO5, d5, eq_false (show ¬ N + 14 = 0 by omega)]
        rw [p1, c0_v]
        simp (disch := omega) only [gq_true, gb_true, gb_false, true_and, and_true, eq_self, not_false_eq_true, not_true_eq_false, true_or, or_true, false_or, or_false, false_and, and_false, c0_v, ci_v, cl_v, cf_v, pk_mul, nI_add, nI_clamp, nI_lt0, nI_0le, nI_eq0, nI_lt0r, nI_ltE, nI_leE, nI_eqE, nI_m1, in_t, ba0, ba1, Nat.one_ne_zero, Nat.reduceEqDiff, Nat.reduceLeDiff, Nat.add_eq_zero_iff, xk0 p3, xr0_6 p3, xk14 p3, eq_false (show ¬ N + 14 = 0 by omega)]
        rw [p4, c0_v]
        simp (disch := omega) only [gq_true, gb_true, gb_false, true_and, and_true, eq_self, not_false_eq_true, not_true_eq_false, true_or, or_true, false_or, or_false, false_and, and_false, c0_v, ci_v, cl_v, cf_v, pk_mul, nI_add, nI_clamp, nI_lt0, nI_0le, nI_eq0, nI_lt0r, nI_ltE, nI_leE, nI_eqE, nI_m1, in_t, ba0, ba1, Nat.one_ne_zero, Nat.reduceEqDiff, Nat.reduceLeDiff, Nat.add_eq_zero_iff, xk0 p6, xr0_6 p6, xk14 p6, eq_false (show ¬ N + 14 = 0 by omega)]
        rw [p7, c0_v]
        simp (disch := omega) only [gq_true, gb_true, gb_false, true_and, and_true, eq_self, not_false_eq_true, not_true_eq_false, true_or, or_true, false_or, or_false, false_and, and_false, c0_v, ci_v, cl_v, cf_v, pk_mul, nI_add, nI_clamp, nI_lt0, nI_0le, nI_eq0, nI_lt0r, nI_ltE, nI_leE, nI_eqE, nI_m1, in_t, ba0, ba1, Nat.one_ne_zero, Nat.reduceEqDiff, Nat.reduceLeDiff, Nat.add_eq_zero_iff, xk0 p9, xr0_6 p9, r8, oa_z, k8, ok0 hO5, eq_false (show ¬ N + 14 = 0 by omega)]
        rw [q1, c0_v]
        have nl : gi_ m9 (oa N (g 7) + 17) 2 = nI (dL_ X.s w a).length := ov_nl q5
        simp (disch := omega) only [gq_true, gb_true, gb_false, true_and, and_true, eq_self, not_false_eq_true, not_true_eq_false, true_or, or_true, false_or, or_false, false_and, and_false, c0_v, ci_v, cl_v, cf_v, pk_mul, nI_add, nI_clamp, nI_lt0, nI_0le, nI_eq0, nI_lt0r, nI_ltE, nI_leE, nI_eqE, nI_m1, in_t, ba0, ba1, Nat.one_ne_zero, Nat.reduceEqDiff, Nat.reduceLeDiff, Nat.add_eq_zero_iff, xk0 q3, r9, oa_z, ok0 q4, or0_4 q4, ok17 q4, nl, eq_false (show ¬ oa N (g 7) + 17 = 0 by omega)]
end I89
