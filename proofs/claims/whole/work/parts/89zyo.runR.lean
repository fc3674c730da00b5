/-! a script's command is done: the reference -/
def PYr (N a k : Nat) : Prop := RXB N a k ∨ (a = N + 243 ∧ k = 42)
section R89
variable {sa sv d N B : Nat} {m m' : am_M} {s : Nat → Int32} {q : Nat → Int64} {x : Ins}
theorem PYr.xf {a k : Nat} (h : PYr N a k) : XF N a k := by
  rcases h with h | h
  · by_cases e : a = N + 243
    · exact XF.a243 e (by unfold RXB RX RB at h; omega)
    · exact XF.hi (by unfold RXB RX RB at h; omega)
  · exact XF.a243 h.1 (by omega)
theorem y352_145 (hX : XS m N) (c : Nat) (hc : c < 4) (v2 v3 : Int32) (o4 : Int32) : r352 sa sv (d + 1) 145 [some (.ref (N + 243)), some (.int (nI c)), some (.int v2), some (.int v3), some (.int o4)] [] m = some (.inl (some (.int (nI 1))), m) := by
  rw [b352_145]
  simp (disch := omega) only [gq_true, gb_true, gb_false, true_and, and_true, eq_self, not_false_eq_true, not_true_eq_false, true_or, or_true, false_or, or_false, false_and, and_false, c0_v, ci_v, cl_v, cf_v, pk_mul, nI_add, nI_clamp, nI_lt0, nI_0le, nI_eq0, nI_lt0r, nI_ltE, nI_leE, nI_eqE, nI_m1, in_t, ba0, ba1, Nat.one_ne_zero, Nat.reduceEqDiff, Nat.reduceLeDiff, Nat.add_eq_zero_iff, eq_false (show ¬ c = 4 by omega)]
theorem y352 (hR : RS m N s q) (hG : WG B s q) (hB : B < 2 ^ 29) (hx : InG s x) (v2 v3 : Int32) (w2 : ¬ x.1 = 26 → v2 = nI x.2.1) (w3 : x.1 = 23 ∨ x.1 = 25 ∨ x.1 = 8 → v3 = nI x.2.2) : match dO x s q with
    | none => am_ca sa sv (d + 7) 352 [.ref (N + 243), .int (nI (rkd x.1)), .int v2, .int v3] m = some (.inl (some (.int (nI 0))), m)
    | some y => ∃ m', am_ca sa sv (d + 7) 352 [.ref (N + 243), .int (nI (rkd x.1)), .int v2, .int v3] m = some (.inl (some (.int (nI 1))), m') ∧ Fr (PYr N) m m' ∧ RS m' N y.1 y.2 ∧ gi_ m' (N + 243) 0 = gi_ m (N + 243) 0 := by
  have hX := hR.1
  have hC := hG.C
  have hF := hG.1
  have z245 : (N + 245 = 0) = False := eq_false (by omega)
  have np := isN_lt (wc_np hC) (by decide)
  have na := isN_lt (wc_na hC) (by decide)
  have n10 : (nI 1 = 0) = False := eq_false (by decide)
  have up : ∀ (j : Nat) (v : Int32), Fr (PYr N) m (si_ m (N + 245) j v) := fun j v => (Fr.refl _ _).si (Or.inl (Or.inr (Or.inr rfl)))
  unfold dO
  by_cases k23 : x.1 = 23
  · rw [if_pos k23]
    have hw : x.2.1 < cN s 1 ∧ x.2.2 ≤ 999999 := by unfold InG at hx; omega
    rw [w2 (by omega), w3 (by omega), k23, show rkd 23 = 0 from rfl]
    have q331 := y331 (sa := sa) (sv := sv) (d := d + 4) (m := m) (nI x.2.2)
    cases ha : amt_ (nI x.2.2) with
    | false =>
      rw [ha, tr_f] at q331
      refine Eq.trans ?_ rfl
      rw [c352, b352_0]
      simp (disch := omega) only [gq_true, gb_true, gb_false, true_and, and_true, eq_self, not_false_eq_true, not_true_eq_false, true_or, or_true, false_or, or_false, false_and, and_false, c0_v, ci_v, cl_v, cf_v, pk_mul, nI_add, nI_clamp, nI_lt0, nI_0le, nI_eq0, nI_lt0r, nI_ltE, nI_leE, nI_eqE, nI_m1, in_t, ba0, ba1, Nat.one_ne_zero, Nat.reduceEqDiff, Nat.reduceLeDiff, Nat.add_eq_zero_iff, q331]
      rw [b352_71]
      simp (disch := omega) only [gq_true, gb_true, gb_false, true_and, and_true, eq_self, not_false_eq_true, not_true_eq_false, true_or, or_true, false_or, or_false, false_and, and_false, c0_v, ci_v, cl_v, cf_v, pk_mul, nI_add, nI_clamp, nI_lt0, nI_0le, nI_eq0, nI_lt0r, nI_ltE, nI_leE, nI_eqE, nI_m1, in_t, ba0, ba1, Nat.one_ne_zero, Nat.reduceEqDiff, Nat.reduceLeDiff, Nat.add_eq_zero_iff]
    | true =>
      rw [ha, tr_t] at q331
      obtain ⟨m1, b1, b2, b3, b4⟩ := y339 (sa := sa) (sv := sv) (d := d) hR hF x.2.1 x.2.2 hw.1 (by omega)
      refine ⟨si_ m1 (N + 243) 42 (nI (dL_ s x.2.1 x.2.2).length), ?_, (b2.mono fun a k z => Or.inl z).trans ((Fr.refl _ _).si (Or.inr ⟨rfl, rfl⟩)), b3.c 42 _, (if_neg (by omega)).trans b4⟩
      have hX1 := (b3.c 42 (nI (dL_ s x.2.1 x.2.2).length)).1
      rw [c352, b352_0]
      simp (disch := omega) only [gq_true, gb_true, gb_false, true_and, and_true, eq_self, not_false_eq_true, not_true_eq_false, true_or, or_true, false_or, or_false, false_and, and_false, c0_v, ci_v, cl_v, cf_v, pk_mul, nI_add, nI_clamp, nI_lt0, nI_0le, nI_eq0, nI_lt0r, nI_ltE, nI_leE, nI_eqE, nI_m1, in_t, ba0, ba1, Nat.one_ne_zero, Nat.reduceEqDiff, Nat.reduceLeDiff, Nat.add_eq_zero_iff, q331]
      rw [b352_71]
      simp (disch := omega) only [gq_true, gb_true, gb_false, true_and, and_true, eq_self, not_false_eq_true, not_true_eq_false, true_or, or_true, false_or, or_false, false_and, and_false, c0_v, ci_v, cl_v, cf_v, pk_mul, nI_add, nI_clamp, nI_lt0, nI_0le, nI_eq0, nI_lt0r, nI_ltE, nI_leE, nI_eqE, nI_m1, in_t, ba0, ba1, Nat.one_ne_zero, Nat.reduceEqDiff, Nat.reduceLeDiff, Nat.add_eq_zero_iff, n10, xk243 hX, b1, xk243 b3.1, Nat.reduceEqDiff]
      rw [b352_109]
      simp (disch := omega) only [gq_true, gb_true, gb_false, true_and, and_true, eq_self, not_false_eq_true, not_true_eq_false, true_or, or_true, false_or, or_false, false_and, and_false, c0_v, ci_v, cl_v, cf_v, pk_mul, nI_add, nI_clamp, nI_lt0, nI_0le, nI_eq0, nI_lt0r, nI_ltE, nI_leE, nI_eqE, nI_m1, in_t, ba0, ba1, Nat.one_ne_zero, Nat.reduceEqDiff, Nat.reduceLeDiff, Nat.add_eq_zero_iff, Nat.reduceEqDiff]
      exact y352_145 (d := d + 5) hX1 0 (by omega) _ _ _
  rw [if_neg k23]
  by_cases k24 : x.1 = 24
  · rw [if_pos k24]
    rw [w2 (by omega), k24, show rkd 24 = 1 from rfl]
    have q341 := y341 (sa := sa) (sv := sv) (d := d + 4) hR hC (nI x.2.1)
    cases ha : cps_ s (nI x.2.1) with
    | false =>
      rw [ha, tr_f] at q341
      refine Eq.trans ?_ rfl
      rw [c352, b352_0]
      simp (disch := omega) only [gq_true, gb_true, gb_false, true_and, and_true, eq_self, not_false_eq_true, not_true_eq_false, true_or, or_true, false_or, or_false, false_and, and_false, c0_v, ci_v, cl_v, cf_v, pk_mul, nI_add, nI_clamp, nI_lt0, nI_0le, nI_eq0, nI_lt0r, nI_ltE, nI_leE, nI_eqE, nI_m1, in_t, ba0, ba1, Nat.one_ne_zero, Nat.reduceEqDiff, Nat.reduceLeDiff, Nat.add_eq_zero_iff, xk243 hX, q341, Nat.reduceEqDiff]
      rw [b352_71]
      simp (disch := omega) only [gq_true, gb_true, gb_false, true_and, and_true, eq_self, not_false_eq_true, not_true_eq_false, true_or, or_true, false_or, or_false, false_and, and_false, c0_v, ci_v, cl_v, cf_v, pk_mul, nI_add, nI_clamp, nI_lt0, nI_0le, nI_eq0, nI_lt0r, nI_ltE, nI_leE, nI_eqE, nI_m1, in_t, ba0, ba1, Nat.one_ne_zero, Nat.reduceEqDiff, Nat.reduceLeDiff, Nat.add_eq_zero_iff]
    | true =>
      rw [ha, tr_t] at q341
      have e4 : gi_ m (N + 245) 4 = s 4 := congrFun hR.2.1 4
      have hR1 := hR.up 4 (s 4 + nI x.2.1)
      refine ⟨_, ?_, up _ _, hR1, if_neg (by omega)⟩
      rw [c352, b352_0]
      simp (disch := omega) only [gq_true, gb_true, gb_false, true_and, and_true, eq_self, not_false_eq_true, not_true_eq_false, true_or, or_true, false_or, or_false, false_and, and_false, c0_v, ci_v, cl_v, cf_v, pk_mul, nI_add, nI_clamp, nI_lt0, nI_0le, nI_eq0, nI_lt0r, nI_ltE, nI_leE, nI_eqE, nI_m1, in_t, ba0, ba1, Nat.one_ne_zero, Nat.reduceEqDiff, Nat.reduceLeDiff, Nat.add_eq_zero_iff, xk243 hX, q341, Nat.reduceEqDiff]
      rw [b352_71]
      simp (disch := omega) only [gq_true, gb_true, gb_false, true_and, and_true, eq_self, not_false_eq_true, not_true_eq_false, true_or, or_true, false_or, or_false, false_and, and_false, c0_v, ci_v, cl_v, cf_v, pk_mul, nI_add, nI_clamp, nI_lt0, nI_0le, nI_eq0, nI_lt0r, nI_ltE, nI_leE, nI_eqE, nI_m1, in_t, ba0, ba1, Nat.one_ne_zero, Nat.reduceEqDiff, Nat.reduceLeDiff, Nat.add_eq_zero_iff, n10, xk243 hX, xr243_15 hX, xk245 hX, z245, e4, Nat.reduceEqDiff]
      rw [b352_109]
      simp (disch := omega) only [gq_true, gb_true, gb_false, true_and, and_true, eq_self, not_false_eq_true, not_true_eq_false, true_or, or_true, false_or, or_false, false_and, and_false, c0_v, ci_v, cl_v, cf_v, pk_mul, nI_add, nI_clamp, nI_lt0, nI_0le, nI_eq0, nI_lt0r, nI_ltE, nI_leE, nI_eqE, nI_m1, in_t, ba0, ba1, Nat.one_ne_zero, Nat.reduceEqDiff, Nat.reduceLeDiff, Nat.add_eq_zero_iff, Nat.reduceEqDiff]
      exact y352_145 (d := d + 5) hR1.1 1 (by omega) _ _ _
  rw [if_neg k24]
  by_cases k25 : x.1 = 25
  · rw [if_pos k25]
    have hw : x.2.1 ≤ 999999 := by unfold InG at hx; omega
    rw [w2 (by omega), w3 (by omega), k25, show rkd 25 = 2 from rfl]
    have q287 := y287 (sa := sa) (sv := sv) (d := d + 4) hR hC (nI x.2.1)
    cases hi : inR (nI x.2.1) (cN s 2) with
    | false =>
      rw [hi, tr_f] at q287
      refine Eq.trans ?_ rfl
      rw [c352, b352_0]
      simp (disch := omega) only [gq_true, gb_true, gb_false, true_and, and_true, eq_self, not_false_eq_true, not_true_eq_false, true_or, or_true, false_or, or_false, false_and, and_false, c0_v, ci_v, cl_v, cf_v, pk_mul, nI_add, nI_clamp, nI_lt0, nI_0le, nI_eq0, nI_lt0r, nI_ltE, nI_leE, nI_eqE, nI_m1, in_t, ba0, ba1, Nat.one_ne_zero, Nat.reduceEqDiff, Nat.reduceLeDiff, Nat.add_eq_zero_iff, xk243 hX, q287, Nat.reduceEqDiff]
      rw [b352_71]
      simp (disch := omega) only [gq_true, gb_true, gb_false, true_and, and_true, eq_self, not_false_eq_true, not_true_eq_false, true_or, or_true, false_or, or_false, false_and, and_false, c0_v, ci_v, cl_v, cf_v, pk_mul, nI_add, nI_clamp, nI_lt0, nI_0le, nI_eq0, nI_lt0r, nI_ltE, nI_leE, nI_eqE, nI_m1, in_t, ba0, ba1, Nat.one_ne_zero, Nat.reduceEqDiff, Nat.reduceLeDiff, Nat.add_eq_zero_iff]
    | true =>
      rw [hi, tr_t] at q287
      obtain ⟨k, k1, k2⟩ := (inR_t (by omega)).mp hi
      have lt : x.2.1 < cN s 2 := by
        have := (nI_eq (a := x.2.1) (b := k) (by omega) (by omega)).mp k2
        omega
      have q343 := y343 (sa := sa) (sv := sv) (d := d + 4) hR x.2.1 (by omega) (nI x.2.2)
      cases hc : crv_ s x.2.1 (nI x.2.2) with
      | false =>
        rw [hc, tr_f] at q343
        refine Eq.trans ?_ rfl
        rw [c352, b352_0]
        simp (disch := omega) only [gq_true, gb_true, gb_false, true_and, and_true, eq_self, not_false_eq_true, not_true_eq_false, true_or, or_true, false_or, or_false, false_and, and_false, c0_v, ci_v, cl_v, cf_v, pk_mul, nI_add, nI_clamp, nI_lt0, nI_0le, nI_eq0, nI_lt0r, nI_ltE, nI_leE, nI_eqE, nI_m1, in_t, ba0, ba1, Nat.one_ne_zero, Nat.reduceEqDiff, Nat.reduceLeDiff, Nat.add_eq_zero_iff, xk243 hX, q287, q343, Nat.reduceEqDiff]
        rw [b352_71]
        simp (disch := omega) only [gq_true, gb_true, gb_false, true_and, and_true, eq_self, not_false_eq_true, not_true_eq_false, true_or, or_true, false_or, or_false, false_and, and_false, c0_v, ci_v, cl_v, cf_v, pk_mul, nI_add, nI_clamp, nI_lt0, nI_0le, nI_eq0, nI_lt0r, nI_ltE, nI_leE, nI_eqE, nI_m1, in_t, ba0, ba1, Nat.one_ne_zero, Nat.reduceEqDiff, Nat.reduceLeDiff, Nat.add_eq_zero_iff]
      | true =>
        rw [hc, tr_t] at q343
        have hR1 := hR.up (594 + 6 * x.2.1 + 5) (nI x.2.2)
        refine ⟨_, ?_, up _ _, hR1, if_neg (by omega)⟩
        rw [c352, b352_0]
        simp (disch := omega) only [gq_true, gb_true, gb_false, true_and, and_true, eq_self, not_false_eq_true, not_true_eq_false, true_or, or_true, false_or, or_false, false_and, and_false, c0_v, ci_v, cl_v, cf_v, pk_mul, nI_add, nI_clamp, nI_lt0, nI_0le, nI_eq0, nI_lt0r, nI_ltE, nI_leE, nI_eqE, nI_m1, in_t, ba0, ba1, Nat.one_ne_zero, Nat.reduceEqDiff, Nat.reduceLeDiff, Nat.add_eq_zero_iff, xk243 hX, q287, q343, Nat.reduceEqDiff]
        rw [b352_71]
        simp (disch := omega) only [gq_true, gb_true, gb_false, true_and, and_true, eq_self, not_false_eq_true, not_true_eq_false, true_or, or_true, false_or, or_false, false_and, and_false, c0_v, ci_v, cl_v, cf_v, pk_mul, nI_add, nI_clamp, nI_lt0, nI_0le, nI_eq0, nI_lt0r, nI_ltE, nI_leE, nI_eqE, nI_m1, in_t, ba0, ba1, Nat.one_ne_zero, Nat.reduceEqDiff, Nat.reduceLeDiff, Nat.add_eq_zero_iff, n10, Nat.reduceEqDiff]
        rw [b352_109]
        simp (disch := omega) only [gq_true, gb_true, gb_false, true_and, and_true, eq_self, not_false_eq_true, not_true_eq_false, true_or, or_true, false_or, or_false, false_and, and_false, c0_v, ci_v, cl_v, cf_v, pk_mul, nI_add, nI_clamp, nI_lt0, nI_0le, nI_eq0, nI_lt0r, nI_ltE, nI_leE, nI_eqE, nI_m1, in_t, ba0, ba1, Nat.one_ne_zero, Nat.reduceEqDiff, Nat.reduceLeDiff, Nat.add_eq_zero_iff, xk243 hX, xr243_15 hX, xk245 hX, z245, Nat.reduceEqDiff]
        exact y352_145 (d := d + 5) hR1.1 2 (by omega) _ _ _
  rw [if_neg k25]
  by_cases k8 : x.1 = 8
  · rw [if_pos k8]
    have hw : x.2.1 < cN s 0 ∧ x.2.2 ≤ 999999 := by unfold InG at hx; omega
    rw [w2 (by omega), w3 (by omega), k8, show rkd 8 = 3 from rfl]
    cases ha : inR (nI x.2.2) 100000 with
    | false =>
      have ge : 99999 < x.2.2 := by
        rcases Nat.lt_or_ge x.2.2 100000 with y | y
        · have := (inR_t (n := 100000) (by omega)).mpr ⟨x.2.2, y, rfl⟩
          rw [ha] at this
          cases this
        · exact y
      refine Eq.trans ?_ rfl
      rw [c352, b352_0]
      simp (disch := omega) only [gq_true, gb_true, gb_false, true_and, and_true, eq_self, not_false_eq_true, not_true_eq_false, true_or, or_true, false_or, or_false, false_and, and_false, c0_v, ci_v, cl_v, cf_v, pk_mul, nI_add, nI_clamp, nI_lt0, nI_0le, nI_eq0, nI_lt0r, nI_ltE, nI_leE, nI_eqE, nI_m1, in_t, ba0, ba1, Nat.one_ne_zero, Nat.reduceEqDiff, Nat.reduceLeDiff, Nat.add_eq_zero_iff, ge, Nat.reduceEqDiff]
      rw [b352_71]
      simp (disch := omega) only [gq_true, gb_true, gb_false, true_and, and_true, eq_self, not_false_eq_true, not_true_eq_false, true_or, or_true, false_or, or_false, false_and, and_false, c0_v, ci_v, cl_v, cf_v, pk_mul, nI_add, nI_clamp, nI_lt0, nI_0le, nI_eq0, nI_lt0r, nI_ltE, nI_leE, nI_eqE, nI_m1, in_t, ba0, ba1, Nat.one_ne_zero, Nat.reduceEqDiff, Nat.reduceLeDiff, Nat.add_eq_zero_iff]
    | true =>
      obtain ⟨k, k1, k2⟩ := (inR_t (by omega)).mp ha
      have ek := (nI_eq (a := x.2.2) (b := k) (by omega) (by omega)).mp k2
      have hR1 := hR.up (8 + x.2.1) (nI x.2.2)
      refine ⟨_, ?_, up _ _, hR1, if_neg (by omega)⟩
      rw [c352, b352_0]
      simp (disch := omega) only [gq_true, gb_true, gb_false, true_and, and_true, eq_self, not_false_eq_true, not_true_eq_false, true_or, or_true, false_or, or_false, false_and, and_false, c0_v, ci_v, cl_v, cf_v, pk_mul, nI_add, nI_clamp, nI_lt0, nI_0le, nI_eq0, nI_lt0r, nI_ltE, nI_leE, nI_eqE, nI_m1, in_t, ba0, ba1, Nat.one_ne_zero, Nat.reduceEqDiff, Nat.reduceLeDiff, Nat.add_eq_zero_iff, eq_false (show ¬ 99999 < x.2.2 by omega), Nat.reduceEqDiff]
      rw [b352_71]
      simp (disch := omega) only [gq_true, gb_true, gb_false, true_and, and_true, eq_self, not_false_eq_true, not_true_eq_false, true_or, or_true, false_or, or_false, false_and, and_false, c0_v, ci_v, cl_v, cf_v, pk_mul, nI_add, nI_clamp, nI_lt0, nI_0le, nI_eq0, nI_lt0r, nI_ltE, nI_leE, nI_eqE, nI_m1, in_t, ba0, ba1, Nat.one_ne_zero, Nat.reduceEqDiff, Nat.reduceLeDiff, Nat.add_eq_zero_iff, n10, Nat.reduceEqDiff]
      rw [b352_109]
      simp (disch := omega) only [gq_true, gb_true, gb_false, true_and, and_true, eq_self, not_false_eq_true, not_true_eq_false, true_or, or_true, false_or, or_false, false_and, and_false, c0_v, ci_v, cl_v, cf_v, pk_mul, nI_add, nI_clamp, nI_lt0, nI_0le, nI_eq0, nI_lt0r, nI_ltE, nI_leE, nI_eqE, nI_m1, in_t, ba0, ba1, Nat.one_ne_zero, Nat.reduceEqDiff, Nat.reduceLeDiff, Nat.add_eq_zero_iff, xk243 hX, xr243_15 hX, xk245 hX, z245, Nat.reduceEqDiff]
      exact y352_145 (d := d + 5) hR1.1 3 (by omega) _ _ _
  rw [if_neg k8]
  have k26 : x.1 = 26 := by unfold InG at hx; omega
  rw [k26, show rkd 26 = 4 from rfl]
  obtain ⟨m1, b1, b2, b3⟩ := y346 (sa := sa) (sv := sv) (d := d + 4) hR hF hB
  have f1 : ∀ v : Int32, Fr (PYr N) m (si_ m1 (N + 243) 42 v) := fun v => (b2.mono fun a k z => Or.inl (Or.inr z)).trans ((Fr.refl _ _).si (Or.inr ⟨rfl, rfl⟩))
  have step : ∀ r, (gb_ ((lg_cmp (spd_ s q 10) (0 : Int64)) ≤ 0) (some (.inl (some (.int (nI 1))), si_ m1 (N + 243) 42 (nI 0))) (some (.inl (some (.int (nI 1))), si_ m1 (N + 243) 42 (nI 1)))) = r → am_ca sa sv (d + 7) 352 [.ref (N + 243), .int (nI 4), .int v2, .int v3] m = r := fun r hr => by
    rw [c352, b352_0]
    simp (disch := omega) only [gq_true, gb_true, gb_false, true_and, and_true, eq_self, not_false_eq_true, not_true_eq_false, true_or, or_true, false_or, or_false, false_and, and_false, c0_v, ci_v, cl_v, cf_v, pk_mul, nI_add, nI_clamp, nI_lt0, nI_0le, nI_eq0, nI_lt0r, nI_ltE, nI_leE, nI_eqE, nI_m1, in_t, ba0, ba1, Nat.one_ne_zero, Nat.reduceEqDiff, Nat.reduceLeDiff, Nat.add_eq_zero_iff, Nat.reduceEqDiff]
    rw [b352_71]
    simp (disch := omega) only [gq_true, gb_true, gb_false, true_and, and_true, eq_self, not_false_eq_true, not_true_eq_false, true_or, or_true, false_or, or_false, false_and, and_false, c0_v, ci_v, cl_v, cf_v, pk_mul, nI_add, nI_clamp, nI_lt0, nI_0le, nI_eq0, nI_lt0r, nI_ltE, nI_leE, nI_eqE, nI_m1, in_t, ba0, ba1, Nat.one_ne_zero, Nat.reduceEqDiff, Nat.reduceLeDiff, Nat.add_eq_zero_iff, n10, Nat.reduceEqDiff]
    rw [b352_109]
    simp (disch := omega) only [gq_true, gb_true, gb_false, true_and, and_true, eq_self, not_false_eq_true, not_true_eq_false, true_or, or_true, false_or, or_false, false_and, and_false, c0_v, ci_v, cl_v, cf_v, pk_mul, nI_add, nI_clamp, nI_lt0, nI_0le, nI_eq0, nI_lt0r, nI_ltE, nI_leE, nI_eqE, nI_m1, in_t, ba0, ba1, Nat.one_ne_zero, Nat.reduceEqDiff, Nat.reduceLeDiff, Nat.add_eq_zero_iff, Nat.reduceEqDiff]
    rw [b352_145]
    simp (disch := omega) only [gq_true, gb_true, gb_false, true_and, and_true, eq_self, not_false_eq_true, not_true_eq_false, true_or, or_true, false_or, or_false, false_and, and_false, c0_v, ci_v, cl_v, cf_v, pk_mul, nI_add, nI_clamp, nI_lt0, nI_0le, nI_eq0, nI_lt0r, nI_ltE, nI_leE, nI_eqE, nI_m1, in_t, ba0, ba1, Nat.one_ne_zero, Nat.reduceEqDiff, Nat.reduceLeDiff, Nat.add_eq_zero_iff, xk243 hX, b1, y223_0, y223_1, xk243 b3.1]
    exact hr
  by_cases z : lg_cmp (spd_ s q 10) (0 : Int64) ≤ 0
  · exact ⟨_, step _ (by rw [gb_pos z]), f1 _, b3.c 42 _, (if_neg (by omega)).trans (b2.2.1 _ _ (by unfold RB; omega))⟩
  · exact ⟨_, step _ (by rw [gb_neg z]), f1 _, b3.c 42 _, (if_neg (by omega)).trans (b2.2.1 _ _ (by unfold RB; omega))⟩
end R89
