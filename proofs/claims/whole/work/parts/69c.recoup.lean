/-! the amount that recoups an advance: the class -/
theorem DX.q {N a k : Nat} (h : DQ N a k) : DX N a k := Or.inr h
section R69
variable {sa sv d N o B : Nat} {m : am_M} {s : Nat → Int32} {q : Nat → Int64}
theorem x195 (h : CQ B m N o s q) (hNo : N + 27 ≤ o) (a w l3 : Int32) : ∃ m', Fr (DX N) m m' ∧ am_ca sa sv (d + 7) 195 [.ref N, .int a, .int w, .int l3] m = bif inR a (cN s 3) then (bif inR w (cN s 1) then (bif am9_ l3 then some (.inl (some (.int (if cN s (690 + 6 * a.toNatClampNeg + 5) = 0 then nI 0 else rcv_ s w.toNatClampNeg a.toNatClampNeg l3.toNatClampNeg 1))), m') else some (.inr 1, th_ m)) else some (.inr 2, th_ m)) else some (.inr 2, th_ m) := by
  have h' := h
  obtain ⟨hX, hN, ho, ho0, hO, hV, hF, hB⟩ := h
  have hz := l_eqF (Nat.pos_iff_ne_zero.mp ho0)
  have hC := wf_c hF
  have hW := wf_w hF
  have hA := wf_a hF
  have hD := wf_d hF
  obtain ⟨e1, b1⟩ := (wc_nw hC).c (by decide)
  obtain ⟨e3, b3⟩ := (wc_nd hC).c (by decide)
  obtain ⟨e4, b4⟩ := (wc_day hC).c (by decide)
  cases h1 : inR a (cN s 3) with
  | false =>
    refine ⟨m, Fr.refl _ _, ?_⟩
    rw [c195, b195_0]
    simp (disch := omega) only [gq_true, gb_true, gb_false, true_and, and_true, eq_self, not_false_eq_true, not_true_eq_false, true_or, or_true, false_or, or_false, false_and, and_false, c0_v, ci_v, cl_v, cf_v, pk_mul, nI_add, nI_clamp, nI_lt0, nI_0le, nI_eq0, nI_lt0r, nI_ltE, nI_leE, nI_eqE, nI_m1, in_t, ba0, ba1, Nat.one_ne_zero, Nat.reduceEqDiff, Nat.reduceLeDiff, Nat.add_eq_zero_iff, xk0 hX, ho, ok0 hO, or0_3 hO, ok15 hO, hz, ov_nd hV, e3, x214f a (cN s 3) (by omega) h1, c0_x, xg_v, cond_false]
    try rfl
  | true =>
    obtain ⟨a, ha, rfl⟩ := (inR_t (by omega)).mp h1
    cases h2 : inR w (cN s 1) with
    | false =>
      refine ⟨m, Fr.refl _ _, ?_⟩
      rw [c195, b195_0]
      simp (disch := omega) only [gq_true, gb_true, gb_false, true_and, and_true, eq_self, not_false_eq_true, not_true_eq_false, true_or, or_true, false_or, or_false, false_and, and_false, c0_v, ci_v, cl_v, cf_v, pk_mul, nI_add, nI_clamp, nI_lt0, nI_0le, nI_eq0, nI_lt0r, nI_ltE, nI_leE, nI_eqE, nI_m1, in_t, ba0, ba1, Nat.one_ne_zero, Nat.reduceEqDiff, Nat.reduceLeDiff, Nat.add_eq_zero_iff, xk0 hX, ho, ok0 hO, or0_3 hO, ok15 hO, hz, ov_nd hV, e3, x214s a (cN s 3) (by omega) ha, x213f h' _ h2, c0_x, xg_v, cond_false, cond_true]
      try rfl
    | true =>
      obtain ⟨w, hw, rfl⟩ := (inR_t (by omega)).mp h2
      have hgo : am_ca sa sv (d + 7) 195 [.ref N, .int (nI a), .int (nI w), .int l3] m = r195 sa sv (d + 6) 36 [some (.ref N), some (.int (nI a)), some (.int (nI w)), some (.int l3), none, none] [.int (tr_ (am9_ l3))] m := by
        rw [c195, b195_0]
        simp (disch := omega) only [gq_true, gb_true, gb_false, true_and, and_true, eq_self, not_false_eq_true, not_true_eq_false, true_or, or_true, false_or, or_false, false_and, and_false, c0_v, ci_v, cl_v, cf_v, pk_mul, nI_add, nI_clamp, nI_lt0, nI_0le, nI_eq0, nI_lt0r, nI_ltE, nI_leE, nI_eqE, nI_m1, in_t, ba0, ba1, Nat.one_ne_zero, Nat.reduceEqDiff, Nat.reduceLeDiff, Nat.add_eq_zero_iff, xk0 hX, ho, ok0 hO, or0_3 hO, ok15 hO, hz, ov_nd hV, e3, x214s a (cN s 3) (by omega) ha, x213s h' w hw b1]
        rw [i_lt_nI (by omega), nI_lt_i (by omega)]
        by_cases h : 1 ≤ l3.toInt ∧ l3.toInt ≤ 9999
        · rw [gb_neg (by omega), gb_neg (by omega), show am9_ l3 = true from decide_eq_true h]; rfl
        · rw [show am9_ l3 = false from decide_eq_false h]
          by_cases h1 : l3.toInt < ((1 : Nat) : Int)
          · rw [gb_pos h1]; rfl
          · rw [gb_neg h1, gb_pos (by omega)]; rfl
      rw [hgo]
      simp only [cond_true]
      cases h3 : am9_ l3 with
      | false =>
        refine ⟨m, Fr.refl _ _, ?_⟩
        rw [b195_36]
        simp (disch := omega) only [gq_true, gb_true, gb_false, true_and, and_true, eq_self, not_false_eq_true, not_true_eq_false, true_or, or_true, false_or, or_false, false_and, and_false, c0_v, ci_v, cl_v, cf_v, pk_mul, nI_add, nI_clamp, nI_lt0, nI_0le, nI_eq0, nI_lt0r, nI_ltE, nI_leE, nI_eqE, nI_m1, in_t, ba0, ba1, Nat.one_ne_zero, Nat.reduceEqDiff, Nat.reduceLeDiff, Nat.add_eq_zero_iff, tr_f, x215_0, c0_x, xg_v, cond_false]
        try rfl
      | true =>
        obtain ⟨x3, hx1, hx2, rfl⟩ := am9_t.mp h3
        obtain ⟨e5, b5⟩ := (wd_o hD a ha).c (by decide)
        obtain ⟨e6, b6⟩ := (wd_c hD a ha).1.c (by decide)
        have hr0 := (wd_c hD a ha).2
        simp only [cond_true]
        rw [b195_36]
        simp (disch := omega) only [gq_true, gb_true, gb_false, true_and, and_true, eq_self, not_false_eq_true, not_true_eq_false, true_or, or_true, false_or, or_false, false_and, and_false, c0_v, ci_v, cl_v, cf_v, pk_mul, nI_add, nI_clamp, nI_lt0, nI_0le, nI_eq0, nI_lt0r, nI_ltE, nI_leE, nI_eqE, nI_m1, in_t, ba0, ba1, Nat.one_ne_zero, Nat.reduceEqDiff, Nat.reduceLeDiff, Nat.add_eq_zero_iff, tr_t, x215_1, xk0 hX, ho, ok0 hO, or0_3 hO, ok15 hO, hz, xad hO hV a 5 (by omega) (by omega), e5]
        by_cases hz5 : cN s (690 + 6 * a + 5) = 0
        · rw [gb_pos hz5]
          refine ⟨m, Fr.refl _ _, ?_⟩
          simp (disch := omega) only [gq_true, gb_true, gb_false, true_and, and_true, eq_self, not_false_eq_true, not_true_eq_false, true_or, or_true, false_or, or_false, false_and, and_false, c0_v, ci_v, cl_v, cf_v, pk_mul, nI_add, nI_clamp, nI_lt0, nI_0le, nI_eq0, nI_lt0r, nI_ltE, nI_leE, nI_eqE, nI_m1, in_t, ba0, ba1, Nat.one_ne_zero, Nat.reduceEqDiff, Nat.reduceLeDiff, Nat.add_eq_zero_iff, hz5]
          try rfl
        · rw [gb_neg hz5]
          obtain ⟨m1, p1, p2, p3⟩ := x32 (sa := sa) (sv := sv) (d := d + 2) hX hO hV hNo hC hW hA hD (cN s 4) (by omega)
          have hQ1 := h'.frX hNo (p2.mono fun _ _ h => DX.p h)
          obtain ⟨hX1, -, ho1, -, hO1, hV1, -, -⟩ := hQ1
          have step : ∀ j x m2, x + j = x3 + 1 → 1 ≤ x → Fr (DQ N) m1 m2 → ∃ m', r195 sa sv (d + 6) 98 [some (.ref N), some (.int (nI a)), some (.int (nI w)), some (.int (nI x3)), some (.int (nI (cN s (690 + 6 * a + 5)))), some (.int (nI x))] [] m2 = some (.inl (some (.int (rcv_ s w a j x))), m') ∧ Fr (DQ N) m1 m' := by
            intro j
            induction j with
            | zero =>
              intro x m2 hj hx hF2
              refine ⟨m2, ?_, hF2⟩
              rw [b195_98, rcv_0]
              simp (disch := omega) only [gq_true, gb_true, gb_false, true_and, and_true, eq_self, not_false_eq_true, not_true_eq_false, true_or, or_true, false_or, or_false, false_and, and_false, c0_v, ci_v, cl_v, cf_v, pk_mul, nI_add, nI_clamp, nI_lt0, nI_0le, nI_eq0, nI_lt0r, nI_ltE, nI_leE, nI_eqE, nI_m1, in_t, ba0, ba1, Nat.one_ne_zero, Nat.reduceEqDiff, Nat.reduceLeDiff, Nat.add_eq_zero_iff, show x3 < x by omega]
            | succ j ih =>
              intro x m2 hj hx hF2
              have hP2 := p3.frQ hF2
              have hX2 := hP2.1
              obtain ⟨m3, g1, g2, g3, g4, g5⟩ := x35 (sa := sa) (sv := sv) (d := d + 2) hP2 hC hW hA w x hw (by omega)
              have hP3 := hP2.fr g2
              have hX3 := hP3.1
              have hGL := dvd_GL hC hW hA (cN s 4) w x hw (by omega)
              obtain ⟨m4, k1, k2, k3, k4, k5⟩ := x39 (sa := sa) (sv := sv) (d := d + 3) hP3 hC hD (dvd_64 hC hW (cN s 4) w x hw) hGL (g4.f fun x hx => (hGL x hx).2.2.2.2) g5
              have hX4 := (hP3.frQ (k2.mono fun _ _ h => DW.q h)).1
              have hF4 : Fr (DQ N) m1 m4 := (hF2.trans (g2.mono fun _ _ h => Or.inr (Or.inr h))).trans (k2.mono fun _ _ h => DW.q h)
              have hop := wh_bd hD (dvd_ s (cN s 4) w x).2 (dvd_ s (cN s 4) w x).2.length a (by omega)
              have hk4 := k4 a (by omega)
              rw [b195_98]
              simp (disch := omega) only [gq_true, gb_true, gb_false, true_and, and_true, eq_self, not_false_eq_true, not_true_eq_false, true_or, or_true, false_or, or_false, false_and, and_false, c0_v, ci_v, cl_v, cf_v, pk_mul, nI_add, nI_clamp, nI_lt0, nI_0le, nI_eq0, nI_lt0r, nI_ltE, nI_leE, nI_eqE, nI_m1, in_t, ba0, ba1, Nat.one_ne_zero, Nat.reduceEqDiff, Nat.reduceLeDiff, Nat.add_eq_zero_iff, eq_false (show ¬ x3 < x by omega), xk0 hX2, xr0_6 hX2, xk14 hX2]
              rw [g1, c0_v]
              simp (disch := omega) only [gq_true, gb_true, gb_false, true_and, and_true, eq_self, not_false_eq_true, not_true_eq_false, true_or, or_true, false_or, or_false, false_and, and_false, c0_v, ci_v, cl_v, cf_v, pk_mul, nI_add, nI_clamp, nI_lt0, nI_0le, nI_eq0, nI_lt0r, nI_ltE, nI_leE, nI_eqE, nI_m1, in_t, ba0, ba1, Nat.one_ne_zero, Nat.reduceEqDiff, Nat.reduceLeDiff, Nat.add_eq_zero_iff, xk0 hX3, xr0_6 hX3, xk14 hX3]
              rw [k1, c0_v]
              simp (disch := omega) only [gq_true, gb_true, gb_false, true_and, and_true, eq_self, not_false_eq_true, not_true_eq_false, true_or, or_true, false_or, or_false, false_and, and_false, c0_v, ci_v, cl_v, cf_v, pk_mul, nI_add, nI_clamp, nI_lt0, nI_0le, nI_eq0, nI_lt0r, nI_ltE, nI_leE, nI_eqE, nI_m1, in_t, ba0, ba1, Nat.one_ne_zero, Nat.reduceEqDiff, Nat.reduceLeDiff, Nat.add_eq_zero_iff, xk0 hX4, xr0_6 hX4, xk14 hX4, x42 hX4 a (by omega), hk4]
              by_cases c1 : (wh_ s (dvd_ s (cN s 4) w x).2 (dvd_ s (cN s 4) w x).2.length).1 a = 0
              · rw [gb_pos c1, rcv_t (decide_eq_true c1)]
                exact ⟨m4, rfl, hF4⟩
              · rw [gb_neg c1, rcv_f (decide_eq_false c1)]
                exact ih (x + 1) m4 (by omega) (by omega) hF4
          have hlo : ∀ x, x < (cN s (690 + 6 * a + 5) * 100 + cN s (690 + 6 * a + 3) - 1) / cN s (690 + 6 * a + 3) → rc_ s w a x = false := by
            intro x hx
            refine rc_lo hC hW hA hw ?_
            have h1 := (Nat.le_div_iff_mul_le hr0).mp (show x + 1 ≤ _ from hx)
            rw [Nat.add_mul] at h1
            omega
          have hx0 : 1 ≤ (cN s (690 + 6 * a + 5) * 100 + cN s (690 + 6 * a + 3) - 1) / cN s (690 + 6 * a + 3) := (Nat.le_div_iff_mul_le hr0).mpr (by omega)
          have hxb : (cN s (690 + 6 * a + 5) * 100 + cN s (690 + 6 * a + 3) - 1) / cN s (690 + 6 * a + 3) < 2 ^ 31 := Nat.lt_of_le_of_lt (Nat.div_le_self _ _) (by omega)
          have h196 := x196 (sa := sa) (sv := sv) (d := d + 5) (N := N) (m := m1) (cN s (690 + 6 * a + 5)) (cN s (690 + 6 * a + 3)) b5 hr0 b6
          generalize (cN s (690 + 6 * a + 5) * 100 + cN s (690 + 6 * a + 3) - 1) / cN s (690 + 6 * a + 3) = x0 at *
          have hfin : ∃ m', r195 sa sv (d + 6) 98 [some (.ref N), some (.int (nI a)), some (.int (nI w)), some (.int (nI x3)), some (.int (nI (cN s (690 + 6 * a + 5)))), some (.int (nI x0))] [] m1 = some (.inl (some (.int (rcv_ s w a x3 1))), m') ∧ Fr (DQ N) m1 m' := by
            by_cases hb : x0 ≤ x3 + 1
            · obtain ⟨m', q1, q2⟩ := step (x3 + 1 - x0) x0 m1 (by omega) hx0 (Fr.refl _ _)
              refine ⟨m', ?_, q2⟩
              rw [q1, rcv_k (k := x0 - 1) (by omega) fun x _ hx => hlo x (by omega)]
              rw [show x3 - (x0 - 1) = x3 + 1 - x0 by omega, show 1 + (x0 - 1) = x0 by omega]
            · refine ⟨m1, ?_, Fr.refl _ _⟩
              rw [b195_98, rcv_k (k := x3) (Nat.le_refl _) fun x _ hx => hlo x (by omega), Nat.sub_self, rcv_0]
              simp (disch := omega) only [gq_true, gb_true, gb_false, true_and, and_true, eq_self, not_false_eq_true, not_true_eq_false, true_or, or_true, false_or, or_false, false_and, and_false, c0_v, ci_v, cl_v, cf_v, pk_mul, nI_add, nI_clamp, nI_lt0, nI_0le, nI_eq0, nI_lt0r, nI_ltE, nI_leE, nI_eqE, nI_m1, in_t, ba0, ba1, Nat.one_ne_zero, Nat.reduceEqDiff, Nat.reduceLeDiff, Nat.add_eq_zero_iff, show x3 < x0 by omega]
          obtain ⟨m', q1, q2⟩ := hfin
          refine ⟨m', (p2.mono fun _ _ h => DX.p h).trans (q2.mono fun _ _ h => DX.q h), ?_⟩
          simp (disch := omega) only [gq_true, gb_true, gb_false, true_and, and_true, eq_self, not_false_eq_true, not_true_eq_false, true_or, or_true, false_or, or_false, false_and, and_false, c0_v, ci_v, cl_v, cf_v, pk_mul, nI_add, nI_clamp, nI_lt0, nI_0le, nI_eq0, nI_lt0r, nI_ltE, nI_leE, nI_eqE, nI_m1, in_t, ba0, ba1, Nat.one_ne_zero, Nat.reduceEqDiff, Nat.reduceLeDiff, Nat.add_eq_zero_iff, xk0 hX, ho, ok0 hO, ov_day hV, e4, xr0_6 hX, xk14 hX, hz]
          rw [p1, c0_v]
          simp (disch := omega) only [gq_true, gb_true, gb_false, true_and, and_true, eq_self, not_false_eq_true, not_true_eq_false, true_or, or_true, false_or, or_false, false_and, and_false, c0_v, ci_v, cl_v, cf_v, pk_mul, nI_add, nI_clamp, nI_lt0, nI_0le, nI_eq0, nI_lt0r, nI_ltE, nI_leE, nI_eqE, nI_m1, in_t, ba0, ba1, Nat.one_ne_zero, Nat.reduceEqDiff, Nat.reduceLeDiff, Nat.add_eq_zero_iff, xk0 hX1, ho1, ok0 hO1, or0_3 hO1, ok15 hO1, hz, xad hO1 hV1 a 3 (by omega) (by omega), e6]
          rw [h196, ci_v, q1, if_neg (by simpa using hz5)]
          try rfl
end R69
