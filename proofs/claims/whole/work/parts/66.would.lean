/-! what an income would bring: the reference -/
theorem amt_t {x : Int32} : amt_ x = true ↔ ∃ k, 1 ≤ k ∧ k ≤ 9999999 ∧ x = nI k := by
  unfold amt_
  rw [decide_eq_true_iff]
  constructor
  · intro h
    refine ⟨x.toInt.toNat, by omega, by omega, ?_⟩
    apply Int32.toInt_inj.mp
    rw [nI_toInt (by omega)]
    omega
  · rintro ⟨k, h1, h2, rfl⟩
    rw [nI_toInt (by omega)]
    omega
theorem yamt (p : Int32) : decide ((1 : Int64) ≤ p.toInt64 ∧ p.toInt64 ≤ (9999999 : Int64)) = amt_ p := by
  unfold amt_
  refine decide_eq_decide.mpr ?_
  rw [Int64.le_iff_toInt_le, Int64.le_iff_toInt_le, Int32.toInt_toInt64, show (1 : Int64).toInt = 1 by decide, show (9999999 : Int64).toInt = 9999999 by decide]
/-- the lines of an income -/
def dL_ (s : Nat → Int32) (w a : Nat) : List Ln := (dvd_ s (cN s 4) w a).2
section R66
variable {sa sv d N o B : Nat} {m : am_M} {s : Nat → Int32} {q : Nat → Int64}
theorem y331 (a : Int32) : am_ca sa sv (d + 2) 331 [.int a] m = some (.inl (some (.int (tr_ (amt_ a)))), m) := by
  rw [c331, b331_0]
  simp (disch := omega) only [gq_true, gb_true, gb_false, true_and, and_true, eq_self, not_false_eq_true, not_true_eq_false, true_or, or_true, false_or, or_false, false_and, and_false, c0_v, ci_v, cl_v, cf_v, pk_mul, nI_add, nI_clamp, nI_lt0, nI_0le, nI_eq0, nI_lt0r, nI_ltE, nI_leE, nI_eqE, nI_m1, in_t, ba0, ba1, Nat.one_ne_zero, Nat.reduceEqDiff, Nat.reduceLeDiff, Nat.add_eq_zero_iff, y222, yamt, tr_ba]
theorem y332_a (hR : RS m N s q) (hC : WC s) (w a u : Int32) : am_ca sa sv (d + 4) 332 [.ref (N + 243), .int w, .int a, .int u] m = r332 sa sv (d + 3) 22 [some (.ref (N + 243)), some (.int w), some (.int a), some (.int u)] [.int (tr_ (inR w (cN s 1) && inR u (cN s 1))), .ref (N + 243)] m := by
  rw [c332, b332_0]
  simp (disch := omega) only [gq_true, gb_true, gb_false, true_and, and_true, eq_self, not_false_eq_true, not_true_eq_false, true_or, or_true, false_or, or_false, false_and, and_false, c0_v, ci_v, cl_v, cf_v, pk_mul, nI_add, nI_clamp, nI_lt0, nI_0le, nI_eq0, nI_lt0r, nI_ltE, nI_leE, nI_eqE, nI_m1, in_t, ba0, ba1, Nat.one_ne_zero, Nat.reduceEqDiff, Nat.reduceLeDiff, Nat.add_eq_zero_iff, rk243 hR, rr15 hR, rk245 hR, rr19 hR, rk249 hR, rs hR, rq hR, y286 hR hC, tr_0]
  cases inR w (cN s 1) <;> cases inR u (cN s 1) <;> simp only [gb_true, gb_false, Bool.true_and, Bool.false_and, Bool.true_eq_false] <;> rfl
theorem y334_a (hR : RS m N s q) (hC : WC s) (w a u : Int32) : am_ca sa sv (d + 4) 334 [.ref (N + 243), .int w, .int a, .int u] m = r334 sa sv (d + 3) 22 [some (.ref (N + 243)), some (.int w), some (.int a), some (.int u)] [.int (tr_ (inR w (cN s 1) && inR u (cN s 0))), .ref (N + 243)] m := by
  rw [c334, b334_0]
  simp (disch := omega) only [gq_true, gb_true, gb_false, true_and, and_true, eq_self, not_false_eq_true, not_true_eq_false, true_or, or_true, false_or, or_false, false_and, and_false, c0_v, ci_v, cl_v, cf_v, pk_mul, nI_add, nI_clamp, nI_lt0, nI_0le, nI_eq0, nI_lt0r, nI_ltE, nI_leE, nI_eqE, nI_m1, in_t, ba0, ba1, Nat.one_ne_zero, Nat.reduceEqDiff, Nat.reduceLeDiff, Nat.add_eq_zero_iff, rk243 hR, rr15 hR, rk245 hR, rr19 hR, rk249 hR, rs hR, rq hR, y286 hR hC, y285 hR hC, tr_0]
  cases inR w (cN s 1) <;> cases inR u (cN s 0) <;> simp only [gb_true, gb_false, Bool.true_and, Bool.false_and, Bool.true_eq_false] <;> rfl
theorem y335_a (hR : RS m N s q) (hC : WC s) (w a u : Int32) : am_ca sa sv (d + 4) 335 [.ref (N + 243), .int w, .int a, .int u] m = r335 sa sv (d + 3) 22 [some (.ref (N + 243)), some (.int w), some (.int a), some (.int u)] [.int (tr_ (inR w (cN s 1) && inR u (cN s 0))), .ref (N + 243)] m := by
  rw [c335, b335_0]
  simp (disch := omega) only [gq_true, gb_true, gb_false, true_and, and_true, eq_self, not_false_eq_true, not_true_eq_false, true_or, or_true, false_or, or_false, false_and, and_false, c0_v, ci_v, cl_v, cf_v, pk_mul, nI_add, nI_clamp, nI_lt0, nI_0le, nI_eq0, nI_lt0r, nI_ltE, nI_leE, nI_eqE, nI_m1, in_t, ba0, ba1, Nat.one_ne_zero, Nat.reduceEqDiff, Nat.reduceLeDiff, Nat.add_eq_zero_iff, rk243 hR, rr15 hR, rk245 hR, rr19 hR, rk249 hR, rs hR, rq hR, y286 hR hC, y285 hR hC, tr_0]
  cases inR w (cN s 1) <;> cases inR u (cN s 0) <;> simp only [gb_true, gb_false, Bool.true_and, Bool.false_and, Bool.true_eq_false] <;> rfl
theorem RX.c0 {N : Nat} : RX N (N + 243) 0 := Or.inl ⟨rfl, Or.inl rfl⟩
theorem y332 (hR : RS m N s q) (hF : WF B s q) (w a u : Int32) : ∃ m', am_ca sa sv (d + 7) 332 [.ref (N + 243), .int w, .int a, .int u] m = some (.inl (some (.int (bif inR w (cN s 1) && inR u (cN s 1) && amt_ a then nI ((dvd_ s (cN s 4) w.toNatClampNeg a.toNatClampNeg).1 u.toNatClampNeg) else nI 0))), m') ∧ Fr (RX N) m m' ∧ gi_ m' (N + 243) 0 = nI (cd2_ (inR w (cN s 1) && inR u (cN s 1)) (amt_ a)) := by
  have hC := wf_c hF
  have hW := wf_w hF
  have hA := wf_a hF
  obtain ⟨e1, b1⟩ := (wc_nw hC).c (by decide)
  obtain ⟨e4, b4⟩ := (wc_day hC).c (by decide)
  have hF1 : Fr (RX N) m (si_ m (N + 243) 0 (nI (cd2_ (inR w (cN s 1) && inR u (cN s 1)) (amt_ a)))) := (Fr.refl _ _).si RX.c0
  have hR1 := hR.c 0 (nI (cd2_ (inR w (cN s 1) && inR u (cN s 1)) (amt_ a)))
  have hX1 := hR1.1
  have hcd : gi_ (si_ m (N + 243) 0 (nI (cd2_ (inR w (cN s 1) && inR u (cN s 1)) (amt_ a)))) (N + 243) 0 = nI (cd2_ (inR w (cN s 1) && inR u (cN s 1)) (amt_ a)) := by rw [gi_si, if_pos ⟨rfl, rfl⟩]
  have h226 := y226 (sa := sa) (sv := sv) (d := d + 5) hR (inR w (cN s 1) && inR u (cN s 1)) (amt_ a)
  have h0 := y332_a (sa := sa) (sv := sv) (d := d + 3) hR hC w a u
  generalize hm1 : si_ m (N + 243) 0 (nI (cd2_ (inR w (cN s 1) && inR u (cN s 1)) (amt_ a))) = m1 at *
  rw [h0, b332_22]
  simp (disch := omega) only [gq_true, gb_true, gb_false, true_and, and_true, eq_self, not_false_eq_true, not_true_eq_false, true_or, or_true, false_or, or_false, false_and, and_false, c0_v, ci_v, cl_v, cf_v, pk_mul, nI_add, nI_clamp, nI_lt0, nI_0le, nI_eq0, nI_lt0r, nI_ltE, nI_leE, nI_eqE, nI_m1, in_t, ba0, ba1, Nat.one_ne_zero, Nat.reduceEqDiff, Nat.reduceLeDiff, Nat.add_eq_zero_iff, y331, rk243 hR, h226, tr_0]
  cases hok : (inR w (cN s 1) && inR u (cN s 1) && amt_ a) with
  | false => exact ⟨m1, by rw [gb_pos rfl, cond_false, nI_0], hF1, hcd⟩
  | true =>
    rw [Bool.and_eq_true, Bool.and_eq_true] at hok
    obtain ⟨⟨h1, h2⟩, h3⟩ := hok
    obtain ⟨w, hw, rfl⟩ := (inR_t (by omega)).mp h1
    obtain ⟨u, hu, rfl⟩ := (inR_t (by omega)).mp h2
    obtain ⟨a, ha1, ha, rfl⟩ := amt_t.mp h3
    obtain ⟨m', g1, g2, g3, g4, g5⟩ := y328 (sa := sa) (sv := sv) (d := d + 1) hR1 hC hW hA w a (cN s 4) hw ha (by omega)
    have hX2 := (hR1.fr (g2.mono fun _ _ h => RLc.x h)).1
    refine ⟨m', ?_, hF1.trans (g2.mono fun _ _ h => RLc.x h), (g2.2.1 _ _ (by rintro (z | z | ⟨z, z2⟩) <;> omega)).trans hcd⟩
    rw [gb_neg (by decide), cond_true]
    simp (disch := omega) only [gq_true, gb_true, gb_false, true_and, and_true, eq_self, not_false_eq_true, not_true_eq_false, true_or, or_true, false_or, or_false, false_and, and_false, c0_v, ci_v, cl_v, cf_v, pk_mul, nI_add, nI_clamp, nI_lt0, nI_0le, nI_eq0, nI_lt0r, nI_ltE, nI_leE, nI_eqE, nI_m1, in_t, ba0, ba1, Nat.one_ne_zero, Nat.reduceEqDiff, Nat.reduceLeDiff, Nat.add_eq_zero_iff, rk243 hR1, rr15 hR1, rk245 hR1, rr19 hR1, rk249 hR1, rs hR1, rq hR1, e4]
    rw [g1, c0_v]
    simp (disch := omega) only [gq_true, gb_true, gb_false, true_and, and_true, eq_self, not_false_eq_true, not_true_eq_false, true_or, or_true, false_or, or_false, false_and, and_false, c0_v, ci_v, cl_v, cf_v, pk_mul, nI_add, nI_clamp, nI_lt0, nI_0le, nI_eq0, nI_lt0r, nI_ltE, nI_leE, nI_eqE, nI_m1, in_t, ba0, ba1, Nat.one_ne_zero, Nat.reduceEqDiff, Nat.reduceLeDiff, Nat.add_eq_zero_iff, xk243 hX2, xr243_29 hX2, xk256 hX2, g3 u (by omega)]
theorem y334 (hR : RS m N s q) (hF : WF B s q) (w a u : Int32) : ∃ m', am_ca sa sv (d + 7) 334 [.ref (N + 243), .int w, .int a, .int u] m = some (.inl (some (.int (bif inR w (cN s 1) && inR u (cN s 0) && amt_ a then nI (eg_ (dL_ s w.toNatClampNeg a.toNatClampNeg) u.toNatClampNeg (dL_ s w.toNatClampNeg a.toNatClampNeg).length) else nI 0))), m') ∧ Fr (RX N) m m' ∧ gi_ m' (N + 243) 0 = nI (cd2_ (inR w (cN s 1) && inR u (cN s 0)) (amt_ a)) := by
  have hC := wf_c hF
  have hW := wf_w hF
  have hA := wf_a hF
  obtain ⟨e0, b0⟩ := (wc_np hC).c (by decide)
  obtain ⟨e1, b1⟩ := (wc_nw hC).c (by decide)
  obtain ⟨e4, b4⟩ := (wc_day hC).c (by decide)
  have hF1 : Fr (RX N) m (si_ m (N + 243) 0 (nI (cd2_ (inR w (cN s 1) && inR u (cN s 0)) (amt_ a)))) := (Fr.refl _ _).si RX.c0
  have hR1 := hR.c 0 (nI (cd2_ (inR w (cN s 1) && inR u (cN s 0)) (amt_ a)))
  have hX1 := hR1.1
  have hcd : gi_ (si_ m (N + 243) 0 (nI (cd2_ (inR w (cN s 1) && inR u (cN s 0)) (amt_ a)))) (N + 243) 0 = nI (cd2_ (inR w (cN s 1) && inR u (cN s 0)) (amt_ a)) := by rw [gi_si, if_pos ⟨rfl, rfl⟩]
  have h226 := y226 (sa := sa) (sv := sv) (d := d + 5) hR (inR w (cN s 1) && inR u (cN s 0)) (amt_ a)
  have h0 := y334_a (sa := sa) (sv := sv) (d := d + 3) hR hC w a u
  generalize hm1 : si_ m (N + 243) 0 (nI (cd2_ (inR w (cN s 1) && inR u (cN s 0)) (amt_ a))) = m1 at *
  rw [h0, b334_22]
  simp (disch := omega) only [gq_true, gb_true, gb_false, true_and, and_true, eq_self, not_false_eq_true, not_true_eq_false, true_or, or_true, false_or, or_false, false_and, and_false, c0_v, ci_v, cl_v, cf_v, pk_mul, nI_add, nI_clamp, nI_lt0, nI_0le, nI_eq0, nI_lt0r, nI_ltE, nI_leE, nI_eqE, nI_m1, in_t, ba0, ba1, Nat.one_ne_zero, Nat.reduceEqDiff, Nat.reduceLeDiff, Nat.add_eq_zero_iff, y331, rk243 hR, h226, tr_0]
  cases hok : (inR w (cN s 1) && inR u (cN s 0) && amt_ a) with
  | false => exact ⟨m1, by rw [gb_pos rfl, cond_false, nI_0], hF1, hcd⟩
  | true =>
    rw [Bool.and_eq_true, Bool.and_eq_true] at hok
    obtain ⟨⟨h1, h2⟩, h3⟩ := hok
    obtain ⟨w, hw, rfl⟩ := (inR_t (by omega)).mp h1
    obtain ⟨u, hu, rfl⟩ := (inR_t (by omega)).mp h2
    obtain ⟨a, ha1, ha, rfl⟩ := amt_t.mp h3
    obtain ⟨m', g1, g2⟩ := y333 (sa := sa) (sv := sv) (d := d) hR1 hC hW hA w a u (cN s 4) hw ha (by omega) (by omega)
    refine ⟨m', ?_, hF1.trans (g2.mono fun _ _ h => RLc.x h), (g2.2.1 _ _ (by rintro (z | z | ⟨z, z2⟩) <;> omega)).trans hcd⟩
    rw [gb_neg (by decide), cond_true]
    simp (disch := omega) only [gq_true, gb_true, gb_false, true_and, and_true, eq_self, not_false_eq_true, not_true_eq_false, true_or, or_true, false_or, or_false, false_and, and_false, c0_v, ci_v, cl_v, cf_v, pk_mul, nI_add, nI_clamp, nI_lt0, nI_0le, nI_eq0, nI_lt0r, nI_ltE, nI_leE, nI_eqE, nI_m1, in_t, ba0, ba1, Nat.one_ne_zero, Nat.reduceEqDiff, Nat.reduceLeDiff, Nat.add_eq_zero_iff, rk243 hR1, rr15 hR1, rk245 hR1, rr19 hR1, rk249 hR1, rs hR1, rq hR1, e4]
    rw [g1, ci_v]
    rfl
theorem RW.c {N : Nat} {k : Nat} : ¬ RW N (N + 243) k := by
  rintro (z | z | z | z) <;> omega
theorem y335 (hR : RS m N s q) (hF : WF B s q) (w a u : Int32) : ∃ m', am_ca sa sv (d + 7) 335 [.ref (N + 243), .int w, .int a, .int u] m = some (.inl (some (.int (bif inR w (cN s 1) && inR u (cN s 0) && amt_ a then nI (og_ s (dL_ s w.toNatClampNeg a.toNatClampNeg) u.toNatClampNeg (dL_ s w.toNatClampNeg a.toNatClampNeg).length + (wh_ s (dL_ s w.toNatClampNeg a.toNatClampNeg) (dL_ s w.toNatClampNeg a.toNatClampNeg).length).2 u.toNatClampNeg) else nI 0))), m') ∧ Fr (RX N) m m' ∧ gi_ m' (N + 243) 0 = nI (cd2_ (inR w (cN s 1) && inR u (cN s 0)) (amt_ a)) := by
  have hC := wf_c hF
  have hW := wf_w hF
  have hA := wf_a hF
  have hD := wf_d hF
  obtain ⟨e0, b0⟩ := (wc_np hC).c (by decide)
  obtain ⟨e1, b1⟩ := (wc_nw hC).c (by decide)
  obtain ⟨e4, b4⟩ := (wc_day hC).c (by decide)
  have hF1 : Fr (RX N) m (si_ m (N + 243) 0 (nI (cd2_ (inR w (cN s 1) && inR u (cN s 0)) (amt_ a)))) := (Fr.refl _ _).si RX.c0
  have hR1 := hR.c 0 (nI (cd2_ (inR w (cN s 1) && inR u (cN s 0)) (amt_ a)))
  have hX1 := hR1.1
  have hcd : gi_ (si_ m (N + 243) 0 (nI (cd2_ (inR w (cN s 1) && inR u (cN s 0)) (amt_ a)))) (N + 243) 0 = nI (cd2_ (inR w (cN s 1) && inR u (cN s 0)) (amt_ a)) := by rw [gi_si, if_pos ⟨rfl, rfl⟩]
  have h226 := y226 (sa := sa) (sv := sv) (d := d + 5) hR (inR w (cN s 1) && inR u (cN s 0)) (amt_ a)
  have h0 := y335_a (sa := sa) (sv := sv) (d := d + 3) hR hC w a u
  generalize hm1 : si_ m (N + 243) 0 (nI (cd2_ (inR w (cN s 1) && inR u (cN s 0)) (amt_ a))) = m1 at *
  rw [h0, b335_22]
  simp (disch := omega) only [gq_true, gb_true, gb_false, true_and, and_true, eq_self, not_false_eq_true, not_true_eq_false, true_or, or_true, false_or, or_false, false_and, and_false, c0_v, ci_v, cl_v, cf_v, pk_mul, nI_add, nI_clamp, nI_lt0, nI_0le, nI_eq0, nI_lt0r, nI_ltE, nI_leE, nI_eqE, nI_m1, in_t, ba0, ba1, Nat.one_ne_zero, Nat.reduceEqDiff, Nat.reduceLeDiff, Nat.add_eq_zero_iff, y331, rk243 hR, h226, tr_0]
  cases hok : (inR w (cN s 1) && inR u (cN s 0) && amt_ a) with
  | false => exact ⟨m1, by rw [gb_pos rfl, cond_false, nI_0], hF1, hcd⟩
  | true =>
    rw [Bool.and_eq_true, Bool.and_eq_true] at hok
    obtain ⟨⟨h1, h2⟩, h3⟩ := hok
    obtain ⟨w, hw, rfl⟩ := (inR_t (by omega)).mp h1
    obtain ⟨u, hu, rfl⟩ := (inR_t (by omega)).mp h2
    obtain ⟨a, ha1, ha, rfl⟩ := amt_t.mp h3
    obtain ⟨m2, g1, g2, g3, g4, g5⟩ := y328 (sa := sa) (sv := sv) (d := d + 1) hR1 hC hW hA w a (cN s 4) hw ha (by omega)
    have hR2 := hR1.fr (g2.mono fun _ _ h => RLc.x h)
    have hGL := dvd_GL hC hW hA (cN s 4) w a hw ha
    obtain ⟨m', k1, k2, k3, k4, k5, k6⟩ := y329 (sa := sa) (sv := sv) (d := d + 3) hR2 hC hD (dvd_64 hC hW (cN s 4) w a hw) hGL (g4.f fun x hx => (hGL x hx).2.2.2.2) g5
    have hX3 := (hR2.fr (k2.mono fun _ _ h => RW.x h)).1
    refine ⟨m', ?_, (hF1.trans (g2.mono fun _ _ h => RLc.x h)).trans (k2.mono fun _ _ h => RW.x h), (k2.2.1 _ _ RW.c).trans ((g2.2.1 _ _ (by rintro (z | z | ⟨z, z2⟩) <;> omega)).trans hcd)⟩
    rw [gb_neg (by decide), cond_true]
    simp (disch := omega) only [gq_true, gb_true, gb_false, true_and, and_true, eq_self, not_false_eq_true, not_true_eq_false, true_or, or_true, false_or, or_false, false_and, and_false, c0_v, ci_v, cl_v, cf_v, pk_mul, nI_add, nI_clamp, nI_lt0, nI_0le, nI_eq0, nI_lt0r, nI_ltE, nI_leE, nI_eqE, nI_m1, in_t, ba0, ba1, Nat.one_ne_zero, Nat.reduceEqDiff, Nat.reduceLeDiff, Nat.add_eq_zero_iff, rk243 hR1, rr15 hR1, rk245 hR1, rr19 hR1, rk249 hR1, rs hR1, rq hR1, e4]
    rw [g1, c0_v]
    simp (disch := omega) only [gq_true, gb_true, gb_false, true_and, and_true, eq_self, not_false_eq_true, not_true_eq_false, true_or, or_true, false_or, or_false, false_and, and_false, c0_v, ci_v, cl_v, cf_v, pk_mul, nI_add, nI_clamp, nI_lt0, nI_0le, nI_eq0, nI_lt0r, nI_ltE, nI_leE, nI_eqE, nI_m1, in_t, ba0, ba1, Nat.one_ne_zero, Nat.reduceEqDiff, Nat.reduceLeDiff, Nat.add_eq_zero_iff, rk243 hR2]
    rw [k1, c0_v]
    simp (disch := omega) only [gq_true, gb_true, gb_false, true_and, and_true, eq_self, not_false_eq_true, not_true_eq_false, true_or, or_true, false_or, or_false, false_and, and_false, c0_v, ci_v, cl_v, cf_v, pk_mul, nI_add, nI_clamp, nI_lt0, nI_0le, nI_eq0, nI_lt0r, nI_ltE, nI_leE, nI_eqE, nI_m1, in_t, ba0, ba1, Nat.one_ne_zero, Nat.reduceEqDiff, Nat.reduceLeDiff, Nat.add_eq_zero_iff, xk243 hX3, xr243_31 hX3, xk258 hX3, k6 u (by omega)]
    rfl
end R66
