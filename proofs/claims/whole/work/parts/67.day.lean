/-! what an income would bring on a day -/
/-- a day from today on -/
def dy_ (s : Nat → Int32) (x : Int32) : Bool := decide ((cN s 4 : Int) ≤ x.toInt ∧ x.toInt ≤ 9999)
theorem dy_t {s : Nat → Int32} {x : Int32} : dy_ s x = true ↔ ∃ k, cN s 4 ≤ k ∧ k ≤ 9999 ∧ x = nI k := by
  unfold dy_
  rw [decide_eq_true_iff]
  constructor
  · intro h
    refine ⟨x.toInt.toNat, by omega, by omega, ?_⟩
    apply Int32.toInt_inj.mp
    rw [nI_toInt (by omega)]
    omega
  · rintro ⟨k, h1, h2, rfl⟩
    rw [nI_toInt (by omega)]
    omega
theorem ydy {s : Nat → Int32} (h : cN s 4 < 2 ^ 31) (p : Int32) : decide ((nI (cN s 4)).toInt64 ≤ p.toInt64 ∧ p.toInt64 ≤ (9999 : Int64)) = dy_ s p := by
  unfold dy_
  refine decide_eq_decide.mpr ?_
  rw [l_le, Int64.le_iff_toInt_le, Int32.toInt_toInt64, show (9999 : Int64).toInt = 9999 by decide, nI_toInt h]
section R67
variable {sa sv d N o B : Nat} {m : am_M} {s : Nat → Int32} {q : Nat → Int64}
theorem y337_a (hR : RS m N s q) (hC : WC s) (w a u l4 : Int32) : am_ca sa sv (d + 4) 337 [.ref (N + 243), .int w, .int a, .int u, .int l4] m = r337 sa sv (d + 3) 22 [some (.ref (N + 243)), some (.int w), some (.int a), some (.int u), some (.int l4)] [.int (tr_ (inR w (cN s 1) && inR u (cN s 0))), .ref (N + 243)] m := by
  rw [c337, b337_0]
  simp (disch := omega) only [gq_true, gb_true, gb_false, true_and, and_true, eq_self, not_false_eq_true, not_true_eq_false, true_or, or_true, false_or, or_false, false_and, and_false, c0_v, ci_v, cl_v, cf_v, pk_mul, nI_add, nI_clamp, nI_lt0, nI_0le, nI_eq0, nI_lt0r, nI_ltE, nI_leE, nI_eqE, nI_m1, in_t, ba0, ba1, Nat.one_ne_zero, Nat.reduceEqDiff, Nat.reduceLeDiff, Nat.add_eq_zero_iff, rk243 hR, rr15 hR, rk245 hR, rr19 hR, rk249 hR, rs hR, rq hR, y286 hR hC, y285 hR hC, tr_0]
  cases inR w (cN s 1) <;> cases inR u (cN s 0) <;> simp only [gb_true, gb_false, Bool.true_and, Bool.false_and, Bool.true_eq_false] <;> rfl
theorem y337 (hR : RS m N s q) (hF : WF B s q) (w a u l4 : Int32) : ∃ m', am_ca sa sv (d + 7) 337 [.ref (N + 243), .int w, .int a, .int u, .int l4] m = some (.inl (some (.int (bif inR w (cN s 1) && inR u (cN s 0) && (amt_ a && dy_ s l4) then nI (eg_ (dvd_ s l4.toNatClampNeg w.toNatClampNeg a.toNatClampNeg).2 u.toNatClampNeg (dvd_ s l4.toNatClampNeg w.toNatClampNeg a.toNatClampNeg).2.length) else nI 0))), m') ∧ Fr (RX N) m m' ∧ gi_ m' (N + 243) 0 = nI (cd2_ (inR w (cN s 1) && inR u (cN s 0)) (amt_ a && dy_ s l4)) := by
  have hC := wf_c hF
  have hW := wf_w hF
  have hA := wf_a hF
  obtain ⟨e0, b0⟩ := (wc_np hC).c (by decide)
  obtain ⟨e1, b1⟩ := (wc_nw hC).c (by decide)
  obtain ⟨e4, b4⟩ := (wc_day hC).c (by decide)
  have hF1 : ∀ b, Fr (RX N) m (si_ m (N + 243) 0 (nI (cd2_ (inR w (cN s 1) && inR u (cN s 0)) b))) := fun b => (Fr.refl _ _).si RX.c0
  have hcd : ∀ b, gi_ (si_ m (N + 243) 0 (nI (cd2_ (inR w (cN s 1) && inR u (cN s 0)) b))) (N + 243) 0 = nI (cd2_ (inR w (cN s 1) && inR u (cN s 0)) b) := fun b => by rw [gi_si, if_pos ⟨rfl, rfl⟩]
  have h226 := fun b => y226 (sa := sa) (sv := sv) (d := d + 5) hR (inR w (cN s 1) && inR u (cN s 0)) b
  have h00 : am_ca sa sv (d + 6) 226 [.ref (N + 243), .int (tr_ (inR w (cN s 1) && inR u (cN s 0))), .int (nI 0)] m = some (.inl (some (.int (nI 0))), si_ m (N + 243) 0 (nI (cd2_ (inR w (cN s 1) && inR u (cN s 0)) false))) := by
    have := h226 false
    rw [Bool.and_false] at this
    exact this
  rw [y337_a (d := d + 3) hR hC w a u l4, b337_22]
  simp (disch := omega) only [gq_true, gb_true, gb_false, true_and, and_true, eq_self, not_false_eq_true, not_true_eq_false, true_or, or_true, false_or, or_false, false_and, and_false, c0_v, ci_v, cl_v, cf_v, pk_mul, nI_add, nI_clamp, nI_lt0, nI_0le, nI_eq0, nI_lt0r, nI_ltE, nI_leE, nI_eqE, nI_m1, in_t, ba0, ba1, Nat.one_ne_zero, Nat.reduceEqDiff, Nat.reduceLeDiff, Nat.add_eq_zero_iff, y331, tr_0]
  cases h3 : amt_ a with
  | false =>
    refine ⟨_, ?_, hF1 false, hcd false⟩
    rw [gb_pos rfl, b337_52]
    simp (disch := omega) only [gq_true, gb_true, gb_false, true_and, and_true, eq_self, not_false_eq_true, not_true_eq_false, true_or, or_true, false_or, or_false, false_and, and_false, c0_v, ci_v, cl_v, cf_v, pk_mul, nI_add, nI_clamp, nI_lt0, nI_0le, nI_eq0, nI_lt0r, nI_ltE, nI_leE, nI_eqE, nI_m1, in_t, ba0, ba1, Nat.one_ne_zero, Nat.reduceEqDiff, Nat.reduceLeDiff, Nat.add_eq_zero_iff, rk243 hR, h00, Bool.false_and, Bool.and_false, cond_false]
  | true =>
    rw [gb_neg (by decide)]
    simp (disch := omega) only [gq_true, gb_true, gb_false, true_and, and_true, eq_self, not_false_eq_true, not_true_eq_false, true_or, or_true, false_or, or_false, false_and, and_false, c0_v, ci_v, cl_v, cf_v, pk_mul, nI_add, nI_clamp, nI_lt0, nI_0le, nI_eq0, nI_lt0r, nI_ltE, nI_leE, nI_eqE, nI_m1, in_t, ba0, ba1, Nat.one_ne_zero, Nat.reduceEqDiff, Nat.reduceLeDiff, Nat.add_eq_zero_iff, rk243 hR, rr15 hR, rk245 hR, rr19 hR, rk249 hR, rs hR, rq hR, e4, y222, ydy (show cN s 4 < 2 ^ 31 by omega), tr_0]
    cases h4 : dy_ s l4 with
    | false =>
      refine ⟨_, ?_, hF1 false, hcd false⟩
      rw [gb_pos rfl, b337_52]
      simp (disch := omega) only [gq_true, gb_true, gb_false, true_and, and_true, eq_self, not_false_eq_true, not_true_eq_false, true_or, or_true, false_or, or_false, false_and, and_false, c0_v, ci_v, cl_v, cf_v, pk_mul, nI_add, nI_clamp, nI_lt0, nI_0le, nI_eq0, nI_lt0r, nI_ltE, nI_leE, nI_eqE, nI_m1, in_t, ba0, ba1, Nat.one_ne_zero, Nat.reduceEqDiff, Nat.reduceLeDiff, Nat.add_eq_zero_iff, rk243 hR, h00, Bool.false_and, Bool.and_false, cond_false]
    | true =>
      have h11 : am_ca sa sv (d + 6) 226 [.ref (N + 243), .int (tr_ (inR w (cN s 1) && inR u (cN s 0))), .int (nI 1)] m = some (.inl (some (.int (tr_ (inR w (cN s 1) && inR u (cN s 0))))), si_ m (N + 243) 0 (nI (cd2_ (inR w (cN s 1) && inR u (cN s 0)) true))) := by
        have := h226 true
        rw [Bool.and_true] at this
        exact this
      rw [gb_neg (by decide)]
      simp (disch := omega) only [gq_true, gb_true, gb_false, true_and, and_true, eq_self, not_false_eq_true, not_true_eq_false, true_or, or_true, false_or, or_false, false_and, and_false, c0_v, ci_v, cl_v, cf_v, pk_mul, nI_add, nI_clamp, nI_lt0, nI_0le, nI_eq0, nI_lt0r, nI_ltE, nI_leE, nI_eqE, nI_m1, in_t, ba0, ba1, Nat.one_ne_zero, Nat.reduceEqDiff, Nat.reduceLeDiff, Nat.add_eq_zero_iff, rk243 hR, h11, tr_0]
      have hR1 := hR.c 0 (nI (cd2_ (inR w (cN s 1) && inR u (cN s 0)) true))
      cases hok : (inR w (cN s 1) && inR u (cN s 0)) with
      | false =>
        have := hF1 true
        have h2 := hcd true
        rw [hok] at this h2
        exact ⟨_, by rw [gb_pos rfl]; rfl, this, h2⟩
      | true =>
        have hf1 := hF1 true
        have hcd1 := hcd true
        rw [hok] at hf1 hcd1 hR1
        rw [Bool.and_eq_true] at hok
        obtain ⟨h1, h2⟩ := hok
        obtain ⟨w, hw, rfl⟩ := (inR_t (by omega)).mp h1
        obtain ⟨u, hu, rfl⟩ := (inR_t (by omega)).mp h2
        obtain ⟨a, ha1, ha, rfl⟩ := amt_t.mp h3
        obtain ⟨dd, hd1, hd2, rfl⟩ := dy_t.mp h4
        obtain ⟨m', g1, g2⟩ := y333 (sa := sa) (sv := sv) (d := d) hR1 hC hW hA w a u dd hw ha (by omega) (by omega)
        refine ⟨m', ?_, hf1.trans (g2.mono fun _ _ h => RLc.x h), (g2.2.1 _ _ (by rintro (z | z | ⟨z, z2⟩) <;> omega)).trans hcd1⟩
        rw [gb_neg (by decide)]
        simp (disch := omega) only [gq_true, gb_true, gb_false, true_and, and_true, eq_self, not_false_eq_true, not_true_eq_false, true_or, or_true, false_or, or_false, false_and, and_false, c0_v, ci_v, cl_v, cf_v, pk_mul, nI_add, nI_clamp, nI_lt0, nI_0le, nI_eq0, nI_lt0r, nI_ltE, nI_leE, nI_eqE, nI_m1, in_t, ba0, ba1, Nat.one_ne_zero, Nat.reduceEqDiff, Nat.reduceLeDiff, Nat.add_eq_zero_iff, rk243 hR1, Bool.and_self, cond_true]
        rw [g1, ci_v]
theorem x197 (h : CQ B m N o s q) (hNo : N + 27 ≤ o) (w a u l4 : Int32) : ∃ m', Fr (DX N) m m' ∧ am_ca sa sv (d + 7) 197 [.ref N, .int w, .int a, .int u, .int l4] m = bif inR w (cN s 1) then (bif inR u (cN s 0) then (bif amt_ a then (bif dy_ s l4 then some (.inl (some (.int (nI (eg_ (dvd_ s l4.toNatClampNeg w.toNatClampNeg a.toNatClampNeg).2 u.toNatClampNeg (dvd_ s l4.toNatClampNeg w.toNatClampNeg a.toNatClampNeg).2.length)))), m') else some (.inr 1, th_ m)) else some (.inr 1, th_ m)) else some (.inr 2, th_ m)) else some (.inr 2, th_ m) := by
  have h' := h
  obtain ⟨hX, hN, ho, ho0, hO, hV, hF, hB⟩ := h
  have hz := l_eqF (Nat.pos_iff_ne_zero.mp ho0)
  have hC := wf_c hF
  obtain ⟨e0, b0⟩ := (wc_np hC).c (by decide)
  obtain ⟨e1, b1⟩ := (wc_nw hC).c (by decide)
  obtain ⟨e4, b4⟩ := (wc_day hC).c (by decide)
  cases h1 : inR w (cN s 1) with
  | false =>
    refine ⟨m, Fr.refl _ _, ?_⟩
    rw [c197, b197_0]
    simp (disch := omega) only [gq_true, gb_true, gb_false, true_and, and_true, eq_self, not_false_eq_true, not_true_eq_false, true_or, or_true, false_or, or_false, false_and, and_false, c0_v, ci_v, cl_v, cf_v, pk_mul, nI_add, nI_clamp, nI_lt0, nI_0le, nI_eq0, nI_lt0r, nI_ltE, nI_leE, nI_eqE, nI_m1, in_t, ba0, ba1, Nat.one_ne_zero, Nat.reduceEqDiff, Nat.reduceLeDiff, Nat.add_eq_zero_iff, xk0 hX, x213f h' _ h1, c0_x, xg_v, cond_false]
    try rfl
  | true =>
    obtain ⟨w, hw, rfl⟩ := (inR_t (by omega)).mp h1
    cases h2 : inR u (cN s 0) with
    | false =>
      refine ⟨m, Fr.refl _ _, ?_⟩
      rw [c197, b197_0]
      simp (disch := omega) only [gq_true, gb_true, gb_false, true_and, and_true, eq_self, not_false_eq_true, not_true_eq_false, true_or, or_true, false_or, or_false, false_and, and_false, c0_v, ci_v, cl_v, cf_v, pk_mul, nI_add, nI_clamp, nI_lt0, nI_0le, nI_eq0, nI_lt0r, nI_ltE, nI_leE, nI_eqE, nI_m1, in_t, ba0, ba1, Nat.one_ne_zero, Nat.reduceEqDiff, Nat.reduceLeDiff, Nat.add_eq_zero_iff, xk0 hX, x213s h' w hw b1, x212f h' _ h2, c0_x, xg_v, cond_false, cond_true]
      try rfl
    | true =>
      obtain ⟨u, hu, rfl⟩ := (inR_t (by omega)).mp h2
      cases h3 : amt_ a with
      | false =>
        refine ⟨m, Fr.refl _ _, ?_⟩
        rw [c197, b197_0]
        simp (disch := omega) only [gq_true, gb_true, gb_false, true_and, and_true, eq_self, not_false_eq_true, not_true_eq_false, true_or, or_true, false_or, or_false, false_and, and_false, c0_v, ci_v, cl_v, cf_v, pk_mul, nI_add, nI_clamp, nI_lt0, nI_0le, nI_eq0, nI_lt0r, nI_ltE, nI_leE, nI_eqE, nI_m1, in_t, ba0, ba1, Nat.one_ne_zero, Nat.reduceEqDiff, Nat.reduceLeDiff, Nat.add_eq_zero_iff, xk0 hX, x213s h' w hw b1, x212s h' u hu b0, x217f a h3, x215_0, c0_x, xg_v, cond_false, cond_true]
        try rfl
      | true =>
        obtain ⟨a, ha1, ha, rfl⟩ := amt_t.mp h3
        cases h4 : dy_ s l4 with
        | false =>
          refine ⟨m, Fr.refl _ _, ?_⟩
          rw [c197, b197_0]
          simp (disch := omega) only [gq_true, gb_true, gb_false, true_and, and_true, eq_self, not_false_eq_true, not_true_eq_false, true_or, or_true, false_or, or_false, false_and, and_false, c0_v, ci_v, cl_v, cf_v, pk_mul, nI_add, nI_clamp, nI_lt0, nI_0le, nI_eq0, nI_lt0r, nI_ltE, nI_leE, nI_eqE, nI_m1, in_t, ba0, ba1, Nat.one_ne_zero, Nat.reduceEqDiff, Nat.reduceLeDiff, Nat.add_eq_zero_iff, xk0 hX, x213s h' w hw b1, x212s h' u hu b0, x217s a ha1 ha, x215_0, x215_1, c0_x, xg_v, ho, ok0 hO, ov_day hV, e4, hz, cond_false, cond_true]
          have h5 := of_decide_eq_false h4
          rw [i_lt_nI (by omega), nI_lt_i (by omega)]
          by_cases c1 : l4.toInt < (cN s 4 : Int)
          · rw [gb_pos c1]
          · rw [gb_neg c1, gb_pos (by omega)]
        | true =>
          obtain ⟨dd, hd1, hd2, rfl⟩ := dy_t.mp h4
          obtain ⟨m', g1, g2⟩ := x199 (sa := sa) (sv := sv) (d := d) h' hNo w a u dd hw hu ha (by omega)
          refine ⟨m', g1, ?_⟩
          rw [c197, b197_0]
          simp (disch := omega) only [gq_true, gb_true, gb_false, true_and, and_true, eq_self, not_false_eq_true, not_true_eq_false, true_or, or_true, false_or, or_false, false_and, and_false, c0_v, ci_v, cl_v, cf_v, pk_mul, nI_add, nI_clamp, nI_lt0, nI_0le, nI_eq0, nI_lt0r, nI_ltE, nI_leE, nI_eqE, nI_m1, in_t, ba0, ba1, Nat.one_ne_zero, Nat.reduceEqDiff, Nat.reduceLeDiff, Nat.add_eq_zero_iff, xk0 hX, x213s h' w hw b1, x212s h' u hu b0, x217s a ha1 ha, x215_1, ho, ok0 hO, ov_day hV, e4, hz, eq_false (show ¬ dd < cN s 4 by omega), eq_false (show ¬ 9999 < dd by omega)]
          rw [g2, ci_v]
          simp (disch := omega) only [gq_true, gb_true, gb_false, true_and, and_true, eq_self, not_false_eq_true, not_true_eq_false, true_or, or_true, false_or, or_false, false_and, and_false, c0_v, ci_v, cl_v, cf_v, pk_mul, nI_add, nI_clamp, nI_lt0, nI_0le, nI_eq0, nI_lt0r, nI_ltE, nI_leE, nI_eqE, nI_m1, in_t, ba0, ba1, Nat.one_ne_zero, Nat.reduceEqDiff, Nat.reduceLeDiff, Nat.add_eq_zero_iff, cond_true]
          try rfl
end R67
