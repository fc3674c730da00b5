/-! income, pass, revert, setLeast, close: the reference's calls -/
section R89
variable {sa sv d N n B : Nat} {X : TX} {m m' : am_M} {s : Nat → Int32} {q : Nat → Int64}
theorem TR.c0 (h : TR m N X) (c : Int32) : TR (si_ m (N + 243) 0 c) N X := by
  have f0 : Fr (fun a k => a = N + 243 ∧ k = 0) m (si_ m (N + 243) 0 c) := (Fr.refl _ _).si ⟨rfl, rfl⟩
  have hi : ∀ a k, ¬ (a = N + 243 ∧ k = 0) → gi_ (si_ m (N + 243) 0 c) a k = gi_ m a k := fun a k z => f0.2.1 a k z
  exact TR.gen h f0 (fun a k z => ⟨XF.a243 z.1 (by omega), by omega, by omega, by omega, by omega, by omega, by omega, by omega⟩) X (fun k z => (hi _ _ (by omega)).trans (h.s k z)) h.q ((hi _ _ (by omega)).trans h.n) (Nat.le_refl _) rfl ((hi _ _ (by omega)).trans h.e1) ((hi _ _ (by omega)).trans h.e2) ((hi _ _ (by omega)).trans h.e3) rfl rfl rfl rfl rfl rfl rfl rfl
theorem KR.c0 (m : am_M) (N : Nat) (c : Int32) : Fr (KR N) m (si_ m (N + 243) 0 c) := (Fr.refl _ _).si ⟨by omega, by omega, XF.a243 rfl (by omega)⟩
theorem RI.no (h : TR m N X) (c : Nat) (hc : 0 < c) (v : Int32) {r : Option am_R} (hr : r = some (.inl (some (.int (nI 0))), si_ m (N + 243) 0 (nI c))) : RI m N X c v r := ⟨_, nI 0, KR.c0 m N _, h.c0 _, hr, by rw [gi_si, if_pos ⟨rfl, rfl⟩], fun z => by omega⟩
theorem y342 (h : TR m N X) (hs : X.s = gi_ m (N + 245)) (hq : X.q = gl_ m (N + 249)) (hu5 : X.u ≤ 5) (hG : XG B X) (x : Int32) : RI m N (pasX X x) (bif cps_ X.s x then 0 else 1) (X.s 4 + x) (am_ca sa sv (d + 4) 342 [.ref (N + 243), .int x] m) := by
  have hR := h.RS hs hq
  have q1 := y341 (sa := sa) (sv := sv) (d := d + 1) hR hG.1.C x
  unfold pasX
  cases hb : cps_ X.s x with
  | false =>
    rw [hb, tr_f] at q1
    refine RI.no h 1 (by omega) _ ?_
    have q2 := y225_0 (sa := sa) (sv := sv) (d := d + 1) hR
    rw [c342, b342_0]
    simp (disch := omega) only [gq_true, gb_true, gb_false, true_and, and_true, eq_self, not_false_eq_true, not_true_eq_false, true_or, or_true, false_or, or_false, false_and, and_false, c0_v, ci_v, cl_v, cf_v, pk_mul, nI_add, nI_clamp, nI_lt0, nI_0le, nI_eq0, nI_lt0r, nI_ltE, nI_leE, nI_eqE, nI_m1, in_t, ba0, ba1, Nat.one_ne_zero, Nat.reduceEqDiff, Nat.reduceLeDiff, Nat.add_eq_zero_iff, xk243 h.x, q1, q2]
  | true =>
    rw [hb, tr_t] at q1
    have q2 := y225_1 (sa := sa) (sv := sv) (d := d + 1) hR
    obtain ⟨m1, a1, a2, a3, a4⟩ := tr_chg (sa := sa) (sv := sv) (d := d + 2) h hs hq (nI 0) hu5
    have e4 : gi_ m1 (N + 245) 4 = X.s 4 := congrFun a2.2.1 4
    obtain ⟨m3, b1, b2, b3, b4, b5⟩ := a4 (m2 := si_ m1 (N + 245) 4 (X.s 4 + x)) (P := fun a _ => a = N + 245) ((Fr.refl _ _).si rfl) (fun a k z => Or.inl (Or.inl z)) (fun a k z => by omega) (a2.up 4 _) (by rw [gi_si, if_neg (by omega)]; exact a3)
    have e5 : gi_ m3 (N + 245) 4 = X.s 4 + x := by rw [b5, gi_si, if_pos ⟨rfl, rfl⟩]
    refine ⟨m3, _, b2, b4, ?_, b3, fun _ => rfl⟩
    rw [c342, b342_0]
    simp (disch := omega) only [gq_true, gb_true, gb_false, true_and, and_true, eq_self, not_false_eq_true, not_true_eq_false, true_or, or_true, false_or, or_false, false_and, and_false, c0_v, ci_v, cl_v, cf_v, pk_mul, nI_add, nI_clamp, nI_lt0, nI_0le, nI_eq0, nI_lt0r, nI_ltE, nI_leE, nI_eqE, nI_m1, in_t, ba0, ba1, Nat.one_ne_zero, Nat.reduceEqDiff, Nat.reduceLeDiff, Nat.add_eq_zero_iff, xk243 h.x, q1, q2, gk_siF]
    rw [a1, c0_v]
    simp (disch := omega) only [gq_true, gb_true, gb_false, true_and, and_true, eq_self, not_false_eq_true, not_true_eq_false, true_or, or_true, false_or, or_false, false_and, and_false, c0_v, ci_v, cl_v, cf_v, pk_mul, nI_add, nI_clamp, nI_lt0, nI_0le, nI_eq0, nI_lt0r, nI_ltE, nI_leE, nI_eqE, nI_m1, in_t, ba0, ba1, Nat.one_ne_zero, Nat.reduceEqDiff, Nat.reduceLeDiff, Nat.add_eq_zero_iff, xk243 a2.1, xr243_15 a2.1, xk245 a2.1, eq_false (show ¬ N + 245 = 0 by omega), e4]
    rw [b1, c0_v]
    simp (disch := omega) only [gq_true, gb_true, gb_false, true_and, and_true, eq_self, not_false_eq_true, not_true_eq_false, true_or, or_true, false_or, or_false, false_and, and_false, c0_v, ci_v, cl_v, cf_v, pk_mul, nI_add, nI_clamp, nI_lt0, nI_0le, nI_eq0, nI_lt0r, nI_ltE, nI_leE, nI_eqE, nI_m1, in_t, ba0, ba1, Nat.one_ne_zero, Nat.reduceEqDiff, Nat.reduceLeDiff, Nat.add_eq_zero_iff, xk243 b4.x, xr243_15 b4.x, xk245 b4.x, eq_false (show ¬ N + 245 = 0 by omega), e5]
theorem y340 (h : TR m N X) (hs : X.s = gi_ m (N + 245)) (hq : X.q = gl_ m (N + 249)) (hu5 : X.u ≤ 5) (hG : XG B X) (w a : Int32) : RI m N (incX X w a) (cd2_ (inR w (cN X.s 1)) (amt_ a)) (nI (dL_ X.s w.toNatClampNeg a.toNatClampNeg).length) (am_ca sa sv (d + 7) 340 [.ref (N + 243), .int w, .int a] m) := by
  have hR := h.RS hs hq
  have hC := hG.1.C
  obtain ⟨e1, b1⟩ := (wc_nw hC).c (by decide)
  have q1 := y286 (sa := sa) (sv := sv) (d := d + 4) hR hC w
  have q2 := y331 (sa := sa) (sv := sv) (d := d + 4) (m := m) a
  have q3 := y226 (sa := sa) (sv := sv) (d := d + 5) hR (inR w (cN X.s 1)) (amt_ a)
  unfold incX
  cases h1 : inR w (cN X.s 1) with
  | false =>
    rw [h1] at q3
    rw [h1, tr_f] at q1
    have q3' : am_ca sa sv (d + 6) 226 [.ref (N + 243), .int (nI 0), .int (tr_ (amt_ a))] m = some (.inl (some (.int (nI 0))), si_ m (N + 243) 0 (nI 1)) := q3
    refine RI.no h 1 (by omega) _ ?_
    rw [c340, b340_0]
    simp (disch := omega) only [gq_true, gb_true, gb_false, true_and, and_true, eq_self, not_false_eq_true, not_true_eq_false, true_or, or_true, false_or, or_false, false_and, and_false, c0_v, ci_v, cl_v, cf_v, pk_mul, nI_add, nI_clamp, nI_lt0, nI_0le, nI_eq0, nI_lt0r, nI_ltE, nI_leE, nI_eqE, nI_m1, in_t, ba0, ba1, Nat.one_ne_zero, Nat.reduceEqDiff, Nat.reduceLeDiff, Nat.add_eq_zero_iff, xk243 h.x, q1, q2, q3']
  | true =>
    obtain ⟨w, hw, rfl⟩ := (inR_t (by omega)).mp h1
    cases h2 : amt_ a with
    | false =>
      rw [h2] at q3
      rw [h1] at q3
      rw [h2, tr_f] at q2
      rw [h1, tr_t] at q1
      have q3' : am_ca sa sv (d + 6) 226 [.ref (N + 243), .int (nI 1), .int (nI 0)] m = some (.inl (some (.int (nI 0))), si_ m (N + 243) 0 (nI 2)) := q3
      refine RI.no h 2 (by omega) _ ?_
      rw [c340, b340_0]
      simp (disch := omega) only [gq_true, gb_true, gb_false, true_and, and_true, eq_self, not_false_eq_true, not_true_eq_false, true_or, or_true, false_or, or_false, false_and, and_false, c0_v, ci_v, cl_v, cf_v, pk_mul, nI_add, nI_clamp, nI_lt0, nI_0le, nI_eq0, nI_lt0r, nI_ltE, nI_leE, nI_eqE, nI_m1, in_t, ba0, ba1, Nat.one_ne_zero, Nat.reduceEqDiff, Nat.reduceLeDiff, Nat.add_eq_zero_iff, xk243 h.x, q1, q2, q3']
    | true =>
      obtain ⟨a, ha1, ha, rfl⟩ := amt_t.mp h2
      rw [h2] at q3
      rw [h1] at q3
      rw [h2, tr_t] at q2
      rw [h1, tr_t] at q1
      have q3' : am_ca sa sv (d + 6) 226 [.ref (N + 243), .int (nI 1), .int (nI 1)] m = some (.inl (some (.int (nI 1))), si_ m (N + 243) 0 (nI 0)) := q3
      obtain ⟨m1, a1, a2, a3, a4⟩ := tr_chg (sa := sa) (sv := sv) (d := d + 5) h hs hq (nI 0) hu5
      obtain ⟨m2, k1, k2, k3, k4⟩ := y339 (sa := sa) (sv := sv) (d := d) a2 hG.1.1 w a hw ha
      obtain ⟨m3, b1, b2, b3, b4, b5⟩ := a4 k2 (fun a k z => by unfold RXB RX RB at z; unfold PT; omega) (fun a k z => by unfold RXB RX RB at z; omega) k3 (k4.trans a3)
      rw [nI_clamp (by omega), nI_clamp (by omega)]
      refine ⟨m3, _, b2, b4, ?_, b3, fun _ => rfl⟩
      rw [c340, b340_0]
      simp (disch := omega) only [gq_true, gb_true, gb_false, true_and, and_true, eq_self, not_false_eq_true, not_true_eq_false, true_or, or_true, false_or, or_false, false_and, and_false, c0_v, ci_v, cl_v, cf_v, pk_mul, nI_add, nI_clamp, nI_lt0, nI_0le, nI_eq0, nI_lt0r, nI_ltE, nI_leE, nI_eqE, nI_m1, in_t, ba0, ba1, Nat.one_ne_zero, Nat.reduceEqDiff, Nat.reduceLeDiff, Nat.add_eq_zero_iff, xk243 h.x, q1, q2, q3', gk_siF]
      rw [a1, c0_v]
      simp (disch := omega) only [gq_true, gb_true, gb_false, true_and, and_true, eq_self, not_false_eq_true, not_true_eq_false, true_or, or_true, false_or, or_false, false_and, and_false, c0_v, ci_v, cl_v, cf_v, pk_mul, nI_add, nI_clamp, nI_lt0, nI_0le, nI_eq0, nI_lt0r, nI_ltE, nI_leE, nI_eqE, nI_m1, in_t, ba0, ba1, Nat.one_ne_zero, Nat.reduceEqDiff, Nat.reduceLeDiff, Nat.add_eq_zero_iff, xk243 a2.1]
      rw [k1, ci_v]
      simp (disch := omega) only [gq_true, gb_true, gb_false, true_and, and_true, eq_self, not_false_eq_true, not_true_eq_false, true_or, or_true, false_or, or_false, false_and, and_false, c0_v, ci_v, cl_v, cf_v, pk_mul, nI_add, nI_clamp, nI_lt0, nI_0le, nI_eq0, nI_lt0r, nI_ltE, nI_leE, nI_eqE, nI_m1, in_t, ba0, ba1, Nat.one_ne_zero, Nat.reduceEqDiff, Nat.reduceLeDiff, Nat.add_eq_zero_iff, xk243 k3.1]
      rw [b1, c0_v]
theorem y344 (h : TR m N X) (hs : X.s = gi_ m (N + 245)) (hq : X.q = gl_ m (N + 249)) (hu5 : X.u ≤ 5) (hG : XG B X) (a x : Int32) : RI m N (revX X a x) (cd2_ (inR a (cN X.s 2)) (crv_ X.s a.toNatClampNeg x)) (X.s (594 + 6 * a.toNatClampNeg + 5)) (am_ca sa sv (d + 4) 344 [.ref (N + 243), .int a, .int x] m) := by
  have hR := h.RS hs hq
  have hC := hG.1.C
  obtain ⟨e2, b2⟩ := (wc_na hC).c (by decide)
  have q1 := y287 (sa := sa) (sv := sv) (d := d + 1) hR hC a
  unfold revX
  cases h1 : inR a (cN X.s 2) with
  | false =>
    rw [h1, tr_f] at q1
    have q3 := y226_00 (sa := sa) (sv := sv) (d := d + 2) hR
    refine RI.no h 1 (by omega) _ ?_
    rw [c344, b344_0]
    simp (disch := omega) only [gq_true, gb_true, gb_false, true_and, and_true, eq_self, not_false_eq_true, not_true_eq_false, true_or, or_true, false_or, or_false, false_and, and_false, c0_v, ci_v, cl_v, cf_v, pk_mul, nI_add, nI_clamp, nI_lt0, nI_0le, nI_eq0, nI_lt0r, nI_ltE, nI_leE, nI_eqE, nI_m1, in_t, ba0, ba1, Nat.one_ne_zero, Nat.reduceEqDiff, Nat.reduceLeDiff, Nat.add_eq_zero_iff, xk243 h.x, q1]
    rw [b344_26]
    simp (disch := omega) only [gq_true, gb_true, gb_false, true_and, and_true, eq_self, not_false_eq_true, not_true_eq_false, true_or, or_true, false_or, or_false, false_and, and_false, c0_v, ci_v, cl_v, cf_v, pk_mul, nI_add, nI_clamp, nI_lt0, nI_0le, nI_eq0, nI_lt0r, nI_ltE, nI_leE, nI_eqE, nI_m1, in_t, ba0, ba1, Nat.one_ne_zero, Nat.reduceEqDiff, Nat.reduceLeDiff, Nat.add_eq_zero_iff, xk243 h.x, q3]
  | true =>
    obtain ⟨a, ha, rfl⟩ := (inR_t (by omega)).mp h1
    rw [h1, tr_t] at q1
    rw [nI_clamp (by omega)]
    have q2 := y343 (sa := sa) (sv := sv) (d := d + 1) hR a (by omega) x
    cases h2 : crv_ X.s a x with
    | false =>
      rw [h2, tr_f] at q2
      have q3 := y226_10 (sa := sa) (sv := sv) (d := d + 2) hR
      refine RI.no h 2 (by omega) _ ?_
      rw [c344, b344_0]
      simp (disch := omega) only [gq_true, gb_true, gb_false, true_and, and_true, eq_self, not_false_eq_true, not_true_eq_false, true_or, or_true, false_or, or_false, false_and, and_false, c0_v, ci_v, cl_v, cf_v, pk_mul, nI_add, nI_clamp, nI_lt0, nI_0le, nI_eq0, nI_lt0r, nI_ltE, nI_leE, nI_eqE, nI_m1, in_t, ba0, ba1, Nat.one_ne_zero, Nat.reduceEqDiff, Nat.reduceLeDiff, Nat.add_eq_zero_iff, xk243 h.x, q1, q2]
      rw [b344_26]
      simp (disch := omega) only [gq_true, gb_true, gb_false, true_and, and_true, eq_self, not_false_eq_true, not_true_eq_false, true_or, or_true, false_or, or_false, false_and, and_false, c0_v, ci_v, cl_v, cf_v, pk_mul, nI_add, nI_clamp, nI_lt0, nI_0le, nI_eq0, nI_lt0r, nI_ltE, nI_leE, nI_eqE, nI_m1, in_t, ba0, ba1, Nat.one_ne_zero, Nat.reduceEqDiff, Nat.reduceLeDiff, Nat.add_eq_zero_iff, xk243 h.x, q3]
    | true =>
      rw [h2, tr_t] at q2
      have q3 := y226_11 (sa := sa) (sv := sv) (d := d + 2) hR
      obtain ⟨m1, a1, a2, a3, a4⟩ := tr_chg (sa := sa) (sv := sv) (d := d + 2) h hs hq (nI 0) hu5
      have q5 := y257 (sa := sa) (sv := sv) (d := d + 2) a2 a 5 (by omega)
      obtain ⟨m3, b1, b2, b3, b4, b5⟩ := a4 (m2 := si_ m1 (N + 245) (594 + 6 * a + 5) x) (P := fun a _ => a = N + 245) ((Fr.refl _ _).si rfl) (fun a k z => Or.inl (Or.inl z)) (fun a k z => by omega) (a2.up _ _) (by rw [gi_si, if_neg (by omega)]; exact a3)
      refine ⟨m3, _, b2, b4, ?_, b3, fun _ => rfl⟩
      rw [c344, b344_0]
      simp (disch := omega) only [gq_true, gb_true, gb_false, true_and, and_true, eq_self, not_false_eq_true, not_true_eq_false, true_or, or_true, false_or, or_false, false_and, and_false, c0_v, ci_v, cl_v, cf_v, pk_mul, nI_add, nI_clamp, nI_lt0, nI_0le, nI_eq0, nI_lt0r, nI_ltE, nI_leE, nI_eqE, nI_m1, in_t, ba0, ba1, Nat.one_ne_zero, Nat.reduceEqDiff, Nat.reduceLeDiff, Nat.add_eq_zero_iff, xk243 h.x, q1, q2]
      rw [b344_26]
      simp (disch := omega) only [gq_true, gb_true, gb_false, true_and, and_true, eq_self, not_false_eq_true, not_true_eq_false, true_or, or_true, false_or, or_false, false_and, and_false, c0_v, ci_v, cl_v, cf_v, pk_mul, nI_add, nI_clamp, nI_lt0, nI_0le, nI_eq0, nI_lt0r, nI_ltE, nI_leE, nI_eqE, nI_m1, in_t, ba0, ba1, Nat.one_ne_zero, Nat.reduceEqDiff, Nat.reduceLeDiff, Nat.add_eq_zero_iff, xk243 h.x, q3, gk_siF]
      rw [a1, c0_v]
      simp (disch := omega) only [gq_true, gb_true, gb_false, true_and, and_true, eq_self, not_false_eq_true, not_true_eq_false, true_or, or_true, false_or, or_false, false_and, and_false, c0_v, ci_v, cl_v, cf_v, pk_mul, nI_add, nI_clamp, nI_lt0, nI_0le, nI_eq0, nI_lt0r, nI_ltE, nI_leE, nI_eqE, nI_m1, in_t, ba0, ba1, Nat.one_ne_zero, Nat.reduceEqDiff, Nat.reduceLeDiff, Nat.add_eq_zero_iff, xk243 a2.1, q5, xr243_15 a2.1, xk245 a2.1, eq_false (show ¬ N + 245 = 0 by omega)]
      rw [b1, c0_v]
theorem y345 (h : TR m N X) (hs : X.s = gi_ m (N + 245)) (hq : X.q = gl_ m (N + 249)) (hu5 : X.u ≤ 5) (hG : XG B X) (p x : Int32) : RI m N (leaX X p x) (cd2_ (inR p (cN X.s 0)) (inR x 100000)) (X.s (8 + p.toNatClampNeg)) (am_ca sa sv (d + 4) 345 [.ref (N + 243), .int p, .int x] m) := by
  have hR := h.RS hs hq
  have hC := hG.1.C
  obtain ⟨e0, b0⟩ := (wc_np hC).c (by decide)
  have q1 := y285 (sa := sa) (sv := sv) (d := d + 1) hR hC p
  have hx : decide ((0 : Int64) ≤ x.toInt64 ∧ x.toInt64 ≤ (99999 : Int64)) = inR x 100000 := by
    unfold inR
    refine decide_eq_decide.mpr ?_
    rw [show (0 : Int64) = (0 : Int32).toInt64 from rfl, show (99999 : Int64) = (99999 : Int32).toInt64 from rfl, l_le, l_le, show (0 : Int32).toInt = 0 from rfl, show (99999 : Int32).toInt = 99999 from rfl]
    omega
  have q2 := y222 (sa := sa) (sv := sv) (d := d + 2) (m := m) x.toInt64 0 99999
  rw [hx] at q2
  have q3 := y226 (sa := sa) (sv := sv) (d := d + 2) hR (inR p (cN X.s 0)) (inR x 100000)
  unfold leaX
  cases h1 : inR p (cN X.s 0) with
  | false =>
    rw [h1] at q3
    rw [h1, tr_f] at q1
    have q3' : am_ca sa sv (d + 3) 226 [.ref (N + 243), .int (nI 0), .int (tr_ (inR x 100000))] m = some (.inl (some (.int (nI 0))), si_ m (N + 243) 0 (nI 1)) := q3
    refine RI.no h 1 (by omega) _ ?_
    rw [c345, b345_0]
    simp (disch := omega) only [gq_true, gb_true, gb_false, true_and, and_true, eq_self, not_false_eq_true, not_true_eq_false, true_or, or_true, false_or, or_false, false_and, and_false, c0_v, ci_v, cl_v, cf_v, pk_mul, nI_add, nI_clamp, nI_lt0, nI_0le, nI_eq0, nI_lt0r, nI_ltE, nI_leE, nI_eqE, nI_m1, in_t, ba0, ba1, Nat.one_ne_zero, Nat.reduceEqDiff, Nat.reduceLeDiff, Nat.add_eq_zero_iff, xk243 h.x, q1, q2, q3']
  | true =>
    obtain ⟨p, hp, rfl⟩ := (inR_t (by omega)).mp h1
    rw [nI_clamp (by omega)]
    cases h2 : inR x 100000 with
    | false =>
      rw [h2] at q3
      rw [h1] at q3
      rw [h2, tr_f] at q2
      rw [h1, tr_t] at q1
      have q3' : am_ca sa sv (d + 3) 226 [.ref (N + 243), .int (nI 1), .int (nI 0)] m = some (.inl (some (.int (nI 0))), si_ m (N + 243) 0 (nI 2)) := q3
      refine RI.no h 2 (by omega) _ ?_
      rw [c345, b345_0]
      simp (disch := omega) only [gq_true, gb_true, gb_false, true_and, and_true, eq_self, not_false_eq_true, not_true_eq_false, true_or, or_true, false_or, or_false, false_and, and_false, c0_v, ci_v, cl_v, cf_v, pk_mul, nI_add, nI_clamp, nI_lt0, nI_0le, nI_eq0, nI_lt0r, nI_ltE, nI_leE, nI_eqE, nI_m1, in_t, ba0, ba1, Nat.one_ne_zero, Nat.reduceEqDiff, Nat.reduceLeDiff, Nat.add_eq_zero_iff, xk243 h.x, q1, q2, q3']
    | true =>
      rw [h2] at q3
      rw [h1] at q3
      rw [h2, tr_t] at q2
      rw [h1, tr_t] at q1
      have q3' : am_ca sa sv (d + 3) 226 [.ref (N + 243), .int (nI 1), .int (nI 1)] m = some (.inl (some (.int (nI 1))), si_ m (N + 243) 0 (nI 0)) := q3
      obtain ⟨m1, a1, a2, a3, a4⟩ := tr_chg (sa := sa) (sv := sv) (d := d + 2) h hs hq (nI 0) hu5
      have e8 : gi_ m1 (N + 245) (8 + p) = X.s (8 + p) := congrFun a2.2.1 _
      obtain ⟨m3, b1, b2, b3, b4, b5⟩ := a4 (m2 := si_ m1 (N + 245) (8 + p) x) (P := fun a _ => a = N + 245) ((Fr.refl _ _).si rfl) (fun a k z => Or.inl (Or.inl z)) (fun a k z => by omega) (a2.up _ _) (by rw [gi_si, if_neg (by omega)]; exact a3)
      refine ⟨m3, _, b2, b4, ?_, b3, fun _ => rfl⟩
      rw [c345, b345_0]
      simp (disch := omega) only [gq_true, gb_true, gb_false, true_and, and_true, eq_self, not_false_eq_true, not_true_eq_false, true_or, or_true, false_or, or_false, false_and, and_false, c0_v, ci_v, cl_v, cf_v, pk_mul, nI_add, nI_clamp, nI_lt0, nI_0le, nI_eq0, nI_lt0r, nI_ltE, nI_leE, nI_eqE, nI_m1, in_t, ba0, ba1, Nat.one_ne_zero, Nat.reduceEqDiff, Nat.reduceLeDiff, Nat.add_eq_zero_iff, xk243 h.x, q1, q2, q3', gk_siF]
      rw [a1, c0_v]
      simp (disch := omega) only [gq_true, gb_true, gb_false, true_and, and_true, eq_self, not_false_eq_true, not_true_eq_false, true_or, or_true, false_or, or_false, false_and, and_false, c0_v, ci_v, cl_v, cf_v, pk_mul, nI_add, nI_clamp, nI_lt0, nI_0le, nI_eq0, nI_lt0r, nI_ltE, nI_leE, nI_eqE, nI_m1, in_t, ba0, ba1, Nat.one_ne_zero, Nat.reduceEqDiff, Nat.reduceLeDiff, Nat.add_eq_zero_iff, xk243 a2.1, xr243_15 a2.1, xk245 a2.1, eq_false (show ¬ N + 245 = 0 by omega), e8]
      rw [b1, c0_v]
theorem y347 (h : TR m N X) (hs : X.s = gi_ m (N + 245)) (hq : X.q = gl_ m (N + 249)) (hu5 : X.u ≤ 5) (hG : XG B X) (hB : B < 2 ^ 29) : RJ m N (cloX X) 0 (spd_ X.s X.q 10) (am_ca sa sv (d + 3) 347 [.ref (N + 243)] m) := by
  obtain ⟨m1, a1, a2, a3, a4⟩ := tr_chg (sa := sa) (sv := sv) (d := d + 1) h hs hq (nI 0) hu5
  obtain ⟨m2, k1, k2, k3⟩ := y346 (sa := sa) (sv := sv) (d := d) a2 hG.1.1 hB
  obtain ⟨m3, b1, b2, b3, b4, b5⟩ := a4 k2 (fun a k z => by unfold RB at z; unfold PT; omega) (fun a k z => by unfold RB at z; omega) k3 ((k2.2.1 _ _ (by unfold RB; omega)).trans a3)
  refine ⟨m3, _, b2, b4, ?_, b3, fun _ => rfl⟩
  rw [c347, b347_0]
  simp (disch := omega) only [gq_true, gb_true, gb_false, true_and, and_true, eq_self, not_false_eq_true, not_true_eq_false, true_or, or_true, false_or, or_false, false_and, and_false, c0_v, ci_v, cl_v, cf_v, pk_mul, nI_add, nI_clamp, nI_lt0, nI_0le, nI_eq0, nI_lt0r, nI_ltE, nI_leE, nI_eqE, nI_m1, in_t, ba0, ba1, Nat.one_ne_zero, Nat.reduceEqDiff, Nat.reduceLeDiff, Nat.add_eq_zero_iff, xk243 h.x, gk_siF]
  rw [a1, c0_v]
  simp (disch := omega) only [gq_true, gb_true, gb_false, true_and, and_true, eq_self, not_false_eq_true, not_true_eq_false, true_or, or_true, false_or, or_false, false_and, and_false, c0_v, ci_v, cl_v, cf_v, pk_mul, nI_add, nI_clamp, nI_lt0, nI_0le, nI_eq0, nI_lt0r, nI_ltE, nI_leE, nI_eqE, nI_m1, in_t, ba0, ba1, Nat.one_ne_zero, Nat.reduceEqDiff, Nat.reduceLeDiff, Nat.add_eq_zero_iff, xk243 a2.1]
  rw [k1, cl_v]
  simp (disch := omega) only [gq_true, gb_true, gb_false, true_and, and_true, eq_self, not_false_eq_true, not_true_eq_false, true_or, or_true, false_or, or_false, false_and, and_false, c0_v, ci_v, cl_v, cf_v, pk_mul, nI_add, nI_clamp, nI_lt0, nI_0le, nI_eq0, nI_lt0r, nI_ltE, nI_leE, nI_eqE, nI_m1, in_t, ba0, ba1, Nat.one_ne_zero, Nat.reduceEqDiff, Nat.reduceLeDiff, Nat.add_eq_zero_iff, xk243 k3.1]
  rw [b1, c0_v]
end R89
