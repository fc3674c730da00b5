/-! a text is read, a text amends (reference), whole -/
section R89
variable {sa sv d N n B : Nat} {X : TX} {m m' : am_M}
/-- the text is begun, what is lies aside -/
theorem y243_9 (h : TR m N X) (hn : X.n ≤ 900) (hb : ∀ k, k < X.n → X.b k < 256) : ∃ m1 m2, am_ca sa sv (d + 8) 243 [.ref (N + 243)] m = some (.inl none, m1) ∧ XS m1 N ∧ am_ca sa sv (d + 8) 249 [.ref (N + 243)] m1 = some (.inl none, m2) ∧ Fr (fun a k => a = N + 248 ∨ a = N + 252 ∨ (a = N + 243 ∧ ((2 ≤ k ∧ k ≤ 10) ∨ k = 14))) m m2 ∧ RQ m2 N X.b X.n (.inr 0) ∧ gi_ m2 (N + 243) 2 = nI 0 ∧ (∀ k, k < 1023 → gi_ m2 (N + 248) k = X.s k) ∧ (∀ k, k < 484 → gl_ m2 (N + 252) k = X.q k) := by
  obtain ⟨m1, a1, a2, a3, a4⟩ := y243 (sa := sa) (sv := sv) (d := d + 5) h hn hb
  obtain ⟨m2, b1, b2, b3, b4⟩ := y249 (sa := sa) (sv := sv) (d := d + 7) a3.1
  refine ⟨m1, m2, a1, a3.1, b1, (a2.mono fun a k z => Or.inr (Or.inr z)).trans (b2.mono fun a k z => by omega), a3.pf b2 (fun a k z => by omega), (b2.2.1 _ _ (by omega)).trans a4, fun k hk => ?_, fun k hk => ?_⟩
  · exact (b3 k hk).trans ((a2.2.1 _ _ (by omega)).trans (h.s k hk))
  · exact (b4 k hk).trans ((a2.2.2.1 _ _ (by omega)).trans (h.q k hk))
theorem y283 (h : TR m N X) (hn : X.n ≤ 900) (hb : ∀ k, k < X.n → X.b k < 256) : ∃ s0 q0, (∀ k, k < 1023 → s0 k = 0) ∧ (∀ k, k < 484 → q0 k = 0) ∧ match sLp X.b X.n 900 0 0 s0 q0 with
    | .inl e => ∃ m', am_ca sa sv (d + 9) 283 [.ref (N + 243)] m = some (.inl (some (.int (nI 0))), m') ∧ Fr (KR N) m m' ∧ gi_ m' (N + 243) 0 = nI 1 ∧ TR m' N ((X.wB X.b 0).wE (nI e.1) (nI e.2.1) (nI e.2.2))
    | .inr x => Kd X.b X.n x.1 = 0 → ∃ m', am_ca sa sv (d + 9) 283 [.ref (N + 243)] m = some (.inl (some (.int (x.2.2.1 1))), m') ∧ Fr (KR N) m m' ∧ gi_ m' (N + 243) 0 = nI 0 ∧ TR m' N (((X157 X).wS x.2.2.1 x.2.2.2).wH 0 X.ps X.pq) := by
  obtain ⟨m1, m2, a1, a2, a3, a4, a5, a6, a7, a8⟩ := y243_9 (sa := sa) (sv := sv) (d := d) h hn hb
  obtain ⟨m3, b1, b2, b3, b4⟩ := y248 (sa := sa) (sv := sv) (d := d + 7) a5.1
  have hQ3 : RQ m3 N X.b X.n (.inr 0) := a5.pf b2 (fun a k z => by unfold RB at z; omega)
  have hR3 : RS m3 N (gi_ m3 (N + 245)) (gl_ m3 (N + 249)) := ⟨hQ3.1, rfl, rfl⟩
  have hs0 : ∀ k, k < 1023 → gi_ m3 (N + 245) k = 0 := fun k hk => by rw [b3 k, if_pos hk]
  have hq0 : ∀ k, k < 484 → gl_ m3 (N + 249) k = 0 := fun k hk => by rw [b4 k, if_pos hk]
  have c := y282 (sa := sa) (sv := sv) (d := d) hQ3 hR3 (WG_0.cg hs0 hq0)
  have f3 : Fr (PT N) m m3 := (a4.mono fun a k z => by unfold PT; omega).trans (b2.mono fun a k z => by unfold RB at z; unfold PT; omega)
  have k3 : gk_ m3 = gk_ m := f3.1.1
  have keep : ∀ {m4 : am_M}, Fr (RWr N) m3 m4 → (∀ k, k < 1023 → gi_ m4 (N + 248) k = X.s k) ∧ (∀ k, k < 484 → gl_ m4 (N + 252) k = X.q k) ∧ gi_ m4 (N + 243) 2 = nI 0 := fun {m4} hf => ⟨fun k hk => (hf.2.1 _ _ (fun z => z.r.1 rfl)).trans ((b2.2.1 _ _ (by unfold RB; omega)).trans (a7 k hk)), fun k hk => (hf.2.2.1 _ _ (fun z => z.r.2 rfl)).trans ((b2.2.2.1 _ _ (by unfold RB; omega)).trans (a8 k hk)), (hf.2.1 _ _ (by unfold RWr RSh RH; omega)).trans ((b2.2.1 _ _ (by unfold RB; omega)).trans a6)⟩
  have run : ∀ (m4 : am_M) v r, am_ca sa sv (d + 8) 282 [.ref (N + 243)] m3 = some (.inl (some (.int (v))), m4) → XS m4 N → am_ci (am_ca sa sv (d + 8) 244 [.ref (N + 243)] (si_ m4 (N + 243) 42 v)) (fun v7 m6 => gb_ (v7 = 0) (gq_ (gk_ m6 (N + 243) = (1, 11)) (am_c0 (am_ca sa sv (d + 8) 250 [.ref (N + 243)] m6) (fun m8 => some (.inl (some (.int (nI 0))), m8)) am_xg)) (gq_ (gk_ m6 (N + 243) = (1, 11)) (gq_ (gk_ m6 (N + 243) = (1, 11) ∧ ¬ gr_ m6 (N + 243) 15 = 0) (gq_ (((gk_ m6 (gr_ m6 (N + 243) 15)).1 = 2 ∨ (gk_ m6 (gr_ m6 (N + 243) 15)).1 = 7) ∧ in_ (nI 1) (gk_ m6 (gr_ m6 (N + 243) 15)).2) (some (.inl (some (.int (gi_ (si_ m6 (N + 243) 23 (nI 0)) (gr_ m6 (N + 243) 15) ((nI 1)).toNatClampNeg))), si_ m6 (N + 243) 23 (nI 0))))))) am_xg = r → am_ca sa sv (d + 9) 283 [.ref (N + 243)] m = r := fun m4 v r g hX4 hr => by
    rw [c283, b283_0]
    simp (disch := omega) only [gq_true, gb_true, gb_false, true_and, and_true, eq_self, not_false_eq_true, not_true_eq_false, true_or, or_true, false_or, or_false, false_and, and_false, c0_v, ci_v, cl_v, cf_v, pk_mul, nI_add, nI_clamp, nI_lt0, nI_0le, nI_eq0, nI_lt0r, nI_ltE, nI_leE, nI_eqE, nI_m1, in_t, ba0, ba1, Nat.one_ne_zero, Nat.reduceEqDiff, Nat.reduceLeDiff, Nat.add_eq_zero_iff, xk243 h.x, a1, xk243 a2, a3, xk243 a5.1, b1, xk243 hQ3.1, g, xk243 hX4]
    exact hr
  refine ⟨gi_ m3 (N + 245), gl_ m3 (N + 249), hs0, hq0, ?_⟩
  cases z : sLp X.b X.n 900 0 0 (gi_ m3 (N + 245)) (gl_ m3 (N + 249)) with
  | inl e =>
    rw [z] at c
    obtain ⟨m4, v, c1, c2, c3⟩ := c
    obtain ⟨p1, p2, p3⟩ := keep c2
    have f5 : Fr (fun a k => a = N + 243 ∧ k = 42) m4 (si_ m4 (N + 243) 42 v) := (Fr.refl _ _).si ⟨rfl, rfl⟩
    obtain ⟨m6, m7, d1, d2, d3, d4, d5, d6⟩ := y244_e (sa := sa) (sv := sv) (d := d) (m5 := si_ m4 (N + 243) 42 v) h ((f3.trans (c2.mono fun a k z => z.pt)).trans (f5.mono fun a k z => by unfold PT; omega)) (c3.pf f5 (fun a k z => Or.inr z)) ((f5.2.1 _ _ (by omega)).trans p3) (fun k hk => (f5.2.1 _ _ (by omega)).trans (p1 k hk)) (fun k hk => (f5.2.2.1 _ _ (by omega)).trans (p2 k hk))
    refine ⟨m7, run m4 v _ c1 c3.1 ?_, d4, d5, d6⟩
    rw [d1, ci_v]
    simp (disch := omega) only [gq_true, gb_true, gb_false, true_and, and_true, eq_self, not_false_eq_true, not_true_eq_false, true_or, or_true, false_or, or_false, false_and, and_false, c0_v, ci_v, cl_v, cf_v, pk_mul, nI_add, nI_clamp, nI_lt0, nI_0le, nI_eq0, nI_lt0r, nI_ltE, nI_leE, nI_eqE, nI_m1, in_t, ba0, ba1, Nat.one_ne_zero, Nat.reduceEqDiff, Nat.reduceLeDiff, Nat.add_eq_zero_iff, xk243 d2, d3]
  | inr x =>
    rw [z] at c
    intro hk
    obtain ⟨m4, c1, c2, c3, c4⟩ := c hk
    obtain ⟨p1, p2, p3⟩ := keep c2
    have f5 : Fr (fun a k => a = N + 243 ∧ k = 42) m4 (si_ m4 (N + 243) 42 (nI x.2.1)) := (Fr.refl _ _).si ⟨rfl, rfl⟩
    have hR5 : RS (si_ m4 (N + 243) 42 (nI x.2.1)) N x.2.2.1 x.2.2.2 := c4.c 42 (nI x.2.1)
    obtain ⟨m6, d1, d2, d3, d4, d5, d6⟩ := y244_g (sa := sa) (sv := sv) (d := d) (m5 := si_ m4 (N + 243) 42 (nI x.2.1)) h ((f3.trans (c2.mono fun a k z => z.pt)).trans (f5.mono fun a k z => by unfold PT; omega)) (c3.pf f5 (fun a k z => Or.inr z)) ((f5.2.1 _ _ (by omega)).trans p3) hR5
    have f7 : Fr (fun a k => a = N + 243 ∧ k = 23) m6 (si_ m6 (N + 243) 23 (nI 0)) := (Fr.refl _ _).si ⟨rfl, rfl⟩
    have e7 : gi_ (si_ m6 (N + 243) 23 (nI 0)) (N + 245) 1 = x.2.2.1 1 := (f7.2.1 _ _ (by omega)).trans d6
    refine ⟨_, run m4 _ _ c1 c3.1 ?_, (d2.mono fun a k z => z.k).trans (f7.mono fun a k z => ⟨by omega, by omega, XF.a243 z.1 (by omega)⟩), (f7.2.1 _ _ (by omega)).trans d3, d4.fresh⟩
    rw [d1, ci_v]
    simp (disch := omega) only [gq_true, gb_true, gb_false, true_and, and_true, eq_self, not_false_eq_true, not_true_eq_false, true_or, or_true, false_or, or_false, false_and, and_false, c0_v, ci_v, cl_v, cf_v, pk_mul, nI_add, nI_clamp, nI_lt0, nI_0le, nI_eq0, nI_lt0r, nI_ltE, nI_leE, nI_eqE, nI_m1, in_t, ba0, ba1, Nat.one_ne_zero, Nat.reduceEqDiff, Nat.reduceLeDiff, Nat.add_eq_zero_iff, xk243 d4.x, xr243_15 d4.x, xk245 d4.x, eq_false (show ¬ N + 245 = 0 by omega), e7]
theorem y284 (h : TR m N X) (hs : X.s = gi_ m (N + 245)) (hq : X.q = gl_ m (N + 249)) (hn : X.n ≤ 900) (hb : ∀ k, k < X.n → X.b k < 256) (hu5 : X.u ≤ 5) (hG : WG B X.s X.q) : match sLp X.b X.n 900 0 0 X.s X.q with
    | .inl e => ∃ m', am_ca sa sv (d + 9) 284 [.ref (N + 243)] m = some (.inl (some (.int (nI 0))), m') ∧ Fr (KR N) m m' ∧ gi_ m' (N + 243) 0 = nI 1 ∧ TR m' N ((X.wB X.b 0).wE (nI e.1) (nI e.2.1) (nI e.2.2))
    | .inr x => Kd X.b X.n x.1 = 0 → ∃ m', am_ca sa sv (d + 9) 284 [.ref (N + 243)] m = some (.inl (some (.int (nI x.2.1))), m') ∧ Fr (KR N) m m' ∧ gi_ m' (N + 243) 0 = nI 0 ∧ TR m' N ((X157 X).rem.wS x.2.2.1 x.2.2.2) := by
  obtain ⟨m1, m3, a1, a2, a3, a4, a5, a6, a7, a8⟩ := y243_9 (sa := sa) (sv := sv) (d := d) h hn hb
  have hR3 : RS m3 N X.s X.q := ⟨a5.1, by rw [hs]; exact funext fun k => a4.2.1 _ _ (by omega), by rw [hq]; exact funext fun k => a4.2.2.1 _ _ (by omega)⟩
  have c := y282 (sa := sa) (sv := sv) (d := d) a5 hR3 hG
  have f3 : Fr (PT N) m m3 := a4.mono fun a k z => by unfold PT; omega
  have keep : ∀ {m4 : am_M}, Fr (RWr N) m3 m4 → (∀ k, k < 1023 → gi_ m4 (N + 248) k = X.s k) ∧ (∀ k, k < 484 → gl_ m4 (N + 252) k = X.q k) ∧ gi_ m4 (N + 243) 2 = nI 0 := fun {m4} hf => ⟨fun k hk => (hf.2.1 _ _ (fun z => z.r.1 rfl)).trans (a7 k hk), fun k hk => (hf.2.2.1 _ _ (fun z => z.r.2 rfl)).trans (a8 k hk), (hf.2.1 _ _ (by unfold RWr RSh RH; omega)).trans a6⟩
  have run : ∀ (m4 : am_M) v r, am_ca sa sv (d + 8) 282 [.ref (N + 243)] m3 = some (.inl (some (.int (v))), m4) → XS m4 N → am_ci (am_ca sa sv (d + 8) 244 [.ref (N + 243)] m4) (fun v6 m5 => gb_ (v6 = 0) (gq_ (gk_ m5 (N + 243) = (1, 11)) (am_c0 (am_ca sa sv (d + 8) 250 [.ref (N + 243)] m5) (fun m8 => some (.inl (some (.int (nI 0))), m8)) am_xg)) (gq_ (gk_ m5 (N + 243) = (1, 11)) (am_c0 (am_ca sa sv (d + 8) 251 [.ref (N + 243)] m5) (fun m7 => some (.inl (some (.int v)), m7)) am_xg))) am_xg = r → am_ca sa sv (d + 9) 284 [.ref (N + 243)] m = r := fun m4 v r g hX4 hr => by
    rw [c284, b284_0]
    simp (disch := omega) only [gq_true, gb_true, gb_false, true_and, and_true, eq_self, not_false_eq_true, not_true_eq_false, true_or, or_true, false_or, or_false, false_and, and_false, c0_v, ci_v, cl_v, cf_v, pk_mul, nI_add, nI_clamp, nI_lt0, nI_0le, nI_eq0, nI_lt0r, nI_ltE, nI_leE, nI_eqE, nI_m1, in_t, ba0, ba1, Nat.one_ne_zero, Nat.reduceEqDiff, Nat.reduceLeDiff, Nat.add_eq_zero_iff, xk243 h.x, a1, xk243 a2, a3, xk243 a5.1, g, xk243 hX4]
    exact hr
  cases z : sLp X.b X.n 900 0 0 X.s X.q with
  | inl e =>
    rw [z] at c
    obtain ⟨m4, v, c1, c2, c3⟩ := c
    obtain ⟨p1, p2, p3⟩ := keep c2
    obtain ⟨m6, m7, d1, d2, d3, d4, d5, d6⟩ := y244_e (sa := sa) (sv := sv) (d := d) h (f3.trans (c2.mono fun a k z => z.pt)) c3 p3 p1 p2
    refine ⟨m7, run m4 v _ c1 c3.1 ?_, d4, d5, d6⟩
    rw [d1, ci_v]
    simp (disch := omega) only [gq_true, gb_true, gb_false, true_and, and_true, eq_self, not_false_eq_true, not_true_eq_false, true_or, or_true, false_or, or_false, false_and, and_false, c0_v, ci_v, cl_v, cf_v, pk_mul, nI_add, nI_clamp, nI_lt0, nI_0le, nI_eq0, nI_lt0r, nI_ltE, nI_leE, nI_eqE, nI_m1, in_t, ba0, ba1, Nat.one_ne_zero, Nat.reduceEqDiff, Nat.reduceLeDiff, Nat.add_eq_zero_iff, xk243 d2, d3]
  | inr x =>
    rw [z] at c
    intro hk
    obtain ⟨m4, c1, c2, c3, c4⟩ := c hk
    obtain ⟨p1, p2, p3⟩ := keep c2
    obtain ⟨m6, d1, d2, d3, d4, d5, d6⟩ := y244_g (sa := sa) (sv := sv) (d := d) h (f3.trans (c2.mono fun a k z => z.pt)) c3 p3 c4
    obtain ⟨m7, e1, e2, e3⟩ := TR.keep (sa := sa) (sv := sv) (d := d + 7) (a := X.s) (c := X.q) d4 hu5 (fun k hk => (d5.2.1 _ _ (by omega)).trans (p1 k hk)) (fun k hk => (d5.2.2.1 _ _ (by omega)).trans (p2 k hk))
    refine ⟨m7, run m4 _ _ c1 c3.1 ?_, (d2.mono fun a k z => z.k).trans (e2.mono fun a k z => z.k), (e2.2.1 _ _ (by unfold RK; omega)).trans d3, e3⟩
    rw [d1, ci_v]
    simp (disch := omega) only [gq_true, gb_true, gb_false, true_and, and_true, eq_self, not_false_eq_true, not_true_eq_false, true_or, or_true, false_or, or_false, false_and, and_false, c0_v, ci_v, cl_v, cf_v, pk_mul, nI_add, nI_clamp, nI_lt0, nI_0le, nI_eq0, nI_lt0r, nI_ltE, nI_leE, nI_eqE, nI_m1, in_t, ba0, ba1, Nat.one_ne_zero, Nat.reduceEqDiff, Nat.reduceLeDiff, Nat.add_eq_zero_iff, xk243 d4.x, e1]
end R89
