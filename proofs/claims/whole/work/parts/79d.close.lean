/-! the reference closes a period: the whole -/
section R79
variable {sa sv d N B : Nat} {m : am_M} {s : Nat → Int32} {q : Nat → Int64}
theorem y346_116 (hX : XS m N) (hC : WC s) (h0 : gi_ m (N + 245) 0 = s 0) (h8 : ∀ p, p < 10 → gi_ m (N + 245) (8 + p) = s (8 + p)) : ∀ j i m1 (o4 o5 o6 : Option Value), i + j = 10 → Fr (fun a _ => a = N + 249) m m1 → (∀ k, gl_ m1 (N + 249) k = cQi s q i k) → ∃ m', r346 sa sv (d + 1) 116 [some (.ref (N + 243)), some (.long (spd_ s q i)), none, some (.int (nI i)), o4, o5, o6] [] m1 = some (.inl (some (.long (spd_ s q 10))), m') ∧ Fr (fun a _ => a = N + 249) m m' ∧ ∀ k, gl_ m' (N + 249) k = cQi s q 10 k := by
  obtain ⟨e0, b0⟩ := (wc_np hC).c (by decide)
  intro j
  induction j with
  | zero =>
    intro i m1 o4 o5 o6 hi h1 h2
    obtain rfl : i = 10 := by omega
    refine ⟨m1, ?_, h1, h2⟩
    rw [b346_116, gb_pos (by rw [nI_leE (by omega) (by omega)]; omega)]
  | succ j ih =>
    intro i m1 o4 o5 o6 hi h1 h2
    have hX1 := hX.fr1 h1 (by omega)
    have e1 : gi_ m1 (N + 245) 0 = nI (cN s 0) := (h1.2.1 _ _ (by omega)).trans (h0.trans e0)
    have e8 : gi_ m1 (N + 245) (8 + i) = s (8 + i) := (h1.2.1 _ _ (by omega)).trans (h8 i (by omega))
    have qi : gl_ m1 (N + 249) i = q i := by rw [h2 i]; unfold cQi; rw [if_pos (by omega), if_neg (by omega)]
    have qt : gl_ m1 (N + 249) (10 + 4 * i + 3) = q (10 + 4 * i + 3) := by rw [h2]; unfold cQi; rw [if_neg (by omega), if_pos (by omega), if_neg (by omega)]
    have qc : ∀ w, w < 3 → gl_ m1 (N + 249) (50 + 3 * i + w) = q (50 + 3 * i + w) := fun w hw => by rw [h2]; unfold cQi; rw [if_neg (by omega), if_neg (by omega), if_pos (by omega), if_neg (by omega)]
    have key : ∃ m', r346 sa sv (d + 1) 157 [some (.ref (N + 243)), some (.long (spd_ s q i)), none, some (.int (nI i)), some (.long (pd_ s q i)), none, some (.int (nI 0))] [] m1 = some (.inl (some (.long (spd_ s q 10))), m') ∧ Fr (fun a _ => a = N + 249) m m' ∧ ∀ k, gl_ m' (N + 249) k = cQi s q 10 k := by
      have w1 : ∀ {M : am_M} {j v}, Fr (fun a _ => a = N + 249) m M → Fr (fun a _ => a = N + 249) m (sl_ M (N + 249) j v) := fun h => h.sl rfl
      have f1 := w1 (j := 50 + 3 * i + 0) (v := 0) (w1 (j := 212 + 5 * i + 0) (v := gl_ m1 (N + 249) (50 + 3 * i + 0)) h1)
      have p1 := y346_157w (sa := sa) (sv := sv) (d := d + 1) hX1 i 0 (by omega) (by omega) (spd_ s q i) (pd_ s q i)
      have g1 : ∀ w, w < 3 → ¬ w = 0 → gl_ (sl_ (sl_ m1 (N + 249) (212 + 5 * i + 0) (gl_ m1 (N + 249) (50 + 3 * i + 0))) (N + 249) (50 + 3 * i + 0) 0) (N + 249) (50 + 3 * i + w) = q (50 + 3 * i + w) := fun w hw h0 => by rw [gl_sl, if_neg (by omega), gl_sl, if_neg (by omega)]; exact qc w hw
      have p2 := y346_157w (sa := sa) (sv := sv) (d := d + 1) (hX.fr1 f1 (by omega)) i 1 (by omega) (by omega) (spd_ s q i) (pd_ s q i)
      rw [g1 1 (by omega) (by omega)] at p2
      have f2 := w1 (j := 50 + 3 * i + 1) (v := 0) (w1 (j := 212 + 5 * i + 1) (v := q (50 + 3 * i + 1)) f1)
      have p3 := y346_157w (sa := sa) (sv := sv) (d := d + 1) (hX.fr1 f2 (by omega)) i 2 (by omega) (by omega) (spd_ s q i) (pd_ s q i)
      rw [show gl_ (sl_ (sl_ (sl_ (sl_ m1 (N + 249) (212 + 5 * i + 0) (gl_ m1 (N + 249) (50 + 3 * i + 0))) (N + 249) (50 + 3 * i + 0) 0) (N + 249) (212 + 5 * i + 1) (q (50 + 3 * i + 1))) (N + 249) (50 + 3 * i + 1) 0) (N + 249) (50 + 3 * i + 2) = q (50 + 3 * i + 2) by rw [gl_sl, if_neg (by omega), gl_sl, if_neg (by omega)]; exact g1 2 (by omega) (by omega)] at p3
      have f3 := w1 (j := 50 + 3 * i + 2) (v := 0) (w1 (j := 212 + 5 * i + 2) (v := q (50 + 3 * i + 2)) f2)
      rw [qc 0 (by omega)] at p1 p2 p3 f1 f2 f3
      have p4 := y346_157e (sa := sa) (sv := sv) (d := d + 1) (hX.fr1 f3 (by omega)) i (by omega) (spd_ s q i) (pd_ s q i)
      have r1 : gl_ (sl_ (sl_ (sl_ (sl_ (sl_ (sl_ m1 (N + 249) (212 + 5 * i + 0) (q (50 + 3 * i + 0))) (N + 249) (50 + 3 * i + 0) 0) (N + 249) (212 + 5 * i + 1) (q (50 + 3 * i + 1))) (N + 249) (50 + 3 * i + 1) 0) (N + 249) (212 + 5 * i + 2) (q (50 + 3 * i + 2))) (N + 249) (50 + 3 * i + 2) 0) (N + 249) i = q i := by
        rw [gl_sl, if_neg (by omega), gl_sl, if_neg (by omega), gl_sl, if_neg (by omega), gl_sl, if_neg (by omega), gl_sl, if_neg (by omega), gl_sl, if_neg (by omega)]; exact qi
      have r2 : gl_ (sl_ (sl_ (sl_ (sl_ (sl_ (sl_ m1 (N + 249) (212 + 5 * i + 0) (q (50 + 3 * i + 0))) (N + 249) (50 + 3 * i + 0) 0) (N + 249) (212 + 5 * i + 1) (q (50 + 3 * i + 1))) (N + 249) (50 + 3 * i + 1) 0) (N + 249) (212 + 5 * i + 2) (q (50 + 3 * i + 2))) (N + 249) (50 + 3 * i + 2) 0) (N + 249) (10 + 4 * i + 3) = q (10 + 4 * i + 3) := by
        rw [gl_sl, if_neg (by omega), gl_sl, if_neg (by omega), gl_sl, if_neg (by omega), gl_sl, if_neg (by omega), gl_sl, if_neg (by omega), gl_sl, if_neg (by omega)]; exact qt
      rw [r1, r2] at p4
      obtain ⟨m', k1, k2⟩ := ih (i + 1) _ (some (.long (pd_ s q i))) none (some (.int (nI 3))) (by omega) (w1 (j := 212 + 5 * i + 4) (v := q i - pd_ s q i) (w1 (j := 212 + 5 * i + 3) (v := pd_ s q i) (w1 (j := 10 + 4 * i + 3) (v := q (10 + 4 * i + 3) + pd_ s q i) (w1 (j := i) (v := q i - pd_ s q i) f3)))) (fun k => by
        simp only [gl_sl, true_and, h2 k]
        rw [cQi_s i k (by omega)])
      exact ⟨m', (p1.trans (p2.trans (p3.trans p4))).trans k1, k2⟩
    obtain ⟨m', k1, k2⟩ := key
    refine ⟨m', ?_, k2⟩
    rw [b346_116, gb_neg (by rw [nI_leE (by omega) (by omega)]; omega)]
    have hR1 : RS m1 N (gi_ m1 (N + 245)) (gl_ m1 (N + 249)) := ⟨hX1, rfl, rfl⟩
    have hp : paid_ (gi_ m1 (N + 245)) (gl_ m1 (N + 249)) i = paid_ s q i := by unfold paid_; rw [qi, e8]
    simp (disch := omega) only [gq_true, gb_true, gb_false, true_and, and_true, eq_self, not_false_eq_true, not_true_eq_false, true_or, or_true, false_or, or_false, false_and, and_false, c0_v, ci_v, cl_v, cf_v, pk_mul, nI_add, nI_clamp, nI_lt0, nI_0le, nI_eq0, nI_lt0r, nI_ltE, nI_leE, nI_eqE, nI_m1, in_t, ba0, ba1, Nat.one_ne_zero, Nat.reduceEqDiff, Nat.reduceLeDiff, Nat.add_eq_zero_iff, xk243 hX1, xr243_15 hX1, xk245 hX1, e1, y317 hR1 i (by omega), hp, xr243_19 hX1, xk249 hX1, Nat.zero_add, qi]
    rw [tr_0]
    by_cases c1 : cN s 0 ≤ i
    · rw [gb_pos c1]
      rw [show pd_ s q i = 0 by unfold pd_; rw [if_neg (by omega)]] at k1
      exact k1
    · rw [gb_neg c1]
      cases hpd : paid_ s q i with
      | false =>
        rw [gb_pos rfl]
        rw [show pd_ s q i = 0 by unfold pd_; rw [hpd, if_neg (by rintro ⟨-, z⟩; cases z)]] at k1
        exact k1
      | true =>
        rw [gb_neg (by decide)]
        rw [show pd_ s q i = q i by unfold pd_; rw [hpd, if_pos ⟨by omega, rfl⟩]] at k1
        exact k1
theorem y346 (hR : RS m N s q) (hF : WF B s q) (hB : B < 2 ^ 29) : ∃ m', am_ca sa sv (d + 2) 346 [.ref (N + 243)] m = some (.inl (some (.long (spd_ s q 10))), m') ∧ Fr (RB N) m m' ∧ RS m' N (cS_ s) (cQ_ s q) := by
  have hC := wf_c hF
  have hK := wf_k hF
  have hX := hR.1
  obtain ⟨e5, b5⟩ := (wk_c hK).c (by omega)
  have e7 := wk_k hK
  obtain ⟨m1, g1, g2, g3⟩ := lp_invD (fun i m1 => r346 sa sv (d + 1) 4 [some (.ref (N + 243)), some (.int (nI i - nI 1)), none, none, none, none, none] [] m1) (fun i m1 => Fr (fun a _ => a = N + 249) m m1 ∧ ∀ k, gl_ m1 (N + 249) k = if 262 + i ≤ k ∧ k < 462 then q (k - 50) else q k) 200 (fun i m1 hi ⟨f1, f2⟩ => by
    have hX1 := hX.fr1 f1 (by omega)
    have e : gl_ m1 (N + 249) (212 + i) = q (212 + i) := by rw [f2, if_neg (by omega)]
    refine ⟨sl_ m1 (N + 249) (262 + i) (q (212 + i)), ?_, f1.sl rfl, fun k => ?_⟩
    · show r346 sa sv (d + 1) 4 [_, some (.int (nI (i + 1) - nI 1)), _, _, _, _, _] [] m1 = _
      rw [dm_s, b346_4]
      simp (disch := omega) only [gq_true, gb_true, gb_false, true_and, and_true, eq_self, not_false_eq_true, not_true_eq_false, true_or, or_true, false_or, or_false, false_and, and_false, c0_v, ci_v, cl_v, cf_v, pk_mul, nI_add, nI_clamp, nI_lt0, nI_0le, nI_eq0, nI_lt0r, nI_ltE, nI_leE, nI_eqE, nI_m1, in_t, ba0, ba1, Nat.one_ne_zero, Nat.reduceEqDiff, Nat.reduceLeDiff, Nat.add_eq_zero_iff, xk243 hX1, xr243_19 hX1, xk249 hX1, e, dm_m]
    · rw [gl_sl, f2 k]
      by_cases e : k = 262 + i
      · rw [if_pos ⟨rfl, e⟩, if_pos (by omega), e, show 262 + i - 50 = 212 + i by omega]
      · rw [if_neg (fun z => e z.2)]
        by_cases e2 : 262 + (i + 1) ≤ k ∧ k < 462
        · rw [if_pos e2, if_pos (by omega)]
        · rw [if_neg e2, if_neg (by omega)]) m ⟨Fr.refl _ _, fun k => by rw [if_neg (by omega), rq hR k]⟩
  have hX1 := hX.fr1 g2 (by omega)
  obtain ⟨m2, k1, k2, k3⟩ := lp_invD (fun i m2 => r346 sa sv (d + 1) 36 [some (.ref (N + 243)), some (.int (nI i)), none, none, none, none, none] [] m2) (fun i m2 => Fr (fun a _ => a = N + 245) m1 m2 ∧ ∀ k, gi_ m2 (N + 245) k = if 762 + i < k ∧ k < 767 then s (k - 1) else s k) 4 (fun i m2 hi ⟨f1, f2⟩ => by
    have hX2 := hX1.fr1 f1 (by omega)
    have e : gi_ m2 (N + 245) (762 + i) = s (762 + i) := by rw [f2, if_neg (by omega)]
    refine ⟨si_ m2 (N + 245) (762 + (i + 1)) (s (762 + i)), ?_, f1.si rfl, fun k => ?_⟩
    · show r346 sa sv (d + 1) 36 _ [] m2 = _
      rw [b346_36, gb_neg (by rw [← nI_0, nI_leE (by omega) (by decide)]; omega)]
      simp (disch := omega) only [gq_true, gb_true, gb_false, true_and, and_true, eq_self, not_false_eq_true, not_true_eq_false, true_or, or_true, false_or, or_false, false_and, and_false, c0_v, ci_v, cl_v, cf_v, pk_mul, nI_add, nI_clamp, nI_lt0, nI_0le, nI_eq0, nI_lt0r, nI_ltE, nI_leE, nI_eqE, nI_m1, in_t, ba0, ba1, Nat.one_ne_zero, Nat.reduceEqDiff, Nat.reduceLeDiff, Nat.add_eq_zero_iff, xk243 hX2, xr243_15 hX2, xk245 hX2, show nI (762 + (i + 1)) - nI 1 = nI (762 + i) from dm_s _, e, show nI (i + 1) + (-1 : Int32) = nI i by rw [dm_m]; exact dm_s i]
    · rw [gi_si, f2 k]
      by_cases e : k = 762 + (i + 1)
      · rw [if_pos ⟨rfl, e⟩, if_pos (by omega), e]; rfl
      · rw [if_neg (fun z => e z.2)]
        by_cases e2 : 762 + (i + 1) < k ∧ k < 767
        · rw [if_pos e2, if_pos (by omega)]
        · rw [if_neg e2, if_neg (by omega)]) m1 ⟨Fr.refl _ _, fun k => by rw [if_neg (by omega), g2.2.1 _ _ (by omega), rs hR k]⟩
  have hX2 := hX1.fr1 k2 (by omega)
  have v4 : gi_ m2 (N + 245) 4 = s 4 := by rw [k3, if_neg (by omega)]
  have v7 : gi_ (si_ m2 (N + 245) 762 (s 4)) (N + 245) 7 = nI (min (cN s 5) 5) := by rw [gi_si, if_neg (by omega), k3, if_neg (by omega), e7]
  have v5 : gi_ (si_ (si_ m2 (N + 245) 762 (s 4)) (N + 245) 7 (nI (min (cN s 5 + 1) 5))) (N + 245) 5 = nI (cN s 5) := by rw [gi_si, if_neg (by omega), gi_si, if_neg (by omega), k3, if_neg (by omega), e5]
  have hF3 : Fr (fun a _ => a = N + 245) m1 (si_ (si_ (si_ m2 (N + 245) 762 (s 4)) (N + 245) 7 (nI (min (cN s 5 + 1) 5))) (N + 245) 5 (nI (cN s 5 + 1))) := ((k2.si rfl).si rfl).si rfl
  have hX2a := hX1.fr1 (k2.si (k := 762) (v := s 4) rfl) (by omega)
  have hX3 := hX1.fr1 hF3 (by omega)
  have hrow : ∀ k, gi_ (si_ (si_ (si_ m2 (N + 245) 762 (s 4)) (N + 245) 7 (nI (min (cN s 5 + 1) 5))) (N + 245) 5 (nI (cN s 5 + 1))) (N + 245) k = cS_ s k := fun k => by
    rw [gi_si, gi_si, gi_si, k3 k]
    unfold cS_
    by_cases c5 : k = 5
    · rw [if_pos ⟨rfl, c5⟩, if_pos c5]
    · rw [if_neg (fun z => c5 z.2), if_neg c5]
      by_cases c7 : k = 7
      · rw [if_pos ⟨rfl, c7⟩, if_pos c7]
      · rw [if_neg (fun z => c7 z.2), if_neg c7]
        by_cases c8 : k = 762
        · rw [if_pos ⟨rfl, c8⟩, if_pos c8]
        · rw [if_neg (fun z => c8 z.2), if_neg c8]
          by_cases c9 : 763 ≤ k ∧ k < 767
          · rw [if_pos c9, if_pos (by omega)]
          · rw [if_neg c9, if_neg (by omega)]
  have h224 : am_ca sa sv (d + 1) 224 [.int (nI 5), .int (nI (min (cN s 5) 5 + 1))] (si_ m2 (N + 245) 762 (s 4)) = some (.inl (some (.int (nI (min (cN s 5 + 1) 5)))), si_ m2 (N + 245) 762 (s 4)) := by
    rw [y224]
    simp (disch := omega) only [nI_leE]
    by_cases e : min (cN s 5) 5 + 1 ≤ 5
    · rw [if_pos e, show min (cN s 5) 5 + 1 = min (cN s 5 + 1) 5 by omega]
    · rw [if_neg e, show min (cN s 5 + 1) 5 = 5 by omega]
  have run : r346 sa sv (d + 1) 36 [some (.ref (N + 243)), some (.int (nI 0)), none, none, none, none, none] [] m2 = r346 sa sv (d + 1) 116 [some (.ref (N + 243)), some (.long (spd_ s q 0)), none, some (.int (nI 0)), none, none, none] [] (si_ (si_ (si_ m2 (N + 245) 762 (s 4)) (N + 245) 7 (nI (min (cN s 5 + 1) 5))) (N + 245) 5 (nI (cN s 5 + 1))) := by
    rw [b346_36]
    simp (disch := omega) only [gq_true, gb_true, gb_false, true_and, and_true, eq_self, not_false_eq_true, not_true_eq_false, true_or, or_true, false_or, or_false, false_and, and_false, c0_v, ci_v, cl_v, cf_v, pk_mul, nI_add, nI_clamp, nI_lt0, nI_0le, nI_eq0, nI_lt0r, nI_ltE, nI_leE, nI_eqE, nI_m1, in_t, ba0, ba1, Nat.one_ne_zero, Nat.reduceEqDiff, Nat.reduceLeDiff, Nat.add_eq_zero_iff, nI_le0, xk243 hX2, xr243_15 hX2, xk245 hX2, v4, v7, h224, xk243 hX2a, xr243_15 hX2a, xk245 hX2a, gk_siF, gr_si, v5]
    rfl
  generalize si_ (si_ (si_ m2 (N + 245) 762 (s 4)) (N + 245) 7 (nI (min (cN s 5 + 1) 5))) (N + 245) 5 (nI (cN s 5 + 1)) = m3 at *
  obtain ⟨m4, p1, p2, p3⟩ := y346_116 (sa := sa) (sv := sv) (d := d) (s := s) (q := q) hX3 hC (by rw [hrow]; unfold cS_; rw [if_neg (by omega), if_neg (by omega), if_neg (by omega), if_neg (by omega)]) (fun p hp => by rw [hrow]; unfold cS_; rw [if_neg (by omega), if_neg (by omega), if_neg (by omega), if_neg (by omega)]) 10 0 m3 none none none (by omega) (Fr.refl _ _) (fun k => by rw [cQi_0, hF3.2.2.1 _ _ (by omega), g3 k])
  have hFA : Fr (RB N) m m4 := ((g2.mono fun a k z => Or.inl z).trans (hF3.mono fun a k z => Or.inr z)).trans (p2.mono fun a k z => Or.inl z)
  refine ⟨m4, ?_, hFA, hX.frB hFA, funext fun k => (p2.2.1 _ _ (by omega)).trans (hrow k), funext fun k => (p3 k).trans (cQi_10 k)⟩
  rw [c346, b346_0]
  rw [show nI 199 = nI 200 - nI 1 from (dm_s 199).symm]
  refine g1.trans ?_
  show r346 sa sv (d + 1) 4 [_, some (.int (nI 0 - nI 1)), _, _, _, _, _] [] m1 = _
  rw [b346_4, gb_pos (by rw [nI_n0 (by decide)])]
  exact k1.trans (run.trans p1)
end R79
