/-! the best day: the reference -/
section R68
variable {sa sv d N o B : Nat} {m : am_M} {s : Nat → Int32} {q : Nat → Int64}
theorem y338_a (hR : RS m N s q) (hC : WC s) (w a u : Int32) : am_ca sa sv (d + 4) 338 [.ref (N + 243), .int w, .int a, .int u] m = r338 sa sv (d + 3) 22 [some (.ref (N + 243)), some (.int w), some (.int a), some (.int u), none, none, none, none] [.int (tr_ (inR w (cN s 1) && inR u (cN s 0))), .ref (N + 243)] m := by
  rw [c338, b338_0]
  simp (disch := omega) only [gq_true, gb_true, gb_false, true_and, and_true, eq_self, not_false_eq_true, not_true_eq_false, true_or, or_true, false_or, or_false, false_and, and_false, c0_v, ci_v, cl_v, cf_v, pk_mul, nI_add, nI_clamp, nI_lt0, nI_0le, nI_eq0, nI_lt0r, nI_ltE, nI_leE, nI_eqE, nI_m1, in_t, ba0, ba1, Nat.one_ne_zero, Nat.reduceEqDiff, Nat.reduceLeDiff, Nat.add_eq_zero_iff, rk243 hR, rr15 hR, rk245 hR, rr19 hR, rk249 hR, rs hR, rq hR, y286 hR hC, y285 hR hC, tr_0]
  cases inR w (cN s 1) <;> cases inR u (cN s 0) <;> simp only [gb_true, gb_false, Bool.true_and, Bool.false_and, Bool.true_eq_false] <;> rfl
theorem y338 (hR : RS m N s q) (hF : WF B s q) (w a u : Int32) : ∃ m', am_ca sa sv (d + 7) 338 [.ref (N + 243), .int w, .int a, .int u] m = some (.inl (some (.int (bif inR w (cN s 1) && inR u (cN s 0) && amt_ a then nI (bst_ (er_ s w.toNatClampNeg a.toNatClampNeg u.toNatClampNeg) (cN s 4) (9999 - cN s 4)) else nI 0))), m') ∧ Fr (RX N) m m' ∧ gi_ m' (N + 243) 0 = nI (cd2_ (inR w (cN s 1) && inR u (cN s 0)) (amt_ a)) := by
  have hC := wf_c hF
  have hW := wf_w hF
  have hA := wf_a hF
  obtain ⟨e0, b0⟩ := (wc_np hC).c (by decide)
  obtain ⟨e1, b1⟩ := (wc_nw hC).c (by decide)
  obtain ⟨e4, b4⟩ := (wc_day hC).c (by decide)
  have hF1 : Fr (RX N) m (si_ m (N + 243) 0 (nI (cd2_ (inR w (cN s 1) && inR u (cN s 0)) (amt_ a)))) := (Fr.refl _ _).si RX.c0
  have hR1 := hR.c 0 (nI (cd2_ (inR w (cN s 1) && inR u (cN s 0)) (amt_ a)))
  have hX1 := hR1.1
  have hcd : gi_ (si_ m (N + 243) 0 (nI (cd2_ (inR w (cN s 1) && inR u (cN s 0)) (amt_ a)))) (N + 243) 0 = nI (cd2_ (inR w (cN s 1) && inR u (cN s 0)) (amt_ a)) := by rw [gi_si, if_pos ⟨rfl, rfl⟩]
  have h226 := y226 (sa := sa) (sv := sv) (d := d + 5) hR (inR w (cN s 1) && inR u (cN s 0)) (amt_ a)
  have h0 := y338_a (sa := sa) (sv := sv) (d := d + 3) hR hC w a u
  generalize hm1 : si_ m (N + 243) 0 (nI (cd2_ (inR w (cN s 1) && inR u (cN s 0)) (amt_ a))) = m1 at *
  rw [h0, b338_22]
  simp (disch := omega) only [gq_true, gb_true, gb_false, true_and, and_true, eq_self, not_false_eq_true, not_true_eq_false, true_or, or_true, false_or, or_false, false_and, and_false, c0_v, ci_v, cl_v, cf_v, pk_mul, nI_add, nI_clamp, nI_lt0, nI_0le, nI_eq0, nI_lt0r, nI_ltE, nI_leE, nI_eqE, nI_m1, in_t, ba0, ba1, Nat.one_ne_zero, Nat.reduceEqDiff, Nat.reduceLeDiff, Nat.add_eq_zero_iff, y331, rk243 hR, h226, tr_0]
  cases hok : (inR w (cN s 1) && inR u (cN s 0) && amt_ a) with
  | false => exact ⟨m1, by rw [gb_pos rfl, cond_false, nI_0], hF1, hcd⟩
  | true =>
    rw [Bool.and_eq_true, Bool.and_eq_true] at hok
    obtain ⟨⟨h1, h2⟩, h3⟩ := hok
    obtain ⟨w, hw, rfl⟩ := (inR_t (by omega)).mp h1
    obtain ⟨u, hu, rfl⟩ := (inR_t (by omega)).mp h2
    obtain ⟨a, ha1, ha, rfl⟩ := amt_t.mp h3
    generalize hcode : nI (cd2_ (inR (nI w) (cN s 1) && inR (nI u) (cN s 0)) (amt_ (nI a))) = code at *
    rw [gb_neg (by decide), cond_true]
    simp (disch := omega) only [gq_true, gb_true, gb_false, true_and, and_true, eq_self, not_false_eq_true, not_true_eq_false, true_or, or_true, false_or, or_false, false_and, and_false, c0_v, ci_v, cl_v, cf_v, pk_mul, nI_add, nI_clamp, nI_lt0, nI_0le, nI_eq0, nI_lt0r, nI_ltE, nI_leE, nI_eqE, nI_m1, in_t, ba0, ba1, Nat.one_ne_zero, Nat.reduceEqDiff, Nat.reduceLeDiff, Nat.add_eq_zero_iff, rk243 hR1, rr15 hR1, rk245 hR1, rr19 hR1, rk249 hR1, rs hR1, rq hR1, e4]
    generalize hf : er_ s w a u = f
    have hfb : ∀ t, f t ≤ 9999999 := fun t => by
      have := er_le hC hW hA w a u t hw
      rw [← hf]; omega
    have y333' : ∀ day m2, day ≤ 9999 → Fr (RLc N) m1 m2 → ∃ m3, am_ca sa sv (d + 6) 333 [.ref (N + 243), .int (nI w), .int (nI a), .int (nI u), .int (nI day)] m2 = some (.inl (some (.int (nI (f day)))), m3) ∧ Fr (RLc N) m1 m3 := by
      intro day m2 hd hF2
      obtain ⟨m3, g1, g2⟩ := y333 (sa := sa) (sv := sv) (d := d) (hR1.fr (hF2.mono fun _ _ h => RLc.x h)) hC hW hA w a u day hw ha (by omega) (by omega)
      exact ⟨m3, by rw [g1, ← hf]; rfl, hF2.trans g2⟩
    have step : ∀ j n m2 (o7 : Option Value), cN s 4 + n + j = 9999 → Fr (RLc N) m1 m2 → ∃ m', r338 sa sv (d + 6) 48 [some (.ref (N + 243)), some (.int (nI w)), some (.int (nI a)), some (.int (nI u)), some (.int (nI (bst_ f (cN s 4) n))), some (.int (nI (f (bst_ f (cN s 4) n)))), some (.int (nI (cN s 4 + n + 1))), o7] [] m2 = some (.inl (some (.int (nI (bst_ f (cN s 4) (9999 - cN s 4))))), m') ∧ Fr (RLc N) m1 m' := by
      intro j
      induction j with
      | zero =>
        intro n m2 o7 hj hF2
        refine ⟨m2, ?_, hF2⟩
        rw [b338_48]
        simp (disch := omega) only [gq_true, gb_true, gb_false, true_and, and_true, eq_self, not_false_eq_true, not_true_eq_false, true_or, or_true, false_or, or_false, false_and, and_false, c0_v, ci_v, cl_v, cf_v, pk_mul, nI_add, nI_clamp, nI_lt0, nI_0le, nI_eq0, nI_lt0r, nI_ltE, nI_leE, nI_eqE, nI_m1, in_t, ba0, ba1, Nat.one_ne_zero, Nat.reduceEqDiff, Nat.reduceLeDiff, Nat.add_eq_zero_iff, show 9999 < cN s 4 + n + 1 by omega]
        rw [show 9999 - cN s 4 = n by omega]
      | succ j ih =>
        intro n m2 o7 hj hF2
        have hX2 := (hR1.fr (hF2.mono fun _ _ h => RLc.x h)).1
        obtain ⟨m3, g1, g2⟩ := y333' (cN s 4 + n + 1) m2 (by omega) hF2
        have hb := bst_le f (cN s 4) n
        have hf1 := hfb (bst_ f (cN s 4) n)
        have hf2 := hfb (cN s 4 + n + 1)
        obtain ⟨m', k1, k2⟩ := ih (n + 1) m3 (some (.int (nI (f (cN s 4 + n + 1))))) (by omega) g2
        rw [bst_, show cN s 4 + (n + 1) = cN s 4 + n + 1 from rfl] at k1
        refine ⟨m', ?_, k2⟩
        rw [b338_48]
        simp (disch := omega) only [gq_true, gb_true, gb_false, true_and, and_true, eq_self, not_false_eq_true, not_true_eq_false, true_or, or_true, false_or, or_false, false_and, and_false, c0_v, ci_v, cl_v, cf_v, pk_mul, nI_add, nI_clamp, nI_lt0, nI_0le, nI_eq0, nI_lt0r, nI_ltE, nI_leE, nI_eqE, nI_m1, in_t, ba0, ba1, Nat.one_ne_zero, Nat.reduceEqDiff, Nat.reduceLeDiff, Nat.add_eq_zero_iff, eq_false (show ¬ 9999 < cN s 4 + n + 1 by omega), xk243 hX2]
        rw [g1]
        simp (disch := omega) only [gq_true, gb_true, gb_false, true_and, and_true, eq_self, not_false_eq_true, not_true_eq_false, true_or, or_true, false_or, or_false, false_and, and_false, c0_v, ci_v, cl_v, cf_v, pk_mul, nI_add, nI_clamp, nI_lt0, nI_0le, nI_eq0, nI_lt0r, nI_ltE, nI_leE, nI_eqE, nI_m1, in_t, ba0, ba1, Nat.one_ne_zero, Nat.reduceEqDiff, Nat.reduceLeDiff, Nat.add_eq_zero_iff]
        by_cases c1 : f (bst_ f (cN s 4) n) < f (cN s 4 + n + 1)
        · rw [gb_pos c1]
          rw [if_pos c1] at k1
          exact k1
        · rw [gb_neg c1]
          rw [if_neg c1] at k1
          exact k1
    obtain ⟨m2, g1, g2⟩ := y333' (cN s 4) m1 (by omega) (Fr.refl _ _)
    obtain ⟨m', k1, k2⟩ := step (9999 - cN s 4) 0 m2 (some (.int (nI (f (cN s 4))))) (by omega) g2
    refine ⟨m', ?_, hF1.trans (k2.mono fun _ _ h => RLc.x h), (k2.2.1 _ _ (by rintro (z | z | ⟨z, z2⟩) <;> omega)).trans hcd⟩
    rw [b338_48]
    simp (disch := omega) only [gq_true, gb_true, gb_false, true_and, and_true, eq_self, not_false_eq_true, not_true_eq_false, true_or, or_true, false_or, or_false, false_and, and_false, c0_v, ci_v, cl_v, cf_v, pk_mul, nI_add, nI_clamp, nI_lt0, nI_0le, nI_eq0, nI_lt0r, nI_ltE, nI_leE, nI_eqE, nI_m1, in_t, ba0, ba1, Nat.one_ne_zero, Nat.reduceEqDiff, Nat.reduceLeDiff, Nat.add_eq_zero_iff, eq_false (show ¬ 9999 < cN s 4 by omega), xk243 hX1]
    rw [g1]
    simp (disch := omega) only [gq_true, gb_true, gb_false, true_and, and_true, eq_self, not_false_eq_true, not_true_eq_false, true_or, or_true, false_or, or_false, false_and, and_false, c0_v, ci_v, cl_v, cf_v, pk_mul, nI_add, nI_clamp, nI_lt0, nI_0le, nI_eq0, nI_lt0r, nI_ltE, nI_leE, nI_eqE, nI_m1, in_t, ba0, ba1, Nat.one_ne_zero, Nat.reduceEqDiff, Nat.reduceLeDiff, Nat.add_eq_zero_iff]
    exact k1
end R68
