/-! the class divides an income: the shares, the whole -/
theorem shs_lmono (s : Nat → Int32) (w k c day : Nat) {n j : Nat} (hn : n ≤ j) : (shs_ s w k c day n).length ≤ (shs_ s w k c day j).length := by
  obtain ⟨i, rfl⟩ := Nat.exists_eq_add_of_le hn
  clear hn
  induction i with
  | zero => exact Nat.le_refl _
  | succ i ih =>
    refine Nat.le_trans ih ?_
    show _ ≤ (shs_ s w k c day (n + i) ++ _).length
    rw [List.length_append]
    exact Nat.le_add_right _ _
section R61
variable {sa sv d N o : Nat} {m : am_M} {s : Nat → Int32} {q : Nat → Int64}
theorem x37 {day : Nat} (hP : PD m N o s q day) (hC : WC s) (hW : WW s) (hA : WA s) {l : List Ln} (w c : Nat) (hw : w < cN s 1) (hc : c ≤ 9999999) (hL : LN m (N + 22) l) (hr : gi_ m (N + 21) 2 = nI l.length) (h64 : (l ++ shs_ s w (spl_ s w day) c day (cN s (23 + 48 * w + spl_ s w day))).length ≤ 64) : ∃ m', am_ca sa sv (d + 3) 37 [.ref (N + 14), .int (nI w), .int (nI c)] m = some (.inl none, m') ∧ Fr (DL N) m m' ∧ LN m' (N + 22) (l ++ shs_ s w (spl_ s w day) c day (cN s (23 + 48 * w + spl_ s w day))) ∧ gi_ m' (N + 21) 2 = nI (l ++ shs_ s w (spl_ s w day) c day (cN s (23 + 48 * w + spl_ s w day))).length := by
  obtain ⟨-, b0⟩ := (wc_nw hC).c (by decide)
  have hnp := isN_lt (wc_np hC) (by decide)
  have hk := spl_lt hW w day hw
  have hk4 := isN_lt (ww_ns hW w hw).1 (by decide)
  have hs1w := hP.2.2.2.2.2.2.2.1 w (by omega)
  rw [if_pos hw] at hs1w
  generalize spl_ s w day = k at *
  obtain ⟨h1, b1'⟩ := ww_nh hW w k hw hk
  obtain ⟨e1, b1⟩ := h1.c (by decide)
  have hprt := prt_le hW c hw hk
  have hshp := shp_le hW c hw hk (Nat.le_refl (cN s (23 + 48 * w + k)))
  have second : ∀ n i m1 (o7 : Option Value), i + n = cN s (23 + 48 * w + k) → Fr (DL N) m m1 → LN m1 (N + 22) (l ++ shs_ s w k c day i) → gi_ m1 (N + 21) 2 = nI (l ++ shs_ s w k c day i).length → ∃ m', r37 sa sv (d + 2) 70 [some (.ref (N + 14)), some (.int (nI w)), some (.int (nI c)), some (.int (nI k)), some (.int (nI (cN s (23 + 48 * w + k)))), some (.int (nI (cts_ s w k c))), some (.int (nI i)), o7] [] m1 = some (.inl none, m') ∧ Fr (DL N) m m' ∧ LN m' (N + 22) (l ++ shs_ s w k c day (cN s (23 + 48 * w + k))) ∧ gi_ m' (N + 21) 2 = nI (l ++ shs_ s w k c day (cN s (23 + 48 * w + k))).length := by
    intro n
    induction n with
    | zero =>
      intro i m1 o7 hi hF1 hL1 hr1
      have e : i = cN s (23 + 48 * w + k) := by omega
      refine ⟨m1, ?_, hF1, by rw [← e]; exact hL1, by rw [← e]; exact hr1⟩
      rw [b37_70, gb_pos (by rw [nI_leE (by omega) (by omega)]; omega)]
    | succ n ih =>
      intro i m1 o7 hi hF1 hL1 hr1
      have hP1 := hP.fr (hF1.mono fun _ _ h => DL.c h)
      have hP1' := hP1
      obtain ⟨hX1, hO1, hV1, hNo, hg7, hg8, hg9, hs1, hs2, hs3⟩ := hP1
      obtain ⟨e2, b2⟩ := (ww_hp hW w k i hw hk (by omega)).c (by omega)
      obtain ⟨h3, -⟩ := ww_hc hW w k i hw hk (by omega)
      obtain ⟨e3, b3⟩ := h3.c (by decide)
      have hmul : c * cN s (43 + 48 * w + 4 * k + i) ≤ 9999999 * 100 := Nat.mul_le_mul hc (by omega)
      have hpi := sum_ge (prt_ s w k c) (show i < cN s (23 + 48 * w + k) by omega)
      have hct : cts_ s w k c ≤ 9999999 := by unfold cts_; omega
      have hg7' : ¬ gr_ m1 (N + 14) 7 = 0 := by rw [hg7]; omega
      have hb : ∀ s1 : Nat, s1 = (if i < cts_ s w k c then 1 else 0) → ∃ m', r37 sa sv (d + 2) 104 [some (.ref (N + 14)), some (.int (nI w)), some (.int (nI c)), some (.int (nI k)), some (.int (nI (cN s (23 + 48 * w + k)))), some (.int (nI (cts_ s w k c))), some (.int (nI i)), o7] [.int (nI s1), .int (nI (c * cN s (43 + 48 * w + 4 * k + i) / 100))] m1 = some (.inl none, m') ∧ Fr (DL N) m m' ∧ LN m' (N + 22) (l ++ shs_ s w k c day (cN s (23 + 48 * w + k))) ∧ gi_ m' (N + 21) 2 = nI (l ++ shs_ s w k c day (cN s (23 + 48 * w + k))).length := by
        intro s1 hs1e
        have hpe : c * cN s (43 + 48 * w + 4 * k + i) / 100 + s1 = prt_ s w k c i := by rw [hs1e]; rfl
        rw [b37_104, nI_add, hpe]
        by_cases h0 : prt_ s w k c i = 0
        · have e9 : shs_ s w k c day (i + 1) = shs_ s w k c day i := by rw [shs_, h0, pl_0, List.append_nil]
          rw [gb_pos (by rw [nI_le0 (by omega)]; exact h0)]
          simp (disch := omega) only [gq_true, gb_true, gb_false, true_and, and_true, eq_self, not_false_eq_true, not_true_eq_false, true_or, or_true, false_or, or_false, false_and, and_false, c0_v, ci_v, cl_v, cf_v, pk_mul, nI_add, nI_clamp, nI_lt0, nI_0le, nI_eq0, nI_lt0r, nI_ltE, nI_leE, nI_eqE, nI_m1, in_t, ba0, ba1, Nat.one_ne_zero, Nat.reduceEqDiff, Nat.reduceLeDiff, Nat.add_eq_zero_iff]
          exact ih (i + 1) m1 _ (by omega) hF1 (by rw [e9]; exact hL1) (by rw [e9]; exact hr1)
        · have e9 : shs_ s w k c day (i + 1) = shs_ s w k c day i ++ pl_ s w (cN s (27 + 48 * w + 4 * k + i)) (prt_ s w k c i) day := rfl
          have hln : (l ++ shs_ s w k c day (i + 1)).length ≤ 64 := by
            have := shs_lmono s w k c day (show i + 1 ≤ cN s (23 + 48 * w + k) by omega)
            rw [List.length_append] at h64 ⊢
            omega
          rw [e9, ← List.append_assoc] at hln
          obtain ⟨m2, g1, g2, g3, g4⟩ := x38 (sa := sa) (sv := sv) (d := d) hP1' hC hA w (cN s (27 + 48 * w + 4 * k + i)) (prt_ s w k c i) (by omega) (by omega) (by omega) hL1 hr1 hln
          rw [gb_neg (by rw [nI_le0 (by omega)]; exact h0)]
          simp (disch := omega) only [gq_true, gb_true, gb_false, true_and, and_true, eq_self, not_false_eq_true, not_true_eq_false, true_or, or_true, false_or, or_false, false_and, and_false, c0_v, ci_v, cl_v, cf_v, pk_mul, nI_add, nI_clamp, nI_lt0, nI_0le, nI_eq0, nI_lt0r, nI_ltE, nI_leE, nI_eqE, nI_m1, in_t, ba0, ba1, Nat.one_ne_zero, Nat.reduceEqDiff, Nat.reduceLeDiff, Nat.add_eq_zero_iff, xk14 hX1, eq_false hg7']
          simp (disch := omega) only [gq_true, gb_true, gb_false, true_and, and_true, eq_self, not_false_eq_true, not_true_eq_false, true_or, or_true, false_or, or_false, false_and, and_false, c0_v, ci_v, cl_v, cf_v, pk_mul, nI_add, nI_clamp, nI_lt0, nI_0le, nI_eq0, nI_lt0r, nI_ltE, nI_leE, nI_eqE, nI_m1, in_t, ba0, ba1, Nat.one_ne_zero, Nat.reduceEqDiff, Nat.reduceLeDiff, Nat.add_eq_zero_iff, hg7, ok1 hO1, x27 hO1 hV1 w k i (by omega) (by omega) (by omega), e2, xk14 hX1, g1]
          exact ih (i + 1) m2 _ (by omega) (hF1.trans g2) (by rw [e9, ← List.append_assoc]; exact g3) (by rw [e9, ← List.append_assoc]; exact g4)
      rw [b37_70, gb_neg (by rw [nI_leE (by omega) (by omega)]; omega)]
      simp (disch := omega) only [gq_true, gb_true, gb_false, true_and, and_true, eq_self, not_false_eq_true, not_true_eq_false, true_or, or_true, false_or, or_false, false_and, and_false, c0_v, ci_v, cl_v, cf_v, pk_mul, nI_add, nI_clamp, nI_lt0, nI_0le, nI_eq0, nI_lt0r, nI_ltE, nI_leE, nI_eqE, nI_m1, in_t, ba0, ba1, Nat.one_ne_zero, Nat.reduceEqDiff, Nat.reduceLeDiff, Nat.add_eq_zero_iff, xk14 hX1, eq_false hg7']
      simp (disch := omega) only [gq_true, gb_true, gb_false, true_and, and_true, eq_self, not_false_eq_true, not_true_eq_false, true_or, or_true, false_or, or_false, false_and, and_false, c0_v, ci_v, cl_v, cf_v, pk_mul, nI_add, nI_clamp, nI_lt0, nI_0le, nI_eq0, nI_lt0r, nI_ltE, nI_leE, nI_eqE, nI_m1, in_t, ba0, ba1, Nat.one_ne_zero, Nat.reduceEqDiff, Nat.reduceLeDiff, Nat.add_eq_zero_iff, hg7, ok1 hO1, x28 hO1 hV1 w k i (by omega) (by omega) (by omega), x219, e3, pct_nI (show c * cN s (43 + 48 * w + 4 * k + i) < 2 ^ 31 by omega)]
      by_cases hlt : i < cts_ s w k c
      · rw [gb_neg (by omega)]
        exact hb 1 (by rw [if_pos hlt])
      · rw [gb_pos (by omega)]
        exact hb 0 (by rw [if_neg hlt])
  have first : ∀ n i (o7 : Option Value), i + n = cN s (23 + 48 * w + k) → r37 sa sv (d + 2) 34 [some (.ref (N + 14)), some (.int (nI w)), some (.int (nI c)), some (.int (nI k)), some (.int (nI (cN s (23 + 48 * w + k)))), some (.int (nI (c - sum_ (shp_ s w k c) i))), some (.int (nI i)), o7] [] m = r37 sa sv (d + 2) 70 [some (.ref (N + 14)), some (.int (nI w)), some (.int (nI c)), some (.int (nI k)), some (.int (nI (cN s (23 + 48 * w + k)))), some (.int (nI (cts_ s w k c))), some (.int (nI 0)), o7] [] m := by
    intro n
    obtain ⟨hX1, hO1, hV1, hNo, hg7, hg8, hg9, hs1, hs2, hs3⟩ := hP
    have hg7' : ¬ gr_ m (N + 14) 7 = 0 := by rw [hg7]; omega
    induction n with
    | zero =>
      intro i o7 hi
      have e : i = cN s (23 + 48 * w + k) := by omega
      rw [b37_34, gb_pos (by rw [nI_leE (by omega) (by omega)]; omega), e]
      rfl
    | succ n ih =>
      intro i o7 hi
      obtain ⟨h3, -⟩ := ww_hc hW w k i hw hk (by omega)
      obtain ⟨e3, b3⟩ := h3.c (by decide)
      have hmul : c * cN s (43 + 48 * w + 4 * k + i) ≤ 9999999 * 100 := Nat.mul_le_mul hc (by omega)
      have hm := sum_mono (shp_ s w k c) (show i + 1 ≤ cN s (23 + 48 * w + k) by omega)
      rw [sum_s] at hm
      have hse : shp_ s w k c i = c * cN s (43 + 48 * w + 4 * k + i) / 100 := rfl
      rw [b37_34, gb_neg (by rw [nI_leE (by omega) (by omega)]; omega)]
      simp (disch := omega) only [gq_true, gb_true, gb_false, true_and, and_true, eq_self, not_false_eq_true, not_true_eq_false, true_or, or_true, false_or, or_false, false_and, and_false, c0_v, ci_v, cl_v, cf_v, pk_mul, nI_add, nI_clamp, nI_lt0, nI_0le, nI_eq0, nI_lt0r, nI_ltE, nI_leE, nI_eqE, nI_m1, in_t, ba0, ba1, Nat.one_ne_zero, Nat.reduceEqDiff, Nat.reduceLeDiff, Nat.add_eq_zero_iff, xk14 hX1, eq_false hg7']
      simp (disch := omega) only [gq_true, gb_true, gb_false, true_and, and_true, eq_self, not_false_eq_true, not_true_eq_false, true_or, or_true, false_or, or_false, false_and, and_false, c0_v, ci_v, cl_v, cf_v, pk_mul, nI_add, nI_clamp, nI_lt0, nI_0le, nI_eq0, nI_lt0r, nI_ltE, nI_leE, nI_eqE, nI_m1, in_t, ba0, ba1, Nat.one_ne_zero, Nat.reduceEqDiff, Nat.reduceLeDiff, Nat.add_eq_zero_iff, hg7, ok1 hO1, x28 hO1 hV1 w k i (by omega) (by omega) (by omega), x219, e3, pct_nI (show c * cN s (43 + 48 * w + 4 * k + i) < 2 ^ 31 by omega)]
      rw [pk_sub (by omega), ← hse, show c - sum_ (shp_ s w k c) i - shp_ s w k c i = c - sum_ (shp_ s w k c) (i + 1) by rw [sum_s]; omega]
      exact ih (i + 1) o7 (by omega)
  obtain ⟨m', g1, g2⟩ := second _ 0 m none (Nat.zero_add _) (Fr.refl _ _) (by show LN m (N + 22) (l ++ []); rw [List.append_nil]; exact hL) (by show gi_ m (N + 21) 2 = nI (l ++ []).length; rw [List.append_nil]; exact hr)
  refine ⟨m', ?_, g2⟩
  obtain ⟨hX0, hO0, hV0, hNo, hg7, hg8, hg9, hs1, hs2, hs3⟩ := hP
  have hg7' : ¬ gr_ m (N + 14) 7 = 0 := by rw [hg7]; omega
  rw [c37, b37_0]
  simp (disch := omega) only [gq_true, gb_true, gb_false, true_and, and_true, eq_self, not_false_eq_true, not_true_eq_false, true_or, or_true, false_or, or_false, false_and, and_false, c0_v, ci_v, cl_v, cf_v, pk_mul, nI_add, nI_clamp, nI_lt0, nI_0le, nI_eq0, nI_lt0r, nI_ltE, nI_leE, nI_eqE, nI_m1, in_t, ba0, ba1, Nat.one_ne_zero, Nat.reduceEqDiff, Nat.reduceLeDiff, Nat.add_eq_zero_iff, xk14 hX0, eq_false hg7', xr14_0 hX0, x33 (N + 15) 12 w (xk15 hX0) (by omega) (by omega), hs1w]
  simp (disch := omega) only [gq_true, gb_true, gb_false, true_and, and_true, eq_self, not_false_eq_true, not_true_eq_false, true_or, or_true, false_or, or_false, false_and, and_false, c0_v, ci_v, cl_v, cf_v, pk_mul, nI_add, nI_clamp, nI_lt0, nI_0le, nI_eq0, nI_lt0r, nI_ltE, nI_leE, nI_eqE, nI_m1, in_t, ba0, ba1, Nat.one_ne_zero, Nat.reduceEqDiff, Nat.reduceLeDiff, Nat.add_eq_zero_iff, hg7, ok1 hO0, x26 hO0 hV0 w k (by omega) (by omega), e1]
  have h9 := first _ 0 none (Nat.zero_add _)
  rw [show c - sum_ (shp_ s w k c) 0 = c from rfl] at h9
  exact h9.trans g1
/-- the class divides: after `prepare` for a day -/
theorem x35 {day : Nat} (hP : PD m N o s q day) (hC : WC s) (hW : WW s) (hA : WA s) (w a : Nat) (hw : w < cN s 1) (ha : a ≤ 9999999) : ∃ m', am_ca sa sv (d + 4) 35 [.ref (N + 14), .int (nI w), .int (nI a)] m = some (.inl none, m') ∧ Fr (DC N) m m' ∧ (∀ u, u < 12 → gi_ m' (N + 18) u = nI ((dvd_ s day w a).1 u)) ∧ LN m' (N + 22) (dvd_ s day w a).2 ∧ gi_ m' (N + 21) 2 = nI (dvd_ s day w a).2.length := by
  obtain ⟨-, b0⟩ := (wc_nw hC).c (by decide)
  have step : ∀ v st m1, v ≤ cN s 1 → Fr (DC N) m m1 → (∀ u, u < 12 → gi_ m1 (N + 18) u = nI (st.1 u)) → LN m1 (N + 22) st.2 → gi_ m1 (N + 21) 2 = nI st.2.length → lsm_ st.2 + sum_ st.1 v ≤ 9999999 → (dv_ s day v st).2.length ≤ 64 → ∃ m', r35 sa sv (d + 3) 32 [some (.ref (N + 14)), some (.int (nI w)), some (.int (nI a)), some (.int (nI v - nI 1))] [] m1 = some (.inl none, m') ∧ Fr (DC N) m m' ∧ (∀ u, u < 12 → gi_ m' (N + 18) u = nI ((dv_ s day v st).1 u)) ∧ LN m' (N + 22) (dv_ s day v st).2 ∧ gi_ m' (N + 21) 2 = nI (dv_ s day v st).2.length := by
    intro v
    induction v with
    | zero =>
      intro st m1 _ hF1 hc1 hL1 hr1 _ _
      refine ⟨m1, ?_, hF1, hc1, hL1, hr1⟩
      rw [b35_32, gb_pos (by rw [dm_0]; trivial)]
    | succ v ih =>
      intro st m1 hv hF1 hc1 hL1 hr1 hs h64
      have hP1 := hP.fr hF1
      have hX1 := hP1.1
      have hsv : sum_ st.1 (v + 1) = sum_ st.1 v + st.1 v := rfl
      have hws := wk_sum hC hW hA day (show v < cN s 1 by omega) st
      rw [b35_32, dm_s]
      simp (disch := omega) only [gq_true, gb_true, gb_false, true_and, and_true, eq_self, not_false_eq_true, not_true_eq_false, true_or, or_true, false_or, or_false, false_and, and_false, c0_v, ci_v, cl_v, cf_v, pk_mul, nI_add, nI_clamp, nI_lt0, nI_0le, nI_eq0, nI_lt0r, nI_ltE, nI_leE, nI_eqE, nI_m1, in_t, ba0, ba1, Nat.one_ne_zero, Nat.reduceEqDiff, Nat.reduceLeDiff, Nat.add_eq_zero_iff, xk14 hX1, xr14_3 hX1, xk18 hX1, hc1 v (by omega), dm_m]
      by_cases h0 : st.1 v = 0
      · have e : wk_ s day v st = st := if_pos h0
        rw [gb_pos (by rw [nI_le0 (by omega)]; exact h0)]
        have h64' : (dv_ s day v st).2.length ≤ 64 := by have := h64; rw [dv_, e] at this; exact this
        obtain ⟨m', g1, g2, g3, g4, g5⟩ := ih st m1 (by omega) hF1 hc1 hL1 hr1 (by omega) h64'
        refine ⟨m', g1, g2, ?_, ?_, ?_⟩
        · rw [dv_, e]; exact g3
        · rw [dv_, e]; exact g4
        · rw [dv_, e]; exact g5
      · have e : wk_ s day v st = (sra_ s v (st.1 v) (cN s (59 + 48 * v)) st.1, st.2 ++ shs_ s v (spl_ s v day) (st.1 v - srp_ s v (st.1 v) (cN s (59 + 48 * v))) day (cN s (23 + 48 * v + spl_ s v day))) := if_neg h0
        have hsr := srp_le hW (st.1 v) (show v < cN s 1 by omega) (Nat.le_refl (cN s (59 + 48 * v)))
        obtain ⟨m2, g1, g2, g3⟩ := x36 (sa := sa) (sv := sv) (d := d) hP1 hC hW v (st.1 v) (by omega) (by omega) st.1 hc1
        have hF2 := hF1.trans (g2.mono fun _ _ h => (Or.inl h : DC N _ _))
        have hP2 := hP.fr hF2
        have hX2 := hP2.1
        have hn2 : ∀ k, gi_ m2 (N + 22) k = gi_ m1 (N + 22) k := fun k => g2.2.1 _ _ (by omega)
        have hn21 : gi_ m2 (N + 21) 2 = gi_ m1 (N + 21) 2 := g2.2.1 _ _ (by omega)
        have h64w : (wk_ s day v st).2.length ≤ 64 := by
          obtain ⟨t, ht⟩ := dv_pre s day v (wk_ s day v st)
          have h9 : (dv_ s day v (wk_ s day v st)).2.length ≤ 64 := h64
          rw [ht, List.length_append] at h9
          omega
        have h64w' := h64w
        rw [e] at h64w'
        obtain ⟨m3, g4, g5, g6, g7⟩ := x37 (sa := sa) (sv := sv) (d := d) hP2 hC hW hA v (st.1 v - srp_ s v (st.1 v) (cN s (59 + 48 * v))) (by omega) (by omega) (hL1.eq (funext hn2)) (hn21.trans hr1) h64w'
        have hF3 := hF2.trans (g5.mono fun _ _ h => DL.c h)
        have hc3 : ∀ u, u < 12 → gi_ m3 (N + 18) u = nI ((wk_ s day v st).1 u) := fun u hu => by
          rw [e, g5.2.1 _ _ (by rintro (z | ⟨z, -⟩) <;> omega)]; exact g3 u hu
        obtain ⟨m', k1, k2, k3, k4, k5⟩ := ih (wk_ s day v st) m3 (by omega) hF3 hc3 (by rw [e]; exact g6) (by rw [e]; exact g7) (by omega) h64
        refine ⟨m', ?_, k2, k3, k4, k5⟩
        rw [gb_neg (by rw [nI_le0 (by omega)]; exact h0), g1]
        simp (disch := omega) only [gq_true, gb_true, gb_false, true_and, and_true, eq_self, not_false_eq_true, not_true_eq_false, true_or, or_true, false_or, or_false, false_and, and_false, c0_v, ci_v, cl_v, cf_v, pk_mul, nI_add, nI_clamp, nI_lt0, nI_0le, nI_eq0, nI_lt0r, nI_ltE, nI_leE, nI_eqE, nI_m1, in_t, ba0, ba1, Nat.one_ne_zero, Nat.reduceEqDiff, Nat.reduceLeDiff, Nat.add_eq_zero_iff, xk14 hX2]
        rw [pk_sub hsr, g4, c0_v]
        exact k1
  have hX0 := hP.1
  obtain ⟨m1, g1, g2, g3⟩ := x368 (sa := sa) (sv := sv) (d := d + 2) (m := m) (N + 18) 12 (nI 0) (xk18 hX0) (by omega)
  have hF1 : Fr (DC N) m m1 := g2.mono fun _ _ h => Or.inl h
  have hX1 := (hP.fr hF1).1
  have hF2 : Fr (DC N) m (si_ m1 (N + 21) 2 (nI 0)) := hF1.si (Or.inr (Or.inr ⟨rfl, rfl⟩))
  have hX2 := (hP.fr hF2).1
  have hF3 : Fr (DC N) m (si_ (si_ m1 (N + 21) 2 (nI 0)) (N + 18) w (gi_ (si_ m1 (N + 21) 2 (nI 0)) (N + 18) w + nI a)) := hF2.si (Or.inl rfl)
  have hsum : sum_ (fun u => if u = w then a else 0) (w + 1) = a := sum_pt (w + 1) w a (Nat.lt_succ_self w)
  obtain ⟨m', k1, k2, k3, k4, k5⟩ := step (w + 1) (fun u => if u = w then a else 0, []) _ hw hF3 (fun u hu => by
    rw [gi_si]
    by_cases e : u = w
    · rw [if_pos ⟨rfl, e⟩, gi_si, if_neg (by omega), g3 w (by omega), nI_add, Nat.zero_add]
      show _ = nI (if u = w then a else 0)
      rw [if_pos e]
    · rw [if_neg (fun z => e z.2), gi_si, if_neg (by omega), g3 u hu]
      show _ = nI (if u = w then a else 0)
      rw [if_neg e]) (LN.nil _ _) (by rw [gi_si, if_neg (by omega), gi_si, if_pos ⟨rfl, rfl⟩]; rfl) (by show 0 + sum_ (fun u => if u = w then a else 0) (w + 1) ≤ _; omega) (dv_64 hC hW day (w + 1) _ hw)
  refine ⟨m', ?_, k2, k3, k4, k5⟩
  rw [c35, b35_0]
  simp (disch := omega) only [gq_true, gb_true, gb_false, true_and, and_true, eq_self, not_false_eq_true, not_true_eq_false, true_or, or_true, false_or, or_false, false_and, and_false, c0_v, ci_v, cl_v, cf_v, pk_mul, nI_add, nI_clamp, nI_lt0, nI_0le, nI_eq0, nI_lt0r, nI_ltE, nI_leE, nI_eqE, nI_m1, in_t, ba0, ba1, Nat.one_ne_zero, Nat.reduceEqDiff, Nat.reduceLeDiff, Nat.add_eq_zero_iff, xk14 hX0, xr14_3 hX0]
  rw [g1]
  simp (disch := omega) only [gq_true, gb_true, gb_false, true_and, and_true, eq_self, not_false_eq_true, not_true_eq_false, true_or, or_true, false_or, or_false, false_and, and_false, c0_v, ci_v, cl_v, cf_v, pk_mul, nI_add, nI_clamp, nI_lt0, nI_0le, nI_eq0, nI_lt0r, nI_ltE, nI_leE, nI_eqE, nI_m1, in_t, ba0, ba1, Nat.one_ne_zero, Nat.reduceEqDiff, Nat.reduceLeDiff, Nat.add_eq_zero_iff, xk14 hX1, xr14_6 hX1, xk21 hX1, xr14_3 hX1, x34 (N + 18) 12 w (nI a) (xk18 hX2) (by omega) (by omega)]
  rw [if_neg (by omega), show nI w = nI (w + 1) - nI 1 from (dm_s w).symm]
  rw [show (nI (w + 1) - nI 1 : Int32) = nI w from dm_s w]
  rw [dm_s] at k1
  exact k1
end R61
