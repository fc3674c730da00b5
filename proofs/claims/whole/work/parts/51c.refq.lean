/-! the reference answers: next reversion, first open, dearest, richest, payable, lines -/
theorem ea_lit (t c n : Int32) : ea_ t c n = if c ≤ t then n else if n = -1 then c else if n ≤ c then n else c := by
  unfold ea_
  by_cases h : c ≤ t
  · rw [if_neg (fun z => Int32.not_lt.mpr h z.1), if_pos h]
  · rw [if_neg h]
    by_cases h1 : n = -1
    · rw [if_pos ⟨Int32.not_le.mp h, Or.inl h1⟩, if_pos h1]
    · rw [if_neg h1]
      by_cases h2 : n ≤ c
      · rw [if_neg (by rintro ⟨-, z | z⟩; exact h1 z; exact Int32.not_lt.mpr h2 z), if_pos h2]
      · rw [if_pos ⟨Int32.not_le.mp h, Or.inr (Int32.not_le.mp h2)⟩, if_neg h2]
theorem pay_eq (s : Nat → Int32) (q : Nat → Int64) : ∀ n, msk_ (paid_ s q) n = pay_ s q n := by
  intro n
  induction n with
  | zero => rfl
  | succ n ih =>
    show msk_ (paid_ s q) n ||| (bif paid_ s q n then 1 else 0) * 2 ^ n = bif paid_ s q n then pay_ s q n ||| 2 ^ n else pay_ s q n
    rw [ih]
    cases paid_ s q n
    · rw [cond_false, cond_false, Nat.zero_mul, Nat.or_zero]
    · rw [cond_true, cond_true, Nat.one_mul]
section R51
variable {sa sv d N B : Nat} {m : am_M} {s : Nat → Int32} {q : Nat → Int64}
theorem y304 (hR : RS m N s q) (hC : WC s) : am_ca sa sv (d + 2) 304 [.ref (N + 243)] m = some (.inl (some (.int (nrev_ s (cN s 2)))), si_ m (N + 243) 0 (nI (0))) := by
  obtain ⟨e0, b0⟩ := (wc_na hC).c (by decide)
  have hR3 := hR.c 0 (nI 0)
  have step : ∀ n i (o3 : Option Value), i + n = cN s 2 → r304 sa sv (d + 1) 9 [some (.ref (N + 243)), some (.int (nrev_ s i)), some (.int (nI i)), o3] [] (si_ m (N + 243) 0 (nI 0)) = some (.inl (some (.int (nrev_ s (cN s 2)))), si_ m (N + 243) 0 (nI (0))) := by
    intro n
    induction n with
    | zero =>
      intro i o3 hi
      rw [b304_9]
      simp (disch := omega) only [gq_true, gb_true, gb_false, true_and, and_true, eq_self, not_false_eq_true, not_true_eq_false, true_or, or_true, false_or, or_false, false_and, and_false, c0_v, ci_v, cl_v, cf_v, pk_mul, nI_add, nI_clamp, nI_lt0, nI_0le, nI_eq0, nI_lt0r, nI_ltE, nI_leE, nI_eqE, nI_m1, in_t, ba0, ba1, Nat.one_ne_zero, Nat.reduceEqDiff, Nat.reduceLeDiff, Nat.add_eq_zero_iff, rk243 hR3, rr15 hR3, rk245 hR3, rr19 hR3, rk249 hR3, rs hR3, rq hR3]
      rw [e0]
      simp (disch := omega) only [gq_true, gb_true, gb_false, true_and, and_true, eq_self, not_false_eq_true, not_true_eq_false, true_or, or_true, false_or, or_false, false_and, and_false, c0_v, ci_v, cl_v, cf_v, pk_mul, nI_add, nI_clamp, nI_lt0, nI_0le, nI_eq0, nI_lt0r, nI_ltE, nI_leE, nI_eqE, nI_m1, in_t, ba0, ba1, Nat.one_ne_zero, Nat.reduceEqDiff, Nat.reduceLeDiff, Nat.add_eq_zero_iff]
      rw [gb_pos (by omega), show i = cN s 2 by omega]
    | succ n ih =>
      intro i o3 hi
      have e9 : nrev_ s (i + 1) = ea_ (s 4) (s (594 + 6 * i + 5)) (nrev_ s i) := rfl
      rw [ea_lit] at e9
      have hn := ih (i + 1)
      rw [e9] at hn
      rw [b304_9]
      simp (disch := omega) only [gq_true, gb_true, gb_false, true_and, and_true, eq_self, not_false_eq_true, not_true_eq_false, true_or, or_true, false_or, or_false, false_and, and_false, c0_v, ci_v, cl_v, cf_v, pk_mul, nI_add, nI_clamp, nI_lt0, nI_0le, nI_eq0, nI_lt0r, nI_ltE, nI_leE, nI_eqE, nI_m1, in_t, ba0, ba1, Nat.one_ne_zero, Nat.reduceEqDiff, Nat.reduceLeDiff, Nat.add_eq_zero_iff, rk243 hR3, rr15 hR3, rk245 hR3, rr19 hR3, rk249 hR3, rs hR3, rq hR3]
      rw [e0]
      simp (disch := omega) only [gq_true, gb_true, gb_false, true_and, and_true, eq_self, not_false_eq_true, not_true_eq_false, true_or, or_true, false_or, or_false, false_and, and_false, c0_v, ci_v, cl_v, cf_v, pk_mul, nI_add, nI_clamp, nI_lt0, nI_0le, nI_eq0, nI_lt0r, nI_ltE, nI_leE, nI_eqE, nI_m1, in_t, ba0, ba1, Nat.one_ne_zero, Nat.reduceEqDiff, Nat.reduceLeDiff, Nat.add_eq_zero_iff, y257 hR3 i 5 (by omega), rk243 hR3, rr15 hR3, rk245 hR3, rr19 hR3, rk249 hR3, rs hR3, rq hR3]
      rw [gb_neg (by omega)]
      by_cases h : s (594 + 6 * i + 5) ≤ s 4
      · rw [gb_pos h]; rw [if_pos h] at hn; exact hn _ (by omega)
      · rw [gb_neg h]; rw [if_neg h] at hn
        by_cases h1 : nrev_ s i = -1
        · rw [gb_pos h1]; rw [if_pos h1] at hn; exact hn _ (by omega)
        · rw [gb_neg h1]; rw [if_neg h1] at hn
          by_cases h2 : nrev_ s i ≤ s (594 + 6 * i + 5)
          · rw [gb_pos h2]; rw [if_pos h2] at hn; exact hn _ (by omega)
          · rw [gb_neg h2]; rw [if_neg h2] at hn; exact hn _ (by omega)
  rw [c304, b304_0]
  simp (disch := omega) only [gq_true, gb_true, gb_false, true_and, and_true, eq_self, not_false_eq_true, not_true_eq_false, true_or, or_true, false_or, or_false, false_and, and_false, c0_v, ci_v, cl_v, cf_v, pk_mul, nI_add, nI_clamp, nI_lt0, nI_0le, nI_eq0, nI_lt0r, nI_ltE, nI_leE, nI_eqE, nI_m1, in_t, ba0, ba1, Nat.one_ne_zero, Nat.reduceEqDiff, Nat.reduceLeDiff, Nat.add_eq_zero_iff, rk243 hR, rr15 hR, rk245 hR, rr19 hR, rk249 hR, rs hR, rq hR]
  exact step _ 0 _ (Nat.zero_add _)
theorem y305 (hR : RS m N s q) (hC : WC s) (l0 : Int32) : am_ca sa sv (d + 4) 305 [.ref (N + 243), .int l0] m = (bif inR l0 10000 then some (.inl (some (.int (revs_ s (s 4 + l0) (cN s 2)))), si_ m (N + 243) 0 (nI (0))) else some (.inl (some (.int (nI 0))), si_ m (N + 243) 0 (nI (1)))) := by
  obtain ⟨e0, b0⟩ := (wc_na hC).c (by decide)
  obtain ⟨e4, b4⟩ := (wc_day hC).c (by decide)
  have hR3 := hR.c 0 (nI 0)
  cases hb : inR l0 10000 with
  | false =>
    rw [c305, b305_0]
    simp (disch := omega) only [gq_true, gb_true, gb_false, true_and, and_true, eq_self, not_false_eq_true, not_true_eq_false, true_or, or_true, false_or, or_false, false_and, and_false, c0_v, ci_v, cl_v, cf_v, pk_mul, nI_add, nI_clamp, nI_lt0, nI_0le, nI_eq0, nI_lt0r, nI_ltE, nI_leE, nI_eqE, nI_m1, in_t, ba0, ba1, Nat.one_ne_zero, Nat.reduceEqDiff, Nat.reduceLeDiff, Nat.add_eq_zero_iff, rk243 hR, rr15 hR, rk245 hR, rr19 hR, rk249 hR, rs hR, rq hR, y222, yin _ (9999 : Int64) 10000 (by decide), hb, tr_f, y225_0 hR, cond_false]
  | true =>
    obtain ⟨k0, hk0, rfl⟩ := (inR_t (by decide)).mp hb
    have H := lp_up (fun i => r305 sa sv (d + 3) 22 [some (.ref (N + 243)), some (.int (nI k0)), some (.int (revs_ s (s 4 + nI k0) i)), some (.int (nI i))] [] (si_ m (N + 243) 0 (nI 0))) (cN s 2) (fun i hi => by
      show r305 sa sv (d + 3) 22 _ [] _ = _
      have e9 : revs_ s (s 4 + nI k0) (i + 1) = if s 4 < s (594 + 6 * i + 5) ∧ s (594 + 6 * i + 5) ≤ s 4 + nI k0 then revs_ s (s 4 + nI k0) i + nI 1 else revs_ s (s 4 + nI k0) i := rfl
      rw [b305_22]
      simp (disch := omega) only [gq_true, gb_true, gb_false, true_and, and_true, eq_self, not_false_eq_true, not_true_eq_false, true_or, or_true, false_or, or_false, false_and, and_false, c0_v, ci_v, cl_v, cf_v, pk_mul, nI_add, nI_clamp, nI_lt0, nI_0le, nI_eq0, nI_lt0r, nI_ltE, nI_leE, nI_eqE, nI_m1, in_t, ba0, ba1, Nat.one_ne_zero, Nat.reduceEqDiff, Nat.reduceLeDiff, Nat.add_eq_zero_iff, rk243 hR3, rr15 hR3, rk245 hR3, rr19 hR3, rk249 hR3, rs hR3, rq hR3]
      rw [e0]
      simp (disch := omega) only [gq_true, gb_true, gb_false, true_and, and_true, eq_self, not_false_eq_true, not_true_eq_false, true_or, or_true, false_or, or_false, false_and, and_false, c0_v, ci_v, cl_v, cf_v, pk_mul, nI_add, nI_clamp, nI_lt0, nI_0le, nI_eq0, nI_lt0r, nI_ltE, nI_leE, nI_eqE, nI_m1, in_t, ba0, ba1, Nat.one_ne_zero, Nat.reduceEqDiff, Nat.reduceLeDiff, Nat.add_eq_zero_iff, y257 hR3 i 5 (by omega), rk243 hR3, rr15 hR3, rk245 hR3, rr19 hR3, rk249 hR3, rs hR3, rq hR3, y222, y223]
      rw [gb_neg (by omega), e9]
      have hc : ((s 4 + nI 1).toInt64 ≤ (s (594 + 6 * i + 5)).toInt64 ∧ (s (594 + 6 * i + 5)).toInt64 ≤ (s 4 + nI k0).toInt64) ↔ (s 4 < s (594 + 6 * i + 5) ∧ s (594 + 6 * i + 5) ≤ s 4 + nI k0) := by
        rw [l_le, l_le, Int32.lt_iff_toInt_lt, Int32.le_iff_toInt_le, e4, nI_add, nI_add, nI_toInt (by omega), nI_toInt (by omega), nI_toInt (by omega)]
        omega
      by_cases h : s 4 < s (594 + 6 * i + 5) ∧ s (594 + 6 * i + 5) ≤ s 4 + nI k0
      · rw [if_pos h, decide_eq_true (hc.mpr h)]; rfl
      · rw [if_neg h, decide_eq_false (fun z => h (hc.mp z)), tr_f, show revs_ s (s 4 + nI k0) i + nI 0 = revs_ s (s 4 + nI k0) i from Int32.add_zero _])
    rw [c305, b305_0]
    simp (disch := omega) only [gq_true, gb_true, gb_false, true_and, and_true, eq_self, not_false_eq_true, not_true_eq_false, true_or, or_true, false_or, or_false, false_and, and_false, c0_v, ci_v, cl_v, cf_v, pk_mul, nI_add, nI_clamp, nI_lt0, nI_0le, nI_eq0, nI_lt0r, nI_ltE, nI_leE, nI_eqE, nI_m1, in_t, ba0, ba1, Nat.one_ne_zero, Nat.reduceEqDiff, Nat.reduceLeDiff, Nat.add_eq_zero_iff, rk243 hR, rr15 hR, rk245 hR, rr19 hR, rk249 hR, rs hR, rq hR, y222, yin _ (9999 : Int64) 10000 (by decide), hb, tr_t, y225_1 hR, cond_true]
    refine H.trans ?_
    show r305 sa sv (d + 3) 22 _ [] _ = _
    rw [b305_22]
    simp (disch := omega) only [gq_true, gb_true, gb_false, true_and, and_true, eq_self, not_false_eq_true, not_true_eq_false, true_or, or_true, false_or, or_false, false_and, and_false, c0_v, ci_v, cl_v, cf_v, pk_mul, nI_add, nI_clamp, nI_lt0, nI_0le, nI_eq0, nI_lt0r, nI_ltE, nI_leE, nI_eqE, nI_m1, in_t, ba0, ba1, Nat.one_ne_zero, Nat.reduceEqDiff, Nat.reduceLeDiff, Nat.add_eq_zero_iff, rk243 hR3, rr15 hR3, rk245 hR3, rr19 hR3, rk249 hR3, rs hR3, rq hR3]
    rw [e0]
    simp (disch := omega) only [gq_true, gb_true, gb_false, true_and, and_true, eq_self, not_false_eq_true, not_true_eq_false, true_or, or_true, false_or, or_false, false_and, and_false, c0_v, ci_v, cl_v, cf_v, pk_mul, nI_add, nI_clamp, nI_lt0, nI_0le, nI_eq0, nI_lt0r, nI_ltE, nI_leE, nI_eqE, nI_m1, in_t, ba0, ba1, Nat.one_ne_zero, Nat.reduceEqDiff, Nat.reduceLeDiff, Nat.add_eq_zero_iff, Nat.le_refl]
theorem y309 (hR : RS m N s q) (hC : WC s) (l0 : Int32) : am_ca sa sv (d + 4) 309 [.ref (N + 243), .int l0] m = (bif inR l0 (cN s 0) then some (.inl (some (.int (ix_ (fop_ s l0) (cN s 3)))), si_ m (N + 243) 0 (nI (0))) else some (.inl (some (.int (nI 0))), si_ m (N + 243) 0 (nI (1)))) := by
  obtain ⟨e0, b0⟩ := (wc_nd hC).c (by decide)
  have hR3 := hR.c 0 (nI 0)
  cases hb : inR l0 (cN s 0) with
  | false =>
    rw [c309, b309_0]
    simp (disch := omega) only [gq_true, gb_true, gb_false, true_and, and_true, eq_self, not_false_eq_true, not_true_eq_false, true_or, or_true, false_or, or_false, false_and, and_false, c0_v, ci_v, cl_v, cf_v, pk_mul, nI_add, nI_clamp, nI_lt0, nI_0le, nI_eq0, nI_lt0r, nI_ltE, nI_leE, nI_eqE, nI_m1, in_t, ba0, ba1, Nat.one_ne_zero, Nat.reduceEqDiff, Nat.reduceLeDiff, Nat.add_eq_zero_iff, rk243 hR, rr15 hR, rk245 hR, rr19 hR, rk249 hR, rs hR, rq hR, y285 hR hC, hb, tr_f, y225_0 hR, cond_false]
  | true =>
    have step : ∀ n i, i + n = cN s 3 → r309 sa sv (d + 3) 16 [some (.ref (N + 243)), some (.int l0), some (.int (nI i))] [] (si_ m (N + 243) 0 (nI 0)) = some (.inl (some (.int (ix_ (fst_ (fun a => decide (s (690 + 6 * a + 1) = l0 ∧ 0 < s (690 + 6 * a + 5))) n i) (cN s 3)))), si_ m (N + 243) 0 (nI (0))) := by
      intro n
      induction n with
      | zero =>
        intro i hi
        rw [b309_16]
        simp (disch := omega) only [gq_true, gb_true, gb_false, true_and, and_true, eq_self, not_false_eq_true, not_true_eq_false, true_or, or_true, false_or, or_false, false_and, and_false, c0_v, ci_v, cl_v, cf_v, pk_mul, nI_add, nI_clamp, nI_lt0, nI_0le, nI_eq0, nI_lt0r, nI_ltE, nI_leE, nI_eqE, nI_m1, in_t, ba0, ba1, Nat.one_ne_zero, Nat.reduceEqDiff, Nat.reduceLeDiff, Nat.add_eq_zero_iff, rk243 hR3, rr15 hR3, rk245 hR3, rr19 hR3, rk249 hR3, rs hR3, rq hR3]
        rw [e0]
        simp (disch := omega) only [gq_true, gb_true, gb_false, true_and, and_true, eq_self, not_false_eq_true, not_true_eq_false, true_or, or_true, false_or, or_false, false_and, and_false, c0_v, ci_v, cl_v, cf_v, pk_mul, nI_add, nI_clamp, nI_lt0, nI_0le, nI_eq0, nI_lt0r, nI_ltE, nI_leE, nI_eqE, nI_m1, in_t, ba0, ba1, Nat.one_ne_zero, Nat.reduceEqDiff, Nat.reduceLeDiff, Nat.add_eq_zero_iff]
        rw [gb_pos (by omega), fst_, ix_, if_neg (by omega)]
      | succ n ih =>
        intro i hi
        rw [b309_16]
        simp (disch := omega) only [gq_true, gb_true, gb_false, true_and, and_true, eq_self, not_false_eq_true, not_true_eq_false, true_or, or_true, false_or, or_false, false_and, and_false, c0_v, ci_v, cl_v, cf_v, pk_mul, nI_add, nI_clamp, nI_lt0, nI_0le, nI_eq0, nI_lt0r, nI_ltE, nI_leE, nI_eqE, nI_m1, in_t, ba0, ba1, Nat.one_ne_zero, Nat.reduceEqDiff, Nat.reduceLeDiff, Nat.add_eq_zero_iff, rk243 hR3, rr15 hR3, rk245 hR3, rr19 hR3, rk249 hR3, rs hR3, rq hR3]
        rw [e0]
        simp (disch := omega) only [gq_true, gb_true, gb_false, true_and, and_true, eq_self, not_false_eq_true, not_true_eq_false, true_or, or_true, false_or, or_false, false_and, and_false, c0_v, ci_v, cl_v, cf_v, pk_mul, nI_add, nI_clamp, nI_lt0, nI_0le, nI_eq0, nI_lt0r, nI_ltE, nI_leE, nI_eqE, nI_m1, in_t, ba0, ba1, Nat.one_ne_zero, Nat.reduceEqDiff, Nat.reduceLeDiff, Nat.add_eq_zero_iff, y258 hR3 i 1 (by omega), y258 hR3 i 5 (by omega)]
        rw [gb_neg (by omega)]
        by_cases h : s (690 + 6 * i + 1) = l0
        · rw [gb_pos h, gq_pos (rk243 hR3)]
          by_cases h1 : 0 < s (690 + 6 * i + 5)
          · rw [gb_neg (Int32.not_le.mpr h1), fst_s (decide_eq_true ⟨h, h1⟩), ix_, if_pos (by omega)]
          · rw [gb_pos (Int32.not_lt.mp h1), fst_n (decide_eq_false (fun z => h1 z.2))]
            exact ih (i + 1) (by omega)
        · rw [gb_neg h, fst_n (decide_eq_false (fun z => h z.1))]
          exact ih (i + 1) (by omega)
    rw [c309, b309_0]
    simp (disch := omega) only [gq_true, gb_true, gb_false, true_and, and_true, eq_self, not_false_eq_true, not_true_eq_false, true_or, or_true, false_or, or_false, false_and, and_false, c0_v, ci_v, cl_v, cf_v, pk_mul, nI_add, nI_clamp, nI_lt0, nI_0le, nI_eq0, nI_lt0r, nI_ltE, nI_leE, nI_eqE, nI_m1, in_t, ba0, ba1, Nat.one_ne_zero, Nat.reduceEqDiff, Nat.reduceLeDiff, Nat.add_eq_zero_iff, rk243 hR, rr15 hR, rk245 hR, rr19 hR, rk249 hR, rs hR, rq hR, y285 hR hC, hb, tr_t, y225_1 hR, cond_true]
    exact step _ 0 (Nat.zero_add _)
theorem y314 (hR : RS m N s q) (hC : WC s) (hZ : WZ s q) : am_ca sa sv (d + 1) 314 [.ref (N + 243)] m = some (.inl (some (.int ((dear_ q 12).1))), si_ m (N + 243) 0 (nI (0))) := by
  obtain ⟨e0, b0⟩ := (wc_nw hC).c (by decide)
  have hR3 := hR.c 0 (nI 0)
  have H := lp_up (fun i => r314 sa sv d 12 [some (.ref (N + 243)), some (.int (dear_ q i).1), some (.long (dear_ q i).2), none, some (.int (nI i))] [] (si_ m (N + 243) 0 (nI 0))) (cN s 1) (fun i hi => by
    show r314 sa sv d 12 _ [] _ = _
    have e9 : dear_ q (i + 1) = if (dear_ q i).2 < q (200 + i) then (nI i, q (200 + i)) else dear_ q i := rfl
    rw [b314_12]
    simp (disch := omega) only [gq_true, gb_true, gb_false, true_and, and_true, eq_self, not_false_eq_true, not_true_eq_false, true_or, or_true, false_or, or_false, false_and, and_false, c0_v, ci_v, cl_v, cf_v, pk_mul, nI_add, nI_clamp, nI_lt0, nI_0le, nI_eq0, nI_lt0r, nI_ltE, nI_leE, nI_eqE, nI_m1, in_t, ba0, ba1, Nat.one_ne_zero, Nat.reduceEqDiff, Nat.reduceLeDiff, Nat.add_eq_zero_iff, rk243 hR3, rr15 hR3, rk245 hR3, rr19 hR3, rk249 hR3, rs hR3, rq hR3, lgc_gt]
    rw [e0]
    simp (disch := omega) only [gq_true, gb_true, gb_false, true_and, and_true, eq_self, not_false_eq_true, not_true_eq_false, true_or, or_true, false_or, or_false, false_and, and_false, c0_v, ci_v, cl_v, cf_v, pk_mul, nI_add, nI_clamp, nI_lt0, nI_0le, nI_eq0, nI_lt0r, nI_ltE, nI_leE, nI_eqE, nI_m1, in_t, ba0, ba1, Nat.one_ne_zero, Nat.reduceEqDiff, Nat.reduceLeDiff, Nat.add_eq_zero_iff]
    rw [gb_neg (by omega)]
    by_cases h : (dear_ q i).2 < q (200 + i)
    · rw [gb_pos h, e9, if_pos h]
    · rw [gb_neg h, e9, if_neg h])
  rw [c314, b314_0]
  simp (disch := omega) only [gq_true, gb_true, gb_false, true_and, and_true, eq_self, not_false_eq_true, not_true_eq_false, true_or, or_true, false_or, or_false, false_and, and_false, c0_v, ci_v, cl_v, cf_v, pk_mul, nI_add, nI_clamp, nI_lt0, nI_0le, nI_eq0, nI_lt0r, nI_ltE, nI_leE, nI_eqE, nI_m1, in_t, ba0, ba1, Nat.one_ne_zero, Nat.reduceEqDiff, Nat.reduceLeDiff, Nat.add_eq_zero_iff, rk243 hR, rr15 hR, rk245 hR, rr19 hR, rk249 hR, rs hR, rq hR]
  refine H.trans ?_
  show r314 sa sv d 12 _ [] _ = _
  rw [b314_12]
  simp (disch := omega) only [gq_true, gb_true, gb_false, true_and, and_true, eq_self, not_false_eq_true, not_true_eq_false, true_or, or_true, false_or, or_false, false_and, and_false, c0_v, ci_v, cl_v, cf_v, pk_mul, nI_add, nI_clamp, nI_lt0, nI_0le, nI_eq0, nI_lt0r, nI_ltE, nI_leE, nI_eqE, nI_m1, in_t, ba0, ba1, Nat.one_ne_zero, Nat.reduceEqDiff, Nat.reduceLeDiff, Nat.add_eq_zero_iff, rk243 hR3, rr15 hR3, rk245 hR3, rr19 hR3, rk249 hR3, rs hR3, rq hR3]
  rw [e0]
  simp (disch := omega) only [gq_true, gb_true, gb_false, true_and, and_true, eq_self, not_false_eq_true, not_true_eq_false, true_or, or_true, false_or, or_false, false_and, and_false, c0_v, ci_v, cl_v, cf_v, pk_mul, nI_add, nI_clamp, nI_lt0, nI_0le, nI_eq0, nI_lt0r, nI_ltE, nI_leE, nI_eqE, nI_m1, in_t, ba0, ba1, Nat.one_ne_zero, Nat.reduceEqDiff, Nat.reduceLeDiff, Nat.add_eq_zero_iff, Nat.le_refl]
  rw [dear_eq hZ 12 (by omega) (Nat.le_refl _)]
theorem y316 (hR : RS m N s q) (hC : WC s) : am_ca sa sv (d + 1) 316 [.ref (N + 243)] m = some (.inl (some (.int (nI (rich_ q (cN s 0)).1))), si_ m (N + 243) 0 (nI (0))) := by
  obtain ⟨e0, b0⟩ := (wc_np hC).c (by decide)
  have hR3 := hR.c 0 (nI 0)
  have step : ∀ n i (o5 o6 : Option Value), i + n = cN s 0 → r316 sa sv d 14 [some (.ref (N + 243)), some (.int (nI (rich_ q i).1)), some (.long (rich_ q i).2), none, some (.int (nI i)), o5, o6] [] (si_ m (N + 243) 0 (nI 0)) = some (.inl (some (.int (nI (rich_ q (cN s 0)).1))), si_ m (N + 243) 0 (nI (0))) := by
    intro n
    induction n with
    | zero =>
      intro i o5 o6 hi
      rw [b316_14]
      simp (disch := omega) only [gq_true, gb_true, gb_false, true_and, and_true, eq_self, not_false_eq_true, not_true_eq_false, true_or, or_true, false_or, or_false, false_and, and_false, c0_v, ci_v, cl_v, cf_v, pk_mul, nI_add, nI_clamp, nI_lt0, nI_0le, nI_eq0, nI_lt0r, nI_ltE, nI_leE, nI_eqE, nI_m1, in_t, ba0, ba1, Nat.one_ne_zero, Nat.reduceEqDiff, Nat.reduceLeDiff, Nat.add_eq_zero_iff, rk243 hR3, rr15 hR3, rk245 hR3, rr19 hR3, rk249 hR3, rs hR3, rq hR3]
      rw [e0]
      simp (disch := omega) only [gq_true, gb_true, gb_false, true_and, and_true, eq_self, not_false_eq_true, not_true_eq_false, true_or, or_true, false_or, or_false, false_and, and_false, c0_v, ci_v, cl_v, cf_v, pk_mul, nI_add, nI_clamp, nI_lt0, nI_0le, nI_eq0, nI_lt0r, nI_ltE, nI_leE, nI_eqE, nI_m1, in_t, ba0, ba1, Nat.one_ne_zero, Nat.reduceEqDiff, Nat.reduceLeDiff, Nat.add_eq_zero_iff]
      rw [gb_pos (by omega), show i = cN s 0 by omega]
    | succ n ih =>
      intro i o5 o6 hi
      have e9 : rich_ q (i + 1) = if (rich_ q i).2 < q i then (2 ^ i, q i) else if q i = (rich_ q i).2 then ((rich_ q i).1 ||| 2 ^ i, (rich_ q i).2) else rich_ q i := rfl
      have hn := ih (i + 1) (some (.long (q i))) none (by omega)
      rw [e9] at hn
      rw [b316_14]
      simp (disch := omega) only [gq_true, gb_true, gb_false, true_and, and_true, eq_self, not_false_eq_true, not_true_eq_false, true_or, or_true, false_or, or_false, false_and, and_false, c0_v, ci_v, cl_v, cf_v, pk_mul, nI_add, nI_clamp, nI_lt0, nI_0le, nI_eq0, nI_lt0r, nI_ltE, nI_leE, nI_eqE, nI_m1, in_t, ba0, ba1, Nat.one_ne_zero, Nat.reduceEqDiff, Nat.reduceLeDiff, Nat.add_eq_zero_iff, rk243 hR3, rr15 hR3, rk245 hR3, rr19 hR3, rk249 hR3, rs hR3, rq hR3, Nat.zero_add]
      rw [e0]
      simp (disch := omega) only [gq_true, gb_true, gb_false, true_and, and_true, eq_self, not_false_eq_true, not_true_eq_false, true_or, or_true, false_or, or_false, false_and, and_false, c0_v, ci_v, cl_v, cf_v, pk_mul, nI_add, nI_clamp, nI_lt0, nI_0le, nI_eq0, nI_lt0r, nI_ltE, nI_leE, nI_eqE, nI_m1, in_t, ba0, ba1, Nat.one_ne_zero, Nat.reduceEqDiff, Nat.reduceLeDiff, Nat.add_eq_zero_iff, lgc_le, lgc_eq, b316_67]
      rw [gb_neg (by omega), nI_sh1 _ (by omega), nI_or]
      by_cases h : (rich_ q i).2 < q i
      · rw [if_pos h] at hn
        rw [gb_neg (Int64.not_le.mpr h), gb_neg (Int64.not_le.mpr h)]
        exact hn
      · rw [if_neg h] at hn
        rw [gb_pos (Int64.not_lt.mp h)]
        by_cases h1 : q i = (rich_ q i).2
        · rw [if_pos h1] at hn
          rw [gb_pos h1, gb_pos (Int64.not_lt.mp h)]
          exact hn
        · rw [if_neg h1] at hn
          rw [gb_neg h1, gb_pos (Int64.not_lt.mp h)]
          exact hn
  rw [c316, b316_0]
  simp (disch := omega) only [gq_true, gb_true, gb_false, true_and, and_true, eq_self, not_false_eq_true, not_true_eq_false, true_or, or_true, false_or, or_false, false_and, and_false, c0_v, ci_v, cl_v, cf_v, pk_mul, nI_add, nI_clamp, nI_lt0, nI_0le, nI_eq0, nI_lt0r, nI_ltE, nI_leE, nI_eqE, nI_m1, in_t, ba0, ba1, Nat.one_ne_zero, Nat.reduceEqDiff, Nat.reduceLeDiff, Nat.add_eq_zero_iff, rk243 hR, rr15 hR, rk245 hR, rr19 hR, rk249 hR, rs hR, rq hR]
  exact step _ 0 _ _ (Nat.zero_add _)
theorem y318 (hR : RS m N s q) (hC : WC s) : am_ca sa sv (d + 2) 318 [.ref (N + 243)] m = some (.inl (some (.int (nI (pay_ s q (cN s 0))))), si_ m (N + 243) 0 (nI (0))) := by
  obtain ⟨e0, b0⟩ := (wc_np hC).c (by decide)
  have hR3 := hR.c 0 (nI 0)
  have H := lp_up (fun i => r318 sa sv (d + 1) 9 [some (.ref (N + 243)), some (.int (nI (msk_ (paid_ s q) i))), some (.int (nI i))] [] (si_ m (N + 243) 0 (nI 0))) (cN s 0) (fun i hi => by
    show r318 sa sv (d + 1) 9 _ [] _ = _
    rw [b318_9]
    simp (disch := omega) only [gq_true, gb_true, gb_false, true_and, and_true, eq_self, not_false_eq_true, not_true_eq_false, true_or, or_true, false_or, or_false, false_and, and_false, c0_v, ci_v, cl_v, cf_v, pk_mul, nI_add, nI_clamp, nI_lt0, nI_0le, nI_eq0, nI_lt0r, nI_ltE, nI_leE, nI_eqE, nI_m1, in_t, ba0, ba1, Nat.one_ne_zero, Nat.reduceEqDiff, Nat.reduceLeDiff, Nat.add_eq_zero_iff, rk243 hR3, rr15 hR3, rk245 hR3, rr19 hR3, rk249 hR3, rs hR3, rq hR3]
    rw [e0]
    simp (disch := omega) only [gq_true, gb_true, gb_false, true_and, and_true, eq_self, not_false_eq_true, not_true_eq_false, true_or, or_true, false_or, or_false, false_and, and_false, c0_v, ci_v, cl_v, cf_v, pk_mul, nI_add, nI_clamp, nI_lt0, nI_0le, nI_eq0, nI_lt0r, nI_ltE, nI_leE, nI_eqE, nI_m1, in_t, ba0, ba1, Nat.one_ne_zero, Nat.reduceEqDiff, Nat.reduceLeDiff, Nat.add_eq_zero_iff, y317 hR3 i (by omega), y223]
    rw [gb_neg (by omega), msk_, show tr_ (paid_ s q i) = nI (bif paid_ s q i then 1 else 0) by cases paid_ s q i <;> rfl, nI_shm (by omega), nI_or])
  rw [c318, b318_0]
  simp (disch := omega) only [gq_true, gb_true, gb_false, true_and, and_true, eq_self, not_false_eq_true, not_true_eq_false, true_or, or_true, false_or, or_false, false_and, and_false, c0_v, ci_v, cl_v, cf_v, pk_mul, nI_add, nI_clamp, nI_lt0, nI_0le, nI_eq0, nI_lt0r, nI_ltE, nI_leE, nI_eqE, nI_m1, in_t, ba0, ba1, Nat.one_ne_zero, Nat.reduceEqDiff, Nat.reduceLeDiff, Nat.add_eq_zero_iff, rk243 hR, rr15 hR, rk245 hR, rr19 hR, rk249 hR, rs hR, rq hR]
  refine H.trans ?_
  show r318 sa sv (d + 1) 9 _ [] _ = _
  rw [b318_9]
  simp (disch := omega) only [gq_true, gb_true, gb_false, true_and, and_true, eq_self, not_false_eq_true, not_true_eq_false, true_or, or_true, false_or, or_false, false_and, and_false, c0_v, ci_v, cl_v, cf_v, pk_mul, nI_add, nI_clamp, nI_lt0, nI_0le, nI_eq0, nI_lt0r, nI_ltE, nI_leE, nI_eqE, nI_m1, in_t, ba0, ba1, Nat.one_ne_zero, Nat.reduceEqDiff, Nat.reduceLeDiff, Nat.add_eq_zero_iff, rk243 hR3, rr15 hR3, rk245 hR3, rr19 hR3, rk249 hR3, rs hR3, rq hR3]
  rw [e0]
  simp (disch := omega) only [gq_true, gb_true, gb_false, true_and, and_true, eq_self, not_false_eq_true, not_true_eq_false, true_or, or_true, false_or, or_false, false_and, and_false, c0_v, ci_v, cl_v, cf_v, pk_mul, nI_add, nI_clamp, nI_lt0, nI_0le, nI_eq0, nI_lt0r, nI_ltE, nI_leE, nI_eqE, nI_m1, in_t, ba0, ba1, Nat.one_ne_zero, Nat.reduceEqDiff, Nat.reduceLeDiff, Nat.add_eq_zero_iff, Nat.le_refl]
  rw [pay_eq]
theorem y319 (hR : RS m N s q) : am_ca sa sv (d + 1) 319 [.ref (N + 243)] m = some (.inl (some (.int (s 6))), si_ m (N + 243) 0 (nI (0))) := by
  have hR3 := hR.c 0 (nI 0)
  rw [c319, b319_0]
  simp (disch := omega) only [gq_true, gb_true, gb_false, true_and, and_true, eq_self, not_false_eq_true, not_true_eq_false, true_or, or_true, false_or, or_false, false_and, and_false, c0_v, ci_v, cl_v, cf_v, pk_mul, nI_add, nI_clamp, nI_lt0, nI_0le, nI_eq0, nI_lt0r, nI_ltE, nI_leE, nI_eqE, nI_m1, in_t, ba0, ba1, Nat.one_ne_zero, Nat.reduceEqDiff, Nat.reduceLeDiff, Nat.add_eq_zero_iff, rk243 hR, rr15 hR, rk245 hR, rr19 hR, rk249 hR, rs hR, rq hR, rk243 hR3, rr15 hR3, rk245 hR3, rr19 hR3, rk249 hR3, rs hR3, rq hR3]
end R51
