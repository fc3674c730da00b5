/-! the reference answers: its reading methods, whole -/
theorem tr_t : tr_ true = nI 1 := rfl
theorem tr_f : tr_ false = nI 0 := rfl
section R51
variable {sa sv d N B : Nat} {m : am_M} {s : Nat → Int32} {q : Nat → Int64}
theorem y225_0 (hR : RS m N s q) : am_ca sa sv (d + 2) 225 [.ref (N + 243), .int (nI 0)] m = some (.inl (some (.int (nI 0))), si_ m (N + 243) 0 (nI 1)) := y225 hR false
theorem y225_1 (hR : RS m N s q) : am_ca sa sv (d + 2) 225 [.ref (N + 243), .int (nI 1)] m = some (.inl (some (.int (nI 1))), si_ m (N + 243) 0 (nI 0)) := y225 hR true
theorem y226_00 (hR : RS m N s q) : am_ca sa sv (d + 1) 226 [.ref (N + 243), .int (nI 0), .int (nI 0)] m = some (.inl (some (.int (nI 0))), si_ m (N + 243) 0 (nI 1)) := y226 hR false false
theorem y226_01 (hR : RS m N s q) : am_ca sa sv (d + 1) 226 [.ref (N + 243), .int (nI 0), .int (nI 1)] m = some (.inl (some (.int (nI 0))), si_ m (N + 243) 0 (nI 1)) := y226 hR false true
theorem y226_10 (hR : RS m N s q) : am_ca sa sv (d + 1) 226 [.ref (N + 243), .int (nI 1), .int (nI 0)] m = some (.inl (some (.int (nI 0))), si_ m (N + 243) 0 (nI 2)) := y226 hR true false
theorem y226_11 (hR : RS m N s q) : am_ca sa sv (d + 1) 226 [.ref (N + 243), .int (nI 1), .int (nI 1)] m = some (.inl (some (.int (nI 1))), si_ m (N + 243) 0 (nI 0)) := y226 hR true true
theorem y223_0 : am_ca sa sv (d + 1) 223 [.int (nI 0)] m = some (.inl (some (.int (nI 0))), m) := y223 false
theorem y223_1 : am_ca sa sv (d + 1) 223 [.int (nI 1)] m = some (.inl (some (.int (nI 1))), m) := y223 true
theorem y290 (hR : RS m N s q) (hF : WF B s q) (hB : B < 2 ^ 30) (l0 : Int32) : am_ca sa sv (d + 4) 290 [.ref (N + 243), .int l0] m = (bif inR l0 (cN s 0) then some (.inl (some (.int (s (8 + l0.toNatClampNeg)))), si_ m (N + 243) 0 (nI (0))) else some (.inl (some (.int (nI 0))), si_ m (N + 243) 0 (nI (1)))) := by
  have hC := wf_c hF
  have hW := wf_w hF
  have hA := wf_a hF
  have hD := wf_d hF
  have hK := wf_k hF
  have hR3 := hR.c 0 (nI 0)
  obtain ⟨e0, b0⟩ := (wc_np hC).c (by decide)
  obtain ⟨e1, b1⟩ := (wc_nw hC).c (by decide)
  obtain ⟨e2, b2⟩ := (wc_na hC).c (by decide)
  obtain ⟨e3, b3⟩ := (wc_nd hC).c (by decide)
  obtain ⟨e4, b4⟩ := (wc_day hC).c (by decide)
  obtain ⟨e5, b5⟩ := (wk_c hK).c (by omega)
  obtain ⟨e6, b6⟩ := (wc_nl hC).c (by decide)
  have e7' : cN s 7 = min (cN s 5) 5 := cN_ (wk_k hK) (by omega)
  have e7 : s 7 = nI (cN s 7) := by rw [e7']; exact wk_k hK
  have b7 : cN s 7 < 6 := by omega
  cases h0P : inR l0 (cN s 0) with
  | false =>
    rw [c290, b290_0]
    simp (disch := omega) only [gq_true, gb_true, gb_false, true_and, and_true, eq_self, not_false_eq_true, not_true_eq_false, true_or, or_true, false_or, or_false, false_and, and_false, c0_v, ci_v, cl_v, cf_v, pk_mul, nI_add, nI_clamp, nI_lt0, nI_0le, nI_eq0, nI_lt0r, nI_ltE, nI_leE, nI_eqE, nI_m1, in_t, ba0, ba1, Nat.one_ne_zero, Nat.reduceEqDiff, Nat.reduceLeDiff, Nat.add_eq_zero_iff, rk243 hR, rr15 hR, rk245 hR, rr19 hR, rk249 hR, rs hR, rq hR, y222, y223_0, y223_1, y225_0 hR, y225_1 hR, y226_00 hR, y226_01 hR, y226_10 hR, y226_11 hR, y285 hR hC, y286 hR hC, y287 hR hC, y288 hR hC, tr_t, tr_f, yinN, yin _ (3 : Int64) 4 (by decide), yin _ (4 : Int64) 5 (by decide), yin _ (2 : Int64) 3 (by decide), yin _ (5 : Int64) 6 (by decide), yin _ (6 : Int64) 7 (by decide), yin _ (1 : Int64) 2 (by decide), yin _ (9999 : Int64) 10000 (by decide), cond_true, cond_false, e6, e7, h0P]
  | true =>
    obtain ⟨k0, hk0, rfl⟩ := (inR_t (by omega)).mp h0P
    rw [c290, b290_0]
    simp (disch := omega) only [gq_true, gb_true, gb_false, true_and, and_true, eq_self, not_false_eq_true, not_true_eq_false, true_or, or_true, false_or, or_false, false_and, and_false, c0_v, ci_v, cl_v, cf_v, pk_mul, nI_add, nI_clamp, nI_lt0, nI_0le, nI_eq0, nI_lt0r, nI_ltE, nI_leE, nI_eqE, nI_m1, in_t, ba0, ba1, Nat.one_ne_zero, Nat.reduceEqDiff, Nat.reduceLeDiff, Nat.add_eq_zero_iff, rk243 hR, rr15 hR, rk245 hR, rr19 hR, rk249 hR, rs hR, rq hR, y222, y223_0, y223_1, y225_0 hR, y225_1 hR, y226_00 hR, y226_01 hR, y226_10 hR, y226_11 hR, y285 hR hC, y286 hR hC, y287 hR hC, y288 hR hC, tr_t, tr_f, yinN, yin _ (3 : Int64) 4 (by decide), yin _ (4 : Int64) 5 (by decide), yin _ (2 : Int64) 3 (by decide), yin _ (5 : Int64) 6 (by decide), yin _ (6 : Int64) 7 (by decide), yin _ (1 : Int64) 2 (by decide), yin _ (9999 : Int64) 10000 (by decide), cond_true, cond_false, e6, e7, h0P, rk243 hR3, rr15 hR3, rk245 hR3, rr19 hR3, rk249 hR3, rs hR3, rq hR3]
theorem y291 (hR : RS m N s q) (hF : WF B s q) (hB : B < 2 ^ 30) (l0 : Int32) : am_ca sa sv (d + 4) 291 [.ref (N + 243), .int l0] m = (bif inR l0 (cN s 1) then some (.inl (some (.int (s (18 + 48 * l0.toNatClampNeg)))), si_ m (N + 243) 0 (nI (0))) else some (.inl (some (.int (nI 0))), si_ m (N + 243) 0 (nI (1)))) := by
  have hC := wf_c hF
  have hW := wf_w hF
  have hA := wf_a hF
  have hD := wf_d hF
  have hK := wf_k hF
  have hR3 := hR.c 0 (nI 0)
  obtain ⟨e0, b0⟩ := (wc_np hC).c (by decide)
  obtain ⟨e1, b1⟩ := (wc_nw hC).c (by decide)
  obtain ⟨e2, b2⟩ := (wc_na hC).c (by decide)
  obtain ⟨e3, b3⟩ := (wc_nd hC).c (by decide)
  obtain ⟨e4, b4⟩ := (wc_day hC).c (by decide)
  obtain ⟨e5, b5⟩ := (wk_c hK).c (by omega)
  obtain ⟨e6, b6⟩ := (wc_nl hC).c (by decide)
  have e7' : cN s 7 = min (cN s 5) 5 := cN_ (wk_k hK) (by omega)
  have e7 : s 7 = nI (cN s 7) := by rw [e7']; exact wk_k hK
  have b7 : cN s 7 < 6 := by omega
  cases h0W : inR l0 (cN s 1) with
  | false =>
    rw [c291, b291_0]
    simp (disch := omega) only [gq_true, gb_true, gb_false, true_and, and_true, eq_self, not_false_eq_true, not_true_eq_false, true_or, or_true, false_or, or_false, false_and, and_false, c0_v, ci_v, cl_v, cf_v, pk_mul, nI_add, nI_clamp, nI_lt0, nI_0le, nI_eq0, nI_lt0r, nI_ltE, nI_leE, nI_eqE, nI_m1, in_t, ba0, ba1, Nat.one_ne_zero, Nat.reduceEqDiff, Nat.reduceLeDiff, Nat.add_eq_zero_iff, rk243 hR, rr15 hR, rk245 hR, rr19 hR, rk249 hR, rs hR, rq hR, y222, y223_0, y223_1, y225_0 hR, y225_1 hR, y226_00 hR, y226_01 hR, y226_10 hR, y226_11 hR, y285 hR hC, y286 hR hC, y287 hR hC, y288 hR hC, tr_t, tr_f, yinN, yin _ (3 : Int64) 4 (by decide), yin _ (4 : Int64) 5 (by decide), yin _ (2 : Int64) 3 (by decide), yin _ (5 : Int64) 6 (by decide), yin _ (6 : Int64) 7 (by decide), yin _ (1 : Int64) 2 (by decide), yin _ (9999 : Int64) 10000 (by decide), cond_true, cond_false, e6, e7, h0W]
  | true =>
    obtain ⟨k0, hk0, rfl⟩ := (inR_t (by omega)).mp h0W
    rw [c291, b291_0]
    simp (disch := omega) only [gq_true, gb_true, gb_false, true_and, and_true, eq_self, not_false_eq_true, not_true_eq_false, true_or, or_true, false_or, or_false, false_and, and_false, c0_v, ci_v, cl_v, cf_v, pk_mul, nI_add, nI_clamp, nI_lt0, nI_0le, nI_eq0, nI_lt0r, nI_ltE, nI_leE, nI_eqE, nI_m1, in_t, ba0, ba1, Nat.one_ne_zero, Nat.reduceEqDiff, Nat.reduceLeDiff, Nat.add_eq_zero_iff, rk243 hR, rr15 hR, rk245 hR, rr19 hR, rk249 hR, rs hR, rq hR, y222, y223_0, y223_1, y225_0 hR, y225_1 hR, y226_00 hR, y226_01 hR, y226_10 hR, y226_11 hR, y285 hR hC, y286 hR hC, y287 hR hC, y288 hR hC, tr_t, tr_f, yinN, yin _ (3 : Int64) 4 (by decide), yin _ (4 : Int64) 5 (by decide), yin _ (2 : Int64) 3 (by decide), yin _ (5 : Int64) 6 (by decide), yin _ (6 : Int64) 7 (by decide), yin _ (1 : Int64) 2 (by decide), yin _ (9999 : Int64) 10000 (by decide), cond_true, cond_false, e6, e7, h0W, rk243 hR3, rr15 hR3, rk245 hR3, rr19 hR3, rk249 hR3, rs hR3, rq hR3, y256 hR3 k0 0 (18 + 48 * k0) (by omega) (by omega)]
theorem y293 (hR : RS m N s q) (hF : WF B s q) (hB : B < 2 ^ 30) (l0 l1 : Int32) : am_ca sa sv (d + 4) 293 [.ref (N + 243), .int l0, .int l1] m = (bif inR l0 (cN s 1) then (bif inR l1 (10000) then some (.inl (some (.int (nI (spl_ s l0.toNatClampNeg l1.toNatClampNeg)))), si_ m (N + 243) 0 (nI (0))) else some (.inl (some (.int (nI 0))), si_ m (N + 243) 0 (nI (2)))) else some (.inl (some (.int (nI 0))), si_ m (N + 243) 0 (nI (1)))) := by
  have hC := wf_c hF
  have hW := wf_w hF
  have hA := wf_a hF
  have hD := wf_d hF
  have hK := wf_k hF
  have hR3 := hR.c 0 (nI 0)
  obtain ⟨e0, b0⟩ := (wc_np hC).c (by decide)
  obtain ⟨e1, b1⟩ := (wc_nw hC).c (by decide)
  obtain ⟨e2, b2⟩ := (wc_na hC).c (by decide)
  obtain ⟨e3, b3⟩ := (wc_nd hC).c (by decide)
  obtain ⟨e4, b4⟩ := (wc_day hC).c (by decide)
  obtain ⟨e5, b5⟩ := (wk_c hK).c (by omega)
  obtain ⟨e6, b6⟩ := (wc_nl hC).c (by decide)
  have e7' : cN s 7 = min (cN s 5) 5 := cN_ (wk_k hK) (by omega)
  have e7 : s 7 = nI (cN s 7) := by rw [e7']; exact wk_k hK
  have b7 : cN s 7 < 6 := by omega
  cases h0W : inR l0 (cN s 1) with
  | false =>
    cases g1 : inR l1 (10000) <;> (rw [c293, b293_0]; simp (disch := omega) only [gq_true, gb_true, gb_false, true_and, and_true, eq_self, not_false_eq_true, not_true_eq_false, true_or, or_true, false_or, or_false, false_and, and_false, c0_v, ci_v, cl_v, cf_v, pk_mul, nI_add, nI_clamp, nI_lt0, nI_0le, nI_eq0, nI_lt0r, nI_ltE, nI_leE, nI_eqE, nI_m1, in_t, ba0, ba1, Nat.one_ne_zero, Nat.reduceEqDiff, Nat.reduceLeDiff, Nat.add_eq_zero_iff, rk243 hR, rr15 hR, rk245 hR, rr19 hR, rk249 hR, rs hR, rq hR, y222, y223_0, y223_1, y225_0 hR, y225_1 hR, y226_00 hR, y226_01 hR, y226_10 hR, y226_11 hR, y285 hR hC, y286 hR hC, y287 hR hC, y288 hR hC, tr_t, tr_f, yinN, yin _ (3 : Int64) 4 (by decide), yin _ (4 : Int64) 5 (by decide), yin _ (2 : Int64) 3 (by decide), yin _ (5 : Int64) 6 (by decide), yin _ (6 : Int64) 7 (by decide), yin _ (1 : Int64) 2 (by decide), yin _ (9999 : Int64) 10000 (by decide), cond_true, cond_false, e6, e7, h0W, g1])
  | true =>
    obtain ⟨k0, hk0, rfl⟩ := (inR_t (by omega)).mp h0W
    cases h1T : inR l1 (10000) with
    | false =>
      rw [c293, b293_0]
      simp (disch := omega) only [gq_true, gb_true, gb_false, true_and, and_true, eq_self, not_false_eq_true, not_true_eq_false, true_or, or_true, false_or, or_false, false_and, and_false, c0_v, ci_v, cl_v, cf_v, pk_mul, nI_add, nI_clamp, nI_lt0, nI_0le, nI_eq0, nI_lt0r, nI_ltE, nI_leE, nI_eqE, nI_m1, in_t, ba0, ba1, Nat.one_ne_zero, Nat.reduceEqDiff, Nat.reduceLeDiff, Nat.add_eq_zero_iff, rk243 hR, rr15 hR, rk245 hR, rr19 hR, rk249 hR, rs hR, rq hR, y222, y223_0, y223_1, y225_0 hR, y225_1 hR, y226_00 hR, y226_01 hR, y226_10 hR, y226_11 hR, y285 hR hC, y286 hR hC, y287 hR hC, y288 hR hC, tr_t, tr_f, yinN, yin _ (3 : Int64) 4 (by decide), yin _ (4 : Int64) 5 (by decide), yin _ (2 : Int64) 3 (by decide), yin _ (5 : Int64) 6 (by decide), yin _ (6 : Int64) 7 (by decide), yin _ (1 : Int64) 2 (by decide), yin _ (9999 : Int64) 10000 (by decide), cond_true, cond_false, e6, e7, h0W, h1T]
    | true =>
      obtain ⟨k1, hk1, rfl⟩ := (inR_t (by omega)).mp h1T
      rw [c293, b293_0]
      simp (disch := omega) only [gq_true, gb_true, gb_false, true_and, and_true, eq_self, not_false_eq_true, not_true_eq_false, true_or, or_true, false_or, or_false, false_and, and_false, c0_v, ci_v, cl_v, cf_v, pk_mul, nI_add, nI_clamp, nI_lt0, nI_0le, nI_eq0, nI_lt0r, nI_ltE, nI_leE, nI_eqE, nI_m1, in_t, ba0, ba1, Nat.one_ne_zero, Nat.reduceEqDiff, Nat.reduceLeDiff, Nat.add_eq_zero_iff, rk243 hR, rr15 hR, rk245 hR, rr19 hR, rk249 hR, rs hR, rq hR, y222, y223_0, y223_1, y225_0 hR, y225_1 hR, y226_00 hR, y226_01 hR, y226_10 hR, y226_11 hR, y285 hR hC, y286 hR hC, y287 hR hC, y288 hR hC, tr_t, tr_f, yinN, yin _ (3 : Int64) 4 (by decide), yin _ (4 : Int64) 5 (by decide), yin _ (2 : Int64) 3 (by decide), yin _ (5 : Int64) 6 (by decide), yin _ (6 : Int64) 7 (by decide), yin _ (1 : Int64) 2 (by decide), yin _ (9999 : Int64) 10000 (by decide), cond_true, cond_false, e6, e7, h0W, h1T, rk243 hR3, rr15 hR3, rk245 hR3, rr19 hR3, rk249 hR3, rs hR3, rq hR3, y292 hR3 hC hW k0 k1 hk0 (by omega)]
theorem y297 (hR : RS m N s q) (hF : WF B s q) (hB : B < 2 ^ 30) (l0 : Int32) : am_ca sa sv (d + 4) 297 [.ref (N + 243), .int l0] m = (bif inR l0 (cN s 1) then some (.inl (some (.int (s (59 + 48 * l0.toNatClampNeg)))), si_ m (N + 243) 0 (nI (0))) else some (.inl (some (.int (nI 0))), si_ m (N + 243) 0 (nI (1)))) := by
  have hC := wf_c hF
  have hW := wf_w hF
  have hA := wf_a hF
  have hD := wf_d hF
  have hK := wf_k hF
  have hR3 := hR.c 0 (nI 0)
  obtain ⟨e0, b0⟩ := (wc_np hC).c (by decide)
  obtain ⟨e1, b1⟩ := (wc_nw hC).c (by decide)
  obtain ⟨e2, b2⟩ := (wc_na hC).c (by decide)
  obtain ⟨e3, b3⟩ := (wc_nd hC).c (by decide)
  obtain ⟨e4, b4⟩ := (wc_day hC).c (by decide)
  obtain ⟨e5, b5⟩ := (wk_c hK).c (by omega)
  obtain ⟨e6, b6⟩ := (wc_nl hC).c (by decide)
  have e7' : cN s 7 = min (cN s 5) 5 := cN_ (wk_k hK) (by omega)
  have e7 : s 7 = nI (cN s 7) := by rw [e7']; exact wk_k hK
  have b7 : cN s 7 < 6 := by omega
  cases h0W : inR l0 (cN s 1) with
  | false =>
    rw [c297, b297_0]
    simp (disch := omega) only [gq_true, gb_true, gb_false, true_and, and_true, eq_self, not_false_eq_true, not_true_eq_false, true_or, or_true, false_or, or_false, false_and, and_false, c0_v, ci_v, cl_v, cf_v, pk_mul, nI_add, nI_clamp, nI_lt0, nI_0le, nI_eq0, nI_lt0r, nI_ltE, nI_leE, nI_eqE, nI_m1, in_t, ba0, ba1, Nat.one_ne_zero, Nat.reduceEqDiff, Nat.reduceLeDiff, Nat.add_eq_zero_iff, rk243 hR, rr15 hR, rk245 hR, rr19 hR, rk249 hR, rs hR, rq hR, y222, y223_0, y223_1, y225_0 hR, y225_1 hR, y226_00 hR, y226_01 hR, y226_10 hR, y226_11 hR, y285 hR hC, y286 hR hC, y287 hR hC, y288 hR hC, tr_t, tr_f, yinN, yin _ (3 : Int64) 4 (by decide), yin _ (4 : Int64) 5 (by decide), yin _ (2 : Int64) 3 (by decide), yin _ (5 : Int64) 6 (by decide), yin _ (6 : Int64) 7 (by decide), yin _ (1 : Int64) 2 (by decide), yin _ (9999 : Int64) 10000 (by decide), cond_true, cond_false, e6, e7, h0W]
  | true =>
    obtain ⟨k0, hk0, rfl⟩ := (inR_t (by omega)).mp h0W
    rw [c297, b297_0]
    simp (disch := omega) only [gq_true, gb_true, gb_false, true_and, and_true, eq_self, not_false_eq_true, not_true_eq_false, true_or, or_true, false_or, or_false, false_and, and_false, c0_v, ci_v, cl_v, cf_v, pk_mul, nI_add, nI_clamp, nI_lt0, nI_0le, nI_eq0, nI_lt0r, nI_ltE, nI_leE, nI_eqE, nI_m1, in_t, ba0, ba1, Nat.one_ne_zero, Nat.reduceEqDiff, Nat.reduceLeDiff, Nat.add_eq_zero_iff, rk243 hR, rr15 hR, rk245 hR, rr19 hR, rk249 hR, rs hR, rq hR, y222, y223_0, y223_1, y225_0 hR, y225_1 hR, y226_00 hR, y226_01 hR, y226_10 hR, y226_11 hR, y285 hR hC, y286 hR hC, y287 hR hC, y288 hR hC, tr_t, tr_f, yinN, yin _ (3 : Int64) 4 (by decide), yin _ (4 : Int64) 5 (by decide), yin _ (2 : Int64) 3 (by decide), yin _ (5 : Int64) 6 (by decide), yin _ (6 : Int64) 7 (by decide), yin _ (1 : Int64) 2 (by decide), yin _ (9999 : Int64) 10000 (by decide), cond_true, cond_false, e6, e7, h0W, rk243 hR3, rr15 hR3, rk245 hR3, rr19 hR3, rk249 hR3, rs hR3, rq hR3, y256 hR3 k0 41 (59 + 48 * k0) (by omega) (by omega)]
theorem y300 (hR : RS m N s q) (hF : WF B s q) (hB : B < 2 ^ 30) (l0 : Int32) : am_ca sa sv (d + 4) 300 [.ref (N + 243), .int l0] m = (bif inR l0 (cN s 1) then some (.inl (some (.int (nI (rts_ s l0.toNatClampNeg)))), si_ m (N + 243) 0 (nI (0))) else some (.inl (some (.int (nI 0))), si_ m (N + 243) 0 (nI (1)))) := by
  have hC := wf_c hF
  have hW := wf_w hF
  have hA := wf_a hF
  have hD := wf_d hF
  have hK := wf_k hF
  have hR3 := hR.c 0 (nI 0)
  obtain ⟨e0, b0⟩ := (wc_np hC).c (by decide)
  obtain ⟨e1, b1⟩ := (wc_nw hC).c (by decide)
  obtain ⟨e2, b2⟩ := (wc_na hC).c (by decide)
  obtain ⟨e3, b3⟩ := (wc_nd hC).c (by decide)
  obtain ⟨e4, b4⟩ := (wc_day hC).c (by decide)
  obtain ⟨e5, b5⟩ := (wk_c hK).c (by omega)
  obtain ⟨e6, b6⟩ := (wc_nl hC).c (by decide)
  have e7' : cN s 7 = min (cN s 5) 5 := cN_ (wk_k hK) (by omega)
  have e7 : s 7 = nI (cN s 7) := by rw [e7']; exact wk_k hK
  have b7 : cN s 7 < 6 := by omega
  cases h0W : inR l0 (cN s 1) with
  | false =>
    rw [c300, b300_0]
    simp (disch := omega) only [gq_true, gb_true, gb_false, true_and, and_true, eq_self, not_false_eq_true, not_true_eq_false, true_or, or_true, false_or, or_false, false_and, and_false, c0_v, ci_v, cl_v, cf_v, pk_mul, nI_add, nI_clamp, nI_lt0, nI_0le, nI_eq0, nI_lt0r, nI_ltE, nI_leE, nI_eqE, nI_m1, in_t, ba0, ba1, Nat.one_ne_zero, Nat.reduceEqDiff, Nat.reduceLeDiff, Nat.add_eq_zero_iff, rk243 hR, rr15 hR, rk245 hR, rr19 hR, rk249 hR, rs hR, rq hR, y222, y223_0, y223_1, y225_0 hR, y225_1 hR, y226_00 hR, y226_01 hR, y226_10 hR, y226_11 hR, y285 hR hC, y286 hR hC, y287 hR hC, y288 hR hC, tr_t, tr_f, yinN, yin _ (3 : Int64) 4 (by decide), yin _ (4 : Int64) 5 (by decide), yin _ (2 : Int64) 3 (by decide), yin _ (5 : Int64) 6 (by decide), yin _ (6 : Int64) 7 (by decide), yin _ (1 : Int64) 2 (by decide), yin _ (9999 : Int64) 10000 (by decide), cond_true, cond_false, e6, e7, h0W]
  | true =>
    obtain ⟨k0, hk0, rfl⟩ := (inR_t (by omega)).mp h0W
    rw [c300, b300_0]
    simp (disch := omega) only [gq_true, gb_true, gb_false, true_and, and_true, eq_self, not_false_eq_true, not_true_eq_false, true_or, or_true, false_or, or_false, false_and, and_false, c0_v, ci_v, cl_v, cf_v, pk_mul, nI_add, nI_clamp, nI_lt0, nI_0le, nI_eq0, nI_lt0r, nI_ltE, nI_leE, nI_eqE, nI_m1, in_t, ba0, ba1, Nat.one_ne_zero, Nat.reduceEqDiff, Nat.reduceLeDiff, Nat.add_eq_zero_iff, rk243 hR, rr15 hR, rk245 hR, rr19 hR, rk249 hR, rs hR, rq hR, y222, y223_0, y223_1, y225_0 hR, y225_1 hR, y226_00 hR, y226_01 hR, y226_10 hR, y226_11 hR, y285 hR hC, y286 hR hC, y287 hR hC, y288 hR hC, tr_t, tr_f, yinN, yin _ (3 : Int64) 4 (by decide), yin _ (4 : Int64) 5 (by decide), yin _ (2 : Int64) 3 (by decide), yin _ (5 : Int64) 6 (by decide), yin _ (6 : Int64) 7 (by decide), yin _ (1 : Int64) 2 (by decide), yin _ (9999 : Int64) 10000 (by decide), cond_true, cond_false, e6, e7, h0W, rk243 hR3, rr15 hR3, rk245 hR3, rr19 hR3, rk249 hR3, rs hR3, rq hR3, y299 hR3 hC hW k0 hk0]
theorem y303 (hR : RS m N s q) (hF : WF B s q) (hB : B < 2 ^ 30) (l0 l1 : Int32) : am_ca sa sv (d + 4) 303 [.ref (N + 243), .int l0, .int l1] m = (bif inR l0 (cN s 1) then (bif inR l1 (cN s 0) then some (.inl (some (.int (nI (lv_ s l1.toNatClampNeg l0.toNatClampNeg (cN s 4) (cN s 2))))), si_ m (N + 243) 0 (nI (0))) else some (.inl (some (.int (nI 0))), si_ m (N + 243) 0 (nI (1)))) else some (.inl (some (.int (nI 0))), si_ m (N + 243) 0 (nI (1)))) := by
  have hC := wf_c hF
  have hW := wf_w hF
  have hA := wf_a hF
  have hD := wf_d hF
  have hK := wf_k hF
  have hR3 := hR.c 0 (nI 0)
  obtain ⟨e0, b0⟩ := (wc_np hC).c (by decide)
  obtain ⟨e1, b1⟩ := (wc_nw hC).c (by decide)
  obtain ⟨e2, b2⟩ := (wc_na hC).c (by decide)
  obtain ⟨e3, b3⟩ := (wc_nd hC).c (by decide)
  obtain ⟨e4, b4⟩ := (wc_day hC).c (by decide)
  obtain ⟨e5, b5⟩ := (wk_c hK).c (by omega)
  obtain ⟨e6, b6⟩ := (wc_nl hC).c (by decide)
  have e7' : cN s 7 = min (cN s 5) 5 := cN_ (wk_k hK) (by omega)
  have e7 : s 7 = nI (cN s 7) := by rw [e7']; exact wk_k hK
  have b7 : cN s 7 < 6 := by omega
  cases h0W : inR l0 (cN s 1) with
  | false =>
    rw [c303, b303_0]
    simp (disch := omega) only [gq_true, gb_true, gb_false, true_and, and_true, eq_self, not_false_eq_true, not_true_eq_false, true_or, or_true, false_or, or_false, false_and, and_false, c0_v, ci_v, cl_v, cf_v, pk_mul, nI_add, nI_clamp, nI_lt0, nI_0le, nI_eq0, nI_lt0r, nI_ltE, nI_leE, nI_eqE, nI_m1, in_t, ba0, ba1, Nat.one_ne_zero, Nat.reduceEqDiff, Nat.reduceLeDiff, Nat.add_eq_zero_iff, rk243 hR, rr15 hR, rk245 hR, rr19 hR, rk249 hR, rs hR, rq hR, y222, y223_0, y223_1, y225_0 hR, y225_1 hR, y226_00 hR, y226_01 hR, y226_10 hR, y226_11 hR, y285 hR hC, y286 hR hC, y287 hR hC, y288 hR hC, tr_t, tr_f, yinN, yin _ (3 : Int64) 4 (by decide), yin _ (4 : Int64) 5 (by decide), yin _ (2 : Int64) 3 (by decide), yin _ (5 : Int64) 6 (by decide), yin _ (6 : Int64) 7 (by decide), yin _ (1 : Int64) 2 (by decide), yin _ (9999 : Int64) 10000 (by decide), cond_true, cond_false, b303_22, e6, e7, h0W]
  | true =>
    obtain ⟨k0, hk0, rfl⟩ := (inR_t (by omega)).mp h0W
    cases h1P : inR l1 (cN s 0) with
    | false =>
      rw [c303, b303_0]
      simp (disch := omega) only [gq_true, gb_true, gb_false, true_and, and_true, eq_self, not_false_eq_true, not_true_eq_false, true_or, or_true, false_or, or_false, false_and, and_false, c0_v, ci_v, cl_v, cf_v, pk_mul, nI_add, nI_clamp, nI_lt0, nI_0le, nI_eq0, nI_lt0r, nI_ltE, nI_leE, nI_eqE, nI_m1, in_t, ba0, ba1, Nat.one_ne_zero, Nat.reduceEqDiff, Nat.reduceLeDiff, Nat.add_eq_zero_iff, rk243 hR, rr15 hR, rk245 hR, rr19 hR, rk249 hR, rs hR, rq hR, y222, y223_0, y223_1, y225_0 hR, y225_1 hR, y226_00 hR, y226_01 hR, y226_10 hR, y226_11 hR, y285 hR hC, y286 hR hC, y287 hR hC, y288 hR hC, tr_t, tr_f, yinN, yin _ (3 : Int64) 4 (by decide), yin _ (4 : Int64) 5 (by decide), yin _ (2 : Int64) 3 (by decide), yin _ (5 : Int64) 6 (by decide), yin _ (6 : Int64) 7 (by decide), yin _ (1 : Int64) 2 (by decide), yin _ (9999 : Int64) 10000 (by decide), cond_true, cond_false, b303_22, e6, e7, h0W, h1P]
    | true =>
      obtain ⟨k1, hk1, rfl⟩ := (inR_t (by omega)).mp h1P
      rw [c303, b303_0]
      simp (disch := omega) only [gq_true, gb_true, gb_false, true_and, and_true, eq_self, not_false_eq_true, not_true_eq_false, true_or, or_true, false_or, or_false, false_and, and_false, c0_v, ci_v, cl_v, cf_v, pk_mul, nI_add, nI_clamp, nI_lt0, nI_0le, nI_eq0, nI_lt0r, nI_ltE, nI_leE, nI_eqE, nI_m1, in_t, ba0, ba1, Nat.one_ne_zero, Nat.reduceEqDiff, Nat.reduceLeDiff, Nat.add_eq_zero_iff, rk243 hR, rr15 hR, rk245 hR, rr19 hR, rk249 hR, rs hR, rq hR, y222, y223_0, y223_1, y225_0 hR, y225_1 hR, y226_00 hR, y226_01 hR, y226_10 hR, y226_11 hR, y285 hR hC, y286 hR hC, y287 hR hC, y288 hR hC, tr_t, tr_f, yinN, yin _ (3 : Int64) 4 (by decide), yin _ (4 : Int64) 5 (by decide), yin _ (2 : Int64) 3 (by decide), yin _ (5 : Int64) 6 (by decide), yin _ (6 : Int64) 7 (by decide), yin _ (1 : Int64) 2 (by decide), yin _ (9999 : Int64) 10000 (by decide), cond_true, cond_false, b303_22, e6, e7, h0W, h1P, rk243 hR3, rr15 hR3, rk245 hR3, rr19 hR3, rk249 hR3, rs hR3, rq hR3, e4, y276 hR3 hC hA k1 k0 (cN s 4) (by omega) (by omega) (by omega)]
theorem y306 (hR : RS m N s q) (hF : WF B s q) (hB : B < 2 ^ 30) (l0 l1 : Int32) : am_ca sa sv (d + 4) 306 [.ref (N + 243), .int l0, .int l1] m = (bif inR l0 (cN s 3) then (bif inR l1 (6) then some (.inl (some (.int (s (690 + 6 * l0.toNatClampNeg + l1.toNatClampNeg)))), si_ m (N + 243) 0 (nI (0))) else some (.inl (some (.int (nI 0))), si_ m (N + 243) 0 (nI (2)))) else some (.inl (some (.int (nI 0))), si_ m (N + 243) 0 (nI (1)))) := by
  have hC := wf_c hF
  have hW := wf_w hF
  have hA := wf_a hF
  have hD := wf_d hF
  have hK := wf_k hF
  have hR3 := hR.c 0 (nI 0)
  obtain ⟨e0, b0⟩ := (wc_np hC).c (by decide)
  obtain ⟨e1, b1⟩ := (wc_nw hC).c (by decide)
  obtain ⟨e2, b2⟩ := (wc_na hC).c (by decide)
  obtain ⟨e3, b3⟩ := (wc_nd hC).c (by decide)
  obtain ⟨e4, b4⟩ := (wc_day hC).c (by decide)
  obtain ⟨e5, b5⟩ := (wk_c hK).c (by omega)
  obtain ⟨e6, b6⟩ := (wc_nl hC).c (by decide)
  have e7' : cN s 7 = min (cN s 5) 5 := cN_ (wk_k hK) (by omega)
  have e7 : s 7 = nI (cN s 7) := by rw [e7']; exact wk_k hK
  have b7 : cN s 7 < 6 := by omega
  cases h0D : inR l0 (cN s 3) with
  | false =>
    cases g1 : inR l1 (6) <;> (rw [c306, b306_0]; simp (disch := omega) only [gq_true, gb_true, gb_false, true_and, and_true, eq_self, not_false_eq_true, not_true_eq_false, true_or, or_true, false_or, or_false, false_and, and_false, c0_v, ci_v, cl_v, cf_v, pk_mul, nI_add, nI_clamp, nI_lt0, nI_0le, nI_eq0, nI_lt0r, nI_ltE, nI_leE, nI_eqE, nI_m1, in_t, ba0, ba1, Nat.one_ne_zero, Nat.reduceEqDiff, Nat.reduceLeDiff, Nat.add_eq_zero_iff, rk243 hR, rr15 hR, rk245 hR, rr19 hR, rk249 hR, rs hR, rq hR, y222, y223_0, y223_1, y225_0 hR, y225_1 hR, y226_00 hR, y226_01 hR, y226_10 hR, y226_11 hR, y285 hR hC, y286 hR hC, y287 hR hC, y288 hR hC, tr_t, tr_f, yinN, yin _ (3 : Int64) 4 (by decide), yin _ (4 : Int64) 5 (by decide), yin _ (2 : Int64) 3 (by decide), yin _ (5 : Int64) 6 (by decide), yin _ (6 : Int64) 7 (by decide), yin _ (1 : Int64) 2 (by decide), yin _ (9999 : Int64) 10000 (by decide), cond_true, cond_false, e6, e7, h0D, g1])
  | true =>
    obtain ⟨k0, hk0, rfl⟩ := (inR_t (by omega)).mp h0D
    cases h1V : inR l1 (6) with
    | false =>
      rw [c306, b306_0]
      simp (disch := omega) only [gq_true, gb_true, gb_false, true_and, and_true, eq_self, not_false_eq_true, not_true_eq_false, true_or, or_true, false_or, or_false, false_and, and_false, c0_v, ci_v, cl_v, cf_v, pk_mul, nI_add, nI_clamp, nI_lt0, nI_0le, nI_eq0, nI_lt0r, nI_ltE, nI_leE, nI_eqE, nI_m1, in_t, ba0, ba1, Nat.one_ne_zero, Nat.reduceEqDiff, Nat.reduceLeDiff, Nat.add_eq_zero_iff, rk243 hR, rr15 hR, rk245 hR, rr19 hR, rk249 hR, rs hR, rq hR, y222, y223_0, y223_1, y225_0 hR, y225_1 hR, y226_00 hR, y226_01 hR, y226_10 hR, y226_11 hR, y285 hR hC, y286 hR hC, y287 hR hC, y288 hR hC, tr_t, tr_f, yinN, yin _ (3 : Int64) 4 (by decide), yin _ (4 : Int64) 5 (by decide), yin _ (2 : Int64) 3 (by decide), yin _ (5 : Int64) 6 (by decide), yin _ (6 : Int64) 7 (by decide), yin _ (1 : Int64) 2 (by decide), yin _ (9999 : Int64) 10000 (by decide), cond_true, cond_false, e6, e7, h0D, h1V]
    | true =>
      obtain ⟨k1, hk1, rfl⟩ := (inR_t (by omega)).mp h1V
      rw [c306, b306_0]
      simp (disch := omega) only [gq_true, gb_true, gb_false, true_and, and_true, eq_self, not_false_eq_true, not_true_eq_false, true_or, or_true, false_or, or_false, false_and, and_false, c0_v, ci_v, cl_v, cf_v, pk_mul, nI_add, nI_clamp, nI_lt0, nI_0le, nI_eq0, nI_lt0r, nI_ltE, nI_leE, nI_eqE, nI_m1, in_t, ba0, ba1, Nat.one_ne_zero, Nat.reduceEqDiff, Nat.reduceLeDiff, Nat.add_eq_zero_iff, rk243 hR, rr15 hR, rk245 hR, rr19 hR, rk249 hR, rs hR, rq hR, y222, y223_0, y223_1, y225_0 hR, y225_1 hR, y226_00 hR, y226_01 hR, y226_10 hR, y226_11 hR, y285 hR hC, y286 hR hC, y287 hR hC, y288 hR hC, tr_t, tr_f, yinN, yin _ (3 : Int64) 4 (by decide), yin _ (4 : Int64) 5 (by decide), yin _ (2 : Int64) 3 (by decide), yin _ (5 : Int64) 6 (by decide), yin _ (6 : Int64) 7 (by decide), yin _ (1 : Int64) 2 (by decide), yin _ (9999 : Int64) 10000 (by decide), cond_true, cond_false, e6, e7, h0D, h1V, rk243 hR3, rr15 hR3, rk245 hR3, rr19 hR3, rk249 hR3, rs hR3, rq hR3, y258 hR3 k0 k1 (by omega)]
theorem y308 (hR : RS m N s q) (hF : WF B s q) (hB : B < 2 ^ 30) (l0 : Int32) : am_ca sa sv (d + 4) 308 [.ref (N + 243), .int l0] m = (bif inR l0 (cN s 0) then some (.inl (some (.int (owed_ s l0 (cN s 3)))), si_ m (N + 243) 0 (nI (0))) else some (.inl (some (.int (nI 0))), si_ m (N + 243) 0 (nI (1)))) := by
  have hC := wf_c hF
  have hW := wf_w hF
  have hA := wf_a hF
  have hD := wf_d hF
  have hK := wf_k hF
  have hR3 := hR.c 0 (nI 0)
  obtain ⟨e0, b0⟩ := (wc_np hC).c (by decide)
  obtain ⟨e1, b1⟩ := (wc_nw hC).c (by decide)
  obtain ⟨e2, b2⟩ := (wc_na hC).c (by decide)
  obtain ⟨e3, b3⟩ := (wc_nd hC).c (by decide)
  obtain ⟨e4, b4⟩ := (wc_day hC).c (by decide)
  obtain ⟨e5, b5⟩ := (wk_c hK).c (by omega)
  obtain ⟨e6, b6⟩ := (wc_nl hC).c (by decide)
  have e7' : cN s 7 = min (cN s 5) 5 := cN_ (wk_k hK) (by omega)
  have e7 : s 7 = nI (cN s 7) := by rw [e7']; exact wk_k hK
  have b7 : cN s 7 < 6 := by omega
  cases h0P : inR l0 (cN s 0) with
  | false =>
    rw [c308, b308_0]
    simp (disch := omega) only [gq_true, gb_true, gb_false, true_and, and_true, eq_self, not_false_eq_true, not_true_eq_false, true_or, or_true, false_or, or_false, false_and, and_false, c0_v, ci_v, cl_v, cf_v, pk_mul, nI_add, nI_clamp, nI_lt0, nI_0le, nI_eq0, nI_lt0r, nI_ltE, nI_leE, nI_eqE, nI_m1, in_t, ba0, ba1, Nat.one_ne_zero, Nat.reduceEqDiff, Nat.reduceLeDiff, Nat.add_eq_zero_iff, rk243 hR, rr15 hR, rk245 hR, rr19 hR, rk249 hR, rs hR, rq hR, y222, y223_0, y223_1, y225_0 hR, y225_1 hR, y226_00 hR, y226_01 hR, y226_10 hR, y226_11 hR, y285 hR hC, y286 hR hC, y287 hR hC, y288 hR hC, tr_t, tr_f, yinN, yin _ (3 : Int64) 4 (by decide), yin _ (4 : Int64) 5 (by decide), yin _ (2 : Int64) 3 (by decide), yin _ (5 : Int64) 6 (by decide), yin _ (6 : Int64) 7 (by decide), yin _ (1 : Int64) 2 (by decide), yin _ (9999 : Int64) 10000 (by decide), cond_true, cond_false, e6, e7, h0P]
  | true =>
    obtain ⟨k0, hk0, rfl⟩ := (inR_t (by omega)).mp h0P
    rw [c308, b308_0]
    simp (disch := omega) only [gq_true, gb_true, gb_false, true_and, and_true, eq_self, not_false_eq_true, not_true_eq_false, true_or, or_true, false_or, or_false, false_and, and_false, c0_v, ci_v, cl_v, cf_v, pk_mul, nI_add, nI_clamp, nI_lt0, nI_0le, nI_eq0, nI_lt0r, nI_ltE, nI_leE, nI_eqE, nI_m1, in_t, ba0, ba1, Nat.one_ne_zero, Nat.reduceEqDiff, Nat.reduceLeDiff, Nat.add_eq_zero_iff, rk243 hR, rr15 hR, rk245 hR, rr19 hR, rk249 hR, rs hR, rq hR, y222, y223_0, y223_1, y225_0 hR, y225_1 hR, y226_00 hR, y226_01 hR, y226_10 hR, y226_11 hR, y285 hR hC, y286 hR hC, y287 hR hC, y288 hR hC, tr_t, tr_f, yinN, yin _ (3 : Int64) 4 (by decide), yin _ (4 : Int64) 5 (by decide), yin _ (2 : Int64) 3 (by decide), yin _ (5 : Int64) 6 (by decide), yin _ (6 : Int64) 7 (by decide), yin _ (1 : Int64) 2 (by decide), yin _ (9999 : Int64) 10000 (by decide), cond_true, cond_false, e6, e7, h0P, rk243 hR3, rr15 hR3, rk245 hR3, rr19 hR3, rk249 hR3, rs hR3, rq hR3, y307 hR3 hC]
theorem y310 (hR : RS m N s q) (hF : WF B s q) (hB : B < 2 ^ 30) (l0 : Int32) : am_ca sa sv (d + 4) 310 [.ref (N + 243), .int l0] m = (bif inR l0 (cN s 0) then some (.inl (some (.long (q l0.toNatClampNeg))), si_ m (N + 243) 0 (nI (0))) else some (.inl (some (.long ((0 : Int64)))), si_ m (N + 243) 0 (nI (1)))) := by
  have hC := wf_c hF
  have hW := wf_w hF
  have hA := wf_a hF
  have hD := wf_d hF
  have hK := wf_k hF
  have hR3 := hR.c 0 (nI 0)
  obtain ⟨e0, b0⟩ := (wc_np hC).c (by decide)
  obtain ⟨e1, b1⟩ := (wc_nw hC).c (by decide)
  obtain ⟨e2, b2⟩ := (wc_na hC).c (by decide)
  obtain ⟨e3, b3⟩ := (wc_nd hC).c (by decide)
  obtain ⟨e4, b4⟩ := (wc_day hC).c (by decide)
  obtain ⟨e5, b5⟩ := (wk_c hK).c (by omega)
  obtain ⟨e6, b6⟩ := (wc_nl hC).c (by decide)
  have e7' : cN s 7 = min (cN s 5) 5 := cN_ (wk_k hK) (by omega)
  have e7 : s 7 = nI (cN s 7) := by rw [e7']; exact wk_k hK
  have b7 : cN s 7 < 6 := by omega
  cases h0P : inR l0 (cN s 0) with
  | false =>
    rw [c310, b310_0]
    simp (disch := omega) only [gq_true, gb_true, gb_false, true_and, and_true, eq_self, not_false_eq_true, not_true_eq_false, true_or, or_true, false_or, or_false, false_and, and_false, c0_v, ci_v, cl_v, cf_v, pk_mul, nI_add, nI_clamp, nI_lt0, nI_0le, nI_eq0, nI_lt0r, nI_ltE, nI_leE, nI_eqE, nI_m1, in_t, ba0, ba1, Nat.one_ne_zero, Nat.reduceEqDiff, Nat.reduceLeDiff, Nat.add_eq_zero_iff, rk243 hR, rr15 hR, rk245 hR, rr19 hR, rk249 hR, rs hR, rq hR, y222, y223_0, y223_1, y225_0 hR, y225_1 hR, y226_00 hR, y226_01 hR, y226_10 hR, y226_11 hR, y285 hR hC, y286 hR hC, y287 hR hC, y288 hR hC, tr_t, tr_f, yinN, yin _ (3 : Int64) 4 (by decide), yin _ (4 : Int64) 5 (by decide), yin _ (2 : Int64) 3 (by decide), yin _ (5 : Int64) 6 (by decide), yin _ (6 : Int64) 7 (by decide), yin _ (1 : Int64) 2 (by decide), yin _ (9999 : Int64) 10000 (by decide), cond_true, cond_false, e6, e7, h0P]
  | true =>
    obtain ⟨k0, hk0, rfl⟩ := (inR_t (by omega)).mp h0P
    rw [c310, b310_0]
    simp (disch := omega) only [gq_true, gb_true, gb_false, true_and, and_true, eq_self, not_false_eq_true, not_true_eq_false, true_or, or_true, false_or, or_false, false_and, and_false, c0_v, ci_v, cl_v, cf_v, pk_mul, nI_add, nI_clamp, nI_lt0, nI_0le, nI_eq0, nI_lt0r, nI_ltE, nI_leE, nI_eqE, nI_m1, in_t, ba0, ba1, Nat.one_ne_zero, Nat.reduceEqDiff, Nat.reduceLeDiff, Nat.add_eq_zero_iff, rk243 hR, rr15 hR, rk245 hR, rr19 hR, rk249 hR, rs hR, rq hR, y222, y223_0, y223_1, y225_0 hR, y225_1 hR, y226_00 hR, y226_01 hR, y226_10 hR, y226_11 hR, y285 hR hC, y286 hR hC, y287 hR hC, y288 hR hC, tr_t, tr_f, yinN, yin _ (3 : Int64) 4 (by decide), yin _ (4 : Int64) 5 (by decide), yin _ (2 : Int64) 3 (by decide), yin _ (5 : Int64) 6 (by decide), yin _ (6 : Int64) 7 (by decide), yin _ (1 : Int64) 2 (by decide), yin _ (9999 : Int64) 10000 (by decide), cond_true, cond_false, e6, e7, h0P, rk243 hR3, rr15 hR3, rk245 hR3, rr19 hR3, rk249 hR3, rs hR3, rq hR3, Nat.zero_add]
theorem y311 (hR : RS m N s q) (hF : WF B s q) (hB : B < 2 ^ 30) (l0 l1 : Int32) : am_ca sa sv (d + 4) 311 [.ref (N + 243), .int l0, .int l1] m = (bif inR l0 (cN s 0) then (bif inR l1 (4) then some (.inl (some (.long (q (10 + 4 * l0.toNatClampNeg + l1.toNatClampNeg)))), si_ m (N + 243) 0 (nI (0))) else some (.inl (some (.long ((0 : Int64)))), si_ m (N + 243) 0 (nI (2)))) else some (.inl (some (.long ((0 : Int64)))), si_ m (N + 243) 0 (nI (1)))) := by
  have hC := wf_c hF
  have hW := wf_w hF
  have hA := wf_a hF
  have hD := wf_d hF
  have hK := wf_k hF
  have hR3 := hR.c 0 (nI 0)
  obtain ⟨e0, b0⟩ := (wc_np hC).c (by decide)
  obtain ⟨e1, b1⟩ := (wc_nw hC).c (by decide)
  obtain ⟨e2, b2⟩ := (wc_na hC).c (by decide)
  obtain ⟨e3, b3⟩ := (wc_nd hC).c (by decide)
  obtain ⟨e4, b4⟩ := (wc_day hC).c (by decide)
  obtain ⟨e5, b5⟩ := (wk_c hK).c (by omega)
  obtain ⟨e6, b6⟩ := (wc_nl hC).c (by decide)
  have e7' : cN s 7 = min (cN s 5) 5 := cN_ (wk_k hK) (by omega)
  have e7 : s 7 = nI (cN s 7) := by rw [e7']; exact wk_k hK
  have b7 : cN s 7 < 6 := by omega
  cases h0P : inR l0 (cN s 0) with
  | false =>
    cases g1 : inR l1 (4) <;> (rw [c311, b311_0]; simp (disch := omega) only [gq_true, gb_true, gb_false, true_and, and_true, eq_self, not_false_eq_true, not_true_eq_false, true_or, or_true, false_or, or_false, false_and, and_false, c0_v, ci_v, cl_v, cf_v, pk_mul, nI_add, nI_clamp, nI_lt0, nI_0le, nI_eq0, nI_lt0r, nI_ltE, nI_leE, nI_eqE, nI_m1, in_t, ba0, ba1, Nat.one_ne_zero, Nat.reduceEqDiff, Nat.reduceLeDiff, Nat.add_eq_zero_iff, rk243 hR, rr15 hR, rk245 hR, rr19 hR, rk249 hR, rs hR, rq hR, y222, y223_0, y223_1, y225_0 hR, y225_1 hR, y226_00 hR, y226_01 hR, y226_10 hR, y226_11 hR, y285 hR hC, y286 hR hC, y287 hR hC, y288 hR hC, tr_t, tr_f, yinN, yin _ (3 : Int64) 4 (by decide), yin _ (4 : Int64) 5 (by decide), yin _ (2 : Int64) 3 (by decide), yin _ (5 : Int64) 6 (by decide), yin _ (6 : Int64) 7 (by decide), yin _ (1 : Int64) 2 (by decide), yin _ (9999 : Int64) 10000 (by decide), cond_true, cond_false, e6, e7, h0P, g1])
  | true =>
    obtain ⟨k0, hk0, rfl⟩ := (inR_t (by omega)).mp h0P
    cases h1V : inR l1 (4) with
    | false =>
      rw [c311, b311_0]
      simp (disch := omega) only [gq_true, gb_true, gb_false, true_and, and_true, eq_self, not_false_eq_true, not_true_eq_false, true_or, or_true, false_or, or_false, false_and, and_false, c0_v, ci_v, cl_v, cf_v, pk_mul, nI_add, nI_clamp, nI_lt0, nI_0le, nI_eq0, nI_lt0r, nI_ltE, nI_leE, nI_eqE, nI_m1, in_t, ba0, ba1, Nat.one_ne_zero, Nat.reduceEqDiff, Nat.reduceLeDiff, Nat.add_eq_zero_iff, rk243 hR, rr15 hR, rk245 hR, rr19 hR, rk249 hR, rs hR, rq hR, y222, y223_0, y223_1, y225_0 hR, y225_1 hR, y226_00 hR, y226_01 hR, y226_10 hR, y226_11 hR, y285 hR hC, y286 hR hC, y287 hR hC, y288 hR hC, tr_t, tr_f, yinN, yin _ (3 : Int64) 4 (by decide), yin _ (4 : Int64) 5 (by decide), yin _ (2 : Int64) 3 (by decide), yin _ (5 : Int64) 6 (by decide), yin _ (6 : Int64) 7 (by decide), yin _ (1 : Int64) 2 (by decide), yin _ (9999 : Int64) 10000 (by decide), cond_true, cond_false, e6, e7, h0P, h1V]
    | true =>
      obtain ⟨k1, hk1, rfl⟩ := (inR_t (by omega)).mp h1V
      rw [c311, b311_0]
      simp (disch := omega) only [gq_true, gb_true, gb_false, true_and, and_true, eq_self, not_false_eq_true, not_true_eq_false, true_or, or_true, false_or, or_false, false_and, and_false, c0_v, ci_v, cl_v, cf_v, pk_mul, nI_add, nI_clamp, nI_lt0, nI_0le, nI_eq0, nI_lt0r, nI_ltE, nI_leE, nI_eqE, nI_m1, in_t, ba0, ba1, Nat.one_ne_zero, Nat.reduceEqDiff, Nat.reduceLeDiff, Nat.add_eq_zero_iff, rk243 hR, rr15 hR, rk245 hR, rr19 hR, rk249 hR, rs hR, rq hR, y222, y223_0, y223_1, y225_0 hR, y225_1 hR, y226_00 hR, y226_01 hR, y226_10 hR, y226_11 hR, y285 hR hC, y286 hR hC, y287 hR hC, y288 hR hC, tr_t, tr_f, yinN, yin _ (3 : Int64) 4 (by decide), yin _ (4 : Int64) 5 (by decide), yin _ (2 : Int64) 3 (by decide), yin _ (5 : Int64) 6 (by decide), yin _ (6 : Int64) 7 (by decide), yin _ (1 : Int64) 2 (by decide), yin _ (9999 : Int64) 10000 (by decide), cond_true, cond_false, e6, e7, h0P, h1V, rk243 hR3, rr15 hR3, rk245 hR3, rr19 hR3, rk249 hR3, rs hR3, rq hR3]
theorem y312 (hR : RS m N s q) (hF : WF B s q) (hB : B < 2 ^ 30) (l0 l1 : Int32) : am_ca sa sv (d + 4) 312 [.ref (N + 243), .int l0, .int l1] m = (bif inR l0 (cN s 0) then (bif inR l1 (cN s 1) then some (.inl (some (.long (q (80 + 12 * l0.toNatClampNeg + l1.toNatClampNeg)))), si_ m (N + 243) 0 (nI (0))) else some (.inl (some (.long ((0 : Int64)))), si_ m (N + 243) 0 (nI (1)))) else some (.inl (some (.long ((0 : Int64)))), si_ m (N + 243) 0 (nI (1)))) := by
  have hC := wf_c hF
  have hW := wf_w hF
  have hA := wf_a hF
  have hD := wf_d hF
  have hK := wf_k hF
  have hR3 := hR.c 0 (nI 0)
  obtain ⟨e0, b0⟩ := (wc_np hC).c (by decide)
  obtain ⟨e1, b1⟩ := (wc_nw hC).c (by decide)
  obtain ⟨e2, b2⟩ := (wc_na hC).c (by decide)
  obtain ⟨e3, b3⟩ := (wc_nd hC).c (by decide)
  obtain ⟨e4, b4⟩ := (wc_day hC).c (by decide)
  obtain ⟨e5, b5⟩ := (wk_c hK).c (by omega)
  obtain ⟨e6, b6⟩ := (wc_nl hC).c (by decide)
  have e7' : cN s 7 = min (cN s 5) 5 := cN_ (wk_k hK) (by omega)
  have e7 : s 7 = nI (cN s 7) := by rw [e7']; exact wk_k hK
  have b7 : cN s 7 < 6 := by omega
  cases h0P : inR l0 (cN s 0) with
  | false =>
    rw [c312, b312_0]
    simp (disch := omega) only [gq_true, gb_true, gb_false, true_and, and_true, eq_self, not_false_eq_true, not_true_eq_false, true_or, or_true, false_or, or_false, false_and, and_false, c0_v, ci_v, cl_v, cf_v, pk_mul, nI_add, nI_clamp, nI_lt0, nI_0le, nI_eq0, nI_lt0r, nI_ltE, nI_leE, nI_eqE, nI_m1, in_t, ba0, ba1, Nat.one_ne_zero, Nat.reduceEqDiff, Nat.reduceLeDiff, Nat.add_eq_zero_iff, rk243 hR, rr15 hR, rk245 hR, rr19 hR, rk249 hR, rs hR, rq hR, y222, y223_0, y223_1, y225_0 hR, y225_1 hR, y226_00 hR, y226_01 hR, y226_10 hR, y226_11 hR, y285 hR hC, y286 hR hC, y287 hR hC, y288 hR hC, tr_t, tr_f, yinN, yin _ (3 : Int64) 4 (by decide), yin _ (4 : Int64) 5 (by decide), yin _ (2 : Int64) 3 (by decide), yin _ (5 : Int64) 6 (by decide), yin _ (6 : Int64) 7 (by decide), yin _ (1 : Int64) 2 (by decide), yin _ (9999 : Int64) 10000 (by decide), cond_true, cond_false, b312_22, e6, e7, h0P]
  | true =>
    obtain ⟨k0, hk0, rfl⟩ := (inR_t (by omega)).mp h0P
    cases h1W : inR l1 (cN s 1) with
    | false =>
      rw [c312, b312_0]
      simp (disch := omega) only [gq_true, gb_true, gb_false, true_and, and_true, eq_self, not_false_eq_true, not_true_eq_false, true_or, or_true, false_or, or_false, false_and, and_false, c0_v, ci_v, cl_v, cf_v, pk_mul, nI_add, nI_clamp, nI_lt0, nI_0le, nI_eq0, nI_lt0r, nI_ltE, nI_leE, nI_eqE, nI_m1, in_t, ba0, ba1, Nat.one_ne_zero, Nat.reduceEqDiff, Nat.reduceLeDiff, Nat.add_eq_zero_iff, rk243 hR, rr15 hR, rk245 hR, rr19 hR, rk249 hR, rs hR, rq hR, y222, y223_0, y223_1, y225_0 hR, y225_1 hR, y226_00 hR, y226_01 hR, y226_10 hR, y226_11 hR, y285 hR hC, y286 hR hC, y287 hR hC, y288 hR hC, tr_t, tr_f, yinN, yin _ (3 : Int64) 4 (by decide), yin _ (4 : Int64) 5 (by decide), yin _ (2 : Int64) 3 (by decide), yin _ (5 : Int64) 6 (by decide), yin _ (6 : Int64) 7 (by decide), yin _ (1 : Int64) 2 (by decide), yin _ (9999 : Int64) 10000 (by decide), cond_true, cond_false, b312_22, e6, e7, h0P, h1W]
    | true =>
      obtain ⟨k1, hk1, rfl⟩ := (inR_t (by omega)).mp h1W
      rw [c312, b312_0]
      simp (disch := omega) only [gq_true, gb_true, gb_false, true_and, and_true, eq_self, not_false_eq_true, not_true_eq_false, true_or, or_true, false_or, or_false, false_and, and_false, c0_v, ci_v, cl_v, cf_v, pk_mul, nI_add, nI_clamp, nI_lt0, nI_0le, nI_eq0, nI_lt0r, nI_ltE, nI_leE, nI_eqE, nI_m1, in_t, ba0, ba1, Nat.one_ne_zero, Nat.reduceEqDiff, Nat.reduceLeDiff, Nat.add_eq_zero_iff, rk243 hR, rr15 hR, rk245 hR, rr19 hR, rk249 hR, rs hR, rq hR, y222, y223_0, y223_1, y225_0 hR, y225_1 hR, y226_00 hR, y226_01 hR, y226_10 hR, y226_11 hR, y285 hR hC, y286 hR hC, y287 hR hC, y288 hR hC, tr_t, tr_f, yinN, yin _ (3 : Int64) 4 (by decide), yin _ (4 : Int64) 5 (by decide), yin _ (2 : Int64) 3 (by decide), yin _ (5 : Int64) 6 (by decide), yin _ (6 : Int64) 7 (by decide), yin _ (1 : Int64) 2 (by decide), yin _ (9999 : Int64) 10000 (by decide), cond_true, cond_false, b312_22, e6, e7, h0P, h1W, rk243 hR3, rr15 hR3, rk245 hR3, rr19 hR3, rk249 hR3, rs hR3, rq hR3]
theorem y313 (hR : RS m N s q) (hF : WF B s q) (hB : B < 2 ^ 30) (l0 : Int32) : am_ca sa sv (d + 4) 313 [.ref (N + 243), .int l0] m = (bif inR l0 (cN s 1) then some (.inl (some (.long (q (200 + l0.toNatClampNeg)))), si_ m (N + 243) 0 (nI (0))) else some (.inl (some (.long ((0 : Int64)))), si_ m (N + 243) 0 (nI (1)))) := by
  have hC := wf_c hF
  have hW := wf_w hF
  have hA := wf_a hF
  have hD := wf_d hF
  have hK := wf_k hF
  have hR3 := hR.c 0 (nI 0)
  obtain ⟨e0, b0⟩ := (wc_np hC).c (by decide)
  obtain ⟨e1, b1⟩ := (wc_nw hC).c (by decide)
  obtain ⟨e2, b2⟩ := (wc_na hC).c (by decide)
  obtain ⟨e3, b3⟩ := (wc_nd hC).c (by decide)
  obtain ⟨e4, b4⟩ := (wc_day hC).c (by decide)
  obtain ⟨e5, b5⟩ := (wk_c hK).c (by omega)
  obtain ⟨e6, b6⟩ := (wc_nl hC).c (by decide)
  have e7' : cN s 7 = min (cN s 5) 5 := cN_ (wk_k hK) (by omega)
  have e7 : s 7 = nI (cN s 7) := by rw [e7']; exact wk_k hK
  have b7 : cN s 7 < 6 := by omega
  cases h0W : inR l0 (cN s 1) with
  | false =>
    rw [c313, b313_0]
    simp (disch := omega) only [gq_true, gb_true, gb_false, true_and, and_true, eq_self, not_false_eq_true, not_true_eq_false, true_or, or_true, false_or, or_false, false_and, and_false, c0_v, ci_v, cl_v, cf_v, pk_mul, nI_add, nI_clamp, nI_lt0, nI_0le, nI_eq0, nI_lt0r, nI_ltE, nI_leE, nI_eqE, nI_m1, in_t, ba0, ba1, Nat.one_ne_zero, Nat.reduceEqDiff, Nat.reduceLeDiff, Nat.add_eq_zero_iff, rk243 hR, rr15 hR, rk245 hR, rr19 hR, rk249 hR, rs hR, rq hR, y222, y223_0, y223_1, y225_0 hR, y225_1 hR, y226_00 hR, y226_01 hR, y226_10 hR, y226_11 hR, y285 hR hC, y286 hR hC, y287 hR hC, y288 hR hC, tr_t, tr_f, yinN, yin _ (3 : Int64) 4 (by decide), yin _ (4 : Int64) 5 (by decide), yin _ (2 : Int64) 3 (by decide), yin _ (5 : Int64) 6 (by decide), yin _ (6 : Int64) 7 (by decide), yin _ (1 : Int64) 2 (by decide), yin _ (9999 : Int64) 10000 (by decide), cond_true, cond_false, e6, e7, h0W]
  | true =>
    obtain ⟨k0, hk0, rfl⟩ := (inR_t (by omega)).mp h0W
    rw [c313, b313_0]
    simp (disch := omega) only [gq_true, gb_true, gb_false, true_and, and_true, eq_self, not_false_eq_true, not_true_eq_false, true_or, or_true, false_or, or_false, false_and, and_false, c0_v, ci_v, cl_v, cf_v, pk_mul, nI_add, nI_clamp, nI_lt0, nI_0le, nI_eq0, nI_lt0r, nI_ltE, nI_leE, nI_eqE, nI_m1, in_t, ba0, ba1, Nat.one_ne_zero, Nat.reduceEqDiff, Nat.reduceLeDiff, Nat.add_eq_zero_iff, rk243 hR, rr15 hR, rk245 hR, rr19 hR, rk249 hR, rs hR, rq hR, y222, y223_0, y223_1, y225_0 hR, y225_1 hR, y226_00 hR, y226_01 hR, y226_10 hR, y226_11 hR, y285 hR hC, y286 hR hC, y287 hR hC, y288 hR hC, tr_t, tr_f, yinN, yin _ (3 : Int64) 4 (by decide), yin _ (4 : Int64) 5 (by decide), yin _ (2 : Int64) 3 (by decide), yin _ (5 : Int64) 6 (by decide), yin _ (6 : Int64) 7 (by decide), yin _ (1 : Int64) 2 (by decide), yin _ (9999 : Int64) 10000 (by decide), cond_true, cond_false, e6, e7, h0W, rk243 hR3, rr15 hR3, rk245 hR3, rr19 hR3, rk249 hR3, rs hR3, rq hR3]
theorem y320 (hR : RS m N s q) (hF : WF B s q) (hB : B < 2 ^ 30) (l0 l1 : Int32) : am_ca sa sv (d + 3) 320 [.ref (N + 243), .int l0, .int l1] m = (bif inR l0 (cN s 6) then (bif inR l1 (4) then some (.inl (some (.int (s (767 + 4 * l0.toNatClampNeg + l1.toNatClampNeg)))), si_ m (N + 243) 0 (nI (0))) else some (.inl (some (.int (nI 0))), si_ m (N + 243) 0 (nI (2)))) else some (.inl (some (.int (nI 0))), si_ m (N + 243) 0 (nI (1)))) := by
  have hC := wf_c hF
  have hW := wf_w hF
  have hA := wf_a hF
  have hD := wf_d hF
  have hK := wf_k hF
  have hR3 := hR.c 0 (nI 0)
  obtain ⟨e0, b0⟩ := (wc_np hC).c (by decide)
  obtain ⟨e1, b1⟩ := (wc_nw hC).c (by decide)
  obtain ⟨e2, b2⟩ := (wc_na hC).c (by decide)
  obtain ⟨e3, b3⟩ := (wc_nd hC).c (by decide)
  obtain ⟨e4, b4⟩ := (wc_day hC).c (by decide)
  obtain ⟨e5, b5⟩ := (wk_c hK).c (by omega)
  obtain ⟨e6, b6⟩ := (wc_nl hC).c (by decide)
  have e7' : cN s 7 = min (cN s 5) 5 := cN_ (wk_k hK) (by omega)
  have e7 : s 7 = nI (cN s 7) := by rw [e7']; exact wk_k hK
  have b7 : cN s 7 < 6 := by omega
  cases h0L : inR l0 (cN s 6) with
  | false =>
    cases g1 : inR l1 (4) <;> (rw [c320, b320_0]; simp (disch := omega) only [gq_true, gb_true, gb_false, true_and, and_true, eq_self, not_false_eq_true, not_true_eq_false, true_or, or_true, false_or, or_false, false_and, and_false, c0_v, ci_v, cl_v, cf_v, pk_mul, nI_add, nI_clamp, nI_lt0, nI_0le, nI_eq0, nI_lt0r, nI_ltE, nI_leE, nI_eqE, nI_m1, in_t, ba0, ba1, Nat.one_ne_zero, Nat.reduceEqDiff, Nat.reduceLeDiff, Nat.add_eq_zero_iff, rk243 hR, rr15 hR, rk245 hR, rr19 hR, rk249 hR, rs hR, rq hR, y222, y223_0, y223_1, y225_0 hR, y225_1 hR, y226_00 hR, y226_01 hR, y226_10 hR, y226_11 hR, y285 hR hC, y286 hR hC, y287 hR hC, y288 hR hC, tr_t, tr_f, yinN, yin _ (3 : Int64) 4 (by decide), yin _ (4 : Int64) 5 (by decide), yin _ (2 : Int64) 3 (by decide), yin _ (5 : Int64) 6 (by decide), yin _ (6 : Int64) 7 (by decide), yin _ (1 : Int64) 2 (by decide), yin _ (9999 : Int64) 10000 (by decide), cond_true, cond_false, e6, e7, h0L, g1])
  | true =>
    obtain ⟨k0, hk0, rfl⟩ := (inR_t (by omega)).mp h0L
    cases h1V : inR l1 (4) with
    | false =>
      rw [c320, b320_0]
      simp (disch := omega) only [gq_true, gb_true, gb_false, true_and, and_true, eq_self, not_false_eq_true, not_true_eq_false, true_or, or_true, false_or, or_false, false_and, and_false, c0_v, ci_v, cl_v, cf_v, pk_mul, nI_add, nI_clamp, nI_lt0, nI_0le, nI_eq0, nI_lt0r, nI_ltE, nI_leE, nI_eqE, nI_m1, in_t, ba0, ba1, Nat.one_ne_zero, Nat.reduceEqDiff, Nat.reduceLeDiff, Nat.add_eq_zero_iff, rk243 hR, rr15 hR, rk245 hR, rr19 hR, rk249 hR, rs hR, rq hR, y222, y223_0, y223_1, y225_0 hR, y225_1 hR, y226_00 hR, y226_01 hR, y226_10 hR, y226_11 hR, y285 hR hC, y286 hR hC, y287 hR hC, y288 hR hC, tr_t, tr_f, yinN, yin _ (3 : Int64) 4 (by decide), yin _ (4 : Int64) 5 (by decide), yin _ (2 : Int64) 3 (by decide), yin _ (5 : Int64) 6 (by decide), yin _ (6 : Int64) 7 (by decide), yin _ (1 : Int64) 2 (by decide), yin _ (9999 : Int64) 10000 (by decide), cond_true, cond_false, e6, e7, h0L, h1V]
    | true =>
      obtain ⟨k1, hk1, rfl⟩ := (inR_t (by omega)).mp h1V
      rw [c320, b320_0]
      simp (disch := omega) only [gq_true, gb_true, gb_false, true_and, and_true, eq_self, not_false_eq_true, not_true_eq_false, true_or, or_true, false_or, or_false, false_and, and_false, c0_v, ci_v, cl_v, cf_v, pk_mul, nI_add, nI_clamp, nI_lt0, nI_0le, nI_eq0, nI_lt0r, nI_ltE, nI_leE, nI_eqE, nI_m1, in_t, ba0, ba1, Nat.one_ne_zero, Nat.reduceEqDiff, Nat.reduceLeDiff, Nat.add_eq_zero_iff, rk243 hR, rr15 hR, rk245 hR, rr19 hR, rk249 hR, rs hR, rq hR, y222, y223_0, y223_1, y225_0 hR, y225_1 hR, y226_00 hR, y226_01 hR, y226_10 hR, y226_11 hR, y285 hR hC, y286 hR hC, y287 hR hC, y288 hR hC, tr_t, tr_f, yinN, yin _ (3 : Int64) 4 (by decide), yin _ (4 : Int64) 5 (by decide), yin _ (2 : Int64) 3 (by decide), yin _ (5 : Int64) 6 (by decide), yin _ (6 : Int64) 7 (by decide), yin _ (1 : Int64) 2 (by decide), yin _ (9999 : Int64) 10000 (by decide), cond_true, cond_false, e6, e7, h0L, h1V, rk243 hR3, rr15 hR3, rk245 hR3, rr19 hR3, rk249 hR3, rs hR3, rq hR3]
theorem y321 (hR : RS m N s q) (hF : WF B s q) (hB : B < 2 ^ 30) (l0 l1 l2 : Int32) : am_ca sa sv (d + 4) 321 [.ref (N + 243), .int l0, .int l1, .int l2] m = (bif inR l0 (cN s 7) then (bif inR l1 (cN s 0) then (bif inR l2 (5) then some (.inl (some (.long (q (212 + 50 * l0.toNatClampNeg + 5 * l1.toNatClampNeg + l2.toNatClampNeg)))), si_ m (N + 243) 0 (nI (0))) else some (.inl (some (.long ((0 : Int64)))), si_ m (N + 243) 0 (nI (2)))) else some (.inl (some (.long ((0 : Int64)))), si_ m (N + 243) 0 (nI (1)))) else some (.inl (some (.long ((0 : Int64)))), si_ m (N + 243) 0 (nI (1)))) := by
  have hC := wf_c hF
  have hW := wf_w hF
  have hA := wf_a hF
  have hD := wf_d hF
  have hK := wf_k hF
  have hR3 := hR.c 0 (nI 0)
  obtain ⟨e0, b0⟩ := (wc_np hC).c (by decide)
  obtain ⟨e1, b1⟩ := (wc_nw hC).c (by decide)
  obtain ⟨e2, b2⟩ := (wc_na hC).c (by decide)
  obtain ⟨e3, b3⟩ := (wc_nd hC).c (by decide)
  obtain ⟨e4, b4⟩ := (wc_day hC).c (by decide)
  obtain ⟨e5, b5⟩ := (wk_c hK).c (by omega)
  obtain ⟨e6, b6⟩ := (wc_nl hC).c (by decide)
  have e7' : cN s 7 = min (cN s 5) 5 := cN_ (wk_k hK) (by omega)
  have e7 : s 7 = nI (cN s 7) := by rw [e7']; exact wk_k hK
  have b7 : cN s 7 < 6 := by omega
  cases h0S : inR l0 (cN s 7) with
  | false =>
    cases g2 : inR l2 (5) <;> (rw [c321, b321_0]; simp (disch := omega) only [gq_true, gb_true, gb_false, true_and, and_true, eq_self, not_false_eq_true, not_true_eq_false, true_or, or_true, false_or, or_false, false_and, and_false, c0_v, ci_v, cl_v, cf_v, pk_mul, nI_add, nI_clamp, nI_lt0, nI_0le, nI_eq0, nI_lt0r, nI_ltE, nI_leE, nI_eqE, nI_m1, in_t, ba0, ba1, Nat.one_ne_zero, Nat.reduceEqDiff, Nat.reduceLeDiff, Nat.add_eq_zero_iff, rk243 hR, rr15 hR, rk245 hR, rr19 hR, rk249 hR, rs hR, rq hR, y222, y223_0, y223_1, y225_0 hR, y225_1 hR, y226_00 hR, y226_01 hR, y226_10 hR, y226_11 hR, y285 hR hC, y286 hR hC, y287 hR hC, y288 hR hC, tr_t, tr_f, yinN, yin _ (3 : Int64) 4 (by decide), yin _ (4 : Int64) 5 (by decide), yin _ (2 : Int64) 3 (by decide), yin _ (5 : Int64) 6 (by decide), yin _ (6 : Int64) 7 (by decide), yin _ (1 : Int64) 2 (by decide), yin _ (9999 : Int64) 10000 (by decide), cond_true, cond_false, b321_33, e6, e7, h0S, g2])
  | true =>
    obtain ⟨k0, hk0, rfl⟩ := (inR_t (by omega)).mp h0S
    cases h1P : inR l1 (cN s 0) with
    | false =>
      cases g2 : inR l2 (5) <;> (rw [c321, b321_0]; simp (disch := omega) only [gq_true, gb_true, gb_false, true_and, and_true, eq_self, not_false_eq_true, not_true_eq_false, true_or, or_true, false_or, or_false, false_and, and_false, c0_v, ci_v, cl_v, cf_v, pk_mul, nI_add, nI_clamp, nI_lt0, nI_0le, nI_eq0, nI_lt0r, nI_ltE, nI_leE, nI_eqE, nI_m1, in_t, ba0, ba1, Nat.one_ne_zero, Nat.reduceEqDiff, Nat.reduceLeDiff, Nat.add_eq_zero_iff, rk243 hR, rr15 hR, rk245 hR, rr19 hR, rk249 hR, rs hR, rq hR, y222, y223_0, y223_1, y225_0 hR, y225_1 hR, y226_00 hR, y226_01 hR, y226_10 hR, y226_11 hR, y285 hR hC, y286 hR hC, y287 hR hC, y288 hR hC, tr_t, tr_f, yinN, yin _ (3 : Int64) 4 (by decide), yin _ (4 : Int64) 5 (by decide), yin _ (2 : Int64) 3 (by decide), yin _ (5 : Int64) 6 (by decide), yin _ (6 : Int64) 7 (by decide), yin _ (1 : Int64) 2 (by decide), yin _ (9999 : Int64) 10000 (by decide), cond_true, cond_false, b321_33, e6, e7, h0S, h1P, g2])
    | true =>
      obtain ⟨k1, hk1, rfl⟩ := (inR_t (by omega)).mp h1P
      cases h2V : inR l2 (5) with
      | false =>
        rw [c321, b321_0]
        simp (disch := omega) only [gq_true, gb_true, gb_false, true_and, and_true, eq_self, not_false_eq_true, not_true_eq_false, true_or, or_true, false_or, or_false, false_and, and_false, c0_v, ci_v, cl_v, cf_v, pk_mul, nI_add, nI_clamp, nI_lt0, nI_0le, nI_eq0, nI_lt0r, nI_ltE, nI_leE, nI_eqE, nI_m1, in_t, ba0, ba1, Nat.one_ne_zero, Nat.reduceEqDiff, Nat.reduceLeDiff, Nat.add_eq_zero_iff, rk243 hR, rr15 hR, rk245 hR, rr19 hR, rk249 hR, rs hR, rq hR, y222, y223_0, y223_1, y225_0 hR, y225_1 hR, y226_00 hR, y226_01 hR, y226_10 hR, y226_11 hR, y285 hR hC, y286 hR hC, y287 hR hC, y288 hR hC, tr_t, tr_f, yinN, yin _ (3 : Int64) 4 (by decide), yin _ (4 : Int64) 5 (by decide), yin _ (2 : Int64) 3 (by decide), yin _ (5 : Int64) 6 (by decide), yin _ (6 : Int64) 7 (by decide), yin _ (1 : Int64) 2 (by decide), yin _ (9999 : Int64) 10000 (by decide), cond_true, cond_false, b321_33, e6, e7, h0S, h1P, h2V]
      | true =>
        obtain ⟨k2, hk2, rfl⟩ := (inR_t (by omega)).mp h2V
        rw [c321, b321_0]
        simp (disch := omega) only [gq_true, gb_true, gb_false, true_and, and_true, eq_self, not_false_eq_true, not_true_eq_false, true_or, or_true, false_or, or_false, false_and, and_false, c0_v, ci_v, cl_v, cf_v, pk_mul, nI_add, nI_clamp, nI_lt0, nI_0le, nI_eq0, nI_lt0r, nI_ltE, nI_leE, nI_eqE, nI_m1, in_t, ba0, ba1, Nat.one_ne_zero, Nat.reduceEqDiff, Nat.reduceLeDiff, Nat.add_eq_zero_iff, rk243 hR, rr15 hR, rk245 hR, rr19 hR, rk249 hR, rs hR, rq hR, y222, y223_0, y223_1, y225_0 hR, y225_1 hR, y226_00 hR, y226_01 hR, y226_10 hR, y226_11 hR, y285 hR hC, y286 hR hC, y287 hR hC, y288 hR hC, tr_t, tr_f, yinN, yin _ (3 : Int64) 4 (by decide), yin _ (4 : Int64) 5 (by decide), yin _ (2 : Int64) 3 (by decide), yin _ (5 : Int64) 6 (by decide), yin _ (6 : Int64) 7 (by decide), yin _ (1 : Int64) 2 (by decide), yin _ (9999 : Int64) 10000 (by decide), cond_true, cond_false, b321_33, e6, e7, h0S, h1P, h2V, rk243 hR3, rr15 hR3, rk245 hR3, rr19 hR3, rk249 hR3, rs hR3, rq hR3]
theorem y322 (hR : RS m N s q) (hF : WF B s q) (hB : B < 2 ^ 30) (l0 : Int32) : am_ca sa sv (d + 4) 322 [.ref (N + 243), .int l0] m = (bif inR l0 (cN s 7) then some (.inl (some (.int (s (762 + l0.toNatClampNeg)))), si_ m (N + 243) 0 (nI (0))) else some (.inl (some (.int (nI 0))), si_ m (N + 243) 0 (nI (1)))) := by
  have hC := wf_c hF
  have hW := wf_w hF
  have hA := wf_a hF
  have hD := wf_d hF
  have hK := wf_k hF
  have hR3 := hR.c 0 (nI 0)
  obtain ⟨e0, b0⟩ := (wc_np hC).c (by decide)
  obtain ⟨e1, b1⟩ := (wc_nw hC).c (by decide)
  obtain ⟨e2, b2⟩ := (wc_na hC).c (by decide)
  obtain ⟨e3, b3⟩ := (wc_nd hC).c (by decide)
  obtain ⟨e4, b4⟩ := (wc_day hC).c (by decide)
  obtain ⟨e5, b5⟩ := (wk_c hK).c (by omega)
  obtain ⟨e6, b6⟩ := (wc_nl hC).c (by decide)
  have e7' : cN s 7 = min (cN s 5) 5 := cN_ (wk_k hK) (by omega)
  have e7 : s 7 = nI (cN s 7) := by rw [e7']; exact wk_k hK
  have b7 : cN s 7 < 6 := by omega
  cases h0S : inR l0 (cN s 7) with
  | false =>
    rw [c322, b322_0]
    simp (disch := omega) only [gq_true, gb_true, gb_false, true_and, and_true, eq_self, not_false_eq_true, not_true_eq_false, true_or, or_true, false_or, or_false, false_and, and_false, c0_v, ci_v, cl_v, cf_v, pk_mul, nI_add, nI_clamp, nI_lt0, nI_0le, nI_eq0, nI_lt0r, nI_ltE, nI_leE, nI_eqE, nI_m1, in_t, ba0, ba1, Nat.one_ne_zero, Nat.reduceEqDiff, Nat.reduceLeDiff, Nat.add_eq_zero_iff, rk243 hR, rr15 hR, rk245 hR, rr19 hR, rk249 hR, rs hR, rq hR, y222, y223_0, y223_1, y225_0 hR, y225_1 hR, y226_00 hR, y226_01 hR, y226_10 hR, y226_11 hR, y285 hR hC, y286 hR hC, y287 hR hC, y288 hR hC, tr_t, tr_f, yinN, yin _ (3 : Int64) 4 (by decide), yin _ (4 : Int64) 5 (by decide), yin _ (2 : Int64) 3 (by decide), yin _ (5 : Int64) 6 (by decide), yin _ (6 : Int64) 7 (by decide), yin _ (1 : Int64) 2 (by decide), yin _ (9999 : Int64) 10000 (by decide), cond_true, cond_false, e6, e7, h0S]
  | true =>
    obtain ⟨k0, hk0, rfl⟩ := (inR_t (by omega)).mp h0S
    rw [c322, b322_0]
    simp (disch := omega) only [gq_true, gb_true, gb_false, true_and, and_true, eq_self, not_false_eq_true, not_true_eq_false, true_or, or_true, false_or, or_false, false_and, and_false, c0_v, ci_v, cl_v, cf_v, pk_mul, nI_add, nI_clamp, nI_lt0, nI_0le, nI_eq0, nI_lt0r, nI_ltE, nI_leE, nI_eqE, nI_m1, in_t, ba0, ba1, Nat.one_ne_zero, Nat.reduceEqDiff, Nat.reduceLeDiff, Nat.add_eq_zero_iff, rk243 hR, rr15 hR, rk245 hR, rr19 hR, rk249 hR, rs hR, rq hR, y222, y223_0, y223_1, y225_0 hR, y225_1 hR, y226_00 hR, y226_01 hR, y226_10 hR, y226_11 hR, y285 hR hC, y286 hR hC, y287 hR hC, y288 hR hC, tr_t, tr_f, yinN, yin _ (3 : Int64) 4 (by decide), yin _ (4 : Int64) 5 (by decide), yin _ (2 : Int64) 3 (by decide), yin _ (5 : Int64) 6 (by decide), yin _ (6 : Int64) 7 (by decide), yin _ (1 : Int64) 2 (by decide), yin _ (9999 : Int64) 10000 (by decide), cond_true, cond_false, e6, e7, h0S, rk243 hR3, rr15 hR3, rk245 hR3, rr19 hR3, rk249 hR3, rs hR3, rq hR3]
theorem y323 (hR : RS m N s q) (hF : WF B s q) (hB : B < 2 ^ 30) (l0 l1 : Int32) : am_ca sa sv (d + 4) 323 [.ref (N + 243), .int l0, .int l1] m = (bif inR l0 (cN s 0) then (bif inR l1 (3) then some (.inl (some (.long (q (50 + 3 * l0.toNatClampNeg + l1.toNatClampNeg)))), si_ m (N + 243) 0 (nI (0))) else some (.inl (some (.long ((0 : Int64)))), si_ m (N + 243) 0 (nI (2)))) else some (.inl (some (.long ((0 : Int64)))), si_ m (N + 243) 0 (nI (1)))) := by
  have hC := wf_c hF
  have hW := wf_w hF
  have hA := wf_a hF
  have hD := wf_d hF
  have hK := wf_k hF
  have hR3 := hR.c 0 (nI 0)
  obtain ⟨e0, b0⟩ := (wc_np hC).c (by decide)
  obtain ⟨e1, b1⟩ := (wc_nw hC).c (by decide)
  obtain ⟨e2, b2⟩ := (wc_na hC).c (by decide)
  obtain ⟨e3, b3⟩ := (wc_nd hC).c (by decide)
  obtain ⟨e4, b4⟩ := (wc_day hC).c (by decide)
  obtain ⟨e5, b5⟩ := (wk_c hK).c (by omega)
  obtain ⟨e6, b6⟩ := (wc_nl hC).c (by decide)
  have e7' : cN s 7 = min (cN s 5) 5 := cN_ (wk_k hK) (by omega)
  have e7 : s 7 = nI (cN s 7) := by rw [e7']; exact wk_k hK
  have b7 : cN s 7 < 6 := by omega
  cases h0P : inR l0 (cN s 0) with
  | false =>
    cases g1 : inR l1 (3) <;> (rw [c323, b323_0]; simp (disch := omega) only [gq_true, gb_true, gb_false, true_and, and_true, eq_self, not_false_eq_true, not_true_eq_false, true_or, or_true, false_or, or_false, false_and, and_false, c0_v, ci_v, cl_v, cf_v, pk_mul, nI_add, nI_clamp, nI_lt0, nI_0le, nI_eq0, nI_lt0r, nI_ltE, nI_leE, nI_eqE, nI_m1, in_t, ba0, ba1, Nat.one_ne_zero, Nat.reduceEqDiff, Nat.reduceLeDiff, Nat.add_eq_zero_iff, rk243 hR, rr15 hR, rk245 hR, rr19 hR, rk249 hR, rs hR, rq hR, y222, y223_0, y223_1, y225_0 hR, y225_1 hR, y226_00 hR, y226_01 hR, y226_10 hR, y226_11 hR, y285 hR hC, y286 hR hC, y287 hR hC, y288 hR hC, tr_t, tr_f, yinN, yin _ (3 : Int64) 4 (by decide), yin _ (4 : Int64) 5 (by decide), yin _ (2 : Int64) 3 (by decide), yin _ (5 : Int64) 6 (by decide), yin _ (6 : Int64) 7 (by decide), yin _ (1 : Int64) 2 (by decide), yin _ (9999 : Int64) 10000 (by decide), cond_true, cond_false, e6, e7, h0P, g1])
  | true =>
    obtain ⟨k0, hk0, rfl⟩ := (inR_t (by omega)).mp h0P
    cases h1V : inR l1 (3) with
    | false =>
      rw [c323, b323_0]
      simp (disch := omega) only [gq_true, gb_true, gb_false, true_and, and_true, eq_self, not_false_eq_true, not_true_eq_false, true_or, or_true, false_or, or_false, false_and, and_false, c0_v, ci_v, cl_v, cf_v, pk_mul, nI_add, nI_clamp, nI_lt0, nI_0le, nI_eq0, nI_lt0r, nI_ltE, nI_leE, nI_eqE, nI_m1, in_t, ba0, ba1, Nat.one_ne_zero, Nat.reduceEqDiff, Nat.reduceLeDiff, Nat.add_eq_zero_iff, rk243 hR, rr15 hR, rk245 hR, rr19 hR, rk249 hR, rs hR, rq hR, y222, y223_0, y223_1, y225_0 hR, y225_1 hR, y226_00 hR, y226_01 hR, y226_10 hR, y226_11 hR, y285 hR hC, y286 hR hC, y287 hR hC, y288 hR hC, tr_t, tr_f, yinN, yin _ (3 : Int64) 4 (by decide), yin _ (4 : Int64) 5 (by decide), yin _ (2 : Int64) 3 (by decide), yin _ (5 : Int64) 6 (by decide), yin _ (6 : Int64) 7 (by decide), yin _ (1 : Int64) 2 (by decide), yin _ (9999 : Int64) 10000 (by decide), cond_true, cond_false, e6, e7, h0P, h1V]
    | true =>
      obtain ⟨k1, hk1, rfl⟩ := (inR_t (by omega)).mp h1V
      rw [c323, b323_0]
      simp (disch := omega) only [gq_true, gb_true, gb_false, true_and, and_true, eq_self, not_false_eq_true, not_true_eq_false, true_or, or_true, false_or, or_false, false_and, and_false, c0_v, ci_v, cl_v, cf_v, pk_mul, nI_add, nI_clamp, nI_lt0, nI_0le, nI_eq0, nI_lt0r, nI_ltE, nI_leE, nI_eqE, nI_m1, in_t, ba0, ba1, Nat.one_ne_zero, Nat.reduceEqDiff, Nat.reduceLeDiff, Nat.add_eq_zero_iff, rk243 hR, rr15 hR, rk245 hR, rr19 hR, rk249 hR, rs hR, rq hR, y222, y223_0, y223_1, y225_0 hR, y225_1 hR, y226_00 hR, y226_01 hR, y226_10 hR, y226_11 hR, y285 hR hC, y286 hR hC, y287 hR hC, y288 hR hC, tr_t, tr_f, yinN, yin _ (3 : Int64) 4 (by decide), yin _ (4 : Int64) 5 (by decide), yin _ (2 : Int64) 3 (by decide), yin _ (5 : Int64) 6 (by decide), yin _ (6 : Int64) 7 (by decide), yin _ (1 : Int64) 2 (by decide), yin _ (9999 : Int64) 10000 (by decide), cond_true, cond_false, e6, e7, h0P, h1V, rk243 hR3, rr15 hR3, rk245 hR3, rr19 hR3, rk249 hR3, rs hR3, rq hR3]
end R51
