/-! the class answers: its reading methods, whole -/
/-- a state of the class in which its office at o holds s and q -/
def CQ (B : Nat) (m : am_M) (N o : Nat) (s : Nat → Int32) (q : Nat → Int64) : Prop := XS m N ∧ 0 < N ∧ gr_ m N 13 = o ∧ 0 < o ∧ OS m o ∧ OV m o s q ∧ WF B s q ∧ B < 2 ^ 30
theorem l_eqF {a b : Nat} (h : ¬ a = b) : (a = b) = False := eq_false h
section R44
variable {sa sv d o N B : Nat} {m : am_M} {s : Nat → Int32} {q : Nat → Int64}
theorem x215_0 : am_ca sa sv (d + 1) 215 [.int (nI 0)] m = some (.inr 1, th_ m) := x215 false
theorem x215_1 : am_ca sa sv (d + 1) 215 [.int (nI 1)] m = some (.inl none, m) := x215 true
theorem x216t (x : Int32) (h : inR x 10000 = true) : am_ca sa sv (d + 1) 216 [.int x] m = some (.inl (some (.int (nI 1))), m) := by rw [x216, h]; rfl
theorem x216f (x : Int32) (h : inR x 10000 = false) : am_ca sa sv (d + 1) 216 [.int x] m = some (.inl (some (.int (nI 0))), m) := by rw [x216, h]; rfl
theorem x214s (k n : Nat) (hn : n < 2 ^ 31) (h : k < n) : am_ca sa sv (d + 1) 214 [.int (nI k), .int (nI n)] m = some (.inl none, m) := by
  rw [x214 _ n hn, inR_nI (by omega), decide_eq_true h]; rfl
theorem x214f (p : Int32) (n : Nat) (hn : n < 2 ^ 31) (h : inR p n = false) : am_ca sa sv (d + 1) 214 [.int p, .int (nI n)] m = some (.inr 2, th_ m) := by
  rw [x214 _ n hn, h]; rfl
theorem x212 (h : CQ B m N o s q) (p : Int32) : am_ca sa sv (d + 2) 212 [.ref N, .int p] m = bif inR p (cN s 0) then some (.inl none, m) else some (.inr 2, th_ m) := by
  obtain ⟨hX, hN, ho, ho0, hO, hV, hF, hB⟩ := h
  obtain ⟨e0, b0⟩ := (wc_np (wf_c hF)).c (by decide)
  rw [c212, b212_0]
  simp (disch := omega) only [gq_true, gb_true, gb_false, true_and, and_true, eq_self, not_false_eq_true, not_true_eq_false, true_or, or_true, false_or, or_false, false_and, and_false, c0_v, ci_v, cl_v, cf_v, pk_mul, nI_add, nI_clamp, nI_lt0, nI_0le, nI_eq0, nI_lt0r, nI_ltE, nI_leE, nI_eqE, nI_m1, in_t, ba0, ba1, Nat.one_ne_zero, Nat.reduceEqDiff, Nat.reduceLeDiff, Nat.add_eq_zero_iff, xk0 hX, ho, ok0 hO, or0_1 hO, ok1 hO, l_eqF (Nat.pos_iff_ne_zero.mp ho0), ov_np hV]
  rw [e0, x214 p _ (by omega)]
  cases inR p (cN s 0) <;> rfl
theorem x213 (h : CQ B m N o s q) (p : Int32) : am_ca sa sv (d + 2) 213 [.ref N, .int p] m = bif inR p (cN s 1) then some (.inl none, m) else some (.inr 2, th_ m) := by
  obtain ⟨hX, hN, ho, ho0, hO, hV, hF, hB⟩ := h
  obtain ⟨e0, b0⟩ := (wc_nw (wf_c hF)).c (by decide)
  rw [c213, b213_0]
  simp (disch := omega) only [gq_true, gb_true, gb_false, true_and, and_true, eq_self, not_false_eq_true, not_true_eq_false, true_or, or_true, false_or, or_false, false_and, and_false, c0_v, ci_v, cl_v, cf_v, pk_mul, nI_add, nI_clamp, nI_lt0, nI_0le, nI_eq0, nI_lt0r, nI_ltE, nI_leE, nI_eqE, nI_m1, in_t, ba0, ba1, Nat.one_ne_zero, Nat.reduceEqDiff, Nat.reduceLeDiff, Nat.add_eq_zero_iff, xk0 hX, ho, ok0 hO, or0_1 hO, ok1 hO, l_eqF (Nat.pos_iff_ne_zero.mp ho0), ov_nw hV]
  rw [e0, x214 p _ (by omega)]
  cases inR p (cN s 1) <;> rfl
theorem x212s (h : CQ B m N o s q) (k : Nat) (hk : k < cN s 0) (hb : cN s 0 < 11) : am_ca sa sv (d + 2) 212 [.ref N, .int (nI k)] m = some (.inl none, m) := by
  rw [x212 h, inR_nI (by omega), decide_eq_true hk]; rfl
theorem x213s (h : CQ B m N o s q) (k : Nat) (hk : k < cN s 1) (hb : cN s 1 < 13) : am_ca sa sv (d + 2) 213 [.ref N, .int (nI k)] m = some (.inl none, m) := by
  rw [x213 h, inR_nI (by omega), decide_eq_true hk]; rfl
theorem x212f (h : CQ B m N o s q) (p : Int32) (hp : inR p (cN s 0) = false) : am_ca sa sv (d + 2) 212 [.ref N, .int p] m = some (.inr 2, th_ m) := by
  rw [x212 h, hp]; rfl
theorem x213f (h : CQ B m N o s q) (p : Int32) (hp : inR p (cN s 1) = false) : am_ca sa sv (d + 2) 213 [.ref N, .int p] m = some (.inr 2, th_ m) := by
  rw [x213 h, hp]; rfl
theorem x163 (h : CQ B m N o s q) (l0 : Int32) : am_ca sa sv (d + 4) 163 [.ref N, .int l0] m = (bif inR l0 (cN s 0) then some (.inl (some (.int (s (8 + l0.toNatClampNeg)))), m) else some (.inr 2, th_ m)) := by
  have h' := h
  obtain ⟨hX, hN, ho, ho0, hO, hV, hF, hB⟩ := h
  have hz := l_eqF (Nat.pos_iff_ne_zero.mp ho0)
  have hC := wf_c hF
  have hW := wf_w hF
  have hA := wf_a hF
  have hD := wf_d hF
  have hK := wf_k hF
  obtain ⟨e0, b0⟩ := (wc_np hC).c (by decide)
  obtain ⟨e1, b1⟩ := (wc_nw hC).c (by decide)
  obtain ⟨e2, b2⟩ := (wc_na hC).c (by decide)
  obtain ⟨e3, b3⟩ := (wc_nd hC).c (by decide)
  obtain ⟨e4, b4⟩ := (wc_day hC).c (by decide)
  obtain ⟨e5, b5⟩ := (wk_c hK).c (by omega)
  obtain ⟨e6, b6⟩ := (wc_nl hC).c (by decide)
  have e7' : cN s 7 = min (cN s 5) 5 := cN_ (wk_k hK) (by omega)
  have e7 : s 7 = nI (cN s 7) := by rw [e7']; exact wk_k hK
  have b7 : cN s 7 < 6 := by omega
  cases hb0P : inR l0 (cN s 0) with
  | false =>
    rw [c163, b163_0]
    simp (disch := omega) only [gq_true, gb_true, gb_false, true_and, and_true, eq_self, not_false_eq_true, not_true_eq_false, true_or, or_true, false_or, or_false, false_and, and_false, c0_v, ci_v, cl_v, cf_v, pk_mul, nI_add, nI_clamp, nI_lt0, nI_0le, nI_eq0, nI_lt0r, nI_ltE, nI_leE, nI_eqE, nI_m1, in_t, ba0, ba1, Nat.one_ne_zero, Nat.reduceEqDiff, Nat.reduceLeDiff, Nat.add_eq_zero_iff, xk0 hX, ho, ok0 hO, ok1 hO, or0_1 hO, ok13 hO, or0_2 hO, ok15 hO, or0_3 hO, ok17 hO, or0_4 hO, ok19 hO, or0_5 hO, hz, c0_x, ci_x, cl_x, cf_x, xg_v, cond_true, cond_false, ov_np hV, ov_nw hV, ov_na hV, ov_nd hV, ov_nl hV, ov_nc hV, ov_day hV, x215_0, x215_1, x212f h' _ hb0P, e0, e1, e2, e3, e4, e6, e7]
    try rfl
  | true =>
    obtain ⟨k0, hk0, rfl⟩ := (inR_t (by omega)).mp hb0P
    rw [c163, b163_0]
    simp (disch := omega) only [gq_true, gb_true, gb_false, true_and, and_true, eq_self, not_false_eq_true, not_true_eq_false, true_or, or_true, false_or, or_false, false_and, and_false, c0_v, ci_v, cl_v, cf_v, pk_mul, nI_add, nI_clamp, nI_lt0, nI_0le, nI_eq0, nI_lt0r, nI_ltE, nI_leE, nI_eqE, nI_m1, in_t, ba0, ba1, Nat.one_ne_zero, Nat.reduceEqDiff, Nat.reduceLeDiff, Nat.add_eq_zero_iff, xk0 hX, ho, ok0 hO, ok1 hO, or0_1 hO, ok13 hO, or0_2 hO, ok15 hO, or0_3 hO, ok17 hO, or0_4 hO, ok19 hO, or0_5 hO, hz, c0_x, ci_x, cl_x, cf_x, xg_v, cond_true, cond_false, ov_np hV, ov_nw hV, ov_na hV, ov_nd hV, ov_nl hV, ov_nc hV, ov_day hV, x215_0, x215_1, x212s h' _ hk0 b0, x14 hO hV hC k0 (by omega), if_pos hk0, e0, e1, e2, e3, e4, e6, e7]
theorem x174 (h : CQ B m N o s q) : am_ca sa sv (d + 3) 174 [.ref N] m = some (.inl (some (.int (nrev_ s (cN s 2)))), m) := by
  have h' := h
  obtain ⟨hX, hN, ho, ho0, hO, hV, hF, hB⟩ := h
  have hz := l_eqF (Nat.pos_iff_ne_zero.mp ho0)
  have hC := wf_c hF
  have hW := wf_w hF
  have hA := wf_a hF
  have hD := wf_d hF
  have hK := wf_k hF
  obtain ⟨e0, b0⟩ := (wc_np hC).c (by decide)
  obtain ⟨e1, b1⟩ := (wc_nw hC).c (by decide)
  obtain ⟨e2, b2⟩ := (wc_na hC).c (by decide)
  obtain ⟨e3, b3⟩ := (wc_nd hC).c (by decide)
  obtain ⟨e4, b4⟩ := (wc_day hC).c (by decide)
  obtain ⟨e5, b5⟩ := (wk_c hK).c (by omega)
  obtain ⟨e6, b6⟩ := (wc_nl hC).c (by decide)
  have e7' : cN s 7 = min (cN s 5) 5 := cN_ (wk_k hK) (by omega)
  have e7 : s 7 = nI (cN s 7) := by rw [e7']; exact wk_k hK
  have b7 : cN s 7 < 6 := by omega
  rw [c174, b174_0]
  simp (disch := omega) only [gq_true, gb_true, gb_false, true_and, and_true, eq_self, not_false_eq_true, not_true_eq_false, true_or, or_true, false_or, or_false, false_and, and_false, c0_v, ci_v, cl_v, cf_v, pk_mul, nI_add, nI_clamp, nI_lt0, nI_0le, nI_eq0, nI_lt0r, nI_ltE, nI_leE, nI_eqE, nI_m1, in_t, ba0, ba1, Nat.one_ne_zero, Nat.reduceEqDiff, Nat.reduceLeDiff, Nat.add_eq_zero_iff, xk0 hX, ho, ok0 hO, ok1 hO, or0_1 hO, ok13 hO, or0_2 hO, ok15 hO, or0_3 hO, ok17 hO, or0_4 hO, ok19 hO, or0_5 hO, hz, c0_x, ci_x, cl_x, cf_x, xg_v, cond_true, cond_false, ov_np hV, ov_nw hV, ov_na hV, ov_nd hV, ov_nl hV, ov_nc hV, ov_day hV, x215_0, x215_1, x77 hO hV hC, e0, e1, e2, e3, e6, e7]
theorem x176 (h : CQ B m N o s q) (l0 l1 : Int32) : am_ca sa sv (d + 2) 176 [.ref N, .int l0, .int l1] m = (bif inR l0 (cN s 3) then (bif inR l1 (6) then some (.inl (some (.int (s (690 + 6 * l0.toNatClampNeg + l1.toNatClampNeg)))), m) else some (.inr 1, th_ m)) else some (.inr 2, th_ m)) := by
  have h' := h
  obtain ⟨hX, hN, ho, ho0, hO, hV, hF, hB⟩ := h
  have hz := l_eqF (Nat.pos_iff_ne_zero.mp ho0)
  have hC := wf_c hF
  have hW := wf_w hF
  have hA := wf_a hF
  have hD := wf_d hF
  have hK := wf_k hF
  obtain ⟨e0, b0⟩ := (wc_np hC).c (by decide)
  obtain ⟨e1, b1⟩ := (wc_nw hC).c (by decide)
  obtain ⟨e2, b2⟩ := (wc_na hC).c (by decide)
  obtain ⟨e3, b3⟩ := (wc_nd hC).c (by decide)
  obtain ⟨e4, b4⟩ := (wc_day hC).c (by decide)
  obtain ⟨e5, b5⟩ := (wk_c hK).c (by omega)
  obtain ⟨e6, b6⟩ := (wc_nl hC).c (by decide)
  have e7' : cN s 7 = min (cN s 5) 5 := cN_ (wk_k hK) (by omega)
  have e7 : s 7 = nI (cN s 7) := by rw [e7']; exact wk_k hK
  have b7 : cN s 7 < 6 := by omega
  cases hb0D : inR l0 (cN s 3) with
  | false =>
    rw [c176, b176_0]
    simp (disch := omega) only [gq_true, gb_true, gb_false, true_and, and_true, eq_self, not_false_eq_true, not_true_eq_false, true_or, or_true, false_or, or_false, false_and, and_false, c0_v, ci_v, cl_v, cf_v, pk_mul, nI_add, nI_clamp, nI_lt0, nI_0le, nI_eq0, nI_lt0r, nI_ltE, nI_leE, nI_eqE, nI_m1, in_t, ba0, ba1, Nat.one_ne_zero, Nat.reduceEqDiff, Nat.reduceLeDiff, Nat.add_eq_zero_iff, xk0 hX, ho, ok0 hO, ok1 hO, or0_1 hO, ok13 hO, or0_2 hO, ok15 hO, or0_3 hO, ok17 hO, or0_4 hO, ok19 hO, or0_5 hO, hz, c0_x, ci_x, cl_x, cf_x, xg_v, cond_true, cond_false, ov_np hV, ov_nw hV, ov_na hV, ov_nd hV, ov_nl hV, ov_nc hV, ov_day hV, x215_0, x215_1, x214f _ _ (by omega) hb0D, e0, e1, e2, e3, e4, e6, e7]
    try rfl
  | true =>
    obtain ⟨k0, hk0, rfl⟩ := (inR_t (by omega)).mp hb0D
    cases hb1V : inR l1 (6) with
    | false =>
      by_cases hn : l1 < 0
      · rw [c176, b176_0]
        simp (disch := omega) only [gq_true, gb_true, gb_false, true_and, and_true, eq_self, not_false_eq_true, not_true_eq_false, true_or, or_true, false_or, or_false, false_and, and_false, c0_v, ci_v, cl_v, cf_v, pk_mul, nI_add, nI_clamp, nI_lt0, nI_0le, nI_eq0, nI_lt0r, nI_ltE, nI_leE, nI_eqE, nI_m1, in_t, ba0, ba1, Nat.one_ne_zero, Nat.reduceEqDiff, Nat.reduceLeDiff, Nat.add_eq_zero_iff, xk0 hX, ho, ok0 hO, ok1 hO, or0_1 hO, ok13 hO, or0_2 hO, ok15 hO, or0_3 hO, ok17 hO, or0_4 hO, ok19 hO, or0_5 hO, hz, c0_x, ci_x, cl_x, cf_x, xg_v, cond_true, cond_false, ov_np hV, ov_nw hV, ov_na hV, ov_nd hV, ov_nl hV, ov_nc hV, ov_day hV, x215_0, x215_1, x214s _ _ (by omega) hk0, eq_true hn, e0, e1, e2, e3, e4, e6, e7]
        try rfl
      · have hn2 : nI 5 < l1 := by
          refine Int32.not_le.mp fun z => ?_
          have := inR_c (p := l1) (n := 6) (by decide) hn (Int32.not_le.mpr (by rw [Int32.lt_iff_toInt_lt, nI_toInt (by decide)]; rw [Int32.le_iff_toInt_le, nI_toInt (by decide)] at z; omega))
          rw [hb1V] at this; cases this
        rw [c176, b176_0]
        simp (disch := omega) only [gq_true, gb_true, gb_false, true_and, and_true, eq_self, not_false_eq_true, not_true_eq_false, true_or, or_true, false_or, or_false, false_and, and_false, c0_v, ci_v, cl_v, cf_v, pk_mul, nI_add, nI_clamp, nI_lt0, nI_0le, nI_eq0, nI_lt0r, nI_ltE, nI_leE, nI_eqE, nI_m1, in_t, ba0, ba1, Nat.one_ne_zero, Nat.reduceEqDiff, Nat.reduceLeDiff, Nat.add_eq_zero_iff, xk0 hX, ho, ok0 hO, ok1 hO, or0_1 hO, ok13 hO, or0_2 hO, ok15 hO, or0_3 hO, ok17 hO, or0_4 hO, ok19 hO, or0_5 hO, hz, c0_x, ci_x, cl_x, cf_x, xg_v, cond_true, cond_false, ov_np hV, ov_nw hV, ov_na hV, ov_nd hV, ov_nl hV, ov_nc hV, ov_day hV, x215_0, x215_1, x214s _ _ (by omega) hk0, eq_false hn, eq_true hn2, e0, e1, e2, e3, e4, e6, e7]
        try rfl
    | true =>
      obtain ⟨k1, hk1, rfl⟩ := (inR_t (by omega)).mp hb1V
      rw [c176, b176_0]
      simp (disch := omega) only [gq_true, gb_true, gb_false, true_and, and_true, eq_self, not_false_eq_true, not_true_eq_false, true_or, or_true, false_or, or_false, false_and, and_false, c0_v, ci_v, cl_v, cf_v, pk_mul, nI_add, nI_clamp, nI_lt0, nI_0le, nI_eq0, nI_lt0r, nI_ltE, nI_leE, nI_eqE, nI_m1, in_t, ba0, ba1, Nat.one_ne_zero, Nat.reduceEqDiff, Nat.reduceLeDiff, Nat.add_eq_zero_iff, xk0 hX, ho, ok0 hO, ok1 hO, or0_1 hO, ok13 hO, or0_2 hO, ok15 hO, or0_3 hO, ok17 hO, or0_4 hO, ok19 hO, or0_5 hO, hz, c0_x, ci_x, cl_x, cf_x, xg_v, cond_true, cond_false, ov_np hV, ov_nw hV, ov_na hV, ov_nd hV, ov_nl hV, ov_nc hV, ov_day hV, x215_0, x215_1, x214s _ _ (by omega) hk0, eq_false (show ¬ 5 < k1 by omega), xad hO hV k0 k1 (by omega) hk1, e0, e1, e2, e3, e4, e6, e7]
theorem x179 (h : CQ B m N o s q) (l0 : Int32) : am_ca sa sv (d + 3) 179 [.ref N, .int l0] m = (bif inR l0 (cN s 0) then some (.inl (some (.long (q l0.toNatClampNeg))), m) else some (.inr 2, th_ m)) := by
  have h' := h
  obtain ⟨hX, hN, ho, ho0, hO, hV, hF, hB⟩ := h
  have hz := l_eqF (Nat.pos_iff_ne_zero.mp ho0)
  have hC := wf_c hF
  have hW := wf_w hF
  have hA := wf_a hF
  have hD := wf_d hF
  have hK := wf_k hF
  obtain ⟨e0, b0⟩ := (wc_np hC).c (by decide)
  obtain ⟨e1, b1⟩ := (wc_nw hC).c (by decide)
  obtain ⟨e2, b2⟩ := (wc_na hC).c (by decide)
  obtain ⟨e3, b3⟩ := (wc_nd hC).c (by decide)
  obtain ⟨e4, b4⟩ := (wc_day hC).c (by decide)
  obtain ⟨e5, b5⟩ := (wk_c hK).c (by omega)
  obtain ⟨e6, b6⟩ := (wc_nl hC).c (by decide)
  have e7' : cN s 7 = min (cN s 5) 5 := cN_ (wk_k hK) (by omega)
  have e7 : s 7 = nI (cN s 7) := by rw [e7']; exact wk_k hK
  have b7 : cN s 7 < 6 := by omega
  cases hb0P : inR l0 (cN s 0) with
  | false =>
    rw [c179, b179_0]
    simp (disch := omega) only [gq_true, gb_true, gb_false, true_and, and_true, eq_self, not_false_eq_true, not_true_eq_false, true_or, or_true, false_or, or_false, false_and, and_false, c0_v, ci_v, cl_v, cf_v, pk_mul, nI_add, nI_clamp, nI_lt0, nI_0le, nI_eq0, nI_lt0r, nI_ltE, nI_leE, nI_eqE, nI_m1, in_t, ba0, ba1, Nat.one_ne_zero, Nat.reduceEqDiff, Nat.reduceLeDiff, Nat.add_eq_zero_iff, xk0 hX, ho, ok0 hO, ok1 hO, or0_1 hO, ok13 hO, or0_2 hO, ok15 hO, or0_3 hO, ok17 hO, or0_4 hO, ok19 hO, or0_5 hO, hz, c0_x, ci_x, cl_x, cf_x, xg_v, cond_true, cond_false, ov_np hV, ov_nw hV, ov_na hV, ov_nd hV, ov_nl hV, ov_nc hV, ov_day hV, x215_0, x215_1, x212f h' _ hb0P, e0, e1, e2, e3, e4, e6, e7]
    try rfl
  | true =>
    obtain ⟨k0, hk0, rfl⟩ := (inR_t (by omega)).mp hb0P
    rw [c179, b179_0]
    simp (disch := omega) only [gq_true, gb_true, gb_false, true_and, and_true, eq_self, not_false_eq_true, not_true_eq_false, true_or, or_true, false_or, or_false, false_and, and_false, c0_v, ci_v, cl_v, cf_v, pk_mul, nI_add, nI_clamp, nI_lt0, nI_0le, nI_eq0, nI_lt0r, nI_ltE, nI_leE, nI_eqE, nI_m1, in_t, ba0, ba1, Nat.one_ne_zero, Nat.reduceEqDiff, Nat.reduceLeDiff, Nat.add_eq_zero_iff, xk0 hX, ho, ok0 hO, ok1 hO, or0_1 hO, ok13 hO, or0_2 hO, ok15 hO, or0_3 hO, ok17 hO, or0_4 hO, ok19 hO, or0_5 hO, hz, c0_x, ci_x, cl_x, cf_x, xg_v, cond_true, cond_false, ov_np hV, ov_nw hV, ov_na hV, ov_nd hV, ov_nl hV, ov_nc hV, ov_day hV, x215_0, x215_1, x212s h' _ hk0 b0, x63 hO hV k0 (by omega), e0, e1, e2, e3, e4, e6, e7]
theorem x180 (h : CQ B m N o s q) (l0 l1 : Int32) : am_ca sa sv (d + 3) 180 [.ref N, .int l0, .int l1] m = (bif inR l0 (cN s 0) then (bif inR l1 (4) then some (.inl (some (.long (q (10 + 4 * l0.toNatClampNeg + l1.toNatClampNeg)))), m) else some (.inr 1, th_ m)) else some (.inr 2, th_ m)) := by
  have h' := h
  obtain ⟨hX, hN, ho, ho0, hO, hV, hF, hB⟩ := h
  have hz := l_eqF (Nat.pos_iff_ne_zero.mp ho0)
  have hC := wf_c hF
  have hW := wf_w hF
  have hA := wf_a hF
  have hD := wf_d hF
  have hK := wf_k hF
  obtain ⟨e0, b0⟩ := (wc_np hC).c (by decide)
  obtain ⟨e1, b1⟩ := (wc_nw hC).c (by decide)
  obtain ⟨e2, b2⟩ := (wc_na hC).c (by decide)
  obtain ⟨e3, b3⟩ := (wc_nd hC).c (by decide)
  obtain ⟨e4, b4⟩ := (wc_day hC).c (by decide)
  obtain ⟨e5, b5⟩ := (wk_c hK).c (by omega)
  obtain ⟨e6, b6⟩ := (wc_nl hC).c (by decide)
  have e7' : cN s 7 = min (cN s 5) 5 := cN_ (wk_k hK) (by omega)
  have e7 : s 7 = nI (cN s 7) := by rw [e7']; exact wk_k hK
  have b7 : cN s 7 < 6 := by omega
  cases hb0P : inR l0 (cN s 0) with
  | false =>
    rw [c180, b180_0]
    simp (disch := omega) only [gq_true, gb_true, gb_false, true_and, and_true, eq_self, not_false_eq_true, not_true_eq_false, true_or, or_true, false_or, or_false, false_and, and_false, c0_v, ci_v, cl_v, cf_v, pk_mul, nI_add, nI_clamp, nI_lt0, nI_0le, nI_eq0, nI_lt0r, nI_ltE, nI_leE, nI_eqE, nI_m1, in_t, ba0, ba1, Nat.one_ne_zero, Nat.reduceEqDiff, Nat.reduceLeDiff, Nat.add_eq_zero_iff, xk0 hX, ho, ok0 hO, ok1 hO, or0_1 hO, ok13 hO, or0_2 hO, ok15 hO, or0_3 hO, ok17 hO, or0_4 hO, ok19 hO, or0_5 hO, hz, c0_x, ci_x, cl_x, cf_x, xg_v, cond_true, cond_false, ov_np hV, ov_nw hV, ov_na hV, ov_nd hV, ov_nl hV, ov_nc hV, ov_day hV, x215_0, x215_1, x212f h' _ hb0P, e0, e1, e2, e3, e4, e6, e7]
    try rfl
  | true =>
    obtain ⟨k0, hk0, rfl⟩ := (inR_t (by omega)).mp hb0P
    cases hb1V : inR l1 (4) with
    | false =>
      by_cases hn : l1 < 0
      · rw [c180, b180_0]
        simp (disch := omega) only [gq_true, gb_true, gb_false, true_and, and_true, eq_self, not_false_eq_true, not_true_eq_false, true_or, or_true, false_or, or_false, false_and, and_false, c0_v, ci_v, cl_v, cf_v, pk_mul, nI_add, nI_clamp, nI_lt0, nI_0le, nI_eq0, nI_lt0r, nI_ltE, nI_leE, nI_eqE, nI_m1, in_t, ba0, ba1, Nat.one_ne_zero, Nat.reduceEqDiff, Nat.reduceLeDiff, Nat.add_eq_zero_iff, xk0 hX, ho, ok0 hO, ok1 hO, or0_1 hO, ok13 hO, or0_2 hO, ok15 hO, or0_3 hO, ok17 hO, or0_4 hO, ok19 hO, or0_5 hO, hz, c0_x, ci_x, cl_x, cf_x, xg_v, cond_true, cond_false, ov_np hV, ov_nw hV, ov_na hV, ov_nd hV, ov_nl hV, ov_nc hV, ov_day hV, x215_0, x215_1, x212s h' _ hk0 b0, eq_true hn, e0, e1, e2, e3, e4, e6, e7]
        try rfl
      · have hn2 : nI 3 < l1 := by
          refine Int32.not_le.mp fun z => ?_
          have := inR_c (p := l1) (n := 4) (by decide) hn (Int32.not_le.mpr (by rw [Int32.lt_iff_toInt_lt, nI_toInt (by decide)]; rw [Int32.le_iff_toInt_le, nI_toInt (by decide)] at z; omega))
          rw [hb1V] at this; cases this
        rw [c180, b180_0]
        simp (disch := omega) only [gq_true, gb_true, gb_false, true_and, and_true, eq_self, not_false_eq_true, not_true_eq_false, true_or, or_true, false_or, or_false, false_and, and_false, c0_v, ci_v, cl_v, cf_v, pk_mul, nI_add, nI_clamp, nI_lt0, nI_0le, nI_eq0, nI_lt0r, nI_ltE, nI_leE, nI_eqE, nI_m1, in_t, ba0, ba1, Nat.one_ne_zero, Nat.reduceEqDiff, Nat.reduceLeDiff, Nat.add_eq_zero_iff, xk0 hX, ho, ok0 hO, ok1 hO, or0_1 hO, ok13 hO, or0_2 hO, ok15 hO, or0_3 hO, ok17 hO, or0_4 hO, ok19 hO, or0_5 hO, hz, c0_x, ci_x, cl_x, cf_x, xg_v, cond_true, cond_false, ov_np hV, ov_nw hV, ov_na hV, ov_nd hV, ov_nl hV, ov_nc hV, ov_day hV, x215_0, x215_1, x212s h' _ hk0 b0, eq_false hn, eq_true hn2, e0, e1, e2, e3, e4, e6, e7]
        try rfl
    | true =>
      obtain ⟨k1, hk1, rfl⟩ := (inR_t (by omega)).mp hb1V
      rw [c180, b180_0]
      simp (disch := omega) only [gq_true, gb_true, gb_false, true_and, and_true, eq_self, not_false_eq_true, not_true_eq_false, true_or, or_true, false_or, or_false, false_and, and_false, c0_v, ci_v, cl_v, cf_v, pk_mul, nI_add, nI_clamp, nI_lt0, nI_0le, nI_eq0, nI_lt0r, nI_ltE, nI_leE, nI_eqE, nI_m1, in_t, ba0, ba1, Nat.one_ne_zero, Nat.reduceEqDiff, Nat.reduceLeDiff, Nat.add_eq_zero_iff, xk0 hX, ho, ok0 hO, ok1 hO, or0_1 hO, ok13 hO, or0_2 hO, ok15 hO, or0_3 hO, ok17 hO, or0_4 hO, ok19 hO, or0_5 hO, hz, c0_x, ci_x, cl_x, cf_x, xg_v, cond_true, cond_false, ov_np hV, ov_nw hV, ov_na hV, ov_nd hV, ov_nl hV, ov_nc hV, ov_day hV, x215_0, x215_1, x212s h' _ hk0 b0, eq_false (show ¬ 3 < k1 by omega), x64 hO hV k0 k1 (by omega) hk1, e0, e1, e2, e3, e4, e6, e7]
theorem x181 (h : CQ B m N o s q) (l0 l1 : Int32) : am_ca sa sv (d + 3) 181 [.ref N, .int l0, .int l1] m = (bif inR l0 (cN s 0) then (bif inR l1 (cN s 1) then some (.inl (some (.long (q (80 + 12 * l0.toNatClampNeg + l1.toNatClampNeg)))), m) else some (.inr 2, th_ m)) else some (.inr 2, th_ m)) := by
  have h' := h
  obtain ⟨hX, hN, ho, ho0, hO, hV, hF, hB⟩ := h
  have hz := l_eqF (Nat.pos_iff_ne_zero.mp ho0)
  have hC := wf_c hF
  have hW := wf_w hF
  have hA := wf_a hF
  have hD := wf_d hF
  have hK := wf_k hF
  obtain ⟨e0, b0⟩ := (wc_np hC).c (by decide)
  obtain ⟨e1, b1⟩ := (wc_nw hC).c (by decide)
  obtain ⟨e2, b2⟩ := (wc_na hC).c (by decide)
  obtain ⟨e3, b3⟩ := (wc_nd hC).c (by decide)
  obtain ⟨e4, b4⟩ := (wc_day hC).c (by decide)
  obtain ⟨e5, b5⟩ := (wk_c hK).c (by omega)
  obtain ⟨e6, b6⟩ := (wc_nl hC).c (by decide)
  have e7' : cN s 7 = min (cN s 5) 5 := cN_ (wk_k hK) (by omega)
  have e7 : s 7 = nI (cN s 7) := by rw [e7']; exact wk_k hK
  have b7 : cN s 7 < 6 := by omega
  cases hb0P : inR l0 (cN s 0) with
  | false =>
    rw [c181, b181_0]
    simp (disch := omega) only [gq_true, gb_true, gb_false, true_and, and_true, eq_self, not_false_eq_true, not_true_eq_false, true_or, or_true, false_or, or_false, false_and, and_false, c0_v, ci_v, cl_v, cf_v, pk_mul, nI_add, nI_clamp, nI_lt0, nI_0le, nI_eq0, nI_lt0r, nI_ltE, nI_leE, nI_eqE, nI_m1, in_t, ba0, ba1, Nat.one_ne_zero, Nat.reduceEqDiff, Nat.reduceLeDiff, Nat.add_eq_zero_iff, xk0 hX, ho, ok0 hO, ok1 hO, or0_1 hO, ok13 hO, or0_2 hO, ok15 hO, or0_3 hO, ok17 hO, or0_4 hO, ok19 hO, or0_5 hO, hz, c0_x, ci_x, cl_x, cf_x, xg_v, cond_true, cond_false, ov_np hV, ov_nw hV, ov_na hV, ov_nd hV, ov_nl hV, ov_nc hV, ov_day hV, x215_0, x215_1, x212f h' _ hb0P, e0, e1, e2, e3, e4, e6, e7]
    try rfl
  | true =>
    obtain ⟨k0, hk0, rfl⟩ := (inR_t (by omega)).mp hb0P
    cases hb1W : inR l1 (cN s 1) with
    | false =>
      rw [c181, b181_0]
      simp (disch := omega) only [gq_true, gb_true, gb_false, true_and, and_true, eq_self, not_false_eq_true, not_true_eq_false, true_or, or_true, false_or, or_false, false_and, and_false, c0_v, ci_v, cl_v, cf_v, pk_mul, nI_add, nI_clamp, nI_lt0, nI_0le, nI_eq0, nI_lt0r, nI_ltE, nI_leE, nI_eqE, nI_m1, in_t, ba0, ba1, Nat.one_ne_zero, Nat.reduceEqDiff, Nat.reduceLeDiff, Nat.add_eq_zero_iff, xk0 hX, ho, ok0 hO, ok1 hO, or0_1 hO, ok13 hO, or0_2 hO, ok15 hO, or0_3 hO, ok17 hO, or0_4 hO, ok19 hO, or0_5 hO, hz, c0_x, ci_x, cl_x, cf_x, xg_v, cond_true, cond_false, ov_np hV, ov_nw hV, ov_na hV, ov_nd hV, ov_nl hV, ov_nc hV, ov_day hV, x215_0, x215_1, x212s h' _ hk0 b0, x213f h' _ hb1W, e0, e1, e2, e3, e4, e6, e7]
      try rfl
    | true =>
      obtain ⟨k1, hk1, rfl⟩ := (inR_t (by omega)).mp hb1W
      rw [c181, b181_0]
      simp (disch := omega) only [gq_true, gb_true, gb_false, true_and, and_true, eq_self, not_false_eq_true, not_true_eq_false, true_or, or_true, false_or, or_false, false_and, and_false, c0_v, ci_v, cl_v, cf_v, pk_mul, nI_add, nI_clamp, nI_lt0, nI_0le, nI_eq0, nI_lt0r, nI_ltE, nI_leE, nI_eqE, nI_m1, in_t, ba0, ba1, Nat.one_ne_zero, Nat.reduceEqDiff, Nat.reduceLeDiff, Nat.add_eq_zero_iff, xk0 hX, ho, ok0 hO, ok1 hO, or0_1 hO, ok13 hO, or0_2 hO, ok15 hO, or0_3 hO, ok17 hO, or0_4 hO, ok19 hO, or0_5 hO, hz, c0_x, ci_x, cl_x, cf_x, xg_v, cond_true, cond_false, ov_np hV, ov_nw hV, ov_na hV, ov_nd hV, ov_nl hV, ov_nc hV, ov_day hV, x215_0, x215_1, x212s h' _ hk0 b0, x213s h' _ hk1 b1, x66 hO hV k0 k1 (by omega) (by omega), e0, e1, e2, e3, e4, e6, e7]
theorem x186 (h : CQ B m N o s q) : am_ca sa sv (d + 4) 186 [.ref N] m = some (.inl (some (.int (nI (pay_ s q (cN s 0))))), m) := by
  have h' := h
  obtain ⟨hX, hN, ho, ho0, hO, hV, hF, hB⟩ := h
  have hz := l_eqF (Nat.pos_iff_ne_zero.mp ho0)
  have hC := wf_c hF
  have hW := wf_w hF
  have hA := wf_a hF
  have hD := wf_d hF
  have hK := wf_k hF
  obtain ⟨e0, b0⟩ := (wc_np hC).c (by decide)
  obtain ⟨e1, b1⟩ := (wc_nw hC).c (by decide)
  obtain ⟨e2, b2⟩ := (wc_na hC).c (by decide)
  obtain ⟨e3, b3⟩ := (wc_nd hC).c (by decide)
  obtain ⟨e4, b4⟩ := (wc_day hC).c (by decide)
  obtain ⟨e5, b5⟩ := (wk_c hK).c (by omega)
  obtain ⟨e6, b6⟩ := (wc_nl hC).c (by decide)
  have e7' : cN s 7 = min (cN s 5) 5 := cN_ (wk_k hK) (by omega)
  have e7 : s 7 = nI (cN s 7) := by rw [e7']; exact wk_k hK
  have b7 : cN s 7 < 6 := by omega
  rw [c186, b186_0]
  simp (disch := omega) only [gq_true, gb_true, gb_false, true_and, and_true, eq_self, not_false_eq_true, not_true_eq_false, true_or, or_true, false_or, or_false, false_and, and_false, c0_v, ci_v, cl_v, cf_v, pk_mul, nI_add, nI_clamp, nI_lt0, nI_0le, nI_eq0, nI_lt0r, nI_ltE, nI_leE, nI_eqE, nI_m1, in_t, ba0, ba1, Nat.one_ne_zero, Nat.reduceEqDiff, Nat.reduceLeDiff, Nat.add_eq_zero_iff, xk0 hX, ho, ok0 hO, ok1 hO, or0_1 hO, ok13 hO, or0_2 hO, ok15 hO, or0_3 hO, ok17 hO, or0_4 hO, ok19 hO, or0_5 hO, hz, c0_x, ci_x, cl_x, cf_x, xg_v, cond_true, cond_false, ov_np hV, ov_nw hV, ov_na hV, ov_nd hV, ov_nl hV, ov_nc hV, ov_day hV, x215_0, x215_1, x84 hO hV hC, e0, e1, e2, e3, e4, e6, e7]
theorem x187 (h : CQ B m N o s q) : am_ca sa sv (d + 1) 187 [.ref N] m = some (.inl (some (.int (s 6))), m) := by
  have h' := h
  obtain ⟨hX, hN, ho, ho0, hO, hV, hF, hB⟩ := h
  have hz := l_eqF (Nat.pos_iff_ne_zero.mp ho0)
  have hC := wf_c hF
  have hW := wf_w hF
  have hA := wf_a hF
  have hD := wf_d hF
  have hK := wf_k hF
  obtain ⟨e0, b0⟩ := (wc_np hC).c (by decide)
  obtain ⟨e1, b1⟩ := (wc_nw hC).c (by decide)
  obtain ⟨e2, b2⟩ := (wc_na hC).c (by decide)
  obtain ⟨e3, b3⟩ := (wc_nd hC).c (by decide)
  obtain ⟨e4, b4⟩ := (wc_day hC).c (by decide)
  obtain ⟨e5, b5⟩ := (wk_c hK).c (by omega)
  obtain ⟨e6, b6⟩ := (wc_nl hC).c (by decide)
  have e7' : cN s 7 = min (cN s 5) 5 := cN_ (wk_k hK) (by omega)
  have e7 : s 7 = nI (cN s 7) := by rw [e7']; exact wk_k hK
  have b7 : cN s 7 < 6 := by omega
  rw [c187, b187_0]
  simp (disch := omega) only [gq_true, gb_true, gb_false, true_and, and_true, eq_self, not_false_eq_true, not_true_eq_false, true_or, or_true, false_or, or_false, false_and, and_false, c0_v, ci_v, cl_v, cf_v, pk_mul, nI_add, nI_clamp, nI_lt0, nI_0le, nI_eq0, nI_lt0r, nI_ltE, nI_leE, nI_eqE, nI_m1, in_t, ba0, ba1, Nat.one_ne_zero, Nat.reduceEqDiff, Nat.reduceLeDiff, Nat.add_eq_zero_iff, xk0 hX, ho, ok0 hO, ok1 hO, or0_1 hO, ok13 hO, or0_2 hO, ok15 hO, or0_3 hO, ok17 hO, or0_4 hO, ok19 hO, or0_5 hO, hz, c0_x, ci_x, cl_x, cf_x, xg_v, cond_true, cond_false, ov_np hV, ov_nw hV, ov_na hV, ov_nd hV, ov_nl hV, ov_nc hV, ov_day hV, x215_0, x215_1, e6.symm, ]
theorem x188 (h : CQ B m N o s q) (l0 l1 : Int32) : am_ca sa sv (d + 2) 188 [.ref N, .int l0, .int l1] m = (bif inR l0 (cN s 6) then (bif inR l1 (4) then some (.inl (some (.int (s (767 + 4 * l0.toNatClampNeg + l1.toNatClampNeg)))), m) else some (.inr 1, th_ m)) else some (.inr 2, th_ m)) := by
  have h' := h
  obtain ⟨hX, hN, ho, ho0, hO, hV, hF, hB⟩ := h
  have hz := l_eqF (Nat.pos_iff_ne_zero.mp ho0)
  have hC := wf_c hF
  have hW := wf_w hF
  have hA := wf_a hF
  have hD := wf_d hF
  have hK := wf_k hF
  obtain ⟨e0, b0⟩ := (wc_np hC).c (by decide)
  obtain ⟨e1, b1⟩ := (wc_nw hC).c (by decide)
  obtain ⟨e2, b2⟩ := (wc_na hC).c (by decide)
  obtain ⟨e3, b3⟩ := (wc_nd hC).c (by decide)
  obtain ⟨e4, b4⟩ := (wc_day hC).c (by decide)
  obtain ⟨e5, b5⟩ := (wk_c hK).c (by omega)
  obtain ⟨e6, b6⟩ := (wc_nl hC).c (by decide)
  have e7' : cN s 7 = min (cN s 5) 5 := cN_ (wk_k hK) (by omega)
  have e7 : s 7 = nI (cN s 7) := by rw [e7']; exact wk_k hK
  have b7 : cN s 7 < 6 := by omega
  cases hb0L : inR l0 (cN s 6) with
  | false =>
    rw [c188, b188_0]
    simp (disch := omega) only [gq_true, gb_true, gb_false, true_and, and_true, eq_self, not_false_eq_true, not_true_eq_false, true_or, or_true, false_or, or_false, false_and, and_false, c0_v, ci_v, cl_v, cf_v, pk_mul, nI_add, nI_clamp, nI_lt0, nI_0le, nI_eq0, nI_lt0r, nI_ltE, nI_leE, nI_eqE, nI_m1, in_t, ba0, ba1, Nat.one_ne_zero, Nat.reduceEqDiff, Nat.reduceLeDiff, Nat.add_eq_zero_iff, xk0 hX, ho, ok0 hO, ok1 hO, or0_1 hO, ok13 hO, or0_2 hO, ok15 hO, or0_3 hO, ok17 hO, or0_4 hO, ok19 hO, or0_5 hO, hz, c0_x, ci_x, cl_x, cf_x, xg_v, cond_true, cond_false, ov_np hV, ov_nw hV, ov_na hV, ov_nd hV, ov_nl hV, ov_nc hV, ov_day hV, x215_0, x215_1, x214f _ _ (by omega) hb0L, e0, e1, e2, e3, e4, e6, e7]
    try rfl
  | true =>
    obtain ⟨k0, hk0, rfl⟩ := (inR_t (by omega)).mp hb0L
    cases hb1V : inR l1 (4) with
    | false =>
      by_cases hn : l1 < 0
      · rw [c188, b188_0]
        simp (disch := omega) only [gq_true, gb_true, gb_false, true_and, and_true, eq_self, not_false_eq_true, not_true_eq_false, true_or, or_true, false_or, or_false, false_and, and_false, c0_v, ci_v, cl_v, cf_v, pk_mul, nI_add, nI_clamp, nI_lt0, nI_0le, nI_eq0, nI_lt0r, nI_ltE, nI_leE, nI_eqE, nI_m1, in_t, ba0, ba1, Nat.one_ne_zero, Nat.reduceEqDiff, Nat.reduceLeDiff, Nat.add_eq_zero_iff, xk0 hX, ho, ok0 hO, ok1 hO, or0_1 hO, ok13 hO, or0_2 hO, ok15 hO, or0_3 hO, ok17 hO, or0_4 hO, ok19 hO, or0_5 hO, hz, c0_x, ci_x, cl_x, cf_x, xg_v, cond_true, cond_false, ov_np hV, ov_nw hV, ov_na hV, ov_nd hV, ov_nl hV, ov_nc hV, ov_day hV, x215_0, x215_1, x214s _ _ (by omega) hk0, eq_true hn, e0, e1, e2, e3, e4, e6, e7]
        try rfl
      · have hn2 : nI 3 < l1 := by
          refine Int32.not_le.mp fun z => ?_
          have := inR_c (p := l1) (n := 4) (by decide) hn (Int32.not_le.mpr (by rw [Int32.lt_iff_toInt_lt, nI_toInt (by decide)]; rw [Int32.le_iff_toInt_le, nI_toInt (by decide)] at z; omega))
          rw [hb1V] at this; cases this
        rw [c188, b188_0]
        simp (disch := omega) only [gq_true, gb_true, gb_false, true_and, and_true, eq_self, not_false_eq_true, not_true_eq_false, true_or, or_true, false_or, or_false, false_and, and_false, c0_v, ci_v, cl_v, cf_v, pk_mul, nI_add, nI_clamp, nI_lt0, nI_0le, nI_eq0, nI_lt0r, nI_ltE, nI_leE, nI_eqE, nI_m1, in_t, ba0, ba1, Nat.one_ne_zero, Nat.reduceEqDiff, Nat.reduceLeDiff, Nat.add_eq_zero_iff, xk0 hX, ho, ok0 hO, ok1 hO, or0_1 hO, ok13 hO, or0_2 hO, ok15 hO, or0_3 hO, ok17 hO, or0_4 hO, ok19 hO, or0_5 hO, hz, c0_x, ci_x, cl_x, cf_x, xg_v, cond_true, cond_false, ov_np hV, ov_nw hV, ov_na hV, ov_nd hV, ov_nl hV, ov_nc hV, ov_day hV, x215_0, x215_1, x214s _ _ (by omega) hk0, eq_false hn, eq_true hn2, e0, e1, e2, e3, e4, e6, e7]
        try rfl
    | true =>
      obtain ⟨k1, hk1, rfl⟩ := (inR_t (by omega)).mp hb1V
      rw [c188, b188_0]
      simp (disch := omega) only [gq_true, gb_true, gb_false, true_and, and_true, eq_self, not_false_eq_true, not_true_eq_false, true_or, or_true, false_or, or_false, false_and, and_false, c0_v, ci_v, cl_v, cf_v, pk_mul, nI_add, nI_clamp, nI_lt0, nI_0le, nI_eq0, nI_lt0r, nI_ltE, nI_leE, nI_eqE, nI_m1, in_t, ba0, ba1, Nat.one_ne_zero, Nat.reduceEqDiff, Nat.reduceLeDiff, Nat.add_eq_zero_iff, xk0 hX, ho, ok0 hO, ok1 hO, or0_1 hO, ok13 hO, or0_2 hO, ok15 hO, or0_3 hO, ok17 hO, or0_4 hO, ok19 hO, or0_5 hO, hz, c0_x, ci_x, cl_x, cf_x, xg_v, cond_true, cond_false, ov_np hV, ov_nw hV, ov_na hV, ov_nd hV, ov_nl hV, ov_nc hV, ov_day hV, x215_0, x215_1, x214s _ _ (by omega) hk0, eq_false (show ¬ 3 < k1 by omega), xli hO hV hC k0 k1 hk0 hk1, e0, e1, e2, e3, e4, e6, e7]
theorem x189 (h : CQ B m N o s q) (l0 l1 l2 : Int32) : am_ca sa sv (d + 3) 189 [.ref N, .int l0, .int l1, .int l2] m = (bif inR l0 (cN s 7) then (bif inR l1 (cN s 0) then (bif inR l2 (5) then some (.inl (some (.long (q (212 + 50 * l0.toNatClampNeg + 5 * l1.toNatClampNeg + l2.toNatClampNeg)))), m) else some (.inr 1, th_ m)) else some (.inr 2, th_ m)) else some (.inr 2, th_ m)) := by
  have h' := h
  obtain ⟨hX, hN, ho, ho0, hO, hV, hF, hB⟩ := h
  have hz := l_eqF (Nat.pos_iff_ne_zero.mp ho0)
  have hC := wf_c hF
  have hW := wf_w hF
  have hA := wf_a hF
  have hD := wf_d hF
  have hK := wf_k hF
  obtain ⟨e0, b0⟩ := (wc_np hC).c (by decide)
  obtain ⟨e1, b1⟩ := (wc_nw hC).c (by decide)
  obtain ⟨e2, b2⟩ := (wc_na hC).c (by decide)
  obtain ⟨e3, b3⟩ := (wc_nd hC).c (by decide)
  obtain ⟨e4, b4⟩ := (wc_day hC).c (by decide)
  obtain ⟨e5, b5⟩ := (wk_c hK).c (by omega)
  obtain ⟨e6, b6⟩ := (wc_nl hC).c (by decide)
  have e7' : cN s 7 = min (cN s 5) 5 := cN_ (wk_k hK) (by omega)
  have e7 : s 7 = nI (cN s 7) := by rw [e7']; exact wk_k hK
  have b7 : cN s 7 < 6 := by omega
  cases hb0S : inR l0 (cN s 7) with
  | false =>
    rw [c189, b189_0]
    simp (disch := omega) only [gq_true, gb_true, gb_false, true_and, and_true, eq_self, not_false_eq_true, not_true_eq_false, true_or, or_true, false_or, or_false, false_and, and_false, c0_v, ci_v, cl_v, cf_v, pk_mul, nI_add, nI_clamp, nI_lt0, nI_0le, nI_eq0, nI_lt0r, nI_ltE, nI_leE, nI_eqE, nI_m1, in_t, ba0, ba1, Nat.one_ne_zero, Nat.reduceEqDiff, Nat.reduceLeDiff, Nat.add_eq_zero_iff, xk0 hX, ho, ok0 hO, ok1 hO, or0_1 hO, ok13 hO, or0_2 hO, ok15 hO, or0_3 hO, ok17 hO, or0_4 hO, ok19 hO, or0_5 hO, hz, c0_x, ci_x, cl_x, cf_x, xg_v, cond_true, cond_false, ov_np hV, ov_nw hV, ov_na hV, ov_nd hV, ov_nl hV, ov_nc hV, ov_day hV, x215_0, x215_1, x214f _ _ (by omega) hb0S, x60 hO hV hK hB, e0, e1, e2, e3, e4, e6, e7]
    try rfl
  | true =>
    obtain ⟨k0, hk0, rfl⟩ := (inR_t (by omega)).mp hb0S
    cases hb1P : inR l1 (cN s 0) with
    | false =>
      rw [c189, b189_0]
      simp (disch := omega) only [gq_true, gb_true, gb_false, true_and, and_true, eq_self, not_false_eq_true, not_true_eq_false, true_or, or_true, false_or, or_false, false_and, and_false, c0_v, ci_v, cl_v, cf_v, pk_mul, nI_add, nI_clamp, nI_lt0, nI_0le, nI_eq0, nI_lt0r, nI_ltE, nI_leE, nI_eqE, nI_m1, in_t, ba0, ba1, Nat.one_ne_zero, Nat.reduceEqDiff, Nat.reduceLeDiff, Nat.add_eq_zero_iff, xk0 hX, ho, ok0 hO, ok1 hO, or0_1 hO, ok13 hO, or0_2 hO, ok15 hO, or0_3 hO, ok17 hO, or0_4 hO, ok19 hO, or0_5 hO, hz, c0_x, ci_x, cl_x, cf_x, xg_v, cond_true, cond_false, ov_np hV, ov_nw hV, ov_na hV, ov_nd hV, ov_nl hV, ov_nc hV, ov_day hV, x215_0, x215_1, x214s _ _ (by omega) hk0, x60 hO hV hK hB, x212f h' _ hb1P, e0, e1, e2, e3, e4, e6, e7]
      try rfl
    | true =>
      obtain ⟨k1, hk1, rfl⟩ := (inR_t (by omega)).mp hb1P
      cases hb2V : inR l2 (5) with
      | false =>
        by_cases hn : l2 < 0
        · rw [c189, b189_0]
          simp (disch := omega) only [gq_true, gb_true, gb_false, true_and, and_true, eq_self, not_false_eq_true, not_true_eq_false, true_or, or_true, false_or, or_false, false_and, and_false, c0_v, ci_v, cl_v, cf_v, pk_mul, nI_add, nI_clamp, nI_lt0, nI_0le, nI_eq0, nI_lt0r, nI_ltE, nI_leE, nI_eqE, nI_m1, in_t, ba0, ba1, Nat.one_ne_zero, Nat.reduceEqDiff, Nat.reduceLeDiff, Nat.add_eq_zero_iff, xk0 hX, ho, ok0 hO, ok1 hO, or0_1 hO, ok13 hO, or0_2 hO, ok15 hO, or0_3 hO, ok17 hO, or0_4 hO, ok19 hO, or0_5 hO, hz, c0_x, ci_x, cl_x, cf_x, xg_v, cond_true, cond_false, ov_np hV, ov_nw hV, ov_na hV, ov_nd hV, ov_nl hV, ov_nc hV, ov_day hV, x215_0, x215_1, x214s _ _ (by omega) hk0, x60 hO hV hK hB, x212s h' _ hk1 b0, eq_true hn, e0, e1, e2, e3, e4, e6, e7]
          try rfl
        · have hn2 : nI 4 < l2 := by
            refine Int32.not_le.mp fun z => ?_
            have := inR_c (p := l2) (n := 5) (by decide) hn (Int32.not_le.mpr (by rw [Int32.lt_iff_toInt_lt, nI_toInt (by decide)]; rw [Int32.le_iff_toInt_le, nI_toInt (by decide)] at z; omega))
            rw [hb2V] at this; cases this
          rw [c189, b189_0]
          simp (disch := omega) only [gq_true, gb_true, gb_false, true_and, and_true, eq_self, not_false_eq_true, not_true_eq_false, true_or, or_true, false_or, or_false, false_and, and_false, c0_v, ci_v, cl_v, cf_v, pk_mul, nI_add, nI_clamp, nI_lt0, nI_0le, nI_eq0, nI_lt0r, nI_ltE, nI_leE, nI_eqE, nI_m1, in_t, ba0, ba1, Nat.one_ne_zero, Nat.reduceEqDiff, Nat.reduceLeDiff, Nat.add_eq_zero_iff, xk0 hX, ho, ok0 hO, ok1 hO, or0_1 hO, ok13 hO, or0_2 hO, ok15 hO, or0_3 hO, ok17 hO, or0_4 hO, ok19 hO, or0_5 hO, hz, c0_x, ci_x, cl_x, cf_x, xg_v, cond_true, cond_false, ov_np hV, ov_nw hV, ov_na hV, ov_nd hV, ov_nl hV, ov_nc hV, ov_day hV, x215_0, x215_1, x214s _ _ (by omega) hk0, x60 hO hV hK hB, x212s h' _ hk1 b0, eq_false hn, eq_true hn2, e0, e1, e2, e3, e4, e6, e7]
          try rfl
      | true =>
        obtain ⟨k2, hk2, rfl⟩ := (inR_t (by omega)).mp hb2V
        rw [c189, b189_0]
        simp (disch := omega) only [gq_true, gb_true, gb_false, true_and, and_true, eq_self, not_false_eq_true, not_true_eq_false, true_or, or_true, false_or, or_false, false_and, and_false, c0_v, ci_v, cl_v, cf_v, pk_mul, nI_add, nI_clamp, nI_lt0, nI_0le, nI_eq0, nI_lt0r, nI_ltE, nI_leE, nI_eqE, nI_m1, in_t, ba0, ba1, Nat.one_ne_zero, Nat.reduceEqDiff, Nat.reduceLeDiff, Nat.add_eq_zero_iff, xk0 hX, ho, ok0 hO, ok1 hO, or0_1 hO, ok13 hO, or0_2 hO, ok15 hO, or0_3 hO, ok17 hO, or0_4 hO, ok19 hO, or0_5 hO, hz, c0_x, ci_x, cl_x, cf_x, xg_v, cond_true, cond_false, ov_np hV, ov_nw hV, ov_na hV, ov_nd hV, ov_nl hV, ov_nc hV, ov_day hV, x215_0, x215_1, x214s _ _ (by omega) hk0, x60 hO hV hK hB, x212s h' _ hk1 b0, eq_false (show ¬ 4 < k2 by omega), x61 hO hV hK hB k0 k1 k2 hk0 (by omega) hk2, e0, e1, e2, e3, e4, e6, e7]
theorem x191 (h : CQ B m N o s q) (l0 l1 : Int32) : am_ca sa sv (d + 3) 191 [.ref N, .int l0, .int l1] m = (bif inR l0 (cN s 0) then (bif inR l1 (3) then some (.inl (some (.long (q (50 + 3 * l0.toNatClampNeg + l1.toNatClampNeg)))), m) else some (.inr 1, th_ m)) else some (.inr 2, th_ m)) := by
  have h' := h
  obtain ⟨hX, hN, ho, ho0, hO, hV, hF, hB⟩ := h
  have hz := l_eqF (Nat.pos_iff_ne_zero.mp ho0)
  have hC := wf_c hF
  have hW := wf_w hF
  have hA := wf_a hF
  have hD := wf_d hF
  have hK := wf_k hF
  obtain ⟨e0, b0⟩ := (wc_np hC).c (by decide)
  obtain ⟨e1, b1⟩ := (wc_nw hC).c (by decide)
  obtain ⟨e2, b2⟩ := (wc_na hC).c (by decide)
  obtain ⟨e3, b3⟩ := (wc_nd hC).c (by decide)
  obtain ⟨e4, b4⟩ := (wc_day hC).c (by decide)
  obtain ⟨e5, b5⟩ := (wk_c hK).c (by omega)
  obtain ⟨e6, b6⟩ := (wc_nl hC).c (by decide)
  have e7' : cN s 7 = min (cN s 5) 5 := cN_ (wk_k hK) (by omega)
  have e7 : s 7 = nI (cN s 7) := by rw [e7']; exact wk_k hK
  have b7 : cN s 7 < 6 := by omega
  cases hb0P : inR l0 (cN s 0) with
  | false =>
    rw [c191, b191_0]
    simp (disch := omega) only [gq_true, gb_true, gb_false, true_and, and_true, eq_self, not_false_eq_true, not_true_eq_false, true_or, or_true, false_or, or_false, false_and, and_false, c0_v, ci_v, cl_v, cf_v, pk_mul, nI_add, nI_clamp, nI_lt0, nI_0le, nI_eq0, nI_lt0r, nI_ltE, nI_leE, nI_eqE, nI_m1, in_t, ba0, ba1, Nat.one_ne_zero, Nat.reduceEqDiff, Nat.reduceLeDiff, Nat.add_eq_zero_iff, xk0 hX, ho, ok0 hO, ok1 hO, or0_1 hO, ok13 hO, or0_2 hO, ok15 hO, or0_3 hO, ok17 hO, or0_4 hO, ok19 hO, or0_5 hO, hz, c0_x, ci_x, cl_x, cf_x, xg_v, cond_true, cond_false, ov_np hV, ov_nw hV, ov_na hV, ov_nd hV, ov_nl hV, ov_nc hV, ov_day hV, x215_0, x215_1, x212f h' _ hb0P, e0, e1, e2, e3, e4, e6, e7]
    try rfl
  | true =>
    obtain ⟨k0, hk0, rfl⟩ := (inR_t (by omega)).mp hb0P
    cases hb1V : inR l1 (3) with
    | false =>
      by_cases hn : l1 < 0
      · rw [c191, b191_0]
        simp (disch := omega) only [gq_true, gb_true, gb_false, true_and, and_true, eq_self, not_false_eq_true, not_true_eq_false, true_or, or_true, false_or, or_false, false_and, and_false, c0_v, ci_v, cl_v, cf_v, pk_mul, nI_add, nI_clamp, nI_lt0, nI_0le, nI_eq0, nI_lt0r, nI_ltE, nI_leE, nI_eqE, nI_m1, in_t, ba0, ba1, Nat.one_ne_zero, Nat.reduceEqDiff, Nat.reduceLeDiff, Nat.add_eq_zero_iff, xk0 hX, ho, ok0 hO, ok1 hO, or0_1 hO, ok13 hO, or0_2 hO, ok15 hO, or0_3 hO, ok17 hO, or0_4 hO, ok19 hO, or0_5 hO, hz, c0_x, ci_x, cl_x, cf_x, xg_v, cond_true, cond_false, ov_np hV, ov_nw hV, ov_na hV, ov_nd hV, ov_nl hV, ov_nc hV, ov_day hV, x215_0, x215_1, x212s h' _ hk0 b0, eq_true hn, e0, e1, e2, e3, e4, e6, e7]
        try rfl
      · have hn2 : nI 2 < l1 := by
          refine Int32.not_le.mp fun z => ?_
          have := inR_c (p := l1) (n := 3) (by decide) hn (Int32.not_le.mpr (by rw [Int32.lt_iff_toInt_lt, nI_toInt (by decide)]; rw [Int32.le_iff_toInt_le, nI_toInt (by decide)] at z; omega))
          rw [hb1V] at this; cases this
        rw [c191, b191_0]
        simp (disch := omega) only [gq_true, gb_true, gb_false, true_and, and_true, eq_self, not_false_eq_true, not_true_eq_false, true_or, or_true, false_or, or_false, false_and, and_false, c0_v, ci_v, cl_v, cf_v, pk_mul, nI_add, nI_clamp, nI_lt0, nI_0le, nI_eq0, nI_lt0r, nI_ltE, nI_leE, nI_eqE, nI_m1, in_t, ba0, ba1, Nat.one_ne_zero, Nat.reduceEqDiff, Nat.reduceLeDiff, Nat.add_eq_zero_iff, xk0 hX, ho, ok0 hO, ok1 hO, or0_1 hO, ok13 hO, or0_2 hO, ok15 hO, or0_3 hO, ok17 hO, or0_4 hO, ok19 hO, or0_5 hO, hz, c0_x, ci_x, cl_x, cf_x, xg_v, cond_true, cond_false, ov_np hV, ov_nw hV, ov_na hV, ov_nd hV, ov_nl hV, ov_nc hV, ov_day hV, x215_0, x215_1, x212s h' _ hk0 b0, eq_false hn, eq_true hn2, e0, e1, e2, e3, e4, e6, e7]
        try rfl
    | true =>
      obtain ⟨k1, hk1, rfl⟩ := (inR_t (by omega)).mp hb1V
      rw [c191, b191_0]
      simp (disch := omega) only [gq_true, gb_true, gb_false, true_and, and_true, eq_self, not_false_eq_true, not_true_eq_false, true_or, or_true, false_or, or_false, false_and, and_false, c0_v, ci_v, cl_v, cf_v, pk_mul, nI_add, nI_clamp, nI_lt0, nI_0le, nI_eq0, nI_lt0r, nI_ltE, nI_leE, nI_eqE, nI_m1, in_t, ba0, ba1, Nat.one_ne_zero, Nat.reduceEqDiff, Nat.reduceLeDiff, Nat.add_eq_zero_iff, xk0 hX, ho, ok0 hO, ok1 hO, or0_1 hO, ok13 hO, or0_2 hO, ok15 hO, or0_3 hO, ok17 hO, or0_4 hO, ok19 hO, or0_5 hO, hz, c0_x, ci_x, cl_x, cf_x, xg_v, cond_true, cond_false, ov_np hV, ov_nw hV, ov_na hV, ov_nd hV, ov_nl hV, ov_nc hV, ov_day hV, x215_0, x215_1, x212s h' _ hk0 b0, eq_false (show ¬ 2 < k1 by omega), x65 hO hV k0 k1 (by omega) hk1, e0, e1, e2, e3, e4, e6, e7]
end R44
