/-! what an income would bring: the class -/
def DX (N : Nat) (a k : Nat) : Prop := DP N a k ∨ DQ N a k
theorem DX.p {N a k : Nat} (h : DP N a k) : DX N a k := Or.inl h
theorem DX.c {N a k : Nat} (h : DC N a k) : DX N a k := Or.inr (Or.inr (Or.inr h))
theorem DX.w {N a k : Nat} (h : DW N a k) : DX N a k := Or.inr (DW.q h)
section R66
variable {sa sv d N o B : Nat} {m : am_M} {s : Nat → Int32} {q : Nat → Int64}
theorem x217s (a : Nat) (h1 : 1 ≤ a) (h2 : a ≤ 9999999) : am_ca sa sv (d + 1) 217 [.int (nI a)] m = some (.inl (some (.int (nI 1))), m) := by
  rw [x217, amt_t.mpr ⟨a, h1, h2, rfl⟩]; rfl
theorem x217f (a : Int32) (h : amt_ a = false) : am_ca sa sv (d + 1) 217 [.int a] m = some (.inl (some (.int (nI 0))), m) := by rw [x217, h]; rfl
theorem x192 (h : CQ B m N o s q) (hNo : N + 27 ≤ o) (w a u : Int32) : ∃ m', Fr (DX N) m m' ∧ am_ca sa sv (d + 6) 192 [.ref N, .int w, .int a, .int u] m = bif inR w (cN s 1) then (bif inR u (cN s 1) then (bif amt_ a then some (.inl (some (.int (nI ((dvd_ s (cN s 4) w.toNatClampNeg a.toNatClampNeg).1 u.toNatClampNeg)))), m') else some (.inr 1, th_ m)) else some (.inr 2, th_ m)) else some (.inr 2, th_ m) := by
  have h' := h
  obtain ⟨hX, hN, ho, ho0, hO, hV, hF, hB⟩ := h
  have hz := l_eqF (Nat.pos_iff_ne_zero.mp ho0)
  have hC := wf_c hF
  have hW := wf_w hF
  have hA := wf_a hF
  have hD := wf_d hF
  obtain ⟨e1, b1⟩ := (wc_nw hC).c (by decide)
  obtain ⟨e4, b4⟩ := (wc_day hC).c (by decide)
  cases h1 : inR w (cN s 1) with
  | false =>
    refine ⟨m, Fr.refl _ _, ?_⟩
    rw [c192, b192_0]
    simp (disch := omega) only [gq_true, gb_true, gb_false, true_and, and_true, eq_self, not_false_eq_true, not_true_eq_false, true_or, or_true, false_or, or_false, false_and, and_false, c0_v, ci_v, cl_v, cf_v, pk_mul, nI_add, nI_clamp, nI_lt0, nI_0le, nI_eq0, nI_lt0r, nI_ltE, nI_leE, nI_eqE, nI_m1, in_t, ba0, ba1, Nat.one_ne_zero, Nat.reduceEqDiff, Nat.reduceLeDiff, Nat.add_eq_zero_iff, xk0 hX, x213f h' _ h1, c0_x, xg_v, cond_false]
    try rfl
  | true =>
    obtain ⟨w, hw, rfl⟩ := (inR_t (by omega)).mp h1
    cases h2 : inR u (cN s 1) with
    | false =>
      refine ⟨m, Fr.refl _ _, ?_⟩
      rw [c192, b192_0]
      simp (disch := omega) only [gq_true, gb_true, gb_false, true_and, and_true, eq_self, not_false_eq_true, not_true_eq_false, true_or, or_true, false_or, or_false, false_and, and_false, c0_v, ci_v, cl_v, cf_v, pk_mul, nI_add, nI_clamp, nI_lt0, nI_0le, nI_eq0, nI_lt0r, nI_ltE, nI_leE, nI_eqE, nI_m1, in_t, ba0, ba1, Nat.one_ne_zero, Nat.reduceEqDiff, Nat.reduceLeDiff, Nat.add_eq_zero_iff, xk0 hX, x213s h' w hw b1, x213f h' _ h2, c0_x, xg_v, cond_false, cond_true]
      try rfl
    | true =>
      obtain ⟨u, hu, rfl⟩ := (inR_t (by omega)).mp h2
      cases h3 : amt_ a with
      | false =>
        refine ⟨m, Fr.refl _ _, ?_⟩
        rw [c192, b192_0]
        simp (disch := omega) only [gq_true, gb_true, gb_false, true_and, and_true, eq_self, not_false_eq_true, not_true_eq_false, true_or, or_true, false_or, or_false, false_and, and_false, c0_v, ci_v, cl_v, cf_v, pk_mul, nI_add, nI_clamp, nI_lt0, nI_0le, nI_eq0, nI_lt0r, nI_ltE, nI_leE, nI_eqE, nI_m1, in_t, ba0, ba1, Nat.one_ne_zero, Nat.reduceEqDiff, Nat.reduceLeDiff, Nat.add_eq_zero_iff, xk0 hX, x213s h' w hw b1, x213s h' u hu b1, x217f a h3, x215_0, c0_x, xg_v, cond_false, cond_true]
        try rfl
      | true =>
        obtain ⟨a, ha1, ha, rfl⟩ := amt_t.mp h3
        obtain ⟨m1, p1, p2, p3⟩ := x32 (sa := sa) (sv := sv) (d := d + 1) hX hO hV hNo hC hW hA hD (cN s 4) (by omega)
        have hX1 := p3.1
        have e13 : ∀ k, gr_ m1 N k = gr_ m N k := fun k => p2.2.2.2.1 _ _ (by rintro (z | z | z | ⟨z, z2⟩) <;> omega)
        obtain ⟨m2, g1, g2, g3, g4, g5⟩ := x35 (sa := sa) (sv := sv) (d := d + 1) p3 hC hW hA w a hw ha
        have hX2 := (p3.fr g2).1
        refine ⟨m2, (p2.mono fun _ _ h => DX.p h).trans (g2.mono fun _ _ h => DX.c h), ?_⟩
        rw [c192, b192_0]
        simp (disch := omega) only [gq_true, gb_true, gb_false, true_and, and_true, eq_self, not_false_eq_true, not_true_eq_false, true_or, or_true, false_or, or_false, false_and, and_false, c0_v, ci_v, cl_v, cf_v, pk_mul, nI_add, nI_clamp, nI_lt0, nI_0le, nI_eq0, nI_lt0r, nI_ltE, nI_leE, nI_eqE, nI_m1, in_t, ba0, ba1, Nat.one_ne_zero, Nat.reduceEqDiff, Nat.reduceLeDiff, Nat.add_eq_zero_iff, xk0 hX, x213s h' w hw b1, x213s h' u hu b1, x217s a ha1 ha, x215_1, ho, ok0 hO, ov_day hV, e4, xr0_6 hX, xk14 hX, hz]
        rw [p1, c0_v]
        simp (disch := omega) only [gq_true, gb_true, gb_false, true_and, and_true, eq_self, not_false_eq_true, not_true_eq_false, true_or, or_true, false_or, or_false, false_and, and_false, c0_v, ci_v, cl_v, cf_v, pk_mul, nI_add, nI_clamp, nI_lt0, nI_0le, nI_eq0, nI_lt0r, nI_ltE, nI_leE, nI_eqE, nI_m1, in_t, ba0, ba1, Nat.one_ne_zero, Nat.reduceEqDiff, Nat.reduceLeDiff, Nat.add_eq_zero_iff, xk0 hX1, xr0_6 hX1, xk14 hX1]
        rw [g1, c0_v]
        simp (disch := omega) only [gq_true, gb_true, gb_false, true_and, and_true, eq_self, not_false_eq_true, not_true_eq_false, true_or, or_true, false_or, or_false, false_and, and_false, c0_v, ci_v, cl_v, cf_v, pk_mul, nI_add, nI_clamp, nI_lt0, nI_0le, nI_eq0, nI_lt0r, nI_ltE, nI_leE, nI_eqE, nI_m1, in_t, ba0, ba1, Nat.one_ne_zero, Nat.reduceEqDiff, Nat.reduceLeDiff, Nat.add_eq_zero_iff, xk0 hX2, xr0_6 hX2, xk14 hX2, x41 hX2 u (by omega), g3 u (by omega), cond_true]
theorem x199 (h : CQ B m N o s q) (hNo : N + 27 ≤ o) (w a p day : Nat) (hw : w < cN s 1) (hp : p < cN s 0) (ha : a ≤ 9999999) (hd : day < 2 ^ 31) : ∃ m', Fr (DX N) m m' ∧ am_ca sa sv (d + 6) 199 [.ref N, .int (nI w), .int (nI a), .int (nI p), .int (nI day)] m = some (.inl (some (.int (nI (eg_ (dvd_ s day w a).2 p (dvd_ s day w a).2.length)))), m') := by
  obtain ⟨hX, hN, ho, ho0, hO, hV, hF, hB⟩ := h
  have hz := l_eqF (Nat.pos_iff_ne_zero.mp ho0)
  have hC := wf_c hF
  have hW := wf_w hF
  have hA := wf_a hF
  have hD := wf_d hF
  have h11 := isN_lt (wc_np hC) (by decide)
  obtain ⟨m1, p1, p2, p3⟩ := x32 (sa := sa) (sv := sv) (d := d + 1) hX hO hV hNo hC hW hA hD day hd
  have hX1 := p3.1
  obtain ⟨m2, g1, g2, g3, g4, g5⟩ := x35 (sa := sa) (sv := sv) (d := d + 1) p3 hC hW hA w a hw ha
  have hX2 := (p3.fr g2).1
  have hGL := dvd_GL hC hW hA day w a hw ha
  have k1 := x44 (sa := sa) (sv := sv) (d := d + 3) hX2 (dvd_64 hC hW day w a hw) (fun x hx => by have := (hGL x hx).2.1; omega) (g4.f fun x hx => (hGL x hx).2.2.2.2) g5 p (by omega)
  refine ⟨m2, (p2.mono fun _ _ h => DX.p h).trans (g2.mono fun _ _ h => DX.c h), ?_⟩
  rw [c199, b199_0]
  simp (disch := omega) only [gq_true, gb_true, gb_false, true_and, and_true, eq_self, not_false_eq_true, not_true_eq_false, true_or, or_true, false_or, or_false, false_and, and_false, c0_v, ci_v, cl_v, cf_v, pk_mul, nI_add, nI_clamp, nI_lt0, nI_0le, nI_eq0, nI_lt0r, nI_ltE, nI_leE, nI_eqE, nI_m1, in_t, ba0, ba1, Nat.one_ne_zero, Nat.reduceEqDiff, Nat.reduceLeDiff, Nat.add_eq_zero_iff, xk0 hX, ho, xr0_6 hX, xk14 hX, hz]
  rw [p1, c0_v]
  simp (disch := omega) only [gq_true, gb_true, gb_false, true_and, and_true, eq_self, not_false_eq_true, not_true_eq_false, true_or, or_true, false_or, or_false, false_and, and_false, c0_v, ci_v, cl_v, cf_v, pk_mul, nI_add, nI_clamp, nI_lt0, nI_0le, nI_eq0, nI_lt0r, nI_ltE, nI_leE, nI_eqE, nI_m1, in_t, ba0, ba1, Nat.one_ne_zero, Nat.reduceEqDiff, Nat.reduceLeDiff, Nat.add_eq_zero_iff, xk0 hX1, xr0_6 hX1, xk14 hX1]
  rw [g1, c0_v]
  simp (disch := omega) only [gq_true, gb_true, gb_false, true_and, and_true, eq_self, not_false_eq_true, not_true_eq_false, true_or, or_true, false_or, or_false, false_and, and_false, c0_v, ci_v, cl_v, cf_v, pk_mul, nI_add, nI_clamp, nI_lt0, nI_0le, nI_eq0, nI_lt0r, nI_ltE, nI_leE, nI_eqE, nI_m1, in_t, ba0, ba1, Nat.one_ne_zero, Nat.reduceEqDiff, Nat.reduceLeDiff, Nat.add_eq_zero_iff, xk0 hX2, xr0_6 hX2, xk14 hX2]
  rw [k1, ci_v]
theorem x193 (h : CQ B m N o s q) (hNo : N + 27 ≤ o) (w a u : Int32) : ∃ m', Fr (DX N) m m' ∧ am_ca sa sv (d + 7) 193 [.ref N, .int w, .int a, .int u] m = bif inR w (cN s 1) then (bif inR u (cN s 0) then (bif amt_ a then some (.inl (some (.int (nI (eg_ (dL_ s w.toNatClampNeg a.toNatClampNeg) u.toNatClampNeg (dL_ s w.toNatClampNeg a.toNatClampNeg).length)))), m') else some (.inr 1, th_ m)) else some (.inr 2, th_ m)) else some (.inr 2, th_ m) := by
  have h' := h
  obtain ⟨hX, hN, ho, ho0, hO, hV, hF, hB⟩ := h
  have hz := l_eqF (Nat.pos_iff_ne_zero.mp ho0)
  have hC := wf_c hF
  obtain ⟨e0, b0⟩ := (wc_np hC).c (by decide)
  obtain ⟨e1, b1⟩ := (wc_nw hC).c (by decide)
  obtain ⟨e4, b4⟩ := (wc_day hC).c (by decide)
  cases h1 : inR w (cN s 1) with
  | false =>
    refine ⟨m, Fr.refl _ _, ?_⟩
    rw [c193, b193_0]
    simp (disch := omega) only [gq_true, gb_true, gb_false, true_and, and_true, eq_self, not_false_eq_true, not_true_eq_false, true_or, or_true, false_or, or_false, false_and, and_false, c0_v, ci_v, cl_v, cf_v, pk_mul, nI_add, nI_clamp, nI_lt0, nI_0le, nI_eq0, nI_lt0r, nI_ltE, nI_leE, nI_eqE, nI_m1, in_t, ba0, ba1, Nat.one_ne_zero, Nat.reduceEqDiff, Nat.reduceLeDiff, Nat.add_eq_zero_iff, xk0 hX, x213f h' _ h1, c0_x, xg_v, cond_false]
    try rfl
  | true =>
    obtain ⟨w, hw, rfl⟩ := (inR_t (by omega)).mp h1
    cases h2 : inR u (cN s 0) with
    | false =>
      refine ⟨m, Fr.refl _ _, ?_⟩
      rw [c193, b193_0]
      simp (disch := omega) only [gq_true, gb_true, gb_false, true_and, and_true, eq_self, not_false_eq_true, not_true_eq_false, true_or, or_true, false_or, or_false, false_and, and_false, c0_v, ci_v, cl_v, cf_v, pk_mul, nI_add, nI_clamp, nI_lt0, nI_0le, nI_eq0, nI_lt0r, nI_ltE, nI_leE, nI_eqE, nI_m1, in_t, ba0, ba1, Nat.one_ne_zero, Nat.reduceEqDiff, Nat.reduceLeDiff, Nat.add_eq_zero_iff, xk0 hX, x213s h' w hw b1, x212f h' _ h2, c0_x, xg_v, cond_false, cond_true]
      try rfl
    | true =>
      obtain ⟨u, hu, rfl⟩ := (inR_t (by omega)).mp h2
      cases h3 : amt_ a with
      | false =>
        refine ⟨m, Fr.refl _ _, ?_⟩
        rw [c193, b193_0]
        simp (disch := omega) only [gq_true, gb_true, gb_false, true_and, and_true, eq_self, not_false_eq_true, not_true_eq_false, true_or, or_true, false_or, or_false, false_and, and_false, c0_v, ci_v, cl_v, cf_v, pk_mul, nI_add, nI_clamp, nI_lt0, nI_0le, nI_eq0, nI_lt0r, nI_ltE, nI_leE, nI_eqE, nI_m1, in_t, ba0, ba1, Nat.one_ne_zero, Nat.reduceEqDiff, Nat.reduceLeDiff, Nat.add_eq_zero_iff, xk0 hX, x213s h' w hw b1, x212s h' u hu b0, x217f a h3, x215_0, c0_x, xg_v, cond_false, cond_true]
        try rfl
      | true =>
        obtain ⟨a, ha1, ha, rfl⟩ := amt_t.mp h3
        obtain ⟨m', g1, g2⟩ := x199 (sa := sa) (sv := sv) (d := d) h' hNo w a u (cN s 4) hw hu ha (by omega)
        refine ⟨m', g1, ?_⟩
        rw [c193, b193_0]
        simp (disch := omega) only [gq_true, gb_true, gb_false, true_and, and_true, eq_self, not_false_eq_true, not_true_eq_false, true_or, or_true, false_or, or_false, false_and, and_false, c0_v, ci_v, cl_v, cf_v, pk_mul, nI_add, nI_clamp, nI_lt0, nI_0le, nI_eq0, nI_lt0r, nI_ltE, nI_leE, nI_eqE, nI_m1, in_t, ba0, ba1, Nat.one_ne_zero, Nat.reduceEqDiff, Nat.reduceLeDiff, Nat.add_eq_zero_iff, xk0 hX, x213s h' w hw b1, x212s h' u hu b0, x217s a ha1 ha, x215_1, ho, ok0 hO, ov_day hV, e4, hz]
        rw [g2, ci_v]
        simp (disch := omega) only [gq_true, gb_true, gb_false, true_and, and_true, eq_self, not_false_eq_true, not_true_eq_false, true_or, or_true, false_or, or_false, false_and, and_false, c0_v, ci_v, cl_v, cf_v, pk_mul, nI_add, nI_clamp, nI_lt0, nI_0le, nI_eq0, nI_lt0r, nI_ltE, nI_leE, nI_eqE, nI_m1, in_t, ba0, ba1, Nat.one_ne_zero, Nat.reduceEqDiff, Nat.reduceLeDiff, Nat.add_eq_zero_iff, cond_true]
        try rfl
theorem x194 (h : CQ B m N o s q) (hNo : N + 27 ≤ o) (w a u : Int32) : ∃ m', Fr (DX N) m m' ∧ am_ca sa sv (d + 7) 194 [.ref N, .int w, .int a, .int u] m = bif inR w (cN s 1) then (bif inR u (cN s 0) then (bif amt_ a then some (.inl (some (.int (nI (og_ s (dL_ s w.toNatClampNeg a.toNatClampNeg) u.toNatClampNeg (dL_ s w.toNatClampNeg a.toNatClampNeg).length + (wh_ s (dL_ s w.toNatClampNeg a.toNatClampNeg) (dL_ s w.toNatClampNeg a.toNatClampNeg).length).2 u.toNatClampNeg)))), m') else some (.inr 1, th_ m)) else some (.inr 2, th_ m)) else some (.inr 2, th_ m) := by
  have h' := h
  obtain ⟨hX, hN, ho, ho0, hO, hV, hF, hB⟩ := h
  have hz := l_eqF (Nat.pos_iff_ne_zero.mp ho0)
  have hC := wf_c hF
  have hW := wf_w hF
  have hA := wf_a hF
  have hD := wf_d hF
  obtain ⟨e0, b0⟩ := (wc_np hC).c (by decide)
  obtain ⟨e1, b1⟩ := (wc_nw hC).c (by decide)
  obtain ⟨e4, b4⟩ := (wc_day hC).c (by decide)
  cases h1 : inR w (cN s 1) with
  | false =>
    refine ⟨m, Fr.refl _ _, ?_⟩
    rw [c194, b194_0]
    simp (disch := omega) only [gq_true, gb_true, gb_false, true_and, and_true, eq_self, not_false_eq_true, not_true_eq_false, true_or, or_true, false_or, or_false, false_and, and_false, c0_v, ci_v, cl_v, cf_v, pk_mul, nI_add, nI_clamp, nI_lt0, nI_0le, nI_eq0, nI_lt0r, nI_ltE, nI_leE, nI_eqE, nI_m1, in_t, ba0, ba1, Nat.one_ne_zero, Nat.reduceEqDiff, Nat.reduceLeDiff, Nat.add_eq_zero_iff, xk0 hX, x213f h' _ h1, c0_x, xg_v, cond_false]
    try rfl
  | true =>
    obtain ⟨w, hw, rfl⟩ := (inR_t (by omega)).mp h1
    cases h2 : inR u (cN s 0) with
    | false =>
      refine ⟨m, Fr.refl _ _, ?_⟩
      rw [c194, b194_0]
      simp (disch := omega) only [gq_true, gb_true, gb_false, true_and, and_true, eq_self, not_false_eq_true, not_true_eq_false, true_or, or_true, false_or, or_false, false_and, and_false, c0_v, ci_v, cl_v, cf_v, pk_mul, nI_add, nI_clamp, nI_lt0, nI_0le, nI_eq0, nI_lt0r, nI_ltE, nI_leE, nI_eqE, nI_m1, in_t, ba0, ba1, Nat.one_ne_zero, Nat.reduceEqDiff, Nat.reduceLeDiff, Nat.add_eq_zero_iff, xk0 hX, x213s h' w hw b1, x212f h' _ h2, c0_x, xg_v, cond_false, cond_true]
      try rfl
    | true =>
      obtain ⟨u, hu, rfl⟩ := (inR_t (by omega)).mp h2
      cases h3 : amt_ a with
      | false =>
        refine ⟨m, Fr.refl _ _, ?_⟩
        rw [c194, b194_0]
        simp (disch := omega) only [gq_true, gb_true, gb_false, true_and, and_true, eq_self, not_false_eq_true, not_true_eq_false, true_or, or_true, false_or, or_false, false_and, and_false, c0_v, ci_v, cl_v, cf_v, pk_mul, nI_add, nI_clamp, nI_lt0, nI_0le, nI_eq0, nI_lt0r, nI_ltE, nI_leE, nI_eqE, nI_m1, in_t, ba0, ba1, Nat.one_ne_zero, Nat.reduceEqDiff, Nat.reduceLeDiff, Nat.add_eq_zero_iff, xk0 hX, x213s h' w hw b1, x212s h' u hu b0, x217f a h3, x215_0, c0_x, xg_v, cond_false, cond_true]
        try rfl
      | true =>
        obtain ⟨a, ha1, ha, rfl⟩ := amt_t.mp h3
        obtain ⟨m1, p1, p2, p3⟩ := x32 (sa := sa) (sv := sv) (d := d + 2) hX hO hV hNo hC hW hA hD (cN s 4) (by omega)
        have hX1 := p3.1
        obtain ⟨m2, g1, g2, g3, g4, g5⟩ := x35 (sa := sa) (sv := sv) (d := d + 2) p3 hC hW hA w a hw ha
        have hP2 := p3.fr g2
        have hX2 := hP2.1
        have hGL := dvd_GL hC hW hA (cN s 4) w a hw ha
        have h64 := dvd_64 hC hW (cN s 4) w a hw
        obtain ⟨m3, k1, k2, k3, k4, k5⟩ := x39 (sa := sa) (sv := sv) (d := d + 3) hP2 hC hD h64 hGL (g4.f fun x hx => (hGL x hx).2.2.2.2) g5
        have hX3 := (hP2.frQ (k2.mono fun _ _ h => DW.q h)).1
        have hr3 : gi_ m3 (N + 21) 2 = nI (dvd_ s (cN s 4) w a).2.length := (k2.2.1 _ _ (by rintro (z | z | z) <;> omega)).trans g5
        have j1 := x45 (sa := sa) (sv := sv) (d := d + 3) hX3 _ h64 (fun x hx => by have := (hGL x hx).2.1; omega) k3 hr3 u (by omega) (k5 u (by omega))
        refine ⟨m3, ((p2.mono fun _ _ h => DX.p h).trans (g2.mono fun _ _ h => DX.c h)).trans (k2.mono fun _ _ h => DX.w h), ?_⟩
        rw [c194, b194_0]
        simp (disch := omega) only [gq_true, gb_true, gb_false, true_and, and_true, eq_self, not_false_eq_true, not_true_eq_false, true_or, or_true, false_or, or_false, false_and, and_false, c0_v, ci_v, cl_v, cf_v, pk_mul, nI_add, nI_clamp, nI_lt0, nI_0le, nI_eq0, nI_lt0r, nI_ltE, nI_leE, nI_eqE, nI_m1, in_t, ba0, ba1, Nat.one_ne_zero, Nat.reduceEqDiff, Nat.reduceLeDiff, Nat.add_eq_zero_iff, xk0 hX, x213s h' w hw b1, x212s h' u hu b0, x217s a ha1 ha, x215_1, ho, ok0 hO, ov_day hV, e4, xr0_6 hX, xk14 hX, hz]
        rw [p1, c0_v]
        simp (disch := omega) only [gq_true, gb_true, gb_false, true_and, and_true, eq_self, not_false_eq_true, not_true_eq_false, true_or, or_true, false_or, or_false, false_and, and_false, c0_v, ci_v, cl_v, cf_v, pk_mul, nI_add, nI_clamp, nI_lt0, nI_0le, nI_eq0, nI_lt0r, nI_ltE, nI_leE, nI_eqE, nI_m1, in_t, ba0, ba1, Nat.one_ne_zero, Nat.reduceEqDiff, Nat.reduceLeDiff, Nat.add_eq_zero_iff, xk0 hX1, xr0_6 hX1, xk14 hX1]
        rw [g1, c0_v]
        simp (disch := omega) only [gq_true, gb_true, gb_false, true_and, and_true, eq_self, not_false_eq_true, not_true_eq_false, true_or, or_true, false_or, or_false, false_and, and_false, c0_v, ci_v, cl_v, cf_v, pk_mul, nI_add, nI_clamp, nI_lt0, nI_0le, nI_eq0, nI_lt0r, nI_ltE, nI_leE, nI_eqE, nI_m1, in_t, ba0, ba1, Nat.one_ne_zero, Nat.reduceEqDiff, Nat.reduceLeDiff, Nat.add_eq_zero_iff, xk0 hX2, xr0_6 hX2, xk14 hX2]
        rw [k1, c0_v]
        simp (disch := omega) only [gq_true, gb_true, gb_false, true_and, and_true, eq_self, not_false_eq_true, not_true_eq_false, true_or, or_true, false_or, or_false, false_and, and_false, c0_v, ci_v, cl_v, cf_v, pk_mul, nI_add, nI_clamp, nI_lt0, nI_0le, nI_eq0, nI_lt0r, nI_ltE, nI_leE, nI_eqE, nI_m1, in_t, ba0, ba1, Nat.one_ne_zero, Nat.reduceEqDiff, Nat.reduceLeDiff, Nat.add_eq_zero_iff, xk0 hX3, xr0_6 hX3, xk14 hX3]
        rw [j1, ci_v]
        simp (disch := omega) only [gq_true, gb_true, gb_false, true_and, and_true, eq_self, not_false_eq_true, not_true_eq_false, true_or, or_true, false_or, or_false, false_and, and_false, c0_v, ci_v, cl_v, cf_v, pk_mul, nI_add, nI_clamp, nI_lt0, nI_0le, nI_eq0, nI_lt0r, nI_ltE, nI_leE, nI_eqE, nI_m1, in_t, ba0, ba1, Nat.one_ne_zero, Nat.reduceEqDiff, Nat.reduceLeDiff, Nat.add_eq_zero_iff, cond_true]
        try rfl
end R66
