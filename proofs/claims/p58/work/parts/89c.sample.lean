/-! a sample is read: the class -/
def whS (s : Nat → Int32) (v t p : Nat) : Nat := if t ≤ v then 3 else if (orF_ (fun i => cN s (60 + 48 * t + i)) (cN s (59 + 48 * t))).testBit v = true then 3 else if sum_ (fun i => cN s (63 + 48 * t + i)) (cN s (59 + 48 * t)) + p ≤ 90 then 0 else 4
noncomputable def sSA (s : Nat → Int32) (q : Nat → Int64) (b : Nat → Nat) (n i : Nat) : Er ⊕ (Nat × ((Nat → Int32) × (Nat → Int64))) := eb (sWrk s q b n 0 (i + 1)) fun x1 => eb (sTake b n 13 x1.1) fun x2 => eb (sWrk s q b n 1 x2.1) fun x3 => eb (sNum b n 1 90 x3.1) fun x4 => eb (sSemi b n (whS s x1.2 x3.2 x4.2) x4.1) fun x5 => .inr (x5.1, srcU s x3.2 (cN s (59 + 48 * x3.2)) x1.2 x4.2, q)
section I89
variable {sa sv d N o T n i B : Nat} {m : am_M} {b : Nat → Nat} {s : Nat → Int32} {q : Nat → Int64}
theorem whS_lt (s : Nat → Int32) (v t p : Nat) : whS s v t p < 100 := by
  unfold whS; split
  · decide
  · split
    · decide
    · split <;> decide
theorem no_rm {w : Nat} (hW : WW s) (hw : w < cN s 1) (h : ¬ rm_ s 1 w) : cN s (59 + 48 * w) < 3 := by
  have h1 := isN_lt (ww_no hW w hw) (by decide)
  by_cases e : cN s (59 + 48 * w) = 3
  · exact absurd (Or.inl ⟨rfl, e⟩) h
  · omega
theorem no_rm2 {w : Nat} (hW : WW s) (hw : w < cN s 1) (h : ¬ rm_ s 2 w) : cN s (18 + 48 * w) < 4 := by
  have h1 := isN_lt (ww_ns hW w hw).1 (by decide)
  by_cases e : cN s (18 + 48 * w) = 4
  · exact absurd (Or.inr ⟨rfl, e⟩) h
  · omega
theorem x114 (h : CT m N b n T i) (hS : SR m N o s q) (hG : WG B s q) (hk : ¬ Kd b n i = 0) : CW N m (PU N o) (fun _ => none) (fun j z m' => CT m' N b n T j ∧ SR m' N o z.1 z.2) (sSA s q b n i) (am_ca sa sv (d + 4) 114 [.ref (N + 7)] m) := by
  have hC := hG.1.1
  have hW := hG.1.2.1
  obtain ⟨t1, hnw⟩ := (wc_nw hC).c (by decide)
  have hT := h.lt hk
  have e143 : am_ca sa sv (d + 3) 143 [.ref (N + 2)] m = some (.inl none, stp m N (i + 1)) := x143 (sa := sa) (sv := sv) (d := d + 2) h hT
  have h1 : CT (stp m N (i + 1)) N b n T (i + 1) := h.set (by omega)
  have s1 := hS.stp (i + 1)
  have f1 : Fr (PU N o) m (stp m N (i + 1)) := (Fr.refl _ _).si (Or.inl (Or.inl ⟨rfl, by omega, by omega⟩))
  rw [c114, b114_0]
  simp (disch := omega) only [gq_true, gb_true, gb_false, true_and, and_true, eq_self, not_false_eq_true, not_true_eq_false, true_or, or_true, false_or, or_false, false_and, and_false, c0_v, ci_v, cl_v, cf_v, pk_mul, nI_add, nI_clamp, nI_lt0, nI_0le, nI_eq0, nI_lt0r, nI_ltE, nI_leE, nI_eqE, nI_m1, in_t, ba0, ba1, Nat.one_ne_zero, Nat.reduceEqDiff, Nat.reduceLeDiff, Nat.add_eq_zero_iff, xk7 h.1, xr7_0 h.1, xk2 h.1, e143]
  refine CW.tr ?_ f1 (fun _ _ z => z)
  generalize stp m N (i + 1) = m1 at *
  simp (disch := omega) only [gq_true, gb_true, gb_false, true_and, and_true, eq_self, not_false_eq_true, not_true_eq_false, true_or, or_true, false_or, or_false, false_and, and_false, c0_v, ci_v, cl_v, cf_v, pk_mul, nI_add, nI_clamp, nI_lt0, nI_0le, nI_eq0, nI_lt0r, nI_ltE, nI_leE, nI_eqE, nI_m1, in_t, ba0, ba1, Nat.one_ne_zero, Nat.reduceEqDiff, Nat.reduceLeDiff, Nat.add_eq_zero_iff, xk7 h1.1]
  unfold sSA
  refine CW.ci nI ((x121 (sa := sa) (sv := sv) (d := d) h1 s1 hC).st h1 s1 (fun x e => by have z := sWrk_i e; have := h1.lt (by omega); omega)) (fun _ => rfl) (fun x1 m2 e2 f2 ⟨h2, s2⟩ => ?_)
  simp (disch := omega) only [gq_true, gb_true, gb_false, true_and, and_true, eq_self, not_false_eq_true, not_true_eq_false, true_or, or_true, false_or, or_false, false_and, and_false, c0_v, ci_v, cl_v, cf_v, pk_mul, nI_add, nI_clamp, nI_lt0, nI_0le, nI_eq0, nI_lt0r, nI_ltE, nI_leE, nI_eqE, nI_m1, in_t, ba0, ba1, Nat.one_ne_zero, Nat.reduceEqDiff, Nat.reduceLeDiff, Nat.add_eq_zero_iff, xk7 h2.1, xr7_0 h2.1, xk2 h2.1]
  refine CW.c0 ((x144 (sa := sa) (sv := sv) (d := d + 1) h2 13 (by decide) (by decide)).st h2 s2 (fun x e => by have z := sTake_i e; have := h2.lt (by omega); omega)) (fun _ => rfl) (fun x2 m3 e3 f3 ⟨h3, s3⟩ => ?_)
  simp (disch := omega) only [gq_true, gb_true, gb_false, true_and, and_true, eq_self, not_false_eq_true, not_true_eq_false, true_or, or_true, false_or, or_false, false_and, and_false, c0_v, ci_v, cl_v, cf_v, pk_mul, nI_add, nI_clamp, nI_lt0, nI_0le, nI_eq0, nI_lt0r, nI_ltE, nI_leE, nI_eqE, nI_m1, in_t, ba0, ba1, Nat.one_ne_zero, Nat.reduceEqDiff, Nat.reduceLeDiff, Nat.add_eq_zero_iff, xk7 h3.1]
  have e122 : CO N m3 (fun v => some (.int (nI v))) (sWrk s q b n 1 x2.1) (am_ca sa sv (d + 3) 122 [.ref (N + 7), .int (nI 1)] m3) := x122 (sa := sa) (sv := sv) (d := d) h3 s3 hC hW 1 (Or.inl rfl)
  refine CW.ci nI (e122.st h3 s3 (fun x e => by have z := sWrk_i e; have := h3.lt (by omega); omega)) (fun _ => rfl) (fun x3 m4 e4 f4 ⟨h4, s4⟩ => ?_)
  simp (disch := omega) only [gq_true, gb_true, gb_false, true_and, and_true, eq_self, not_false_eq_true, not_true_eq_false, true_or, or_true, false_or, or_false, false_and, and_false, c0_v, ci_v, cl_v, cf_v, pk_mul, nI_add, nI_clamp, nI_lt0, nI_0le, nI_eq0, nI_lt0r, nI_ltE, nI_leE, nI_eqE, nI_m1, in_t, ba0, ba1, Nat.one_ne_zero, Nat.reduceEqDiff, Nat.reduceLeDiff, Nat.add_eq_zero_iff, xk7 h4.1, xr7_0 h4.1, xk2 h4.1]
  refine CW.ci nI ((x145 (sa := sa) (sv := sv) (d := d + 1) h4 1 90 (by decide) (by decide)).st h4 s4 (fun x e => by have z := sNum_i e; have := h4.lt (by omega); omega)) (fun _ => rfl) (fun x4 m5 e5 f5 ⟨h5, s5⟩ => ?_)
  have k1 := (sWrk_i e2).2.2.1
  obtain ⟨-, -, k3, k3'⟩ := sWrk_i e4
  have k4 := (sNum_i e5).2.2.2
  have k5 := no_rm hW k3 k3'
  have t59 := ((ww_no hW _ k3).c (by decide)).1
  have fin : ∀ (w : Nat), w < 100 → CW N m5 (PU N o) (fun _ => none) (fun j z m' => CT m' N b n T j ∧ SR m' N o z.1 z.2) (eb (sSemi b n w x4.1) fun x5 => .inr (x5.1, srcU s x3.2 (cN s (59 + 48 * x3.2)) x1.2 x4.2, q)) (am_c0 (am_ca sa sv (d + 3) 148 [.ref (N + 2), .int (nI w)] m5) (fun m17 => gq_ (gk_ m17 (N + 7) = (1, 7) ∧ ¬ gr_ m17 (N + 7) 3 = 0) (gq_ (gk_ m17 (gr_ m17 (N + 7) 3) = (1, 0)) (am_c0 (am_ca sa sv (d + 3) 10 [.ref (gr_ m17 (N + 7) 3), .int (nI x3.2), .int (nI x1.2), .int (nI x4.2)] m17) (fun m18 => some (.inl none, m18)) am_xg))) am_xg) := fun w hw => by
    refine CW.c0 ((x148 (sa := sa) (sv := sv) (d := d + 1) h5 w hw).st h5 s5 (fun x e => by have z := sSemi_i e; have := h5.lt (by omega); omega)) (fun _ => rfl) (fun x5 m6 e6 f6 ⟨h6, s6⟩ => ?_)
    obtain ⟨m7, g1, g2, g3, g4⟩ := x10 (sa := sa) (sv := sv) (d := d + 1) s6.O s6.V (cN s 1) x3.2 (cN s (59 + 48 * x3.2)) x1.2 x4.2 (by omega) k3 t1 k5 t59
    simp (disch := omega) only [gq_true, gb_true, gb_false, true_and, and_true, eq_self, not_false_eq_true, not_true_eq_false, true_or, or_true, false_or, or_false, false_and, and_false, c0_v, ci_v, cl_v, cf_v, pk_mul, nI_add, nI_clamp, nI_lt0, nI_0le, nI_eq0, nI_lt0r, nI_ltE, nI_leE, nI_eqE, nI_m1, in_t, ba0, ba1, Nat.one_ne_zero, Nat.reduceEqDiff, Nat.reduceLeDiff, Nat.add_eq_zero_iff, xk7 h6.1, s6.r3, s6.z, ok1 s6.O, g1]
    exact ⟨m7, rfl, g2.mono (fun _ _ z => Or.inr z), h6.frA g2 hS.l hS.u, s6.upd g2 g3 g4⟩
  have f61 : ∀ l4, r114 sa sv (d + 3) 61 [some (.ref (N + 7)), some (.int (nI x1.2)), some (.int (nI x3.2)), some (.int (nI x4.2)), some (.int l4)] [] m5 = am_c0 (am_ca sa sv (d + 3) 148 [.ref (N + 2), .int (nI 3)] m5) (fun m17 => gq_ (gk_ m17 (N + 7) = (1, 7) ∧ ¬ gr_ m17 (N + 7) 3 = 0) (gq_ (gk_ m17 (gr_ m17 (N + 7) 3) = (1, 0)) (am_c0 (am_ca sa sv (d + 3) 10 [.ref (gr_ m17 (N + 7) 3), .int (nI x3.2), .int (nI x1.2), .int (nI x4.2)] m17) (fun m18 => some (.inl none, m18)) am_xg))) am_xg := fun l4 => by
    rw [b114_61]
    simp (disch := omega) only [gq_true, gb_true, gb_false, true_and, and_true, eq_self, not_false_eq_true, not_true_eq_false, true_or, or_true, false_or, or_false, false_and, and_false, c0_v, ci_v, cl_v, cf_v, pk_mul, nI_add, nI_clamp, nI_lt0, nI_0le, nI_eq0, nI_lt0r, nI_ltE, nI_leE, nI_eqE, nI_m1, in_t, ba0, ba1, Nat.one_ne_zero, Nat.reduceEqDiff, Nat.reduceLeDiff, Nat.add_eq_zero_iff, xk7 h5.1, xr7_0 h5.1, xk2 h5.1]
  have hb : orF_ (fun i => cN s (60 + 48 * x3.2 + i)) (cN s (59 + 48 * x3.2)) < 2 ^ 12 := orF_lt (fun j hj => by have := isN_lt (ww_ow hW x3.2 j k3 hj) (by omega); show cN s (60 + 48 * x3.2 + j) < 12; omega)
  have hsb := ww_os hW x3.2 k3
  simp (disch := omega) only [gq_true, gb_true, gb_false, true_and, and_true, eq_self, not_false_eq_true, not_true_eq_false, true_or, or_true, false_or, or_false, false_and, and_false, c0_v, ci_v, cl_v, cf_v, pk_mul, nI_add, nI_clamp, nI_lt0, nI_0le, nI_eq0, nI_lt0r, nI_ltE, nI_leE, nI_eqE, nI_m1, in_t, ba0, ba1, Nat.one_ne_zero, Nat.reduceEqDiff, Nat.reduceLeDiff, Nat.add_eq_zero_iff, f61]
  unfold whS
  by_cases q1 : x3.2 ≤ x1.2
  · rw [if_pos q1, gb_pos q1]; exact fin 3 (by decide)
  · rw [if_neg q1, gb_neg q1]
    simp (disch := omega) only [gq_true, gb_true, gb_false, true_and, and_true, eq_self, not_false_eq_true, not_true_eq_false, true_or, or_true, false_or, or_false, false_and, and_false, c0_v, ci_v, cl_v, cf_v, pk_mul, nI_add, nI_clamp, nI_lt0, nI_0le, nI_eq0, nI_lt0r, nI_ltE, nI_leE, nI_eqE, nI_m1, in_t, ba0, ba1, Nat.one_ne_zero, Nat.reduceEqDiff, Nat.reduceLeDiff, Nat.add_eq_zero_iff, xk7 h5.1, s5.r3, s5.z, ok1 s5.O, x20 (sa := sa) (sv := sv) (d := d) s5.O s5.V hC hW x3.2 k3, nI_tb]
    cases q2 : (orF_ (fun i => cN s (60 + 48 * x3.2 + i)) (cN s (59 + 48 * x3.2))).testBit x1.2 with
    | true =>
      rw [if_pos rfl, gb_neg (by decide), f61]; exact fin 3 (by decide)
    | false =>
      rw [if_neg (by decide), gb_pos (by rfl)]
      simp (disch := omega) only [gq_true, gb_true, gb_false, true_and, and_true, eq_self, not_false_eq_true, not_true_eq_false, true_or, or_true, false_or, or_false, false_and, and_false, c0_v, ci_v, cl_v, cf_v, pk_mul, nI_add, nI_clamp, nI_lt0, nI_0le, nI_eq0, nI_lt0r, nI_ltE, nI_leE, nI_eqE, nI_m1, in_t, ba0, ba1, Nat.one_ne_zero, Nat.reduceEqDiff, Nat.reduceLeDiff, Nat.add_eq_zero_iff, xk7 h5.1, s5.r3, s5.z, ok1 s5.O, x19 (sa := sa) (sv := sv) (d := d) s5.O s5.V hC hW x3.2 k3, xr7_0 h5.1, xk2 h5.1]
      by_cases q3 : sum_ (fun i => cN s (63 + 48 * x3.2 + i)) (cN s (59 + 48 * x3.2)) + x4.2 ≤ 90
      · rw [if_pos q3, gb_pos q3]; exact fin 0 (by decide)
      · rw [if_neg q3, gb_neg q3]; exact fin 4 (by decide)
theorem sSA_WG (hG : WG B s q) {x : Nat × ((Nat → Int32) × (Nat → Int64))} (h : sSA s q b n i = .inr x) : WG B x.2.1 x.2.2 := by
  obtain ⟨x1, z1, h⟩ := eb_r h
  obtain ⟨x2, z2, h⟩ := eb_r h
  obtain ⟨x3, z3, h⟩ := eb_r h
  obtain ⟨x4, z4, h⟩ := eb_r h
  obtain ⟨x5, z5, h⟩ := eb_r h
  obtain ⟨-, -, k3, k3'⟩ := sWrk_i z3
  have k4 := (sNum_i z4).2.2.2
  have k5 := no_rm hG.1.2.1 k3 k3'
  have w0 := (sSemi_i z5).2.1
  unfold whS at w0
  split at w0
  · cases w0
  · split at w0
    · cases w0
    · split at w0
      · rename_i a1 a2 a3
        rw [← Sum.inr.inj h]
        exact hG.source k3 k5 (by omega) (by omega) a3
      · cases w0
end I89
