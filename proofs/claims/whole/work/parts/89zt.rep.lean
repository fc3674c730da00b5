/-! reports: the class's calls, whole -/
def repX (X : TX) (L : List Nat) : TX := X.wR L.length (fun k => L.getD k 0)
section I89
variable {sa sv d N n B o : Nat} {X : TX} {m m' m1 : am_M} {f : Nat → Nat} {L : List Nat} {s : Nat → Int32} {q : Nat → Int64}
theorem x92_12 (ho : N + 27 ≤ o) (hC : WC s) (hL : WL s) (hN : WN s q) : ∀ (k i : Nat) (m : am_M), i + k = cN s 6 → RpC m N (rlB s q i) → OS m o → OV m o s q → ∃ m', r92 sa sv (d + 2) 12 [some (.ref (N + 23)), some (.ref o), some (.ref (o + 17)), some (.int (nI i))] [] m = some (.inl none, m') ∧ Fr (PRp N) m m' ∧ RpC m' N (rlB s q (cN s 6)) := by
  have n64 := isN_lt (wc_nl hC) (by decide)
  obtain ⟨e6, b6⟩ := (wc_nl hC).c (by decide)
  have no : ∀ {m m' : am_M}, Fr (PRp N) m m' → OS m o → OV m o s q → OS m' o ∧ OV m' o s q := fun {m m'} hf h1 h2 => ⟨h1.fr' hf (fun a k z1 z2 z => by unfold PRp at z; omega), h2.fr hf (fun a k z1 z2 z => by unfold PRp at z; omega)⟩
  have z17 : (o + 17 = 0) = False := eq_false (by omega)
  have z1 : (o + 1 = 0) = False := eq_false (by omega)
  intro k
  induction k with
  | zero =>
    intro i m hp h hO hV
    refine ⟨m, ?_, Fr.refl _ _, by rw [show cN s 6 = i by omega]; exact h⟩
    rw [b92_12]
    simp (disch := omega) only [gq_true, gb_true, gb_false, true_and, and_true, eq_self, not_false_eq_true, not_true_eq_false, true_or, or_true, false_or, or_false, false_and, and_false, c0_v, ci_v, cl_v, cf_v, pk_mul, nI_add, nI_clamp, nI_lt0, nI_0le, nI_eq0, nI_lt0r, nI_ltE, nI_leE, nI_eqE, nI_m1, in_t, ba0, ba1, Nat.one_ne_zero, Nat.reduceEqDiff, Nat.reduceLeDiff, Nat.add_eq_zero_iff, ok17 hO, (ov_nl hV).trans e6, show cN s 6 ≤ i by omega]
  | succ k ih =>
    intro i m hp h hO hV
    have len := rlB_len q hL i (by omega)
    obtain ⟨w0, u0⟩ := (wl_w hL i (by omega)).c (by have := isN_lt (wc_nw hC) (by decide); omega)
    obtain ⟨w1, u1⟩ := (wl_p hL i (by omega)).c (by have := isN_lt (wc_np hC) (by decide); omega)
    obtain ⟨w2, u2⟩ := (wl_a hL i (by omega)).c (by decide)
    obtain ⟨w3, u3⟩ := (wl_h hL i (by omega)).c (by decide)
    have nl := namL_len (q (472 + cN s (767 + 4 * i + 0)))
    have nl2 := namL_len (q (462 + cN s (767 + 4 * i + 1)))
    have n1 := numL_len (cN s (767 + 4 * i + 2))
    have n2 := numL_len (cN s (767 + 4 * i + 3))
    have l0 := xli (sa := sa) (sv := sv) (d := d + 1) hO hV hC i 0 (by omega) (by omega)
    rw [w0] at l0
    have q13 := x13 (sa := sa) (sv := sv) (d := d) hO hV hC (cN s (767 + 4 * i + 0)) u0
    obtain ⟨m1, a1, a2, a3⟩ := x94 (sa := sa) (sv := sv) (d := d) h (hN.2.2.2 _ u0) (by omega)
    obtain ⟨O1, V1⟩ := no (a2.mono fun a k z => z.p) hO hV
    obtain ⟨m2, b1, b2, b3⟩ := x93 (sa := sa) (sv := sv) (d := d + 1) a3 32 (by omega) (by simp only [List.length_append]; omega)
    obtain ⟨O2, V2⟩ := no (b2.mono fun a k z => z.p) O1 V1
    have l1 := xli (sa := sa) (sv := sv) (d := d + 1) O2 V2 hC i 1 (by omega) (by omega)
    rw [w1] at l1
    have q12 := x12 (sa := sa) (sv := sv) (d := d) O2 V2 hC (cN s (767 + 4 * i + 1)) u1
    obtain ⟨m3, c1, c2, c3⟩ := x94 (sa := sa) (sv := sv) (d := d) b3 (hN.2.2.1 _ u1) (by simp only [List.length_append, List.length_singleton]; omega)
    obtain ⟨O3, V3⟩ := no (c2.mono fun a k z => z.p) O2 V2
    obtain ⟨m4, d1, d2, d3⟩ := x93 (sa := sa) (sv := sv) (d := d + 1) c3 32 (by omega) (by simp only [List.length_append, List.length_singleton]; omega)
    obtain ⟨O4, V4⟩ := no (d2.mono fun a k z => z.p) O3 V3
    have l2 := xli (sa := sa) (sv := sv) (d := d + 1) O4 V4 hC i 2 (by omega) (by omega)
    rw [w2] at l2
    obtain ⟨m5, e1, e2, e3⟩ := x95 (sa := sa) (sv := sv) (d := d) d3 (cN s (767 + 4 * i + 2)) (by omega) (by simp only [List.length_append, List.length_singleton]; omega)
    have e1' : am_ca sa sv (d + 2) 95 [.ref (N + 23), .long (nI (cN s (767 + 4 * i + 2))).toInt64] m4 = some (.inl none, m5) := by
      rw [nI_l (by omega)]; exact e1
    obtain ⟨O5, V5⟩ := no e2 O4 V4
    have l3 := xli (sa := sa) (sv := sv) (d := d + 1) O5 V5 hC i 3 (by omega) (by omega)
    rw [w3] at l3
    by_cases z : cN s (767 + 4 * i + 3) = 0
    · obtain ⟨m6, f1, f2, f3⟩ := x93 (sa := sa) (sv := sv) (d := d + 1) e3 10 (by omega) (by simp only [List.length_append, List.length_singleton]; omega)
      obtain ⟨O6, V6⟩ := no (f2.mono fun a k z => z.p) O5 V5
      have hL6 : RpC m6 N (rlB s q (i + 1)) := by
        unfold rlB rlR
        rw [if_pos z]
        simpa only [List.append_assoc, List.nil_append] using f3
      obtain ⟨m7, i1, i2, i3⟩ := ih (i + 1) m6 (by omega) hL6 O6 V6
      refine ⟨m7, ?_, ((((((a2.mono fun a k z => z.p).trans (b2.mono fun a k z => z.p)).trans (c2.mono fun a k z => z.p)).trans (d2.mono fun a k z => z.p)).trans e2).trans (f2.mono fun a k z => z.p)).trans i2, i3⟩
      rw [b92_12]
      simp (disch := omega) only [gq_true, gb_true, gb_false, true_and, and_true, eq_self, not_false_eq_true, not_true_eq_false, true_or, or_true, false_or, or_false, false_and, and_false, c0_v, ci_v, cl_v, cf_v, pk_mul, nI_add, nI_clamp, nI_lt0, nI_0le, nI_eq0, nI_lt0r, nI_ltE, nI_leE, nI_eqE, nI_m1, in_t, ba0, ba1, Nat.one_ne_zero, Nat.reduceEqDiff, Nat.reduceLeDiff, Nat.add_eq_zero_iff, ok17 hO, (ov_nl hV).trans e6, eq_false (show ¬ cN s 6 ≤ i by omega), ok0 hO, or0_1 hO, z1, l0, ok1 hO, q13, xk23 h.1, a1, xk23 a3.1, b1, ok0 O2, or0_1 O2, ok17 O2, l1, ok1 O2, q12, xk23 b3.1, c1, xk23 c3.1, d1, ok17 O4, l2, xk23 d3.1, e1', ok17 O5, l3, z, nI_le0, Nat.le_refl, xk23 e3.1, f1]
      exact i1
    · obtain ⟨m6, f1, f2, f3⟩ := x93 (sa := sa) (sv := sv) (d := d + 1) e3 45 (by omega) (by simp only [List.length_append, List.length_singleton]; omega)
      obtain ⟨O6, V6⟩ := no (f2.mono fun a k z => z.p) O5 V5
      have l3' := xli (sa := sa) (sv := sv) (d := d + 1) O6 V6 hC i 3 (by omega) (by omega)
      rw [w3] at l3'
      obtain ⟨m7, g1, g2, g3⟩ := x95 (sa := sa) (sv := sv) (d := d) f3 (cN s (767 + 4 * i + 3)) (by omega) (by simp only [List.length_append, List.length_singleton]; omega)
      have g1' : am_ca sa sv (d + 2) 95 [.ref (N + 23), .long (nI (cN s (767 + 4 * i + 3))).toInt64] m6 = some (.inl none, m7) := by
        rw [nI_l (by omega)]; exact g1
      obtain ⟨O7, V7⟩ := no g2 O6 V6
      obtain ⟨m8, j1, j2, j3⟩ := x93 (sa := sa) (sv := sv) (d := d + 1) g3 10 (by omega) (by simp only [List.length_append, List.length_singleton]; omega)
      obtain ⟨O8, V8⟩ := no (j2.mono fun a k z => z.p) O7 V7
      have hL8 : RpC m8 N (rlB s q (i + 1)) := by
        unfold rlB rlR
        rw [if_neg z]
        simpa only [List.append_assoc] using j3
      obtain ⟨m9, i1, i2, i3⟩ := ih (i + 1) m8 (by omega) hL8 O8 V8
      refine ⟨m9, ?_, ((((((((a2.mono fun a k z => z.p).trans (b2.mono fun a k z => z.p)).trans (c2.mono fun a k z => z.p)).trans (d2.mono fun a k z => z.p)).trans e2).trans (f2.mono fun a k z => z.p)).trans g2).trans (j2.mono fun a k z => z.p)).trans i2, i3⟩
      rw [b92_12]
      simp (disch := omega) only [gq_true, gb_true, gb_false, true_and, and_true, eq_self, not_false_eq_true, not_true_eq_false, true_or, or_true, false_or, or_false, false_and, and_false, c0_v, ci_v, cl_v, cf_v, pk_mul, nI_add, nI_clamp, nI_lt0, nI_0le, nI_eq0, nI_lt0r, nI_ltE, nI_leE, nI_eqE, nI_m1, in_t, ba0, ba1, Nat.one_ne_zero, Nat.reduceEqDiff, Nat.reduceLeDiff, Nat.add_eq_zero_iff, ok17 hO, (ov_nl hV).trans e6, eq_false (show ¬ cN s 6 ≤ i by omega), ok0 hO, or0_1 hO, z1, l0, ok1 hO, q13, xk23 h.1, a1, xk23 a3.1, b1, ok0 O2, or0_1 O2, ok17 O2, l1, ok1 O2, q12, xk23 b3.1, c1, xk23 c3.1, d1, ok17 O4, l2, xk23 d3.1, e1', ok17 O5, l3, nI_le0, eq_false z, xk23 e3.1, f1, ok17 O6, l3', xk23 f3.1, g1', xk23 g3.1, j1]
      exact i1
theorem TC.rep (h : TC m N X) (hf : Fr (PRp N) m m') (hR : RpC m' N L) (hl : L.length ≤ 3000) : TC m' N (repX X L) := by
  have hi : ∀ a k, ¬ PRp N a k → gi_ m' a k = gi_ m a k := fun a k z => hf.2.1 a k z
  obtain ⟨f, hF⟩ := h.f
  have hF' : TF m' N f (repX X L) := TF.fr (X := X) hF h.u5 hf (fun a k z => by unfold PRp at z; exact ⟨by omega, by omega, Or.inl (by omega)⟩)
  exact ⟨h.x.frg hf (fun a k z => z.x), h.q.fr hf (fun k z => by unfold PRp at z; omega), h.b.fr hf (fun k z => by unfold PRp at z; omega), (hi _ _ (by unfold PRp; omega)).trans h.n, (hi _ _ (by unfold PRp; omega)).trans h.u, h.u5, (hi _ _ (by unfold PRp; omega)).trans h.v, h.v1, (hi _ _ (by unfold PRp; omega)).trans h.e1, (hi _ _ (by unfold PRp; omega)).trans h.e2, (hi _ _ (by unfold PRp; omega)).trans h.e3, hR.2.1, hl, hR.2.2, fun j hj => (h.o j hj).fr' hf (fun a k z1 z2 z => by
    have := oa_lo N j
    unfold PRp at z
    omega), ⟨f, hF'⟩⟩
theorem PRp.k {a k : Nat} (h : PRp N a k) : KC N a k := ⟨by unfold PRp at h; omega, h.x⟩
theorem x205 (h : TC m N X) (hG : XG B X) : CI m N (repX X (rpB X.s X.q (cN X.s 0))) none (nI (rpB X.s X.q (cN X.s 0)).length) (am_ca sa sv (d + 4) 205 [.ref N] m) := by
  obtain ⟨f, hF⟩ := h.f
  have g7 := hF.1.lt (i := 7) (by omega)
  have hO := h.o _ g7
  have hV : OV m (oa N (f 7)) X.s X.q := hF.2.2.2.2.1
  have hX := h.x
  have f0 : Fr (PRp N) m (si_ m (N + 23) 2 (nI 0)) := (Fr.refl _ _).si (Or.inl ⟨rfl, rfl⟩)
  have no : ∀ a k, oa N (f 7) ≤ a → a < oa N (f 7) + 27 → ¬ PRp N a k := fun a k z1 z2 z => by
    have := oa_lo N (f 7)
    unfold PRp at z
    omega
  obtain ⟨m1, a1, a2, a3⟩ := x91_7 (sa := sa) (sv := sv) (d := d) (oa_lo N (f 7)) hG.1.C hG.1.1.2.2.2.1 hG.1.1.2.2.2.2.2.2.2 hG.1.2 (cN X.s 0) 0 (si_ m (N + 23) 2 (nI 0)) (by omega) ⟨hX.frg f0 (fun a k z => z.x), if_pos ⟨rfl, rfl⟩, fun k hk => absurd hk (Nat.not_lt_zero _)⟩ (hO.fr' f0 no) (hV.fr f0 no)
  have hf := f0.trans a2
  have n10 := isN_lt (wc_np hG.1.C) (by decide)
  have len := rpB_len X.s X.q (cN X.s 0)
  refine ⟨m1, hf.mono fun a k z => z.k, h.rep hf a3 (by omega), ?_⟩
  have c1 : am_ca sa sv (d + 3) 91 [.ref (N + 23), .ref (oa N (f 7))] m = some (.inl none, m1) := by
    rw [c91, b91_0]
    simp (disch := omega) only [gq_true, gb_true, gb_false, true_and, and_true, eq_self, not_false_eq_true, not_true_eq_false, true_or, or_true, false_or, or_false, false_and, and_false, c0_v, ci_v, cl_v, cf_v, pk_mul, nI_add, nI_clamp, nI_lt0, nI_0le, nI_eq0, nI_lt0r, nI_ltE, nI_leE, nI_eqE, nI_m1, in_t, ba0, ba1, Nat.one_ne_zero, Nat.reduceEqDiff, Nat.reduceLeDiff, Nat.add_eq_zero_iff, xk23 hX]
    exact a1
  rw [c205, b205_0]
  simp (disch := omega) only [gq_true, gb_true, gb_false, true_and, and_true, eq_self, not_false_eq_true, not_true_eq_false, true_or, or_true, false_or, or_false, false_and, and_false, c0_v, ci_v, cl_v, cf_v, pk_mul, nI_add, nI_clamp, nI_lt0, nI_0le, nI_eq0, nI_lt0r, nI_ltE, nI_leE, nI_eqE, nI_m1, in_t, ba0, ba1, Nat.one_ne_zero, Nat.reduceEqDiff, Nat.reduceLeDiff, Nat.add_eq_zero_iff, xk0 hX, xr0_7 hX, hF.2.1, oa_z, xk23 hX, eq_false (show ¬ N + 23 = 0 by omega), c1, xk0 a3.1, xr0_7 a3.1, xk23 a3.1, a3.2.1]
theorem x206 (h : TC m N X) (hG : XG B X) : CI m N (repX X (rlB X.s X.q (cN X.s 6))) none (nI (rlB X.s X.q (cN X.s 6)).length) (am_ca sa sv (d + 4) 206 [.ref N] m) := by
  obtain ⟨f, hF⟩ := h.f
  have g7 := hF.1.lt (i := 7) (by omega)
  have hO := h.o _ g7
  have hV : OV m (oa N (f 7)) X.s X.q := hF.2.2.2.2.1
  have hX := h.x
  have hL : WL X.s := hG.1.1.2.2.2.2.1
  have f0 : Fr (PRp N) m (si_ m (N + 23) 2 (nI 0)) := (Fr.refl _ _).si (Or.inl ⟨rfl, rfl⟩)
  have no : ∀ a k, oa N (f 7) ≤ a → a < oa N (f 7) + 27 → ¬ PRp N a k := fun a k z1 z2 z => by
    have := oa_lo N (f 7)
    unfold PRp at z
    omega
  obtain ⟨m1, a1, a2, a3⟩ := x92_12 (sa := sa) (sv := sv) (d := d) (oa_lo N (f 7)) hG.1.C hL hG.1.1.2.2.2.2.2.2.2 (cN X.s 6) 0 (si_ m (N + 23) 2 (nI 0)) (by omega) ⟨hX.frg f0 (fun a k z => z.x), if_pos ⟨rfl, rfl⟩, fun k hk => absurd hk (Nat.not_lt_zero _)⟩ (hO.fr' f0 no) (hV.fr f0 no)
  have hf := f0.trans a2
  have n64 := isN_lt (wc_nl hG.1.C) (by decide)
  have len := rlB_len X.q hL (cN X.s 6) (Nat.le_refl _)
  refine ⟨m1, hf.mono fun a k z => z.k, h.rep hf a3 (by omega), ?_⟩
  have c1 : am_ca sa sv (d + 3) 92 [.ref (N + 23), .ref (oa N (f 7))] m = some (.inl none, m1) := by
    rw [c92, b92_0]
    simp (disch := omega) only [gq_true, gb_true, gb_false, true_and, and_true, eq_self, not_false_eq_true, not_true_eq_false, true_or, or_true, false_or, or_false, false_and, and_false, c0_v, ci_v, cl_v, cf_v, pk_mul, nI_add, nI_clamp, nI_lt0, nI_0le, nI_eq0, nI_lt0r, nI_ltE, nI_leE, nI_eqE, nI_m1, in_t, ba0, ba1, Nat.one_ne_zero, Nat.reduceEqDiff, Nat.reduceLeDiff, Nat.add_eq_zero_iff, xk23 hX, ok0 hO, or0_4 hO, eq_false (show ¬ oa N (f 7) + 17 = 0 by omega)]
    exact a1
  rw [c206, b206_0]
  simp (disch := omega) only [gq_true, gb_true, gb_false, true_and, and_true, eq_self, not_false_eq_true, not_true_eq_false, true_or, or_true, false_or, or_false, false_and, and_false, c0_v, ci_v, cl_v, cf_v, pk_mul, nI_add, nI_clamp, nI_lt0, nI_0le, nI_eq0, nI_lt0r, nI_ltE, nI_leE, nI_eqE, nI_m1, in_t, ba0, ba1, Nat.one_ne_zero, Nat.reduceEqDiff, Nat.reduceLeDiff, Nat.add_eq_zero_iff, xk0 hX, xr0_7 hX, hF.2.1, oa_z, xk23 hX, eq_false (show ¬ N + 23 = 0 by omega), c1, xk0 a3.1, xr0_7 a3.1, xk23 a3.1, a3.2.1]
theorem x207 (h : TC m N X) (l : Int32) : CI m N X (if inR l X.r = true then none else some 2) (nI (X.rb l.toNatClampNeg)) (am_ca sa sv (d + 2) 207 [.ref N, .int l] m) := by
  have hX := h.x
  have r3 := h.r3
  refine ⟨m, Fr.refl _ _, h, ?_⟩
  by_cases z : inR l X.r = true
  · rw [if_pos z]
    obtain ⟨k, hk, rfl⟩ := (inR_t (by omega)).mp z
    have q90 : am_ca sa sv (d + 1) 90 [.ref (N + 23), .int (nI k)] m = some (.inl (some (.int (nI (X.rb k)))), m) := by
      rw [c90, b90_0]
      simp (disch := omega) only [gq_true, gb_true, gb_false, true_and, and_true, eq_self, not_false_eq_true, not_true_eq_false, true_or, or_true, false_or, or_false, false_and, and_false, c0_v, ci_v, cl_v, cf_v, pk_mul, nI_add, nI_clamp, nI_lt0, nI_0le, nI_eq0, nI_lt0r, nI_ltE, nI_leE, nI_eqE, nI_m1, in_t, ba0, ba1, Nat.one_ne_zero, Nat.reduceEqDiff, Nat.reduceLeDiff, Nat.add_eq_zero_iff, xk23 hX, xr23_0 hX, xk24 hX, eq_false (show ¬ N + 24 = 0 by omega), eq_false (show ¬ 3840 ≤ k by omega), h.rb k hk]
    rw [nI_clamp (by omega), c207, b207_0]
    simp (disch := omega) only [gq_true, gb_true, gb_false, true_and, and_true, eq_self, not_false_eq_true, not_true_eq_false, true_or, or_true, false_or, or_false, false_and, and_false, c0_v, ci_v, cl_v, cf_v, pk_mul, nI_add, nI_clamp, nI_lt0, nI_0le, nI_eq0, nI_lt0r, nI_ltE, nI_leE, nI_eqE, nI_m1, in_t, ba0, ba1, Nat.one_ne_zero, Nat.reduceEqDiff, Nat.reduceLeDiff, Nat.add_eq_zero_iff, xk0 hX, xr0_7 hX, xk23 hX, eq_false (show ¬ N + 23 = 0 by omega), h.r, x214s k X.r (by omega) hk, q90]
  · rw [if_neg z, c207, b207_0]
    simp (disch := omega) only [gq_true, gb_true, gb_false, true_and, and_true, eq_self, not_false_eq_true, not_true_eq_false, true_or, or_true, false_or, or_false, false_and, and_false, c0_v, ci_v, cl_v, cf_v, pk_mul, nI_add, nI_clamp, nI_lt0, nI_0le, nI_eq0, nI_lt0r, nI_ltE, nI_leE, nI_eqE, nI_m1, in_t, ba0, ba1, Nat.one_ne_zero, Nat.reduceEqDiff, Nat.reduceLeDiff, Nat.add_eq_zero_iff, xk0 hX, xr0_7 hX, xk23 hX, eq_false (show ¬ N + 23 = 0 by omega), h.r, x214f l X.r (by omega) (Bool.eq_false_iff.mpr z), c0_x, xg_v]
end I89
