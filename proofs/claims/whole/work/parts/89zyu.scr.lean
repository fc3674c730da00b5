/-! runScript: the class -/
section I89
variable {sa sv d N o n T B : Nat} {X : TX} {m m' : am_M} {f : Nat → Nat} {b : Nat → Nat} {s : Nat → Int32} {q : Nat → Int64}
theorem PCd.k {a k : Nat} (h : PCd N a k) : KC N a k := ⟨by have := h.x; omega, h.x.1⟩
/-- a script's reading leaves the rest -/
theorem TC.cmd (h : TC m N X) (hF : TF m N f X) (hf : Fr (PCd N) m m') {e1 e2 e3 : Int32} (h1 : gi_ m' (N + 2) 6 = e1) (h2 : gi_ m' (N + 2) 7 = e2) (h3 : gi_ m' (N + 2) 8 = e3) : TC m' N (X.wE e1 e2 e3) ∧ TF m' N f (X.wE e1 e2 e3) := by
  have hi : ∀ a k, ¬ PCd N a k → gi_ m' a k = gi_ m a k := fun a k z => hf.2.1 a k z
  have hF' : TF m' N f (X.wE e1 e2 e3) := TF.fr (X := X) hF h.u5 hf (fun a k z => by
    have := z.x
    exact ⟨by omega, by omega, Or.inl (by omega)⟩)
  refine ⟨TC.gen h hf (fun a k z => by
    have := z.x
    exact ⟨this.1, by omega, by omega, by omega, by omega⟩) (X.wE e1 e2 e3) rfl rfl rfl (h.b.fr hf (fun k z => by have := z.x; omega)) ((hi _ _ (fun z => by have := z.x; omega)).trans h.n) ((hi _ _ (fun z => by have := z.x; omega)).trans h.u) h.u5 h1 h2 h3 (fun j hj => (h.o j hj).fr' hf (fun a k z1 z2 z => by
    have := z.x
    have := oa_lo N j
    omega)) ⟨f, hF'⟩, hF'⟩
theorem x156 (h : TC m N X) (hG : XG B X) (hB : B + 40 < 2 ^ 29) : match sFx X.s X.q X.b X.n 0 0 [] 0 with
    | .inl e => ∃ m', am_ca sa sv (d + 12) 156 [.ref N] m = some (.inr 1, th_ m') ∧ Fr (KC N) m m' ∧ TC m' N ((X.wB X.b 0).wE (nI e.1) (nI e.2.1) (nI e.2.2))
    | .inr C => ∃ m' l p' g, C = flL 2 l ∧ RwL (RwI g X.s 2) 0 p' l ∧ am_ca sa sv (d + 12) 156 [.ref N] m = some (.inl (some (.int (nI (exL (exI 2) l (X.s, X.q, 0)).2.2.2))), m') ∧ Fr (KC N) m m' ∧ TC m' N ((X157 X).rem.wS (exL (exI 2) l (X.s, X.q, 0)).2.1 (exL (exI 2) l (X.s, X.q, 0)).2.2.1) ∧ EG B X.s (exL (exI 2) l (X.s, X.q, 0)).2 := by
  obtain ⟨f, hF⟩ := h.f
  have g7 := hF.1.lt (i := 7) (by omega)
  have l7 := oa_lo N (f 7)
  obtain ⟨m1, T, a1, a2, a3, a4, a5⟩ := x157 (sa := sa) (sv := sv) (d := d + 6) h hF
  have hO1 := a4.o _ g7
  have hV1 : OV m1 (oa N (f 7)) X.s X.q := a5.2.2.2.2.1
  have c := x103 (sa := sa) (sv := sv) (d := d) a3 hO1 hV1 l7 hG.1
  have k1 : gk_ m1 = gk_ m := a2.1.1
  have r1 : gr_ m1 N 13 = oa N (f 7) := a5.2.1
  have z13 : (N + 13 = 0) = False := eq_false (by omega)
  have z10 : (N + 10 = 0) = False := eq_false (by omega)
  have z11 : (N + 11 = 0) = False := eq_false (by omega)
  have z14 : (N + 14 = 0) = False := eq_false (by omega)
  have zo1 : (oa N (f 7) + 1 = 0) = False := eq_false (by omega)
  cases z : sFx X.s X.q X.b X.n 0 0 [] 0 with
  | inl e =>
    rw [z] at c
    obtain ⟨m2, c1, c2, c3, c4, c5⟩ := c
    refine ⟨m2, ?_, (a2.mono fun a k z => z.k).trans (c2.mono fun a k z => z.k), (TC.cmd a4 a5 c2 c3 c4 c5).1⟩
    rw [c156, b156_0]
    simp (disch := omega) only [gq_true, gb_true, gb_false, true_and, and_true, eq_self, not_false_eq_true, not_true_eq_false, true_or, or_true, false_or, or_false, false_and, and_false, c0_v, ci_v, cl_v, cf_v, pk_mul, nI_add, nI_clamp, nI_lt0, nI_0le, nI_eq0, nI_lt0r, nI_ltE, nI_leE, nI_eqE, nI_m1, in_t, ba0, ba1, Nat.one_ne_zero, Nat.reduceEqDiff, Nat.reduceLeDiff, Nat.add_eq_zero_iff, xk0 h.x, a1, xk0 a4.x, xr0_4 a4.x, z13, r1, oa_z, ok0 hO1, or0_1 hO1, zo1, xk13 a4.x, c1, c0_x, xg_v]
  | inr C =>
    rw [z] at c
    obtain ⟨m2, j, W, l, c1, c2, c3, c4, c5, c6, c7⟩ := c
    obtain ⟨t1, t2⟩ := TC.cmd a4 a5 c2 c3.2.2.2.2.2.2.2.2.2.1 c3.2.2.2.2.2.2.2.2.2.2 c3.2.2.2.2.2.2.2.1
    obtain ⟨m3, g, d1, d2, d3, d4, d5, d6⟩ := x211 (sa := sa) (sv := sv) (d := d + 7) (B := B) t1 t2 hG
    have g7' := d4.1.lt (i := 7) (by omega)
    have hO3 := d3.o _ g7'
    have hV3 : OV m3 (oa N (g 7)) X.s X.q := d4.2.2.2.2.1
    have r3 : gr_ m3 N 13 = oa N (g 7) := d4.2.1
    have l7' := oa_lo N (g 7)
    have u7' := oa_hi N g7'
    have f4 : Fr (fun a k => a = N + 10 ∧ 1 ≤ k) m3 (si_ (sr_ (sr_ m3 (N + 10) 1 (oa N (g 7))) (N + 10) 2 (N + 14)) (N + 10) 3 (nI 0)) := (((Fr.refl _ _).sr ⟨rfl, by omega⟩).sr ⟨rfl, by omega⟩).si ⟨rfl, by omega⟩
    have hX4 := d3.x.frg f4 (fun a k z => XF.a10 z.1 z.2)
    have q98 : am_ca sa sv (d + 11) 98 [.ref (N + 10), .ref (oa N (g 7)), .ref (N + 14)] m3 = some (.inl none, si_ (sr_ (sr_ m3 (N + 10) 1 (oa N (g 7))) (N + 10) 2 (N + 14)) (N + 10) 3 (nI 0)) := by
      rw [c98, b98_0]
      simp (disch := omega) only [gq_true, gb_true, gb_false, true_and, and_true, eq_self, not_false_eq_true, not_true_eq_false, true_or, or_true, false_or, or_false, false_and, and_false, c0_v, ci_v, cl_v, cf_v, pk_mul, nI_add, nI_clamp, nI_lt0, nI_0le, nI_eq0, nI_lt0r, nI_ltE, nI_leE, nI_eqE, nI_m1, in_t, ba0, ba1, Nat.one_ne_zero, Nat.reduceEqDiff, Nat.reduceLeDiff, Nat.add_eq_zero_iff, xk10 d3.x, oa_z, z14]
    have no4 : ∀ a k, oa N (g 7) ≤ a → a < oa N (g 7) + 27 → ¬ (a = N + 10 ∧ 1 ≤ k) := fun a k z1 z2 z => by omega
    have P2 : ∀ a k, P211 N f a k → ¬ a = N + 11 ∧ ¬ a = N + 12 := fun a k z => by
      have := P211.x t2.1 z
      omega
    have g12 : gi_ (si_ (sr_ (sr_ m3 (N + 10) 1 (oa N (g 7))) (N + 10) 2 (N + 14)) (N + 10) 3 (nI 0)) (N + 12) = gi_ m2 (N + 12) := funext fun k => (f4.2.1 _ _ (by omega)).trans (d2.2.1 _ _ (fun z => (P2 _ _ z).2 rfl))
    have g11 : gi_ (si_ (sr_ (sr_ m3 (N + 10) 1 (oa N (g 7))) (N + 10) 2 (N + 14)) (N + 10) 3 (nI 0)) (N + 11) 2 = nI W := (f4.2.1 _ _ (by omega)).trans ((d2.2.1 _ _ (fun z => (P2 _ _ z).1 rfl)).trans c4)
    have hXX : XX (si_ (sr_ (sr_ m3 (N + 10) 1 (oa N (g 7))) (N + 10) 2 (N + 14)) (N + 10) 3 (nI 0)) N (oa N (g 7)) B X.s (gi_ m2 (N + 12)) (X.s, X.q, 0) := by
      refine ⟨⟨hX4, ?_, ?_, hO3.fr' f4 no4, l7', u7'⟩, hV3.fr f4 no4, ⟨hG.1, Nat.zero_le _, rfl, rfl⟩, if_pos ⟨rfl, rfl⟩, g12⟩
      · rw [gr_si, gr_sr, if_neg (by omega), gr_sr, if_pos ⟨rfl, rfl⟩]
      · rw [gr_si, gr_sr, if_pos ⟨rfl, rfl⟩]
    generalize hm4 : si_ (sr_ (sr_ m3 (N + 10) 1 (oa N (g 7))) (N + 10) 2 (N + 14)) (N + 10) 3 (nI 0) = m4 at *
    obtain ⟨m5, e1, e2, e3⟩ := RnL_of (RnI_k (sa := sa) (sv := sv) (d := d + 1) (N := N) (o := oa N (g 7)) (s := X.s) (g := gi_ m2 (N + 12)) hB 2 (Nat.le_refl _)) l 0 W m4 (X.s, X.q, 0) (nI 0) c6 c5 hXX
    have q99 : am_ca sa sv (d + 11) 99 [.ref (N + 10), .int (nI 0), .int (nI W), .int (nI 0)] m4 = some (.inl (some (.int (tr_ (exL (exI 2) l (X.s, X.q, 0)).1))), m5) := by
      rw [c99, b99_0]
      exact e1
    have f5 : Fr (fun a k => (a = N + 10 ∧ 1 ≤ k) ∨ PXr N (oa N (g 7)) a k) m3 m5 := (f4.mono fun a k z => Or.inl z).trans (e2.mono fun a k z => Or.inr z)
    have x5 : ∀ a k, ((a = N + 10 ∧ 1 ≤ k) ∨ PXr N (oa N (g 7)) a k) → XF N a k ∧ (OA (oa N (g 7)) a ∨ (a < N + 27 ∧ ¬ a = N ∧ ¬ a = N + 1 ∧ ¬ a = N + 2 ∧ ¬ a = N + 3 ∧ ¬ a = N + 23 ∧ ¬ a = N + 24 ∧ ¬ a = N + 26)) := fun a k z => by
      rcases z with z | z | z | z
      · exact ⟨XF.a10 z.1 z.2, Or.inr (by omega)⟩
      · exact ⟨(DX.xf z).1, Or.inr (DX.xf z).2⟩
      · exact ⟨(OA.c z g7' : KC N a k).2, Or.inl z⟩
      · exact ⟨XF.a10 z.1 (by omega), Or.inr (by omega)⟩
    obtain ⟨t5, -⟩ := TC.off d3 d4 f5 x5 e3.1.2.2.2.1 e3.2.1
    have kc5 : ∀ a k, ((a = N + 10 ∧ 1 ≤ k) ∨ PXr N (oa N (g 7)) a k) → KC N a k := fun a k z => by
      obtain ⟨w1, w2⟩ := x5 a k z
      refine ⟨?_, w1⟩
      rcases w2 with w2 | w2
      · unfold OA at w2
        omega
      · omega
    refine ⟨m5, l, W, gi_ m2 (N + 12), c7, c6, ?_, (((a2.mono fun a k z => z.k).trans (c2.mono fun a k z => z.k)).trans (d2.mono fun a k z => z.c t2.1)).trans (f5.mono kc5), t5, e3.2.2.1⟩
    have hX5 := e3.1.1
    have g3 : gi_ m5 (N + 10) 3 = nI (exL (exI 2) l (X.s, X.q, 0)).2.2.2 := e3.2.2.2.1
    rw [c156, b156_0]
    simp (disch := omega) only [gq_true, gb_true, gb_false, true_and, and_true, eq_self, not_false_eq_true, not_true_eq_false, true_or, or_true, false_or, or_false, false_and, and_false, c0_v, ci_v, cl_v, cf_v, pk_mul, nI_add, nI_clamp, nI_lt0, nI_0le, nI_eq0, nI_lt0r, nI_ltE, nI_leE, nI_eqE, nI_m1, in_t, ba0, ba1, Nat.one_ne_zero, Nat.reduceEqDiff, Nat.reduceLeDiff, Nat.add_eq_zero_iff, xk0 h.x, a1, xk0 a4.x, xr0_4 a4.x, z13, r1, oa_z, ok0 hO1, or0_1 hO1, zo1, xk13 a4.x, c1, xk0 t1.x, d1, xk0 d3.x, xr0_5 d3.x, z10, r3, xr0_6 d3.x, z14, xk10 d3.x, q98]
    have hXm4 := hXX.1.1
    simp (disch := omega) only [gq_true, gb_true, gb_false, true_and, and_true, eq_self, not_false_eq_true, not_true_eq_false, true_or, or_true, false_or, or_false, false_and, and_false, c0_v, ci_v, cl_v, cf_v, pk_mul, nI_add, nI_clamp, nI_lt0, nI_0le, nI_eq0, nI_lt0r, nI_ltE, nI_leE, nI_eqE, nI_m1, in_t, ba0, ba1, Nat.one_ne_zero, Nat.reduceEqDiff, Nat.reduceLeDiff, Nat.add_eq_zero_iff, xk0 hXm4, xr0_5 hXm4, z10, xk10 hXm4, xr10_0 hXm4, z11, xk11 hXm4, g11, q99, xk0 hX5, xr0_5 hX5, xk10 hX5, g3]
end I89
