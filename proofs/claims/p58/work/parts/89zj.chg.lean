/-! pass, revert, setLeast, close: the class -/
section I89
variable {sa sv d N o n B : Nat} {X : TX} {m m' : am_M} {f : Nat → Nat} {s s' : Nat → Int32} {q q' : Nat → Int64}
def pasE (s : Nat → Int32) (x : Int32) : Option Nat := bif cps_ s x then none else some 1
def pasX (X : TX) (x : Int32) : TX := bif cps_ X.s x then X.rem.wS (up1 X.s 4 (X.s 4 + x)) X.q else X
def revE (s : Nat → Int32) (a x : Int32) : Option Nat := E3 (inR a (cN s 2)) (crv_ s a.toNatClampNeg x)
def revX (X : TX) (a x : Int32) : TX := bif inR a (cN X.s 2) && crv_ X.s a.toNatClampNeg x then X.rem.wS (up1 X.s (594 + 6 * a.toNatClampNeg + 5) x) X.q else X
def leaE (s : Nat → Int32) (p x : Int32) : Option Nat := E3 (inR p (cN s 0)) (inR x 100000)
def leaX (X : TX) (p x : Int32) : TX := bif inR p (cN X.s 0) && inR x 100000 then X.rem.wS (up1 X.s (8 + p.toNatClampNeg) x) X.q else X
def cloX (X : TX) : TX := X.rem.wS (cS_ X.s) (cQ_ X.s X.q)
theorem TF.ov (h : TF m N f X) : OV m (oa N (f 7)) X.s X.q := h.2.2.2.2.1
theorem cell_off {j : Nat} {k0 : Nat} {v : Int32} (h : TC m N X) (hF : TF m N f X) (hj : j < 27) (hO : OS (si_ m (oa N (f 7) + j) k0 v) (oa N (f 7))) (hV : OV (si_ m (oa N (f 7) + j) k0 v) (oa N (f 7)) s' q') : TC (si_ m (oa N (f 7) + j) k0 v) N (X.wS s' q') ∧ TF (si_ m (oa N (f 7) + j) k0 v) N f (X.wS s' q') ∧ Fr (KC N) m (si_ m (oa N (f 7) + j) k0 v) := by
  have g7 := hF.1.lt (i := 7) (by omega)
  have hf : Fr (fun a _ => OA (oa N (f 7)) a) m (si_ m (oa N (f 7) + j) k0 v) := (Fr.refl _ _).si (by unfold OA; omega)
  obtain ⟨t1, t2⟩ := TC.off h hF hf (fun a k z => ⟨(OA.c z g7 : KC N a k).2, Or.inl z⟩) hO hV
  exact ⟨t1, t2, hf.mono fun a k z => OA.c z g7⟩
theorem x201 (h : TC m N X) (hG : XG B X) (x : Int32) : CI m N (pasX X x) (pasE X.s x) (X.s 4 + x) (am_ca sa sv (d + 5) 201 [.ref N, .int x] m) := by
  obtain ⟨f, hF⟩ := h.f
  have hX := h.x
  have hC := hG.1.C
  have g7 := hF.1.lt (i := 7) (by omega)
  have hO := h.o _ g7
  have hV := TF.ov hF
  have q85 := x85 (sa := sa) (sv := sv) (d := d + 2) hO hV hC x
  have r0 : gr_ m N 13 = oa N (f 7) := hF.2.1
  unfold pasX pasE
  cases hb : cps_ X.s x with
  | false =>
    rw [hb, tr_f] at q85
    refine ⟨m, Fr.refl _ _, h, ?_⟩
    rw [c201, b201_0]
    simp (disch := omega) only [gq_true, gb_true, gb_false, true_and, and_true, eq_self, not_false_eq_true, not_true_eq_false, true_or, or_true, false_or, or_false, false_and, and_false, c0_v, ci_v, cl_v, cf_v, pk_mul, nI_add, nI_clamp, nI_lt0, nI_0le, nI_eq0, nI_lt0r, nI_ltE, nI_leE, nI_eqE, nI_m1, in_t, ba0, ba1, Nat.one_ne_zero, Nat.reduceEqDiff, Nat.reduceLeDiff, Nat.add_eq_zero_iff, xk0 hX, r0, oa_z, ok0 hO, q85, x215_0, c0_x, xg_v, cond_false]
  | true =>
    rw [hb, tr_t] at q85
    obtain ⟨m5, g, a1, a2, a3, a4, a5⟩ := x211o (sa := sa) (sv := sv) (d := d) h hF hG
    have g7' := a4.1.lt (i := 7) (by omega)
    have hO5 := a3.o _ g7'
    have hV5 : OV m5 (oa N (g 7)) X.s X.q := a4.2.2.2.2.1
    have r5 : gr_ m5 N 13 = oa N (g 7) := a4.2.1
    have d5 : gi_ m5 (oa N (g 7)) 0 = X.s 4 := ov_day hV5
    have hO6 : OS (si_ m5 (oa N (g 7)) 0 (X.s 4 + x)) (oa N (g 7)) := OS.frd hO5 (P := fun a k => a = oa N (g 7) ∧ k = 0) ((Fr.refl _ _).si ⟨rfl, rfl⟩) (fun a k z => by omega)
    obtain ⟨t1, t2, t3⟩ := cell_off (j := 0) (k0 := 0) (v := X.s 4 + x) a3 a4 (by omega) hO6 (OV.day hV5 _)
    refine ⟨_, a2.trans t3, t1, ?_⟩
    have r6 : gi_ (si_ m5 (oa N (g 7)) 0 (X.s 4 + x)) (oa N (g 7)) 0 = X.s 4 + x := if_pos ⟨rfl, rfl⟩
    rw [c201, b201_0]
    simp (disch := omega) only [gq_true, gb_true, gb_false, true_and, and_true, eq_self, not_false_eq_true, not_true_eq_false, true_or, or_true, false_or, or_false, false_and, and_false, c0_v, ci_v, cl_v, cf_v, pk_mul, nI_add, nI_clamp, nI_lt0, nI_0le, nI_eq0, nI_lt0r, nI_ltE, nI_leE, nI_eqE, nI_m1, in_t, ba0, ba1, Nat.one_ne_zero, Nat.reduceEqDiff, Nat.reduceLeDiff, Nat.add_eq_zero_iff, xk0 hX, r0, oa_z, ok0 hO, q85, x215_1, cond_true]
    rw [a1, c0_v]
    simp (disch := omega) only [gq_true, gb_true, gb_false, true_and, and_true, eq_self, not_false_eq_true, not_true_eq_false, true_or, or_true, false_or, or_false, false_and, and_false, c0_v, ci_v, cl_v, cf_v, pk_mul, nI_add, nI_clamp, nI_lt0, nI_0le, nI_eq0, nI_lt0r, nI_ltE, nI_leE, nI_eqE, nI_m1, in_t, ba0, ba1, Nat.one_ne_zero, Nat.reduceEqDiff, Nat.reduceLeDiff, Nat.add_eq_zero_iff, xk0 a3.x, r5, oa_z, ok0 hO5, d5, r6]
    rfl
theorem x202 (h : TC m N X) (hG : XG B X) (a x : Int32) : CI m N (revX X a x) (revE X.s a x) (X.s (594 + 6 * a.toNatClampNeg + 5)) (am_ca sa sv (d + 5) 202 [.ref N, .int a, .int x] m) := by
  obtain ⟨f, hF⟩ := h.f
  have hX := h.x
  have hC := hG.1.C
  have g7 := hF.1.lt (i := 7) (by omega)
  have hO := h.o _ g7
  have hV := TF.ov hF
  obtain ⟨e2, b2⟩ := (wc_na hC).c (by decide)
  have n2 : gi_ m (oa N (f 7) + 13) 2 = nI (cN X.s 2) := (ov_na hV).trans e2
  have r0 : gr_ m N 13 = oa N (f 7) := hF.2.1
  have z13 : (oa N (f 7) + 13 = 0) = False := eq_false (by omega)
  unfold revX revE E3
  cases h1 : inR a (cN X.s 2) with
  | false =>
    refine ⟨m, Fr.refl _ _, h, ?_⟩
    rw [c202, b202_0]
    simp (disch := omega) only [gq_true, gb_true, gb_false, true_and, and_true, eq_self, not_false_eq_true, not_true_eq_false, true_or, or_true, false_or, or_false, false_and, and_false, c0_v, ci_v, cl_v, cf_v, pk_mul, nI_add, nI_clamp, nI_lt0, nI_0le, nI_eq0, nI_lt0r, nI_ltE, nI_leE, nI_eqE, nI_m1, in_t, ba0, ba1, Nat.one_ne_zero, Nat.reduceEqDiff, Nat.reduceLeDiff, Nat.add_eq_zero_iff, xk0 hX, r0, oa_z, ok0 hO, or0_2 hO, ok13 hO, n2, z13, x214f a (cN X.s 2) (by omega) h1, c0_x, xg_v, cond_false]
  | true =>
    obtain ⟨a, ha, rfl⟩ := (inR_t (by omega)).mp h1
    have q86 := x86 (sa := sa) (sv := sv) (d := d + 2) hO hV a (by omega) x
    rw [nI_clamp (by omega)]
    cases h2 : crv_ X.s a x with
    | false =>
      rw [h2, tr_f] at q86
      refine ⟨m, Fr.refl _ _, h, ?_⟩
      rw [c202, b202_0]
      simp (disch := omega) only [gq_true, gb_true, gb_false, true_and, and_true, eq_self, not_false_eq_true, not_true_eq_false, true_or, or_true, false_or, or_false, false_and, and_false, c0_v, ci_v, cl_v, cf_v, pk_mul, nI_add, nI_clamp, nI_lt0, nI_0le, nI_eq0, nI_lt0r, nI_ltE, nI_leE, nI_eqE, nI_m1, in_t, ba0, ba1, Nat.one_ne_zero, Nat.reduceEqDiff, Nat.reduceLeDiff, Nat.add_eq_zero_iff, xk0 hX, r0, oa_z, ok0 hO, or0_2 hO, ok13 hO, n2, z13, x214s a (cN X.s 2) (by omega) ha, q86, x215_0, c0_x, xg_v, cond_false, cond_true]
    | true =>
      rw [h2, tr_t] at q86
      obtain ⟨m5, g, a1, a2, a3, a4, a5⟩ := x211o (sa := sa) (sv := sv) (d := d) h hF hG
      have g7' := a4.1.lt (i := 7) (by omega)
      have hO5 := a3.o _ g7'
      have hV5 : OV m5 (oa N (g 7)) X.s X.q := a4.2.2.2.2.1
      have r5 : gr_ m5 N 13 = oa N (g 7) := a4.2.1
      have z13' : (oa N (g 7) + 13 = 0) = False := eq_false (by omega)
      have hO6 : OS (si_ m5 (oa N (g 7) + 14) (a * 6 + 5) x) (oa N (g 7)) := OS.frd hO5 (P := fun b k => b = oa N (g 7) + 14) ((Fr.refl _ _).si rfl) (fun b k z => by omega)
      obtain ⟨t1, t2, t3⟩ := cell_off (j := 14) (k0 := a * 6 + 5) (v := x) a3 a4 (by omega) hO6 (OV.rev hV5 a x (by omega))
      refine ⟨_, a2.trans t3, t1, ?_⟩
      have q127 := xas (sa := sa) (sv := sv) (d := d + 3) hO5 hV5 a 5 (by omega) (by omega)
      have q128 := x128 (sa := sa) (sv := sv) (d := d + 3) (ot13 hO5) (by decide) a 5 x (by omega)
      have q128' : am_ca sa sv (d + 4) 128 [.ref (oa N (g 7) + 13), .int (nI a), .int (nI 5), .int x] m5 = some (.inl none, si_ m5 (oa N (g 7) + 14) (a * 6 + 5) x) := q128
      rw [c202, b202_0]
      simp (disch := omega) only [gq_true, gb_true, gb_false, true_and, and_true, eq_self, not_false_eq_true, not_true_eq_false, true_or, or_true, false_or, or_false, false_and, and_false, c0_v, ci_v, cl_v, cf_v, pk_mul, nI_add, nI_clamp, nI_lt0, nI_0le, nI_eq0, nI_lt0r, nI_ltE, nI_leE, nI_eqE, nI_m1, in_t, ba0, ba1, Nat.one_ne_zero, Nat.reduceEqDiff, Nat.reduceLeDiff, Nat.add_eq_zero_iff, xk0 hX, r0, oa_z, ok0 hO, or0_2 hO, ok13 hO, n2, z13, x214s a (cN X.s 2) (by omega) ha, q86, x215_1, cond_true]
      rw [a1, c0_v]
      simp (disch := omega) only [gq_true, gb_true, gb_false, true_and, and_true, eq_self, not_false_eq_true, not_true_eq_false, true_or, or_true, false_or, or_false, false_and, and_false, c0_v, ci_v, cl_v, cf_v, pk_mul, nI_add, nI_clamp, nI_lt0, nI_0le, nI_eq0, nI_lt0r, nI_ltE, nI_leE, nI_eqE, nI_m1, in_t, ba0, ba1, Nat.one_ne_zero, Nat.reduceEqDiff, Nat.reduceLeDiff, Nat.add_eq_zero_iff, xk0 a3.x, r5, oa_z, ok0 hO5, or0_2 hO5, ok13 hO5, z13', q127, q128']
theorem x15 (hO : OS m o) (hV : OV m o s q) (hC : WC s) (p : Nat) (hp : p < cN s 0) (x : Int32) : am_ca sa sv (d + 2) 15 [.ref (o + 1), .int (nI p), .int x] m = some (.inl none, si_ m (o + 3) p x) := by
  obtain ⟨e0, b0⟩ := (wc_np hC).c (by decide)
  rw [c15, b15_0, x3 hO hV hC p (by omega), if_pos hp]
  simp (disch := omega) only [gq_true, gb_true, gb_false, true_and, and_true, eq_self, not_false_eq_true, not_true_eq_false, true_or, or_true, false_or, or_false, false_and, and_false, c0_v, ci_v, cl_v, cf_v, pk_mul, nI_add, nI_clamp, nI_lt0, nI_0le, nI_eq0, nI_lt0r, nI_ltE, nI_leE, nI_eqE, nI_m1, in_t, ba0, ba1, Nat.one_ne_zero, Nat.reduceEqDiff, Nat.reduceLeDiff, Nat.add_eq_zero_iff, ok1 hO, ok3 hO, or1_3 hO, eq_false (show ¬ o + 3 = 0 by omega)]
theorem x203 (h : TC m N X) (hG : XG B X) (hN : 0 < N) (hB : B < 2 ^ 30) (p x : Int32) : CI m N (leaX X p x) (leaE X.s p x) (X.s (8 + p.toNatClampNeg)) (am_ca sa sv (d + 5) 203 [.ref N, .int p, .int x] m) := by
  obtain ⟨f, hF⟩ := h.f
  have h' := h.cq hF hG hN hB
  have hX := h.x
  have hC := hG.1.C
  obtain ⟨e0, b0⟩ := (wc_np hC).c (by decide)
  unfold leaX leaE E3
  cases h1 : inR p (cN X.s 0) with
  | false =>
    refine ⟨m, Fr.refl _ _, h, ?_⟩
    rw [c203, b203_0]
    simp (disch := omega) only [gq_true, gb_true, gb_false, true_and, and_true, eq_self, not_false_eq_true, not_true_eq_false, true_or, or_true, false_or, or_false, false_and, and_false, c0_v, ci_v, cl_v, cf_v, pk_mul, nI_add, nI_clamp, nI_lt0, nI_0le, nI_eq0, nI_lt0r, nI_ltE, nI_leE, nI_eqE, nI_m1, in_t, ba0, ba1, Nat.one_ne_zero, Nat.reduceEqDiff, Nat.reduceLeDiff, Nat.add_eq_zero_iff, xk0 hX, x212f h' _ h1, c0_x, xg_v, cond_false]
  | true =>
    obtain ⟨p, hp, rfl⟩ := (inR_t (by omega)).mp h1
    rw [nI_clamp (by omega)]
    have q218 := x218 (sa := sa) (sv := sv) (d := d + 3) (m := m) x
    cases h2 : inR x 100000 with
    | false =>
      rw [h2, tr_f] at q218
      refine ⟨m, Fr.refl _ _, h, ?_⟩
      rw [c203, b203_0]
      simp (disch := omega) only [gq_true, gb_true, gb_false, true_and, and_true, eq_self, not_false_eq_true, not_true_eq_false, true_or, or_true, false_or, or_false, false_and, and_false, c0_v, ci_v, cl_v, cf_v, pk_mul, nI_add, nI_clamp, nI_lt0, nI_0le, nI_eq0, nI_lt0r, nI_ltE, nI_leE, nI_eqE, nI_m1, in_t, ba0, ba1, Nat.one_ne_zero, Nat.reduceEqDiff, Nat.reduceLeDiff, Nat.add_eq_zero_iff, xk0 hX, x212s h' p hp b0, q218, x215_0, c0_x, xg_v, cond_false, cond_true]
    | true =>
      rw [h2, tr_t] at q218
      obtain ⟨m5, g, a1, a2, a3, a4, a5⟩ := x211o (sa := sa) (sv := sv) (d := d) h hF hG
      have g7' := a4.1.lt (i := 7) (by omega)
      have hO5 := a3.o _ g7'
      have hV5 : OV m5 (oa N (g 7)) X.s X.q := a4.2.2.2.2.1
      have r5 : gr_ m5 N 13 = oa N (g 7) := a4.2.1
      have z1 : (oa N (g 7) + 1 = 0) = False := eq_false (by omega)
      have hO6 : OS (si_ m5 (oa N (g 7) + 3) p x) (oa N (g 7)) := OS.frd hO5 (P := fun b k => b = oa N (g 7) + 3) ((Fr.refl _ _).si rfl) (fun b k z => by omega)
      obtain ⟨t1, t2, t3⟩ := cell_off (j := 3) (k0 := p) (v := x) a3 a4 (by omega) hO6 (OV.lea hV5 p x (by omega))
      refine ⟨_, a2.trans t3, t1, ?_⟩
      have q14 := x14 (sa := sa) (sv := sv) (d := d + 2) hO5 hV5 hC p (by omega)
      rw [if_pos hp] at q14
      have q15 := x15 (sa := sa) (sv := sv) (d := d + 2) hO5 hV5 hC p hp x
      rw [c203, b203_0]
      simp (disch := omega) only [gq_true, gb_true, gb_false, true_and, and_true, eq_self, not_false_eq_true, not_true_eq_false, true_or, or_true, false_or, or_false, false_and, and_false, c0_v, ci_v, cl_v, cf_v, pk_mul, nI_add, nI_clamp, nI_lt0, nI_0le, nI_eq0, nI_lt0r, nI_ltE, nI_leE, nI_eqE, nI_m1, in_t, ba0, ba1, Nat.one_ne_zero, Nat.reduceEqDiff, Nat.reduceLeDiff, Nat.add_eq_zero_iff, xk0 hX, x212s h' p hp b0, q218, x215_1, cond_true]
      rw [a1, c0_v]
      simp (disch := omega) only [gq_true, gb_true, gb_false, true_and, and_true, eq_self, not_false_eq_true, not_true_eq_false, true_or, or_true, false_or, or_false, false_and, and_false, c0_v, ci_v, cl_v, cf_v, pk_mul, nI_add, nI_clamp, nI_lt0, nI_0le, nI_eq0, nI_lt0r, nI_ltE, nI_leE, nI_eqE, nI_m1, in_t, ba0, ba1, Nat.one_ne_zero, Nat.reduceEqDiff, Nat.reduceLeDiff, Nat.add_eq_zero_iff, xk0 a3.x, r5, oa_z, ok0 hO5, or0_1 hO5, ok1 hO5, z1, q14, q15]
theorem x204 (h : TC m N X) (hG : XG B X) (hB : B < 2 ^ 29) : CJ m N (cloX X) none (spd_ X.s X.q 10) (am_ca sa sv (d + 5) 204 [.ref N] m) := by
  obtain ⟨f, hF⟩ := h.f
  have hX := h.x
  obtain ⟨m5, g, a1, a2, a3, a4, a5⟩ := x211o (sa := sa) (sv := sv) (d := d) h hF hG
  have g7' := a4.1.lt (i := 7) (by omega)
  have hO5 := a3.o _ g7'
  have hV5 : OV m5 (oa N (g 7)) X.s X.q := a4.2.2.2.2.1
  have r5 : gr_ m5 N 13 = oa N (g 7) := a4.2.1
  obtain ⟨m6, b1, b2, b3, b4⟩ := x87 (sa := sa) (sv := sv) (d := d) hO5 hV5 hG.1.1 hB
  obtain ⟨t1, t2⟩ := TC.off a3 a4 b2 (fun a k z => ⟨(OA.c z g7' : KC N a k).2, Or.inl z⟩) b3 b4
  refine ⟨m6, a2.trans (b2.mono fun a k z => OA.c z g7'), t1, ?_⟩
  rw [c204, b204_0]
  simp (disch := omega) only [gq_true, gb_true, gb_false, true_and, and_true, eq_self, not_false_eq_true, not_true_eq_false, true_or, or_true, false_or, or_false, false_and, and_false, c0_v, ci_v, cl_v, cf_v, pk_mul, nI_add, nI_clamp, nI_lt0, nI_0le, nI_eq0, nI_lt0r, nI_ltE, nI_leE, nI_eqE, nI_m1, in_t, ba0, ba1, Nat.one_ne_zero, Nat.reduceEqDiff, Nat.reduceLeDiff, Nat.add_eq_zero_iff, xk0 hX]
  rw [a1, c0_v]
  simp (disch := omega) only [gq_true, gb_true, gb_false, true_and, and_true, eq_self, not_false_eq_true, not_true_eq_false, true_or, or_true, false_or, or_false, false_and, and_false, c0_v, ci_v, cl_v, cf_v, pk_mul, nI_add, nI_clamp, nI_lt0, nI_0le, nI_eq0, nI_lt0r, nI_ltE, nI_leE, nI_eqE, nI_m1, in_t, ba0, ba1, Nat.one_ne_zero, Nat.reduceEqDiff, Nat.reduceLeDiff, Nat.add_eq_zero_iff, xk0 a3.x, r5, oa_z, ok0 hO5]
  rw [b1, cl_v]
end I89
