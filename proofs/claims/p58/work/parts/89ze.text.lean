/-! a text is read, a text amends (class) -/
section I89
variable {sa sv d N n T B : Nat} {X X1 : TX} {m m' : am_M} {f : Nat → Nat} {P : Nat → Nat → Prop} {b : Nat → Nat} {s s0 : Nat → Int32} {q q0 : Nat → Int64}
def swp (f : Nat → Nat) (i : Nat) : Nat := if i = 6 then f 7 else if i = 7 then f 6 else f i
theorem SL.swpS (h : SL f) : SL (swp f) := by
  obtain ⟨h1, h2, h3⟩ := h
  refine ⟨fun i hi => ?_, fun i j hi hj e => ?_, ?_⟩
  · unfold swp
    repeat' split
    all_goals exact h1 _ (by omega)
  · unfold swp at e
    (repeat' split at e)
    all_goals have := h2 _ _ (by omega) (by omega) e
    all_goals omega
  · exact h3
def PSw (N a k : Nat) : Prop := a = N ∧ (k = 9 ∨ k = 12 ∨ k = 13)
theorem PSw.x {a k : Nat} (h : PSw N a k) : XF N a k := XF.a0 h.1 (by have := h.2; omega)
theorem PSw.o {a k : Nat} (h : PSw N a k) : a = N ∧ ¬ k = 1 ∧ ¬ k = 11 := ⟨h.1, by have := h.2; omega, by have := h.2; omega⟩
theorem TC.swap (h : TC m N X) (hF : TF m N f X) (hV : OV m (oa N (f 6)) s q) : TC (sr_ (sr_ m N 13 (oa N (f 6))) N 12 (oa N (f 7))) N (X.wS s q) := by
  have hf : Fr (PSw N) m (sr_ (sr_ m N 13 (oa N (f 6))) N 12 (oa N (f 7))) := ((Fr.refl _ _).sr ⟨rfl, by omega⟩).sr ⟨rfl, by omega⟩
  obtain ⟨f1, f2, f3, f4, f5, f6, f7⟩ := hF
  have no : ∀ a k, N + 27 ≤ a → ¬ PSw N a k := fun a k z z2 => by have := z2.1; omega
  have oo : ∀ j a k, oa N j ≤ a → a < oa N j + 27 → ¬ PSw N a k := fun j a k z z2 => no a k (by have := oa_lo N j; omega)
  refine TC.gen h hf (fun a k z => ⟨z.x, by have := z.o; omega, by have := z.o; omega, by have := z.o; omega, by have := z.o; omega⟩) (X.wS s q) rfl rfl rfl (h.b.fr hf (fun k z => by have := z.o; omega)) h.n h.u h.u5 h.e1 h.e2 h.e3 (fun j hj => (h.o j hj).fr' hf (oo j)) ⟨swp f, f1.swpS, ?_, ?_, fun i hi => ?_, ?_, fun i hi => ?_, fun z => ?_⟩
  · rw [gr_sr, if_neg (by omega), gr_sr, if_pos ⟨rfl, rfl⟩]; rfl
  · rw [gr_sr, if_pos ⟨rfl, rfl⟩]; rfl
  · have e : swp f i = f i := by unfold swp; rw [if_neg (by omega), if_neg (by omega)]
    rw [e]
    exact (hf.2.2.2.1 _ _ (fun z => by have := z.o; omega)).trans (f4 i hi)
  · exact hV.fr hf (oo _)
  · have h5 := h.u5
    have hi' : i < X.u := hi
    have e : swp f i = f i := by unfold swp; rw [if_neg (by omega), if_neg (by omega)]
    rw [e]
    exact (f6 i hi).fr hf (oo _)
  · exact (f7 z).fr hf (oo 5)
theorem TC.fresh (h : TC m N X) : TC (si_ m N 9 (nI 0)) N (X.wH 0 X.ps X.pq) := by
  have hf : Fr (PSw N) m (si_ m N 9 (nI 0)) := (Fr.refl _ _).si ⟨rfl, by omega⟩
  obtain ⟨f, f1, f2, f3, f4, f5, f6, f7⟩ := h.f
  have oo : ∀ j a k, oa N j ≤ a → a < oa N j + 27 → ¬ PSw N a k := fun j a k z z2 z3 => by
    have := oa_lo N j
    have := z3.1
    omega
  exact TC.gen h hf (fun a k z => ⟨z.x, by have := z.o; omega, by have := z.o; omega, by have := z.o; omega, by have := z.o; omega⟩) (X.wH 0 X.ps X.pq) rfl rfl rfl (h.b.fr hf (fun k z => by have := z.o; omega)) ((hf.2.1 _ _ (fun z => by have := z.o; omega)).trans h.n) (by rw [gi_si, if_pos ⟨rfl, rfl⟩]; rfl) (Nat.zero_le _) ((hf.2.1 _ _ (fun z => by have := z.o; omega)).trans h.e1) ((hf.2.1 _ _ (fun z => by have := z.o; omega)).trans h.e2) ((hf.2.1 _ _ (fun z => by have := z.o; omega)).trans h.e3) (fun j hj => (h.o j hj).fr' hf (oo j)) ⟨f, f1, f2, f3, f4, f5.fr hf (oo _), fun i hi => absurd hi (Nat.not_lt_zero _), fun z => (f7 z).fr hf (oo 5)⟩
theorem P157.k {a k : Nat} (h : P157 N a k) : KC N a k := ⟨by have := h.x.2; omega, h.x.1⟩
theorem PRd.k {o a k : Nat} (h : PRd N o a k) (h1 : N + 27 ≤ o) (h2 : o + 27 ≤ N + 243) : KC N a k := ⟨by
  unfold PRd OA P7 at h
  omega, h.x h1 h2⟩
theorem PSw.k {a k : Nat} (h : PSw N a k) : KC N a k := ⟨by have := h.1; omega, h.x⟩
theorem CT.frO (h : CT m N b n T 0) {o : Nat} (h1 : N + 27 ≤ o) (h2 : o + 27 ≤ N + 243) (hf : Fr (fun a _ => OA o a) m m') : CT m' N b n T 0 := h.fr hf (fun a k z => by
  unfold OA at z
  exact ⟨XF.of (by omega) (by omega), by omega, by omega, by omega, by omega⟩)
theorem x154 (h : TC m N X) (hs0 : ∀ k, k < 1023 → s0 k = 0) (hq0 : ∀ k, k < 484 → q0 k = 0) : match sLp X.b X.n 900 0 0 s0 q0 with
    | .inl e => ∃ m', am_ca sa sv (d + 8) 154 [.ref N] m = some (.inr 1, th_ m') ∧ Fr (KC N) m m' ∧ TC m' N ((X.wB X.b 0).wE (nI e.1) (nI e.2.1) (nI e.2.2))
    | .inr x => ∃ m', am_ca sa sv (d + 8) 154 [.ref N] m = some (.inl (some (.int (x.2.2.1 1))), m') ∧ Fr (KC N) m m' ∧ TC m' N (((X157 X).wS x.2.2.1 x.2.2.2).wH 0 X.ps X.pq) ∧ Kd X.b X.n x.1 = 0 ∧ WG 0 x.2.2.1 x.2.2.2 := by
  obtain ⟨f, hF⟩ := h.f
  have g6 := hF.1.lt (i := 6) (by omega)
  have l6 := oa_lo N (f 6)
  have u6 := oa_hi N g6
  obtain ⟨m1, T, a1, a2, a3, a4, a5⟩ := x157 (sa := sa) (sv := sv) (d := d + 2) h hF
  obtain ⟨m2, b1, b2⟩ := x71 (sa := sa) (sv := sv) (d := d + 3) (a4.o _ g6) (by omega)
  have hf2 : Fr (PRd N (oa N (f 6))) m1 m2 := b2.1.mono fun a k z => Or.inl z
  have hT2 : CT m2 N X.b X.n T 0 := a3.frO l6 u6 b2.1
  obtain ⟨t1, t2⟩ := TC.read a4 a5 hf2 b2.2.1 hT2.2.2.2.2.2.2.2.2.2.1 hT2.2.2.2.2.2.2.2.2.2.2 hT2.2.2.2.2.2.2.2.1
  have hV2 : OV m2 (oa N (f 6)) s0 q0 := (b2.ov0 (fun j z => z)).cgG (s := z0s) (q := z0q) WG_0 hs0 hq0
  have c := x109w (sa := sa) (sv := sv) (d := d) t1 t2 hT2 hV2 (WG_0.cg hs0 hq0)
  have k1 : gk_ m1 = gk_ m := a2.1.1
  have k2 : gk_ m2 = gk_ m1 := b2.1.1.1
  have r1 : gr_ m1 N 12 = oa N (f 6) := a5.2.2.1
  have r2 : gr_ m2 N 12 = oa N (f 6) := t2.2.2.1
  have hX := h.x
  have run : ∀ r, am_ci (am_ca sa sv (d + 7) 109 [.ref (N + 7), .ref (oa N (f 6))] m2) (fun v4 m3 => gq_ (gk_ m3 N = (1, 10)) (am_c0 (am_ca sa sv (d + 7) 158 [.ref N] m3) (fun m5 => gq_ (gk_ m5 N = (1, 10)) (gq_ (gk_ m5 N = (1, 10) ∧ ¬ gr_ m5 N 13 = 0) (gq_ (gk_ m5 (gr_ m5 N 13) = (1, 3) ∧ ¬ gr_ m5 (gr_ m5 N 13) 1 = 0) (gq_ (gk_ m5 (gr_ m5 (gr_ m5 N 13) 1) = (1, 0)) (some (.inl (some (.int (gi_ (si_ m5 N 9 (nI 0)) (gr_ m5 (gr_ m5 N 13) 1) 1))), si_ m5 N 9 (nI 0))))))) am_xg)) am_xg = r → am_ca sa sv (d + 8) 154 [.ref N] m = r := fun r hr => by
    rw [c154, b154_0]
    simp (disch := omega) only [gq_true, gb_true, gb_false, true_and, and_true, eq_self, not_false_eq_true, not_true_eq_false, true_or, or_true, false_or, or_false, false_and, and_false, c0_v, ci_v, cl_v, cf_v, pk_mul, nI_add, nI_clamp, nI_lt0, nI_0le, nI_eq0, nI_lt0r, nI_ltE, nI_leE, nI_eqE, nI_m1, in_t, ba0, ba1, Nat.one_ne_zero, Nat.reduceEqDiff, Nat.reduceLeDiff, Nat.add_eq_zero_iff, xk0 hX, a1, xk0 a4.x, r1, oa_z, ok0 (a4.o _ g6), b1, xk0 t1.x, xr0_3 t1.x, xk7 t1.x, r2, eq_false (show ¬ N + 7 = 0 by omega)]
    exact hr
  have hfk : Fr (KC N) m m2 := (a2.mono fun a k z => z.k).trans (hf2.mono fun a k z => z.k l6 u6)
  cases z : sLp X.b X.n 900 0 0 s0 q0 with
  | inl e =>
    rw [z] at c
    obtain ⟨m3, c1, c2, c3⟩ := c
    refine ⟨m3, run _ ?_, hfk.trans (c2.mono fun a k z => z.k l6 u6), c3⟩
    rw [c1, ci_x]
    rfl
  | inr x =>
    rw [z] at c
    obtain ⟨m3, c1, c2, c3, c4, c5, c6, c7⟩ := c
    have sw := c3.swap c4 c5
    have r158 := x158 (sa := sa) (sv := sv) (d := d + 6) c3.x c4.2.1 c4.2.2.1
    have hfs : Fr (PSw N) m3 (si_ (sr_ (sr_ m3 N 13 (oa N (f 6))) N 12 (oa N (f 7))) N 9 (nI 0)) := (((Fr.refl _ _).sr ⟨rfl, by omega⟩).sr ⟨rfl, by omega⟩).si ⟨rfl, by omega⟩
    refine ⟨_, run _ ?_, (hfk.trans (c2.mono fun a k z => z.k l6 u6)).trans (hfs.mono fun a k z => z.k), sw.fresh, c6, c7⟩
    have g13 : gr_ (sr_ (sr_ m3 N 13 (oa N (f 6))) N 12 (oa N (f 7))) N 13 = oa N (f 6) := by rw [gr_sr, if_neg (by omega), gr_sr, if_pos ⟨rfl, rfl⟩]
    have hO := sw.o _ g6
    have g1 : gi_ (si_ (sr_ (sr_ m3 N 13 (oa N (f 6))) N 12 (oa N (f 7))) N 9 (nI 0)) (oa N (f 6) + 1) 1 = x.2.2.1 1 := (hfs.2.1 _ _ (fun z => by have := z.1; omega)).trans (ov_nw c5)
    rw [c1, ci_v]
    simp (disch := omega) only [gq_true, gb_true, gb_false, true_and, and_true, eq_self, not_false_eq_true, not_true_eq_false, true_or, or_true, false_or, or_false, false_and, and_false, c0_v, ci_v, cl_v, cf_v, pk_mul, nI_add, nI_clamp, nI_lt0, nI_0le, nI_eq0, nI_lt0r, nI_ltE, nI_leE, nI_eqE, nI_m1, in_t, ba0, ba1, Nat.one_ne_zero, Nat.reduceEqDiff, Nat.reduceLeDiff, Nat.add_eq_zero_iff, xk0 c3.x, r158]
    simp (disch := omega) only [gq_true, gb_true, gb_false, true_and, and_true, eq_self, not_false_eq_true, not_true_eq_false, true_or, or_true, false_or, or_false, false_and, and_false, c0_v, ci_v, cl_v, cf_v, pk_mul, nI_add, nI_clamp, nI_lt0, nI_0le, nI_eq0, nI_lt0r, nI_ltE, nI_leE, nI_eqE, nI_m1, in_t, ba0, ba1, Nat.one_ne_zero, Nat.reduceEqDiff, Nat.reduceLeDiff, Nat.add_eq_zero_iff, xk0 sw.x, g13, oa_z, ok0 hO, or0_1 hO, ok1 hO, g1]
theorem x155 (h : TC m N X) (hG : XG B X) : match sLp X.b X.n 900 0 0 X.s X.q with
    | .inl e => ∃ m', am_ca sa sv (d + 8) 155 [.ref N] m = some (.inr 1, th_ m') ∧ Fr (KC N) m m' ∧ TC m' N ((X.wB X.b 0).wE (nI e.1) (nI e.2.1) (nI e.2.2))
    | .inr x => ∃ m', am_ca sa sv (d + 8) 155 [.ref N] m = some (.inl (some (.int (nI x.2.1))), m') ∧ Fr (KC N) m m' ∧ TC m' N ((X157 X).rem.wS x.2.2.1 x.2.2.2) ∧ Kd X.b X.n x.1 = 0 ∧ WG B x.2.2.1 x.2.2.2 := by
  obtain ⟨f, hF⟩ := h.f
  have g6 := hF.1.lt (i := 6) (by omega)
  have g7 := hF.1.lt (i := 7) (by omega)
  have l6 := oa_lo N (f 6)
  have l7 := oa_lo N (f 7)
  have u6 := oa_hi N g6
  obtain ⟨m1, T, a1, a2, a3, a4, a5⟩ := x157 (sa := sa) (sv := sv) (d := d + 2) h hF
  obtain ⟨m2, b1, b2⟩ := x72 (sa := sa) (sv := sv) (d := d + 4) (a4.o _ g6) (a4.o _ g7) (by omega) (by omega) (oa_ne N (hF.1.ne (i := 6) (j := 7) (by omega) (by omega) (by omega)))
  have hf2 : Fr (PRd N (oa N (f 6))) m1 m2 := b2.1.mono fun a k z => Or.inl z
  have hT2 : CT m2 N X.b X.n T 0 := a3.frO l6 u6 b2.1
  obtain ⟨t1, t2⟩ := TC.read a4 a5 hf2 b2.2.1 hT2.2.2.2.2.2.2.2.2.2.1 hT2.2.2.2.2.2.2.2.2.2.2 hT2.2.2.2.2.2.2.2.1
  have hV2 : OV m2 (oa N (f 6)) X.s X.q := b2.ov (fun j z => z) a5.2.2.2.2.1 hG.1.C hG.1.K (fun _ _ => rfl) (fun _ _ => rfl)
  have c := x109w (sa := sa) (sv := sv) (d := d) t1 t2 hT2 hV2 hG.1
  have k1 : gk_ m1 = gk_ m := a2.1.1
  have r1 : gr_ m1 N 12 = oa N (f 6) := a5.2.2.1
  have r1' : gr_ m1 N 13 = oa N (f 7) := a5.2.1
  have r2 : gr_ m2 N 12 = oa N (f 6) := t2.2.2.1
  have hX := h.x
  have run : ∀ r, am_ci (am_ca sa sv (d + 7) 109 [.ref (N + 7), .ref (oa N (f 6))] m2) (fun v4 m3 => gq_ (gk_ m3 N = (1, 10)) (am_c0 (am_ca sa sv (d + 7) 211 [.ref N] m3) (fun m5 => gq_ (gk_ m5 N = (1, 10)) (am_c0 (am_ca sa sv (d + 7) 158 [.ref N] m5) (fun m6 => some (.inl (some (.int v4)), m6)) am_xg)) am_xg)) am_xg = r → am_ca sa sv (d + 8) 155 [.ref N] m = r := fun r hr => by
    rw [c155, b155_0]
    simp (disch := omega) only [gq_true, gb_true, gb_false, true_and, and_true, eq_self, not_false_eq_true, not_true_eq_false, true_or, or_true, false_or, or_false, false_and, and_false, c0_v, ci_v, cl_v, cf_v, pk_mul, nI_add, nI_clamp, nI_lt0, nI_0le, nI_eq0, nI_lt0r, nI_ltE, nI_leE, nI_eqE, nI_m1, in_t, ba0, ba1, Nat.one_ne_zero, Nat.reduceEqDiff, Nat.reduceLeDiff, Nat.add_eq_zero_iff, xk0 hX, a1, xk0 a4.x, r1, r1', oa_z, ok0 (a4.o _ g6), b1, xk0 t1.x, xr0_3 t1.x, xk7 t1.x, r2, eq_false (show ¬ N + 7 = 0 by omega)]
    exact hr
  have hfk : Fr (KC N) m m2 := (a2.mono fun a k z => z.k).trans (hf2.mono fun a k z => z.k l6 u6)
  cases z : sLp X.b X.n 900 0 0 X.s X.q with
  | inl e =>
    rw [z] at c
    obtain ⟨m3, c1, c2, c3⟩ := c
    refine ⟨m3, run _ ?_, hfk.trans (c2.mono fun a k z => z.k l6 u6), c3⟩
    rw [c1, ci_x]
    rfl
  | inr x =>
    rw [z] at c
    obtain ⟨m3, c1, c2, c3, c4, c5, c6, c7⟩ := c
    obtain ⟨m4, g, d1, d2, d3, d4, d5, d6⟩ := x211 (sa := sa) (sv := sv) (d := d + 3) (B := B) c3 c4 hG
    have hV4 : OV m4 (oa N (g 6)) x.2.2.1 x.2.2.2 := by
      rw [d5]
      refine c5.fr d2 (fun a k z1 z2 z => ?_)
      rcases z with z | z | ⟨i, hi, z⟩
      · omega
      · omega
      · have := oa_ne N (c4.1.ne (i := 6) (j := i) (by omega) (by omega) (by omega))
        unfold OA at z
        omega
    have sw := d3.swap d4 hV4
    have r158 := x158 (sa := sa) (sv := sv) (d := d + 6) d3.x d4.2.1 d4.2.2.1
    have hfs : Fr (PSw N) m4 (sr_ (sr_ m4 N 13 (oa N (g 6))) N 12 (oa N (g 7))) := ((Fr.refl _ _).sr ⟨rfl, by omega⟩).sr ⟨rfl, by omega⟩
    refine ⟨_, run _ ?_, ((hfk.trans (c2.mono fun a k z => z.k l6 u6)).trans (d2.mono fun a k z => ?_)).trans (hfs.mono fun a k z => z.k), sw, c6, c7⟩
    · rw [c1, ci_v]
      simp (disch := omega) only [gq_true, gb_true, gb_false, true_and, and_true, eq_self, not_false_eq_true, not_true_eq_false, true_or, or_true, false_or, or_false, false_and, and_false, c0_v, ci_v, cl_v, cf_v, pk_mul, nI_add, nI_clamp, nI_lt0, nI_0le, nI_eq0, nI_lt0r, nI_ltE, nI_leE, nI_eqE, nI_m1, in_t, ba0, ba1, Nat.one_ne_zero, Nat.reduceEqDiff, Nat.reduceLeDiff, Nat.add_eq_zero_iff, xk0 c3.x, d1, xk0 d3.x, r158]
    · have := P211.x c4.1 z
      exact ⟨this.2.2, this.1⟩
end I89
