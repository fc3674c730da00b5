/-! arms: texts, scripts, a payee's part -/
section K89
variable {sa sv N b L C S n i c : Nat} {m : am_M} {X X' : TX} {E : Option Nat} {v : UInt32} {r0 W : Option am_R} {g : Nat → am_M → Option am_R} {R : am_M → Option am_R}
theorem A3 (h : LZ N b L C S n m X) (hs : X.s = gi_ m (N + 245)) (hq : X.q = gl_ m (N + 249)) (hn : n < 512) (hi : i + 6 ≤ L) (o6 o7 o8 : Option Value) : AR sa sv N b L C S n i (r411 sa sv 20 484 [some (.ref b), some (.ref N), some (.ref (N + 243)), some (.ref (N + 266)), some (.ref (N + 267)), some (.int (nI i)), o6, o7, o8] [] m) := by
  have cx := x155 (sa := sa) (sv := sv) (d := 11) h.tc h.g
  have cy := fun m1 (r1 : TR m1 N X) e1 e2 => y284 (sa := sa) (sv := sv) (d := 11) r1 e1 e2 h.tc.b.1 (fun k hk => (h.tc.b.2 k hk).1) h.tc.u5 h.g.1
  have g0 : XG (40 * n) (X157 X) := h.g
  rw [b411_484, c372 (d := 19), b372_0, gq_pos (xk0 h.tc.x)]
  cases z : sLp X.b X.n 900 0 0 X.s X.q with
  | inl e =>
    rw [z] at cx
    obtain ⟨m', c1, c2, c3⟩ := cx
    have ci : CI m N ((X.wB X.b 0).wE (nI e.1) (nI e.2.1) (nI e.2.2)) (some 1) 0 (am_ca sa sv 19 155 [.ref N] m) := ⟨m', c2, c3, c1⟩
    have hh := wr_i (g := am_xc (am_hd 372) 3) h.tr ci (HC.s (k := 1) (by omega) (by omega) (fun _ => rfl))
    exact AR.oi (arm_i (P := fun v4 v6 m7 => r411 sa sv 20 3178 [some (.ref b), some (.ref N), some (.ref (N + 243)), some (.ref (N + 266)), some (.ref (N + 267)), some (.int (nI i)), some (.int v4), some (.int v6), o8] [] m7) (Q := fun m7 => gq_ ((nI 0) &&& 1 = (nI 0)) (some (.inl (some (.int (nI 0))), m7))) (R := fun m3 => am_ca sa sv 20 284 [.ref (N + 243)] m3) h (BI.of hs hq hh (h.g.mono (by omega)) (fun m1 r1 e1 e2 => by
      have d := cy m1 r1 e1 e2
      rw [z] at d
      obtain ⟨m2, d1, d2, d3, d4⟩ := d
      exact ⟨m2, nI 0, d2, d4, d1, d3, fun z => by omega⟩)) (fun v4 m3 k1 k2 k3 => by rw [gq_pos (xk243 k3)]))
  | inr x =>
    rw [z] at cx
    obtain ⟨m', c1, c2, c3, c4, c5⟩ := cx
    have ci : CI m N ((X157 X).rem.wS x.2.2.1 x.2.2.2) none (nI x.2.1) (am_ca sa sv 19 155 [.ref N] m) := ⟨m', c2, c3, c1⟩
    have hh := wr_i (g := am_xc (am_hd 372) 3) h.tr ci HC.z
    exact AR.oi (arm_i (P := fun v4 v6 m7 => r411 sa sv 20 3178 [some (.ref b), some (.ref N), some (.ref (N + 243)), some (.ref (N + 266)), some (.ref (N + 267)), some (.int (nI i)), some (.int v4), some (.int v6), o8] [] m7) (Q := fun m7 => gq_ ((nI 0) &&& 1 = (nI 0)) (some (.inl (some (.int (nI 0))), m7))) (R := fun m3 => am_ca sa sv 20 284 [.ref (N + 243)] m3) h (BI.of hs hq hh ((g0.rem.wS c5).mono (by omega)) (fun m1 r1 e1 e2 => by
      have d := cy m1 r1 e1 e2
      rw [z] at d
      obtain ⟨m2, d1, d2, d3, d4⟩ := d c4
      exact ⟨m2, _, d2, d4, d1, d3, fun _ => rfl⟩)) (fun v4 m3 k1 k2 k3 => by rw [gq_pos (xk243 k3)]))
theorem A4 (h : LZ N b L C S n m X) (hs : X.s = gi_ m (N + 245)) (hq : X.q = gl_ m (N + 249)) (hn : n < 512) (hi : i + 6 ≤ L) (o6 o7 o8 : Option Value) : AR sa sv N b L C S n i (r411 sa sv 20 528 [some (.ref b), some (.ref N), some (.ref (N + 243)), some (.ref (N + 266)), some (.ref (N + 267)), some (.int (nI i)), o6, o7, o8] [] m) := by
  have cx := x156 (sa := sa) (sv := sv) (d := 7) h.tc h.g (by omega)
  have cy := fun m1 (r1 : TR m1 N X) e1 e2 => y353 (sa := sa) (sv := sv) (d := 11) r1 e1 e2 h.tc.b.1 (fun k hk => (h.tc.b.2 k hk).1) h.tc.u5 h.g (by omega)
  have g0 : XG (40 * n) (X157 X) := h.g
  rw [b411_528, c373 (d := 19), b373_0, gq_pos (xk0 h.tc.x)]
  cases z : sFx X.s X.q X.b X.n 0 0 [] 0 with
  | inl e =>
    rw [z] at cx
    obtain ⟨m', c1, c2, c3⟩ := cx
    have ci : CI m N ((X.wB X.b 0).wE (nI e.1) (nI e.2.1) (nI e.2.2)) (some 1) 0 (am_ca sa sv 19 156 [.ref N] m) := ⟨m', c2, c3, c1⟩
    have hh := wr_i (g := am_xc (am_hd 373) 3) h.tr ci (HC.s (k := 1) (by omega) (by omega) (fun _ => rfl))
    exact AR.oi (arm_i (P := fun v4 v6 m7 => r411 sa sv 20 3178 [some (.ref b), some (.ref N), some (.ref (N + 243)), some (.ref (N + 266)), some (.ref (N + 267)), some (.int (nI i)), some (.int v4), some (.int v6), o8] [] m7) (Q := fun m7 => gq_ ((nI 0) &&& 1 = (nI 0)) (some (.inl (some (.int (nI 0))), m7))) (R := fun m3 => am_ca sa sv 20 353 [.ref (N + 243)] m3) h (BI.of hs hq hh (h.g.mono (by omega)) (fun m1 r1 e1 e2 => by
      have d := cy m1 r1 e1 e2
      rw [z] at d
      obtain ⟨m2, d1, d2, d3, d4⟩ := d
      exact ⟨m2, nI 0, d2, d4, d1, d3, fun z => by omega⟩)) (fun v4 m3 k1 k2 k3 => by rw [gq_pos (xk243 k3)]))
  | inr x =>
    rw [z] at cx
    obtain ⟨m', l, p', g, c0, c00, c1, c2, c3, c4⟩ := cx
    have ci : CI m N ((X157 X).rem.wS (exL (exI 2) l (X.s, X.q, 0)).2.1 (exL (exI 2) l (X.s, X.q, 0)).2.2.1) none (nI (exL (exI 2) l (X.s, X.q, 0)).2.2.2) (am_ca sa sv 19 156 [.ref N] m) := ⟨m', c2, c3, c1⟩
    have hh := wr_i (g := am_xc (am_hd 373) 3) h.tr ci HC.z
    have gw := c4.1.mono (B' := 40 * n + 40) (by have := c4.2.1; omega)
    exact AR.oi (arm_i (P := fun v4 v6 m7 => r411 sa sv 20 3178 [some (.ref b), some (.ref N), some (.ref (N + 243)), some (.ref (N + 266)), some (.ref (N + 267)), some (.int (nI i)), some (.int v4), some (.int v6), o8] [] m7) (Q := fun m7 => gq_ ((nI 0) &&& 1 = (nI 0)) (some (.inl (some (.int (nI 0))), m7))) (R := fun m3 => am_ca sa sv 20 353 [.ref (N + 243)] m3) h (BI.of hs hq hh ((g0.rem.mono (by omega)).wS (gw.mono (by omega))) (fun m1 r1 e1 e2 => by
      have d := cy m1 r1 e1 e2
      rw [z] at d
      obtain ⟨m2, d1, d2, d3, d4⟩ := d l p' g c0 c00
      exact ⟨m2, _, d2, d4, d1, d3, fun _ => rfl⟩)) (fun v4 m3 k1 k2 k3 => by rw [gq_pos (xk243 k3)]))
/-- the wrapper of readText, whatever the empty office's rows hold beyond what counts -/
theorem w371 (h : LZ N b L C S n m X) {s0 : Nat → Int32} {q0 : Nat → Int64} (hs0 : ∀ k, k < 1023 → s0 k = 0) (hq0 : ∀ k, k < 484 → q0 k = 0) : match sLp X.b X.n 900 0 0 s0 q0 with
    | .inl e => WI m N X ((X.wB X.b 0).wE (nI e.1) (nI e.2.1) (nI e.2.2)) 1 (0 : Int32).toInt64 (am_ca sa sv 20 371 [.ref N, .ref (N + 266)] m)
    | .inr x => WI m N X (((X157 X).wS x.2.2.1 x.2.2.2).wH 0 X.ps X.pq) 0 (x.2.2.1 1).toInt64 (am_ca sa sv 20 371 [.ref N, .ref (N + 266)] m) ∧ Kd X.b X.n x.1 = 0 ∧ WG 0 x.2.2.1 x.2.2.2 := by
  have cx := x154 (sa := sa) (sv := sv) (d := 11) h.tc hs0 hq0
  rw [c371 (d := 19), b371_0, gq_pos (xk0 h.tc.x)]
  cases z : sLp X.b X.n 900 0 0 s0 q0 with
  | inl e =>
    rw [z] at cx
    obtain ⟨m', c1, c2, c3⟩ := cx
    have ci : CI m N ((X.wB X.b 0).wE (nI e.1) (nI e.2.1) (nI e.2.2)) (some 1) 0 (am_ca sa sv 19 154 [.ref N] m) := ⟨m', c2, c3, c1⟩
    exact wr_i (g := am_xc (am_hd 371) 3) h.tr ci (HC.s (k := 1) (by omega) (by omega) (fun _ => rfl))
  | inr x =>
    rw [z] at cx
    obtain ⟨m', c1, c2, c3, c4, c5⟩ := cx
    have ci : CI m N (((X157 X).wS x.2.2.1 x.2.2.2).wH 0 X.ps X.pq) none (x.2.2.1 1) (am_ca sa sv 19 154 [.ref N] m) := ⟨m', c2, c3, c1⟩
    exact ⟨wr_i (g := am_xc (am_hd 371) 3) h.tr ci HC.z, c4, c5⟩
theorem WI.m1 {w : Int64} (h : WI m N X X' c w W) : ∃ m1 c', MD N m m1 ∧ TR m1 N X ∧ W = some (.inl (some (.int (nI c'))), m1) := by
  obtain ⟨m1, _, a1, _, a3, a4, _⟩ := h
  exact ⟨m1, c, a1, a3, a4⟩
theorem BI.at {m1 : am_M} {c' : Nat} {v : Int32} (hw : WI m N X X' c v.toInt64 W) (hG : XG (40 * (n + 1)) X') (e : W = some (.inl (some (.int (nI c'))), m1)) (hr : RI m1 N X' c v (R m1)) : BI N n m R W := by
  obtain ⟨m2, hc, a1, a2, a3, a4, a5⟩ := hw
  have e2 : m2 = m1 := congrArg Prod.snd (Option.some.inj (a4.symm.trans e))
  subst e2
  exact ⟨m2, X', c, v, a1, a2, hG, hc, a4, a5, hr⟩
theorem A2 (h : LZ N b L C S n m X) (hs : X.s = gi_ m (N + 245)) (hq : X.q = gl_ m (N + 249)) (hn : n < 512) (hi : i + 6 ≤ L) (o6 o7 o8 : Option Value) : AR sa sv N b L C S n i (r411 sa sv 20 440 [some (.ref b), some (.ref N), some (.ref (N + 243)), some (.ref (N + 266)), some (.ref (N + 267)), some (.int (nI i)), o6, o7, o8] [] m) := by
  have c0 := w371 (sa := sa) (sv := sv) h (s0 := z0s) (q0 := z0q) (fun _ _ => rfl) (fun _ _ => rfl)
  have g0 : XG (40 * n) (X157 X) := h.g
  have hm : ∃ m1 c', MD N m m1 ∧ TR m1 N X ∧ am_ca sa sv 20 371 [.ref N, .ref (N + 266)] m = some (.inl (some (.int (nI c'))), m1) := by
    cases z : sLp X.b X.n 900 0 0 z0s z0q with
    | inl e => rw [z] at c0; exact WI.m1 c0
    | inr x => rw [z] at c0; exact WI.m1 c0.1
  obtain ⟨m1, c', md, r1, em⟩ := hm
  obtain ⟨s0, q0, hs0, hq0, cy⟩ := y283 (sa := sa) (sv := sv) (d := 11) r1 h.tc.b.1 (fun k hk => (h.tc.b.2 k hk).1)
  have cx := w371 (sa := sa) (sv := sv) h hs0 hq0
  have hB : BI N n m (fun m3 => am_ca sa sv 20 283 [.ref (N + 243)] m3) (am_ca sa sv 20 371 [.ref N, .ref (N + 266)] m) := by
    cases z : sLp X.b X.n 900 0 0 s0 q0 with
    | inl e =>
      rw [z] at cx cy
      obtain ⟨m2, d1, d2, d3, d4⟩ := cy
      exact BI.at cx (h.g.mono (by omega)) em ⟨m2, nI 0, d2, d4, d1, d3, fun z => by omega⟩
    | inr x =>
      rw [z] at cx cy
      obtain ⟨m2, d1, d2, d3, d4⟩ := cy cx.2.1
      exact BI.at cx.1 (((g0.mono (by omega)).wS (cx.2.2.mono (by omega))).wH0 _ _) em ⟨m2, _, d2, d4, d1, d3, fun _ => rfl⟩
  rw [b411_440]
  exact AR.oi (arm_i (P := fun v4 v6 m7 => r411 sa sv 20 3178 [some (.ref b), some (.ref N), some (.ref (N + 243)), some (.ref (N + 266)), some (.ref (N + 267)), some (.int (nI i)), some (.int v4), some (.int v6), o8] [] m7) (Q := fun m7 => gq_ ((nI 0) &&& 1 = (nI 0)) (some (.inl (some (.int (nI 0))), m7))) (R := fun m3 => am_ca sa sv 20 283 [.ref (N + 243)] m3) h hB (fun v4 m3 k1 k2 k3 => by rw [gq_pos (xk243 k3)]))
/-- a float's wrapper -/
theorem wr_f (hR : TR m N X) (hC : CQf m N X' E v r0) (hv : FP.Core.fIsNaN v = false) (hc : HC g E c) : ∃ m1, c < 3 ∧ MD N m m1 ∧ TC m1 N X' ∧ TR m1 N X ∧ am_nx false (am_cf r0 (fun v2 m1 => gq_ (vf_n64 (FP.f2d v2)) (gq_ ((gk_ m1 (N + 267)).1 = 5 ∧ in_ (nI 0) (gk_ m1 (N + 267)).2) (some (.inl (some (.int (nI 0))), (sd_ m1 (N + 267) ((nI 0)).toNatClampNeg (FP.f2d v2)))))) g) = some (.inl (some (.int (nI c))), m1) ∧ (c = 0 → gd_ m1 (N + 267) 0 = FP.f2d v) := by
  obtain ⟨m', hf, hT, e⟩ := hC
  rcases hc with ⟨h1, h2⟩ | ⟨e', h1, h2, h3, h4⟩
  · subst h1
    subst h2
    have e2 : r0 = some (.inl (some (.float v)), m') := e
    have f2 : Fr (fun a _ => a = N + 266 ∨ a = N + 267) m' (sd_ m' (N + 267) 0 (FP.f2d v)) := (Fr.refl _ _).sd (Or.inr rfl)
    have f3 : Fr (fun a k => KC N a k ∨ (a = N + 266 ∨ a = N + 267)) m (sd_ m' (N + 267) 0 (FP.f2d v)) := (hf.mono fun a k z => Or.inl z).trans (f2.mono fun a k z => Or.inr z)
    refine ⟨sd_ m' (N + 267) 0 (FP.f2d v), by omega, MD.of f3 (fun a k z => ?_), hT.out f2, hR.frC f3 (fun a k z => ?_), ?_, fun _ => if_pos ⟨rfl, rfl⟩⟩
    · rcases z with z | z
      · exact z.hp
      · omega
    · rcases z with z | z
      · exact z.hx
      · exact ⟨XF.hi (by omega), by omega⟩
    · rw [e2, cf_v, gq_pos (nn64 (f2d_nn hv)), gq_pos ⟨by rw [xk267 hT.x], by rw [xk267 hT.x]; exact in_of (by omega) (by omega)⟩]
      rfl
  · subst h1
    have e2 : r0 = some (.inr e', th_ m') := e
    obtain ⟨p1, p2, p3⟩ := wr_th hR hf hT
    refine ⟨_, h3, p1, p2, p3, ?_, fun z => by omega⟩
    rw [e2, cf_x, h4]
    rfl
theorem A30 (h : LZ N b L C S n m X) (hs : X.s = gi_ m (N + 245)) (hq : X.q = gl_ m (N + 249)) (hn : n < 512) (hi : i + 6 ≤ L) (o6 o7 o8 : Option Value) : AR sa sv N b L C S n i (r411 sa sv 20 1873 [some (.ref b), some (.ref N), some (.ref (N + 243)), some (.ref (N + 266)), some (.ref (N + 267)), some (.int (nI i)), o6, o7, o8] [] m) := by
  have K := h.scr hi
  have hv := parV_nn X.q (gi_ m b (nI i + nI 1).toNatClampNeg).toNatClampNeg
  obtain ⟨m1, a0, a1, a2, a3, a4, a5⟩ := wr_f (g := am_xc (am_hd 394) 4) h.tr (x184 (sa := sa) (sv := sv) (d := 15) h.tc h.g h.n0 (by omega) (gi_ m b (nI i + nI 1).toNatClampNeg)) hv (HC.i1 (fun _ => rfl))
  obtain ⟨m2, v', b1, b2, b3, b4, b5⟩ := y315 (sa := sa) (sv := sv) (d := 17) a3 (by rw [hs]; exact (funext a1.2.2.1).symm) (by rw [hq]; exact (funext a1.2.2.2.1).symm) h.g (gi_ m b (nI i + nI 1).toNatClampNeg)
  have kb : gi_ m1 b = gi_ m b := funext fun k => a1.2.1 b k h.bN
  have hN := h.next a1 a2 (h.g.mono (by omega)) b1 b2
  have k267 : gk_ m2 (N + 267) = (5, 1) := xk267 b2.x
  have gd : gd_ m2 (N + 267) 0 = gd_ m1 (N + 267) 0 := b1.2.2.2.2 _ _ (fun z3 => by have := z3.o; omega)
  rw [b411_1873, gq_pos (K 1 (by omega) m rfl), c394 (d := 19), b394_0, gq_pos (xk0 h.tc.x), a4, ci_v, gq_pos (K 1 (by omega) m1 a1.1), gq_pos (xk243 a2.x), kb, b3, cf_v, gq_pos (xk243 b2.x), c221 (d := 19), b221_0, gq_pos (xk243 b2.x), ci_v, gb_pos b4]
  by_cases z : inR (gi_ m b (nI i + nI 1).toNatClampNeg) (cN X.s 0) = true
  · rw [if_pos z] at a5 b5 ⊢
    have e1 := b5 rfl
    have e2 := a5 rfl
    have e3 : Op.cmpValue (FP.dcmp (gd_ m2 (N + 267) ((nI 0)).toNatClampNeg) (FP.f2d v')) .l = 0 := by
      rw [nI_clamp (by omega), gd, e2, e1, show FP.dcmp (FP.f2d (parV X.q (gi_ m b (nI i + nI 1).toNatClampNeg).toNatClampNeg)) (FP.f2d (parV X.q (gi_ m b (nI i + nI 1).toNatClampNeg).toNatClampNeg)) = some Ordering.eq from dc_refl (f2d_nn hv)]
      rfl
    rw [gb_pos (show nI 0 = 0 from rfl), gq_pos ⟨by rw [k267], by rw [k267]; exact in_of (by omega) (by omega)⟩, gq_pos (by rw [e1]; exact nn64 (f2d_nn hv)), gb_pos e3]
    exact ⟨m2, X, _, _, _, hN, rfl⟩
  · rw [if_neg z] at b4 ⊢
    rw [gb_neg (by rw [nI_eq0 (by omega)]; omega)]
    exact ⟨m2, X, _, _, _, hN, rfl⟩
end K89
