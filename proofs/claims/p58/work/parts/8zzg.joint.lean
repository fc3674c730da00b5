/-! class and World side by side -/
theorem xk_h : ∀ q, q ∈ xk_ → q.1 < 243 := by decide
theorem xr_h : ∀ q, q ∈ xr_ → q.1 < 243 := by decide
theorem xw_h : ∀ q, q ∈ xw_ → q.1 < 243 := by decide
theorem orf_h : ∀ q, q ∈ orf_ → q.1 < 27 := by decide
theorem owd_h : ∀ q, q ∈ owd_ → q.1 < 27 := by decide
section J8
variable {sa sv d N x o n z B B' : Nat} {m m' m1 : am_M} {ow ow' : Nat → Nat} {X X' : TX} {s s' : Nat → Int32} {q q' : Nat → Int64} {P : Nat → Prop}
/-- these cells stand as they stood -/
def Sd4 (m m' : am_M) (lo hi : Nat) : Prop := ∀ a, lo ≤ a → a < hi → gk_ m' a = gk_ m a ∧ gi_ m' a = gi_ m a ∧ gl_ m' a = gl_ m a ∧ gr_ m' a = gr_ m a
theorem OV.sm (h : OV m o s q) (e : Sd4 m m' o (o + 27)) : OV m' o s q := by
  have g : ∀ j, j < 27 → gi_ m' (o + j) = gi_ m (o + j) := fun j hj => (e _ (by omega) (by omega)).2.1
  have g0 : gi_ m' o = gi_ m o := (e _ (by omega) (by omega)).2.1
  have l : ∀ j, j < 27 → gl_ m' (o + j) = gl_ m (o + j) := fun j hj => (e _ (by omega) (by omega)).2.2.1
  unfold OV
  rw [g0, g 1 (by decide), l 2 (by decide), g 3 (by decide), l 4 (by decide), g 5 (by decide), g 6 (by decide), g 8 (by decide), g 10 (by decide), g 12 (by decide), g 13 (by decide), g 14 (by decide), g 15 (by decide), g 16 (by decide), g 17 (by decide), g 18 (by decide), g 19 (by decide), l 20 (by decide), l 21 (by decide), l 22 (by decide), l 23 (by decide), l 24 (by decide), l 25 (by decide), g 26 (by decide)]
  exact h
theorem OS.sm (h : OS m o) (e : Sd4 m m' o (o + 27)) : OS m' o := by
  refine ⟨fun a ha => (e _ (by omega) (by omega)).1.trans (h.1 a ha), fun q hq => ?_, fun q hq => ?_⟩
  · have := orf_h q hq
    rw [(e (o + q.1) (by omega) (by omega)).2.2.2]; exact h.2.1 q hq
  · have := owd_h q hq
    rw [(e (o + q.1) (by omega) (by omega)).2.1]; exact h.2.2 q hq
theorem TC.sm (h : TC m N X) (e : Sd4 m m' N (N + 243)) : TC m' N X := by
  have eo : ∀ j, j < 8 → Sd4 m m' (oa N j) (oa N j + 27) := fun j hj a h1 h2 => e a (by have := oa_lo N j; omega) (by have := oa_hi N hj; omega)
  have gi : ∀ j, j < 243 → gi_ m' (N + j) = gi_ m (N + j) := fun j hj => (e _ (by omega) (by omega)).2.1
  have g0 : gi_ m' N = gi_ m N := (e _ (by omega) (by omega)).2.1
  have gr : ∀ j, j < 243 → gr_ m' (N + j) = gr_ m (N + j) := fun j hj => (e _ (by omega) (by omega)).2.2.2
  have r0 : gr_ m' N = gr_ m N := (e _ (by omega) (by omega)).2.2.2
  have gl : ∀ j, j < 243 → gl_ m' (N + j) = gl_ m (N + j) := fun j hj => (e _ (by omega) (by omega)).2.2.1
  obtain ⟨f, f1, f2, f3, f4, f5, f6, f7⟩ := h.f
  refine ⟨⟨fun q hq => ?_, fun q hq => ?_, fun q hq => ?_⟩, fun k hk => ?_, ⟨h.b.1, fun k hk => ?_⟩, ?_, ?_, h.u5, ?_, h.v1, ?_, ?_, ?_, ?_, h.r3, fun k hk => ?_, fun j hj => (h.o j hj).sm (eo j hj), f, f1, ?_, ?_, fun i hi => ?_, f5.sm (eo _ (f1.lt (by omega))), fun i hi => (f6 i hi).sm (eo _ (f1.lt (by have := h.u5; omega))), fun v => (f7 v).sm (eo 5 (by omega))⟩
  · have := xk_h q hq
    exact (e _ (by omega) (by omega)).1.trans (h.x.1 q hq)
  · rw [gr _ (xr_h q hq)]; exact h.x.2.1 q hq
  · rw [gi _ (xw_h q hq)]; exact h.x.2.2 q hq
  · rw [gl 3 (by decide)]; exact h.q k hk
  · rw [gi 1 (by decide)]; exact h.b.2 k hk
  · rw [g0]; exact h.n
  · rw [g0]; exact h.u
  · rw [g0]; exact h.v
  · rw [gi 2 (by decide)]; exact h.e1
  · rw [gi 2 (by decide)]; exact h.e2
  · rw [gi 2 (by decide)]; exact h.e3
  · rw [gi 23 (by decide)]; exact h.r
  · rw [gi 24 (by decide)]; exact h.rb k hk
  · rw [r0]; exact f2
  · rw [r0]; exact f3
  · rw [gr 26 (by decide)]; exact f4 i hi
/-- the constants' tags -/
def KT (m : am_M) (sv : Nat) (ow : Nat → Nat) : Prop := 300 ≤ ow sv ∧ (∀ i, i < 28 → 300 ≤ ow (gr_ m sv i) ∧ 300 ≤ ow (gr_ m (gr_ m sv i) 0)) ∧ ∀ i, i < 2 → 300 ≤ ow (gr_ m sv (41 + i))
theorem KS.tag (h : KS sa m sv) (k : KT m sv ow) (e : Ex P n z m m1) (ho : ∀ b, b < gt_ m → ow' b = ow b) (hp : ∀ a, a < gt_ m → (gk_ m a).1 = 0 ∨ (gk_ m a).1 = 8 ∨ (gk_ m a).1 = 9 → 300 ≤ ow a → ¬ P a) : KS sa m1 sv ∧ KT m1 sv ow' := by
  obtain ⟨h1, h2, h3, h4, h5, h6⟩ := h
  obtain ⟨k1, k2, k3⟩ := k
  have g := e.gt
  have nsv : ¬ P sv := hp sv h1 (.inl (by rw [h2])) k1
  have rs : gr_ m1 sv = gr_ m sv := e.r h1 nsv
  refine ⟨⟨by omega, by rw [e.k h1, h2], fun i hi => ?_, fun i hi => ?_, by rw [rs]; omega, by rw [rs, e.k h5, h6]⟩, by rw [ho _ h1]; exact k1, fun i hi => ?_, fun i hi => ?_⟩
  · obtain ⟨a1, a2, a3, a4, a5, a6⟩ := h3 i hi
    have n1 : ¬ P (gr_ m sv i) := hp _ a1 (.inr (.inl (by rw [a2]))) (k2 i hi).1
    have n2 : ¬ P (gr_ m (gr_ m sv i) 0) := hp _ a4 (.inr (.inr (by rw [a5]))) (k2 i hi).2
    rw [rs, e.k a1, e.i a1 n1, e.r a1 n1, e.k a4, e.i a4 n2]
    exact ⟨by omega, a2, a3, by omega, a5, a6⟩
  · obtain ⟨a1, a2, a3⟩ := h4 i hi
    have n1 : ¬ P (gr_ m sv (41 + i)) := hp _ a1 (.inr (.inr (by rw [a2]))) (k3 i hi)
    rw [rs, e.k a1, e.i a1 n1]
    exact ⟨by omega, a2, a3⟩
  · obtain ⟨a1, a2, a3, a4, a5, a6⟩ := h3 i hi
    have n1 : ¬ P (gr_ m sv i) := hp _ a1 (.inr (.inl (by rw [a2]))) (k2 i hi).1
    rw [rs, e.r a1 n1, ho _ a1, ho _ a4]
    exact k2 i hi
  · obtain ⟨a1, a2, a3⟩ := h4 i hi
    rw [rs, ho _ a1]
    exact k3 i hi
/-- the class at N with X, the World at x with s, q -/
def JT (sa : Nat) (m : am_M) (sv : Nat) (N : Nat) (x : Nat) (ow : Nat → Nat) (B : Nat) (X : TX) (s : Nat → Int32) (q : Nat → Int64) : Prop :=
  (TC m N X) ∧
  (XG B X) ∧
  (B < 2 ^ 20) ∧
  (WS m sv x ow s q) ∧
  (KS sa m sv) ∧
  (∀ a, N ≤ a → a < N + 243 → a < gt_ m ∧ 300 ≤ ow a ∧ ¬ (gk_ m a).1 = 0 ∧ ¬ (gk_ m a).1 = 8 ∧ ¬ (gk_ m a).1 = 9) ∧
  (KT m sv ow) ∧
  (0 < N) ∧
  (ge_ m = true)
theorem JT.tc {sa : Nat} {m : am_M} {sv : Nat} {N : Nat} {x : Nat} {ow : Nat → Nat} {B : Nat} {X : TX} {s : Nat → Int32} {q : Nat → Int64} (h : JT sa m sv N x ow B X s q) : TC m N X := h.1
theorem JT.xg {sa : Nat} {m : am_M} {sv : Nat} {N : Nat} {x : Nat} {ow : Nat → Nat} {B : Nat} {X : TX} {s : Nat → Int32} {q : Nat → Int64} (h : JT sa m sv N x ow B X s q) : XG B X := h.2.1
theorem JT.bb {sa : Nat} {m : am_M} {sv : Nat} {N : Nat} {x : Nat} {ow : Nat → Nat} {B : Nat} {X : TX} {s : Nat → Int32} {q : Nat → Int64} (h : JT sa m sv N x ow B X s q) : B < 2 ^ 20 := h.2.2.1
theorem JT.ws {sa : Nat} {m : am_M} {sv : Nat} {N : Nat} {x : Nat} {ow : Nat → Nat} {B : Nat} {X : TX} {s : Nat → Int32} {q : Nat → Int64} (h : JT sa m sv N x ow B X s q) : WS m sv x ow s q := h.2.2.2.1
theorem JT.ks {sa : Nat} {m : am_M} {sv : Nat} {N : Nat} {x : Nat} {ow : Nat → Nat} {B : Nat} {X : TX} {s : Nat → Int32} {q : Nat → Int64} (h : JT sa m sv N x ow B X s q) : KS sa m sv := h.2.2.2.2.1
theorem JT.kc {sa : Nat} {m : am_M} {sv : Nat} {N : Nat} {x : Nat} {ow : Nat → Nat} {B : Nat} {X : TX} {s : Nat → Int32} {q : Nat → Int64} (h : JT sa m sv N x ow B X s q) : ∀ a, N ≤ a → a < N + 243 → a < gt_ m ∧ 300 ≤ ow a ∧ ¬ (gk_ m a).1 = 0 ∧ ¬ (gk_ m a).1 = 8 ∧ ¬ (gk_ m a).1 = 9 := h.2.2.2.2.2.1
theorem JT.s3 {sa : Nat} {m : am_M} {sv : Nat} {N : Nat} {x : Nat} {ow : Nat → Nat} {B : Nat} {X : TX} {s : Nat → Int32} {q : Nat → Int64} (h : JT sa m sv N x ow B X s q) : KT m sv ow := h.2.2.2.2.2.2.1
theorem JT.n0 {sa : Nat} {m : am_M} {sv : Nat} {N : Nat} {x : Nat} {ow : Nat → Nat} {B : Nat} {X : TX} {s : Nat → Int32} {q : Nat → Int64} (h : JT sa m sv N x ow B X s q) : 0 < N := h.2.2.2.2.2.2.2.1
theorem JT.ge {sa : Nat} {m : am_M} {sv : Nat} {N : Nat} {x : Nat} {ow : Nat → Nat} {B : Nat} {X : TX} {s : Nat → Int32} {q : Nat → Int64} (h : JT sa m sv N x ow B X s q) : ge_ m = true := h.2.2.2.2.2.2.2.2
/-- the limits that a grown World keeps -/
def LM (s : Nat → Int32) (q : Nat → Int64) : Prop :=
  (GLm s) ∧
  (2 ≤ cN s 0 ∧ cN s 0 ≤ 5) ∧
  (1 ≤ cN s 1 ∧ cN s 1 ≤ 4) ∧
  (cN s 2 ≤ 3) ∧
  (cN s 3 ≤ 10) ∧
  (NMS s q)
theorem LM.g {s : Nat → Int32} {q : Nat → Int64} (h : LM s q) : GLm s := h.1
theorem LM.p {s : Nat → Int32} {q : Nat → Int64} (h : LM s q) : 2 ≤ cN s 0 ∧ cN s 0 ≤ 5 := h.2.1
theorem LM.w {s : Nat → Int32} {q : Nat → Int64} (h : LM s q) : 1 ≤ cN s 1 ∧ cN s 1 ≤ 4 := h.2.2.1
theorem LM.a {s : Nat → Int32} {q : Nat → Int64} (h : LM s q) : cN s 2 ≤ 3 := h.2.2.2.1
theorem LM.dd {s : Nat → Int32} {q : Nat → Int64} (h : LM s q) : cN s 3 ≤ 10 := h.2.2.2.2.1
theorem LM.nm {s : Nat → Int32} {q : Nat → Int64} (h : LM s q) : NMS s q := h.2.2.2.2.2
theorem LM.gw (h : LM s q) : ∀ w, w < cN s 1 → cN s (18 + 48 * w) < 3 ∧ cN s (59 + 48 * w) < 3 := h.g.2
/-- a run of the class -/
theorem JT.fr (h : JT sa m sv N x ow B X s q) (hl : LM s q) (f : Fr (KC N) m m') (t : TC m' N X') (g : XG B' X') (hb : B' < 2 ^ 20) : JT sa m' sv N x ow B' X' s q ∧ Ex (fun y => N ≤ y ∧ y < N + 243) 0 0 m m' := by
  have e : Ex (fun y => N ≤ y ∧ y < N + 243) 0 0 m m' := Ex.of f fun a k z => ⟨z.2.1, z.1⟩
  have nk : NK m (fun y => N ≤ y ∧ y < N + 243) := fun a _ z => (h.kc a z.1 z.2).2.2
  have hs : ¬ (N ≤ sv ∧ sv < N + 243) := fun z => (nk sv h.ks.1 z).1 (by rw [h.ks.2.1])
  have xt : Xt m sv ow ow (fun t => 300 ≤ t) (fun y => N ≤ y ∧ y < N + 243) 0 0 m' := ⟨e, fun a _ z _ => (h.kc a z.1 z.2).2.1, fun _ _ => rfl, e.r h.ks.1 hs⟩
  have w := h.ws.xt xt (fun t z => z) (by have := hl.w; omega) hl.gw (by have := hl.a; omega) (by have := hl.dd; omega)
  have kk := h.ks.tag h.s3 e (ow' := ow) (fun _ _ => rfl) (fun a ha z _ y => by have := nk a ha y; omega)
  exact ⟨⟨t, g, hb, w, kk.1, fun a z1 z2 => by
    obtain ⟨y1, y2, y3⟩ := h.kc a z1 z2
    rw [e.k y1]
    exact ⟨Nat.lt_of_lt_of_le y1 e.gt, y2, y3⟩, kk.2, h.n0, e.ge.trans h.ge⟩, e⟩
/-- a run of the World -/
theorem JT.wr (h : JT sa m sv N x ow B X s q) (e : Ex P n z m m') (hp : ∀ a, a < gt_ m → P a → ow a < 300) (w : WS m' sv x ow' s' q') (ho : ∀ b, b < gt_ m → ow' b = ow b) : JT sa m' sv N x ow' B X s' q' := by
  have kk := h.ks.tag h.s3 e ho (fun a ha _ z y => by have := hp a ha y; omega)
  refine ⟨h.tc.sm fun a z1 z2 => ?_, h.xg, h.bb, w, kk.1, fun a z1 z2 => ?_, kk.2, h.n0, e.ge.trans h.ge⟩
  · obtain ⟨y1, y2, y3⟩ := h.kc a z1 z2
    have np : ¬ P a := fun y => by have := hp a y1 y; omega
    exact ⟨e.k y1, e.i y1 np, e.l y1 np, e.r y1 np⟩
  · obtain ⟨y1, y2, y3⟩ := h.kc a z1 z2
    rw [ho a y1, e.k y1]
    exact ⟨Nat.lt_of_lt_of_le y1 e.gt, y2, y3⟩
theorem JT.cq (h : JT sa m sv N x ow B X s q) : ∃ o, CQ B m N o X.s X.q ∧ N + 27 ≤ o := by
  obtain ⟨f, hF⟩ := h.tc.f
  exact ⟨_, h.tc.cq hF h.xg h.n0 (by have := h.bb; omega), oa_lo _ _⟩
theorem JT.k0 (h : JT sa m sv N x ow B X s q) : gk_ m N = (1, 10) := xk0 h.tc.x
theorem JT.wf (h : JT sa m sv N x ow B X s q) : WF B X.s X.q := h.xg.1.1
theorem JT.wc (h : JT sa m sv N x ow B X s q) : WC X.s := wf_c h.wf
theorem JT.ww (h : JT sa m sv N x ow B X s q) : WW X.s := wf_w h.wf
theorem JT.wa (h : JT sa m sv N x ow B X s q) : WA X.s := wf_a h.wf
theorem JT.wd (h : JT sa m sv N x ow B X s q) : WD X.s := wf_d h.wf
theorem inR_lt {k n : Nat} (h : k < n) (hn : n < 2 ^ 31) : inR (nI k) n = true := by
  rw [inR_nI (by omega)]; exact decide_eq_true h
theorem nI_N {k : Nat} (h : k < 2 ^ 31) : (nI k).toNatClampNeg = k := nI_clamp h
/-- what the class tells -/
theorem JT.bal (h : JT sa m sv N x ow B X s q) {p : Nat} (hp : p < cN X.s 0) : am_ca sa sv (d + 3) 179 [.ref N, .int (nI p)] m = some (.inl (some (.long (X.q p))), m) := by
  have b0 := isN_lt (wc_np h.wc) (by decide)
  obtain ⟨o, c, _⟩ := h.cq
  rw [x179 c, inR_lt hp (by omega), nI_N (by omega)]; rfl
theorem JT.tot (h : JT sa m sv N x ow B X s q) {p c : Nat} (hp : p < cN X.s 0) (hc : c < 4) : am_ca sa sv (d + 3) 180 [.ref N, .int (nI p), .int (nI c)] m = some (.inl (some (.long (X.q (10 + 4 * p + c)))), m) := by
  have b0 := isN_lt (wc_np h.wc) (by decide)
  obtain ⟨o, c1, _⟩ := h.cq
  rw [x180 c1, inR_lt hp (by omega), inR_lt hc (by omega), nI_N (by omega), nI_N (by omega)]; rfl
theorem JT.efr (h : JT sa m sv N x ow B X s q) {p w : Nat} (hp : p < cN X.s 0) (hw : w < cN X.s 1) : am_ca sa sv (d + 3) 181 [.ref N, .int (nI p), .int (nI w)] m = some (.inl (some (.long (X.q (80 + 12 * p + w)))), m) := by
  have b0 := isN_lt (wc_np h.wc) (by decide)
  have b1 := isN_lt (wc_nw h.wc) (by decide)
  obtain ⟨o, c1, _⟩ := h.cq
  rw [x181 c1, inR_lt hp (by omega), inR_lt hw (by omega), nI_N (by omega), nI_N (by omega)]; rfl
theorem JT.lea (h : JT sa m sv N x ow B X s q) {p : Nat} (hp : p < cN X.s 0) : am_ca sa sv (d + 4) 163 [.ref N, .int (nI p)] m = some (.inl (some (.int (X.s (8 + p)))), m) := by
  have b0 := isN_lt (wc_np h.wc) (by decide)
  obtain ⟨o, c, _⟩ := h.cq
  rw [x163 c, inR_lt hp (by omega), nI_N (by omega)]; rfl
theorem JT.adv (h : JT sa m sv N x ow B X s q) {a c : Nat} (ha : a < cN X.s 3) (hc : c < 6) : am_ca sa sv (d + 2) 176 [.ref N, .int (nI a), .int (nI c)] m = some (.inl (some (.int (X.s (690 + 6 * a + c)))), m) := by
  have b0 := isN_lt (h.wc.2.2.2.1) (by decide)
  obtain ⟨o, c1, _⟩ := h.cq
  rw [x176 c1, inR_lt ha (by omega), inR_lt hc (by omega), nI_N (by omega), nI_N (by omega)]; rfl
theorem JT.asg (h : JT sa m sv N x ow B X s q) {a : Nat} (ha : a < cN X.s 2) : am_ca sa sv (d + 3) 172 [.ref N, .int (nI a), .int (nI 5)] m = some (.inl (some (.int (X.s (594 + 6 * a + 5)))), m) := by
  have b0 := isN_lt (h.wc.2.2.1) (by decide)
  obtain ⟨o, c1, _⟩ := h.cq
  rw [x172 c1, inR_lt ha (by omega), inR_lt (show 5 < 7 by decide) (by omega), nI_N (by omega), nI_N (by omega)]; rfl
theorem JT.cnt (h : JT sa m sv N x ow B X s q) {c : Nat} (hc : c < 7) : am_ca sa sv (d + 2) 162 [.ref N, .int (nI c)] m = some (.inl (some (.int (cnt_ X.s c))), m) := by
  obtain ⟨o, c1, _⟩ := h.cq
  rw [x162 c1, inR_lt hc (by omega), nI_N (by omega)]; rfl
theorem JT.lin (h : JT sa m sv N x ow B X s q) {i c : Nat} (hi : i < cN X.s 6) (hc : c < 4) : am_ca sa sv (d + 2) 188 [.ref N, .int (nI i), .int (nI c)] m = some (.inl (some (.int (X.s (767 + 4 * i + c)))), m) := by
  have b0 := isN_lt (h.wc.2.2.2.2.2.1) (by decide)
  obtain ⟨o, c1, _⟩ := h.cq
  rw [x188 c1, inR_lt hi (by omega), inR_lt hc (by omega), nI_N (by omega), nI_N (by omega)]; rfl
theorem JT.cur (h : JT sa m sv N x ow B X s q) {p c : Nat} (hp : p < cN X.s 0) (hc : c < 3) : am_ca sa sv (d + 3) 191 [.ref N, .int (nI p), .int (nI c)] m = some (.inl (some (.long (X.q (50 + 3 * p + c)))), m) := by
  have b0 := isN_lt (wc_np h.wc) (by decide)
  obtain ⟨o, c1, _⟩ := h.cq
  rw [x191 c1, inR_lt hp (by omega), inR_lt hc (by omega), nI_N (by omega), nI_N (by omega)]; rfl
theorem JT.stt (h : JT sa m sv N x ow B X s q) {p c : Nat} (h0 : 0 < cN X.s 7) (hp : p < cN X.s 0) (hc : c < 5) : am_ca sa sv (d + 3) 189 [.ref N, .int (nI 0), .int (nI p), .int (nI c)] m = some (.inl (some (.long (X.q (212 + 5 * p + c)))), m) := by
  have b0 := isN_lt (wc_np h.wc) (by decide)
  have b7 : cN X.s 7 < 2 ^ 31 := by
    have := wk_k h.xg.1.K
    unfold cN; rw [this, nI_N (by omega)]; omega
  obtain ⟨o, c1, _⟩ := h.cq
  rw [x189 c1, inR_lt h0 b7, inR_lt hp (by omega), inR_lt hc (by omega), nI_N (by omega), nI_N (by omega), nI_N (by omega)]; rfl
end J8
