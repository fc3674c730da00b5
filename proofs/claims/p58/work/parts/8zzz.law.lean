/-! the law whole -/
section J8
variable {sa sv d N x b B : Nat} {m : am_M} {ow : Nat → Nat} {X : TX} {s : Nat → Int32} {q : Nat → Int64}
theorem x411_44 : ∀ (k i : Nat) (m : am_M) (ow : Nat → Nat) (X : TX), i + k = 12 → JT sa m sv N x ow (2 * i) X X.s X.q → LM X.s X.q → PI X.s X.q → X.n = 0 → cN X.s 4 ≤ 13 * i → ((gk_ m b).1 = 2 ∨ (gk_ m b).1 = 7) → (gk_ m b).2 < 2 ^ 20 → b < gt_ m → ∃ m', r411 sa sv (d + 10) 44 [some (.ref b), some (.ref x), some (.ref N), some (.int (nI i))] [] m = some (.inl (some (.int (nI 1))), m') ∧ Ex (fun _ => True) (502 * k) (60020 * k) m m' := by
  intro k
  induction k with
  | zero =>
    intro i m ow X hi h hl hp hn hd hk h2 hb
    have hi' : i = 12 := by omega
    subst hi'
    obtain ⟨m', e, x1⟩ := x300 (sa := sa) (d := d + 4) h hl (by decide)
    refine ⟨m', ?_, x1.mono (fun _ _ z => z) (by omega) (by omega)⟩
    rw [b411_44, gb_pos (Int32.le_refl _), e, ci_v, gq_pos (by decide)]
  | succ k ih =>
    intro i m ow X hi h hl hp hn hd hk h2 hb
    obtain ⟨m1, ow1, X1, e1, j1, hl1, hp1, hn1, hd1, x1⟩ := x296 (sa := sa) (d := d) h hl hp hn (by omega) (by omega) hk h2 (show i < 12 by omega)
    have k1 : gk_ m1 b = gk_ m b := x1.k hb
    have s1 := x298 (sa := sa) (d := d + 6) j1 hp1
    obtain ⟨m2, ow2, X2, e2, j2, es, eq, en, x2⟩ := x299 (sa := sa) (d := d + 2) j1 hl1 (by omega) (by rw [k1]; exact hk) (by rw [k1]; exact h2) (show i < 12 by omega)
    have hb1 : b < gt_ m1 := Nat.lt_of_lt_of_le hb x1.gt
    have k2 : gk_ m2 b = gk_ m b := (x2.k hb1).trans k1
    obtain ⟨m3, e3, x3⟩ := ih (i + 1) m2 ow2 X2 (by omega) (by rw [show 2 * (i + 1) = 2 * i + 1 + 1 by omega]; exact j2) (by rw [es, eq]; exact hl1) (by rw [es, eq]; exact hp1) (en.trans hn1) (by rw [es]; omega) (by rw [k2]; exact hk) (by rw [k2]; exact h2) (Nat.lt_of_lt_of_le hb1 x2.gt)
    refine ⟨m3, ?_, ((x1.trans x2 (fun _ _ z => z)).trans x3 (fun _ _ z => z)).mono (fun _ _ z => z) (by omega) (by omega)⟩
    rw [b411_44, gb_neg (by rw [nI_leE (by decide) (by omega)]; omega), e1, ci_v, gb_neg (by decide), s1, ci_v, gb_neg (by decide), e2, ci_v, gb_neg (by decide), nI_add]
    exact e3
theorem ck_k : ∀ i, i < 243 → ¬ (ck_.getD i (0, 0)).1 = 0 ∧ ¬ (ck_.getD i (0, 0)).1 = 8 ∧ ¬ (ck_.getD i (0, 0)).1 = 9 := by decide +kernel
/-- a new class beside a grown World -/
theorem JT.new {m1 m2 : am_M} {z : Nat} {L : Nat → Int64} (hw : WS m1 sv x ow s q) (hK : KS sa m1 sv) (hl : LM s q) (bs : BS m1 (gt_ m1) m2 ck_ cr_ cw_ z 3 L) (hL : ∀ k, k < 21 → L k = qi_ k) : ∃ O, JT sa m2 sv (gt_ m1) x O 0 Xz0 s q ∧ Ex NoP 243 z m1 m2 := by
  have hna := hl.a
  have hnd := hl.dd
  obtain ⟨O, w1, kt⟩ := tag_k hw hK hl.g (by omega) (by omega)
  have len : ck_.length = 243 := fk_len
  have tc : TC m2 (gt_ m1) Xz0 := BS.fTC bs hL
  have nw := bs.2.2.2.1
  have sm := bs.2.2.1
  obtain ⟨n1, n2, n3, n4⟩ := nw
  rw [len] at n1 n2
  have e : Ex NoP 243 z m1 m2 := ⟨⟨by omega, by omega, by omega, n4⟩, fun a ha => ⟨(sm a ha).1, fun _ => ⟨(sm a ha).2.1, (sm a ha).2.2.1, (sm a ha).2.2.2.1⟩⟩⟩
  obtain ⟨O2, hO⟩ : ∃ O2 : Nat → Nat, ∀ y, O2 y = if y < gt_ m1 then O y else 300 := ⟨_, fun _ => rfl⟩
  have xt : Xt m1 sv O O2 (fun _ => False) NoP 243 z m2 := ⟨e, fun a _ y _ => absurd y id, fun y hy => (hO y).trans (if_pos hy), e.r hK.1 (fun y => y)⟩
  have w2 := w1.xt xt (fun t y => absurd y id) (by have := hl.w; omega) hl.gw (by omega) (by omega)
  have kk := hK.tag kt e (ow' := O2) (fun y hy => (hO y).trans (if_pos hy)) (fun _ _ _ _ y => y)
  refine ⟨O2, ⟨tc, XG_0, by decide, w2, kk.1, fun a h1 h2 => ?_, kk.2, bs.2.2.2.2.2, n4.trans bs.2.2.2.2.1⟩, e⟩
  refine ⟨by omega, by rw [hO, if_neg (by omega)]; exact Nat.le_refl _, ?_⟩
  have k := bs.2.1.1 (a - gt_ m1) (by rw [len]; omega)
  rw [show gt_ m1 + (a - gt_ m1) = a by omega] at k
  rw [k]
  exact ck_k _ (by omega)
theorem kd_nil : Kd (bw []) 0 0 = 0 := by decide +kernel
theorem rd_pos {w : List Nat} {j c : Nat} (h : sLp (bw w) w.length 900 0 0 z0s z0q = .inr (j, c, s, q)) (h0 : 2 ≤ cN s 0) : 0 < w.length := by
  refine Nat.pos_of_ne_zero fun z => ?_
  have : w = [] := List.length_eq_zero_iff.mp z
  subst this
  have e : sLp (bw []) ([] : List Nat).length (899 + 1) 0 0 z0s z0q = .inr (0, 0, z0s, z0q) := by
    rw [sLp]
    exact if_pos kd_nil
  have e2 : (Sum.inr (0, 0, z0s, z0q) : Er ⊕ _) = .inr (j, c, s, q) := e.symm.trans h
  injection e2 with e2
  have e3 : z0s = s := congrArg (fun y => y.2.2.1) e2
  rw [← e3, cN_z] at h0
  omega
theorem x411 (hK : KS sa m sv) (hg : ge_ m = true) (h0 : 0 < gt_ m) (kl : (gk_ m b).1 = 7) (kl2 : (gk_ m b).2 < 2 ^ 20) (hb : b < gt_ m) : ∃ m', r411 sa sv (d + 11) 0 [some (.ref b), none, none, none] [] m = some (.inl (some (.int (nI 1))), m') ∧ Ex (fun _ => True) 9612 4240898 m m' := by
  obtain ⟨m1, x, ow, s, q, l, tx, e1, w1, K1, gt1, gl1, ⟨t1, t2, t3, t4, t5, t6, t7⟩, p2, p5, p1, p4, pa, pd, pl, pow, px, x1⟩ := x285 (sa := sa) (d := d) hK hg h0 kl kl2 hb
  have hl : LM s q := ⟨gl1, ⟨p2, p5⟩, ⟨p1, p4⟩, pa, by omega, gt1.sm.1⟩
  have g1 : ge_ m1 = true := x1.ge.trans hg
  have h01 : 0 < gt_ m1 := Nat.lt_of_lt_of_le h0 x1.gt
  have esa : gr_ m1 sv 0 = sa := (K1.2.2.2.1 0 (by decide)).2.2.2
  have hT : TXm m1 sa := by
    have := K1.str (i := 0) (by decide)
    rw [esa] at this; exact this
  have hsv : sa < gt_ m1 ∧ gr_ m1 sa 0 < gt_ m1 := by
    obtain ⟨a1, a2, a3, a4, a5, a6⟩ := K1.2.2.1 0 (by decide)
    rw [esa] at a1 a4
    exact ⟨a1, a4⟩
  obtain ⟨m2, Lq, e2, bs, hLq⟩ := n150 (sa := sa) (sv := sv) (d := d + 7) g1 h01 hT hsv
  obtain ⟨O, j2, x2⟩ := JT.new w1 K1 hl bs hLq
  have no : ∀ y, ¬ NoP y := fun _ y => y
  have xl : x < gt_ m1 := w1.x.2.1
  have rx : gr_ m2 x = gr_ m1 x := x2.r xl (no _)
  have ix : gi_ m2 x = gi_ m1 x := x2.i xl (no _)
  obtain ⟨w, ew, hw, c, j, hr⟩ := gt1.read (by omega)
  have hwl : w.length = l.length := by rw [ew, List.length_map]
  obtain ⟨S2, sg2⟩ := t3.exr ⟨t6, t7⟩ x2 ⟨no _, no _⟩
  rw [ew] at S2
  have gt2 := x2.gt
  obtain ⟨m3, ow3, e3, j3, x3⟩ := x294 (sa := sa) (d := d + 7) (t := tx) j2 rfl hl hw S2 ⟨by omega, by rw [sg2]; omega⟩ ⟨fun y => by unfold InC at y; omega, fun y => by rw [sg2] at y; unfold InC at y; omega⟩ (rd_pos hr p2) (by omega)
  have e4 := x154 (sa := sa) (sv := sv) (d := d + 3) j3.tc (s0 := z0s) (q0 := z0q) (fun _ _ => rfl) (fun _ _ => rfl)
  have hr' : sLp (Xz0.wB (bw w) w.length).b (Xz0.wB (bw w) w.length).n 900 0 0 z0s z0q = .inr (j, c, s, q) := hr
  rw [hr'] at e4
  obtain ⟨m4, e4, f4, tc4, kd4, wg4⟩ := e4
  have g4 : XG 0 (((X157 (Xz0.wB (bw w) w.length)).wS s q).wH 0 (Xz0.wB (bw w) w.length).ps (Xz0.wB (bw w) w.length).pq) := XG.wH0 (XG.wS (((j3.xg.wB (Xz0.wB (bw w) w.length).b 0).wE (nI 0) (-1) (nI 0))) wg4) _ _
  obtain ⟨j4, x4⟩ := j3.fr hl f4 tc4 g4 (by decide)
  have j4' := j4.re rfl rfl
  have hd4 : cN s 4 = 0 := by
    have := gt1.sm.2.2.1 4 (by decide) (by decide)
    show (s 4).toNatClampNeg = 0
    rw [this]; rfl
  have hC : WC s := wf_c wg4.1
  have hp : PI s q := PI.new gt1.ae gt1.sm.2.1 hC
  have y2 : Ex (fun _ => True) (3300 + 243) (3500000 + cz_) m m2 := x1.trans (x2.mono (P' := fun _ => True) (fun _ _ _ => trivial) (Nat.le_refl _) (Nat.le_refl _)) (fun _ _ z => z)
  have y4 := (y2.trans x3 (fun _ _ _ => trivial)).trans x4 (fun _ _ _ => trivial)
  have kb : gk_ m4 b = gk_ m b := y4.k hb
  obtain ⟨m5, e5, x5⟩ := x411_44 (sa := sa) (sv := sv) (d := d + 1) (b := b) (N := gt_ m1) (x := x) 12 0 m4 ow3 _ (by omega) j4' hl hp rfl (by show cN s 4 ≤ _; omega) (by rw [kb]; exact .inr kl) (by rw [kb]; exact kl2) (Nat.lt_of_lt_of_le hb y4.gt)
  obtain ⟨Lw, ⟨⟨cw, hcw⟩, a1, a0⟩, a2, a3⟩ := j4.ws.wk
  have ez := x233 (sa := sa) (sv := sv) (d := d + 10) hcw
  obtain ⟨es1, b1⟩ := (wc_nw hC).c (by decide)
  have hcz : cz_ = 20433 := rfl
  refine ⟨m5, ?_, (y4.trans x5 (fun _ _ z => z)).mono (fun _ _ z => z) (by omega) (by omega)⟩
  rw [b411_0, e1, cr_v, gq_pos g1, e2, c0_v, gq_pos ⟨j2.ws.k, by rw [ix]; exact t2⟩, rx, t1, e3, ci_v, gb_neg (by decide), gq_pos j3.k0, e4, ci_v, gq_pos ⟨j4.ws.k, a1.2.2⟩, gq_pos hcw.1, ez, ci_v, gb_pos (by rw [a2]; exact es1)]
  exact e5
end J8
