/-! a World is grown: the whole -/
section G8
variable {sa sv d x b t : Nat} {m m' : am_M} {ow : Nat → Nat} {s : Nat → Int32} {q : Nat → Int64} {l : List Int32}
theorem x285_114 {l0 : Nat} : ∀ (k : Nat) (m : am_M) (t : Nat) (ow : Nat → Nat) (s : Nat → Int32) (q : Nat → Int64) (l : List Int32), GS sa m sv x b t ow s q l → GT l s q → (∀ y, gt_ m ≤ y → 300 ≤ ow y) → cN s 1 + k ≤ 4 → 2 ≤ cN s 0 →  l.length + 125 * k ≤ 700 → t + 33 * k < 2 ^ 19 → ∃ m' t' ow' s' q' l', r285 sa sv (d + 10) 114 [some (.ref l0), some (.ref x), some (.ref b), some (.int (nI k))] [] m = r285 sa sv (d + 10) 114 [some (.ref l0), some (.ref x), some (.ref b), some (.int (nI 0))] [] m' ∧ GS sa m' sv x b t' ow' s' q' l' ∧ GT l' s' q' ∧ (∀ y, y < gt_ m → ow' y = ow y) ∧ (∀ y, gt_ m' ≤ y → 300 ≤ ow' y) ∧ cN s' 1 = cN s 1 + k ∧ (∀ j, j < 18 → ¬ j = 1 → s' j = s j) ∧ t' ≤ t + 33 * k ∧ l'.length ≤ l.length + 125 * k ∧ Ex (fun _ => True) (300 * k) (330000 * k) m m' := by
  intro k
  induction k with
  | zero =>
    intro m t ow s q l h hT h3 _ _  _ _
    exact ⟨m, t, ow, s, q, l, rfl, h, hT, fun _ _ => rfl, h3, rfl, fun _ _ _ => rfl, Nat.le_refl _, Nat.le_refl _, Ex.refl _ _⟩
  | succ k ih =>
    intro m t ow s q l h hT h3 hc hnp  hl ht
    have em : nI (k + 1) + (-1 : Int32) = nI k := by rw [nI_p_1 (by omega)]; rfl
    obtain ⟨m1, t1, ow1, s1, q1, l1, r1, r2, r3, r4, r5, r6, r7, r8, r9, r10⟩ := x282 (sa := sa) (d := d) h hT h3 rfl (by omega) (by omega) (by omega) (by omega)
    have c : ∀ j, j < 18 → ¬ j = 1 → cN s1 j = cN s j := fun j h1 h2 => cN_cg (r8 j h1 h2)
    have g1 := r10.gt
    obtain ⟨m', t', ow', s', q', l', u1, u2, u3, u4, u5, u6, u7, u8, u9, u10⟩ := ih m1 t1 ow1 s1 q1 l1 r2 r3 r5 (by omega) (by rw [c 0 (by omega) (by omega)]; exact hnp)  (by omega) (by omega)
    refine ⟨m', t', ow', s', q', l', ?_, u2, u3, fun y hy => (u4 y (by omega)).trans (r4 y hy), u5, by omega, fun j h1 h2 => (u7 j h1 h2).trans (r8 j h1 h2), by omega, by omega, (r10.trans u10 (fun _ _ z => z)).mono (fun _ _ z => z) (by omega) (by omega)⟩
    rw [b285_114, gb_neg (by rw [nI_le0 (by omega)]; omega), gq_pos h.xn.1, r1, c0_v, em]
    exact u1
theorem x285_135 {l0 : Nat} : ∀ (k : Nat) (m : am_M) (t : Nat) (ow : Nat → Nat) (s : Nat → Int32) (q : Nat → Int64) (l : List Int32), GS sa m sv x b t ow s q l → GT l s q → (∀ y, gt_ m ≤ y → 300 ≤ ow y) → cN s 2 + k ≤ 3 → 2 ≤ cN s 0 → 1 ≤ cN s 1 → l.length + 47 * k ≤ 850 → t + 33 * k < 2 ^ 19 → ∃ m' t' ow' s' q' l', r285 sa sv (d + 10) 135 [some (.ref l0), some (.ref x), some (.ref b), some (.int (nI k))] [] m = r285 sa sv (d + 10) 135 [some (.ref l0), some (.ref x), some (.ref b), some (.int (nI 0))] [] m' ∧ GS sa m' sv x b t' ow' s' q' l' ∧ GT l' s' q' ∧ (∀ y, y < gt_ m → ow' y = ow y) ∧ (∀ y, gt_ m' ≤ y → 300 ≤ ow' y) ∧ cN s' 2 ≤ cN s 2 + k ∧ (∀ j, j < 18 → ¬ j = 2 → s' j = s j) ∧ t' ≤ t + 33 * k ∧ l'.length ≤ l.length + 47 * k ∧ Ex (fun _ => True) (300 * k) (330000 * k) m m' := by
  intro k
  induction k with
  | zero =>
    intro m t ow s q l h hT h3 _ _ _ _ _
    exact ⟨m, t, ow, s, q, l, rfl, h, hT, fun _ _ => rfl, h3, Nat.le_refl _, fun _ _ _ => rfl, Nat.le_refl _, Nat.le_refl _, Ex.refl _ _⟩
  | succ k ih =>
    intro m t ow s q l h hT h3 hc hnp hnw hl ht
    have em : nI (k + 1) + (-1 : Int32) = nI k := by rw [nI_p_1 (by omega)]; rfl
    obtain ⟨m1, t1, ow1, s1, l1, r1, r2, r3, r4, r5, r6, r7, r8, r9, r10⟩ := x286 (sa := sa) (d := d) h hT h3 (by omega) hnp hnw (by omega) (by omega)
    have c : ∀ j, j < 18 → ¬ j = 2 → cN s1 j = cN s j := fun j h1 h2 => cN_cg (r8 j h1 h2)
    have g1 := r10.gt
    obtain ⟨m', t', ow', s', q', l', u1, u2, u3, u4, u5, u6, u7, u8, u9, u10⟩ := ih m1 t1 ow1 s1 q l1 r2 r3 r5 (by omega) (by rw [c 0 (by omega) (by omega)]; exact hnp) (by rw [c 1 (by omega) (by omega)]; exact hnw) (by omega) (by omega)
    refine ⟨m', t', ow', s', q', l', ?_, u2, u3, fun y hy => (u4 y (by omega)).trans (r4 y hy), u5, by omega, fun j h1 h2 => (u7 j h1 h2).trans (r8 j h1 h2), by omega, by omega, (r10.trans u10 (fun _ _ z => z)).mono (fun _ _ z => z) (by omega) (by omega)⟩
    rw [b285_135, gb_neg (by rw [nI_le0 (by omega)]; omega), gq_pos h.xn.1, r1, c0_v, em]
    exact u1
theorem x285_156 {l0 : Nat} : ∀ (k : Nat) (m : am_M) (t : Nat) (ow : Nat → Nat) (s : Nat → Int32) (q : Nat → Int64) (l : List Int32), GS sa m sv x b t ow s q l → GT l s q → (∀ y, gt_ m ≤ y → 300 ≤ ow y) → cN s 3 + k ≤ 3 → 2 ≤ cN s 0 → 1 ≤ cN s 1 → l.length + 40 * k ≤ 900 → t + 33 * k < 2 ^ 19 → ∃ m' t' ow' s' q' l', r285 sa sv (d + 10) 156 [some (.ref l0), some (.ref x), some (.ref b), some (.int (nI k))] [] m = r285 sa sv (d + 10) 156 [some (.ref l0), some (.ref x), some (.ref b), some (.int (nI 0))] [] m' ∧ GS sa m' sv x b t' ow' s' q' l' ∧ GT l' s' q' ∧ (∀ y, y < gt_ m → ow' y = ow y) ∧ (∀ y, gt_ m' ≤ y → 300 ≤ ow' y) ∧ cN s' 3 = cN s 3 + k ∧ (∀ j, j < 18 → ¬ j = 3 → s' j = s j) ∧ t' ≤ t + 33 * k ∧ l'.length ≤ l.length + 40 * k ∧ Ex (fun _ => True) (300 * k) (330000 * k) m m' := by
  intro k
  induction k with
  | zero =>
    intro m t ow s q l h hT h3 _ _ _ _ _
    exact ⟨m, t, ow, s, q, l, rfl, h, hT, fun _ _ => rfl, h3, rfl, fun _ _ _ => rfl, Nat.le_refl _, Nat.le_refl _, Ex.refl _ _⟩
  | succ k ih =>
    intro m t ow s q l h hT h3 hc hnp hnw hl ht
    have em : nI (k + 1) + (-1 : Int32) = nI k := by rw [nI_p_1 (by omega)]; rfl
    obtain ⟨m1, t1, ow1, s1, l1, r1, r2, r3, r4, r5, r6, r7, r8, r9, r10⟩ := x287 (sa := sa) (d := d) h hT h3 (by omega) hnp hnw (by omega) (by omega)
    have c : ∀ j, j < 18 → ¬ j = 3 → cN s1 j = cN s j := fun j h1 h2 => cN_cg (r8 j h1 h2)
    have g1 := r10.gt
    obtain ⟨m', t', ow', s', q', l', u1, u2, u3, u4, u5, u6, u7, u8, u9, u10⟩ := ih m1 t1 ow1 s1 q l1 r2 r3 r5 (by omega) (by rw [c 0 (by omega) (by omega)]; exact hnp) (by rw [c 1 (by omega) (by omega)]; exact hnw) (by omega) (by omega)
    refine ⟨m', t', ow', s', q', l', ?_, u2, u3, fun y hy => (u4 y (by omega)).trans (r4 y hy), u5, by omega, fun j h1 h2 => (u7 j h1 h2).trans (r8 j h1 h2), by omega, by omega, (r10.trans u10 (fun _ _ z => z)).mono (fun _ _ z => z) (by omega) (by omega)⟩
    rw [b285_156, gb_neg (by rw [nI_le0 (by omega)]; omega), gq_pos h.xn.1, r1, c0_v, em]
    exact u1
theorem WS.fr (h : WS m sv x ow s q) (hG : GLm s) (hna : cN s 2 ≤ 16) (hnd : cN s 3 ≤ 12) (hs : ¬ sv = x) {c v : Nat} (hc : 14 ≤ c) : WS (sr_ m x c v) sv x ow s q := by
  have rs : gr_ (sr_ m x c v) sv = gr_ m sv := funext fun k => by rw [gr_sr, if_neg (fun z => hs z.1)]
  have e : Xt m sv ow ow (fun t => t = 0) (fun y => y = x) 0 0 (sr_ m x c v) := ⟨(Ex.refl _ _).sr (.inr rfl), fun y _ e _ => by rw [e]; exact h.x.1, fun _ _ => rfl, rs⟩
  have rx : ∀ i, i < 14 → gr_ (sr_ m x c v) x i = gr_ m x i := fun i hi => by rw [gr_sr, if_neg (by omega)]
  have hG1 := hG.1
  obtain ⟨L1, a1, a2, a3⟩ := h.wk
  obtain ⟨L2, b1, b2, b3⟩ := h.as
  obtain ⟨L3, c1, c2, c3⟩ := h.ad
  obtain ⟨f8, d8⟩ := h.ca
  obtain ⟨f10, d10⟩ := h.cu
  obtain ⟨f11, d11⟩ := h.ea
  obtain ⟨L4, g1, g2, g3⟩ := h.st
  obtain ⟨L5, i1, i2⟩ := h.li
  refine ⟨h.k, h.x.xt e, h.np, h.day, h.cl, ⟨L1, by rw [rx 3 (by omega)]; exact (a1.xt e (by omega) (by omega)).1, a2, fun w hw => ?_⟩, ⟨L2, by rw [rx 4 (by omega)]; exact (b1.xt e (by omega) (by omega)).1, b2, fun y hy => (b3 y hy).xt e (by omega)⟩, ⟨L3, by rw [rx 5 (by omega)]; exact (c1.xt e (by omega) (by omega)).1, c2, fun y hy => (c3 y hy).xt e (by omega)⟩, by rw [rx 6 (by omega)]; exact h.le.xt e (by omega), by rw [rx 7 (by omega)]; exact h.ba.xt e (by omega), ⟨f8, by rw [rx 8 (by omega)]; exact d8.xt e (by omega)⟩, by rw [rx 9 (by omega)]; exact h.tot.xt e (by omega) (fun p hp => by omega), ⟨f10, by rw [rx 10 (by omega)]; exact d10.xt e (by omega) (fun p hp => by omega)⟩, ⟨f11, by rw [rx 11 (by omega)]; exact d11.xt e (by omega) (fun p hp => by omega)⟩, ⟨L4, by rw [rx 12 (by omega)]; exact (g1.xt e (by omega) (by omega)).1, g2, g3⟩, ⟨L5, by rw [rx 13 (by omega)]; exact (i1.xt e (by omega) (by omega)).1, i2⟩⟩
  obtain ⟨y1, y2⟩ := hG.2 w (by omega)
  exact (a3 w hw).xt e (fun k hk => by omega) y1 y2
theorem x285 (hK : KS sa m sv) (hg : ge_ m = true) (h0 : 0 < gt_ m) {l0 : Nat} (kl : (gk_ m l0).1 = 7) (kl2 : (gk_ m l0).2 < 2 ^ 20) (hl0 : l0 < gt_ m) : ∃ m' x ow s q l tx, am_ca sa sv (d + 11) 285 [.ref l0] m = some (.inl (some (.ref x)), m') ∧ WS m' sv x ow s q ∧ KS sa m' sv ∧ GT l s q ∧ GLm s ∧ (gr_ m' x 14 = tx ∧ gi_ m' x 14 = 1 ∧ SV m' tx l ∧ gk_ m' tx = (1, 14) ∧ 0 < tx ∧ tx < gt_ m' ∧ gr_ m' tx 0 < gt_ m') ∧ 2 ≤ cN s 0 ∧ cN s 0 ≤ 5 ∧ 1 ≤ cN s 1 ∧ cN s 1 ≤ 4 ∧ cN s 2 ≤ 3 ∧ cN s 3 ≤ 3 ∧ l.length ≤ 870 ∧ (∀ y, y < gt_ m → ow y = 300) ∧ gt_ m ≤ x ∧ Ex (fun _ => True) 3300 3500000 m m' := by
  have no : ∀ y, ¬ NoP y := fun _ y => y
  obtain ⟨m1, e1, W1, K1, x1, g1, i17⟩ := x275 (sa := sa) (d := d + 6) hK hg h0
  have z0 : GLm z0s := ⟨by rw [cN_z]; omega, fun w hw => absurd hw (by rw [cN_z]; omega)⟩
  have ksm := K1.2.1
  have hsx : ¬ sv = gt_ m := fun z => by
    have := W1.k
    rw [← z, ksm] at this
    exact absurd (congrArg (fun q => q.1) this) (by show ¬ 0 = 1; decide)
  have W2 := (W1.fr z0 (by rw [cN_z]; omega) (by rw [cN_z]; omega) hsx (c := 16) (v := l0) (by omega)).fld z0 (by rw [cN_z]; omega) (by rw [cN_z]; omega) (c := 16) (v := 1) (by omega)
  have E2 : Ex (fun y => y = gt_ m) 0 0 m1 (si_ (sr_ m1 (gt_ m) 16 l0) (gt_ m) 16 1) := ((Ex.refl (fun y => y = gt_ m) m1).sr (.inr rfl)).si (.inr rfl)
  have K2 := K1.xx E2 W1.k
  have hg2 : ge_ (si_ (sr_ m1 (gt_ m) 16 l0) (gt_ m) 16 1) = true := (x1.ge).trans hg
  have g2 : gt_ (si_ (sr_ m1 (gt_ m) 16 l0) (gt_ m) 16 1) = gt_ m1 := rfl
  have a16 : gi_ (si_ (sr_ m1 (gt_ m) 16 l0) (gt_ m) 16 1) (gt_ m) 16 = 1 := gi_si1 _ _ _ _
  have a17 : gi_ (si_ (sr_ m1 (gt_ m) 16 l0) (gt_ m) 16 1) (gt_ m) 17 = nI 0 := by rw [gi_si, if_neg (by omega)]; exact i17
  have b16 : gr_ (si_ (sr_ m1 (gt_ m) 16 l0) (gt_ m) 16 1) (gt_ m) 16 = l0 := by rw [gr_si, gr_sr, if_pos ⟨rfl, rfl⟩]
  have kl1 : gk_ (si_ (sr_ m1 (gt_ m) 16 l0) (gt_ m) 16 1) l0 = gk_ m l0 := x1.k hl0
  generalize hM2 : si_ (sr_ m1 (gt_ m) 16 l0) (gt_ m) 16 1 = M2 at W2 E2 K2 hg2 g2 a16 a17 b16 kl1
  obtain ⟨m3, e3, B3, x3, _⟩ := x220 (sa := sa) (sv := sv) (d := d + 8) (m := M2) (z := 4) hg2
  have K3 := K2.ex x3 NoP.nk
  have W3 := W2.xt (x3.xt0 (ow := ow0 (gt_ m)) K2.1) (fun t y => absurd y id) (by rw [cN_z]; omega) (fun w hw => absurd hw (by rw [cN_z]; omega)) (by rw [cN_z]; omega) (by rw [cN_z]; omega)
  have hx2 : gt_ m < gt_ M2 := by omega
  have g3 := x3.gt
  have X3 : XN m3 (gt_ m) 0 := by
    have ix := x3.i hx2 (no _)
    have rx := x3.r hx2 (no _)
    refine ⟨W3.k, by rw [ix]; exact a16, ?_, by rw [ix]; exact a17, by omega, by rw [rx, b16]; omega⟩
    rw [rx, b16, x3.k (by omega), kl1]
    exact ⟨kl, kl2⟩
  have G3 : GS sa m3 sv (gt_ m) (gt_ M2) 0 (ow0 (gt_ m)) z0s z0q [] := ⟨W3, X3, K3, B3, z0, WG_0, GT.nil.sm, by rw [cN_z]; omega, by rw [cN_z]; omega⟩
  have h3 : ∀ y, gt_ m3 ≤ y → 300 ≤ ow0 (gt_ m) y := fun y hy => by
    unfold ow0
    rw [if_neg (by omega)]
    unfold tg0
    rw [if_neg (by omega), if_neg (by omega), if_neg (by omega), if_neg (by omega), if_neg (by omega), if_neg (by omega), if_neg (by omega), if_neg (by omega), if_neg (by omega), if_neg (by omega), if_neg (by omega), if_neg (by omega), if_neg (by omega), if_neg (by omega), if_neg (by omega)]
    exact Nat.le_refl _
  have o3 : ∀ y, y < gt_ m → ow0 (gt_ m) y = 300 := fun y hy => if_pos hy
  obtain ⟨v, m4, hv, e4, G4, f4⟩ := G3.next (sa := sa) (d := d + 7) (n := 4) (by omega) (by omega) (by omega)
  have g4 := f4.1.gt
  obtain ⟨m5, t5, s5, q5, l5, e5, G5, T5, c5, d5, t5l, l5l, x5⟩ := x285_29 (sa := sa) (sv := sv) (d := d) (x := gt_ m) (b := gt_ M2) (l0 := l0) (2 + v) m4 (0 + 1) (ow0 (gt_ m)) z0s z0q [] G4 GT.nil (by rw [cN_z]; omega) (by show 0 + 21 * (2 + v) ≤ 500; omega) (by omega)
  rw [cN_z] at c5
  have cz : ∀ j, 1 ≤ j → j < 4 → cN s5 j = 0 := fun j h1 h2 => by rw [cN_cg (d5 j h1 h2), cN_z]
  have g5 := x5.gt
  have l5l' : l5.length ≤ 21 * (2 + v) := by
    have : ([] : List Int32).length = 0 := rfl
    omega
  obtain ⟨v6, m6, hv6, e6, G6, f6⟩ := G5.next (sa := sa) (d := d + 7) (n := 4) (by omega) (by omega) (by omega)
  have g6 := f6.1.gt
  have c51 := cz 1 (by omega) (by omega)
  have c52 := cz 2 (by omega) (by omega)
  have c53 := cz 3 (by omega) (by omega)
  obtain ⟨m7, t7, ow7, s7, q7, l7, e7, G7, T7, o7, h7, c7, d7, t7l, l7l, x7⟩ := x285_114 (sa := sa) (sv := sv) (d := d) (x := gt_ m) (b := gt_ M2) (l0 := l0) (1 + v6) m6 (t5 + 1) (ow0 (gt_ m)) s5 q5 l5 G6 T5 (fun y hy => h3 y (by omega)) (by omega) (by omega) (by omega) (by omega)
  have k7 : ∀ j, j < 18 → ¬ j = 1 → cN s7 j = cN s5 j := fun j h1 h2 => cN_cg (d7 j h1 h2)
  have g7 := x7.gt
  obtain ⟨v8, m8, hv8, e8, G8, f8⟩ := G7.next (sa := sa) (d := d + 7) (n := 4) (by omega) (by omega) (by omega)
  have g8 := f8.1.gt
  have c70 := k7 0 (by omega) (by omega)
  have c72 := k7 2 (by omega) (by omega)
  have c73 := k7 3 (by omega) (by omega)
  obtain ⟨m9, t9, ow9, s9, q9, l9, e9, G9, T9, o9, h9, c9, d9, t9l, l9l, x9⟩ := x285_135 (sa := sa) (sv := sv) (d := d) (x := gt_ m) (b := gt_ M2) (l0 := l0) v8 m8 (t7 + 1) ow7 s7 q7 l7 G8 T7 (fun y hy => h7 y (by omega)) (by omega) (by omega) (by omega) (by omega) (by omega)
  have k9 : ∀ j, j < 18 → ¬ j = 2 → cN s9 j = cN s7 j := fun j h1 h2 => cN_cg (d9 j h1 h2)
  have g9 := x9.gt
  obtain ⟨va, ma, hva, ea, Ga, fa⟩ := G9.next (sa := sa) (d := d + 7) (n := 4) (by omega) (by omega) (by omega)
  have ga := fa.1.gt
  have c90 := k9 0 (by omega) (by omega)
  have c91 := k9 1 (by omega) (by omega)
  have c93 := k9 3 (by omega) (by omega)
  obtain ⟨mb, tb, owb, sb, qb, lb, eb', Gb, Tb, ob, hb, cb, db, tbl, lbl, xb⟩ := x285_156 (sa := sa) (sv := sv) (d := d) (x := gt_ m) (b := gt_ M2) (l0 := l0) va ma (t9 + 1) ow9 s9 q9 l9 Ga T9 (fun y hy => h9 y (by omega)) (by omega) (by omega) (by omega) (by omega) (by omega)
  have kb : ∀ j, j < 18 → ¬ j = 3 → cN sb j = cN s9 j := fun j h1 h2 => cN_cg (db j h1 h2)
  have gb := xb.gt
  have cb0 := kb 0 (by omega) (by omega)
  have cb1 := kb 1 (by omega) (by omega)
  have cb2 := kb 2 (by omega) (by omega)
  obtain ⟨mc, ec, sc, _, xc, rc, rc2, kc, _⟩ := x224 (sa := sa) (sv := sv) (d := d + 4) Gb.sb (by omega)
  have Gc := Gb.no xc
  have gc := xc.gt
  have hbx := Gb.xn.2.2.2.2.1
  have Wd := (Gc.ws.fr Gc.gl (by have := Gc.na; omega) (by have := Gc.nd; omega) hsx (c := 14) (v := gt_ mb) (by omega)).fld Gc.gl (by have := Gc.na; omega) (by have := Gc.nd; omega) (c := 14) (v := 1) (by omega)
  have Ed : Ex (fun y => y = gt_ m) 0 0 mc (si_ (sr_ mc (gt_ m) 14 (gt_ mb)) (gt_ m) 14 1) := ((Ex.refl (fun y => y = gt_ m) mc).sr (.inr rfl)).si (.inr rfl)
  have Kd' := Gc.ks.xx Ed Gc.xn.1
  have ntx : ¬ gt_ mb = gt_ m := by omega
  have ntv : ¬ gr_ mc (gt_ mb) 0 = gt_ m := by omega
  have rt : gr_ (si_ (sr_ mc (gt_ m) 14 (gt_ mb)) (gt_ m) 14 1) (gt_ mb) = gr_ mc (gt_ mb) := Ed.r (by omega) ntx
  refine ⟨_, gt_ m, owb, sb, qb, lb, gt_ mb, ?_, Wd, Kd', Tb, Gb.gl, ⟨by rw [gr_si, gr_sr, if_pos ⟨rfl, rfl⟩], gi_si1 _ _ _ _, ?_, kc, by omega, ?_, ?_⟩, by omega, by omega, by omega, by omega, by omega, by omega, by omega, fun y hy => ?_, Nat.le_refl _, ?_⟩
  · rw [c285, b285_0, gq_pos hg, e1, c0_v, gq_pos W1.k, gq_pos ((x1.ge).trans hg), hM2, show gt_ m1 = gt_ M2 from g2.symm, e3, c0_v, gq_pos W3.k, e4, ci_v, nI_add, e5, b285_29, gb_pos (by decide), gq_pos G5.xn.1, e6, ci_v, nI_add, e7, b285_114, gb_pos (by decide), gq_pos G7.xn.1, e8, ci_v, e9, b285_135, gb_pos (by decide), gq_pos G9.xn.1, ea, ci_v, eb', b285_156, gb_pos (by decide), gq_pos Gb.kb, ec, cr_v, gq_pos Gc.xn.1]
  · exact sc.cg (Ed.k (by omega)) (Ed.i (by omega) ntx) (Ed.r (by omega) ntx) (Ed.k (by omega)) (Ed.i (by omega) ntv)
  · show gt_ mb < gt_ mc
    omega
  · rw [rt]
    exact rc2
  · rw [ob y (by omega), o9 y (by omega), o7 y (by omega)]
    exact o3 y hy
  · have t1 : ∀ {P : Nat → Prop} {n z : Nat} {A B : am_M}, Ex P n z A B → Ex (fun _ => True) n z A B := fun e => e.mono (fun _ _ _ => trivial) (Nat.le_refl _) (Nat.le_refl _)
    have cc : ∀ {n z n' z' : Nat} {A B C : am_M}, Ex (fun _ => True) n z A B → Ex (fun _ => True) n' z' B C → Ex (fun _ => True) (n + n') (z + z') A C := fun a b => a.trans b (fun _ _ z => z)
    have y1 := cc (cc (cc (cc (t1 x1) (t1 E2)) (t1 x3)) f4.tr) x5
    have y2 := cc (cc (cc (cc y1 f6.tr) x7) f8.tr) x9
    exact (cc (cc (cc (cc y2 fa.tr) xb) (t1 xc)) (t1 Ed)).mono (fun _ _ z => z) (by omega) (by omega)
end G8
