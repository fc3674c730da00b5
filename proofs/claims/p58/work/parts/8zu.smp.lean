/-! the generator's sample -/
section G8
variable {sa sv d x b t w it : Nat} {m m' m1 : am_M} {ow : Nat → Nat} {s : Nat → Int32} {q : Nat → Int64} {l : List Int32}
theorem GS.fi (h : GS sa m sv x b t ow s q l) (f : Fr (fun b _ => b = it) m m1) (ki : gk_ m it = (1, 16)) : GS sa m1 sv x b t ow s q l := by
  have hna := h.na
  have hnd := h.nd
  obtain ⟨n1, n2, n3, n4, n5, n6⟩ := h.xn
  have ne : ∀ {y : Nat} {k : Nat × Nat}, gk_ m y = k → ¬ k = (1, 16) → ¬ y = it := fun e1 e2 z => e2 (by rw [← e1, z, ki])
  have nx := ne n1 (by decide)
  have ns := ne h.ks.2.1 (by decide)
  have ev : ∀ y, ¬ y = it → gi_ m1 y = gi_ m y ∧ gr_ m1 y = gr_ m y := fun y hy => ⟨funext fun k => f.2.1 y k hy, funext fun k => f.2.2.2.1 y k hy⟩
  have kk : gk_ m1 = gk_ m := f.1.1
  have gg : gt_ m1 = gt_ m := f.1.2.1
  obtain ⟨c, h1, h3, h4, h5, h6, h7, h8, h9, h10, h11, h12, h13⟩ := h.sb
  have nb := ne h1 (by decide)
  have nv : ¬ gr_ m b 0 = it := ne h5 (fun z => absurd (congrArg (fun q => q.1) z) (by show ¬ 3 = 1; decide))
  obtain ⟨ix, rx⟩ := ev x nx
  obtain ⟨ib, rb⟩ := ev b nb
  obtain ⟨iv, _⟩ := ev _ nv
  refine ⟨(h.ws.fi h.gl (by omega) (by omega) f ki ns).2, ⟨by rw [kk]; exact n1, by rw [ix]; exact n2, by rw [rx, kk]; exact n3, by rw [ix]; exact n4, by omega, by rw [rx]; omega⟩, h.ks.ex (Ex.of (P := fun y => y = it) f (fun _ _ y => y)) (fun y _ z => by rw [z, ki]; exact ⟨by show ¬ 1 = 0; decide, by show ¬ 1 = 8; decide, by show ¬ 1 = 9; decide⟩), ⟨c, by rw [kk]; exact h1, by rw [ib]; exact h3, by rw [rb]; exact h4, by rw [rb, kk]; exact h5, h6, h7, by rw [ib]; exact h8, fun j hj => by rw [rb, iv]; exact h9 j hj, h10, by omega, by rw [rb]; omega, by rw [f.1.2.2.2.2]; exact h13⟩, h.gl, h.wg, h.sm, h.na, h.nd⟩
theorem x283_e {so sum is nn : Nat} (h : GS sa m sv x b t ow s q l) (hT : GT l s q) (h3 : ∀ y, gt_ m ≤ y → 300 ≤ ow y) (hw : w < cN s 1) (hn : cN s (59 + 48 * w) = nn) (hn2 : nn < 2) (hso : so < w) (hsum : sum_ (fun i => cN s (63 + 48 * w + i)) nn = sum) (hs9 : sum ≤ 90) (his : is = 0 ∨ is = 1 ∧ ∀ j, j < nn → ¬ cN s (60 + 48 * w + j) = so) (ki : gk_ m it = (1, 16)) (e0 : am_ca sa sv (d + 8) 245 [.ref it] m = some (.inl (some (.int (nI 0))), m)) (h2 : l.length + 70 ≤ 1000) (ht : t + 10 < 2 ^ 20) (o7 : Option Value) : ∃ m' t' ow' s' l', r283 sa sv (d + 8) 35 [some (.ref x), some (.ref b), some (.int (nI w)), some (.int (nI so)), some (.int (nI sum)), some (.int (nI is)), some (.ref it), o7] [] m = some (.inl none, m') ∧ GS sa m' sv x b t' ow' s' q l' ∧ GT l' s' q ∧ (∀ y, y < gt_ m → ow' y = ow y) ∧ (∀ y, gt_ m' ≤ y → 300 ≤ ow' y) ∧ t' ≤ t + 1 ∧ l'.length ≤ l.length + 22 ∧ (∀ k, k < 59 + 48 * w → s' k = s k) ∧ Ex (fun _ => True) 40 40000 m m' := by
  have hG1 := h.gl.1
  have hskip : ∃ m' t' ow' s' l', (some (.inl none, m) : Option am_R) = some (.inl none, m') ∧ GS sa m' sv x b t' ow' s' q l' ∧ GT l' s' q ∧ (∀ y, y < gt_ m → ow' y = ow y) ∧ (∀ y, gt_ m' ≤ y → 300 ≤ ow' y) ∧ t' ≤ t + 1 ∧ l'.length ≤ l.length + 22 ∧ (∀ k, k < 59 + 48 * w → s' k = s k) ∧ Ex (fun _ => True) 40 40000 m m' := ⟨m, t, ow, s, l, rfl, h, hT, fun _ _ => rfl, h3, by omega, by omega, fun _ _ => rfl, (Ex.refl _ _).mono (fun _ _ z => z) (by omega) (by omega)⟩
  rw [b283_35, gq_pos ki, e0, ci_v, gb_pos nI_0]
  rcases his with his | ⟨his, hne⟩
  · rw [his, gb_pos nI_0]
    exact hskip
  · rw [his, gb_neg (by decide)]
    by_cases q8 : sum ≤ 80
    · rw [gb_pos (by rw [nI_leI (by omega) (by omega)]; exact q8), gq_pos h.xn.1, nI_sub (show sum ≤ 90 by omega)]
      obtain ⟨v, M1, hv, e1, G1, f1⟩ := h.next (sa := sa) (d := d + 5) (n := 90 - sum) (by omega) (by omega) (by omega)
      have g1 := f1.1.gt
      have gt1 : gt_ M1 = gt_ m ∨ gt_ m ≤ gt_ M1 := .inr g1
      have hwh : whS s so w (1 + v) = 0 := by
        unfold whS
        rw [if_neg (by omega), if_neg (fun z => ?_), hn, hsum, if_pos (by omega)]
        rw [orF_tb, hn] at z
        obtain ⟨j, hj, hz⟩ := of_decide_eq_true z
        exact hne j hj hz
      have hT8 := hT.sa hso hw (by omega) (by omega) (by omega) hwh (ie := 8) (.inr rfl)
      rw [hn] at hT8
      obtain ⟨L1, a1, a2, a3⟩ := G1.ws.wk
      have hwL : w < L1.length := by omega
      obtain ⟨o1, o2, _, ⟨Lo, q1, q2, q3⟩⟩ := a3 w hwL
      have a1' := a1
      obtain ⟨⟨c1, hc1⟩, tg1, _⟩ := a1'
      have q1' := q1
      obtain ⟨⟨c2, hc2⟩, tg2, _⟩ := q1'
      have e2 := x236 (sa := sa) (d := d + 5) hc1 hwL
      have hg : ge_ M1 = true := G1.sb.kb.2.2.2.2
      have xa : Ex NoP 1 2 M1 (si_ (si_ (al_ M1 (2, 2) 2) (gt_ M1) 0 (nI so)) (gt_ M1) 1 (nI (1 + v))) := ((Ex.al _ _ _).si (.inl (Nat.le_refl _))).si (.inl (Nat.le_refl _))
      have ka : gk_ (al_ M1 (2, 2) 2) (gt_ M1) = (2, 2) := gk_al M1 _ _
      have kb2 : gk_ (al_ M1 (2, 2) 2) (gr_ M1 (L1.getD w 0) 1) = (1, 15) := (gk_alo _ _ _ tg2.2.1).trans hc2.1
      have G2 := G1.no xa
      have k2 : gk_ (si_ (si_ (al_ M1 (2, 2) 2) (gt_ M1) 0 (nI so)) (gt_ M1) 1 (nI (1 + v))) (gt_ M1) = (2, 2) := ka
      have v0 : gi_ (si_ (si_ (al_ M1 (2, 2) 2) (gt_ M1) 0 (nI so)) (gt_ M1) 1 (nI (1 + v))) (gt_ M1) 0 = nI so := by rw [gi_si, if_neg (by omega), gi_si1]
      have v1 : gi_ (si_ (si_ (al_ M1 (2, 2) 2) (gt_ M1) 0 (nI so)) (gt_ M1) 1 (nI (1 + v))) (gt_ M1) 1 = nI (1 + v) := gi_si1 _ _ _ _
      have g2 : gt_ (si_ (si_ (al_ M1 (2, 2) 2) (gt_ M1) 0 (nI so)) (gt_ M1) 1 (nI (1 + v))) = gt_ M1 + 1 := rfl
      generalize hM2 : si_ (si_ (al_ M1 (2, 2) 2) (gt_ M1) 0 (nI so)) (gt_ M1) 1 (nI (1 + v)) = M2 at xa G2 k2 v0 v1 g2
      have no : ∀ y, ¬ NoP y := fun _ y => y
      have hx1 := G1.xn.2.2.2.2.1
      have rx : gr_ M2 x = gr_ M1 x := xa.r hx1 (no _)
      obtain ⟨o, M3, ow3', p1, p2, p3, pu, e3, G3, u1, u2, x3⟩ := G2.wsrc (sa := sa) (d := d + 2) hw hn hn2 (r := gt_ M1) (so := so) (pc := 1 + v) k2 (by omega) (h3 _ (by omega)) (by omega) v0 v1 hT8.wg hT8.sm
      have hoe : L1.getD w 0 = o := by
        refine pu M1 L1 c1 (by rw [rx]; exact hc1) ?_ hwL
        rw [rx, xa.r hc1.2.2.2.2.2.2.2.2.1 (no _), xa.r hc1.2.2.2.2.2.2.2.2.2.1 (no _)]
      rw [hoe] at e2 o1 tg2 kb2
      have hol : o < gt_ M1 := by
        have := o2.2.1
        rw [hoe] at this
        exact this
      have ro : gr_ M2 o = gr_ M1 o := xa.r hol (no _)
      rw [ro] at e3
      have l16 : (kb_ 16).length = 7 := by rw [kb16]; rfl
      have l17 : (kb_ 17).length = 4 := by rw [kb17]; rfl
      have l12 : (kb_ 12).length = 1 := by rw [kb12]; rfl
      have lnw : ∀ p, (nm_ 10 p).length = 2 := fun p => nm_len (.inr rfl)
      obtain ⟨M4, e4, G4, f4⟩ := G3.c (sa := sa) (d := d + 3) (i := 16) (by omega) (by omega)
      obtain ⟨M5', a5, M5, e5, k5, e5', G5, f5⟩ := G4.w_ (sa := sa) (d := d + 1) (p := so) (by omega) (by rw [List.length_append, l16]; omega)
      obtain ⟨M6, e6, G6, f6⟩ := G5.c (sa := sa) (d := d + 3) (i := 17) (by omega) (by rw [List.length_append, List.length_append, l16, lnw, l17]; omega)
      obtain ⟨M7', a7, M7, e7, k7, e7', G7, f7⟩ := G6.w_ (sa := sa) (d := d + 1) (p := w) (by omega) (by rw [List.length_append, List.length_append, List.length_append, l16, lnw, l17]; omega)
      obtain ⟨M8, e8, G8, f8⟩ := G7.c (sa := sa) (d := d + 3) (i := 12) (by omega) (by rw [List.length_append, List.length_append, List.length_append, List.length_append, l16, lnw, lnw, l17, l12]; omega)
      obtain ⟨M9, e9, G9, f9⟩ := G8.n_ (sa := sa) (d := d + 3) (v := 1 + v) (by omega) (by rw [List.length_append, List.length_append, List.length_append, List.length_append, List.length_append, l16, lnw, lnw, l17, l12]; omega)
      have hd3 := dg_len3 (show 1 + v < 1000 by omega)
      have hlen : (l ++ kb_ 16 ++ nm_ 10 so ++ kb_ 17 ++ nm_ 10 w ++ kb_ 12 ++ dg_ (1 + v)).length ≤ l.length + 19 := by
        rw [List.length_append, List.length_append, List.length_append, List.length_append, List.length_append, List.length_append, l16, l17, l12, lnw, lnw]
        omega
      obtain ⟨ie, M10, hie, e10, G10, f10⟩ := G9.end_ (sa := sa) (d := d + 2) (by omega)
      have hT9 := hT.sa hso hw (by omega) (by omega) (by omega) hwh hie
      rw [hn] at hT9
      have el : l ++ kb_ 16 ++ nm_ 10 so ++ kb_ 17 ++ nm_ 10 w ++ kb_ 12 ++ dg_ (1 + v) ++ kb_ ie = l ++ (kb_ 16 ++ (nm_ 10 so ++ (kb_ 17 ++ (nm_ 10 w ++ (kb_ 12 ++ (dg_ (1 + v) ++ kb_ ie)))))) := by simp only [List.append_assoc]
      have hle : (kb_ ie).length ≤ 3 := by
        rcases hie with y | y <;> rw [y]
        · exact Nat.le_refl _
        · show 1 ≤ 3
          omega
      have g3 := x3.gt
      have g4 := f4.1.gt
      have g5 := f5.1.gt
      have g6 := f6.1.gt
      have g7 := f7.1.gt
      have g8 := f8.1.gt
      have g9 := f9.1.gt
      have g10 := f10.1.gt
      refine ⟨M10, t + 1, ow3', _, _, ?_, G10, by rw [el]; exact hT9, fun y hy => u1 y (by omega) (by omega), fun y hy => u2 y (by omega), Nat.le_refl _, ?_, fun k hk => ?_, ?_⟩
      · rw [e1, ci_v, gq_pos ⟨G1.xn.1, tg1.2.2⟩, gq_pos hc1.1, e2, cr_v, o1, gq_pos ⟨rfl, fun _ => rfl⟩, gq_pos ⟨rfl, tg2.2.2⟩, nI_clamp (show 2 < 2 ^ 31 by omega), nI_clamp (show 0 < 2 ^ 31 by omega), nI_clamp (show 1 < 2 ^ 31 by omega), gq_pos ⟨by decide, by omega, hg⟩, ka, gq_pos ⟨rfl, in_of (show 0 < 2 by omega) (by omega)⟩, gq_pos ⟨rfl, in_of (show 1 < 2 by omega) (by omega)⟩, gq_pos kb2, nI_add, hM2, e3, ci_v, gq_pos G3.kb, e4, cr_v, e5, cr_v, gq_pos k5, e5', cr_v, gq_pos G5.kb, e6, cr_v, e7, cr_v, gq_pos k7, e7', cr_v, gq_pos G7.kb, e8, cr_v, gq_pos G8.kb, e9, cr_v, gq_pos G9.xn.1, e10, c0_v]
      · rw [List.length_append]
        omega
      · unfold srcU
        rw [if_neg (by omega), if_neg (by omega), if_neg (by omega)]
      · have y2 : Ex (fun _ => True) 1 2 M1 M2 := xa.mono (fun _ _ _ => trivial) (Nat.le_refl _) (Nat.le_refl _)
        exact (((((((((f1.tr.trans y2 (fun _ _ z => z)).trans x3 (fun _ _ z => z)).trans f4.tr (fun _ _ z => z)).trans f5.tr (fun _ _ z => z)).trans f6.tr (fun _ _ z => z)).trans f7.tr (fun _ _ z => z)).trans f8.tr (fun _ _ z => z)).trans f9.tr (fun _ _ z => z)).trans f10.tr (fun _ _ z => z)).mono (fun _ _ z => z) (by omega) (by omega)
    · rw [gb_neg (by rw [nI_leI (by omega) (by omega)]; exact q8)]
      exact hskip
theorem x283 (h : GS sa m sv x b t ow s q l) (hT : GT l s q) (h3 : ∀ y, gt_ m ≤ y → 300 ≤ ow y) (hw : w < cN s 1) (hw0 : 0 < w) (hn2 : cN s (59 + 48 * w) < 2) (h2 : l.length + 70 ≤ 1000) (ht : t + 20 < 2 ^ 20) : ∃ m' t' ow' s' l', am_ca sa sv (d + 9) 283 [.ref x, .ref b, .int (nI w)] m = some (.inl none, m') ∧ GS sa m' sv x b t' ow' s' q l' ∧ GT l' s' q ∧ (∀ y, y < gt_ m → ow' y = ow y) ∧ (∀ y, gt_ m' ≤ y → 300 ≤ ow' y) ∧ t' ≤ t + 2 ∧ l'.length ≤ l.length + 22 ∧ (∀ k, k < 59 + 48 * w → s' k = s k) ∧ Ex (fun _ => True) 50 50000 m m' := by
  have hG1 := h.gl.1
  have hW := h.wg.1.2.1
  obtain ⟨so, M1, hso, e1, G1, f1⟩ := h.next (sa := sa) (d := d + 5) (n := w) (by omega) hw0 (by omega)
  have g1 := f1.1.gt
  obtain ⟨L1, a1, a2, a3⟩ := G1.ws.wk
  have hwL : w < L1.length := by omega
  obtain ⟨o1, o2, _, ⟨Lo, q1, q2, q3⟩⟩ := a3 w hwL
  obtain ⟨⟨c1, hc1⟩, tg1, _⟩ := a1
  have q1' := q1
  obtain ⟨⟨c2, hc2⟩, tg2, _⟩ := q1'
  have e2 := x236 (sa := sa) (d := d + 5) hc1 hwL
  obtain ⟨M2, e3, I2, x2, g2⟩ := x243 (sa := sa) (sv := sv) (d := d + 6) hc2 (Nat.pos_of_ne_zero tg2.2.2)
  have G2 := G1.no x2
  have no : ∀ y, ¬ NoP y := fun _ y => y
  have hsv1 : sv < gt_ M1 := G1.ks.1
  obtain ⟨hc2', r2', i2'⟩ := hc2.no x2 hsv1
  have start : am_ca sa sv (d + 9) 283 [.ref x, .ref b, .int (nI w)] m = r283 sa sv (d + 8) 35 [some (.ref x), some (.ref b), some (.int (nI w)), some (.int (nI so)), some (.int (nI 0)), some (.int (nI 1)), some (.ref (gt_ M1)), none] [] M2 := by
    rw [c283, b283_0, gq_pos h.xn.1, e1, ci_v, gq_pos ⟨G1.xn.1, tg1.2.2⟩, gq_pos hc1.1, e2, cr_v, o1, gq_pos ⟨rfl, fun _ => rfl⟩, gq_pos ⟨rfl, tg2.2.2⟩, gq_pos hc2.1, e3, cr_v]
  have hz := Nat.pos_of_ne_zero tg2.2.2
  have e4 := x245 (sa := sa) (sv := sv) (d := d + 7) hc2' I2 hz (Nat.zero_le _)
  have y12 : Ex (fun _ => True) 1 4 m M2 := (f1.tr.trans x2 (fun _ _ z => absurd z id)).mono (fun _ _ z => z) (by omega) (by omega)
  by_cases hn : cN s (59 + 48 * w) = 0
  · rw [if_neg (show ¬ 0 < Lo.length by omega)] at e4
    obtain ⟨m', t', ow', s', l', r1, r2, r3, r4, r5, r6, r7, r8, r9⟩ := x283_e (sa := sa) (d := d) (so := so) (sum := 0) (is := 1) (nn := 0) G2 hT (fun y hy => h3 y (by omega)) hw hn (by omega) hso rfl (by omega) (.inr ⟨rfl, fun j hj => absurd hj (by omega)⟩) I2.1 e4 h2 (by omega) none
    exact ⟨m', t', ow', s', l', start.trans r1, r2, r3, fun y hy => r4 y (by omega), r5, by omega, r7, r8, (y12.trans r9 (fun _ _ z => z)).mono (fun _ _ z => z) (by omega) (by omega)⟩
  · have hn1 : cN s (59 + 48 * w) = 1 := by omega
    rw [if_pos (show 0 < Lo.length by omega)] at e4
    obtain ⟨M3, e5, I3, f3⟩ := x246 (sa := sa) (d := d + 6) hc2' I2 hz (show 0 < Lo.length by omega)
    have G3 := G2.fi f3 I2.1
    have hG3 := G3.ws
    obtain ⟨R1, R2, R3⟩ := q3 0 (by omega)
    have hlt := R2.2.1
    have kr2 : gk_ M2 (Lo.getD 0 0) = (2, 2) := (x2.k hlt).trans R1
    have nri : ¬ Lo.getD 0 0 = gt_ M1 := by omega
    have kr3 : gk_ M3 (Lo.getD 0 0) = (2, 2) := (congrFun f3.1.1 _).trans kr2
    have ir3 : gi_ M3 (Lo.getD 0 0) = gi_ M1 (Lo.getD 0 0) := (funext fun k => f3.2.1 _ k nri).trans (x2.i hlt (no _))
    have so1 := (ww_ow hW w 0 hw (by omega)).c (by omega)
    have pc1 := (ww_oc hW w 0 hw (by omega)).c (by decide)
    have v0 : gi_ M3 (Lo.getD 0 0) 0 = nI (cN s (60 + 48 * w + 0)) := by
      rw [ir3, R3 0 (by omega)]
      exact so1.1
    have v1 : gi_ M3 (Lo.getD 0 0) 1 = nI (cN s (63 + 48 * w + 0)) := by
      rw [ir3, R3 1 (by omega)]
      show s (60 + 48 * w + 3 * 1 + 0) = _
      rw [show 60 + 48 * w + 3 * 1 + 0 = 63 + 48 * w + 0 by omega]
      exact pc1.1
    have hc3 : LC M3 sv (gr_ M1 (L1.getD w 0) 1) c2 Lo := by
      have X := (G2.ws.fi G2.gl (by have := G2.na; omega) (by have := G2.nd; omega) f3 I2.1 (by omega)).1
      obtain ⟨h1, h3', h4, h5, h6, h7, h8, h9, h10, h11, h12⟩ := hc2'
      have ne : ∀ {y : Nat} {k : Nat × Nat}, gk_ M2 y = k → ¬ k = (1, 16) → ¬ y = gt_ M1 := fun e1 e2 z => e2 (by rw [← e1, z, I2.1])
      have na := ne h1 (by decide)
      have ra : gr_ M3 (gr_ M1 (L1.getD w 0) 1) = gr_ M2 (gr_ M1 (L1.getD w 0) 1) := funext fun k => f3.2.2.2.1 _ k na
      have ia : gi_ M3 (gr_ M1 (L1.getD w 0) 1) = gi_ M2 (gr_ M1 (L1.getD w 0) 1) := funext fun k => f3.2.1 _ k na
      have ke : ¬ gr_ M2 (gr_ M1 (L1.getD w 0) 1) 1 = gt_ M1 := by
        rcases h5 with y | y
        · exact ne y.2.2 (by decide)
        · exact ne y.1 (fun z => absurd (congrArg (fun q => q.1) z) (by show ¬ 10 = 1; decide))
      have re : gr_ M3 (gr_ M2 (gr_ M1 (L1.getD w 0) 1) 1) = gr_ M2 (gr_ M2 (gr_ M1 (L1.getD w 0) 1) 1) := funext fun k => f3.2.2.2.1 _ k ke
      have gg : gt_ M3 = gt_ M2 := f3.1.2.1
      have rsv : gr_ M3 sv = gr_ M2 sv := X.2.2.2
      exact ⟨by rw [f3.1.1]; exact h1, by rw [ia]; exact h3', by rw [ia]; exact h4, by rw [ra, f3.1.1, rsv]; exact h5, h6, h7, fun j hj => by rw [ra, re]; exact h8 j hj, fun y hy => ⟨el_cg (h9 y hy).1 (congrFun f3.1.1 y), by rw [gg]; exact (h9 y hy).2⟩, by omega, by rw [ra]; omega, (f3.1.2.2.2.2).trans h12⟩
    have e6 := x245 (sa := sa) (sv := sv) (d := d + 7) hc3 I3 hz (by omega)
    rw [if_neg (by omega)] at e6
    have gg : gt_ M3 = gt_ M2 := f3.1.2.1
    have key : ∀ is, (is = 0 ∨ is = 1 ∧ ∀ j, j < 1 → ¬ cN s (60 + 48 * w + j) = so) → ∃ m' t' ow' s' l', r283 sa sv (d + 8) 35 [some (.ref x), some (.ref b), some (.int (nI w)), some (.int (nI so)), some (.int (nI 0 + nI (cN s (63 + 48 * w + 0)))), some (.int (nI is)), some (.ref (gt_ M1)), some (.ref (Lo.getD 0 0))] [] M3 = some (.inl none, m') ∧ GS sa m' sv x b t' ow' s' q l' ∧ GT l' s' q ∧ (∀ y, y < gt_ m → ow' y = ow y) ∧ (∀ y, gt_ m' ≤ y → 300 ≤ ow' y) ∧ t' ≤ t + 2 ∧ l'.length ≤ l.length + 22 ∧ (∀ k, k < 59 + 48 * w → s' k = s k) ∧ Ex (fun _ => True) 50 50000 m m' := fun is hi => by
      obtain ⟨m', t', ow', s', l', r1, r2, r3, r4, r5, r6, r7, r8, r9⟩ := x283_e (sa := sa) (d := d) (so := so) (sum := 0 + cN s (63 + 48 * w + 0)) (is := is) (nn := 1) G3 hT (fun y hy => h3 y (by omega)) hw hn1 (by omega) hso rfl (by omega) hi I3.1 e6 h2 (by omega) (some (.ref (Lo.getD 0 0)))
      have y23 : Ex (fun _ => True) 0 0 M2 M3 := Ex.of (P := fun _ => True) f3 (fun _ _ _ => trivial)
      rw [nI_add]
      exact ⟨m', t', ow', s', l', r1, r2, r3, fun y hy => r4 y (by omega), r5, by omega, r7, r8, ((y12.trans y23 (fun _ _ z => z)).trans r9 (fun _ _ z => z)).mono (fun _ _ z => z) (by omega) (by omega)⟩
    rw [start, b283_35, gq_pos I2.1, e4, ci_v, gb_neg (by decide), gq_pos I2.1, e5, cr_v, kr3, gq_pos ⟨rfl, fun z => absurd z (by decide)⟩, gq_pos ⟨.inl rfl, in_of (show 1 < 2 by omega) (by omega)⟩, gb_neg (by decide), gq_pos ⟨.inl rfl, in_of (show 0 < 2 by omega) (by omega)⟩, nI_clamp (show 0 < 2 ^ 31 by omega), nI_clamp (show 1 < 2 ^ 31 by omega), v0, v1]
    by_cases qs : cN s (60 + 48 * w + 0) = so
    · rw [gb_pos (by rw [qs])]
      exact key 0 (.inl rfl)
    · rw [gb_neg (by rw [nI_eqE (by omega) (by omega)]; exact qs)]
      exact key 1 (.inr ⟨rfl, fun j hj => by rw [show j = 0 by omega]; exact qs⟩)
end G8
