/-! the lines of an income -/
section W8
variable {sa sv d x a it : Nat} {m : am_M} {ow : Nat → Nat} {s s0 s' : Nat → Int32} {q q' : Nat → Int64}
theorem lsm_take (l : List Ln) (i : Nat) : lsm_ (l.take i) ≤ lsm_ l := by
  have h := lsm_app (l.take i) (l.drop i)
  rw [List.take_append_drop] at h
  omega
theorem WS.cgs (h : WS m sv x ow s q) (hC : WC s) (hW : WW s) (hG : GLm s) (hna : cN s 2 ≤ 16) (hnd : cN s 3 ≤ 12) (hs : ∀ k, k < 762 → s' k = s k) (hq : ∀ k, k < 50 → q' k = q k) (h6 : cN s' 6 = cN s 6) : WS m sv x ow s' q' := by
  have e : Xt m sv ow ow NoP NoP 0 0 m := ⟨Ex.refl _ _, fun _ _ y _ => absurd y id, fun _ _ => rfl, rfl⟩
  obtain ⟨L2, b1, b2, b3⟩ := h.as
  obtain ⟨L3, c1, c2, c3⟩ := h.ad
  refine h.upd e (fun t y => absurd y id) hC hW hG ?_ ?_ h.ca ?_ h.cu h.ea (fun L y1 y2 a ha => ?_) (fun L y1 y2 a ha => ?_) (fun k hk => hs k (by omega)) (fun k h1 h2 => hs k (by omega))
  · exact ⟨h.le.1, h.le.2.1, fun p hp => (h.le.2.2 p hp).trans (hs _ (by omega)).symm⟩
  · exact ⟨h.ba.1, h.ba.2.1, fun p hp => (h.ba.2.2 p hp).trans (hq _ (by omega)).symm⟩
  · exact ⟨h.tot.1, h.tot.2.1, fun p hp => ⟨(h.tot.2.2 p hp).1, (h.tot.2.2 p hp).2.1, fun c hc => ((h.tot.2.2 p hp).2.2 c hc).trans (hq _ (by omega)).symm⟩⟩
  · rw [y1.same b1 a ha (by omega)]
    obtain ⟨z1, z2, z3⟩ := b3 a (by omega)
    exact ⟨z1, z2, fun c hc => (z3 c hc).trans (hs _ (by omega)).symm⟩
  · rw [y1.same c1 a ha (by omega)]
    obtain ⟨z1, z2, z3⟩ := c3 a (by omega)
    exact ⟨z1, z2, fun c hc => (z3 c hc).trans (hs _ (by omega)).symm⟩
/-- other lines -/
theorem WS.li1 (h : WS m sv x ow s q) (hC : WC s) (hW : WW s) (hG : GLm s) (hna : cN s 2 ≤ 16) (hnd : cN s 3 ≤ 12) (hsx : ¬ sv = x) {L : List Nat} (hL : LW m sv ow a 17 L) (hl : L.length < 2 ^ 31) : WS (sr_ m x 13 a) sv x ow (up1 s 6 (nI L.length)) q := by
  have rs : gr_ (sr_ m x 13 a) sv = gr_ m sv := funext fun k => by rw [gr_sr, if_neg (fun z => hsx z.1)]
  have e : Xt m sv ow ow (fun t => t = 0) (fun y => y = x) 0 0 (sr_ m x 13 a) := ⟨(Ex.refl _ _).sr (.inr rfl), fun y _ e _ => by rw [e]; exact h.x.1, fun _ _ => rfl, rs⟩
  have rx : ∀ i, ¬ i = 13 → gr_ (sr_ m x 13 a) x i = gr_ m x i := fun i hi => by rw [gr_sr, if_neg (fun z => hi z.2)]
  have r13 : gr_ (sr_ m x 13 a) x 13 = a := by rw [gr_sr, if_pos ⟨rfl, rfl⟩]
  have n13 := ((wc_nw hC).c (by decide)).2
  have hG1 := hG.1
  obtain ⟨L1, a1, a2, a3⟩ := h.wk
  obtain ⟨L2, b1, b2, b3⟩ := h.as
  obtain ⟨L3, c1, c2, c3⟩ := h.ad
  obtain ⟨f8, d8⟩ := h.ca
  obtain ⟨f10, d10⟩ := h.cu
  obtain ⟨f11, d11⟩ := h.ea
  obtain ⟨L4, g1, g2, g3⟩ := h.st
  have cn : ∀ k, ¬ k = 6 → cN (up1 s 6 (nI L.length)) k = cN s k := fun k hk => cN_cg (up1_o hk)
  refine ⟨h.k, h.x.xt e, h.np.trans (up1_o (by omega)).symm, h.day.trans (up1_o (by omega)).symm, h.cl.trans (up1_o (by omega)).symm, ⟨L1, ?_, by rw [cn _ (by omega)]; exact a2, fun w hw => ?_⟩, ⟨L2, ?_, by rw [cn _ (by omega)]; exact b2, fun y hy => ?_⟩, ⟨L3, ?_, by rw [cn _ (by omega)]; exact c2, fun y hy => ?_⟩, ?_, ?_, ⟨f8, ?_⟩, ?_, ⟨f10, ?_⟩, ⟨f11, ?_⟩, ⟨L4, ?_, by rw [cn _ (by omega)]; exact g2, g3⟩, ⟨L, ?_, by rw [cN_ (show up1 s 6 (nI L.length) 6 = nI L.length from up1_s) hl]⟩⟩
  · rw [rx _ (by omega)]; exact (a1.xt e (by omega) (by omega)).1
  · obtain ⟨y1, y2⟩ := hG.2 w (by omega)
    exact ((a3 w hw).xt e (fun k hk => by omega) y1 y2).cg (by omega) (by omega) (by omega) (fun k hk => ((ww_nh hW w k (by omega) hk).1.c (by decide)).2) (fun k h1 h2 => up1_o (by omega))
  · rw [rx _ (by omega)]; exact (b1.xt e (by omega) (by omega)).1
  · obtain ⟨z1, z2, z3⟩ := (b3 y hy).xt e (by omega)
    exact ⟨z1, z2, fun c hc => (z3 c hc).trans (up1_o (by omega)).symm⟩
  · rw [rx _ (by omega)]; exact (c1.xt e (by omega) (by omega)).1
  · obtain ⟨z1, z2, z3⟩ := (c3 y hy).xt e (by omega)
    exact ⟨z1, z2, fun c hc => (z3 c hc).trans (up1_o (by omega)).symm⟩
  · rw [rx _ (by omega)]
    obtain ⟨z1, z2, z3⟩ := h.le.xt e (by omega)
    exact ⟨z1, z2, fun c hc => (z3 c hc).trans (up1_o (by omega)).symm⟩
  · rw [rx _ (by omega)]; exact h.ba.xt e (by omega)
  · rw [rx _ (by omega)]; exact d8.xt e (by omega)
  · rw [rx _ (by omega)]; exact h.tot.xt e (by omega) (fun p hp => by omega)
  · rw [rx _ (by omega)]; exact d10.xt e (by omega) (fun p hp => by omega)
  · rw [rx _ (by omega)]; exact d11.xt e (by omega) (fun p hp => by omega)
  · rw [rx _ (by omega)]; exact (g1.xt e (by omega) (by omega)).1
  · rw [r13]; exact (hL.xt e (by omega) (by omega)).1
theorem getD_ne {L : List Nat} (h : L.Nodup) {i j : Nat} (hi : i < j) (hj : j < L.length) : ¬ L.getD j 0 = L.getD i 0 := fun z => by
  rw [List.getD_eq_getElem?_getD, List.getD_eq_getElem?_getD, List.getElem?_eq_getElem hj, List.getElem?_eq_getElem (show i < L.length by omega)] at z
  exact List.pairwise_iff_getElem.mp h i j (by omega) hj hi z.symm
theorem og_f {l : List Ln} {i : Nat} {y : Ln} (hy : l[i]? = some y) : adn (fun u => og_ s l u i) y.2.1 (wa_ s y.1 y.2.1 ((wh_ s l i).1, (wh_ s l i).2, y.2.2.1) (cN s 3)).2.2 = fun u => og_ s l u (i + 1) := funext fun u => by
  rw [og_s hy]
  rfl
theorem eg_f {l : List Ln} {i : Nat} {y : Ln} (hy : l[i]? = some y) : adn (fun u => eg_ l u i) y.2.1 y.2.2.1 = fun u => eg_ l u (i + 1) := funext fun u => by
  rw [eg_s hy]
  show (if u = y.2.1 then eg_ l u i + y.2.2.1 else eg_ l u i) = _
  split <;> rfl
theorem dw_f {l : List Ln} {i : Nat} {y : Ln} (hy : l[i]? = some y) : adn (fun u => dw_ s l u i) y.2.1 (y.2.2.1 - (wa_ s y.1 y.2.1 ((wh_ s l i).1, (wh_ s l i).2, y.2.2.1) (cN s 3)).2.2) = fun u => dw_ s l u (i + 1) := funext fun u => by
  rw [dw_s hy, wd_i hy]
  show (if u = y.2.1 then dw_ s l u i + _ else dw_ s l u i) = _
  split <;> rfl
/-- an old list's iterator, and what a run may touch -/
theorem x290_63 (hC : WC s) (hW : WW s) (hG : GLm s) (hD : WD s) (heq : ∀ k, ¬ k = 6 → s0 k = s k) (hC0 : WC s0) (hW0 : WW s0) (hG0 : GLm s0) (hna : cN s 2 ≤ 16) (hnd : cN s 3 ≤ 12) {l : List Ln} (hl : lsm_ l ≤ 9999999) (hgl : ∀ y ∈ l, GL s y) {Ls : List Nat} (hLs : Ls.length = l.length) (hnd' : Ls.Nodup) {G : Nat} (hro : ∀ j, j < l.length → G ≤ Ls.getD j 0 ∧ 300 ≤ ow (Ls.getD j 0)) (hG' : G ≤ it) (hoi : 300 ≤ ow it) (hsi : sv < G) (hsv3 : 300 ≤ ow sv) (l1 l2 : Int32) (l3 : Nat) : ∀ (k i : Nat) (M : am_M) (o5 o6 o7 o8 o9 : Option Value), i + k = l.length → G ≤ gt_ M → WS M sv x ow (Sd s0 (wh_ s l i).1) (Qn q (Nm (fun u => og_ s l u i) (fun u => eg_ l u i) (fun u => dw_ s l u i) (wh_ s l i).2)) → gr_ M x 13 = a → LW M sv ow a 17 Ls → IT M it a i → (∀ j y, l[j]? = some y → i ≤ j → gk_ M (Ls.getD j 0) = (2, 4) ∧ gi_ M (Ls.getD j 0) 0 = nI y.1 ∧ gi_ M (Ls.getD j 0) 1 = nI y.2.1 ∧ gi_ M (Ls.getD j 0) 2 = nI y.2.2.1) → ∃ M2, r290 sa sv (d + 2) 63 [some (.ref x), some (.int l1), some (.int l2), some (.ref l3), some (.ref it), o5, o6, o7, o8, o9] [] M = some (.inl (some (.int (nI l.length))), M2) ∧ WS M2 sv x ow (Sd s0 (wh_ s l l.length).1) (Qn q (Nm (fun u => og_ s l u l.length) (fun u => eg_ l u l.length) (fun u => dw_ s l u l.length) (wh_ s l l.length).2)) ∧ Ex (fun y => G ≤ y ∨ IVT (ow y)) k (4 * k) M M2 := by
  have c03 : cN s0 3 = cN s 3 := cN_cg (heq _ (by omega))
  have c02 : cN s0 2 = cN s 2 := cN_cg (heq _ (by omega))
  have hnp := isN_lt (wc_np hC) (by decide)
  have hnw := isN_lt (wc_nw hC) (by decide)
  intro k
  induction k with
  | zero =>
    intro i M o5 o6 o7 o8 o9 hi hGM h h13 hLW hI hrow
    have hi' : i = l.length := by omega
    subst hi'
    obtain ⟨⟨c, hc⟩, tg, t0⟩ := hLW
    have e1 := x245 (sa := sa) (sv := sv) (d := d + 1) hc hI (Nat.pos_of_ne_zero tg.2.2) (by omega)
    rw [if_neg (by omega)] at e1
    have e2 := x233 (sa := sa) (sv := sv) (d := d + 1) hc
    refine ⟨M, ?_, h, (Ex.refl _ _).mono (fun _ _ y => y) (by omega) (by omega)⟩
    rw [b290_63, gq_pos hI.1, e1, ci_v, gb_pos nI_0, h13, gq_pos ⟨h.k, tg.2.2⟩, gq_pos hc.1, e2, ci_v, hLs]
  | succ k ih =>
    intro i M o5 o6 o7 o8 o9 hi hGM h h13 hLW hI hrow
    have hil : i < l.length := by omega
    have hy : l[i]? = some l[i] := List.getElem?_eq_getElem hil
    generalize l[i] = y at hy
    have hyG := hgl y (List.mem_of_getElem? hy)
    obtain ⟨y1, y2, y3, y4, y5⟩ := hyG
    have d3 : cN (Sd s0 (wh_ s l i).1) 3 = cN s 3 := (cN_cg (Sd.lo (by omega))).trans c03
    have d2 : cN (Sd s0 (wh_ s l i).1) 2 = cN s 2 := (cN_cg (Sd.lo (by omega))).trans c02
    have hGd : GLm (Sd s0 (wh_ s l i).1) := hG0.sd
    have hLW' := hLW
    obtain ⟨⟨c, hc⟩, tg, t0⟩ := hLW'
    have ha0 := Nat.pos_of_ne_zero tg.2.2
    have e1 := x245 (sa := sa) (sv := sv) (d := d + 1) hc hI ha0 (by omega)
    rw [if_pos (by omega)] at e1
    obtain ⟨M1, e2, I1, f1⟩ := x246 (sa := sa) (d := d) hc hI ha0 (show i < Ls.length by omega)
    obtain ⟨X1, W1⟩ := h.fi hGd (by omega) (by omega) f1 hI.1 (by omega)
    obtain ⟨LW1, ra1⟩ := hLW.xt X1 (by omega) (by omega)
    obtain ⟨r0, r00⟩ := hro i hil
    obtain ⟨kr, v0, v1, v2⟩ := hrow i y hy (Nat.le_refl _)
    have kne : ∀ b, gk_ M b = (2, 4) → ¬ b = it := fun b hb z => by
      rw [z, hI.1] at hb
      exact absurd (congrArg (fun q => q.1) hb) (by show ¬ 1 = 2; decide)
    have g1 : gt_ M1 = gt_ M := f1.1.2.1
    have ki1 : ∀ b, gk_ M b = (2, 4) → gk_ M1 b = (2, 4) ∧ gi_ M1 b = gi_ M b := fun b hb => ⟨(congrFun f1.1.1 b).trans hb, funext fun k' => f1.2.1 b k' (kne b hb)⟩
    obtain ⟨kr1, ir1⟩ := ki1 _ kr
    have rx1 : gr_ M1 x = gr_ M x := funext fun b => f1.2.2.2.1 x b (fun z => by
      have := h.k
      rw [z, hI.1] at this
      exact absurd (congrArg (fun q => q.2) this) (by show ¬ 16 = 12; decide))
    obtain ⟨L3, ⟨⟨c3, hc3⟩, tg3, t03⟩, a2, a3⟩ := W1.ad
    obtain ⟨M2, e3, I2, f2, g2⟩ := x243 (sa := sa) (sv := sv) (d := d) hc3 (Nat.pos_of_ne_zero tg3.2.2)
    have hlt : ∀ j, j < l.length → Ls.getD j 0 < gt_ M1 := fun j hj => by
      obtain ⟨⟨c', hc'⟩, _⟩ := LW1
      exact (hc'.2.2.2.2.2.2.2.1 _ (mem_getD (by omega))).2
    have no : ∀ y, ¬ NoP y := fun _ y => y
    have hsv1 : sv < gt_ M1 := by omega
    have X2 : Xt M1 sv ow ow NoP NoP 1 4 M2 := f2.xt0 hsv1
    have W2 := W1.xt X2 (fun t y => absurd y id) (by have := hGd.1; omega) hGd.2 (by omega) (by omega)
    obtain ⟨LW2, ra2⟩ := LW1.xt X2 (no _) (no _)
    have hxl := W1.x.2.1
    have rx2 : gr_ M2 x = gr_ M1 x := f2.r hxl (no _)
    have kr2 : gk_ M2 (Ls.getD i 0) = (2, 4) := (f2.k (hlt i hil)).trans kr1
    have ir2 : gi_ M2 (Ls.getD i 0) = gi_ M (Ls.getD i 0) := (f2.i (hlt i hil) (no _)).trans ir1
    have ho : ∀ a, a < cN s 3 → (wh_ s l i).1 a < 2 ^ 30 := fun a ha => by
      have h1 := wh_open s l a i
      have h2 := isN_lt (wd_o hD a ha) (by decide)
      omega
    have hrt : ∀ u, (wh_ s l i).2 u ≤ 9999999 := fun u => by
      have h1 := wh_ret hD l u i
      have h2 := lsm_take l i
      omega
    have heg : ∀ u, eg_ l u i ≤ 9999999 := fun u => eg_b hl u i (by omega)
    have hdo : ∀ u, dw_ s l u i + og_ s l u i = eg_ l u i := fun u => dw_og u i
    have I2' : IT M2 (gt_ M1) (gr_ M2 x 5) 0 := by rw [rx2]; exact I2
    obtain ⟨M3, l6, o7', o8', o9', e4, W4, x4⟩ := x290_102 (sa := sa) (d := d) (it := gt_ M1) hC hW hG hD heq hC0 hW0 hG0 hna hnd r00 (by omega) (show y.1 < 12 by have := hG.1; omega) (show y.2.1 < 10 by omega) y4 (by have := heg y.2.1; omega) (by have := heg y.2.1; have := hdo y.2.1; omega) (fun u => by have := heg u; have := hdo u; omega) ((wh_ s l i).1, (wh_ s l i).2, y.2.2.1) rfl l1 l2 l3 it (cN s 3) 0 M2 ((wh_ s l i).1, (wh_ s l i).2, y.2.2.1) o8 o9 (by omega) rfl W2 I2' kr2 (by rw [ir2]; exact v0) (by rw [ir2]; exact v1) (by rw [ir2]; exact v2) (Nat.le_refl _) (fun u => by
      show (wh_ s l i).2 u + y.2.2.1 < 2 ^ 30
      have := hrt u
      omega) ho
    rw [og_f hy, eg_f hy, dw_f hy] at W4
    have hwh := wh_s (s := s) hy
    have w1 : (wh_ s l (i + 1)).1 = (wa_ s y.1 y.2.1 ((wh_ s l i).1, (wh_ s l i).2, y.2.2.1) (cN s 3)).1 := by rw [hwh]
    have w2 : (wh_ s l (i + 1)).2 = (wa_ s y.1 y.2.1 ((wh_ s l i).1, (wh_ s l i).2, y.2.2.1) (cN s 3)).2.1 := by rw [hwh]
    rw [← w1, ← w2] at W4
    have g3 := x4.gt
    have P4 : ∀ b, b < gt_ M → ¬ b = it → ¬ b = Ls.getD i 0 → ¬ IVT (ow b) → gr_ M3 b = gr_ M b ∧ gi_ M3 b = gi_ M b := fun b hb n1 n2 n3 => by
      have np : ¬ (b = Ls.getD i 0 ∨ b = gt_ M1 ∨ IVT (ow b)) := fun z => by
        rcases z with z | z | z
        · exact n2 z
        · omega
        · exact n3 z
      refine ⟨?_, ?_⟩
      · rw [x4.r (by omega) np, f2.r (by omega) (no _)]
        exact funext fun k' => f1.2.2.2.1 b k' n1
      · rw [x4.i (by omega) np, f2.i (by omega) (no _)]
        exact funext fun k' => f1.2.1 b k' n1
    have kk : ∀ b, b < gt_ M → gk_ M3 b = gk_ M b := fun b hb => (x4.k (by omega)).trans ((f2.k (by omega)).trans (congrFun f1.1.1 b))
    have nkr : ∀ b, gk_ M1 b = (1, 16) → ¬ b = Ls.getD i 0 := fun b hb z => by
      rw [z, kr1] at hb
      exact absurd (congrArg (fun q => q.1) hb) (by show ¬ 2 = 1; decide)
    have fr3 : Xt M2 sv ow ow (fun t => 300 ≤ t ∨ IVT t) (fun y => y = Ls.getD i 0 ∨ y = gt_ M1 ∨ IVT (ow y)) 0 0 M3 := ⟨x4, fun b hb z hw => by
      rcases z with z | z | z
      · rw [z]
        exact .inl r00
      · rw [z, I2.1] at hw
        unfold Wd at hw
        simp at hw
      · exact .inr z, fun _ _ => rfl, by
      have hs2 : sv < gt_ M2 := by omega
      refine x4.r hs2 (fun z => ?_)
      unfold IVT at z
      omega⟩
    obtain ⟨LW3, ra3⟩ := LW2.xt fr3 (by show ¬ (300 ≤ 17 ∨ IVT 17); unfold IVT; omega) (by show ¬ (300 ≤ 17 + 1 ∨ IVT (17 + 1)); unfold IVT; omega)
    have hit : it < gt_ M1 := I1.2.2.2.2
    have hal : a < gt_ M1 := LW1.2.1.2.1
    have ni : ¬ it = Ls.getD i 0 := nkr it I1.1
    have na : ¬ a = Ls.getD i 0 := fun z => by
      have := LW1.2.1.1
      rw [z] at this
      omega
    have I3 : IT M3 it a (i + 1) := by
      obtain ⟨j1, j2, j3, j4, j5⟩ := I1
      have np : ¬ (it = Ls.getD i 0 ∨ it = gt_ M1 ∨ IVT (ow it)) := by unfold IVT; omega
      have npa : ¬ (a = Ls.getD i 0 ∨ a = gt_ M1 ∨ IVT (ow a)) := by
        have := LW1.2.1.1
        unfold IVT
        omega
      refine ⟨(x4.k (by omega)).trans ((f2.k (by omega)).trans j1), ?_, ?_, ?_, by omega⟩
      · rw [x4.r (by omega) np, f2.r (by omega) (no _)]
        exact j2
      · rw [x4.i (by omega) np, f2.i (by omega) (no _)]
        exact j3
      · rw [x4.i (by omega) np, f2.i (by omega) (no _), x4.i (by omega) npa, f2.i (by omega) (no _)]
        exact j4
    have hxM := h.x.2.1
    have hx0 := h.x.1
    have nxr : ¬ x = Ls.getD i 0 := fun z => by
      rw [← z] at r00
      omega
    have nxi : ¬ x = it := fun z => by
      have := h.k
      rw [z, hI.1] at this
      exact absurd (congrArg (fun q => q.2) this) (by show ¬ 16 = 12; decide)
    have h133 : gr_ M3 x 13 = a := by
      rw [(P4 x hxM nxi nxr (by unfold IVT; omega)).1]
      exact h13
    obtain ⟨M4, e5, W5, x5⟩ := ih (i + 1) M3 (some (.ref (Ls.getD i 0))) (some (.int l6)) o7' o8' o9' (by omega) (by omega) W4 h133 LW3 I3 (fun j z hz hj => by
      have hj2 := (List.getElem?_eq_some_iff.mp hz).1
      obtain ⟨z1, z2, z3, z4⟩ := hrow j z hz (by omega)
      have hb : Ls.getD j 0 < gt_ M := by
        have := hlt j hj2
        omega
      have hne := getD_ne hnd' (show i < j by omega) (show j < Ls.length by omega)
      obtain ⟨u0, u1⟩ := hro j hj2
      rw [kk _ hb, (P4 _ hb (kne _ z1) hne (by unfold IVT; omega)).2]
      exact ⟨z1, z2, z3, z4⟩)
    refine ⟨M4, ?_, W5, ?_⟩
    · rw [b290_63, gq_pos hI.1, e1, ci_v, gb_neg (by decide), gq_pos hI.1, e2, cr_v, kr1, gq_pos ⟨rfl, fun z => absurd z (by decide)⟩, gq_pos ⟨.inl rfl, in_of (show 2 < 4 by omega) (by omega)⟩, gq_pos ⟨W1.k, tg3.2.2⟩, gq_pos hc3.1, e3, cr_v, nI_clamp (show 2 < 2 ^ 31 by omega), ir1, v2]
      exact e4.trans e5
    · have a1 : Ex (fun y => G ≤ y ∨ IVT (ow y)) 0 0 M M1 := (Ex.of (P := fun y => y = it) f1 (fun _ _ z => z)).mono (fun b _ z => .inl (by rw [z]; exact hG')) (Nat.le_refl _) (Nat.le_refl _)
      have a3 := (a1.trans f2 (fun _ _ z => absurd z id)).trans x4 (fun b _ z => by
        rcases z with z | z | z
        · rw [z]
          exact .inl r0
        · exact .inl (by omega)
        · exact .inr z)
      exact (a3.trans x5 (fun _ _ z => z)).mono (fun _ _ z => z) (by omega) (by omega)
end W8
