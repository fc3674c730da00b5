/-! the World grows -/
section W8
variable {sa sv d x a b t n z u o w : Nat} {m m1 : am_M} {ow ow' : Nat → Nat} {T P : Nat → Prop} {s s' : Nat → Int32} {q q' : Nat → Int64} {L : List Nat} {l : List Int32}
theorem WO.cg2 (h : WO m sv ow o w s) (hs1 : cN s (18 + 48 * w) < 5) (hs2 : cN s (59 + 48 * w) < 4) (hs3 : ∀ k, k < cN s (18 + 48 * w) → cN s (23 + 48 * w + k) < 5) (e : ∀ k, 18 + 48 * w ≤ k → k < 66 + 48 * w → s' k = s k) : WO m sv ow o w s' := by
  have c : ∀ k, 18 + 48 * w ≤ k → k < 66 + 48 * w → cN s' k = cN s k := fun k h1 h2 => cN_cg (e k h1 h2)
  obtain ⟨h1, h2, ⟨L, a1, a2, a3⟩, ⟨L', b1, b2, b3⟩⟩ := h
  refine ⟨h1, h2, ⟨L, a1, by rw [c _ (by omega) (by omega)]; exact a2, fun k hk => ?_⟩, ⟨L', b1, by rw [c _ (by omega) (by omega)]; exact b2, fun i hi => ?_⟩⟩
  · obtain ⟨y1, y2, y3⟩ := a3 k hk
    have h5 := hs3 k (by omega)
    rw [c (23 + 48 * w + k) (by omega) (by omega)]
    refine ⟨y1, y2, fun j hj => (y3 j hj).trans ?_⟩
    show (if j = 0 then _ else if j % 2 = 1 then _ else _) = (if j = 0 then _ else if j % 2 = 1 then _ else _)
    rw [e _ (by omega) (by omega), e (27 + 48 * w + 4 * k + j / 2) (by omega) (by omega), e (43 + 48 * w + 4 * k + (j / 2 - 1)) (by omega) (by omega)]
  · obtain ⟨y1, y2, y3⟩ := b3 i hi
    exact ⟨y1, y2, fun j hj => (y3 j hj).trans (e _ (by omega) (by omega)).symm⟩
/-- other tags for cells that are none of the World's -/
def RT (m : am_M) (ow ow' : Nat → Nat) : Prop := ∀ y, y < gt_ m → ow y < 300 → ow' y = ow y
theorem Tg.rt (h : Tg m ow a t) (hr : RT m ow ow') (ht : t < 300) : Tg m ow' a t := ⟨(hr a h.2.1 (by rw [h.1]; exact ht)).trans h.1, h.2⟩
theorem RW.rt {N : Nat} {f : Nat → Int32} (h : RW m ow a t N f) (hr : RT m ow ow') (ht : t < 300) : RW m ow' a t N f := ⟨h.1, h.2.1.rt hr ht, h.2.2⟩
theorem QW.rt {N : Nat} {f : Nat → Int64} (h : QW m ow a t N f) (hr : RT m ow ow') (ht : t < 300) : QW m ow' a t N f := ⟨h.1, h.2.1.rt hr ht, h.2.2⟩
theorem GW.rt {N : Nat} {f : Nat → Nat → Int64} (h : GW m ow a t u N f) (hr : RT m ow ow') (ht : t < 300) (hu : u < 280) : GW m ow' a t u N f := ⟨h.1, h.2.1.rt hr ht, fun p hp => (h.2.2 p hp).rt hr (by omega)⟩
theorem LW.rt (h : LW m sv ow a t L) (hr : RT m ow ow') (ht : t < 299) : LW m sv ow' a t L := by
  obtain ⟨⟨c, hc⟩, h2, h3⟩ := h
  refine ⟨⟨c, hc⟩, h2.rt hr (by omega), fun hk => ?_⟩
  have := h3 hk
  exact (hr _ hc.2.2.2.2.2.2.2.2.2.1 (by omega)).trans this
theorem WO.rt (h : WO m sv ow o w s) (hr : RT m ow ow') (hw : w < 12) (hs1 : cN s (18 + 48 * w) < 3) (hs2 : cN s (59 + 48 * w) < 3) : WO m sv ow' o w s := by
  obtain ⟨h1, h2, ⟨L, a1, a2, a3⟩, ⟨L', b1, b2, b3⟩⟩ := h
  exact ⟨h1, h2.rt hr (by omega), ⟨L, a1.rt hr (by omega), a2, fun k hk => (a3 k hk).rt hr (by omega)⟩, ⟨L', b1.rt hr (by omega), b2, fun i hi => (b3 i hi).rt hr (by omega)⟩⟩
theorem WS.rt (h : WS m sv x ow s q) (hr : RT m ow ow') (hG : GLm s) (hna : cN s 2 ≤ 16) (hnd : cN s 3 ≤ 12) : WS m sv x ow' s q := by
  have hG1 := hG.1
  obtain ⟨L1, a1, a2, a3⟩ := h.wk
  obtain ⟨L2, b1, b2, b3⟩ := h.as
  obtain ⟨L3, c1, c2, c3⟩ := h.ad
  obtain ⟨f8, d8⟩ := h.ca
  obtain ⟨f10, d10⟩ := h.cu
  obtain ⟨f11, d11⟩ := h.ea
  obtain ⟨L4, g1, g2, g3⟩ := h.st
  obtain ⟨L5, i1, i2⟩ := h.li
  exact ⟨h.k, h.x.rt hr (by omega), h.np, h.day, h.cl, ⟨L1, a1.rt hr (by omega), a2, fun w hw => (a3 w hw).rt hr (by omega) (hG.2 w (by omega)).1 (hG.2 w (by omega)).2⟩, ⟨L2, b1.rt hr (by omega), b2, fun y hy => (b3 y hy).rt hr (by omega)⟩, ⟨L3, c1.rt hr (by omega), c2, fun y hy => (c3 y hy).rt hr (by omega)⟩, h.le.rt hr (by omega), h.ba.rt hr (by omega), ⟨f8, d8.rt hr (by omega)⟩, h.tot.rt hr (by omega) (by omega), ⟨f10, d10.rt hr (by omega) (by omega)⟩, ⟨f11, d11.rt hr (by omega) (by omega)⟩, ⟨L4, g1.rt hr (by omega), g2, g3⟩, ⟨L5, i1.rt hr (by omega), i2⟩⟩
theorem GS.rt (h : GS sa m sv x b t ow s q l) (hr : RT m ow ow') : GS sa m sv x b t ow' s q l := by
  have hna := h.na
  have hnd := h.nd
  exact ⟨h.ws.rt hr h.gl (by omega) (by omega), h.xn, h.ks, h.sb, h.gl, h.wg, h.sm, h.na, h.nd⟩
/-- works, assignments, advances: given anew -/
theorem WS.grow (h : WS m sv x ow s q) (e : Xt m sv ow ow' T P n z m1) (hT : ∀ t, T t → 1 ≤ t ∧ t < 7 ∨ 100 ≤ t) (hk : ∀ k, k < 18 → ¬ k = 1 → ¬ k = 2 → ¬ k = 3 → s' k = s k) (hq : ∀ k, k < 50 → q' k = q k) (wk : ∃ L, LW m1 sv ow' (gr_ m x 3) 1 L ∧ L.length = cN s' 1 ∧ ∀ w, w < L.length → WO m1 sv ow' (L.getD w 0) w s') (as : ∃ L, LW m1 sv ow' (gr_ m x 4) 3 L ∧ L.length = cN s' 2 ∧ ∀ a, a < L.length → RW m1 ow' (L.getD a 0) (60 + a) 6 (fun c => s' (594 + 6 * a + c))) (ad : ∃ L, LW m1 sv ow' (gr_ m x 5) 5 L ∧ L.length = cN s' 3 ∧ ∀ a, a < L.length → RW m1 ow' (L.getD a 0) (80 + a) 6 (fun c => s' (690 + 6 * a + c))) : WS m1 sv x ow' s' q' := by
  have nT : ∀ t, (t = 0 ∨ 7 ≤ t ∧ t < 100) → ¬ T t := fun t h1 h2 => by
    have := hT t h2
    omega
  have np : ¬ P x := e.no h.x.2.1 (.inr (.inr (.inr (.inr (.inr (.inl h.k)))))) (by rw [h.x.1]; exact nT 0 (by omega))
  have rx : gr_ m1 x = gr_ m x := e.1.r h.x.2.1 np
  have ix : gi_ m1 x = gi_ m x := e.1.i h.x.2.1 np
  obtain ⟨f8, d8⟩ := h.ca
  obtain ⟨f10, d10⟩ := h.cu
  obtain ⟨f11, d11⟩ := h.ea
  obtain ⟨L4, g1, g2, g3⟩ := h.st
  obtain ⟨L5, i1, i2⟩ := h.li
  have ck : ∀ k, k < 18 → ¬ k = 1 → ¬ k = 2 → ¬ k = 3 → cN s' k = cN s k := fun k h1 h2 h3 h4 => cN_cg (hk k h1 h2 h3 h4)
  refine ⟨(e.1.k h.x.2.1).trans h.k, h.x.xt e, by rw [ix, hk 0 (by omega) (by omega) (by omega) (by omega)]; exact h.np, by rw [ix, hk 4 (by omega) (by omega) (by omega) (by omega)]; exact h.day, by rw [ix, hk 5 (by omega) (by omega) (by omega) (by omega)]; exact h.cl, by rw [rx]; exact wk, by rw [rx]; exact as, by rw [rx]; exact ad, ?_, ?_, ⟨f8, ?_⟩, ?_, ⟨f10, ?_⟩, ⟨f11, ?_⟩, ⟨L4, ?_, by rw [ck 7 (by omega) (by omega) (by omega) (by omega)]; exact g2, fun y hy => by rw [e.1.k (g1.lt hy)]; exact g3 y hy⟩, ⟨L5, ?_, by rw [ck 6 (by omega) (by omega) (by omega) (by omega)]; exact i2⟩⟩
  all_goals rw [rx]
  · obtain ⟨z1, z2, z3⟩ := h.le.xt e (nT _ (by omega))
    exact ⟨z1, z2, fun c hc => (z3 c hc).trans (hk _ (by omega) (by omega) (by omega) (by omega)).symm⟩
  · obtain ⟨z1, z2, z3⟩ := h.ba.xt e (nT _ (by omega))
    exact ⟨z1, z2, fun c hc => (z3 c hc).trans (hq _ (by omega)).symm⟩
  · exact d8.xt e (nT _ (by omega))
  · obtain ⟨z1, z2, z3⟩ := h.tot.xt e (nT _ (by omega)) (fun p hp => nT _ (by omega))
    exact ⟨z1, z2, fun p hp => ⟨(z3 p hp).1, (z3 p hp).2.1, fun c hc => ((z3 p hp).2.2 c hc).trans (hq _ (by omega)).symm⟩⟩
  · exact d10.xt e (nT _ (by omega)) (fun p hp => nT _ (by omega))
  · exact d11.xt e (nT _ (by omega)) (fun p hp => nT _ (by omega))
  · exact (g1.xt e (nT _ (by omega)) (nT _ (by omega))).1
  · exact (i1.xt e (nT _ (by omega)) (nT _ (by omega))).1
theorem WS.wkx (h : WS m sv x ow s q) (e : Xt m sv ow ow' T P n z m1) (hT : ∀ t, T t → 3 ≤ t ∧ t < 100 ∨ 300 ≤ t) (hC : WC s) (hW : WW s) (hG : GLm s) (hs : ∀ k, k = 1 ∨ 18 ≤ k ∧ k < 594 → s' k = s k) : ∃ L, LW m1 sv ow' (gr_ m x 3) 1 L ∧ L.length = cN s' 1 ∧ ∀ w, w < L.length → WO m1 sv ow' (L.getD w 0) w s' := by
  have nT : ∀ t, (t < 3 ∨ 100 ≤ t ∧ t < 300) → ¬ T t := fun t h1 h2 => by
    have := hT t h2
    omega
  obtain ⟨L1, a1, a2, a3⟩ := h.wk
  have n13 := ((wc_nw hC).c (by decide)).2
  have hG1 := hG.1
  refine ⟨L1, (a1.xt e (nT _ (by omega)) (nT _ (by omega))).1, by rw [cN_cg (hs 1 (by omega))]; exact a2, fun w hw => ?_⟩
  obtain ⟨y1, y2⟩ := hG.2 w (by omega)
  exact ((a3 w hw).xt e (fun k hk => nT _ (by omega)) y1 y2).cg (by omega) (by omega) (by omega) (fun k hk => ((ww_nh hW w k (by omega) hk).1.c (by decide)).2) (fun k h1 h2 => hs k (by omega))
theorem WS.asx (h : WS m sv x ow s q) (e : Xt m sv ow ow' T P n z m1) (hT : ∀ t, T t → t < 3 ∨ 5 ≤ t ∧ t < 60 ∨ 80 ≤ t) (hna : cN s 2 ≤ 16) (hs : ∀ k, k = 2 ∨ 594 ≤ k ∧ k < 690 → s' k = s k) : ∃ L, LW m1 sv ow' (gr_ m x 4) 3 L ∧ L.length = cN s' 2 ∧ ∀ a, a < L.length → RW m1 ow' (L.getD a 0) (60 + a) 6 (fun c => s' (594 + 6 * a + c)) := by
  have nT : ∀ t, (3 ≤ t ∧ t < 5 ∨ 60 ≤ t ∧ t < 80) → ¬ T t := fun t h1 h2 => by
    have := hT t h2
    omega
  obtain ⟨L2, b1, b2, b3⟩ := h.as
  refine ⟨L2, (b1.xt e (nT _ (by omega)) (nT _ (by omega))).1, by rw [cN_cg (hs 2 (by omega))]; exact b2, fun y hy => ?_⟩
  obtain ⟨z1, z2, z3⟩ := (b3 y hy).xt e (nT _ (by omega))
  exact ⟨z1, z2, fun c hc => (z3 c hc).trans (hs _ (by omega)).symm⟩
theorem WS.adx (h : WS m sv x ow s q) (e : Xt m sv ow ow' T P n z m1) (hT : ∀ t, T t → t < 5 ∨ 7 ≤ t ∧ t < 80 ∨ 100 ≤ t) (hnd : cN s 3 ≤ 12) (hs : ∀ k, k = 3 ∨ 690 ≤ k ∧ k < 762 → s' k = s k) : ∃ L, LW m1 sv ow' (gr_ m x 5) 5 L ∧ L.length = cN s' 3 ∧ ∀ a, a < L.length → RW m1 ow' (L.getD a 0) (80 + a) 6 (fun c => s' (690 + 6 * a + c)) := by
  have nT : ∀ t, (5 ≤ t ∧ t < 7 ∨ 80 ≤ t ∧ t < 100) → ¬ T t := fun t h1 h2 => by
    have := hT t h2
    omega
  obtain ⟨L3, c1, c2, c3⟩ := h.ad
  refine ⟨L3, (c1.xt e (nT _ (by omega)) (nT _ (by omega))).1, by rw [cN_cg (hs 3 (by omega))]; exact c2, fun y hy => ?_⟩
  obtain ⟨z1, z2, z3⟩ := (c3 y hy).xt e (nT _ (by omega))
  exact ⟨z1, z2, fun c hc => (z3 c hc).trans (hs _ (by omega)).symm⟩
/-- a list with one more -/
theorem LW.app {y : Nat} (h : LW m sv ow a t L) (hx : am_el m 10 y ∧ y < gt_ m) (hl : L.length < 100) (ks : gk_ m sv = (0, 0)) (hsl : sv < gt_ m) : ∃ m1, am_ca sa sv (d + 6) 238 [.ref a, .ref y] m = some (.inl (some (.int (nI 1))), m1) ∧ LW m1 sv (owe ow (gt_ m) (gr_ m1 a 1) (t + 1)) a t (L ++ [y]) ∧ Xt m sv ow (owe ow (gt_ m) (gr_ m1 a 1) (t + 1)) (fun u => u = t ∨ u = t + 1) (LPa m a) 1 160 m1 := by
  obtain ⟨⟨c, hc⟩, t1, t2⟩ := h
  obtain ⟨m1, e1, l1, x1⟩ := x238 (sa := sa) (sv := sv) (d := d) ⟨c, hc⟩ hx hl
  have ha := t1.2.1
  have g := x1.1.gt
  have how : ∀ y, y < gt_ m → owe ow (gt_ m) (gr_ m1 a 1) (t + 1) y = ow y := fun y hy => if_pos hy
  refine ⟨m1, e1, ⟨l1, ⟨(how _ ha).trans t1.1, by omega, t1.2.2⟩, fun hk => ?_⟩, x1.1, fun y hy z _ => ?_, how, x1.1.r hsl (fun z => ?_)⟩
  · unfold owe
    by_cases y : gr_ m1 a 1 < gt_ m
    · rw [if_pos y]
      rcases x1.2 with e2 | e2
      · rw [e2] at hk ⊢
        rw [x1.1.k (by rw [← e2]; exact y)] at hk
        exact t2 hk
      · omega
    · rw [if_neg y, if_pos rfl]
  · rcases z with z | ⟨z, z2⟩
    · rw [z]
      exact .inl t1.1
    · rw [z] at z2 ⊢
      exact .inr (t2 z2)
  · rcases z with z | ⟨z, z2⟩
    · have := hc.1
      rw [← z, ks] at this
      exact absurd (congrArg (fun q => q.1) this) (by show ¬ 0 = 1; decide)
    · rw [ks] at z2
      exact absurd z2 (by show ¬ 0 = 10; decide)
/-- what else the generator needs stays where only a World's cells change -/
theorem GS.rest {s q} (h : GS sa m sv x b t ow s q l) (e : Ex P n z m m1) (hP : ∀ y, y < gt_ m → P y → (gk_ m y).1 = 2 ∨ (gk_ m y).1 = 4 ∨ (gk_ m y).1 = 10 ∨ gk_ m y = (1, 15) ∨ gk_ m y = (1, 11)) : XN m1 x t ∧ KS sa m1 sv ∧ SBv m1 b l := by
  obtain ⟨n1, n2, n3, n4, n5, n6⟩ := h.xn
  have hx : ¬ P x := fun z => by
    rcases hP x n5 z with y | y | y | y | y <;> rw [n1] at y
    · exact absurd y (by show ¬ 1 = 2; decide)
    · exact absurd y (by show ¬ 1 = 4; decide)
    · exact absurd y (by show ¬ 1 = 10; decide)
    · exact absurd y (by decide)
    · exact absurd y (by decide)
  have g := e.gt
  have rx := e.r n5 hx
  have ix := e.i n5 hx
  obtain ⟨c, h1, h3, h4, h5, h6, h7, h8, h9, h10, h11, h12, h13⟩ := h.sb
  have hb : ¬ P b := fun z => by
    rcases hP b h11 z with y | y | y | y | y <;> rw [h1] at y
    · exact absurd y (by show ¬ 1 = 2; decide)
    · exact absurd y (by show ¬ 1 = 4; decide)
    · exact absurd y (by show ¬ 1 = 10; decide)
    · exact absurd y (by decide)
    · exact absurd y (by decide)
  have hv : ¬ P (gr_ m b 0) := fun z => by
    rcases hP _ h12 z with y | y | y | y | y <;> rw [h5] at y
    · exact absurd y (by show ¬ 3 = 2; decide)
    · exact absurd y (by show ¬ 3 = 4; decide)
    · exact absurd y (by show ¬ 3 = 10; decide)
    · exact absurd (congrArg (fun q => q.1) y) (by show ¬ 3 = 1; decide)
    · exact absurd (congrArg (fun q => q.1) y) (by show ¬ 3 = 1; decide)
  have rb := e.r h11 hb
  refine ⟨⟨(e.k n5).trans n1, by rw [ix]; exact n2, by rw [rx, e.k n6]; exact n3, by rw [ix]; exact n4, by omega, by rw [rx]; omega⟩, h.ks.ex e (fun y hy z => ?_), ⟨c, (e.k h11).trans h1, (congrFun (e.i h11 hb) 1).trans h3, by rw [rb]; exact h4, by rw [rb, e.k h12]; exact h5, h6, h7, (congrFun (e.i h11 hb) 3).trans h8, fun j hj => by rw [rb, e.i h12 hv]; exact h9 j hj, h10, by omega, by rw [rb]; omega, (e.ge).trans h13⟩⟩
  rcases hP y hy z with y | y | y | y | y
  · omega
  · omega
  · omega
  · rw [y]
    exact ⟨by show ¬ 1 = 0; decide, by show ¬ 1 = 8; decide, by show ¬ 1 = 9; decide⟩
  · rw [y]
    exact ⟨by show ¬ 1 = 0; decide, by show ¬ 1 = 8; decide, by show ¬ 1 = 9; decide⟩
end W8
