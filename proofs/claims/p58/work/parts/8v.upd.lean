/-! the World after writes of values -/
section W8
variable {sv x a t n z u k : Nat} {m m1 : am_M} {ow ow' : Nat → Nat} {T P : Nat → Prop} {s s' : Nat → Int32} {q q' : Nat → Int64}
theorem WO.cg {o w : Nat} (h : WO m sv ow o w s) (hw : w < 12) (hs1 : cN s (18 + 48 * w) < 5) (hs2 : cN s (59 + 48 * w) < 4) (hs3 : ∀ k, k < cN s (18 + 48 * w) → cN s (23 + 48 * w + k) < 5) (e : ∀ k, 18 ≤ k → k < 594 → s' k = s k) : WO m sv ow o w s' := by
  have c : ∀ k, 18 ≤ k → k < 594 → cN s' k = cN s k := fun k h1 h2 => by
    unfold cN
    rw [e k h1 h2]
  obtain ⟨h1, h2, ⟨L, a1, a2, a3⟩, ⟨L', b1, b2, b3⟩⟩ := h
  refine ⟨h1, h2, ⟨L, a1, by rw [c _ (by omega) (by omega)]; exact a2, fun k hk => ?_⟩, ⟨L', b1, by rw [c _ (by omega) (by omega)]; exact b2, fun i hi => ?_⟩⟩
  · obtain ⟨y1, y2, y3⟩ := a3 k hk
    have h5 := hs3 k (by omega)
    rw [c (23 + 48 * w + k) (by omega) (by omega)]
    refine ⟨y1, y2, fun j hj => (y3 j hj).trans ?_⟩
    show (if j = 0 then _ else if j % 2 = 1 then _ else _) = (if j = 0 then _ else if j % 2 = 1 then _ else _)
    rw [e _ (by omega) (by omega), e (27 + 48 * w + 4 * k + j / 2) (by omega) (by omega), e (43 + 48 * w + 4 * k + (j / 2 - 1)) (by omega) (by omega)]
  · obtain ⟨y1, y2, y3⟩ := b3 i hi
    exact ⟨y1, y2, fun j hj => (y3 j hj).trans (e _ (by omega) (by omega)).symm⟩
/-- values change, the lists stay -/
theorem WS.upd (h : WS m sv x ow s q) (e : Xt m sv ow ow' T P n z m1) (hT : ∀ t, T t → (9 ≤ t ∧ t ≤ 11) ∨ t = 13 ∨ (20 ≤ t ∧ t < 100) ∨ 300 ≤ t) (hC : WC s) (hW : WW s) (hG : GLm s) (le : RW m1 ow' (gr_ m x 6) 9 10 (fun p => s' (8 + p))) (ba : QW m1 ow' (gr_ m x 7) 10 10 q') (ca : ∃ f, QW m1 ow' (gr_ m x 8) 11 12 f) (tot : GW m1 ow' (gr_ m x 9) 12 20 4 (fun p c => q' (10 + 4 * p + c))) (cu : ∃ f, GW m1 ow' (gr_ m x 10) 13 30 3 f) (ea : ∃ f, GW m1 ow' (gr_ m x 11) 14 40 12 f) (as : ∀ L, LW m sv ow (gr_ m x 4) 3 L → L.length = cN s 2 → ∀ a, a < L.length → RW m1 ow' (L.getD a 0) (60 + a) 6 (fun c => s' (594 + 6 * a + c))) (ad : ∀ L, LW m sv ow (gr_ m x 5) 5 L → L.length = cN s 3 → ∀ a, a < L.length → RW m1 ow' (L.getD a 0) (80 + a) 6 (fun c => s' (690 + 6 * a + c))) (hs : ∀ k, k < 8 → s' k = s k) (hs2 : ∀ k, 18 ≤ k → k < 594 → s' k = s k) : WS m1 sv x ow' s' q' := by
  have nT : ∀ t, ¬ ((9 ≤ t ∧ t ≤ 11) ∨ t = 13 ∨ (20 ≤ t ∧ t < 100) ∨ 300 ≤ t) → ¬ T t := fun t h1 h2 => h1 (hT t h2)
  have np : ¬ P x := e.no h.x.2.1 (.inr (.inr (.inr (.inr (.inr (.inl h.k)))))) (by rw [h.x.1]; exact nT 0 (by omega))
  have rx : gr_ m1 x = gr_ m x := e.1.r h.x.2.1 np
  have ix : gi_ m1 x = gi_ m x := e.1.i h.x.2.1 np
  have c : ∀ k, k < 8 → cN s' k = cN s k := fun k h1 => by
    unfold cN
    rw [hs k h1]
  have n13 := ((wc_nw hC).c (by decide)).2
  obtain ⟨L1, a1, a2, a3⟩ := h.wk
  obtain ⟨L2, b1, b2, b3⟩ := h.as
  obtain ⟨L3, c1, c2, c3⟩ := h.ad
  obtain ⟨L4, g1, g2, g3⟩ := h.st
  obtain ⟨L5, i1, i2⟩ := h.li
  refine ⟨(e.1.k h.x.2.1).trans h.k, h.x.xt e, by rw [ix, hs 0 (by omega)]; exact h.np, by rw [ix, hs 4 (by omega)]; exact h.day, by rw [ix, hs 5 (by omega)]; exact h.cl, ⟨L1, ?_, by rw [c 1 (by omega)]; exact a2, fun w hw => ?_⟩, ⟨L2, ?_, by rw [c 2 (by omega)]; exact b2, as L2 b1 b2⟩, ⟨L3, ?_, by rw [c 3 (by omega)]; exact c2, ad L3 c1 c2⟩, ?_, ?_, ?_, ?_, ?_, ?_, ⟨L4, ?_, by rw [c 7 (by omega)]; exact g2, fun y hy => by rw [e.1.k (g1.lt hy)]; exact g3 y hy⟩, ⟨L5, ?_, by rw [c 6 (by omega)]; exact i2⟩⟩
  · rw [rx]; exact (a1.xt e (nT _ (by omega)) (nT _ (by omega))).1
  · obtain ⟨y1, y2⟩ := hG.2 w (by omega)
    have hG1 := hG.1
    exact ((a3 w hw).xt e (fun k hk => nT _ (by omega)) y1 y2).cg (by omega) (by omega) (by omega) (fun k hk => ((ww_nh hW w k (by omega) hk).1.c (by decide)).2) hs2
  · rw [rx]; exact (b1.xt e (nT _ (by omega)) (nT _ (by omega))).1
  · rw [rx]; exact (c1.xt e (nT _ (by omega)) (nT _ (by omega))).1
  · rw [rx]; exact le
  · rw [rx]; exact ba
  · rw [rx]; exact ca
  · rw [rx]; exact tot
  · rw [rx]; exact cu
  · rw [rx]; exact ea
  · rw [rx]; exact (g1.xt e (nT _ (by omega)) (nT _ (by omega))).1
  · rw [rx]; exact (i1.xt e (nT _ (by omega)) (nT _ (by omega))).1
end W8
