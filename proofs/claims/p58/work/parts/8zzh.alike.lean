/-! alike: the class tells what the World holds -/
section J8
variable {sa sv d N x B : Nat} {m : am_M} {ow : Nat → Nat} {X : TX}
theorem x295_62 (h : JT sa m sv N x ow B X X.s X.q) : r295 sa sv (d + 4) 62 [some (.ref N), some (.ref x), some (.int (nI 0))] [] m = r295 sa sv (d + 4) 145 [some (.ref N), some (.ref x), some (.int (nI 0))] [] m := by
  obtain ⟨e0, b0⟩ := (wc_np h.wc).c (by decide)
  have hnp : gi_ m x 0 = nI (cN X.s 0) := h.ws.np.trans e0
  have ba := h.ws.ba
  have to := h.ws.tot
  have le := h.ws.le
  have key := lp_up (fun i => r295 sa sv (d + 4) 62 [some (.ref N), some (.ref x), some (.int (nI i))] [] m) (cN X.s 0) (fun i hi => by
    have t2 := to.2.2 i (by omega)
    have e1 := h.bal (sa := sa) (d := d + 1) hi
    have e2 := h.tot (sa := sa) (d := d + 1) hi (show 0 < 4 by decide)
    have e3 := h.tot (sa := sa) (d := d + 1) hi (show 2 < 4 by decide)
    have e4 := h.lea (sa := sa) (d := d) hi
    have n0 : (nI 0).toNatClampNeg = 0 := rfl
    have n2 : (nI 2).toNatClampNeg = 2 := rfl
    rw [b295_62, gq_pos h.ws.k, hnp, gb_neg (by rw [nI_leE (by omega) (by omega)]; omega), gq_pos h.k0, e1, cl_v, gq_pos ⟨h.ws.k, ba.2.1.2.2⟩, gq_pos ⟨by rw [ba.1], by rw [ba.1]; exact in_of (by omega) (by decide)⟩, nI_N (k := i) (by omega), ba.2.2 i (by omega), gb_pos ((lgc_eq _ _).mpr rfl), gq_pos h.k0, e2, cl_v, gq_pos ⟨h.ws.k, to.2.1.2.2⟩, gq_pos ⟨.inr (.inr (.inr (by rw [to.1]))), by rw [to.1]; exact in_of (by omega) (by decide), t2.2.1.2.2⟩, gq_pos ⟨by rw [t2.1], by rw [t2.1]; exact in_of (by omega) (by decide)⟩, n0, t2.2.2 0 (by omega), gb_pos ((lgc_eq _ _).mpr rfl), gq_pos h.k0, e3, cl_v, gq_pos ⟨h.ws.k, to.2.1.2.2⟩, gq_pos ⟨.inr (.inr (.inr (by rw [to.1]))), by rw [to.1]; exact in_of (by omega) (by decide), t2.2.1.2.2⟩, gq_pos ⟨by rw [t2.1], by rw [t2.1]; exact in_of (by omega) (by decide)⟩, n2, t2.2.2 2 (by omega), gb_pos ((lgc_eq _ _).mpr rfl), gq_pos h.k0, e4, ci_v, gq_pos ⟨h.ws.k, le.2.1.2.2⟩, gq_pos ⟨.inl (by rw [le.1]), by rw [le.1]; exact in_of (by omega) (by decide)⟩, le.2.2 i (by omega), gb_pos rfl, nI_add])
  rw [key, b295_62, gq_pos h.ws.k, hnp, gb_pos (Int32.le_refl _)]
theorem x295_145 (h : JT sa m sv N x ow B X X.s X.q) : r295 sa sv (d + 4) 145 [some (.ref N), some (.ref x), some (.int (nI 0))] [] m = r295 sa sv (d + 4) 192 [some (.ref N), some (.ref x), some (.int (nI 0))] [] m := by
  obtain ⟨e0, b0⟩ := (h.wc.2.2.2.1).c (by decide)
  obtain ⟨L, ⟨⟨c, hc⟩, a1, a0⟩, a2, a3⟩ := h.ws.ad
  have ez := x233 (sa := sa) (sv := sv) (d := d + 3) hc
  have key := lp_up (fun i => r295 sa sv (d + 4) 145 [some (.ref N), some (.ref x), some (.int (nI i))] [] m) L.length (fun i hi => by
    have e1 := h.adv (sa := sa) (d := d + 2) (show i < cN X.s 3 by omega) (show 5 < 6 by decide)
    have e2 := x236 (sa := sa) (sv := sv) (d := d + 1) hc hi
    have rw5 := a3 i hi
    have n5 : (nI 5).toNatClampNeg = 5 := rfl
    rw [b295_145, gq_pos ⟨h.ws.k, a1.2.2⟩, gq_pos hc.1, ez, ci_v, gb_neg (by rw [nI_leE (by omega) (by omega)]; omega), gq_pos h.k0, e1, ci_v, gq_pos ⟨h.ws.k, a1.2.2⟩, gq_pos hc.1, e2, cr_v, gq_pos ⟨by rw [rw5.1], fun z => absurd z (by decide)⟩, gq_pos ⟨.inl (by rw [rw5.1]), by rw [rw5.1]; exact in_of (by omega) (by decide)⟩, n5, rw5.2.2 5 (by omega), gb_pos rfl, nI_add])
  rw [key, b295_145, gq_pos ⟨h.ws.k, a1.2.2⟩, gq_pos hc.1, ez, ci_v, gb_pos (Int32.le_refl _)]
theorem x295_192 (h : JT sa m sv N x ow B X X.s X.q) : r295 sa sv (d + 4) 192 [some (.ref N), some (.ref x), some (.int (nI 0))] [] m = some (.inl (some (.int (nI 1))), m) := by
  obtain ⟨e0, b0⟩ := (h.wc.2.2.1).c (by decide)
  obtain ⟨L, ⟨⟨c, hc⟩, a1, a0⟩, a2, a3⟩ := h.ws.as
  have ez := x233 (sa := sa) (sv := sv) (d := d + 3) hc
  have key := lp_up (fun i => r295 sa sv (d + 4) 192 [some (.ref N), some (.ref x), some (.int (nI i))] [] m) L.length (fun i hi => by
    have e1 := h.asg (sa := sa) (d := d + 1) (show i < cN X.s 2 by omega)
    have e2 := x236 (sa := sa) (sv := sv) (d := d + 1) hc hi
    have rw5 := a3 i hi
    have n5 : (nI 5).toNatClampNeg = 5 := rfl
    rw [b295_192, gq_pos ⟨h.ws.k, a1.2.2⟩, gq_pos hc.1, ez, ci_v, gb_neg (by rw [nI_leE (by omega) (by omega)]; omega), gq_pos h.k0, e1, ci_v, gq_pos ⟨h.ws.k, a1.2.2⟩, gq_pos hc.1, e2, cr_v, gq_pos ⟨by rw [rw5.1], fun z => absurd z (by decide)⟩, gq_pos ⟨.inl (by rw [rw5.1]), by rw [rw5.1]; exact in_of (by omega) (by decide)⟩, n5, rw5.2.2 5 (by omega), gb_pos rfl, nI_add])
  rw [key, b295_192, gq_pos ⟨h.ws.k, a1.2.2⟩, gq_pos hc.1, ez, ci_v, gb_pos (Int32.le_refl _), gq_pos (by decide)]
theorem x295 (h : JT sa m sv N x ow B X X.s X.q) : am_ca sa sv (d + 5) 295 [.ref N, .ref x] m = some (.inl (some (.int (nI 1))), m) := by
  obtain ⟨e6, b6⟩ := (h.wc.2.2.2.2.2.1).c (by decide)
  have e7 := wk_k h.xg.1.K
  have b7 : X.s 7 = nI (cN X.s 7) := by
    have : cN X.s 7 = min (cN X.s 5) 5 := by
      show (X.s 7).toNatClampNeg = _
      rw [e7, nI_N (by omega)]
    rw [this]; exact e7
  obtain ⟨L, ⟨⟨c, hc⟩, a1, a0⟩, a2, a3⟩ := h.ws.st
  obtain ⟨L6, ⟨⟨c6, hc6⟩, f1, f0⟩, f2⟩ := h.ws.li
  have ez := x233 (sa := sa) (sv := sv) (d := d + 3) hc
  have ez6 := x233 (sa := sa) (sv := sv) (d := d + 3) hc6
  have q4 := h.cnt (sa := sa) (d := d + 2) (show 4 < 7 by decide)
  have q6 := h.cnt (sa := sa) (d := d + 2) (show 6 < 7 by decide)
  have q5 := h.cnt (sa := sa) (d := d + 2) (show 5 < 7 by decide)
  obtain ⟨o, cq, _⟩ := h.cq
  have ql := x187 (sa := sa) (sv := sv) (d := d + 3) cq
  have c4 : cnt_ X.s 4 = X.s 4 := rfl
  have c5 : cnt_ X.s 5 = X.s 7 := rfl
  have c6' : cnt_ X.s 6 = X.s 5 := rfl
  rw [c4] at q4
  rw [c5] at q5
  rw [c6'] at q6
  rw [c295, b295_0, gq_pos h.k0, q4, ci_v, gq_pos h.ws.k, gb_pos h.ws.day.symm, gq_pos h.k0, q6, ci_v, gq_pos h.ws.k, gb_pos h.ws.cl.symm, gq_pos h.k0, q5, ci_v, gq_pos ⟨h.ws.k, a1.2.2⟩, gq_pos hc.1, ez, ci_v, gb_pos (by rw [a2]; exact b7), gq_pos h.k0, ql, ci_v, gq_pos ⟨h.ws.k, f1.2.2⟩, gq_pos hc6.1, ez6, ci_v, gb_pos (by rw [f2]; exact e6), x295_62 h, x295_145 h, x295_192 h]
end J8
