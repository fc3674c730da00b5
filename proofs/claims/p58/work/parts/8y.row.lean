/-! one number of a row -/
section W8
variable {sa sv d x b : Nat} {m : am_M} {ow : Nat → Nat} {s : Nat → Int32} {q : Nat → Int64}
theorem WS.adv1 (h : WS m sv x ow s q) (hC : WC s) (hW : WW s) (hG : GLm s) {L : List Nat} (hL : LW m sv ow (gr_ m x 5) 5 L) (hl : L.length = cN s 3) {a c : Nat} (ha : a < L.length) (ha2 : a < 12) (hc : c < 6) (hna : cN s 2 ≤ 16) (hnd : cN s 3 ≤ 12) (v : Int32) : WS (si_ m (L.getD a 0) c v) sv x ow (up1 s (690 + 6 * a + c) v) q := by
  obtain ⟨f8, d8⟩ := h.ca
  obtain ⟨f10, d10⟩ := h.cu
  obtain ⟨f11, d11⟩ := h.ea
  obtain ⟨L2, b1, b2, b3⟩ := h.as
  obtain ⟨L3, c1, c2, c3⟩ := h.ad
  have eL : L.getD a 0 = L3.getD a 0 := hL.same c1 a ha (by omega)
  have R := c3 a (by omega)
  rw [← eL] at R
  have e := R.2.1.xi sv c v
  have n13 := hG.1
  refine h.upd e (fun t y => by omega) hC hW hG ?_ (h.ba.xt e (by omega)) ⟨f8, d8.xt e (by omega)⟩ (h.tot.xt e (by omega) (fun p hp => by omega)) ⟨f10, d10.xt e (by omega) (fun p hp => by omega)⟩ ⟨f11, d11.xt e (by omega) (fun p hp => by omega)⟩ (fun L' y1 y2 a' ha' => ?_) (fun L' y1 y2 a' ha' => ?_) (fun k hk => if_neg (by omega)) (fun k h1 h2 => if_neg (by omega))
  · obtain ⟨z1, z2, z3⟩ := h.le.xt e (by omega)
    exact ⟨z1, z2, fun p hp => (z3 p hp).trans (if_neg (by omega)).symm⟩
  · rw [y1.same b1 a' ha' (by omega)]
    obtain ⟨z1, z2, z3⟩ := (b3 a' (by omega)).xt e (by omega)
    exact ⟨z1, z2, fun c' hc' => (z3 c' hc').trans (if_neg (by omega)).symm⟩
  · rw [y1.same hL a' ha' (by omega)]
    by_cases y : a' = a
    · subst y
      obtain ⟨z1, z2, z3⟩ := R.set c v
      refine ⟨z1, z2, fun c' hc' => (z3 c' hc').trans ?_⟩
      show (if c' = c then v else s (690 + 6 * a' + c')) = (if 690 + 6 * a' + c' = 690 + 6 * a' + c then v else s (690 + 6 * a' + c'))
      by_cases y2 : c' = c
      · rw [if_pos y2, if_pos (by omega)]
      · rw [if_neg y2, if_neg (by omega)]
    · have eL' : L.getD a' 0 = L3.getD a' 0 := hL.same c1 a' (by omega) (by omega)
      rw [eL']
      obtain ⟨z1, z2, z3⟩ := (c3 a' (by omega)).xt e (by omega)
      exact ⟨z1, z2, fun c' hc' => (z3 c' hc').trans (if_neg (by omega)).symm⟩
theorem WS.asg1 (h : WS m sv x ow s q) (hC : WC s) (hW : WW s) (hG : GLm s) {L : List Nat} (hL : LW m sv ow (gr_ m x 4) 3 L) (hl : L.length = cN s 2) {a c : Nat} (ha : a < L.length) (ha2 : a < 16) (hc : c < 6) (hna : cN s 2 ≤ 16) (hnd : cN s 3 ≤ 12) (v : Int32) : WS (si_ m (L.getD a 0) c v) sv x ow (up1 s (594 + 6 * a + c) v) q := by
  obtain ⟨f8, d8⟩ := h.ca
  obtain ⟨f10, d10⟩ := h.cu
  obtain ⟨f11, d11⟩ := h.ea
  obtain ⟨L2, b1, b2, b3⟩ := h.as
  obtain ⟨L3, c1, c2, c3⟩ := h.ad
  have eL : L.getD a 0 = L2.getD a 0 := hL.same b1 a ha (by omega)
  have R := b3 a (by omega)
  rw [← eL] at R
  have e := R.2.1.xi sv c v
  have n13 := hG.1
  refine h.upd e (fun t y => by omega) hC hW hG ?_ (h.ba.xt e (by omega)) ⟨f8, d8.xt e (by omega)⟩ (h.tot.xt e (by omega) (fun p hp => by omega)) ⟨f10, d10.xt e (by omega) (fun p hp => by omega)⟩ ⟨f11, d11.xt e (by omega) (fun p hp => by omega)⟩ (fun L' y1 y2 a' ha' => ?_) (fun L' y1 y2 a' ha' => ?_) (fun k hk => if_neg (by omega)) (fun k h1 h2 => if_neg (by omega))
  · obtain ⟨z1, z2, z3⟩ := h.le.xt e (by omega)
    exact ⟨z1, z2, fun p hp => (z3 p hp).trans (if_neg (by omega)).symm⟩
  · rw [y1.same hL a' ha' (by omega)]
    by_cases y : a' = a
    · subst y
      obtain ⟨z1, z2, z3⟩ := R.set c v
      refine ⟨z1, z2, fun c' hc' => (z3 c' hc').trans ?_⟩
      show (if c' = c then v else s (594 + 6 * a' + c')) = (if 594 + 6 * a' + c' = 594 + 6 * a' + c then v else s (594 + 6 * a' + c'))
      by_cases y2 : c' = c
      · rw [if_pos y2, if_pos (by omega)]
      · rw [if_neg y2, if_neg (by omega)]
    · have eL' : L.getD a' 0 = L2.getD a' 0 := hL.same b1 a' (by omega) (by omega)
      rw [eL']
      obtain ⟨z1, z2, z3⟩ := (b3 a' (by omega)).xt e (by omega)
      exact ⟨z1, z2, fun c' hc' => (z3 c' hc').trans (if_neg (by omega)).symm⟩
  · rw [y1.same c1 a' ha' (by omega)]
    obtain ⟨z1, z2, z3⟩ := (c3 a' (by omega)).xt e (by omega)
    exact ⟨z1, z2, fun c' hc' => (z3 c' hc').trans (if_neg (by omega)).symm⟩
theorem WS.lea1 (h : WS m sv x ow s q) (hC : WC s) (hW : WW s) (hG : GLm s) {p : Nat} (hp : p < 10) (hna : cN s 2 ≤ 16) (hnd : cN s 3 ≤ 12) (v : Int32) : WS (si_ m (gr_ m x 6) p v) sv x ow (up1 s (8 + p) v) q := by
  obtain ⟨f8, d8⟩ := h.ca
  obtain ⟨f10, d10⟩ := h.cu
  obtain ⟨f11, d11⟩ := h.ea
  obtain ⟨L2, b1, b2, b3⟩ := h.as
  obtain ⟨L3, c1, c2, c3⟩ := h.ad
  have e := h.le.2.1.xi sv p v
  have n13 := hG.1
  refine h.upd e (fun t y => by omega) hC hW hG ?_ (h.ba.xt e (by omega)) ⟨f8, d8.xt e (by omega)⟩ (h.tot.xt e (by omega) (fun p hp => by omega)) ⟨f10, d10.xt e (by omega) (fun p hp => by omega)⟩ ⟨f11, d11.xt e (by omega) (fun p hp => by omega)⟩ (fun L' y1 y2 a' ha' => ?_) (fun L' y1 y2 a' ha' => ?_) (fun k hk => if_neg (by omega)) (fun k h1 h2 => if_neg (by omega))
  · obtain ⟨z1, z2, z3⟩ := h.le.set p v
    refine ⟨z1, z2, fun p' hp' => (z3 p' hp').trans ?_⟩
    show (if p' = p then v else s (8 + p')) = (if 8 + p' = 8 + p then v else s (8 + p'))
    by_cases y2 : p' = p
    · rw [if_pos y2, if_pos (by omega)]
    · rw [if_neg y2, if_neg (by omega)]
  · rw [y1.same b1 a' ha' (by omega)]
    obtain ⟨z1, z2, z3⟩ := (b3 a' (by omega)).xt e (by omega)
    exact ⟨z1, z2, fun c' hc' => (z3 c' hc').trans (if_neg (by omega)).symm⟩
  · rw [y1.same c1 a' ha' (by omega)]
    obtain ⟨z1, z2, z3⟩ := (c3 a' (by omega)).xt e (by omega)
    exact ⟨z1, z2, fun c' hc' => (z3 c' hc').trans (if_neg (by omega)).symm⟩
end W8
