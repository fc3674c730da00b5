/-! a payee's total and current -/
def upq (q : Nat → Int64) (j : Nat) (v : Int64) (k : Nat) : Int64 := if k = j then v else q k
section W8
variable {sa sv d x b : Nat} {m : am_M} {ow : Nat → Nat} {s : Nat → Int32} {q : Nat → Int64}
theorem LW.same {L L' : List Nat} {t a : Nat} (h1 : LW m sv ow a t L) (h2 : LW m sv ow a t L') : ∀ j, j < L.length → j < L'.length → L.getD j 0 = L'.getD j 0 := fun j hj hj' => by
  obtain ⟨⟨c, y⟩, _⟩ := h1
  obtain ⟨⟨c', y'⟩, _⟩ := h2
  rw [← y.2.2.2.2.2.2.1 j hj, ← y'.2.2.2.2.2.2.1 j hj']
theorem WS.tot1 (h : WS m sv x ow s q) (hC : WC s) (hW : WW s) (hG : GLm s) {p j : Nat} (hp : p < 10) (hj : j < 4) (v : Int64) : WS (sl_ m (gr_ m (gr_ m x 9) p) j v) sv x ow s (upq q (10 + 4 * p + j) v) := by
  obtain ⟨f8, d8⟩ := h.ca
  obtain ⟨f10, d10⟩ := h.cu
  obtain ⟨f11, d11⟩ := h.ea
  have e := (h.tot.2.2 p hp).2.1.xl sv j v
  obtain ⟨L2, b1, b2, b3⟩ := h.as
  obtain ⟨L3, c1, c2, c3⟩ := h.ad
  refine h.upd e (fun t y => by omega) hC hW hG (h.le.xt e (by omega)) ?_ ⟨f8, d8.xt e (by omega)⟩ ?_ ⟨f10, d10.xt e (by omega) (fun p hp => by omega)⟩ ⟨f11, d11.xt e (by omega) (fun p hp => by omega)⟩ (fun L y1 y2 a ha => ?_) (fun L y1 y2 a ha => ?_) (fun _ _ => rfl) (fun _ _ _ => rfl)
  · obtain ⟨z1, z2, z3⟩ := h.ba.xt e (by omega)
    exact ⟨z1, z2, fun k hk => (z3 k hk).trans (if_neg (by omega)).symm⟩
  · obtain ⟨z1, z2, z3⟩ := h.tot.set hp (by omega) j v
    refine ⟨z1, z2, fun p' hp' => ?_⟩
    obtain ⟨w1, w2, w3⟩ := z3 p' hp'
    refine ⟨w1, w2, fun c hc => (w3 c hc).trans ?_⟩
    show (if p' = p ∧ c = j then v else q (10 + 4 * p' + c)) = (if 10 + 4 * p' + c = 10 + 4 * p + j then v else q (10 + 4 * p' + c))
    by_cases y : p' = p ∧ c = j
    · rw [if_pos y, if_pos (by omega)]
    · rw [if_neg y, if_neg (by omega)]
  · rw [y1.same b1 a ha (by omega)]
    exact (b3 a (by omega)).xt e (by omega)
  · rw [y1.same c1 a ha (by omega)]
    exact (c3 a (by omega)).xt e (by omega)
theorem WS.cur1 (h : WS m sv x ow s q) (hC : WC s) (hW : WW s) (hG : GLm s) {p j : Nat} (hp : p < 10) (v : Int64) : WS (sl_ m (gr_ m (gr_ m x 10) p) j v) sv x ow s q := by
  obtain ⟨f8, d8⟩ := h.ca
  obtain ⟨f10, d10⟩ := h.cu
  obtain ⟨f11, d11⟩ := h.ea
  have e := (d10.2.2 p hp).2.1.xl sv j v
  obtain ⟨L2, b1, b2, b3⟩ := h.as
  obtain ⟨L3, c1, c2, c3⟩ := h.ad
  refine h.upd e (fun t y => by omega) hC hW hG (h.le.xt e (by omega)) (h.ba.xt e (by omega)) ⟨f8, d8.xt e (by omega)⟩ (h.tot.xt e (by omega) (fun p hp => by omega)) ⟨_, d10.set hp (by omega) j v⟩ ⟨f11, d11.xt e (by omega) (fun p hp => by omega)⟩ (fun L y1 y2 a ha => ?_) (fun L y1 y2 a ha => ?_) (fun _ _ => rfl) (fun _ _ _ => rfl)
  · rw [y1.same b1 a ha (by omega)]
    exact (b3 a (by omega)).xt e (by omega)
  · rw [y1.same c1 a ha (by omega)]
    exact (c3 a (by omega)).xt e (by omega)
theorem WS.ear1 (h : WS m sv x ow s q) (hC : WC s) (hW : WW s) (hG : GLm s) {p j : Nat} (hp : p < 10) (v : Int64) : WS (sl_ m (gr_ m (gr_ m x 11) p) j v) sv x ow s q := by
  obtain ⟨f8, d8⟩ := h.ca
  obtain ⟨f10, d10⟩ := h.cu
  obtain ⟨f11, d11⟩ := h.ea
  have e := (d11.2.2 p hp).2.1.xl sv j v
  obtain ⟨L2, b1, b2, b3⟩ := h.as
  obtain ⟨L3, c1, c2, c3⟩ := h.ad
  refine h.upd e (fun t y => by omega) hC hW hG (h.le.xt e (by omega)) (h.ba.xt e (by omega)) ⟨f8, d8.xt e (by omega)⟩ (h.tot.xt e (by omega) (fun p hp => by omega)) ⟨f10, d10.xt e (by omega) (fun p hp => by omega)⟩ ⟨_, d11.set hp (by omega) j v⟩ (fun L y1 y2 a ha => ?_) (fun L y1 y2 a ha => ?_) (fun _ _ => rfl) (fun _ _ _ => rfl)
  · rw [y1.same b1 a ha (by omega)]
    exact (b3 a (by omega)).xt e (by omega)
  · rw [y1.same c1 a ha (by omega)]
    exact (c3 a (by omega)).xt e (by omega)
theorem WS.bal1 (h : WS m sv x ow s q) (hC : WC s) (hW : WW s) (hG : GLm s) {p : Nat} (hp : p < 10) (v : Int64) : WS (sl_ m (gr_ m x 7) p v) sv x ow s (upq q p v) := by
  obtain ⟨f8, d8⟩ := h.ca
  obtain ⟨f10, d10⟩ := h.cu
  obtain ⟨f11, d11⟩ := h.ea
  have e := h.ba.2.1.xl sv p v
  obtain ⟨L2, b1, b2, b3⟩ := h.as
  obtain ⟨L3, c1, c2, c3⟩ := h.ad
  refine h.upd e (fun t y => by omega) hC hW hG (h.le.xt e (by omega)) (h.ba.set p v) ⟨f8, d8.xt e (by omega)⟩ ?_ ⟨f10, d10.xt e (by omega) (fun p hp => by omega)⟩ ⟨f11, d11.xt e (by omega) (fun p hp => by omega)⟩ (fun L y1 y2 a ha => ?_) (fun L y1 y2 a ha => ?_) (fun _ _ => rfl) (fun _ _ _ => rfl)
  · obtain ⟨z1, z2, z3⟩ := h.tot.xt e (by omega) (fun p hp => by omega)
    refine ⟨z1, z2, fun p' hp' => ?_⟩
    obtain ⟨w1, w2, w3⟩ := z3 p' hp'
    exact ⟨w1, w2, fun c hc => (w3 c hc).trans (if_neg (by omega)).symm⟩
  · rw [y1.same b1 a ha (by omega)]
    exact (b3 a (by omega)).xt e (by omega)
  · rw [y1.same c1 a ha (by omega)]
    exact (c3 a (by omega)).xt e (by omega)
end W8
