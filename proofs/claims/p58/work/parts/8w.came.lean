/-! what came is added up -/
section W8
variable {sa sv d x b : Nat} {m : am_M} {ow : Nat → Nat} {s : Nat → Int32} {q : Nat → Int64}
theorem WS.came (h : WS m sv x ow s q) (hC : WC s) (hW : WW s) (hG : GLm s) (k : Nat) (v : Int64) : WS (sl_ m (gr_ m x 8) k v) sv x ow s q := by
  obtain ⟨f8, d8⟩ := h.ca
  obtain ⟨f10, d10⟩ := h.cu
  obtain ⟨f11, d11⟩ := h.ea
  have e := d8.2.1.xl sv k v
  obtain ⟨L2, b1, b2, b3⟩ := h.as
  obtain ⟨L3, c1, c2, c3⟩ := h.ad
  have key : ∀ {L L' : List Nat} {t a : Nat}, LW m sv ow a t L → LW m sv ow a t L' → L.length = L'.length → ∀ j, j < L.length → L.getD j 0 = L'.getD j 0 := fun h1 h2 h3 j hj => by
    obtain ⟨⟨c, y⟩, _⟩ := h1
    obtain ⟨⟨c', y'⟩, _⟩ := h2
    rw [← y.2.2.2.2.2.2.1 j hj, ← y'.2.2.2.2.2.2.1 j (by omega)]
  refine h.upd e (fun t y => by omega) hC hW hG (h.le.xt e (by omega)) (h.ba.xt e (by omega)) ⟨_, d8.set k v⟩ (h.tot.xt e (by omega) (fun p hp => by omega)) ⟨f10, d10.xt e (by omega) (fun p hp => by omega)⟩ ⟨f11, d11.xt e (by omega) (fun p hp => by omega)⟩ (fun L y1 y2 a ha => ?_) (fun L y1 y2 a ha => ?_) (fun _ _ => rfl) (fun _ _ _ => rfl)
  · rw [key y1 b1 (by omega) a ha]
    exact (b3 a (by omega)).xt e (by omega)
  · rw [key y1 c1 (by omega) a ha]
    exact (c3 a (by omega)).xt e (by omega)
theorem x290_10 (hC : WC s) (hW : WW s) (hG : GLm s) (l1 l2 : Int32) (o5 o6 o7 o8 o9 : Option Value) : ∀ (k i : Nat) (M : am_M), i + k = cN s 1 → WS M sv x ow s q → gk_ M b = (2, cN s 1) → ∃ M2, r290 sa sv d 10 [some (.ref x), some (.int l1), some (.int l2), some (.ref b), some (.int (nI i)), o5, o6, o7, o8, o9] [] M = r290 sa sv d 10 [some (.ref x), some (.int l1), some (.int l2), some (.ref b), some (.int (nI (cN s 1))), o5, o6, o7, o8, o9] [] M2 ∧ WS M2 sv x ow s q ∧ gk_ M2 = gk_ M ∧ Ex (fun y => y = gr_ M x 8) 0 0 M M2 ∧ gr_ M2 = gr_ M ∧ gi_ M2 = gi_ M ∧ gt_ M2 = gt_ M := by
  have n13 := ((wc_nw hC).c (by decide)).2
  intro k
  induction k with
  | zero =>
    intro i M hi h kb
    have hi' : i = cN s 1 := by omega
    rw [hi']
    exact ⟨M, rfl, h, rfl, Ex.refl _ _, rfl, rfl, rfl⟩
  | succ k ih =>
    intro i M hi h kb
    obtain ⟨f8, d8⟩ := h.ca
    have hz : ¬ gr_ M x 8 = 0 := d8.2.1.2.2
    obtain ⟨M2, e2, h2, k2, x2, r2, i2, g2⟩ := ih (i + 1) (sl_ M (gr_ M x 8) i (gl_ M (gr_ M x 8) i + (gi_ M b i).toInt64)) (by omega) (h.came hC hW hG i _) kb
    refine ⟨M2, ?_, h2, k2, ?_, r2, i2, g2⟩
    · rw [b290_10, kb, gq_pos (by show 2 ≤ 2 ∧ ¬ 2 = 8; decide), gb_neg (by show ¬ nI (cN s 1) ≤ nI i; rw [nI_leI (by omega) (by omega)]; omega), gq_pos ⟨h.k, hz⟩, d8.1, gq_pos ⟨rfl, in_of (show i < 12 by have := hG.1; omega) (by omega)⟩, gq_pos ⟨.inl rfl, in_of (show i < cN s 1 by omega) (by omega)⟩, gq_pos ⟨rfl, in_of (show i < 12 by have := hG.1; omega) (by omega)⟩, nI_clamp (show i < 2 ^ 31 by omega), nI_add]
      exact e2
    · have e0 : Ex (fun y => y = gr_ M x 8) 0 0 M (sl_ M (gr_ M x 8) i (gl_ M (gr_ M x 8) i + (gi_ M b i).toInt64)) := (Ex.refl _ _).sl (.inr rfl)
      exact e0.trans x2 (fun y _ z => z)
end W8
