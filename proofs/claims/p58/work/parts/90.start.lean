/-! the law's own run, from its start -/
/-- what stands where the law begins: the script at b, constants by the places that sv names -/
def am_S0 (N0 b L : Nat) (xs : Nat → Int32) (sv : Nat) (m : am_M) : Prop :=
  gt_ m = N0 ∧ gc_ m = 0 ∧ gs_ m = 0 ∧ ge_ m = true ∧ sv < N0 ∧ b < N0 ∧ gk_ m sv = (0, 0) ∧ gk_ m b = (7, L) ∧ (∀ j, j < L → gi_ m b j = xs j) ∧
  (∀ i, i < 28 → gr_ m sv i < N0 ∧ gk_ m (gr_ m sv i) = (8, 0) ∧ gi_ m (gr_ m sv i) 1 = 0 ∧ gr_ m (gr_ m sv i) 0 < N0 ∧ gk_ m (gr_ m (gr_ m sv i) 0) = (9, (kb_ i).length) ∧ ∀ j, j < (kb_ i).length → gi_ m (gr_ m (gr_ m sv i) 0) j = (kb_ i).getD j 0) ∧
  (∀ i, i < 2 → gr_ m sv (41 + i) < N0 ∧ gk_ m (gr_ m sv (41 + i)) = (9, 100) ∧ ∀ j, j < 100 → gi_ m (gr_ m sv (41 + i)) j = (kb_ (28 + i)).getD j 0) ∧
  gr_ m sv 40 < N0 ∧ gk_ m (gr_ m sv 40) = (13, 0) ∧ ∀ a, N0 ≤ a → gk_ m a = (0, 0)
theorem am_law_run (N0 b L : Nat) (xs : Nat → Int32) (sv : Nat) (m : am_M) (hL : L ≤ 260) (h : am_S0 N0 b L xs sv m) : ∃ m', am_rn (gr_ m sv 0) sv (am_ca (gr_ m sv 0) sv 14) (am_hd 411) (am_cd 411) 0 (am_en 4 [.ref b]) [] m = some (.inl (some (.int 1)), m') ∧ ge_ m' = true ∧ gc_ m' ≤ 680830 ∧ gs_ m' ≤ 7059207 := by
  obtain ⟨hgt, hgc, hgs, hge, hsv, hb, ksv, kb, hv, h1, h2, h3, h4, h5⟩ := h
  subst hgt
  have hK : KS (gr_ m sv 0) m sv := ⟨hsv, ksv, h1, fun i hi => ⟨(h2 i hi).1, (h2 i hi).2.1, (h2 i hi).2.2, rfl⟩, h3, h4⟩
  obtain ⟨m', e, x⟩ := x411 (sa := gr_ m sv 0) (sv := sv) (d := 3) (b := b) hK hge (by omega) (by rw [kb]) (by rw [kb]; show L < 2 ^ 20; omega) hb
  refine ⟨m', e, x.ge.trans hge, ?_, ?_⟩
  · have := x.1.2.1; omega
  · have := x.1.2.2.1; omega
