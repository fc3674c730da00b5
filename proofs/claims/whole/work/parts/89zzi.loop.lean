/-! the law's loop -/
theorem law_end {L i : Nat} (hL : L ≤ 3072) (hi : i ≤ 3078) : (nI L - nI 6 < nI i) = (L < i + 6) := by
  by_cases h : 6 ≤ L
  · have e : nI L - nI 6 = nI (L - 6) := by
      have e1 : nI L = nI (L - 6) + nI 6 := by rw [nI_add, Nat.sub_add_cancel h]
      rw [e1]
      exact Int32.add_sub_cancel _ _
    rw [e, nI_ltE (by omega) (by omega)]
    exact propext (by omega)
  · have e : ∀ l, l < 6 → (nI l - nI 6).toInt < 0 := by decide
    have := e L (by omega)
    exact propext ⟨fun _ => by omega, fun _ => by rw [Int32.lt_iff_toInt_lt, nI_toInt (by omega)]; omega⟩
section K89
variable {sa sv N b L C S n i : Nat} {m : am_M} {X : TX}
theorem ar_gb {p : Prop} {x y : Option am_R} (hx : AR sa sv N b L C S n i x) (hy : AR sa sv N b L C S n i y) : AR sa sv N b L C S n i (gb_ p x y) := by
  by_cases h : p
  · rw [gb_pos h]; exact hx
  · rw [gb_neg h]; exact hy
theorem AR.skip (h : LZ N b L C S n m X) (o6 o7 o8 : Option Value) : AR sa sv N b L C S n i (r411 sa sv 20 3178 [some (.ref b), some (.ref N), some (.ref (N + 243)), some (.ref (N + 266)), some (.ref (N + 267)), some (.int (nI i)), o6, o7, o8] [] m) := ⟨m, X, o6, o7, o8, ⟨h.n0, h.bN, h.l3, h.tc, h.tr, h.g.mono (by omega), h.k, by have := h.c; omega, by have := h.z; omega⟩, rfl⟩
/-- the reference's own rows are the state's -/
theorem LZ.own (h : LZ N b L C S n m X) : LZ N b L C S n m (X.wS (gi_ m (N + 245)) (gl_ m (N + 249))) := by
  obtain ⟨h1, h2⟩ := h.tc.cg h.g (s := gi_ m (N + 245)) (q := gl_ m (N + 249)) h.tr.s h.tr.q
  have h0 := h.tr
  have h3 : TR m N (X.wS (gi_ m (N + 245)) (gl_ m (N + 249))) := ⟨h0.x, fun k _ => rfl, fun k _ => rfl, h0.n, h0.b, h0.u, h0.ps, h0.pq, h0.v, h0.ss, h0.sq, h0.e1, h0.e2, h0.e3, h0.r, h0.h, h0.rb⟩
  exact ⟨h.n0, h.bN, h.l3, h1, h3, h2, h.k, h.c, h.z⟩
theorem law_loop : ∀ (k n : Nat) (m : am_M) (X : TX) (o6 o7 o8 : Option Value), LZ N b L C S n m X → n ≤ 512 → L ≤ 6 * n + 6 * k → ∃ m', r411 sa sv 20 28 [some (.ref b), some (.ref N), some (.ref (N + 243)), some (.ref (N + 266)), some (.ref (N + 267)), some (.int (nI (6 * n))), o6, o7, o8] [] m = some (.inl (some (.int 1)), m') ∧ gc_ m' ≤ C + 512 ∧ gs_ m' ≤ S + 3072 := by
  intro k
  induction k with
  | zero =>
    intro n m X o6 o7 o8 h hn hk
    have e1 : (gk_ m b).1 = 7 := by rw [h.k]
    have e2 : (gk_ m b).2 = L := by rw [h.k]
    have c := h.c
    have z := h.z
    rw [b411_28, gq_pos ⟨by rw [e1]; omega, by rw [e1]; omega⟩, e2, gb_pos (by rw [law_end h.l3 (by omega)]; omega), gq_pos (by decide)]
    exact ⟨m, rfl, by omega, by omega⟩
  | succ k ih =>
    intro n m X o6 o7 o8 h hn hk
    have e1 : (gk_ m b).1 = 7 := by rw [h.k]
    have e2 : (gk_ m b).2 = L := by rw [h.k]
    have c := h.c
    have z := h.z
    have l3 := h.l3
    by_cases hi : 6 * n + 6 ≤ L
    · have hn1 : n < 512 := by omega
      have h2 := h.own
      have go : ∀ r, AR sa sv N b L C S n (6 * n) r → ∃ m', r = some (.inl (some (.int 1)), m') ∧ gc_ m' ≤ C + 512 ∧ gs_ m' ≤ S + 3072 := by
        intro r hr
        obtain ⟨m2, X2, p6, p7, p8, g1, g2⟩ := hr
        rw [g2, b411_3178, nI_add]
        exact ih (n + 1) m2 X2 p6 p7 p8 g1 (by omega) (by omega)
      rw [b411_28, gq_pos ⟨by rw [e1]; omega, by rw [e1]; omega⟩, e2, gb_neg (by rw [law_end h.l3 (by omega)]; omega), gq_pos ⟨Or.inr e1, in_of (by omega) (by omega)⟩]
      exact go _ (ar_gb (A0 h2 rfl rfl hn1 hi o6 o7 o8) (ar_gb (A1 h2 rfl rfl hn1 hi o6 o7 o8) (ar_gb (A2 h2 rfl rfl hn1 hi o6 o7 o8) (ar_gb (A3 h2 rfl rfl hn1 hi o6 o7 o8) (ar_gb (A4 h2 rfl rfl hn1 hi o6 o7 o8) (ar_gb (A5 h2 rfl rfl hn1 hi o6 o7 o8) (ar_gb (A6 h2 rfl rfl hn1 hi o6 o7 o8) (ar_gb (A7 h2 rfl rfl hn1 hi o6 o7 o8) (ar_gb (A8 h2 rfl rfl hn1 hi o6 o7 o8) (ar_gb (A9 h2 rfl rfl hn1 hi o6 o7 o8) (ar_gb (A10 h2 rfl rfl hn1 hi o6 o7 o8) (ar_gb (A11 h2 rfl rfl hn1 hi o6 o7 o8) (ar_gb (A12 h2 rfl rfl hn1 hi o6 o7 o8) (ar_gb (A13 h2 rfl rfl hn1 hi o6 o7 o8) (ar_gb (A14 h2 rfl rfl hn1 hi o6 o7 o8) (ar_gb (A15 h2 rfl rfl hn1 hi o6 o7 o8) (ar_gb (A16 h2 rfl rfl hn1 hi o6 o7 o8) (ar_gb (A17 h2 rfl rfl hn1 hi o6 o7 o8) (ar_gb (A18 h2 rfl rfl hn1 hi o6 o7 o8) (ar_gb (A19 h2 rfl rfl hn1 hi o6 o7 o8) (ar_gb (A20 h2 rfl rfl hn1 hi o6 o7 o8) (ar_gb (A21 h2 rfl rfl hn1 hi o6 o7 o8) (ar_gb (A22 h2 rfl rfl hn1 hi o6 o7 o8) (ar_gb (A23 h2 rfl rfl hn1 hi o6 o7 o8) (ar_gb (A24 h2 rfl rfl hn1 hi o6 o7 o8) (ar_gb (A25 h2 rfl rfl hn1 hi o6 o7 o8) (ar_gb (A26 h2 rfl rfl hn1 hi o6 o7 o8) (ar_gb (A27 h2 rfl rfl hn1 hi o6 o7 o8) (ar_gb (A28 h2 rfl rfl hn1 hi o6 o7 o8) (ar_gb (A29 h2 rfl rfl hn1 hi o6 o7 o8) (ar_gb (A30 h2 rfl rfl hn1 hi o6 o7 o8) (ar_gb (A31 h2 rfl rfl hn1 hi o6 o7 o8) (ar_gb (A32 h2 rfl rfl hn1 hi o6 o7 o8) (ar_gb (A33 h2 rfl rfl hn1 hi o6 o7 o8) (ar_gb (A34 h2 rfl rfl hn1 hi o6 o7 o8) (ar_gb (A35 h2 rfl rfl hn1 hi o6 o7 o8) (ar_gb (A36 h2 rfl rfl hn1 hi o6 o7 o8) (ar_gb (A37 h2 rfl rfl hn1 hi o6 o7 o8) (ar_gb (A38 h2 rfl rfl hn1 hi o6 o7 o8) (ar_gb (A39 h2 rfl rfl hn1 hi o6 o7 o8) (ar_gb (A40 h2 rfl rfl hn1 hi o6 o7 o8) (ar_gb (A41 h2 rfl rfl hn1 hi o6 o7 o8) (ar_gb (A42 h2 rfl rfl hn1 hi o6 o7 o8) (ar_gb (A43 h2 rfl rfl hn1 hi o6 o7 o8) (ar_gb (A44 h2 rfl rfl hn1 hi o6 o7 o8) (ar_gb (A45 h2 rfl rfl hn1 hi o6 o7 o8) (ar_gb (A46 h2 rfl rfl hn1 hi o6 o7 o8) (ar_gb (A47 h2 rfl rfl hn1 hi o6 o7 o8) (ar_gb (A48 h2 rfl rfl hn1 hi o6 o7 o8) (ar_gb (A49 h2 rfl rfl hn1 hi o6 o7 o8) (ar_gb (A50 h2 rfl rfl hn1 hi o6 o7 o8) (ar_gb (A51 h2 rfl rfl hn1 hi o6 o7 o8) (ar_gb (A52 h2 rfl rfl hn1 hi o6 o7 o8) (ar_gb (A53 h2 rfl rfl hn1 hi o6 o7 o8) (ar_gb (A54 h2 rfl rfl hn1 hi o6 o7 o8) (AR.skip h2 o6 o7 o8))))))))))))))))))))))))))))))))))))))))))))))))))))))))
    · rw [b411_28, gq_pos ⟨by rw [e1]; omega, by rw [e1]; omega⟩, e2, gb_pos (by rw [law_end h.l3 (by omega)]; omega), gq_pos (by decide)]
      exact ⟨m, rfl, by omega, by omega⟩
end K89
