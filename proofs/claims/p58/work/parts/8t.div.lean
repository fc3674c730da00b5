/-! the World divides an income: the whole -/
section W8
variable {sa sv d x a b n z : Nat} {m M : am_M} {ls : List Ln} {ow : Nat → Nat} {s : Nat → Int32} {q : Nat → Int64}
theorem cm_le {s : Nat → Int32} (hC : WC s) (hW : WW s) {A : Nat} : ∀ v f, v ≤ cN s 1 → sum_ f v ≤ A → (∀ u, v ≤ u → u < cN s 1 → f u ≤ A) → ∀ u, u < cN s 1 → cm_ s v f u ≤ A := by
  have n13 := ((wc_nw hC).c (by decide)).2
  intro v
  induction v with
  | zero => intro f _ _ h u hu; exact h u (Nat.zero_le _) hu
  | succ v ih =>
    intro f hv hs h u hu
    rw [sum_s] at hs
    refine ih _ (by omega) ?_ ?_ u hu
    · rw [sra_sum hW (by omega) (by omega) _ _ _ (Nat.le_refl _)]
      have := srp_le hW (f v) (show v < cN s 1 by omega) (Nat.le_refl _)
      omega
    · intro u2 h1 h2
      rw [sra_ge s v (f v) f u2 _ (fun i hi y => by
        have := isN_lt (ww_ow hW v i (by omega) hi) (by omega)
        omega)]
      by_cases e : u2 = v
      · rw [e]; omega
      · exact h u2 (by omega) h2
theorem x289 (h : WS m sv x ow s q) (hA : WA s) (hC : WC s) (hW : WW s) (hG : GLm s) (hK : KS sa m sv) (hg : ge_ m = true) (h0 : 0 < gt_ m) (hna : cN s 2 ≤ 3) (hnd : cN s 3 ≤ 12) {w A day : Nat} (hw : w < cN s 1) (hday : day < 2 ^ 20) (hA9 : A ≤ 9999998) : ∃ M2 a b, am_ca sa sv (d + 7) 289 [.ref x, .int (nI w), .int (nI A), .int (nI day)] m = some (.inl (some (.ref a)), M2) ∧ AL m M2 sv a b (cN s 1) (cm_ s (cN s 1) (fun u => if u = w then A else 0)) (dvd_ s day w A).2 200 20000 := by
  have hsv := hK.1
  have no : ∀ y, ¬ NoP y := fun _ y => y
  have n13 := ((wc_nw hC).c (by decide)).2
  have hxl := h.x.2.1
  have hG1 := hG.1
  obtain ⟨m1, e1, c1, x1, g1⟩ := x230 (sa := sa) (sv := sv) (d := d + 3) (m := m) (z := 3) hg ⟨hK.2.2.2.2.2, hK.2.2.2.2.1⟩ hsv
  have W1 := h.xt (x1.xt0 (ow := ow) hsv) (fun t y => absurd y id) (by omega) hG.2 (by omega) hnd
  have sv1 : sv < gt_ m1 := by omega
  obtain ⟨m2, b, e2, x2, k2, g2, g3, v2⟩ := x288 (sa := sa) (d := d + 2) W1 hC hW sv1 ((x1.ge).trans hg) hw (show A ≤ 9999999 by omega)
  have x12 : Ex NoP (1 + (1 + cN s 1)) (3 + 5 * cN s 1) m m2 := x1.trans x2 (fun _ _ y => y)
  obtain ⟨c2, rl, il⟩ := c1.no x2 sv1
  obtain ⟨L, ⟨⟨c, hc⟩, a1, a0⟩, a2, a3⟩ := h.wk
  have hz : ¬ gr_ m x 3 = 0 := a1.2.2
  obtain ⟨hc2, r22, i22⟩ := hc.no x12 hsv
  have e3 := x233 (sa := sa) (d := d + 5) hc2
  have rx : gr_ m2 x = gr_ m x := x12.r hxl (no _)
  have kx : gk_ m2 x = (1, 12) := (x12.k hxl).trans h.k
  have kx1 : gk_ m1 x = (1, 12) := (x1.k hxl).trans h.k
  have A0 : AL m m2 sv (gt_ m) b (cN s 1) (cm_ s (cN s 1) (fun u => if u = w then A else 0)) [] 6 23 := ⟨x12.mono (fun _ _ y => y) (by omega) (by omega), Nat.le_refl _, ⟨[], ⟨0, c2⟩, rfl, List.nodup_nil, fun i y hy => absurd hy (by simp), fun hk => by
    rcases c2.2.2.2.1 with y | y
    · rw [y.2.2] at hk
      exact absurd hk (by show ¬ 13 = 10; decide)
    · omega⟩, by omega, g3, k2, v2⟩
  have hF := cm_le hC hW (A := A) (cN s 1) (fun u => if u = w then A else 0) (Nat.le_refl _) (by rw [sum_pt _ _ _ hw]; exact Nat.le_refl _) (fun u h1 h2 => by omega)
  obtain ⟨M2, e4, A4⟩ := x289_w (sa := sa) (d := d) h hA hC hW hG hsv h0 hna hday (fun u hu => by have := hF u hu; omega) (nI w) (nI A) (cN s 1) 6 23 [] m2 none none none none none none none none (Nat.le_refl _) A0 (by show 0 + 16 * cN s 1 + 4 < 100; omega)
  have ed : dl_ s day (cm_ s (cN s 1) (fun u => if u = w then A else 0)) (cN s 1) [] = (dvd_ s day w A).2 := by
    have y1 := dv_dl hC hW day (cN s 1) (fun u => if u = w then A else 0, []) (Nat.le_refl _)
    have y2 := dv_top s day w A (cN s 1 - (w + 1))
    rw [show w + 1 + (cN s 1 - (w + 1)) = cN s 1 by omega] at y2
    rw [← y1, y2]
  rw [ed] at A4
  refine ⟨M2, gt_ m, b, ?_, A4.le (by omega) (by omega)⟩
  rw [c289, b289_0, gq_pos hg, e1, c0_v, gq_pos kx1, e2, cr_v, rx, gq_pos ⟨kx, hz⟩, gq_pos hc2.1, e3, ci_v, a2, e4]
end W8
