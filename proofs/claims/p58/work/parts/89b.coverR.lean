/-! a cover is read: the reference; what is always so stays so -/
section R89
variable {sa sv d N T n i B : Nat} {m : am_M} {b : Nat → Nat} {s s' : Nat → Int32} {q q' : Nat → Int64} {σ : Er ⊕ Nat} {L : List (Nat × Nat)}
theorem sSemi_100 {i : Nat} {x : Nat × Unit} (h : sSemi b n (if lsum L = 100 then 0 else 1) i = .inr x) : lsum L = 100 := by
  have := (sSemi_i h).2.1
  split at this
  · assumption
  · cases this
theorem sWK_WG (hG : WG B s q) {x : Nat × ((Nat → Int32) × (Nat → Int64))} (h : sWK s q b n i = .inr x) : WG B x.2.1 x.2.2 := by
  have hnw := isN_lt (wc_nw hG.1.1) (by decide)
  obtain ⟨x1, z1, h⟩ := eb_r h
  obtain ⟨x2, z2, h⟩ := eb_r h
  obtain ⟨x3, z3, h⟩ := eb_r h
  obtain ⟨x4, z4, h⟩ := eb_r h
  have k1 := (sFst_i z1).1
  obtain ⟨k2, k3, k4, k5, k6⟩ := sNew_i z2
  rw [← Sum.inr.inj h]
  exact hG.work (by omega) (sShs_LG z3) (sSemi_100 z4) (by rw [k4]; exact Vl_gd k2) (wnm_new k6)
theorem sCV_WG (hG : WG B s q) {x : Nat × ((Nat → Int32) × (Nat → Int64))} (h : sCV s q b n i = .inr x) : WG B x.2.1 x.2.2 := by
  have hnw := isN_lt (wc_nw hG.1.1) (by decide)
  obtain ⟨x1, z1, h⟩ := eb_r h
  obtain ⟨x2, z2, h⟩ := eb_r h
  obtain ⟨x5, z5, h⟩ := eb_r h
  obtain ⟨x6, z6, h⟩ := eb_r h
  obtain ⟨x7, z7, h⟩ := eb_r h
  obtain ⟨x3, z3, h⟩ := eb_r h
  obtain ⟨x4, z4, h⟩ := eb_r h
  have k1 := (sFst_i z1).1
  obtain ⟨k2, k3, k4, k5, k6⟩ := sNew_i z2
  have hl := (sShs_LG z3).2.1
  have g := hG.work (by omega) (sShs_LG z3) (sSemi_100 z4) (by rw [k4]; exact Vl_gd k2) (wnm_new k6)
  have u1 : cN (splU (wk1 s) (cN s 1) 0 0 x3.2) 1 = cN s 1 + 1 := cN_ (splU_1 hl) (by omega)
  have u2 : cN (splU (wk1 s) (cN s 1) 0 0 x3.2) (59 + 48 * cN s 1) = 0 := cN_ ((splU_59 hl).trans (ww_z hG.1.2.1 _ (Nat.le_refl _) (by omega)).2) (by decide)
  have k8 := (sWrk_i z6).2.2.1
  have k9 := (sNum_i z7).2.2.2
  have g2 := g.source (w := cN s 1) (so := x6.2) (pc := x7.2) (by omega) (by omega) k8 (by omega) (by rw [u2]; show 0 + x7.2 ≤ 90; omega)
  rw [u2] at g2
  rw [← Sum.inr.inj h]
  exact g2
end R89
