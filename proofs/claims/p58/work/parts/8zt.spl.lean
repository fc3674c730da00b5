/-! the generator's split -/
section G8
variable {sa sv d x b t w : Nat} {m m' : am_M} {ow : Nat → Nat} {s : Nat → Int32} {q : Nat → Int64} {l : List Int32}
theorem Gs.tr {S : Nat → Prop} {n z : Nat} (h : Gs S x b n z m m') : Ex (fun _ => True) n z m m' := h.1.mono (fun _ _ _ => trivial) (Nat.le_refl _) (Nat.le_refl _)
theorem Gx.tr {n z : Nat} (h : Gx x b n z m m') : Ex (fun _ => True) n z m m' := h.1.mono (fun _ _ _ => trivial) (Nat.le_refl _) (Nat.le_refl _)
theorem x284 (h : GS sa m sv x b t ow s q l) (hT : GT l s q) (h3 : ∀ y, gt_ m ≤ y → 300 ≤ ow y) (hw : w < cN s 1) (hn : cN s (18 + 48 * w) = 1) (h0 : cN s (19 + 48 * w) = 0) (hnp : 1 ≤ cN s 0) (h2 : l.length + 70 ≤ 1000) (ht : t + 20 < 2 ^ 20) : ∃ m' t' ow' s' l', am_ca sa sv (d + 9) 284 [.ref x, .ref b, .int (nI w)] m = some (.inl none, m') ∧ GS sa m' sv x b t' ow' s' q l' ∧ GT l' s' q ∧ (∀ y, y < gt_ m → ow' y = ow y) ∧ (∀ y, gt_ m' ≤ y → 300 ≤ ow' y) ∧ t' ≤ t + 11 ∧ l'.length ≤ l.length + 51 ∧ (∀ k, k < 18 → s' k = s k) ∧ Ex (fun _ => True) 80 90000 m m' := by
  have hG1 := h.gl.1
  have hnp10 := h.sm.1.2.2.1
  have hg : ge_ m = true := h.sb.kb.2.2.2.2
  have xa : Ex NoP 1 1 m (al_ m (11, 1) 1) := Ex.al _ _ _
  have G0 := h.no xa
  have kt0 : gk_ (al_ m (11, 1) 1) (gt_ m) = (11, 1) := gk_al m _ _
  have g0 : gt_ (al_ m (11, 1) 1) = gt_ m + 1 := rfl
  have kx0 := G0.xn.1
  generalize hm0 : al_ m (11, 1) 1 = m0 at xa G0 kt0 g0 kx0
  obtain ⟨v, m1, hv, e1, G1, f1⟩ := G0.next (sa := sa) (d := d + 5) (n := 40) (by omega) (by omega) (by omega)
  obtain ⟨m2, e2, G2, f2⟩ := G1.c (sa := sa) (d := d + 3) (i := 18) (by omega) (by rw [kb18]; show _ + 6 ≤ 1000; omega)
  have l18 : (kb_ 18).length = 6 := by rw [kb18]; rfl
  have l19 : (kb_ 19).length = 6 := by rw [kb19]; rfl
  have l11 : (kb_ 11).length = 3 := by rw [kb11]; rfl
  have lnw : (nm_ 10 w).length = 2 := nm_len (.inr rfl)
  obtain ⟨m3', a, m3, e3, k3, e3', G3, f3⟩ := G2.w_ (sa := sa) (d := d + 1) (p := w) (by omega) (by rw [List.length_append, l18]; omega)
  obtain ⟨m4, e4, G4, f4⟩ := G3.c (sa := sa) (d := d + 3) (i := 19) (by omega) (by rw [List.length_append, List.length_append, l18, lnw, l19]; omega)
  obtain ⟨m5, e5, G5, f5⟩ := G4.n_ (sa := sa) (d := d + 3) (v := 1 + v) (by omega) (by rw [List.length_append, List.length_append, List.length_append, l18, lnw, l19]; omega)
  have hd2 := dg_len3 (show 1 + v < 1000 by omega)
  have g1 := f1.1.gt
  have g2 := f2.1.gt
  have g3 := f3.1.gt
  have g4 := f4.1.gt
  have g5 := f5.1.gt
  have kt5 : gk_ m5 (gt_ m) = (11, 1) := (f5.1.k (by omega)).trans ((f4.1.k (by omega)).trans ((f3.1.k (by omega)).trans ((f2.1.k (by omega)).trans ((f1.1.k (by omega)).trans kt0))))
  have hlen5 : (l ++ kb_ 18 ++ nm_ 10 w ++ kb_ 19 ++ dg_ (1 + v)).length ≤ l.length + 17 := by
    rw [List.length_append, List.length_append, List.length_append, List.length_append, l18, l19, lnw]
    omega
  obtain ⟨m6, L, t6, r, e6, G6, a1, a2, a3, a4, a5, a6, a7, a8, a9, a10, a11, f6⟩ := x280 (sa := sa) (d := d) G5 (fun y hy => h3 y (by omega)) kt5 (by omega) hnp hnp10 (by omega) (by omega)
  have g6 := f6.1.gt
  have or3 : 300 ≤ ow r := h3 r (by omega)
  have kt6 : gk_ m6 (gt_ m) = (11, 1) := (f6.1.k (by omega)).trans kt5
  have hwh : whP s w (1 + v) L = 0 := by
    unfold whP
    rw [if_pos a4, hn, show 19 + 48 * w + (1 - 1) = 19 + 48 * w by omega, h0, if_pos (by omega)]
  have hT8 := hT.sp hw (by omega) (by omega) a1 a2 a3 (by omega) hwh (ie := 8) (.inr rfl)
  rw [hn] at hT8
  have G7 := G6.scr (k := 0) (v := nI (1 + v)) or3 a7
  have r0 : ¬ r = 0 := by omega
  obtain ⟨o, m7, ow7, e7, o1, o2, o3, o4, o5, e8, G8, p1, p2, x8⟩ := G7.wspl (sa := sa) (d := d + 2) hw hn (r := r) (day := 1 + v) (L := L) a7 a9 or3 r0 (gi_si1 _ _ _ _) (fun j y hy => by
    rw [gi_si, if_neg (by omega), gi_si, if_neg (by omega)]
    exact a10.2 j y hy) a2 hT8.wg hT8.sm
  have hlb : (kb_ 11 ++ bts L).length ≤ 31 := by
    rw [List.length_append, l11]
    omega
  have hlen6 : (l ++ kb_ 18 ++ nm_ 10 w ++ kb_ 19 ++ dg_ (1 + v) ++ (kb_ 11 ++ bts L)).length ≤ l.length + 48 := by
    rw [List.length_append]
    omega
  obtain ⟨ie, m8, hie, e9, G9, f9⟩ := G8.end_ (sa := sa) (d := d + 2) (by omega)
  have o5' : gk_ m6 (gr_ m6 x 3) = (1, 15) := o5
  have e7' : am_ca sa sv (d + 8) 236 [.ref (gr_ m6 x 3), .int (nI w)] (si_ m6 r 0 (nI (1 + v))) = some (.inl (some (.ref o)), si_ m6 r 0 (nI (1 + v))) := e7 (d + 5)
  have kt7 : gk_ (si_ m6 r 0 (nI (1 + v))) (gt_ m) = (11, 1) := kt6
  have r67 : gr_ (si_ m6 r 0 (nI (1 + v))) (gt_ m) 0 = r := a6
  have hT9 := hT.sp hw (by omega) (by omega) a1 a2 a3 (by omega) hwh hie
  rw [hn] at hT9
  have el : l ++ kb_ 18 ++ nm_ 10 w ++ kb_ 19 ++ dg_ (1 + v) ++ (kb_ 11 ++ bts L) ++ kb_ ie = l ++ (kb_ 18 ++ (nm_ 10 w ++ (kb_ 19 ++ (dg_ (1 + v) ++ (kb_ 11 ++ (bts L ++ kb_ ie)))))) := by simp only [List.append_assoc]
  have hle : (kb_ ie).length ≤ 3 := by
    rcases hie with y | y <;> rw [y]
    · exact Nat.le_refl _
    · show 1 ≤ 3
      omega
  have g7 := x8.gt
  have g9 := f9.1.gt
  refine ⟨m8, t6, ow7, _, _, ?_, G9, by rw [el]; exact hT9, fun y hy => p1 y (by show y < gt_ m6; omega) (by omega), fun y hy => p2 y (by omega), by omega, ?_, fun k hk => splU_lo hk, ?_⟩
  · rw [c284, b284_0, nI_clamp (show 1 < 2 ^ 31 by omega), gq_pos ⟨by decide, by omega, hg⟩, hm0, gq_pos kx0, e1, ci_v, gq_pos G1.kb, e2, cr_v, e3, cr_v, gq_pos k3, e3', cr_v, gq_pos G3.kb, e4, cr_v, gq_pos G4.kb, nI_add, e5, cr_v, gq_pos G5.xn.1, e6, c0_v, kt6, nI_clamp (show 0 < 2 ^ 31 by omega), a6, gq_pos ⟨.inr (.inr (.inl rfl)), in_of (show 0 < 1 by omega) (by omega), r0⟩, a7, gq_pos ⟨rfl, in_of (show 0 < 2 * L.length + 1 by omega) (by omega)⟩, gq_pos ⟨G6.xn.1, o4⟩, gq_pos o5', e7', cr_v, o1, gq_pos ⟨rfl, fun _ => rfl⟩, gq_pos ⟨rfl, o2⟩, kt7, r67, gq_pos ⟨.inr (.inr (.inl rfl)), in_of (show 0 < 1 by omega) (by omega), r0⟩, gq_pos o3, e8, ci_v, gq_pos G8.xn.1, e9, c0_v]
  · rw [List.length_append]
    omega
  · have y0 : Ex (fun _ => True) 1 1 m m0 := xa.mono (fun _ _ _ => trivial) (Nat.le_refl _) (Nat.le_refl _)
    have y7 : Ex (fun _ => True) 0 0 m6 (si_ m6 r 0 (nI (1 + v))) := (Ex.refl _ _).si (.inr trivial)
    exact (((((((((y0.trans f1.tr (fun _ _ z => z)).trans f2.tr (fun _ _ z => z)).trans f3.tr (fun _ _ z => z)).trans f4.tr (fun _ _ z => z)).trans f5.tr (fun _ _ z => z)).trans f6.tr (fun _ _ z => z)).trans y7 (fun _ _ z => z)).trans x8 (fun _ _ z => z)).trans f9.tr (fun _ _ z => z)).mono (fun _ _ z => z) (by omega) (by omega)
end G8
