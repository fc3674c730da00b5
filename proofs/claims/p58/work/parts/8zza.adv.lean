/-! the generator's advance -/
section G8
variable {sa sv d x b t : Nat} {m m' : am_M} {ow : Nat → Nat} {s : Nat → Int32} {q : Nat → Int64} {l : List Int32}
theorem GS.np_ (h : GS sa m sv x b t ow s q l) : gi_ m x 0 = nI (cN s 0) := by rw [h.ws.np, ((wc_np h.wg.C).c (by decide)).1]
/-- six ints in a new row -/
theorem six_ (M : am_M) (f : Nat → Int32) : Ex NoP 1 6 M (si_ (si_ (si_ (si_ (si_ (si_ (al_ M (2, 6) 6) (gt_ M) 0 (f 0)) (gt_ M) 1 (f 1)) (gt_ M) 2 (f 2)) (gt_ M) 3 (f 3)) (gt_ M) 4 (f 4)) (gt_ M) 5 (f 5)) ∧ gk_ (si_ (si_ (si_ (si_ (si_ (si_ (al_ M (2, 6) 6) (gt_ M) 0 (f 0)) (gt_ M) 1 (f 1)) (gt_ M) 2 (f 2)) (gt_ M) 3 (f 3)) (gt_ M) 4 (f 4)) (gt_ M) 5 (f 5)) (gt_ M) = (2, 6) ∧ (∀ c, c < 6 → gi_ (si_ (si_ (si_ (si_ (si_ (si_ (al_ M (2, 6) 6) (gt_ M) 0 (f 0)) (gt_ M) 1 (f 1)) (gt_ M) 2 (f 2)) (gt_ M) 3 (f 3)) (gt_ M) 4 (f 4)) (gt_ M) 5 (f 5)) (gt_ M) c = f c) ∧ gt_ (si_ (si_ (si_ (si_ (si_ (si_ (al_ M (2, 6) 6) (gt_ M) 0 (f 0)) (gt_ M) 1 (f 1)) (gt_ M) 2 (f 2)) (gt_ M) 3 (f 3)) (gt_ M) 4 (f 4)) (gt_ M) 5 (f 5)) = gt_ M + 1 := by
  refine ⟨(((((((Ex.al _ _ _).si (.inl (Nat.le_refl _))).si (.inl (Nat.le_refl _))).si (.inl (Nat.le_refl _))).si (.inl (Nat.le_refl _))).si (.inl (Nat.le_refl _))).si (.inl (Nat.le_refl _))), gk_al M (2, 6) 6, fun c hc => ?_, rfl⟩
  by_cases h5 : c = 5
  · rw [h5, gi_si1]
  · rw [gi_si, if_neg (by omega)]
    by_cases h4 : c = 4
    · rw [h4, gi_si1]
    · rw [gi_si, if_neg (by omega)]
      by_cases h3 : c = 3
      · rw [h3, gi_si1]
      · rw [gi_si, if_neg (by omega)]
        by_cases h2 : c = 2
        · rw [h2, gi_si1]
        · rw [gi_si, if_neg (by omega)]
          by_cases h1 : c = 1
          · rw [h1, gi_si1]
          · have h0 : c = 0 := by omega
            rw [gi_si, if_neg (by omega), h0, gi_si1]
theorem x287_88 {p a u c w : Nat} {W : Int32} (h : GS sa m sv x b t ow s q l) (hT : GT l s q) (h3 : ∀ y, gt_ m ≤ y → 300 ≤ ow y) (hn : cN s 3 < 3) (hp : p < cN s 0) (hu : u < cN s 0) (ha : 1 ≤ a) (ha2 : a < 10000) (hc : 1 ≤ c) (hc2 : c ≤ 100) (hpt : ¬ p = u) (hW : W = -1 ∨ W = nI w ∧ w < cN s 1) (h2 : l.length + 60 ≤ 1000) (ht : t + 20 < 2 ^ 20) (o6 : Option Value) : ∃ m' ow' s' l', r287 sa sv (d + 9) 88 [some (.ref x), some (.ref b), some (.int (nI p)), some (.int (nI u)), some (.int (nI a)), some (.int (nI c)), o6] [(.int W)] m = some (.inl none, m') ∧ GS sa m' sv x b t ow' s' q l' ∧ GT l' s' q ∧ (∀ y, y < gt_ m → ow' y = ow y) ∧ (∀ y, gt_ m' ≤ y → 300 ≤ ow' y) ∧ l'.length ≤ l.length + 40 ∧ (∀ k, k < 18 → ¬ k = 3 → s' k = s k) ∧ cN s' 3 = cN s 3 + 1 ∧ Ex (fun _ => True) 40 50000 m m' := by
  have hG1 := h.gl.1
  have hC := h.wg.C
  have hWW := h.wg.1.2.1
  have hna := h.na
  have hnd := h.nd
  have h10 := h.sm.1.2.2.1
  have no : ∀ y, ¬ NoP y := fun _ y => y
  have hg : ge_ m = true := h.sb.kb.2.2.2.2
  have h0 : 0 < gt_ m := by have := h.sb.kb.2.1; omega
  obtain ⟨L, a1, a2, a3⟩ := h.ws.ad
  obtain ⟨⟨c1, hc1⟩, tg1, _⟩ := a1
  obtain ⟨xa, k2, v2, g2⟩ := six_ m (v6c (nI p) (nI u) (nI a) (nI c) W (nI a))
  have ka : gk_ (al_ m (2, 6) 6) (gt_ m) = (2, 6) := gk_al m _ _
  have kl : gk_ (al_ m (2, 6) 6) (gr_ m x 5) = (1, 15) := (gk_alo _ _ _ tg1.2.1).trans hc1.1
  have G2 := h.no xa
  have eM : si_ (si_ (si_ (si_ (si_ (si_ (al_ m (2, 6) 6) (gt_ m) 0 (nI p)) (gt_ m) 1 (nI u)) (gt_ m) 2 (nI a)) (gt_ m) 3 (nI c)) (gt_ m) 4 W) (gt_ m) 5 (nI a) = si_ (si_ (si_ (si_ (si_ (si_ (al_ m (2, 6) 6) (gt_ m) 0 (v6c (nI p) (nI u) (nI a) (nI c) W (nI a) 0)) (gt_ m) 1 (v6c (nI p) (nI u) (nI a) (nI c) W (nI a) 1)) (gt_ m) 2 (v6c (nI p) (nI u) (nI a) (nI c) W (nI a) 2)) (gt_ m) 3 (v6c (nI p) (nI u) (nI a) (nI c) W (nI a) 3)) (gt_ m) 4 (v6c (nI p) (nI u) (nI a) (nI c) W (nI a) 4)) (gt_ m) 5 (v6c (nI p) (nI u) (nI a) (nI c) W (nI a) 5) := rfl
  rw [← eM] at xa k2 v2 g2 G2
  generalize hM2 : si_ (si_ (si_ (si_ (si_ (si_ (al_ m (2, 6) 6) (gt_ m) 0 (nI p)) (gt_ m) 1 (nI u)) (gt_ m) 2 (nI a)) (gt_ m) 3 (nI c)) (gt_ m) 4 W) (gt_ m) 5 (nI a) = M2 at xa k2 v2 g2 G2
  have rx : gr_ M2 x = gr_ m x := xa.r h.xn.2.2.2.2.1 (no _)
  obtain ⟨M3, ow3', e3, W3, _, _, o1, o2, x3, x3p⟩ := G2.ws.rad (sa := sa) (d := d + 3) hC hWW h.gl G2.ks.2.1 G2.ks.1 (nn := cN s 3) rfl (by omega) (by omega) (r := gt_ m) (f := v6c (nI p) (nI u) (nI a) (nI c) W (nI a)) k2 (by omega) (h3 _ (Nat.le_refl _)) (by omega) v2
  rw [rx] at e3
  obtain ⟨R1, R2, R3⟩ := G2.rest x3 (fun y hy z => by
    rcases (x3p y hy z).2 with z | z
    · exact .inr (.inr (.inl z))
    · exact .inr (.inr (.inr (.inl z))))
  have rlo : ∀ k, k < 690 → ¬ k = 3 → rowU s 690 3 (cN s 3) (v6c (nI p) (nI u) (nI a) (nI c) W (nI a)) k = s k := fun k h1 h2 => by
    unfold rowU
    rw [if_neg h2, if_neg (by omega)]
  have c3 : cN (rowU s 690 3 (cN s 3) (v6c (nI p) (nI u) (nI a) (nI c) W (nI a))) 3 = cN s 3 + 1 := cN_ (if_pos rfl) (by omega)
  have hgl : GLm (rowU s 690 3 (cN s 3) (v6c (nI p) (nI u) (nI a) (nI c) W (nI a))) := by
    have c : ∀ k, k < 690 → ¬ k = 3 → cN (rowU s 690 3 (cN s 3) (v6c (nI p) (nI u) (nI a) (nI c) W (nI a))) k = cN s k := fun k h1 h2 => cN_cg (rlo k h1 h2)
    refine ⟨by rw [c 1 (by omega) (by omega)]; exact hG1, fun w hw => ?_⟩
    rw [c 1 (by omega) (by omega)] at hw
    rw [c _ (by omega) (by omega), c _ (by omega) (by omega)]
    exact h.gl.2 w hw
  have hT8 : WG 0 (rowU s 690 3 (cN s 3) (v6c (nI p) (nI u) (nI a) (nI c) W (nI a))) q ∧ SM (rowU s 690 3 (cN s 3) (v6c (nI p) (nI u) (nI a) (nI c) W (nI a))) q := by
    rcases hW with hW | ⟨hW, hw⟩
    · rw [hW]
      have := hT.a0 (by omega) hp hu ha ha2 hc hc2 hpt (ie := 8) (.inr rfl)
      exact ⟨this.wg, this.sm⟩
    · rw [hW]
      have := hT.a1 (by omega) hp hu ha ha2 hc hc2 hpt hw (ie := 8) (.inr rfl)
      exact ⟨this.wg, this.sm⟩
  have G3 : GS sa M3 sv x b t ow3' (rowU s 690 3 (cN s 3) (v6c (nI p) (nI u) (nI a) (nI c) W (nI a))) q l := ⟨W3, R1, R2, R3, hgl, hT8.1, hT8.2, by rw [cN_cg (rlo 2 (by omega) (by omega))]; exact hna, by omega⟩
  have l25 : (kb_ 25).length = 8 := by rw [kb25]; rfl
  have l12 : (kb_ 12).length = 1 := by rw [kb12]; rfl
  have l23 : (kb_ 23).length = 4 := by rw [kb23]; rfl
  have l26 : (kb_ 26).length = 6 := by rw [kb26]; rfl
  have l27 : (kb_ 27).length = 4 := by rw [kb27]; rfl
  have lnp : ∀ p, (nm_ 9 p).length = 2 := fun p => nm_len (.inl rfl)
  have lnw : ∀ p, (nm_ 10 p).length = 2 := fun p => nm_len (.inr rfl)
  have hda := (dg_len (n := a)).2
  have hdc := (dg_len (n := c)).2
  obtain ⟨P1, e1', V1, f1⟩ := G3.c (sa := sa) (d := d + 4) (i := 25) (by omega) (by omega)
  obtain ⟨P2', aa, P2, e2', kk2, e2'', V2, f2⟩ := V1.p_ (sa := sa) (d := d + 2) (p := p) (by omega) (by rw [List.length_append, l25]; omega)
  obtain ⟨P3, e3', V3, f3⟩ := V2.c (sa := sa) (d := d + 4) (i := 12) (by omega) (by rw [List.length_append, List.length_append, l25, lnp, l12]; omega)
  obtain ⟨P4, e4', V4, f4⟩ := V3.n_ (sa := sa) (d := d + 4) (v := a) ha2 (by rw [List.length_append, List.length_append, List.length_append, l25, lnp, l12]; omega)
  have n4 : (l ++ kb_ 25 ++ nm_ 9 p ++ kb_ 12 ++ dg_ a).length ≤ l.length + 15 := by
    rw [List.length_append, List.length_append, List.length_append, List.length_append, l25, lnp, l12]
    omega
  obtain ⟨P5, e5', V5, f5⟩ := V4.c (sa := sa) (d := d + 4) (i := 23) (by omega) (by omega)
  obtain ⟨P6', ab, P6, e6', kk6, e6'', V6, f6⟩ := V5.p_ (sa := sa) (d := d + 2) (p := u) (by omega) (by rw [List.length_append, l23]; omega)
  obtain ⟨P7, e7', V7, f7⟩ := V6.c (sa := sa) (d := d + 4) (i := 26) (by omega) (by rw [List.length_append, List.length_append, l23, lnp, l26]; omega)
  obtain ⟨P8, e8', V8, f8⟩ := V7.n_ (sa := sa) (d := d + 4) (v := c) (by omega) (by rw [List.length_append, List.length_append, List.length_append, l23, lnp, l26]; omega)
  have n8 : (l ++ kb_ 25 ++ nm_ 9 p ++ kb_ 12 ++ dg_ a ++ kb_ 23 ++ nm_ 9 u ++ kb_ 26 ++ dg_ c).length ≤ l.length + 31 := by
    rw [List.length_append, List.length_append, List.length_append, List.length_append, l23, lnp, l26]
    omega
  have fA := ((((((f1.trans f2).trans f3).trans f4).trans f5).trans f6).trans f7).trans f8
  have y2 := xa.mono (P' := fun _ => True) (fun _ _ _ => trivial) (Nat.le_refl _) (Nat.le_refl _)
  have y3 := x3.mono (P' := fun _ => True) (fun _ _ _ => trivial) (Nat.le_refl _) (Nat.le_refl _)
  have yA := (y2.trans y3 (fun _ _ z => z)).trans fA.tr (fun _ _ z => z)
  have gA := yA.gt
  have gM3 := fA.1.gt
  have hle : ∀ ie, (ie = 7 ∨ ie = 8) → (kb_ ie).length ≤ 3 := fun ie hie => by
    rcases hie with y | y <;> rw [y]
    · exact Nat.le_refl _
    · show 1 ≤ 3
      omega
  have pre : r287 sa sv (d + 9) 88 [some (.ref x), some (.ref b), some (.int (nI p)), some (.int (nI u)), some (.int (nI a)), some (.int (nI c)), o6] [(.int W)] m = gb_ (0 ≤ W) (gq_ (gk_ P8 b = (1, 13)) (am_cr (am_ca sa sv (d + 9) 221 [.ref b, .ref (gr_ P8 sv 27)] P8) (fun v46 m45 => am_cr (am_ca sa sv (d + 9) 279 [.int W] m45) (fun v48 m47 => gq_ (gk_ m47 v46 = (1, 13)) (am_cr (am_ca sa sv (d + 9) 221 [.ref v46, .ref v48] m47) (fun v50 m49 => gq_ (gk_ m49 x = (1, 12)) (am_c0 (am_ca sa sv (d + 9) 277 [.ref x, .ref v50] m49) (fun m51 => some (.inl none, m51)) am_xg)) am_xg)) am_xg) am_xg)) (gq_ (gk_ P8 x = (1, 12)) (am_c0 (am_ca sa sv (d + 9) 277 [.ref x, .ref b] P8) (fun m52 => some (.inl none, m52)) am_xg)) := by
    rw [b287_88, gq_pos ⟨h.xn.1, tg1.2.2⟩, nI_clamp (show 6 < 2 ^ 31 by omega), nI_clamp (show 0 < 2 ^ 31 by omega), nI_clamp (show 1 < 2 ^ 31 by omega), nI_clamp (show 2 < 2 ^ 31 by omega), nI_clamp (show 3 < 2 ^ 31 by omega), nI_clamp (show 4 < 2 ^ 31 by omega), nI_clamp (show 5 < 2 ^ 31 by omega), gq_pos ⟨by decide, by omega, hg⟩, ka, gq_pos ⟨rfl, in_of (show 0 < 6 by omega) (by omega)⟩, gq_pos ⟨rfl, in_of (show 1 < 6 by omega) (by omega)⟩, gq_pos ⟨rfl, in_of (show 2 < 6 by omega) (by omega)⟩, gq_pos ⟨rfl, in_of (show 3 < 6 by omega) (by omega)⟩, gq_pos ⟨rfl, in_of (show 4 < 6 by omega) (by omega)⟩, gq_pos ⟨rfl, in_of (show 5 < 6 by omega) (by omega)⟩, gq_pos kl, hM2, e3, ci_v, gq_pos G3.kb, e1', cr_v, e2', cr_v, gq_pos kk2, e2'', cr_v, gq_pos V2.kb, e3', cr_v, gq_pos V3.kb, e4', cr_v, gq_pos V4.kb, e5', cr_v, e6', cr_v, gq_pos kk6, e6'', cr_v, gq_pos V6.kb, e7', cr_v, gq_pos V7.kb, e8', cr_v]
  rw [pre]
  have slo : ∀ k, k < 18 → ¬ k = 3 → rowU s 690 3 (cN s 3) (v6c (nI p) (nI u) (nI a) (nI c) W (nI a)) k = s k := fun k h1 h2 => rlo k (by omega) h2
  rcases hW with hW | ⟨hW, hw⟩
  · obtain ⟨ie, P9, hie, e9, V9, f9⟩ := V8.end_ (sa := sa) (d := d + 3) (by omega)
    have := hle ie hie
    have g9 := f9.1.gt
    have hh := hT.a0 (by omega) hp hu ha ha2 hc hc2 hpt hie
    refine ⟨P9, ow3', _, _, ?_, V9, ?_, fun y hy => o1 y (by omega) (by omega), fun y hy => o2 y (by omega), by rw [List.length_append]; omega, slo, c3, (yA.trans f9.tr (fun _ _ z => z)).mono (fun _ _ z => z) (by omega) (by omega)⟩
    · rw [gb_neg (by rw [hW]; decide), gq_pos V8.xn.1, e9, c0_v]
    · rw [hW]
      have el : l ++ kb_ 25 ++ nm_ 9 p ++ kb_ 12 ++ dg_ a ++ kb_ 23 ++ nm_ 9 u ++ kb_ 26 ++ dg_ c ++ kb_ ie = l ++ (kb_ 25 ++ (nm_ 9 p ++ (kb_ 12 ++ (dg_ a ++ (kb_ 23 ++ (nm_ 9 u ++ (kb_ 26 ++ (dg_ c ++ kb_ ie)))))))) := by simp only [List.append_assoc]
      rw [el]
      exact hh
  · obtain ⟨Q1, e10, V10, f10⟩ := V8.c (sa := sa) (d := d + 4) (i := 27) (by omega) (by omega)
    obtain ⟨Q2', ac, Q2, e11, kk11, e11', V11, f11⟩ := V10.w_ (sa := sa) (d := d + 2) (p := w) (by omega) (by rw [List.length_append, l27]; omega)
    obtain ⟨ie, P9, hie, e9, V9, f9⟩ := V11.end_ (sa := sa) (d := d + 3) (by rw [List.length_append, List.length_append, l27, lnw]; omega)
    have := hle ie hie
    have g9 := f9.1.gt
    have g10 := f10.1.gt
    have g11 := f11.1.gt
    have hh := hT.a1 (by omega) hp hu ha ha2 hc hc2 hpt hw hie
    refine ⟨P9, ow3', _, _, ?_, V9, ?_, fun y hy => o1 y (by omega) (by omega), fun y hy => o2 y (by omega), by rw [List.length_append, List.length_append, List.length_append, l27, lnw]; omega, slo, c3, (((yA.trans f10.tr (fun _ _ z => z)).trans f11.tr (fun _ _ z => z)).trans f9.tr (fun _ _ z => z)).mono (fun _ _ z => z) (by omega) (by omega)⟩
    · rw [gb_pos (by rw [hW]; rw [nI_0le (by omega)]; trivial), gq_pos V8.kb, e10, cr_v, hW, e11, cr_v, gq_pos kk11, e11', cr_v, gq_pos V11.xn.1, e9, c0_v]
    · rw [hW]
      have el : l ++ kb_ 25 ++ nm_ 9 p ++ kb_ 12 ++ dg_ a ++ kb_ 23 ++ nm_ 9 u ++ kb_ 26 ++ dg_ c ++ kb_ 27 ++ nm_ 10 w ++ kb_ ie = l ++ (kb_ 25 ++ (nm_ 9 p ++ (kb_ 12 ++ (dg_ a ++ (kb_ 23 ++ (nm_ 9 u ++ (kb_ 26 ++ (dg_ c ++ (kb_ 27 ++ (nm_ 10 w ++ kb_ ie)))))))))) := by simp only [List.append_assoc]
      rw [el]
      exact hh
end G8
