/-! the generator's advance, assignment -/
section G8
variable {sa sv d x b t : Nat} {m m' : am_M} {ow : Nat → Nat} {s : Nat → Int32} {q : Nat → Int64} {l : List Int32}
theorem GS.wk_ (h : GS sa m sv x b t ow s q l) : gk_ m x = (1, 12) ∧ ¬ gr_ m x 3 = 0 ∧ gk_ m (gr_ m x 3) = (1, 15) ∧ ∀ d, am_ca sa sv (d + 1) 233 [.ref (gr_ m x 3)] m = some (.inl (some (.int (nI (cN s 1)))), m) := by
  obtain ⟨L, ⟨⟨c, hc⟩, tg, _⟩, a2, _⟩ := h.ws.wk
  exact ⟨h.xn.1, tg.2.2, hc.1, fun d => by rw [x233 (sa := sa) (sv := sv) (d := d) hc, a2]⟩
theorem x287 (h : GS sa m sv x b t ow s q l) (hT : GT l s q) (h3 : ∀ y, gt_ m ≤ y → 300 ≤ ow y) (hn : cN s 3 < 3) (hnp : 2 ≤ cN s 0) (hnw : 1 ≤ cN s 1) (h2 : l.length + 60 ≤ 1000) (ht : t + 40 < 2 ^ 20) : ∃ m' t' ow' s' l', am_ca sa sv (d + 10) 287 [.ref x, .ref b] m = some (.inl none, m') ∧ GS sa m' sv x b t' ow' s' q l' ∧ GT l' s' q ∧ (∀ y, y < gt_ m → ow' y = ow y) ∧ (∀ y, gt_ m' ≤ y → 300 ≤ ow' y) ∧ t' ≤ t + 10 ∧ l'.length ≤ l.length + 40 ∧ (∀ k, k < 18 → ¬ k = 3 → s' k = s k) ∧ cN s' 3 = cN s 3 + 1 ∧ Ex (fun _ => True) 50 60000 m m' := by
  have hG1 := h.gl.1
  have h10 := h.sm.1.2.2.1
  obtain ⟨p, m1, hp, e1, G1, f1⟩ := h.next (sa := sa) (d := d + 6) (n := cN s 0) (by omega) (by omega) (by omega)
  obtain ⟨v, m2, hv, e2, G2, f2⟩ := G1.next (sa := sa) (d := d + 6) (n := cN s 0 - 1) (by omega) (by omega) (by omega)
  obtain ⟨a, m3, ha, e3, G3, f3⟩ := G2.next (sa := sa) (d := d + 6) (n := 3000) (by omega) (by omega) (by omega)
  obtain ⟨r, m4, hr, e4, G4, f4⟩ := G3.next (sa := sa) (d := d + 6) (n := 4) (by omega) (by omega) (by omega)
  have hu : (p + 1 + v) % cN s 0 < cN s 0 := Nat.mod_lt _ (by omega)
  have hpu : ¬ p = (p + 1 + v) % cN s 0 := fun z => by
    have := mod_ne (f := p) (i := 0) (j := 1 + v) (n := cN s 0) (by omega) (by omega)
    rw [Nat.add_zero, Nat.mod_eq_of_lt hp, ← Nat.add_assoc] at this
    exact this z
  have fA := ((f1.trans f2).trans f3).trans f4
  have gA := fA.1.gt
  -- behind the rate: on a work or not
  have tail : ∀ (M : am_M) (t1 c : Nat), GS sa M sv x b t1 ow s q l → Gx x b 0 0 m M → t1 ≤ t + 6 → 1 ≤ c → c ≤ 100 → ∃ m' t' ow' s' l', gq_ (gk_ M x = (1, 12)) (am_ci (am_ca sa sv (d + 9) 276 [.ref x, .int (nI 2)] M) (fun v18 m17 => gb_ (v18 = 0) (r287 sa sv (d + 9) 88 [some (.ref x), some (.ref b), some (.int (nI p)), some (.int (nI ((p + 1 + v) % cN s 0))), some (.int (nI (1 + a))), some (.int (nI c)), none] [(.int (-1 : Int32))] m17) (gq_ (gk_ m17 x = (1, 12) ∧ ¬ gr_ m17 x 3 = 0) (gq_ (gk_ m17 (gr_ m17 x 3) = (1, 15)) (am_ci (am_ca sa sv (d + 9) 233 [.ref (gr_ m17 x 3)] m17) (fun v20 m19 => gq_ (gk_ m19 x = (1, 12)) (am_ci (am_ca sa sv (d + 9) 276 [.ref x, .int v20] m19) (fun v22 m21 => r287 sa sv (d + 9) 88 [some (.ref x), some (.ref b), some (.int (nI p)), some (.int (nI ((p + 1 + v) % cN s 0))), some (.int (nI (1 + a))), some (.int (nI c)), none] [(.int v22)] m21) am_xg)) am_xg)))) am_xg) = some (.inl none, m') ∧ GS sa m' sv x b t' ow' s' q l' ∧ GT l' s' q ∧ (∀ y, y < gt_ m → ow' y = ow y) ∧ (∀ y, gt_ m' ≤ y → 300 ≤ ow' y) ∧ t' ≤ t + 10 ∧ l'.length ≤ l.length + 40 ∧ (∀ k, k < 18 → ¬ k = 3 → s' k = s k) ∧ cN s' 3 = cN s 3 + 1 ∧ Ex (fun _ => True) 50 60000 m m' := fun M t1 c GM fM ht1 hc1 hc2 => by
    have gM := fM.1.gt
    obtain ⟨w2, M1, hw2, u1, U1, y1⟩ := GM.next (sa := sa) (d := d + 6) (n := 2) (by omega) (by omega) (by omega)
    have g1 := y1.1.gt
    rw [gq_pos GM.xn.1, u1, ci_v]
    by_cases q0 : w2 = 0
    · obtain ⟨m', ow', s', l', r1, r2, r3, r4, r5, r7, r8, r9, r10⟩ := x287_88 (sa := sa) (d := d) (w := 0) (W := -1) U1 hT (fun y hy => h3 y (by omega)) hn hp hu (show 1 ≤ 1 + a by omega) (by omega) hc1 hc2 hpu (.inl rfl) h2 (by omega) none
      refine ⟨m', t1 + 1, ow', s', l', ?_, r2, r3, fun y hy => r4 y (by omega), r5, by omega, r7, r8, r9, ((fM.tr.trans y1.tr (fun _ _ z => z)).trans r10 (fun _ _ z => z)).mono (fun _ _ z => z) (by omega) (by omega)⟩
      rw [gb_pos (by rw [q0]; rfl)]
      exact r1
    · obtain ⟨k1, k2, k3, k4⟩ := U1.wk_ (sa := sa)
      obtain ⟨w, M2, hw, u2, U2, y2⟩ := U1.next (sa := sa) (d := d + 6) (n := cN s 1) (by omega) (by omega) (by omega)
      have g2 := y2.1.gt
      obtain ⟨m', ow', s', l', r1, r2, r3, r4, r5, r7, r8, r9, r10⟩ := x287_88 (sa := sa) (d := d) (w := w) (W := nI w) U2 hT (fun y hy => h3 y (by omega)) hn hp hu (show 1 ≤ 1 + a by omega) (by omega) hc1 hc2 hpu (.inr ⟨rfl, hw⟩) h2 (by omega) none
      refine ⟨m', t1 + 1 + 1, ow', s', l', ?_, r2, r3, fun y hy => r4 y (by omega), r5, by omega, r7, r8, r9, (((fM.tr.trans y1.tr (fun _ _ z => z)).trans y2.tr (fun _ _ z => z)).trans r10 (fun _ _ z => z)).mono (fun _ _ z => z) (by omega) (by omega)⟩
      rw [gb_neg (by rw [nI_eq0 (by omega)]; exact q0), gq_pos ⟨k1, k2⟩, gq_pos k3, k4 (d + 8), ci_v, gq_pos k1, u2, ci_v]
      exact r1
  have n0 : ∀ (M : am_M) (t : Nat), GS sa M sv x b t ow s q l → gi_ M x 0 = nI (cN s 0) := fun M t hM => hM.np_
  rw [c287, b287_0, gq_pos h.xn.1, gq_pos h.xn.1, n0 m _ h, e1, ci_v, gq_pos G1.xn.1, gq_pos G1.xn.1, n0 m1 _ G1, nI_sub (show 1 ≤ cN s 0 by omega), e2, ci_v, gq_pos G2.xn.1, n0 m2 _ G2, gq_pos (by rw [nI_eq0 (by omega)]; omega), gq_pos G2.xn.1, e3, ci_v, gq_pos G3.xn.1, e4, ci_v, nI_add, nI_add, nI_add, pk_rem (by omega) (by omega) (by omega)]
  by_cases qr : r = 0
  · rw [gb_pos (by rw [qr]; rfl)]
    exact tail m4 (t + 1 + 1 + 1 + 1) 100 G4 fA (by omega) (by omega) (by omega)
  · obtain ⟨c, m5, hc, e5, G5, f5⟩ := G4.next (sa := sa) (d := d + 6) (n := 100) (by omega) (by omega) (by omega)
    rw [gb_neg (by rw [nI_eq0 (by omega)]; exact qr), gq_pos G4.xn.1, e5, ci_v, nI_add]
    exact tail m5 (t + 1 + 1 + 1 + 1 + 1) (1 + c) G5 (fA.trans f5) (by omega) (by omega) (by omega)
theorem mst_b {p w f u c : Nat} (hb : ∀ dd, f ≤ dd → dd < u → lv_ s p w dd (cN s 2) + c ≤ 100) (hfu : f < u) : ∀ k, mst_ s p w f u k + c ≤ 100 := by
  intro k
  induction k with
  | zero => exact hb f (Nat.le_refl _) hfu
  | succ k ih =>
    show (if f < cN s (594 + 6 * k + 4) ∧ cN s (594 + 6 * k + 4) < u then max (mst_ s p w f u k) (lv_ s p w (cN s (594 + 6 * k + 4)) (cN s 2)) else mst_ s p w f u k) + c ≤ 100
    by_cases e : f < cN s (594 + 6 * k + 4) ∧ cN s (594 + 6 * k + 4) < u
    · rw [if_pos e]
      have := hb _ (by omega) e.2
      omega
    · rw [if_neg e]
      exact ih
/-- the end of the days -/
theorem x286_e {p w u c f z : Nat} {is : Nat} (h : GS sa m sv x b t ow s q l) (hT : GT l s q) (h3 : ∀ y, gt_ m ≤ y → 300 ≤ ow y) (hn : cN s 2 < 3) (hp : p < cN s 0) (hw : w < cN s 1) (hu : u < cN s 0) (hc : 1 ≤ c) (hc2 : c ≤ 60) (hpu : ¬ p = u) (hf : f < 20) (hfz : f < z) (hz : z < 100) (his : is = 0 ∨ is = 1 ∧ ∀ dd, f ≤ dd → dd < z → lv_ s p w dd (cN s 2) + c ≤ 100) (h2 : l.length + 70 ≤ 1000) (ht : t + 20 < 2 ^ 20) : ∃ m' ow' s' l', r286 sa sv (d + 9) 82 [some (.ref x), some (.ref b), some (.int (nI p)), some (.int (nI w)), some (.int (nI u)), some (.int (nI c)), some (.int (nI f)), some (.int (nI z)), some (.int (nI is)), some (.int (nI z))] [] m = some (.inl none, m') ∧ GS sa m' sv x b t ow' s' q l' ∧ GT l' s' q ∧ (∀ y, y < gt_ m → ow' y = ow y) ∧ (∀ y, gt_ m' ≤ y → 300 ≤ ow' y) ∧ l'.length ≤ l.length + 47 ∧ (∀ k, k < 18 → ¬ k = 2 → s' k = s k) ∧ cN s' 2 ≤ cN s 2 + 1 ∧ Ex (fun _ => True) 60 60000 m m' := by
  have hG1 := h.gl.1
  have hC := h.wg.C
  have hWW := h.wg.1.2.1
  have hna := h.na
  have hnd := h.nd
  have h10 := h.sm.1.2.2.1
  have no : ∀ y, ¬ NoP y := fun _ y => y
  have hg : ge_ m = true := h.sb.kb.2.2.2.2
  have h0 : 0 < gt_ m := by have := h.sb.kb.2.1; omega
  rw [b286_82, gb_pos (by rw [nI_leI (by omega) (by omega)]; exact Nat.le_refl _)]
  rcases his with his | ⟨his, hlv⟩
  · rw [his, gb_pos nI_0]
    exact ⟨m, ow, s, l, rfl, h, hT, fun _ _ => rfl, h3, by omega, fun _ _ _ => rfl, by omega, (Ex.refl _ _).mono (fun _ _ z => z) (Nat.zero_le _) (Nat.zero_le _)⟩
  · obtain ⟨L, a1, a2, a3⟩ := h.ws.as
    obtain ⟨⟨c1, hc1⟩, tg1, _⟩ := a1
    obtain ⟨xa, k2, v2, g2⟩ := six_ m (v6c (nI p) (nI w) (nI u) (nI c) (nI f) (nI z))
    have ka : gk_ (al_ m (2, 6) 6) (gt_ m) = (2, 6) := gk_al m _ _
    have kl : gk_ (al_ m (2, 6) 6) (gr_ m x 4) = (1, 15) := (gk_alo _ _ _ tg1.2.1).trans hc1.1
    have G2 := h.no xa
    have eM : si_ (si_ (si_ (si_ (si_ (si_ (al_ m (2, 6) 6) (gt_ m) 0 (nI p)) (gt_ m) 1 (nI w)) (gt_ m) 2 (nI u)) (gt_ m) 3 (nI c)) (gt_ m) 4 (nI f)) (gt_ m) 5 (nI z) = si_ (si_ (si_ (si_ (si_ (si_ (al_ m (2, 6) 6) (gt_ m) 0 (v6c (nI p) (nI w) (nI u) (nI c) (nI f) (nI z) 0)) (gt_ m) 1 (v6c (nI p) (nI w) (nI u) (nI c) (nI f) (nI z) 1)) (gt_ m) 2 (v6c (nI p) (nI w) (nI u) (nI c) (nI f) (nI z) 2)) (gt_ m) 3 (v6c (nI p) (nI w) (nI u) (nI c) (nI f) (nI z) 3)) (gt_ m) 4 (v6c (nI p) (nI w) (nI u) (nI c) (nI f) (nI z) 4)) (gt_ m) 5 (v6c (nI p) (nI w) (nI u) (nI c) (nI f) (nI z) 5) := rfl
    rw [← eM] at xa k2 v2 g2 G2
    generalize hM2 : si_ (si_ (si_ (si_ (si_ (si_ (al_ m (2, 6) 6) (gt_ m) 0 (nI p)) (gt_ m) 1 (nI w)) (gt_ m) 2 (nI u)) (gt_ m) 3 (nI c)) (gt_ m) 4 (nI f)) (gt_ m) 5 (nI z) = M2 at xa k2 v2 g2 G2
    have rx : gr_ M2 x = gr_ m x := xa.r h.xn.2.2.2.2.1 (no _)
    obtain ⟨M3, ow3', e3, W3, _, _, o1, o2, x3, x3p⟩ := G2.ws.ras (sa := sa) (d := d + 3) hC hWW h.gl G2.ks.2.1 G2.ks.1 (nn := cN s 2) rfl (by omega) (by omega) (r := gt_ m) (f := v6c (nI p) (nI w) (nI u) (nI c) (nI f) (nI z)) k2 (by omega) (h3 _ (Nat.le_refl _)) (by omega) v2
    rw [rx] at e3
    obtain ⟨R1, R2, R3⟩ := G2.rest x3 (fun y hy z => by
      rcases (x3p y hy z).2 with z | z
      · exact .inr (.inr (.inl z))
      · exact .inr (.inr (.inr (.inl z))))
    have rlo : ∀ k, k < 594 → ¬ k = 2 → rowU s 594 2 (cN s 2) (v6c (nI p) (nI w) (nI u) (nI c) (nI f) (nI z)) k = s k := fun k h1 h2 => by
      unfold rowU
      rw [if_neg h2, if_neg (by omega)]
    have c2 : cN (rowU s 594 2 (cN s 2) (v6c (nI p) (nI w) (nI u) (nI c) (nI f) (nI z))) 2 = cN s 2 + 1 := cN_ (if_pos rfl) (by omega)
    have hgl : GLm (rowU s 594 2 (cN s 2) (v6c (nI p) (nI w) (nI u) (nI c) (nI f) (nI z))) := by
      have c : ∀ k, k < 594 → ¬ k = 2 → cN (rowU s 594 2 (cN s 2) (v6c (nI p) (nI w) (nI u) (nI c) (nI f) (nI z))) k = cN s k := fun k h1 h2 => cN_cg (rlo k h1 h2)
      refine ⟨by rw [c 1 (by omega) (by omega)]; exact hG1, fun w hw => ?_⟩
      rw [c 1 (by omega) (by omega)] at hw
      rw [c _ (by omega) (by omega), c _ (by omega) (by omega)]
      exact h.gl.2 w hw
    have hwh : whA s p w u c f z = 0 := by
      unfold whA
      rw [if_neg hpu, if_pos hfz, if_pos (mst_b hlv hfz _)]
    have hT8 := hT.as (by omega) hp hw hu hc (by omega) (by omega) (by omega) (by omega) hwh (ie := 8) (.inr rfl)
    have G3 : GS sa M3 sv x b t ow3' (rowU s 594 2 (cN s 2) (v6c (nI p) (nI w) (nI u) (nI c) (nI f) (nI z))) q l := ⟨W3, R1, R2, R3, hgl, hT8.wg, hT8.sm, by omega, by rw [cN_cg (rlo 3 (by omega) (by omega))]; exact hnd⟩
    have l22 : (kb_ 22).length = 7 := by rw [kb22]; rfl
    have l12 : (kb_ 12).length = 1 := by rw [kb12]; rfl
    have l17 : (kb_ 17).length = 4 := by rw [kb17]; rfl
    have l23 : (kb_ 23).length = 4 := by rw [kb23]; rfl
    have l19 : (kb_ 19).length = 6 := by rw [kb19]; rfl
    have l24 : (kb_ 24).length = 7 := by rw [kb24]; rfl
    have lnp : ∀ p, (nm_ 9 p).length = 2 := fun p => nm_len (.inl rfl)
    have lnw : ∀ p, (nm_ 10 p).length = 2 := fun p => nm_len (.inr rfl)
    have hdc := dg_len3 (show c < 1000 by omega)
    have hdf := dg_len3 (show f < 1000 by omega)
    have hdz := dg_len3 (show z < 1000 by omega)
    obtain ⟨P1, e1', V1, f1⟩ := G3.c (sa := sa) (d := d + 4) (i := 22) (by omega) (by omega)
    obtain ⟨P2', aa, P2, e2', kk2, e2'', V2, f2⟩ := V1.p_ (sa := sa) (d := d + 2) (p := p) (by omega) (by rw [List.length_append, l22]; omega)
    obtain ⟨P3, e3', V3, f3⟩ := V2.c (sa := sa) (d := d + 4) (i := 17) (by omega) (by rw [List.length_append, List.length_append, l22, lnp, l17]; omega)
    obtain ⟨P4', ab, P4, e4', kk4, e4'', V4, f4⟩ := V3.w_ (sa := sa) (d := d + 2) (p := w) (by omega) (by rw [List.length_append, List.length_append, List.length_append, l22, lnp, l17]; omega)
    have n4 : (l ++ kb_ 22 ++ nm_ 9 p ++ kb_ 17 ++ nm_ 10 w).length = l.length + 15 := by
      rw [List.length_append, List.length_append, List.length_append, List.length_append, l22, lnp, l17, lnw]
    obtain ⟨P5, e5', V5, f5⟩ := V4.c (sa := sa) (d := d + 4) (i := 23) (by omega) (by omega)
    obtain ⟨P6', ac, P6, e6', kk6, e6'', V6, f6⟩ := V5.p_ (sa := sa) (d := d + 2) (p := u) (by omega) (by rw [List.length_append, l23]; omega)
    obtain ⟨P7, e7', V7, f7⟩ := V6.c (sa := sa) (d := d + 4) (i := 12) (by omega) (by rw [List.length_append, List.length_append, l23, lnp, l12]; omega)
    obtain ⟨P8, e8', V8, f8⟩ := V7.n_ (sa := sa) (d := d + 4) (v := c) (by omega) (by rw [List.length_append, List.length_append, List.length_append, l23, lnp, l12]; omega)
    have n8 : (l ++ kb_ 22 ++ nm_ 9 p ++ kb_ 17 ++ nm_ 10 w ++ kb_ 23 ++ nm_ 9 u ++ kb_ 12 ++ dg_ c).length ≤ l.length + 25 := by
      rw [List.length_append, List.length_append, List.length_append, List.length_append, l23, lnp, l12]
      omega
    obtain ⟨P9, e9', V9, f9⟩ := V8.c (sa := sa) (d := d + 4) (i := 19) (by omega) (by omega)
    obtain ⟨P10, e10', V10, f10⟩ := V9.n_ (sa := sa) (d := d + 4) (v := f) (by omega) (by rw [List.length_append, l19]; omega)
    obtain ⟨P11, e11', V11, f11⟩ := V10.c (sa := sa) (d := d + 4) (i := 24) (by omega) (by rw [List.length_append, List.length_append, l19, l24]; omega)
    obtain ⟨P12, e12', V12, f12⟩ := V11.n_ (sa := sa) (d := d + 4) (v := z) (by omega) (by rw [List.length_append, List.length_append, List.length_append, l19, l24]; omega)
    have n12 : (l ++ kb_ 22 ++ nm_ 9 p ++ kb_ 17 ++ nm_ 10 w ++ kb_ 23 ++ nm_ 9 u ++ kb_ 12 ++ dg_ c ++ kb_ 19 ++ dg_ f ++ kb_ 24 ++ dg_ z).length ≤ l.length + 44 := by
      rw [List.length_append, List.length_append, List.length_append, List.length_append, l19, l24]
      omega
    obtain ⟨ie, P13, hie, e13', V13, f13⟩ := V12.end_ (sa := sa) (d := d + 3) (by omega)
    have hle : (kb_ ie).length ≤ 3 := by
      rcases hie with y | y <;> rw [y]
      · exact Nat.le_refl _
      · show 1 ≤ 3
        omega
    have fA := (((((((((((f1.trans f2).trans f3).trans f4).trans f5).trans f6).trans f7).trans f8).trans f9).trans f10).trans f11).trans f12).trans f13
    have y2 := xa.mono (P' := fun _ => True) (fun _ _ _ => trivial) (Nat.le_refl _) (Nat.le_refl _)
    have y3 := x3.mono (P' := fun _ => True) (fun _ _ _ => trivial) (Nat.le_refl _) (Nat.le_refl _)
    have gA := fA.1.gt
    have hh := hT.as (by omega) hp hw hu hc (by omega) (by omega) (by omega) (by omega) hwh hie
    have el : l ++ kb_ 22 ++ nm_ 9 p ++ kb_ 17 ++ nm_ 10 w ++ kb_ 23 ++ nm_ 9 u ++ kb_ 12 ++ dg_ c ++ kb_ 19 ++ dg_ f ++ kb_ 24 ++ dg_ z ++ kb_ ie = l ++ (kb_ 22 ++ (nm_ 9 p ++ (kb_ 17 ++ (nm_ 10 w ++ (kb_ 23 ++ (nm_ 9 u ++ (kb_ 12 ++ (dg_ c ++ (kb_ 19 ++ (dg_ f ++ (kb_ 24 ++ (dg_ z ++ kb_ ie)))))))))))) := by simp only [List.append_assoc]
    refine ⟨P13, ow3', _, _, ?_, V13, by rw [el]; exact hh, fun y hy => o1 y (by omega) (by omega), fun y hy => o2 y (by omega), by rw [List.length_append]; omega, fun k h1 h2 => rlo k (by omega) h2, by omega, ((y2.trans y3 (fun _ _ z => z)).trans fA.tr (fun _ _ z => z)).mono (fun _ _ z => z) (by omega) (by omega)⟩
    rw [his, gb_neg (by decide), gq_pos ⟨h.xn.1, tg1.2.2⟩, nI_clamp (show 6 < 2 ^ 31 by omega), nI_clamp (show 0 < 2 ^ 31 by omega), nI_clamp (show 1 < 2 ^ 31 by omega), nI_clamp (show 2 < 2 ^ 31 by omega), nI_clamp (show 3 < 2 ^ 31 by omega), nI_clamp (show 4 < 2 ^ 31 by omega), nI_clamp (show 5 < 2 ^ 31 by omega), gq_pos ⟨by decide, by omega, hg⟩, ka, gq_pos ⟨rfl, in_of (show 0 < 6 by omega) (by omega)⟩, gq_pos ⟨rfl, in_of (show 1 < 6 by omega) (by omega)⟩, gq_pos ⟨rfl, in_of (show 2 < 6 by omega) (by omega)⟩, gq_pos ⟨rfl, in_of (show 3 < 6 by omega) (by omega)⟩, gq_pos ⟨rfl, in_of (show 4 < 6 by omega) (by omega)⟩, gq_pos ⟨rfl, in_of (show 5 < 6 by omega) (by omega)⟩, gq_pos kl, hM2, e3, ci_v, gq_pos G3.kb, e1', cr_v, e2', cr_v, gq_pos kk2, e2'', cr_v, gq_pos V2.kb, e3', cr_v, e4', cr_v, gq_pos kk4, e4'', cr_v, gq_pos V4.kb, e5', cr_v, e6', cr_v, gq_pos kk6, e6'', cr_v, gq_pos V6.kb, e7', cr_v, gq_pos V7.kb, e8', cr_v, gq_pos V8.kb, e9', cr_v, gq_pos V9.kb, e10', cr_v, gq_pos V10.kb, e11', cr_v, gq_pos V11.kb, e12', cr_v, gq_pos V12.xn.1, e13', c0_v]
theorem x286_l {p w u c f z : Nat} (hn : cN s 2 < 3) (hp : p < cN s 0) (hw : w < cN s 1) (hu : u < cN s 0) (hc : 1 ≤ c) (hc2 : c ≤ 60) (hpu : ¬ p = u) (hf : f < 20) (hfz : f < z) (hz : z < 100) (hT : GT l s q) (h2 : l.length + 70 ≤ 1000) (ht : t + 20 < 2 ^ 20) : ∀ (k j is : Nat) (M : am_M), j + k = z → f ≤ j → GS sa M sv x b t ow s q l → (∀ y, gt_ M ≤ y → 300 ≤ ow y) → (is = 0 ∨ is = 1 ∧ ∀ dd, f ≤ dd → dd < j → lv_ s p w dd (cN s 2) + c ≤ 100) → ∃ m' ow' s' l', r286 sa sv (d + 9) 82 [some (.ref x), some (.ref b), some (.int (nI p)), some (.int (nI w)), some (.int (nI u)), some (.int (nI c)), some (.int (nI f)), some (.int (nI z)), some (.int (nI is)), some (.int (nI j))] [] M = some (.inl none, m') ∧ GS sa m' sv x b t ow' s' q l' ∧ GT l' s' q ∧ (∀ y, y < gt_ M → ow' y = ow y) ∧ (∀ y, gt_ m' ≤ y → 300 ≤ ow' y) ∧ l'.length ≤ l.length + 47 ∧ (∀ k, k < 18 → ¬ k = 2 → s' k = s k) ∧ cN s' 2 ≤ cN s 2 + 1 ∧ Ex (fun _ => True) (60 + k) (60000 + 4 * k) M m' := by
  intro k
  induction k with
  | zero =>
    intro j is M hj hfj h h3 his
    have hjz : j = z := by omega
    subst hjz
    exact x286_e h hT h3 hn hp hw hu hc hc2 hpu hf hfz hz his h2 ht
  | succ k ih =>
    intro j is M hj hfj h h3 his
    have h10 := h.sm.1.2.2.1
    have h12 := h.sm.1.2.2.2
    rw [b286_82, gb_neg (by rw [nI_leI (by omega) (by omega)]; omega)]
    rcases his with his | ⟨his, hlv⟩
    · obtain ⟨m', ow', s', l', r1, r2, r3, r4, r5, r6, r7, r8, r9⟩ := ih (j + 1) 0 M (by omega) (by omega) h h3 (.inl rfl)
      refine ⟨m', ow', s', l', ?_, r2, r3, r4, r5, r6, r7, r8, r9.mono (fun _ _ z => z) (by omega) (by omega)⟩
      rw [his, gb_pos nI_0, nI_add]
      exact r1
    · have hA := h.wg.1.2.2.1
      obtain ⟨M1, e1, x1⟩ := x281 (sa := sa) (d := d + 5) (p := p) (w := w) (on := j) h.ws hA h.wg.C h.ks.1 (by omega) (by omega) (by omega)
      have G1 := h.no x1
      have g1 := x1.gt
      have y1 := x1.mono (P' := fun _ => True) (fun _ _ _ => trivial) (Nat.le_refl _) (Nat.le_refl _)
      have hlb := lv_le s hA h.wg.C p w j (cN s 2) (Nat.le_refl _)
      rw [his, gb_neg (by decide), gq_pos h.xn.1, e1, ci_v, nI_add, nI_add]
      by_cases qq : 100 < lv_ s p w j (cN s 2) + c
      · obtain ⟨m', ow', s', l', r1, r2, r3, r4, r5, r6, r7, r8, r9⟩ := ih (j + 1) 0 M1 (by omega) (by omega) G1 (fun y hy => h3 y (by omega)) (.inl rfl)
        refine ⟨m', ow', s', l', ?_, r2, r3, fun y hy => r4 y (by omega), r5, r6, r7, r8, (y1.trans r9 (fun _ _ z => z)).mono (fun _ _ z => z) (by omega) (by omega)⟩
        rw [gb_pos ((nI_ltI (by omega) (by omega)).mpr qq)]
        exact r1
      · obtain ⟨m', ow', s', l', r1, r2, r3, r4, r5, r6, r7, r8, r9⟩ := ih (j + 1) 1 M1 (by omega) (by omega) G1 (fun y hy => h3 y (by omega)) (.inr ⟨rfl, fun dd h1 h2 => by
          by_cases e : dd = j
          · rw [e]
            omega
          · exact hlv dd h1 (by omega)⟩)
        refine ⟨m', ow', s', l', ?_, r2, r3, fun y hy => r4 y (by omega), r5, r6, r7, r8, (y1.trans r9 (fun _ _ z => z)).mono (fun _ _ z => z) (by omega) (by omega)⟩
        rw [gb_neg (by rw [nI_ltI (by omega) (by omega)]; exact qq)]
        exact r1
theorem x286 (h : GS sa m sv x b t ow s q l) (hT : GT l s q) (h3 : ∀ y, gt_ m ≤ y → 300 ≤ ow y) (hn : cN s 2 < 3) (hnp : 2 ≤ cN s 0) (hnw : 1 ≤ cN s 1) (h2 : l.length + 70 ≤ 1000) (ht : t + 40 < 2 ^ 20) : ∃ m' t' ow' s' l', am_ca sa sv (d + 10) 286 [.ref x, .ref b] m = some (.inl none, m') ∧ GS sa m' sv x b t' ow' s' q l' ∧ GT l' s' q ∧ (∀ y, y < gt_ m → ow' y = ow y) ∧ (∀ y, gt_ m' ≤ y → 300 ≤ ow' y) ∧ t' ≤ t + 10 ∧ l'.length ≤ l.length + 47 ∧ (∀ k, k < 18 → ¬ k = 2 → s' k = s k) ∧ cN s' 2 ≤ cN s 2 + 1 ∧ Ex (fun _ => True) 160 70000 m m' := by
  have hG1 := h.gl.1
  have h10 := h.sm.1.2.2.1
  have n0 : ∀ (M : am_M) (t : Nat), GS sa M sv x b t ow s q l → gi_ M x 0 = nI (cN s 0) := fun M t hM => hM.np_
  obtain ⟨p, m1, hp, e1, G1, f1⟩ := h.next (sa := sa) (d := d + 6) (n := cN s 0) (by omega) (by omega) (by omega)
  obtain ⟨k1, k2, k3, k4⟩ := G1.wk_ (sa := sa)
  obtain ⟨w, m2, hw, e2, G2, f2⟩ := G1.next (sa := sa) (d := d + 6) (n := cN s 1) (by omega) (by omega) (by omega)
  obtain ⟨v, m3, hv, e3, G3, f3⟩ := G2.next (sa := sa) (d := d + 6) (n := cN s 0 - 1) (by omega) (by omega) (by omega)
  obtain ⟨c, m4, hc, e4, G4, f4⟩ := G3.next (sa := sa) (d := d + 6) (n := 60) (by omega) (by omega) (by omega)
  obtain ⟨f, m5, hf, e5, G5, f5⟩ := G4.next (sa := sa) (d := d + 6) (n := 20) (by omega) (by omega) (by omega)
  obtain ⟨z, m6, hz, e6, G6, f6⟩ := G5.next (sa := sa) (d := d + 6) (n := 40) (by omega) (by omega) (by omega)
  have hu : (p + 1 + v) % cN s 0 < cN s 0 := Nat.mod_lt _ (by omega)
  have hpu : ¬ p = (p + 1 + v) % cN s 0 := fun z => by
    have := mod_ne (f := p) (i := 0) (j := 1 + v) (n := cN s 0) (by omega) (by omega)
    rw [Nat.add_zero, Nat.mod_eq_of_lt hp, ← Nat.add_assoc] at this
    exact this z
  have fA := ((((f1.trans f2).trans f3).trans f4).trans f5).trans f6
  have gA := fA.1.gt
  obtain ⟨m', ow', s', l', r1, r2, r3, r4, r5, r6, r7, r8, r9⟩ := x286_l (sa := sa) (sv := sv) (d := d) (x := x) (b := b) (ow := ow) (t := t + 1 + 1 + 1 + 1 + 1 + 1) hn hp hw hu (show 1 ≤ 1 + c by omega) (by omega) hpu hf (show f < f + 1 + z by omega) (by omega) hT h2 (by omega) (1 + z) f 1 m6 (by omega) (Nat.le_refl _) G6 (fun y hy => h3 y (by omega)) (.inr ⟨rfl, fun dd h1 h2 => by omega⟩)
  refine ⟨m', _, ow', s', l', ?_, r2, r3, fun y hy => r4 y (by omega), r5, by omega, r6, r7, r8, (fA.tr.trans r9 (fun _ _ z => z)).mono (fun _ _ z => z) (by omega) (by omega)⟩
  rw [c286, b286_0, gq_pos h.xn.1, gq_pos h.xn.1, n0 m _ h, e1, ci_v, gq_pos ⟨k1, k2⟩, gq_pos k3, k4 (d + 8), ci_v, gq_pos k1, e2, ci_v, gq_pos G2.xn.1, gq_pos G2.xn.1, n0 m2 _ G2, nI_sub (show 1 ≤ cN s 0 by omega), e3, ci_v, gq_pos G3.xn.1, n0 m3 _ G3, gq_pos (by rw [nI_eq0 (by omega)]; omega), gq_pos G3.xn.1, e4, ci_v, gq_pos G4.xn.1, e5, ci_v, gq_pos G5.xn.1, e6, ci_v, nI_add, nI_add, pk_rem (by omega) (by omega) (by omega), nI_add, nI_add, nI_add]
  exact r1
end G8
