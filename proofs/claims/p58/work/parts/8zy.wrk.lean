/-! the generator's work: the whole -/
section G8
variable {sa sv d x b t w : Nat} {m m' : am_M} {ow : Nat → Nat} {s : Nat → Int32} {q q' : Nat → Int64} {l : List Int32}
theorem NW.spl (hwd : cN s 1 = w) (hw : w < 12) {L : List (Nat × Nat)} (h4 : L.length ≤ 4) : NW s (splU (wk1 s) w 0 0 L) w L := by
  have lo : ∀ k, (k < 18 + 48 * w ∨ 59 + 48 * w ≤ k) → splU (wk1 s) w 0 0 L k = wk1 s k := fun k hk => splU_o h4 (by omega) hk
  refine ⟨fun k h1 h2 => (lo k (by omega)).trans (if_neg h2), fun k hk => (lo k (by omega)).trans (if_neg (by omega)), ?_, if_pos rfl, ?_, ?_, fun j y hy => ?_⟩
  · rw [lo 1 (by omega)]
    show (if 1 = 1 then nI (cN s 1 + 1) else s 1) = _
    rw [if_pos rfl, hwd]
  · unfold splU
    rw [if_neg (by omega), if_pos (by omega)]
  · unfold splU
    rw [if_neg (by omega), if_neg (by omega), if_pos (by omega)]
  · have hj := (List.getElem?_eq_some_iff.mp hy).1
    have hg : L.getD j (0, 0) = y := by rw [List.getD_eq_getElem?_getD, hy]; rfl
    unfold splU
    refine ⟨?_, ?_⟩
    · rw [if_neg (by omega), if_neg (by omega), if_neg (by omega), if_pos (by omega), show 27 + 48 * w + j - (27 + 48 * w + 4 * 0) = j by omega, hg]
    · rw [if_neg (by omega), if_neg (by omega), if_neg (by omega), if_neg (by omega), if_pos (by omega), show 43 + 48 * w + j - (43 + 48 * w + 4 * 0) = j by omega, hg]
theorem x282 (h : GS sa m sv x b t ow s q l) (hT : GT l s q) (h3 : ∀ y, gt_ m ≤ y → 300 ≤ ow y) (hwd : cN s 1 = w) (hw3 : w < 4) (hnp : 1 ≤ cN s 0) (h2 : l.length + 190 ≤ 1000) (ht : t + 70 < 2 ^ 20) : ∃ m' t' ow' s' q' l', am_ca sa sv (d + 10) 282 [.ref x, .ref b] m = some (.inl none, m') ∧ GS sa m' sv x b t' ow' s' q' l' ∧ GT l' s' q' ∧ (∀ y, y < gt_ m → ow' y = ow y) ∧ (∀ y, gt_ m' ≤ y → 300 ≤ ow' y) ∧ t' ≤ t + 33 ∧ l'.length ≤ l.length + 125 ∧ (∀ k, k < 18 → ¬ k = 1 → s' k = s k) ∧ cN s' 1 = w + 1 ∧ Ex (fun _ => True) 300 330000 m m' := by
  have hG1 := h.gl.1
  have hW := h.wg.1.2.1
  have hg : ge_ m = true := h.sb.kb.2.2.2.2
  have h0 : 0 < gt_ m := by have := h.sb.kb.2.1; omega
  have no : ∀ y, ¬ NoP y := fun _ y => y
  have ks := h.ks.2.1
  have hsl := h.ks.1
  have hq : ∀ k, k < 50 → wkQ s q (wv w) k = q k := fun k hk => if_neg (by omega)
  have l15 : (kb_ 15).length = 5 := by rw [kb15]; rfl
  have l13 : (kb_ 13).length = 6 := by rw [kb13]; rfl
  have l14 : (kb_ 14).length = 4 := by rw [kb14]; rfl
  have l12 : (kb_ 12).length = 1 := by rw [kb12]; rfl
  have lnw : ∀ p, (nm_ 10 p).length = 2 := fun p => nm_len (.inr rfl)
  obtain ⟨L1, ⟨⟨c1, hc1⟩, tg1, _⟩, a2, a3⟩ := h.ws.wk
  have e1 := x233 (sa := sa) (sv := sv) (d := d + 8) hc1
  have xa : Ex NoP 1 2 m (al_ m (1, 11) 2) := Ex.al _ _ _
  have ko1 : gk_ (al_ m (1, 11) 2) (gt_ m) = (1, 11) := gk_al m _ _
  have g1 : gt_ (al_ m (1, 11) 2) = gt_ m + 1 := rfl
  have K1 := h.ks.ex xa NoP.nk
  obtain ⟨M3, e3, lc0, lc1, r0, r1, g3, x3⟩ := x273 (sa := sa) (d := d + 5) (m := al_ m (1, 11) 2) (o := gt_ m) K1 hg ko1 (by omega) (by omega)
  have xm3 : Ex NoP (1 + 2) (2 + 6) m M3 := xa.trans x3 (fun y hy z => by omega)
  have ko3 : gk_ M3 (gt_ m) = (1, 11) := (x3.k (by omega)).trans ko1
  rw [g1] at lc0 lc1 r0 r1 g3
  have hg3 : ge_ M3 = true := (xm3.ge).trans hg
  have xb : Ex NoP 1 1 M3 (al_ M3 (11, 1) 1) := Ex.al _ _ _
  have kt4 : gk_ (al_ M3 (11, 1) 1) (gt_ M3) = (11, 1) := gk_al M3 _ _
  have g4 : gt_ (al_ M3 (11, 1) 1) = gt_ M3 + 1 := rfl
  have G4 := (h.no xm3).no xb
  have kb4 := G4.kb
  generalize hM4 : al_ M3 (11, 1) 1 = M4 at xb kt4 g4 G4 kb4
  have hsl3 : sv < gt_ M3 := by omega
  obtain ⟨lc0', ra0, _⟩ := lc0.no xb hsl3
  obtain ⟨lc1', ra1, _⟩ := lc1.no xb hsl3
  have ko4 : gk_ M4 (gt_ m) = (1, 11) := (xb.k (by omega)).trans ko3
  have ro4 : gr_ M4 (gt_ m) = gr_ M3 (gt_ m) := xb.r (by omega) (no _)
  have xm4 := (xm3.trans xb (fun _ _ z => z)).mono (P' := fun _ => True) (fun _ _ _ => trivial) (Nat.le_refl _) (Nat.le_refl _)
  have head : am_ca sa sv (d + 10) 282 [.ref x, .ref b] m = gb_ (nI w ≤ 0) (gq_ (gk_ M4 b = (1, 13)) (am_cr (am_ca sa sv (d + 9) 221 [(.ref b), (.ref (gr_ M4 sv 15))] M4) (fun v5 m4 => am_cr (am_ca sa sv (d + 9) 279 [(.int (nI w))] m4) (fun v7 m6 => gq_ (gk_ m6 v5 = (1, 13)) (am_cr (am_ca sa sv (d + 9) 221 [(.ref v5), (.ref v7)] m6) (fun v9 m8 => r282 sa sv (d + 9) 130 [some (.ref x), some (.ref b), some (.int (nI w)), some (.ref (gt_ m)), some (.ref (gt_ M3)), none, none] [] m8) am_xg)) am_xg) am_xg)) (gq_ (gk_ M4 x = (1, 12)) (am_ci (am_ca sa sv (d + 9) 276 [(.ref x), (.int (nI 3))] M4) (fun v11 m10 => gb_ (v11 = 0) (gq_ (gk_ m10 x = (1, 12)) (am_ci (am_ca sa sv (d + 9) 276 [(.ref x), (.int (nI w))] m10) (fun v19 m18 => gq_ (gk_ m18 x = (1, 12)) (am_ci (am_ca sa sv (d + 9) 276 [(.ref x), (.int (nI 90))] m18) (fun v21 m20 => gq_ (gk_ m20 (gt_ m) = (1, 11) ∧ ¬ gr_ m20 (gt_ m) 1 = 0) (gq_ (¬ (nI 2) < 0 ∧ ((nI 2)).toNatClampNeg ≤ 60000 ∧ ge_ m20 = true) (gq_ ((gk_ (al_ m20 (2, ((nI 2)).toNatClampNeg) ((nI 2)).toNatClampNeg) (gt_ m20)).1 = 2 ∧ in_ (nI 0) (gk_ (al_ m20 (2, ((nI 2)).toNatClampNeg) ((nI 2)).toNatClampNeg) (gt_ m20)).2) (gq_ ((gk_ (al_ m20 (2, ((nI 2)).toNatClampNeg) ((nI 2)).toNatClampNeg) (gt_ m20)).1 = 2 ∧ in_ (nI 1) (gk_ (al_ m20 (2, ((nI 2)).toNatClampNeg) ((nI 2)).toNatClampNeg) (gt_ m20)).2) (gq_ (gk_ (al_ m20 (2, ((nI 2)).toNatClampNeg) ((nI 2)).toNatClampNeg) (gr_ m20 (gt_ m) 1) = (1, 15)) (am_ci (am_ca sa sv (d + 9) 238 [(.ref (gr_ m20 (gt_ m) 1)), (.ref (gt_ m20))] (si_ (si_ (al_ m20 (2, ((nI 2)).toNatClampNeg) ((nI 2)).toNatClampNeg) (gt_ m20) ((nI 0)).toNatClampNeg v19) (gt_ m20) ((nI 1)).toNatClampNeg ((nI 1) + v21))) (fun v23 m22 => gq_ (gk_ m22 b = (1, 13)) (am_cr (am_ca sa sv (d + 9) 221 [(.ref b), (.ref (gr_ m22 sv 13))] m22) (fun v25 m24 => am_cr (am_ca sa sv (d + 9) 279 [(.int (nI w))] m24) (fun v27 m26 => gq_ (gk_ m26 v25 = (1, 13)) (am_cr (am_ca sa sv (d + 9) 221 [(.ref v25), (.ref v27)] m26) (fun v29 m28 => gq_ (gk_ m28 v29 = (1, 13)) (am_cr (am_ca sa sv (d + 9) 221 [(.ref v29), (.ref (gr_ m28 sv 14))] m28) (fun v31 m30 => am_cr (am_ca sa sv (d + 9) 279 [(.int v19)] m30) (fun v33 m32 => gq_ (gk_ m32 v31 = (1, 13)) (am_cr (am_ca sa sv (d + 9) 221 [(.ref v31), (.ref v33)] m32) (fun v35 m34 => gq_ (gk_ m34 v35 = (1, 13)) (am_cr (am_ca sa sv (d + 9) 221 [(.ref v35), (.ref (gr_ m34 sv 12))] m34) (fun v37 m36 => gq_ (gk_ m36 v37 = (1, 13)) (am_cr (am_ca sa sv (d + 9) 223 [(.ref v37), (.int ((nI 1) + v21))] m36) (fun v39 m38 => r282 sa sv (d + 9) 130 [some (.ref x), some (.ref b), some (.int (nI w)), some (.ref (gt_ m)), some (.ref (gt_ M3)), some (.int v19), some (.int ((nI 1) + v21))] [] m38) am_xg)) am_xg)) am_xg)) am_xg) am_xg)) am_xg)) am_xg) am_xg)) am_xg)))))) am_xg)) am_xg)) (gq_ (gk_ m10 b = (1, 13)) (am_cr (am_ca sa sv (d + 9) 221 [(.ref b), (.ref (gr_ m10 sv 15))] m10) (fun v13 m12 => am_cr (am_ca sa sv (d + 9) 279 [(.int (nI w))] m12) (fun v15 m14 => gq_ (gk_ m14 v13 = (1, 13)) (am_cr (am_ca sa sv (d + 9) 221 [(.ref v13), (.ref v15)] m14) (fun v17 m16 => r282 sa sv (d + 9) 130 [some (.ref x), some (.ref b), some (.int (nI w)), some (.ref (gt_ m)), some (.ref (gt_ M3)), none, none] [] m16) am_xg)) am_xg) am_xg))) am_xg)) := by
    rw [c282, b282_0, gq_pos ⟨h.xn.1, tg1.2.2⟩, gq_pos hc1.1, e1, ci_v, a2, hwd, gq_pos hg, e3, c0_v, nI_clamp (show 1 < 2 ^ 31 by omega), gq_pos ⟨by decide, by omega, hg3⟩, hM4]
  -- a work without sources, its text begun at M
  have plain : ∀ (M : am_M) (t1 : Nat), GS sa M sv x b t1 ow s q l → Gx x b 0 0 M4 M → t1 ≤ t + 3 → ∃ m' t' ow' s' q' l', gq_ (gk_ M b = (1, 13)) (am_cr (am_ca sa sv (d + 9) 221 [(.ref b), (.ref (gr_ M sv 15))] M) (fun v5 m4 => am_cr (am_ca sa sv (d + 9) 279 [(.int (nI w))] m4) (fun v7 m6 => gq_ (gk_ m6 v5 = (1, 13)) (am_cr (am_ca sa sv (d + 9) 221 [(.ref v5), (.ref v7)] m6) (fun v9 m8 => r282 sa sv (d + 9) 130 [some (.ref x), some (.ref b), some (.int (nI w)), some (.ref (gt_ m)), some (.ref (gt_ M3)), none, none] [] m8) am_xg)) am_xg) am_xg) = some (.inl none, m') ∧ GS sa m' sv x b t' ow' s' q' l' ∧ GT l' s' q' ∧ (∀ y, y < gt_ m → ow' y = ow y) ∧ (∀ y, gt_ m' ≤ y → 300 ≤ ow' y) ∧ t' ≤ t + 33 ∧ l'.length ≤ l.length + 125 ∧ (∀ k, k < 18 → ¬ k = 1 → s' k = s k) ∧ cN s' 1 = w + 1 ∧ Ex (fun _ => True) 300 330000 m m' := fun M t1 GM fM ht1 => by
    obtain ⟨N1, u1, U1, y1⟩ := GM.c (sa := sa) (d := d + 4) (i := 15) (by omega) (by omega)
    obtain ⟨N2', a, N2, u2, k2, u2', U2, y2⟩ := U1.w_ (sa := sa) (d := d + 2) (p := w) (by omega) (by rw [List.length_append]; omega)
    have fA := (fM.trans y1).trans y2
    have fS := fA.gs (S := fun _ => False)
    have gA := fA.1.gt
    have hx4 := G4.xn.1
    obtain ⟨z1, _, z3⟩ := fS.keep2 G4.sb (r := gt_ m) (by rw [ko4]; decide) (by rw [ko4]; decide) (by rw [ko4]; show ¬ 1 = 3; decide) hx4 (by omega) (fun z => z)
    obtain ⟨z4, _, _⟩ := fS.keep2 G4.sb (r := gt_ M3) (by rw [kt4]; exact fun z => absurd (congrArg (fun q => q.1) z) (by show ¬ 11 = 1; decide)) (by rw [kt4]; exact fun z => absurd (congrArg (fun q => q.1) z) (by show ¬ 11 = 1; decide)) (by rw [kt4]; show ¬ 11 = 3; decide) hx4 (by omega) (fun z => z)
    obtain ⟨v0, _⟩ := lc0'.gs fS G4.sb hx4 G4.ks.2.1 G4.ks.1 (fun _ z => absurd z id)
    obtain ⟨v1, _⟩ := lc1'.gs fS G4.sb hx4 G4.ks.2.1 G4.ks.1 (fun _ z => absurd z id)
    have hlen : (l ++ kb_ 15 ++ nm_ 10 w).length = l.length + 7 := by rw [List.length_append, List.length_append, l15, lnw]
    have hS : ∀ L, ¬ L = [] → L.length ≤ 4 → GSh s L → lsum L = 100 → NW s (splU (wk1 s) w 0 0 L) w L ∧ cN (splU (wk1 s) w 0 0 L) (59 + 48 * w) = ([] : List Nat).length ∧ (∀ i j, i < ([] : List Nat).length → j < 2 → gi_ N2 (([] : List Nat).getD i 0) j = splU (wk1 s) w 0 0 L (60 + 48 * w + 3 * j + i)) ∧ ∀ ie, (ie = 7 ∨ ie = 8) → GT ((l ++ kb_ 15 ++ nm_ 10 w) ++ (kb_ 11 ++ bts L) ++ kb_ ie) (splU (wk1 s) w 0 0 L) (wkQ s q (wv w)) := fun L b1 b2 b3 b4 => by
      refine ⟨NW.spl hwd (by omega) b2, ?_, fun i j hi => absurd hi (by show ¬ i < 0; omega), fun ie hie => ?_⟩
      · have e : splU (wk1 s) w 0 0 L (59 + 48 * w) = s (59 + 48 * w) := (splU_o b2 (by omega) (by omega)).trans (if_neg (by omega))
        have e2 := (ww_z hW w (by omega) (by omega)).2
        unfold cN
        rw [e, e2]
        rfl
      · have hh := hT.wk (by omega) b1 b2 b3 b4 hie
        rw [hwd] at hh
        have el : l ++ kb_ 15 ++ nm_ 10 w ++ (kb_ 11 ++ bts L) ++ kb_ ie = l ++ (kb_ 15 ++ (nm_ 10 w ++ (kb_ 11 ++ (bts L ++ kb_ ie)))) := by simp only [List.append_assoc]
        rw [el]
        exact hh
    obtain ⟨m', t', ow', s', l', r1', r2, r3, r4, r5, r6, r7, r8, r9, r10⟩ := x282_130 (sa := sa) (d := d) (G := gt_ m) (o := gt_ m) (to := gt_ M3) (a0 := gt_ m + 1) (a1 := gt_ m + 1 + 1) (w := w) (Lo := []) (q' := wkQ s q (wv w)) U2 h3 (by omega) h0 hwd hw3 (z1.trans ko4) (Nat.le_refl _) (by omega) (z4.trans kt4) (by omega) (by rw [z3, ro4]; exact r0) (by rw [z3, ro4]; exact r1) v0 (by omega) v1 (by omega) (by omega) (fun hk => by
        rcases v1.2.2.2.1 with y | y
        · rw [y.2.2] at hk
          exact absurd hk (by show ¬ 13 = 10; decide)
        · omega) (by show 0 < 2; omega) (fun i hi => absurd hi (by show ¬ i < 0; omega)) hnp (by omega) (by omega) hq (fun L => splU (wk1 s) w 0 0 L) hS none none
    refine ⟨m', t', ow', s', wkQ s q (wv w), l', ?_, r2, r3, r4, r5, by omega, by omega, r8, r9, ?_⟩
    · rw [gq_pos GM.kb, u1, cr_v, u2, cr_v, gq_pos k2, u2', cr_v]
      exact r1'
    · exact ((xm4.trans fA.tr (fun _ _ z => z)).trans r10 (fun _ _ z => z)).mono (fun _ _ z => z) (by omega) (by omega)
  rw [head]
  by_cases qw : w = 0
  · rw [gb_pos (by rw [qw]; decide)]
    exact plain M4 t G4 (Gx.refl _) (by omega)
  · rw [gb_neg (by rw [nI_le0 (by omega)]; exact qw), gq_pos G4.xn.1]
    obtain ⟨v, N1, hv, u1, U1, y1⟩ := G4.next (sa := sa) (d := d + 6) (n := 3) (by omega) (by omega) (by omega)
    rw [u1, ci_v]
    by_cases qv : v = 0
    · rw [gb_pos (by rw [qv]; rfl), gq_pos U1.xn.1]
      obtain ⟨so, N2, hso, u2, U2, y2⟩ := U1.next (sa := sa) (d := d + 6) (n := w) (by omega) (by omega) (by omega)
      obtain ⟨pc, N3, hpc, u3, U3, y3⟩ := U2.next (sa := sa) (d := d + 6) (n := 90) (by omega) (by omega) (by omega)
      have fA := (y1.trans y2).trans y3
      have fS := fA.gs (S := fun _ => False)
      have gA := fA.1.gt
      have hx4 := G4.xn.1
      obtain ⟨z1, _, z3⟩ := fS.keep2 G4.sb (r := gt_ m) (by rw [ko4]; decide) (by rw [ko4]; decide) (by rw [ko4]; show ¬ 1 = 3; decide) hx4 (by omega) (fun z => z)
      obtain ⟨z4, _, _⟩ := fS.keep2 G4.sb (r := gt_ M3) (by rw [kt4]; exact fun z => absurd (congrArg (fun q => q.1) z) (by show ¬ 11 = 1; decide)) (by rw [kt4]; exact fun z => absurd (congrArg (fun q => q.1) z) (by show ¬ 11 = 1; decide)) (by rw [kt4]; show ¬ 11 = 3; decide) hx4 (by omega) (fun z => z)
      obtain ⟨v0, _⟩ := lc0'.gs fS G4.sb hx4 G4.ks.2.1 G4.ks.1 (fun _ z => absurd z id)
      obtain ⟨v1, _⟩ := lc1'.gs fS G4.sb hx4 G4.ks.2.1 G4.ks.1 (fun _ z => absurd z id)
      have ko5 : gk_ N3 (gt_ m) = (1, 11) := z1.trans ko4
      have kt5 : gk_ N3 (gt_ M3) = (11, 1) := z4.trans kt4
      have r05 : gr_ N3 (gt_ m) 0 = gt_ m + 1 := by rw [z3, ro4]; exact r0
      have r15 : gr_ N3 (gt_ m) 1 = gt_ m + 1 + 1 := by rw [z3, ro4]; exact r1
      have hg5 : ge_ N3 = true := U3.sb.kb.2.2.2.2
      have xc : Ex NoP 1 2 N3 (si_ (si_ (al_ N3 (2, 2) 2) (gt_ N3) 0 (nI so)) (gt_ N3) 1 (nI (1 + pc))) := ((Ex.al _ _ _).si (.inl (Nat.le_refl _))).si (.inl (Nat.le_refl _))
      have kn : gk_ (al_ N3 (2, 2) 2) (gt_ N3) = (2, 2) := gk_al N3 _ _
      have ka1 : gk_ (al_ N3 (2, 2) 2) (gt_ m + 1 + 1) = (1, 15) := (gk_alo _ _ _ (by omega)).trans v1.1
      have k6 : gk_ (si_ (si_ (al_ N3 (2, 2) 2) (gt_ N3) 0 (nI so)) (gt_ N3) 1 (nI (1 + pc))) (gt_ N3) = (2, 2) := kn
      have i60 : gi_ (si_ (si_ (al_ N3 (2, 2) 2) (gt_ N3) 0 (nI so)) (gt_ N3) 1 (nI (1 + pc))) (gt_ N3) 0 = nI so := by rw [gi_si, if_neg (by omega), gi_si1]
      have i61 : gi_ (si_ (si_ (al_ N3 (2, 2) 2) (gt_ N3) 0 (nI so)) (gt_ N3) 1 (nI (1 + pc))) (gt_ N3) 1 = nI (1 + pc) := gi_si1 _ _ _ _
      have g6 : gt_ (si_ (si_ (al_ N3 (2, 2) 2) (gt_ N3) 0 (nI so)) (gt_ N3) 1 (nI (1 + pc))) = gt_ N3 + 1 := rfl
      have U6 := U3.no xc
      generalize hN6 : si_ (si_ (al_ N3 (2, 2) 2) (gt_ N3) 0 (nI so)) (gt_ N3) 1 (nI (1 + pc)) = N6 at xc k6 i60 i61 g6 U6
      have hsl5 := U3.ks.1
      obtain ⟨v0', _, _⟩ := v0.no xc hsl5
      obtain ⟨v1', _, _⟩ := v1.no xc hsl5
      have ko6 : gk_ N6 (gt_ m) = (1, 11) := (xc.k (by omega)).trans ko5
      have kt6 : gk_ N6 (gt_ M3) = (11, 1) := (xc.k (by omega)).trans kt5
      have ro6 : gr_ N6 (gt_ m) = gr_ N3 (gt_ m) := xc.r (by omega) (no _)
      have k40 : gk_ N6 (gr_ N6 (gt_ m + 1 + 1) 1) = (13, 0) := by
        rcases v1'.2.2.2.1 with y | y
        · exact y.2.2
        · have := y.2
          omega
      obtain ⟨N7, u7, w7, x7⟩ := x238 (sa := sa) (sv := sv) (d := d + 3) (x := gt_ N3) ⟨0, v1'⟩ ⟨⟨by omega, .inr (.inl ⟨rfl, .inr (.inl (by rw [k6]))⟩)⟩, by omega⟩ (by show 0 < 100; omega)
      have x7e : Ex (fun y => y = gt_ m + 1 + 1) 1 160 N6 N7 := x7.1.mono (fun y _ z => by
        rcases z with z | ⟨z, z2⟩
        · exact z
        · rw [z, k40] at z2
          exact absurd z2 (by show ¬ 13 = 10; decide)) (Nat.le_refl _) (Nat.le_refl _)
      have hna := h.na
      have hnd := h.nd
      have ks6 := U6.ks.2.1
      have hsl6 := U6.ks.1
      have nsa : ¬ sv = gt_ m + 1 + 1 := by omega
      have W7 : WS N7 sv x ow s q := U6.ws.xt (T := fun y => 300 ≤ y) ⟨x7e, fun y _ z _ => by rw [z]; exact h3 _ (by omega), fun _ _ => rfl, x7e.r hsl6 nsa⟩ (fun t y => y) (by omega) h.gl.2 (by omega) (by omega)
      obtain ⟨R7a, R7b, R7c⟩ := U6.rest x7e (fun y _ z => .inr (.inr (.inr (.inl (by rw [z]; exact v1'.1)))))
      have U7 : GS sa N7 sv x b (t + 1 + 1 + 1) ow s q l := ⟨W7, R7a, R7b, R7c, h.gl, h.wg, h.sm, hna, hnd⟩
      have g7 := x7e.gt
      have st7 : ∀ y, y < gt_ N6 → ¬ y = gt_ m + 1 + 1 → gk_ N7 y = gk_ N6 y ∧ gi_ N7 y = gi_ N6 y ∧ gr_ N7 y = gr_ N6 y := fun y hy hn => ⟨x7e.k hy, x7e.i hy hn, x7e.r hy hn⟩
      obtain ⟨c7, w7'⟩ := w7
      have v0'' : LC N7 sv (gt_ m + 1) 0 [] := v0'.st (fun y hy => x7e.k hy) g7 x7e.ge ⟨(st7 _ (by omega) (by omega)).2.1, (st7 _ (by omega) (by omega)).2.2⟩ (x7e.r v0'.2.2.2.2.2.2.2.2.2.1 (fun z => by
        have hk0 : gk_ N6 (gr_ N6 (gt_ m + 1) 1) = (13, 0) := by
          rcases v0'.2.2.2.1 with y | y
          · exact y.2.2
          · have := y.2
            omega
        rw [z, v1'.1] at hk0
        exact absurd hk0 (by decide))) (x7e.r hsl6 nsa)
      obtain ⟨k7o, _, r7o⟩ := st7 (gt_ m) (by omega) (by omega)
      obtain ⟨k7t, _, _⟩ := st7 (gt_ M3) (by omega) (by omega)
      obtain ⟨k7r, i7r, _⟩ := st7 (gt_ N3) (by omega) (by omega)
      -- the text
      obtain ⟨P1, e1', V1, f1⟩ := U7.c (sa := sa) (d := d + 4) (i := 13) (by omega) (by omega)
      obtain ⟨P2', aa, P2, e2', kk2, e2'', V2, f2⟩ := V1.w_ (sa := sa) (d := d + 2) (p := w) (by omega) (by rw [List.length_append]; omega)
      obtain ⟨P3, e3', V3, f3⟩ := V2.c (sa := sa) (d := d + 4) (i := 14) (by omega) (by rw [List.length_append, List.length_append, l13, lnw, l14]; omega)
      obtain ⟨P4', ab, P4, e4', kk4, e4'', V4, f4⟩ := V3.w_ (sa := sa) (d := d + 2) (p := so) (by omega) (by rw [List.length_append, List.length_append, List.length_append, l13, lnw, l14]; omega)
      obtain ⟨P5, e5', V5, f5⟩ := V4.c (sa := sa) (d := d + 4) (i := 12) (by omega) (by rw [List.length_append, List.length_append, List.length_append, List.length_append, l13, lnw, lnw, l14, l12]; omega)
      obtain ⟨P6, e6', V6, f6⟩ := V5.n_ (sa := sa) (d := d + 4) (v := 1 + pc) (by omega) (by rw [List.length_append, List.length_append, List.length_append, List.length_append, List.length_append, l13, lnw, lnw, l14, l12]; omega)
      have hd3 := dg_len3 (show 1 + pc < 1000 by omega)
      have hlen : (l ++ kb_ 13 ++ nm_ 10 w ++ kb_ 14 ++ nm_ 10 so ++ kb_ 12 ++ dg_ (1 + pc)).length ≤ l.length + 18 := by
        rw [List.length_append, List.length_append, List.length_append, List.length_append, List.length_append, List.length_append, l13, l14, l12, lnw, lnw]
        omega
      have fB := ((((f1.trans f2).trans f3).trans f4).trans f5).trans f6
      have fT := fB.gs (S := fun _ => False)
      have gB := fB.1.gt
      have hx7 := U7.xn.1
      have ko7 : gk_ N7 (gt_ m) = (1, 11) := k7o.trans ko6
      have kt7 : gk_ N7 (gt_ M3) = (11, 1) := k7t.trans kt6
      have kr7 : gk_ N7 (gt_ N3) = (2, 2) := k7r.trans k6
      obtain ⟨q1, _, q3⟩ := fT.keep2 U7.sb (r := gt_ m) (by rw [ko7]; decide) (by rw [ko7]; decide) (by rw [ko7]; show ¬ 1 = 3; decide) hx7 (by omega) (fun z => z)
      obtain ⟨q4, _, _⟩ := fT.keep2 U7.sb (r := gt_ M3) (by rw [kt7]; exact fun z => absurd (congrArg (fun q => q.1) z) (by show ¬ 11 = 1; decide)) (by rw [kt7]; exact fun z => absurd (congrArg (fun q => q.1) z) (by show ¬ 11 = 1; decide)) (by rw [kt7]; show ¬ 11 = 3; decide) hx7 (by omega) (fun z => z)
      obtain ⟨q5, q6, _⟩ := fT.keep2 U7.sb (r := gt_ N3) (by rw [kr7]; exact fun z => absurd (congrArg (fun q => q.1) z) (by show ¬ 2 = 1; decide)) (by rw [kr7]; exact fun z => absurd (congrArg (fun q => q.1) z) (by show ¬ 2 = 1; decide)) (by rw [kr7]; show ¬ 2 = 3; decide) hx7 (by omega) (fun z => z)
      obtain ⟨t0, _⟩ := v0''.gs fT U7.sb hx7 U7.ks.2.1 U7.ks.1 (fun _ z => absurd z id)
      obtain ⟨t1, rt1⟩ := w7'.gs fT U7.sb hx7 U7.ks.2.1 U7.ks.1 (fun _ z => absurd z id)
      have hS : ∀ L, ¬ L = [] → L.length ≤ 4 → GSh s L → lsum L = 100 → NW s (srcU (splU (wk1 s) w 0 0 L) w 0 so (1 + pc)) w L ∧ cN (srcU (splU (wk1 s) w 0 0 L) w 0 so (1 + pc)) (59 + 48 * w) = ([] ++ [gt_ N3]).length ∧ (∀ i j, i < ([] ++ [gt_ N3]).length → j < 2 → gi_ P6 (([] ++ [gt_ N3]).getD i 0) j = srcU (splU (wk1 s) w 0 0 L) w 0 so (1 + pc) (60 + 48 * w + 3 * j + i)) ∧ ∀ ie, (ie = 7 ∨ ie = 8) → GT ((l ++ kb_ 13 ++ nm_ 10 w ++ kb_ 14 ++ nm_ 10 so ++ kb_ 12 ++ dg_ (1 + pc)) ++ (kb_ 11 ++ bts L) ++ kb_ ie) (srcU (splU (wk1 s) w 0 0 L) w 0 so (1 + pc)) (wkQ s q (wv w)) := fun L b1 b2 b3 b4 => by
        obtain ⟨n1, n2, n3, n4, n5, n6, n7⟩ := NW.spl (s := s) hwd (by omega) b2
        have lo : ∀ k, (k < 59 + 48 * w ∨ 66 + 48 * w ≤ k) → srcU (splU (wk1 s) w 0 0 L) w 0 so (1 + pc) k = splU (wk1 s) w 0 0 L k := fun k hk => by
          unfold srcU
          rw [if_neg (by omega), if_neg (by omega), if_neg (by omega)]
        refine ⟨⟨fun k h1 h2 => (lo k (by omega)).trans (n1 k h1 h2), fun k hk => (lo k (by omega)).trans (n2 k hk), (lo _ (by omega)).trans n3, (lo _ (by omega)).trans n4, (lo _ (by omega)).trans n5, (lo _ (by omega)).trans n6, fun j y hy => ?_⟩, show cN (srcU (splU (wk1 s) w 0 0 L) w 0 so (1 + pc)) (59 + 48 * w) = 1 from cN_ (if_pos rfl) (by omega), fun i j hi hj => ?_, fun ie hie => ?_⟩
        · have hj := (List.getElem?_eq_some_iff.mp hy).1
          obtain ⟨c1, c2⟩ := n7 j y hy
          exact ⟨(lo _ (by omega)).trans c1, (lo _ (by omega)).trans c2⟩
        · have hi : i < 1 := hi
          have hi0 : i = 0 := by omega
          subst hi0
          show gi_ P6 (gt_ N3) j = _
          rw [q6, i7r]
          by_cases hj0 : j = 0
          · rw [hj0, i60]
            unfold srcU
            rw [if_neg (by omega), if_pos (by omega)]
          · rw [show j = 1 by omega, i61]
            unfold srcU
            rw [if_neg (by omega), if_neg (by omega), if_pos (by omega)]
        · have hh := hT.cv (so := so) (pc := 1 + pc) (by omega) (by omega) (by omega) (by omega) b1 b2 b3 b4 hie
          rw [hwd] at hh
          have el : l ++ kb_ 13 ++ nm_ 10 w ++ kb_ 14 ++ nm_ 10 so ++ kb_ 12 ++ dg_ (1 + pc) ++ (kb_ 11 ++ bts L) ++ kb_ ie = l ++ (kb_ 13 ++ (nm_ 10 w ++ (kb_ 14 ++ (nm_ 10 so ++ (kb_ 12 ++ (dg_ (1 + pc) ++ (kb_ 11 ++ (bts L ++ kb_ ie)))))))) := by simp only [List.append_assoc]
          rw [el]
          exact hh
      obtain ⟨m', t', ow', s', l', r1', r2, r3, r4, r5, r6, r7, r8, r9, r10⟩ := x282_130 (sa := sa) (d := d) (G := gt_ m) (o := gt_ m) (to := gt_ M3) (a0 := gt_ m + 1) (a1 := gt_ m + 1 + 1) (w := w) (Lo := [] ++ [gt_ N3]) (q' := wkQ s q (wv w)) V6 h3 (by omega) h0 hwd hw3 (q1.trans ko7) (Nat.le_refl _) (by omega) (q4.trans kt7) (by omega) (by rw [q3, r7o, ro6]; exact r05) (by rw [q3, r7o, ro6]; exact r15) t0 (by omega) t1 (by omega) (by omega) (fun hk => by
          have e71 : gr_ P6 (gt_ m + 1 + 1) 1 = gr_ N7 (gt_ m + 1 + 1) 1 := by rw [rt1]
          rcases x7.2 with y | y
          · rw [e71, y, fB.1.k (by have := v1'.2.2.2.2.2.2.2.2.2.1; omega), x7e.k v1'.2.2.2.2.2.2.2.2.2.1, k40] at hk
            exact absurd hk (by show ¬ 13 = 10; decide)
          · omega) (by show 1 < 2; omega) (fun i hi => by
          have hi : i < 1 := hi
          have hi0 : i = 0 := by omega
          subst hi0
          show gk_ P6 (gt_ N3) = (2, 2) ∧ gt_ m ≤ gt_ N3 ∧ gt_ N3 < gt_ P6
          exact ⟨q5.trans kr7, by omega, by omega⟩) hnp (by omega) (by omega) hq (fun L => srcU (splU (wk1 s) w 0 0 L) w 0 so (1 + pc)) hS (some (.int (nI so))) (some (.int (nI (1 + pc))))
      refine ⟨m', t', ow', s', wkQ s q (wv w), l', ?_, r2, r3, r4, r5, by omega, by omega, r8, r9, ?_⟩
      · rw [u2, ci_v, gq_pos U2.xn.1, u3, ci_v, gq_pos ⟨ko5, by rw [r15]; omega⟩, r15, nI_clamp (show 2 < 2 ^ 31 by omega), nI_clamp (show 0 < 2 ^ 31 by omega), nI_clamp (show 1 < 2 ^ 31 by omega), gq_pos ⟨by decide, by omega, hg5⟩, kn, gq_pos ⟨rfl, in_of (show 0 < 2 by omega) (by omega)⟩, gq_pos ⟨rfl, in_of (show 1 < 2 by omega) (by omega)⟩, gq_pos ka1, nI_add, hN6, u7, ci_v, gq_pos U7.kb, e1', cr_v, e2', cr_v, gq_pos kk2, e2'', cr_v, gq_pos V2.kb, e3', cr_v, e4', cr_v, gq_pos kk4, e4'', cr_v, gq_pos V4.kb, e5', cr_v, gq_pos V5.kb, e6', cr_v]
        exact r1'
      · have y6 := xc.mono (P' := fun _ => True) (fun _ _ _ => trivial) (Nat.le_refl _) (Nat.le_refl _)
        have y7 := x7e.mono (P' := fun _ => True) (fun _ _ _ => trivial) (Nat.le_refl _) (Nat.le_refl _)
        exact (((((xm4.trans fA.tr (fun _ _ z => z)).trans y6 (fun _ _ z => z)).trans y7 (fun _ _ z => z)).trans fB.tr (fun _ _ z => z)).trans r10 (fun _ _ z => z)).mono (fun _ _ z => z) (by omega) (by omega)
    · rw [gb_neg (by rw [nI_eq0 (by omega)]; exact qv)]
      exact plain N1 (t + 1) U1 y1 (by omega)
end G8
