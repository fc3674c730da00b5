/-! a work gets a split, a source -/
section W8
variable {sa sv d x b t u o w : Nat} {m m1 : am_M} {ow ow' : Nat → Nat} {T P : Nat → Prop} {s s' : Nat → Int32} {q q' : Nat → Int64} {l : List Int32}
def owu (ow : Nat → Nat) (r t y : Nat) : Nat := if y = r then t else ow y
theorem owu_RT {r : Nat} (hr : 300 ≤ ow r) : RT m ow (owu ow r t) := fun y _ h => if_neg (fun z => by rw [z] at h; omega)
theorem LPa_k {L : List Nat} {a : Nat} (h : LW m sv ow a t L) : ∀ y, y < gt_ m → LPa m a y → (gk_ m y).1 = 2 ∨ (gk_ m y).1 = 4 ∨ (gk_ m y).1 = 10 ∨ gk_ m y = (1, 15) ∨ gk_ m y = (1, 11) := fun y _ z => by
  obtain ⟨⟨c, hc⟩, _⟩ := h
  rcases z with z | ⟨z, z2⟩
  · rw [z]
    exact .inr (.inr (.inr (.inl hc.1)))
  · exact .inr (.inr (.inl z2))
theorem GLm.of (h : GLm s) (h1 : cN s' 1 = cN s 1) (hw : w < cN s 1) (ha : cN s' (18 + 48 * w) < 3) (hb : cN s' (59 + 48 * w) < 3) (ho : ∀ v, v < cN s 1 → ¬ v = w → cN s' (18 + 48 * v) = cN s (18 + 48 * v) ∧ cN s' (59 + 48 * v) = cN s (59 + 48 * v)) : GLm s' := by
  refine ⟨by rw [h1]; exact h.1, fun v hv => ?_⟩
  rw [h1] at hv
  by_cases e : v = w
  · rw [e]
    exact ⟨ha, hb⟩
  · obtain ⟨y1, y2⟩ := ho v hv e
    rw [y1, y2]
    exact h.2 v hv
theorem splU_o {n day k : Nat} {L : List (Nat × Nat)} (h4 : L.length ≤ 4) (hn : n < 4) (hk : k < 18 + 48 * w ∨ 59 + 48 * w ≤ k) : splU s w n day L k = s k := by
  unfold splU
  rw [if_neg (by omega), if_neg (by omega), if_neg (by omega), if_neg (by omega), if_neg (by omega)]
theorem GS.wspl (h : GS sa m sv x b t ow s q l) (hw : w < cN s 1) (hn : cN s (18 + 48 * w) = 1) {r day : Nat} {L : List (Nat × Nat)} (kr : gk_ m r = (2, 2 * L.length + 1)) (hrl : r < gt_ m) (hr3 : 300 ≤ ow r) (hr0 : ¬ r = 0) (hR0 : gi_ m r 0 = nI day) (hR : ∀ j y, L[j]? = some y → gi_ m r (2 * j + 1) = nI y.1 ∧ gi_ m r (2 * j + 2) = nI y.2) (h4 : L.length ≤ 4) (wg' : WG 0 (splU s w 1 day L) q) (sm' : SM (splU s w 1 day L) q) : ∃ o m1 ow', (∀ d2, am_ca sa sv (d2 + 3) 236 [.ref (gr_ m x 3), .int (nI w)] m = some (.inl (some (.ref o)), m)) ∧ gk_ m o = (1, 11) ∧ ¬ gr_ m o 0 = 0 ∧ gk_ m (gr_ m o 0) = (1, 15) ∧ ¬ gr_ m x 3 = 0 ∧ gk_ m (gr_ m x 3) = (1, 15) ∧ am_ca sa sv (d + 6) 238 [.ref (gr_ m o 0), .ref r] m = some (.inl (some (.int (nI 1))), m1) ∧ GS sa m1 sv x b t ow' (splU s w 1 day L) q l ∧ (∀ y, y < gt_ m → ¬ y = r → ow' y = ow y) ∧ (∀ y, gt_ m1 ≤ y → 300 ≤ ow' y) ∧ Ex (fun _ => True) 1 160 m m1 := by
  have hC := h.wg.C
  have hW := h.wg.1.2.1
  have hG1 := h.gl.1
  have hna := h.na
  have hnd := h.nd
  have hKs := h.ks
  obtain ⟨y1', y2'⟩ := h.gl.2 w hw
  have hRT : RT m ow (owu ow r (106 + 10 * w)) := owu_RT hr3
  have h' := h.rt hRT
  obtain ⟨L1, a1, a2, a3⟩ := h'.ws.wk
  have hwL : w < L1.length := by omega
  have hWO := a3 w hwL
  have hWO' := hWO
  obtain ⟨o1, o2, ⟨Ls, p1, p2, p3⟩, ⟨Lo, q1, q2, q3⟩⟩ := hWO'
  have a1' := a1
  obtain ⟨⟨c1, hc1⟩, tg1, _⟩ := a1'
  have e1 := fun d2 => x236 (sa := sa) (d := d2) hc1 hwL
  have hel : am_el m 10 r ∧ r < gt_ m := ⟨⟨hr0, .inr (.inl ⟨rfl, .inr (.inl (by rw [kr]))⟩)⟩, hrl⟩
  obtain ⟨m1, e2, LW1, X1⟩ := p1.app (sa := sa) (d := d) hel (by omega) hKs.2.1 hKs.1
  have p1' := p1
  obtain ⟨⟨c2, hc2⟩, tg2, _⟩ := p1'
  have g1 := X1.1.gt
  have c1' : cN (splU s w 1 day L) 1 = cN s 1 := cN_cg (splU_lo (by omega))
  have v18 : splU s w 1 day L (18 + 48 * w) = nI 2 := if_pos rfl
  have c18 : cN (splU s w 1 day L) (18 + 48 * w) = 2 := cN_ v18 (by omega)
  have v20 : splU s w 1 day L (20 + 48 * w) = nI day := by
    unfold splU
    rw [if_neg (by omega), if_pos (by omega)]
  have v24 : splU s w 1 day L (24 + 48 * w) = nI L.length := by
    unfold splU
    rw [if_neg (by omega), if_neg (by omega), if_pos (by omega)]
  have v31 : ∀ j y, L[j]? = some y → splU s w 1 day L (31 + 48 * w + j) = nI y.1 ∧ splU s w 1 day L (47 + 48 * w + j) = nI y.2 := fun j y hy => by
    have hj := (List.getElem?_eq_some_iff.mp hy).1
    have hg : L.getD j (0, 0) = y := by rw [List.getD_eq_getElem?_getD, hy]; rfl
    unfold splU
    refine ⟨?_, ?_⟩
    · rw [if_neg (by omega), if_neg (by omega), if_neg (by omega), if_pos (by omega), show 31 + 48 * w + j - (27 + 48 * w + 4 * 1) = j by omega, hg]
    · rw [if_neg (by omega), if_neg (by omega), if_neg (by omega), if_neg (by omega), if_pos (by omega), show 47 + 48 * w + j - (43 + 48 * w + 4 * 1) = j by omega, hg]
  have vlo : ∀ k, k < 18 + 48 * w ∨ 19 + 48 * w = k ∨ 23 + 48 * w = k ∨ 27 + 48 * w ≤ k ∧ k < 31 + 48 * w ∨ 43 + 48 * w ≤ k ∧ k < 47 + 48 * w ∨ 59 + 48 * w ≤ k → splU s w 1 day L k = s k := fun k hk => by
    unfold splU
    rw [if_neg (by omega), if_neg (by omega), if_neg (by omega), if_neg (by omega), if_neg (by omega)]
  have hT : ∀ u, (u = 101 + 10 * w ∨ u = 101 + 10 * w + 1) → 101 + 10 * w ≤ u ∧ u < 103 + 10 * w := fun u hu => by omega
  have nT : ∀ u, (u < 101 + 10 * w ∨ 103 + 10 * w ≤ u) → ¬ (u = 101 + 10 * w ∨ u = 101 + 10 * w + 1) := fun u h1 h2 => by omega
  generalize hW' : owe (owu ow r (106 + 10 * w)) (gt_ m) (gr_ m1 (gr_ m (L1.getD w 0) 0) 1) (101 + 10 * w + 1) = ow' at LW1 X1
  have hnh : ∀ v k, v < cN s 1 → k < cN s (18 + 48 * v) → cN s (23 + 48 * v + k) < 5 := fun v k h1 h2 => ((ww_nh hW v k h1 h2).1.c (by decide)).2
  have rR : RW m1 ow' r (105 + 10 * w + 1) (2 * L.length + 1) (fun j => if j = 0 then splU s w 1 day L (19 + 48 * w + 1) else if j % 2 = 1 then splU s w 1 day L (27 + 48 * w + 4 * 1 + j / 2) else splU s w 1 day L (43 + 48 * w + 4 * 1 + (j / 2 - 1))) := by
    have R0 : RW m (owu ow r (106 + 10 * w)) r (105 + 10 * w + 1) (2 * L.length + 1) (gi_ m r) := ⟨kr, ⟨by unfold owu; rw [if_pos rfl]; omega, hrl, hr0⟩, fun _ _ => rfl⟩
    obtain ⟨z1, z2, z3⟩ := R0.xt X1 (nT _ (by omega))
    refine ⟨z1, z2, fun j hj => (z3 j hj).trans ?_⟩
    show gi_ m r j = (if j = 0 then splU s w 1 day L (19 + 48 * w + 1) else if j % 2 = 1 then splU s w 1 day L (27 + 48 * w + 4 * 1 + j / 2) else splU s w 1 day L (43 + 48 * w + 4 * 1 + (j / 2 - 1)))
    by_cases e0 : j = 0
    · rw [if_pos e0, e0, hR0, show 19 + 48 * w + 1 = 20 + 48 * w by omega, v20]
    · rw [if_neg e0]
      by_cases eo : j % 2 = 1
      · rw [if_pos eo]
        have hjl : j / 2 < L.length := by omega
        have hy : L[j / 2]? = some L[j / 2] := List.getElem?_eq_getElem hjl
        have r1 := (hR _ _ hy).1
        rw [show 2 * (j / 2) + 1 = j by omega] at r1
        rw [r1, show 27 + 48 * w + 4 * 1 + j / 2 = 31 + 48 * w + j / 2 by omega, (v31 _ _ hy).1]
      · rw [if_neg eo]
        have hjl : j / 2 - 1 < L.length := by omega
        have hy : L[j / 2 - 1]? = some L[j / 2 - 1] := List.getElem?_eq_getElem hjl
        have r1 := (hR _ _ hy).2
        rw [show 2 * (j / 2 - 1) + 2 = j by omega] at r1
        rw [r1, show 43 + 48 * w + 4 * 1 + (j / 2 - 1) = 47 + 48 * w + (j / 2 - 1) by omega, (v31 _ _ hy).2]
  have oX : gr_ m1 (L1.getD w 0) = gr_ m (L1.getD w 0) := X1.1.r o2.2.1 (X1.no o2.2.1 (.inr (.inr (.inr (.inr (.inl o1))))) (by rw [o2.1]; exact nT _ (by omega)))
  have Ww : WO m1 sv ow' (L1.getD w 0) w (splU s w 1 day L) := by
    refine ⟨(X1.1.k o2.2.1).trans o1, o2.xt X1, ⟨Ls ++ [r], by rw [oX]; exact LW1, by rw [List.length_append, p2, hn, c18]; rfl, fun k hk => ?_⟩, ⟨Lo, by rw [oX]; exact (q1.xt X1 (nT _ (by omega)) (nT _ (by omega))).1, by rw [cN_cg (vlo (59 + 48 * w) (by omega))]; exact q2, fun i hi => ?_⟩⟩
    · rw [List.length_append, p2, hn] at hk
      have hk : k < 1 + 1 := hk
      by_cases ek : k = 0
      · subst ek
        have hp0 := p3 0 (by omega)
        obtain ⟨z1, z2, z3⟩ := hp0.xt X1 (nT _ (by omega))
        have h5 := hnh w 0 hw (by omega)
        rw [app_n, if_pos (by omega), cN_cg (vlo (23 + 48 * w + 0) (by omega))]
        refine ⟨z1, z2, fun j hj => (z3 j hj).trans ?_⟩
        show (if j = 0 then s (19 + 48 * w + 0) else if j % 2 = 1 then s (27 + 48 * w + 4 * 0 + j / 2) else s (43 + 48 * w + 4 * 0 + (j / 2 - 1))) = (if j = 0 then splU s w 1 day L (19 + 48 * w + 0) else if j % 2 = 1 then splU s w 1 day L (27 + 48 * w + 4 * 0 + j / 2) else splU s w 1 day L (43 + 48 * w + 4 * 0 + (j / 2 - 1)))
        by_cases e0 : j = 0
        · rw [if_pos e0, if_pos e0, vlo (19 + 48 * w + 0) (by omega)]
        · rw [if_neg e0, if_neg e0]
          by_cases eo : j % 2 = 1
          · rw [if_pos eo, if_pos eo, vlo (27 + 48 * w + 4 * 0 + j / 2) (by omega)]
          · rw [if_neg eo, if_neg eo, vlo (43 + 48 * w + 4 * 0 + (j / 2 - 1)) (by omega)]
      · have ek1 : k = 1 := by omega
        subst ek1
        rw [app_n, if_neg (by omega), show 1 - Ls.length = 0 by omega, cN_ (show splU s w 1 day L (23 + 48 * w + 1) = nI L.length by rw [show 23 + 48 * w + 1 = 24 + 48 * w by omega]; exact v24) (by omega)]
        exact rR
    · obtain ⟨z1, z2, z3⟩ := (q3 i hi).xt X1 (nT _ (by omega))
      exact ⟨z1, z2, fun j hj => (z3 j hj).trans (vlo _ (by omega)).symm⟩
  have W1 : WS m1 sv x ow' (splU s w 1 day L) q := by
    refine h'.ws.grow X1 (fun u hu => by have := hT u hu; omega) (fun k hk _ _ _ => splU_lo hk) (fun _ _ => rfl) ⟨L1, (a1.xt X1 (nT _ (by omega)) (nT _ (by omega))).1, by rw [c1']; exact a2, fun v hv => ?_⟩ (h'.ws.asx X1 (fun u hu => by have := hT u hu; omega) (by omega) (fun k hk => vlo k (by omega))) (h'.ws.adx X1 (fun u hu => by have := hT u hu; omega) (by omega) (fun k hk => vlo k (by omega)))
    by_cases ev : v = w
    · rw [ev]
      exact Ww
    · obtain ⟨y1, y2⟩ := h.gl.2 v (by omega)
      refine ((a3 v hv).xt X1 (fun k hk => nT _ (by omega)) y1 y2).cg2 (by omega) (by omega) (fun k hk => hnh v k (by omega) hk) (fun k h1 h2 => ?_)
      exact splU_o h4 (by omega) (by omega)
  obtain ⟨R1, R2, R3⟩ := h'.rest X1.1 (LPa_k p1)
  have hgl : GLm (splU s w 1 day L) := h.gl.of c1' hw (by omega) (by rw [cN_cg (vlo (59 + 48 * w) (by omega))]; exact y2') (fun v hv he => ⟨cN_cg (splU_o h4 (by omega) (by omega)), cN_cg (splU_o h4 (by omega) (by omega))⟩)
  refine ⟨L1.getD w 0, m1, ow', e1, o1, tg2.2.2, hc2.1, tg1.2.2, hc1.1, e2, ⟨W1, R1, R2, R3, hgl, wg', sm', by rw [cN_cg (splU_lo (by omega))]; exact hna, by rw [cN_cg (splU_lo (by omega))]; exact hnd⟩, fun y hy hne => ?_, fun y hy => ?_, X1.1.mono (fun _ _ _ => trivial) (Nat.le_refl _) (Nat.le_refl _)⟩
  · rw [X1.2.2.1 y hy]
    exact if_neg hne
  · rw [← hW']
    unfold owe
    have hlt : gr_ m1 (gr_ m (L1.getD w 0) 0) 1 < gt_ m1 := by
      obtain ⟨⟨c', hc'⟩, _⟩ := LW1
      exact hc'.2.2.2.2.2.2.2.2.2.1
    rw [if_neg (by omega), if_neg (Nat.ne_of_gt (Nat.lt_of_lt_of_le hlt hy))]
    exact Nat.le_refl _
theorem GS.wsrc (h : GS sa m sv x b t ow s q l) (hw : w < cN s 1) {nn : Nat} (hn : cN s (59 + 48 * w) = nn) (hn2 : nn < 2) {r so pc : Nat} (kr : gk_ m r = (2, 2)) (hrl : r < gt_ m) (hr3 : 300 ≤ ow r) (hr0 : ¬ r = 0) (hR0 : gi_ m r 0 = nI so) (hR1 : gi_ m r 1 = nI pc) (wg' : WG 0 (srcU s w nn so pc) q) (sm' : SM (srcU s w nn so pc) q) : ∃ o m1 ow', gk_ m o = (1, 11) ∧ ¬ gr_ m o 1 = 0 ∧ gk_ m (gr_ m o 1) = (1, 15) ∧ (∀ m2 L c, LC m2 sv (gr_ m x 3) c L → gr_ m2 (gr_ m2 (gr_ m x 3) 1) w = gr_ m (gr_ m (gr_ m x 3) 1) w → w < L.length → L.getD w 0 = o) ∧ am_ca sa sv (d + 6) 238 [.ref (gr_ m o 1), .ref r] m = some (.inl (some (.int (nI 1))), m1) ∧ GS sa m1 sv x b t ow' (srcU s w nn so pc) q l ∧ (∀ y, y < gt_ m → ¬ y = r → ow' y = ow y) ∧ (∀ y, gt_ m1 ≤ y → 300 ≤ ow' y) ∧ Ex (fun _ => True) 1 160 m m1 := by
  have hC := h.wg.C
  have hW := h.wg.1.2.1
  have hG1 := h.gl.1
  have hna := h.na
  have hnd := h.nd
  have hKs := h.ks
  obtain ⟨y1', y2'⟩ := h.gl.2 w hw
  have hRT : RT m ow (owu ow r (107 + 10 * w + nn)) := owu_RT hr3
  have h' := h.rt hRT
  obtain ⟨L1, a1, a2, a3⟩ := h'.ws.wk
  have hwL : w < L1.length := by omega
  have hWO := a3 w hwL
  have hWO' := hWO
  obtain ⟨o1, o2, ⟨Ls, p1, p2, p3⟩, ⟨Lo, q1, q2, q3⟩⟩ := hWO'
  have a1' := a1
  obtain ⟨⟨c1, hc1⟩, tg1, _⟩ := a1'
  have hel : am_el m 10 r ∧ r < gt_ m := ⟨⟨hr0, .inr (.inl ⟨rfl, .inr (.inl (by rw [kr]))⟩)⟩, hrl⟩
  obtain ⟨m1, e2, LW1, X1⟩ := q1.app (sa := sa) (d := d) hel (by omega) hKs.2.1 hKs.1
  have q1' := q1
  obtain ⟨⟨c2, hc2⟩, tg2, _⟩ := q1'
  have g1 := X1.1.gt
  have c1' : cN (srcU s w nn so pc) 1 = cN s 1 := cN_cg (srcU_lo (by omega))
  have v59 : srcU s w nn so pc (59 + 48 * w) = nI (nn + 1) := if_pos rfl
  have c59 : cN (srcU s w nn so pc) (59 + 48 * w) = nn + 1 := cN_ v59 (by omega)
  have v60 : srcU s w nn so pc (60 + 48 * w + nn) = nI so := by
    unfold srcU
    rw [if_neg (by omega), if_pos rfl]
  have v63 : srcU s w nn so pc (63 + 48 * w + nn) = nI pc := by
    unfold srcU
    rw [if_neg (by omega), if_neg (by omega), if_pos rfl]
  have vlo : ∀ k, ¬ k = 59 + 48 * w → ¬ k = 60 + 48 * w + nn → ¬ k = 63 + 48 * w + nn → srcU s w nn so pc k = s k := fun k h1 h2 h3 => by
    unfold srcU
    rw [if_neg h1, if_neg h2, if_neg h3]
  have hT : ∀ u, (u = 103 + 10 * w ∨ u = 103 + 10 * w + 1) → 103 + 10 * w ≤ u ∧ u < 105 + 10 * w := fun u hu => by omega
  have nT : ∀ u, (u < 103 + 10 * w ∨ 105 + 10 * w ≤ u) → ¬ (u = 103 + 10 * w ∨ u = 103 + 10 * w + 1) := fun u h1 h2 => by omega
  generalize hW' : owe (owu ow r (107 + 10 * w + nn)) (gt_ m) (gr_ m1 (gr_ m (L1.getD w 0) 1) 1) (103 + 10 * w + 1) = ow' at LW1 X1
  have hnh : ∀ v k, v < cN s 1 → k < cN s (18 + 48 * v) → cN s (23 + 48 * v + k) < 5 := fun v k h1 h2 => ((ww_nh hW v k h1 h2).1.c (by decide)).2
  have rR : RW m1 ow' r (107 + 10 * w + nn) 2 (fun j => srcU s w nn so pc (60 + 48 * w + 3 * j + nn)) := by
    have R0 : RW m (owu ow r (107 + 10 * w + nn)) r (107 + 10 * w + nn) 2 (gi_ m r) := ⟨kr, ⟨by unfold owu; rw [if_pos rfl], hrl, hr0⟩, fun _ _ => rfl⟩
    obtain ⟨z1, z2, z3⟩ := R0.xt X1 (nT _ (by omega))
    refine ⟨z1, z2, fun j hj => (z3 j hj).trans ?_⟩
    show gi_ m r j = srcU s w nn so pc (60 + 48 * w + 3 * j + nn)
    by_cases e0 : j = 0
    · rw [e0, hR0, show 60 + 48 * w + 3 * 0 + nn = 60 + 48 * w + nn by omega, v60]
    · have e1 : j = 1 := by omega
      rw [e1, hR1, show 60 + 48 * w + 3 * 1 + nn = 63 + 48 * w + nn by omega, v63]
  have oX : gr_ m1 (L1.getD w 0) = gr_ m (L1.getD w 0) := X1.1.r o2.2.1 (X1.no o2.2.1 (.inr (.inr (.inr (.inr (.inl o1))))) (by rw [o2.1]; exact nT _ (by omega)))
  have Ww : WO m1 sv ow' (L1.getD w 0) w (srcU s w nn so pc) := by
    refine ⟨(X1.1.k o2.2.1).trans o1, o2.xt X1, ⟨Ls, by rw [oX]; exact (p1.xt X1 (nT _ (by omega)) (nT _ (by omega))).1, by rw [cN_cg (vlo (18 + 48 * w) (by omega) (by omega) (by omega))]; exact p2, fun k hk => ?_⟩, ⟨Lo ++ [r], by rw [oX]; exact LW1, by rw [List.length_append, q2, hn, c59]; rfl, fun i hi => ?_⟩⟩
    · obtain ⟨z1, z2, z3⟩ := (p3 k hk).xt X1 (nT _ (by omega))
      have h5 := hnh w k hw (by omega)
      rw [cN_cg (vlo (23 + 48 * w + k) (by omega) (by omega) (by omega))]
      refine ⟨z1, z2, fun j hj => (z3 j hj).trans ?_⟩
      show (if j = 0 then s (19 + 48 * w + k) else if j % 2 = 1 then s (27 + 48 * w + 4 * k + j / 2) else s (43 + 48 * w + 4 * k + (j / 2 - 1))) = (if j = 0 then srcU s w nn so pc (19 + 48 * w + k) else if j % 2 = 1 then srcU s w nn so pc (27 + 48 * w + 4 * k + j / 2) else srcU s w nn so pc (43 + 48 * w + 4 * k + (j / 2 - 1)))
      rw [vlo (19 + 48 * w + k) (by omega) (by omega) (by omega), vlo (27 + 48 * w + 4 * k + j / 2) (by omega) (by omega) (by omega), vlo (43 + 48 * w + 4 * k + (j / 2 - 1)) (by omega) (by omega) (by omega)]
    · rw [List.length_append, q2, hn] at hi
      have hi : i < nn + 1 := hi
      by_cases ei : i < nn
      · obtain ⟨z1, z2, z3⟩ := (q3 i (by omega)).xt X1 (nT _ (by omega))
        rw [app_n, if_pos (by omega)]
        exact ⟨z1, z2, fun j hj => (z3 j hj).trans (vlo _ (by omega) (by omega) (by omega)).symm⟩
      · have ei1 : i = nn := by omega
        rw [app_n, if_neg (by omega), show i - Lo.length = 0 by omega, ei1]
        exact rR
  have W1 : WS m1 sv x ow' (srcU s w nn so pc) q := by
    refine h'.ws.grow X1 (fun u hu => by have := hT u hu; omega) (fun k hk _ _ _ => srcU_lo hk) (fun _ _ => rfl) ⟨L1, (a1.xt X1 (nT _ (by omega)) (nT _ (by omega))).1, by rw [c1']; exact a2, fun v hv => ?_⟩ (h'.ws.asx X1 (fun u hu => by have := hT u hu; omega) (by omega) (fun k hk => vlo k (by omega) (by omega) (by omega))) (h'.ws.adx X1 (fun u hu => by have := hT u hu; omega) (by omega) (fun k hk => vlo k (by omega) (by omega) (by omega)))
    by_cases ev : v = w
    · rw [ev]
      exact Ww
    · obtain ⟨y1, y2⟩ := h.gl.2 v (by omega)
      refine ((a3 v hv).xt X1 (fun k hk => nT _ (by omega)) y1 y2).cg2 (by omega) (by omega) (fun k hk => hnh v k (by omega) hk) (fun k h1 h2 => ?_)
      exact vlo k (by omega) (by omega) (by omega)
  obtain ⟨R1, R2, R3⟩ := h'.rest X1.1 (LPa_k q1)
  have hgl : GLm (srcU s w nn so pc) := h.gl.of c1' hw (by rw [cN_cg (vlo (18 + 48 * w) (by omega) (by omega) (by omega))]; exact y1') (by omega) (fun v hv he => ⟨cN_cg (vlo _ (by omega) (by omega) (by omega)), cN_cg (vlo _ (by omega) (by omega) (by omega))⟩)
  refine ⟨L1.getD w 0, m1, ow', o1, tg2.2.2, hc2.1, fun m2 L c hL he hwL2 => ?_, e2, ⟨W1, R1, R2, R3, hgl, wg', sm', by rw [cN_cg (srcU_lo (by omega))]; exact hna, by rw [cN_cg (srcU_lo (by omega))]; exact hnd⟩, fun y hy hne => ?_, fun y hy => ?_, X1.1.mono (fun _ _ _ => trivial) (Nat.le_refl _) (Nat.le_refl _)⟩
  · rw [← hL.2.2.2.2.2.2.1 w hwL2, he, hc1.2.2.2.2.2.2.1 w hwL]
  · rw [X1.2.2.1 y hy]
    exact if_neg hne
  · rw [← hW']
    unfold owe
    have hlt : gr_ m1 (gr_ m (L1.getD w 0) 1) 1 < gt_ m1 := by
      obtain ⟨⟨c', hc'⟩, _⟩ := LW1
      exact hc'.2.2.2.2.2.2.2.2.2.1
    rw [if_neg (by omega), if_neg (Nat.ne_of_gt (Nat.lt_of_lt_of_le hlt hy))]
    exact Nat.le_refl _
end W8
