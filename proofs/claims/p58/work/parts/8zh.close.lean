/-! the World closes a period: the whole -/
section W8
variable {sa sv d x its a B : Nat} {m m1 : am_M} {ow ow' : Nat → Nat} {s : Nat → Int32} {q : Nat → Int64}
/-- other statements -/
theorem WS.st1 {n z : Nat} {L' : List Nat} (h : WS m sv x ow s q) (hC : WC s) (hW : WW s) (hG : GLm s) (hna : cN s 2 ≤ 16) (hnd : cN s 3 ≤ 12) (e0 : Ex (LPa m (gr_ m x 12)) n z m m1) (rs : gr_ m1 sv = gr_ m sv) (how : ∀ b, b < gt_ m → ow' b = ow b) (hL : LW m1 sv ow' (gr_ m x 12) 7 L') (hl : L'.length < 2 ^ 31) (hk : ∀ y, y ∈ L' → (gk_ m1 y).1 = 12) : WS m1 sv x ow' (up1 s 7 (nI L'.length)) q := by
  obtain ⟨L4, g1, g2, g3⟩ := h.st
  have e : Xt m sv ow ow' (fun t => t = 7 ∨ t = 8) (LPa m (gr_ m x 12)) n z m1 := ⟨e0, fun y _ e _ => by
    rcases e with e | ⟨e, e2⟩
    · rw [e]
      exact .inl g1.2.1.1
    · rw [e] at e2 ⊢
      exact .inr (g1.2.2 e2), how, rs⟩
  have nT : ∀ t, ¬ t = 7 → ¬ t = 8 → ¬ (t = 7 ∨ t = 8) := fun t h1 h2 z => by omega
  have np : ¬ LPa m (gr_ m x 12) x := e.no h.x.2.1 (.inr (.inr (.inr (.inr (.inr (.inl h.k)))))) (by rw [h.x.1]; exact nT 0 (by omega) (by omega))
  have rx : gr_ m1 x = gr_ m x := e0.r h.x.2.1 np
  have ix : gi_ m1 x = gi_ m x := e0.i h.x.2.1 np
  have n13 := ((wc_nw hC).c (by decide)).2
  have hG1 := hG.1
  obtain ⟨L1, a1, a2, a3⟩ := h.wk
  obtain ⟨L2, b1, b2, b3⟩ := h.as
  obtain ⟨L3, c1, c2, c3⟩ := h.ad
  obtain ⟨f8, d8⟩ := h.ca
  obtain ⟨f10, d10⟩ := h.cu
  obtain ⟨f11, d11⟩ := h.ea
  obtain ⟨L5, i1, i2⟩ := h.li
  have u : ∀ k, ¬ k = 7 → up1 s 7 (nI L'.length) k = s k := fun k hk => up1_o hk
  have cn : ∀ k, ¬ k = 7 → cN (up1 s 7 (nI L'.length)) k = cN s k := fun k hk => cN_cg (up1_o hk)
  refine ⟨(e0.k h.x.2.1).trans h.k, h.x.xt e, by rw [ix, u _ (by omega)]; exact h.np, by rw [ix, u _ (by omega)]; exact h.day, by rw [ix, u _ (by omega)]; exact h.cl, ⟨L1, ?_, by rw [cn _ (by omega)]; exact a2, fun w hw => ?_⟩, ⟨L2, ?_, by rw [cn _ (by omega)]; exact b2, fun y hy => ?_⟩, ⟨L3, ?_, by rw [cn _ (by omega)]; exact c2, fun y hy => ?_⟩, ?_, ?_, ⟨f8, ?_⟩, ?_, ⟨f10, ?_⟩, ⟨f11, ?_⟩, ⟨L', ?_, by rw [cN_ (show up1 s 7 (nI L'.length) 7 = nI L'.length from up1_s) hl], hk⟩, ⟨L5, ?_, by rw [cn _ (by omega)]; exact i2⟩⟩
  · rw [rx]; exact (a1.xt e (nT _ (by omega) (by omega)) (nT _ (by omega) (by omega))).1
  · obtain ⟨y1, y2⟩ := hG.2 w (by omega)
    exact ((a3 w hw).xt e (fun k hk => nT _ (by omega) (by omega)) y1 y2).cg (by omega) (by omega) (by omega) (fun k hk => ((ww_nh hW w k (by omega) hk).1.c (by decide)).2) (fun k h1 h2 => u _ (by omega))
  · rw [rx]; exact (b1.xt e (nT _ (by omega) (by omega)) (nT _ (by omega) (by omega))).1
  · obtain ⟨z1, z2, z3⟩ := (b3 y hy).xt e (nT _ (by omega) (by omega))
    exact ⟨z1, z2, fun c hc => (z3 c hc).trans (u _ (by omega)).symm⟩
  · rw [rx]; exact (c1.xt e (nT _ (by omega) (by omega)) (nT _ (by omega) (by omega))).1
  · obtain ⟨z1, z2, z3⟩ := (c3 y hy).xt e (nT _ (by omega) (by omega))
    exact ⟨z1, z2, fun c hc => (z3 c hc).trans (u _ (by omega)).symm⟩
  · rw [rx]
    obtain ⟨z1, z2, z3⟩ := h.le.xt e (nT _ (by omega) (by omega))
    exact ⟨z1, z2, fun c hc => (z3 c hc).trans (u _ (by omega)).symm⟩
  · rw [rx]; exact h.ba.xt e (nT _ (by omega) (by omega))
  · rw [rx]; exact d8.xt e (nT _ (by omega) (by omega))
  · rw [rx]; exact h.tot.xt e (nT _ (by omega) (by omega)) (fun p hp => nT _ (by omega) (by omega))
  · rw [rx]; exact d10.xt e (nT _ (by omega) (by omega)) (fun p hp => nT _ (by omega) (by omega))
  · rw [rx]; exact d11.xt e (nT _ (by omega) (by omega)) (fun p hp => nT _ (by omega) (by omega))
  · rw [rx]; exact hL
  · rw [rx]; exact (i1.xt e (nT _ (by omega) (by omega)) (nT _ (by omega) (by omega))).1
/-- a number of the World's own: payees, day, closed -/
theorem WS.own (h : WS m sv x ow s q) (hC : WC s) (hW : WW s) (hG : GLm s) (hna : cN s 2 ≤ 16) (hnd : cN s 3 ≤ 12) {c k : Nat} {v : Int32} (hc : c = 0 ∧ k = 0 ∨ c = 1 ∧ k = 4 ∨ c = 2 ∧ k = 5) : WS (si_ m x c v) sv x ow (up1 s k v) q := by
  have e : Xt m sv ow ow (fun t => t = 0) (fun y => y = x) 0 0 (si_ m x c v) := ⟨(Ex.refl _ _).si (.inr rfl), fun y _ e _ => by rw [e]; exact h.x.1, fun _ _ => rfl, rfl⟩
  have n13 := ((wc_nw hC).c (by decide)).2
  have hG1 := hG.1
  obtain ⟨L1, a1, a2, a3⟩ := h.wk
  obtain ⟨L2, b1, b2, b3⟩ := h.as
  obtain ⟨L3, c1, c2, c3⟩ := h.ad
  obtain ⟨f8, d8⟩ := h.ca
  obtain ⟨f10, d10⟩ := h.cu
  obtain ⟨f11, d11⟩ := h.ea
  obtain ⟨L4, g1, g2, g3⟩ := h.st
  obtain ⟨L5, i1, i2⟩ := h.li
  have u : ∀ j, ¬ j = k → up1 s k v j = s j := fun j hj => up1_o hj
  have cn : ∀ j, ¬ j = k → cN (up1 s k v) j = cN s j := fun j hj => cN_cg (up1_o hj)
  have key : ∀ c' k', (c' = 0 ∧ k' = 0 ∨ c' = 1 ∧ k' = 4 ∨ c' = 2 ∧ k' = 5) → gi_ m x c' = s k' → gi_ (si_ m x c v) x c' = up1 s k v k' := fun c' k' hk' hv => by
    rw [gi_si]
    by_cases e2 : c' = c
    · rw [if_pos ⟨rfl, e2⟩, show k' = k by omega, up1_s]
    · rw [if_neg (fun z => e2 z.2), u _ (by omega), hv]
  refine ⟨h.k, h.x.xt e, key 0 0 (by omega) h.np, key 1 4 (by omega) h.day, key 2 5 (by omega) h.cl, ⟨L1, (a1.xt e (by omega) (by omega)).1, by rw [cn _ (by omega)]; exact a2, fun w hw => ?_⟩, ⟨L2, (b1.xt e (by omega) (by omega)).1, by rw [cn _ (by omega)]; exact b2, fun y hy => ?_⟩, ⟨L3, (c1.xt e (by omega) (by omega)).1, by rw [cn _ (by omega)]; exact c2, fun y hy => ?_⟩, ?_, h.ba.xt e (by omega), ⟨f8, d8.xt e (by omega)⟩, h.tot.xt e (by omega) (fun p hp => by omega), ⟨f10, d10.xt e (by omega) (fun p hp => by omega)⟩, ⟨f11, d11.xt e (by omega) (fun p hp => by omega)⟩, ⟨L4, (g1.xt e (by omega) (by omega)).1, by rw [cn _ (by omega)]; exact g2, g3⟩, ⟨L5, (i1.xt e (by omega) (by omega)).1, by rw [cn _ (by omega)]; exact i2⟩⟩
  · obtain ⟨y1, y2⟩ := hG.2 w (by omega)
    exact ((a3 w hw).xt e (fun k hk => by omega) y1 y2).cg (by omega) (by omega) (by omega) (fun k hk => ((ww_nh hW w k (by omega) hk).1.c (by decide)).2) (fun k h1 h2 => u _ (by omega))
  · obtain ⟨z1, z2, z3⟩ := (b3 y hy).xt e (by omega)
    exact ⟨z1, z2, fun c hc => (z3 c hc).trans (u _ (by omega)).symm⟩
  · obtain ⟨z1, z2, z3⟩ := (c3 y hy).xt e (by omega)
    exact ⟨z1, z2, fun c hc => (z3 c hc).trans (u _ (by omega)).symm⟩
  · obtain ⟨z1, z2, z3⟩ := h.le.xt e (by omega)
    exact ⟨z1, z2, fun c hc => (z3 c hc).trans (u _ (by omega)).symm⟩
theorem spd_np (s : Nat → Int32) (q : Nat → Int64) : ∀ k, spd_ s q (cN s 0 + k) = spd_ s q (cN s 0) := by
  intro k
  induction k with
  | zero => rfl
  | succ k ih =>
    show spd_ s q (cN s 0 + k) + pd_ s q (cN s 0 + k) = _
    have e : pd_ s q (cN s 0 + k) = 0 := by
      unfold pd_
      exact if_neg (fun z => by have := z.1; omega)
    rw [ih, e, Int64.add_zero]
/-- tags for what a closing makes -/
def owc (ow : Nat → Nat) (g y : Nat) : Nat := if y < g then ow y else if g + 12 ≤ y ∧ y < g + 32 ∧ (y - (g + 12)) % 2 = 1 then 30 + (y - (g + 12)) / 2 else 300
/-- and for a list's new row -/
def owe (ow : Nat → Nat) (g e t y : Nat) : Nat := if y < g then ow y else if y = e then t else 300
theorem Ex.mu (m : am_M) (n k : Nat) : Ex NoP (1 + n) (n + n * k) m (mu_ m n k) := ⟨⟨Nat.le_add_right _ _, Nat.le_refl _, Nat.le_refl _, rfl⟩, fun a ha => by
  have hb : ¬ a = gt_ m := by omega
  have hc : ¬ (gt_ m < a ∧ a ≤ gt_ m + n) := by omega
  have hd : ¬ (gt_ m ≤ a ∧ a ≤ gt_ m + n) := by omega
  refine ⟨(if_neg hb).trans (if_neg hc), fun _ => ⟨if_neg hd, if_neg hd, (if_neg hb).trans (if_neg hd)⟩⟩⟩
/-- the list after adding or taking away -/
theorem LV.lw {L L' : List Nat} {n z : Nat} (h : LW m sv ow a 7 L) (e : Ela a n z m m1) (hL : LV m1 sv a L') : LW m1 sv (owe ow (gt_ m) (gr_ m1 a 1) 8) a 7 L' := by
  obtain ⟨⟨c, hc⟩, t1, t2⟩ := h
  have ha := t1.2.1
  have g := e.1.gt
  refine ⟨hL, ⟨by unfold owe; rw [if_pos ha]; exact t1.1, by omega, t1.2.2⟩, fun hk => ?_⟩
  unfold owe
  by_cases y : gr_ m1 a 1 < gt_ m
  · rw [if_pos y]
    rcases e.2 with e2 | e2
    · rw [e2] at hk ⊢
      rw [e.1.k (by rw [← e2]; exact y)] at hk
      exact t2 hk
    · omega
  · rw [if_neg y, if_pos rfl]
theorem x291 (h : WS m sv x ow s q) (hC : WC s) (hW : WW s) (hG : GLm s) (hWK : WK B s) (hB : B < 2 ^ 29) (hK : KS sa m sv) (hg : ge_ m = true) (h0 : 0 < gt_ m) (hna : cN s 2 ≤ 16) (hnd : cN s 3 ≤ 12) (hsv3 : 300 ≤ ow sv) : ∃ M2 ow2, am_ca sa sv (d + 6) 291 [.ref x] m = some (.inl (some (.long (spd_ s q 10))), M2) ∧ WS M2 sv x ow2 (cS_ s) (cQ_ s q) ∧ (∀ b, b < gt_ m → ow2 b = ow b) ∧ Ex (fun y => ow y < 100) 40 400 m M2 := by
  have hsv := hK.1
  have no : ∀ y, ¬ NoP y := fun _ y => y
  have hnp := (wc_np hC).c (by decide)
  have hxl := h.x.2.1
  have hG1 := hG.1
  have hc5 := (wk_c hWK).c (by omega)
  have kmu : gk_ (mu_ m 11 5) (gt_ m) = (12, 11) := if_pos rfl
  have rmu : gr_ (mu_ m 11 5) (gt_ m) 10 = gt_ m + 11 := by
    show (if gt_ m = gt_ m then (fun j => if j < 11 then gt_ m + 1 + j else 0) else _ : Nat → Nat) 10 = _
    rw [if_pos rfl]
    rfl
  have kmr : gk_ (mu_ m 11 5) (gt_ m + 11) = (4, 5) := (if_neg (by omega)).trans (if_pos ⟨by omega, by omega⟩)
  have xmu := Ex.mu m 11 5
  have kxm : gk_ (mu_ m 11 5) x = (1, 12) := (xmu.k hxl).trans h.k
  have x0 : Ex NoP 12 66 m (sl_ (mu_ m 11 5) (gt_ m + 11) 0 (gi_ (mu_ m 11 5) x 1).toInt64) := xmu.sl (.inl (by omega))
  have k0 : gk_ (sl_ (mu_ m 11 5) (gt_ m + 11) 0 (gi_ (mu_ m 11 5) x 1).toInt64) (gt_ m) = (12, 11) := kmu
  have g0 : gt_ (sl_ (mu_ m 11 5) (gt_ m + 11) 0 (gi_ (mu_ m 11 5) x 1).toInt64) = gt_ m + 12 := rfl
  have start : ∀ M0, sl_ (mu_ m 11 5) (gt_ m + 11) 0 (gi_ (mu_ m 11 5) x 1).toInt64 = M0 → am_ca sa sv (d + 6) 291 [.ref x] m = r291 sa sv (d + 5) 24 [some (.ref x), some (.ref (gt_ m)), some (.long (spd_ s q 0)), none, some (.int (nI 0)), none, none] [] M0 := fun M0 e => by
    rw [c291, b291_0, nI_clamp (show 11 < 2 ^ 31 by omega), nI_clamp (show 5 < 2 ^ 31 by omega), nI_clamp (show 10 < 2 ^ 31 by omega), nI_clamp (show 0 < 2 ^ 31 by omega), gq_pos ⟨by decide, by decide, by omega, by omega, hg⟩, kmu, rmu, gq_pos ⟨.inr (.inr (.inr rfl)), in_of (show 10 < 11 by omega) (by omega), by omega⟩, gq_pos kxm, kmr, gq_pos ⟨rfl, in_of (show 0 < 5 by omega) (by omega)⟩, e]
    rfl
  generalize sl_ (mu_ m 11 5) (gt_ m + 11) 0 (gi_ (mu_ m 11 5) x 1).toInt64 = M0 at x0 k0 g0 start
  have hst := start M0 rfl
  have ow1o : ∀ b, b < gt_ m → owc ow (gt_ m) b = ow b := fun b hb => if_pos hb
  have W0 := h.xt (ow' := owc ow (gt_ m)) ⟨x0, fun _ _ y _ => absurd y id, ow1o, x0.r hsv (no _)⟩ (fun t y => absurd y id) (by omega) hG.2 hna hnd
  have hcw0 : ∀ k, k < 50 → cwi s q 0 k = q k := fun k _ => by
    unfold cwi
    rw [if_neg (show ¬ k < 0 by omega), if_neg (show ¬ ((k - 10) % 4 = 3 ∧ (k - 10) / 4 < 0) by omega)]
    split <;> rfl
  have W0' := W0.cgs (s' := s) (q' := cwi s q 0) hC hW hG hna hnd (fun _ _ => rfl) hcw0 rfl
  have oi : 300 ≤ owc ow (gt_ m) (gt_ m) := by
    unfold owc
    rw [if_neg (by omega), if_neg (by omega)]
    exact Nat.le_refl _
  obtain ⟨M1, o5', o6', e1, W1, x1⟩ := x291_24 (sa := sa) (d := d + 5) (its := gt_ m) (g := gt_ m + 12) hC hW hG hna hnd (by omega) (by omega) (by omega) oi (by rw [ow1o _ hsv]; exact hsv3) (fun p hp => by
    unfold owc
    rw [if_neg (by omega), if_pos (by omega), show (gt_ m + 12 + 2 * p + 1 - (gt_ m + 12)) / 2 = p by omega]) (cN s 0) 0 M0 none none (by omega) W0' (by omega) k0 ((x0.k hsv).trans hK.2.1) ((x0.ge).trans hg)
  have x01 : Ex (fun y => CLT (ow y)) (12 + 2 * cN s 0) (66 + 8 * cN s 0) m M1 := (x0.mono (P' := fun y => CLT (ow y)) (fun _ _ z => absurd z id) (Nat.le_refl _) (Nat.le_refl _)).trans x1 (fun b hb z => by
    rcases z with z | z
    · omega
    · rw [ow1o b hb] at z
      exact z)
  generalize owc ow (gt_ m) = ow1 at W0 W0' ow1o W1 x1 oi
  obtain ⟨L4, g1, g2, g3⟩ := W1.st
  have hL5 : L4.length ≤ 5 := by
    rw [g2, cN_ (wk_k hWK) (by omega)]
    omega
  have g01 := x01.gt
  have gx0 := x0.gt
  have gx1 := x1.gt
  have ke1 : gk_ M1 (gt_ m) = (12, 11) := (x1.k (by omega)).trans k0
  have hel : am_el M1 10 (gt_ m) ∧ gt_ m < gt_ M1 := ⟨⟨by omega, .inr (.inl ⟨rfl, .inr (.inr (by rw [ke1]))⟩)⟩, by omega⟩
  have g1' := g1
  obtain ⟨⟨c4, hc4⟩, tg4, t04⟩ := g1'
  obtain ⟨M2, e2, l2, x2⟩ := x239 (sa := sa) (d := d) ⟨c4, hc4⟩ hel (by omega)
  have L2w := LV.lw g1 x2 l2
  have npl : ∀ y, y < gt_ M1 → ¬ (gk_ M1 y).1 = 10 → ¬ gk_ M1 y = (1, 15) → ¬ LPa M1 (gr_ M1 x 12) y := fun y hy h1 h2 z => by
    rcases z with z | ⟨z, z2⟩
    · exact h2 (by rw [z]; exact hc4.1)
    · exact h1 z2
  have hsv1 : sv < gt_ M1 := by omega
  have ks1 : gk_ M1 sv = (0, 0) := (x01.k hsv).trans hK.2.1
  have kx1 : gk_ M1 x = (1, 12) := W1.k
  have rs2 : gr_ M2 sv = gr_ M1 sv := x2.1.r hsv1 (npl sv hsv1 (by rw [ks1]; show ¬ 0 = 10; decide) (by rw [ks1]; decide))
  have W2 := W1.st1 hC hW hG hna hnd x2.1 rs2 (ow' := owe ow1 (gt_ M1) (gr_ M2 (gr_ M1 x 12) 1) 8) (fun b hb => if_pos hb) L2w (by show L4.length + 1 < 2 ^ 31; omega) (fun y hy => by
    rcases List.mem_cons.mp hy with hy | hy
    · rw [hy, x2.1.k hel.2, ke1]
    · rw [x2.1.k (g1.lt hy)]
      exact g3 y hy)
  have ow2o : ∀ b, b < gt_ m → owe ow1 (gt_ M1) (gr_ M2 (gr_ M1 x 12) 1) 8 b = ow b := fun b hb => by
    unfold owe
    rw [if_pos (by omega)]
    exact ow1o b hb
  have hxM1 := W1.x.2.1
  have rx2 : gr_ M2 x = gr_ M1 x := x2.1.r hxM1 (npl x hxM1 (by rw [kx1]; show ¬ 1 = 10; decide) (by rw [kx1]; decide))
  have x02 : Ex (fun y => ow y < 100) (12 + 2 * cN s 0 + 1) (66 + 8 * cN s 0 + 160) m M2 := (x01.mono (P' := fun y => ow y < 100) (fun _ _ z => by unfold CLT at z; omega) (Nat.le_refl _) (Nat.le_refl _)).trans x2.1 (fun b hb z => by
    have y1 := ow1o b hb
    rcases z with z | ⟨z, z2⟩
    · have := g1.2.1.1
      rw [← z] at this
      omega
    · rw [z] at z2
      have := g1.2.2 z2
      rw [← z] at this
      omega)
  generalize owe ow1 (gt_ M1) (gr_ M2 (gr_ M1 x 12) 1) 8 = ow2 at W2 L2w ow2o
  have hlen : ((gt_ m) :: L4).length = cN s 7 + 1 := by
    show L4.length + 1 = _
    rw [g2]
  have hC2 : WC (up1 s 7 (nI ((gt_ m) :: L4).length)) := hC.cg (up1_o (by omega)) (up1_o (by omega)) (up1_o (by omega)) (up1_o (by omega)) (up1_o (by omega)) (up1_o (by omega)) (fun p hp => up1_o (by omega))
  have hW2 : WW (up1 s 7 (nI ((gt_ m) :: L4).length)) := hW.cg hC (up1_o (by omega)) (up1_o (by omega)) (fun k h1 h2 => up1_o (by omega))
  have gl7 : ∀ v : Int32, GLm (up1 s 7 v) := fun v => by
    have c : ∀ k, ¬ k = 7 → cN (up1 s 7 v) k = cN s k := fun k hk => cN_cg (up1_o hk)
    refine ⟨by rw [c _ (by omega)]; exact hG.1, fun w hw => ?_⟩
    rw [c _ (by omega)] at hw
    rw [c _ (by omega), c _ (by omega)]
    exact hG.2 w hw
  have hG2 := gl7 (nI ((gt_ m) :: L4).length)
  have c2 : ∀ k, ¬ k = 7 → cN (up1 s 7 (nI ((gt_ m) :: L4).length)) k = cN s k := fun k hk => cN_cg (up1_o hk)
  have hsp : spd_ s q 10 = spd_ s q (cN s 0) := by
    have := spd_np s q (10 - cN s 0)
    rw [show cN s 0 + (10 - cN s 0) = 10 by omega] at this
    exact this
  have hc7 : cN s 7 = min (cN s 5) 5 := cN_ (wk_k hWK) (by omega)
  have fin : ∀ (M : am_M) (ow3 : Nat → Nat) (n7 : Nat), n7 = min (cN s 5 + 1) 5 → WS M sv x ow3 (up1 s 7 (nI n7)) (cwi s q (cN s 0)) → WS (si_ M x 2 (gi_ M x 2 + nI 1)) sv x ow3 (cS_ s) (cQ_ s q) := fun M ow3 n7 h7 W => by
    have c3 : ∀ k, ¬ k = 7 → cN (up1 s 7 (nI n7)) k = cN s k := fun k hk => cN_cg (up1_o hk)
    have hC3 : WC (up1 s 7 (nI n7)) := hC.cg (up1_o (by omega)) (up1_o (by omega)) (up1_o (by omega)) (up1_o (by omega)) (up1_o (by omega)) (up1_o (by omega)) (fun p hp => up1_o (by omega))
    have hW3 : WW (up1 s 7 (nI n7)) := hW.cg hC (up1_o (by omega)) (up1_o (by omega)) (fun k h1 h2 => up1_o (by omega))
    have hv : gi_ M x 2 + nI 1 = nI (cN s 5 + 1) := by rw [W.cl, up1_o (by omega), hc5.1, nI_add]
    have W3 := W.own hC3 hW3 (gl7 _) (by rw [c3 _ (by omega)]; exact hna) (by rw [c3 _ (by omega)]; exact hnd) (c := 2) (k := 5) (v := nI (cN s 5 + 1)) (.inr (.inr ⟨rfl, rfl⟩))
    rw [hv]
    have hC4 : WC (up1 (up1 s 7 (nI n7)) 5 (nI (cN s 5 + 1))) := hC3.cg (up1_o (by omega)) (up1_o (by omega)) (up1_o (by omega)) (up1_o (by omega)) (up1_o (by omega)) (up1_o (by omega)) (fun p hp => up1_o (by omega))
    have hW4 : WW (up1 (up1 s 7 (nI n7)) 5 (nI (cN s 5 + 1))) := hW3.cg hC3 (up1_o (by omega)) (up1_o (by omega)) (fun k h1 h2 => up1_o (by omega))
    have c4 : ∀ k, ¬ k = 7 → ¬ k = 5 → cN (up1 (up1 s 7 (nI n7)) 5 (nI (cN s 5 + 1))) k = cN s k := fun k h1 h2 => (cN_cg (up1_o h2)).trans (c3 k h1)
    have hG4 : GLm (up1 (up1 s 7 (nI n7)) 5 (nI (cN s 5 + 1))) := by
      refine ⟨by rw [c4 _ (by omega) (by omega)]; exact hG.1, fun w hw => ?_⟩
      rw [c4 _ (by omega) (by omega)] at hw
      rw [c4 _ (by omega) (by omega), c4 _ (by omega) (by omega)]
      exact hG.2 w hw
    have hcs : ∀ k, k < 762 → cS_ s k = up1 (up1 s 7 (nI n7)) 5 (nI (cN s 5 + 1)) k := fun k hk => by
      unfold cS_
      by_cases e5 : k = 5
      · rw [if_pos e5, e5, up1_s]
      · rw [if_neg e5, up1_o e5]
        by_cases e7 : k = 7
        · rw [if_pos e7, e7, up1_s, h7]
        · rw [if_neg e7, up1_o e7, if_neg (by omega), if_neg (by omega)]
    refine W3.cgs hC4 hW4 hG4 (by rw [c4 _ (by omega) (by omega)]; exact hna) (by rw [c4 _ (by omega) (by omega)]; exact hnd) hcs (fun k hk => ?_) (cN_cg (hcs 6 (by omega)))
    unfold cQ_ cwi
    have hz : ∀ p, cN s 0 ≤ p → pd_ s q p = 0 := fun p hp => by
      unfold pd_
      exact if_neg (fun z => by have := z.1; omega)
    by_cases e1 : k < 10
    · rw [if_pos e1, if_pos e1]
      by_cases e2 : k < cN s 0
      · rw [if_pos e2]
      · rw [if_neg e2, hz k (by omega), Int64.sub_zero]
    · rw [if_neg e1, if_neg e1, if_pos hk]
      by_cases e2 : (k - 10) % 4 = 3
      · rw [if_pos e2]
        by_cases e3 : (k - 10) / 4 < cN s 0
        · rw [if_pos ⟨e2, e3⟩]
        · rw [if_neg (fun z => e3 z.2), hz _ (by omega), Int64.add_zero]
      · rw [if_neg e2, if_neg (fun z => e2 z.1)]
  have l2' := l2
  obtain ⟨c5, hc5'⟩ := l2'
  have e3 := x233 (sa := sa) (sv := sv) (d := d + 4) hc5'
  have hrun : am_ca sa sv (d + 6) 291 [.ref x] m = gb_ (nI ((gt_ m) :: L4).length ≤ nI 5) (some (.inl (some (.long (spd_ s q (cN s 0)))), si_ M2 x 2 (gi_ M2 x 2 + nI 1))) (am_cr (am_ca sa sv (d + 5) 240 [.ref (gr_ M1 x 12), .int (nI 5)] M2) (fun v5 m4 => gq_ ((gk_ m4 v5).1 = 12 ∧ (12 = 1 → (gk_ m4 v5).2 = 0)) (gq_ (gk_ m4 x = (1, 12)) (gq_ (gk_ m4 x = (1, 12)) (some (.inl (some (.long (spd_ s q (cN s 0)))), si_ m4 x 2 (gi_ m4 x 2 + nI 1)))))) am_xg) := by
    rw [hst, e1, b291_24, gq_pos kx1, W1.np, hnp.1, gb_pos (by rw [nI_leI (by omega) (by omega)]; exact Nat.le_refl _), gq_pos ⟨kx1, tg4.2.2⟩, gq_pos hc4.1, e2, c0_v, rx2, gq_pos ⟨W2.k, tg4.2.2⟩, gq_pos hc5'.1, e3, ci_v, gq_pos W2.k, gq_pos W2.k, rx2, gq_pos ⟨W2.k, tg4.2.2⟩, gq_pos hc5'.1]
  by_cases q5 : ((gt_ m) :: L4).length ≤ 5
  · refine ⟨_, ow2, ?_, fin M2 ow2 _ (by rw [hlen]; omega) W2, ow2o, ?_⟩
    · rw [hrun, gb_pos (by rw [nI_leI (by omega) (by omega)]; exact q5), hsp]
    · exact (x02.si (.inr (by rw [h.x.1]; omega))).mono (fun _ _ z => z) (by omega) (by omega)
  · have hsplit : ∃ l y, (gt_ m) :: L4 = l ++ [y] ∧ l.length = 5 := by
      refine ⟨((gt_ m) :: L4).dropLast, ((gt_ m) :: L4).getLast (by simp), (List.dropLast_concat_getLast _).symm, ?_⟩
      rw [List.length_dropLast]
      omega
    obtain ⟨l, y, hly, hl5⟩ := hsplit
    rw [hly] at hc5' W2 L2w
    obtain ⟨M3, y', e4, ey, l3, x3⟩ := x240 (sa := sa) (d := d + 2) hc5'
    rw [hl5] at e4
    have L3w := LV.lw (m := M2) (m1 := M3) (a := gr_ M1 x 12) L2w x3 ⟨c5, l3⟩
    have hym : y ∈ (gt_ m) :: L4 := by rw [hly]; exact List.mem_append.mpr (.inr (List.mem_singleton.mpr rfl))
    have hkm : ∀ b, b ∈ l ++ [y] → b < gt_ M2 ∧ (gk_ M2 b).1 = 12 := fun b hb => by
      refine ⟨L2w.lt hb, ?_⟩
      obtain ⟨L9, u1, u2, u3⟩ := W2.st
      rw [rx2] at u1
      have hb' : b ∈ (gt_ m) :: L4 := by rw [hly]; exact hb
      rcases List.mem_cons.mp hb' with hb' | hb'
      · rw [hb', x2.1.k hel.2, ke1]
      · rw [x2.1.k (g1.lt hb')]
        exact g3 b hb'
    have g2' := x2.1.gt
    have hsv2 : sv < gt_ M2 := by omega
    have npl2 : ∀ y, ¬ (gk_ M2 y).1 = 10 → ¬ gk_ M2 y = (1, 15) → ¬ LPa M2 (gr_ M1 x 12) y := fun y h1 h2 z => by
      rcases z with z | ⟨z, z2⟩
      · exact h2 (by rw [z]; exact hc5'.1)
      · exact h1 z2
    have ks2 : gk_ M2 sv = (0, 0) := (x2.1.k hsv1).trans ks1
    have hxM2 := W2.x.2.1
    have kx2 := W2.k
    have rs3 : gr_ M3 sv = gr_ M2 sv := x3.1.r hsv2 (npl2 sv (by rw [ks2]; show ¬ 0 = 10; decide) (by rw [ks2]; decide))
    have W3 := W2.st1 (ow' := owe ow2 (gt_ M2) (gr_ M3 (gr_ M1 x 12) 1) 8) (L' := l) (by rw [← hly]; exact hC2) (by rw [← hly]; exact hW2) (gl7 _) (by rw [← hly, c2 _ (by omega)]; exact hna) (by rw [← hly, c2 _ (by omega)]; exact hnd) (by rw [rx2]; exact x3.1) rs3 (fun b hb => if_pos hb) (by rw [rx2]; exact L3w) (by omega) (fun b hb => by
      obtain ⟨u1, u2⟩ := hkm b (List.mem_append.mpr (.inl hb))
      rw [x3.1.k u1]
      exact u2)
    have eu : up1 (up1 s 7 (nI (l ++ [y]).length)) 7 (nI l.length) = up1 s 7 (nI l.length) := funext fun k => by
      by_cases e : k = 7
      · rw [e, up1_s, up1_s]
      · rw [up1_o e, up1_o e, up1_o e]
    rw [eu] at W3
    have hy := hkm y (List.mem_append.mpr (.inr (List.mem_singleton.mpr rfl)))
    refine ⟨_, owe ow2 (gt_ M2) (gr_ M3 (gr_ M1 x 12) 1) 8, ?_, fin M3 _ _ (by rw [hl5]; omega) W3, fun b hb => ?_, ?_⟩
    · rw [hrun, gb_neg (by rw [nI_leI (by omega) (by omega)]; exact q5), e4, cr_v, ey, gq_pos ⟨by rw [x3.1.k hy.1]; exact hy.2, fun z => absurd z (by decide)⟩, gq_pos W3.k, gq_pos W3.k, hsp]
    · unfold owe
      rw [if_pos (by omega)]
      exact ow2o b hb
    · have y3 := x02.trans x3.1 (fun b hb z => by
        have y1 := ow2o b hb
        rcases z with z | ⟨z, z2⟩
        · have := L2w.2.1.1
          rw [← z] at this
          omega
        · rw [z] at z2
          have := L2w.2.2 z2
          rw [← z] at this
          omega)
      exact (y3.si (.inr (by rw [h.x.1]; omega))).mono (fun _ _ z => z) (by omega) (by omega)
end W8
