/-! the World's income: the whole -/
section W8
variable {sa sv d x a b n z : Nat} {m M : am_M} {F : Nat → Nat} {ls : List Ln} {ow : Nat → Nat} {s : Nat → Int32} {q : Nat → Int64}
/-- tags for what is new: a list, its row, the rest -/
def own (ow : Nat → Nat) (g a e y : Nat) : Nat := if y < g then ow y else if y = a then 17 else if y = e then 18 else 300
theorem AL.lw {nw : Nat} (h : AL m M sv a b nw F ls n z) (h0 : 0 < gt_ m) : ∃ Ls, LW M sv (own ow (gt_ m) a (gr_ M a 1)) a 17 Ls ∧ Ls.length = ls.length ∧ Ls.Nodup ∧ (∀ j, j < ls.length → gt_ m ≤ Ls.getD j 0 ∧ own ow (gt_ m) a (gr_ M a 1) (Ls.getD j 0) = 300) ∧ ∀ j y, ls[j]? = some y → gk_ M (Ls.getD j 0) = (2, 4) ∧ gi_ M (Ls.getD j 0) 0 = nI y.1 ∧ gi_ M (Ls.getD j 0) 1 = nI y.2.1 ∧ gi_ M (Ls.getD j 0) 2 = nI y.2.2.1 := by
  obtain ⟨e0, h1, ⟨Ls, ⟨c, hc⟩, h3, h4, h5, h6⟩, h7, h8, h9, h10⟩ := h
  have hc' := hc
  obtain ⟨l1, l3, l4, l5, l6, l7, l8, l9, l10, l11, l12⟩ := hc'
  refine ⟨Ls, ⟨⟨c, hc⟩, ⟨?_, l10, by omega⟩, fun hk => ?_⟩, h3, h4, fun j hj => ?_, fun j y hy => ?_⟩
  · unfold own
    rw [if_neg (by omega), if_pos rfl]
  · have := h6 hk
    unfold own
    rw [if_neg (by omega), if_neg (fun z => hc.nae z.symm), if_pos rfl]
  · have hy : ls[j]? = some ls[j] := List.getElem?_eq_getElem hj
    obtain ⟨r1, r2, r3, r4⟩ := h5 j _ hy
    refine ⟨r1, ?_⟩
    unfold own
    rw [if_neg (by omega), if_neg (fun z => ?_), if_neg (fun z => ?_)]
    · rw [z] at r3
      rcases l5 with y | y
      · rw [y.2.2] at r3
        exact absurd (congrArg (fun q => q.1) r3) (by show ¬ 13 = 2; decide)
      · rw [y.1] at r3
        exact absurd (congrArg (fun q => q.1) r3) (by show ¬ 10 = 2; decide)
    · rw [z, l1] at r3
      exact absurd (congrArg (fun q => q.1) r3) (by show ¬ 1 = 2; decide)
  · obtain ⟨r1, r2, r3, r4, r5, r6, r7⟩ := h5 j y hy
    exact ⟨r3, r4, r5, r6⟩
theorem WC.li (h : WC s) {n : Nat} (hn : n < 65) : WC (up1 s 6 (nI n)) := by
  obtain ⟨a0, a1, a2, a3, a4, a6, a8⟩ := h
  have e : ∀ k, ¬ k = 6 → up1 s 6 (nI n) k = s k := fun k hk => up1_o hk
  refine ⟨?_, ?_, ?_, ?_, ?_, ⟨n, hn, up1_s⟩, fun p hp => ?_⟩
  all_goals rw [e _ (by omega)]
  · exact a0
  · exact a1
  · exact a2
  · exact a3
  · exact a4
  · exact a8 p hp
theorem GLm.li (h : GLm s) {v : Int32} : GLm (up1 s 6 v) := by
  have c : ∀ k, ¬ k = 6 → cN (up1 s 6 v) k = cN s k := fun k hk => cN_cg (up1_o hk)
  refine ⟨by rw [c _ (by omega)]; exact h.1, fun w hw => ?_⟩
  rw [c _ (by omega)] at hw
  rw [c _ (by omega), c _ (by omega)]
  exact h.2 w hw
theorem Nm_z (k : Nat) : Nm (fun _ => 0) (fun _ => 0) (fun _ => 0) (fun _ => 0) k = 0 := by
  unfold Nm
  repeat' split
  all_goals rfl
theorem Nm_b {l : List Ln} {f : Nat → Nat} {k : Nat} (hk : k < 50) : Nm (fun u => og_ s l u l.length) (fun u => eg_ l u l.length) (fun u => dw_ s l u l.length) (wh_ s l l.length).2 k = bN_ s l f k := by
  unfold Nm
  by_cases e : k < 10
  · rw [if_pos e, bN_b0 l f e]
  · have hp : (k - 10) / 4 < 10 := by omega
    have hc : (k - 10) % 4 < 4 := by omega
    have ek : k = 10 + 4 * ((k - 10) / 4) + (k - 10) % 4 := by omega
    have y := bN_t (s := s) l f hp hc
    rw [← ek] at y
    rw [if_neg e, y]
    unfold bA2
    by_cases c0 : (k - 10) % 4 = 0
    · rw [if_pos c0, if_pos c0, if_neg (by omega)]
      rfl
    · rw [if_neg c0, if_neg c0]
      by_cases c1 : (k - 10) % 4 = 1
      · rw [if_pos c1, if_pos c1, if_neg (by omega)]
        rfl
      · rw [if_neg c1, if_neg c1]
        by_cases c2 : (k - 10) % 4 = 2
        · rw [if_pos c2, Nat.zero_add]
        · rw [if_neg c2]
theorem x290 (h : WS m sv x ow s q) (hA : WA s) (hC : WC s) (hW : WW s) (hD : WD s) (hG : GLm s) (hK : KS sa m sv) (hg : ge_ m = true) (h0 : 0 < gt_ m) (hna : cN s 2 ≤ 3) (hnd : cN s 3 ≤ 12) (hsv3 : 300 ≤ ow sv) {w A : Nat} (hw : w < cN s 1) (hA9 : A ≤ 9999998) : ∃ M2 ow2, am_ca sa sv (d + 8) 290 [.ref x, .int (nI w), .int (nI A)] m = some (.inl (some (.int (nI (dvd_ s (cN s 4) w A).2.length))), M2) ∧ WS M2 sv x ow2 (bS_ s (dvd_ s (cN s 4) w A).2) (bQ_ s (dvd_ s (cN s 4) w A).2 (dvd_ s (cN s 4) w A).1 q) ∧ (∀ b, b < gt_ m → ow2 b = ow b) ∧ Ex (fun y => ow y < 100) 400 30000 m M2 := by
  have hsv := hK.1
  have no : ∀ y, ¬ NoP y := fun _ y => y
  have n13 := ((wc_nw hC).c (by decide)).2
  have hday := (wc_day hC).c (by decide)
  have hG1 := hG.1
  have hxl := h.x.2.1
  obtain ⟨m1, b2, e1, x1, k1, gb1, gb2, v1⟩ := x288 (sa := sa) (d := d + 3) h hC hW hsv hg hw (show A ≤ 9999999 by omega)
  have W1 := h.xt (x1.xt0 (ow := ow) hsv) (fun t y => absurd y id) (by omega) hG.2 (by omega) hnd
  obtain ⟨m2, e2, W2, k2, x2, r2, i2, g2⟩ := x290_10 (sa := sa) (d := d + 7) hC hW hG (nI w) (nI A) none none none none none (cN s 1) 0 m1 (by omega) W1 k1
  have g1 := x1.gt
  have x12 : Ex (fun y => y = gr_ m x 8) (1 + cN s 1 + 0) (5 * cN s 1 + 0) m m2 := by
    have y : gr_ m1 x = gr_ m x := x1.r hxl (no _)
    have z := (x1.mono (P' := fun y => y = gr_ m x 8) (fun _ _ y => absurd y id) (Nat.le_refl _) (Nat.le_refl _)).trans x2 (fun b _ z => by rw [y] at z; exact z)
    exact z
  obtain ⟨f8, d8⟩ := h.ca
  have K2 : KS sa m2 sv := hK.ex x12 (fun y _ z => by
    rw [z, d8.1]
    exact ⟨by show ¬ 4 = 0; decide, by show ¬ 4 = 8; decide, by show ¬ 4 = 9; decide⟩)
  have ge2 : ge_ m2 = true := (x12.ge).trans hg
  have h02 : 0 < gt_ m2 := by omega
  have hsv2 : sv < gt_ m2 := by omega
  obtain ⟨M3, a, b', e3, A3⟩ := x289 (sa := sa) (d := d) W2 hA hC hW hG K2 ge2 h02 hna hnd hw (show cN s 4 < 2 ^ 20 by omega) hA9
  obtain ⟨Ls, LW3, hLl, hLn, hLo, hLr⟩ := A3.lw (ow := ow) h02
  have x3 := A3.1
  have hda := A3.2.1
  generalize hl : (dvd_ s (cN s 4) w A).2 = l at A3 LW3 hLl hLn hLo hLr
  have hf : (dvd_ s (cN s 4) w A).1 = (dvd_ s (cN s 4) w A).1 := rfl
  generalize ho1 : own ow (gt_ m2) a (gr_ M3 a 1) = ow1 at LW3 hLo
  have ow1o : ∀ b, b < gt_ m2 → ow1 b = ow b := fun b hb => by
    rw [← ho1]
    exact if_pos hb
  have X3 : Xt m2 sv ow ow1 NoP NoP 200 20000 M3 := ⟨x3, fun _ _ y _ => absurd y id, ow1o, x3.r hsv2 (no _)⟩
  have W3 := W2.xt X3 (fun t y => absurd y id) (by omega) hG.2 (by omega) hnd
  have hl64 : l.length ≤ 64 := by rw [← hl]; exact dvd_64 hC hW _ w A hw
  have hsx : ¬ sv = x := fun z => by
    have := h.k
    rw [← z, hK.2.1] at this
    exact absurd (congrArg (fun q => q.1) this) (by show ¬ 0 = 1; decide)
  have W4 := W3.li1 hC hW hG (by omega) hnd hsx LW3 (by omega)
  have r13 : gr_ (sr_ M3 x 13 a) x 13 = a := by rw [gr_sr, if_pos ⟨rfl, rfl⟩]
  have hx1 : ow1 x = 0 := W3.x.1
  have LW4 : LW (sr_ M3 x 13 a) sv ow1 a 17 Ls := (LW3.xt (P := fun y => y = x) (T := fun t => t = 0) (n := 0) (z := 0) ⟨(Ex.refl _ _).sr (.inr rfl), fun y _ e _ => by rw [e]; exact hx1, fun _ _ => rfl, funext fun k => by rw [gr_sr, if_neg (fun z => hsx z.1)]⟩ (by omega) (by omega)).1
  generalize hM4 : sr_ M3 x 13 a = M4 at W4 r13 LW4
  have kM4 : gk_ M4 = gk_ M3 := by rw [← hM4]; rfl
  have iM4 : gi_ M4 = gi_ M3 := by rw [← hM4]; rfl
  have gM4 : gt_ M4 = gt_ M3 := by rw [← hM4]; rfl
  have x4 : Ex (fun y => y = x) 0 0 M3 M4 := by
    rw [← hM4]
    exact (Ex.refl _ _).sr (.inr rfl)
  have g3 := x3.gt
  have hsv4 : sv < gt_ M4 := by omega
  have LW4' := LW4
  obtain ⟨⟨c4, hc4⟩, tg4, t04⟩ := LW4'
  obtain ⟨M5, e5, I5, x5, g5⟩ := x243 (sa := sa) (sv := sv) (d := d + 5) hc4 (Nat.pos_of_ne_zero tg4.2.2)
  have X5 : Xt M4 sv ow1 ow1 NoP NoP 1 4 M5 := x5.xt0 hsv4
  have hC0 : WC (up1 s 6 (nI Ls.length)) := hC.li (by omega)
  have hW0 : WW (up1 s 6 (nI Ls.length)) := hW.cg hC (up1_o (by omega)) (up1_o (by omega)) (fun k h1 h2 => up1_o (by omega))
  have hG0 : GLm (up1 s 6 (nI Ls.length)) := hG.li
  have c02 : cN (up1 s 6 (nI Ls.length)) 2 = cN s 2 := cN_cg (up1_o (by omega))
  have c03 : cN (up1 s 6 (nI Ls.length)) 3 = cN s 3 := cN_cg (up1_o (by omega))
  have W5 := W4.xt X5 (fun t y => absurd y id) (by have := hG0.1; omega) hG0.2 (by omega) (by omega)
  obtain ⟨LW5, ra5⟩ := LW4.xt X5 (no _) (no _)
  have hsd : ∀ k, k < 762 → Sd (up1 s 6 (nI Ls.length)) (wh_ s l 0).1 k = up1 s 6 (nI Ls.length) k := fun k hk => by
    unfold Sd
    by_cases e : 690 ≤ k ∧ k < 762 ∧ (k - 690) % 6 = 5
    · rw [if_pos e, up1_o (by omega)]
      have ek : k = 690 + 6 * ((k - 690) / 6) + 5 := by omega
      show nI (cN s (690 + 6 * ((k - 690) / 6) + 5)) = s k
      rw [← ek]
      by_cases e2 : (k - 690) / 6 < cN s 3
      · have := (wd_o hD _ e2).c (by decide)
        rw [← ek] at this
        exact this.1.symm
      · have := wd_z hD ((k - 690) / 6) (by omega) (by omega)
        rw [← ek] at this
        unfold cN
        rw [this]
        rfl
    · rw [if_neg e]
  have W5' := W5.cgs (s' := Sd (up1 s 6 (nI Ls.length)) (wh_ s l 0).1) (q' := Qn q (Nm (fun u => og_ s l u 0) (fun u => eg_ l u 0) (fun u => dw_ s l u 0) (wh_ s l 0).2)) hC0 hW0 hG0 (by omega) (by omega) hsd (fun k _ => by
    show q k + (nI (Nm (fun _ => 0) (fun _ => 0) (fun _ => 0) (fun _ => 0) k)).toInt64 = q k
    rw [Nm_z, nL_0]) (cN_cg (hsd 6 (by omega)))
  have hit : 300 ≤ ow1 (gt_ M4) := by
    rw [← ho1]
    unfold own
    have l10 : a < gt_ M4 := hc4.2.2.2.2.2.2.2.2.1
    have l11 : gr_ M3 a 1 < gt_ M3 := by
      obtain ⟨⟨c', hc'⟩, _⟩ := LW3
      exact hc'.2.2.2.2.2.2.2.2.2.1
    rw [if_neg (show ¬ gt_ M4 < gt_ m2 by omega), if_neg (Nat.ne_of_gt l10), if_neg (show ¬ gt_ M4 = gr_ M3 a 1 by omega)]
    exact Nat.le_refl _
  have hLlt : ∀ j, j < l.length → Ls.getD j 0 < gt_ M4 := fun j hj => (hc4.2.2.2.2.2.2.2.1 _ (mem_getD (by omega))).2
  have g5' := x5.gt
  obtain ⟨M6, e6, W6, x6⟩ := x290_63 (sa := sa) (d := d + 5) (G := gt_ m2) (s0 := up1 s 6 (nI Ls.length)) hC hW hG hD (fun k hk => up1_o hk) hC0 hW0 hG0 (by omega) hnd (by rw [← hl]; exact Nat.le_trans (dvd_lsm hC hW hA _ w A hw) (by omega)) (by rw [← hl]; exact dvd_GL hC hW hA _ w A hw (by omega)) hLl hLn (fun j hj => ⟨(hLo j hj).1, by rw [(hLo j hj).2]; exact Nat.le_refl _⟩) (show gt_ m2 ≤ gt_ M4 by omega) hit hsv2 (by rw [ow1o _ hsv2]; exact hsv3) (nI w) (nI A) b2 l.length 0 M5 none none none none none (by omega) (by omega) W5' (by rw [x5.r (by have := W4.x.2.1; omega) (no _)]; exact r13) LW5 I5 (fun j y hy _ => by
    obtain ⟨r1, r2', r3, r4⟩ := hLr j y hy
    have hj := hLlt j (List.getElem?_eq_some_iff.mp hy).1
    rw [x5.k hj, x5.i hj (no _), kM4, iM4]
    exact ⟨r1, r2', r3, r4⟩)
  have n3e : cN (Sd (up1 s 6 (nI Ls.length)) (wh_ s l l.length).1) 3 = cN s 3 := (cN_cg (Sd.lo (by omega))).trans c03
  have n2e : cN (Sd (up1 s 6 (nI Ls.length)) (wh_ s l l.length).1) 2 = cN s 2 := (cN_cg (Sd.lo (by omega))).trans c02
  have hbs : ∀ k, k < 762 → bS_ s l k = Sd (up1 s 6 (nI Ls.length)) (wh_ s l l.length).1 k := fun k hk => by
    unfold bS_ Sd
    by_cases e : k = 6
    · rw [if_pos e, if_neg (by omega), e, up1_s, hLl]
    · rw [if_neg e, if_neg (by omega), up1_o e]
  have W7 := W6.cgs (s' := bS_ s l) (q' := bQ_ s l (dvd_ s (cN s 4) w A).1 q) hC0.sd (hW0.sd hC0) hG0.sd (by omega) (by omega) hbs (fun k hk => by
    show q k + (nI (bN_ s l (dvd_ s (cN s 4) w A).1 k)).toInt64 = q k + (nI (Nm _ _ _ _ k)).toInt64
    rw [Nm_b hk]) (cN_cg (hbs 6 (by omega)))
  refine ⟨M6, ow1, ?_, W7, fun b hb => ow1o b (by omega), ?_⟩
  · have kx3 : gk_ M3 x = (1, 12) := W3.k
    rw [c290, b290_0, gq_pos h.k, e1, cr_v, e2, b290_10, k2, k1, gq_pos (by show 2 ≤ 2 ∧ ¬ 2 = 8; decide), gb_pos (by show nI (cN s 1) ≤ nI (cN s 1); rw [nI_leI (by omega) (by omega)]; exact Nat.le_refl _), gq_pos W1.k, gq_pos W1.k, W2.day, hday.1, e3, cr_v, hM4, r13, gq_pos ⟨kx3, tg4.2.2⟩, gq_pos ⟨kx3, tg4.2.2⟩, gq_pos (by rw [← kM4]; exact hc4.1), e5, cr_v, e6]
  · have y1 : Ex (fun y => ow y < 100) (1 + cN s 1 + 0) (5 * cN s 1 + 0) m m2 := x12.mono (fun b _ z => by
      rw [z, d8.2.1.1]
      omega) (Nat.le_refl _) (Nat.le_refl _)
    have y2 := ((y1.trans x3 (fun _ _ z => absurd z id)).trans x4 (fun b _ z => by rw [z, h.x.1]; omega)).trans x5 (fun _ _ z => absurd z id)
    have y3 := y2.trans x6 (fun b hb z => by
      rcases z with z | z
      · omega
      · rw [ow1o b (by omega)] at z
        unfold IVT at z
        omega)
    exact y3.mono (fun _ _ z => z) (by omega) (by omega)
end W8
