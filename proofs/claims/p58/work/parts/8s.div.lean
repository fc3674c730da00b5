/-! the World divides an income -/
section W8
variable {sa sv d x a b n z : Nat} {m M : am_M} {F : Nat → Nat} {ls : List Ln} {ow : Nat → Nat} {s : Nat → Int32} {q : Nat → Int64}
def dl_ (s : Nat → Int32) (day : Nat) (F : Nat → Nat) : Nat → List Ln → List Ln
  | 0, l => l
  | v + 1, l => dl_ s day F v (l ++ shs_ s v (spl_ s v day) (F v - srp_ s v (F v) (cN s (59 + 48 * v))) day (cN s (23 + 48 * v + spl_ s v day)))
theorem dv_dl {s : Nat → Int32} (hC : WC s) (hW : WW s) (day : Nat) : ∀ v st, v ≤ cN s 1 → (dv_ s day v st).2 = dl_ s day (cm_ s v st.1) v st.2 := by
  have n13 := ((wc_nw hC).c (by decide)).2
  intro v
  induction v with
  | zero => intro st _; rfl
  | succ v ih =>
    intro st hv
    have e1 : (wk_ s day v st).1 = sra_ s v (st.1 v) (cN s (59 + 48 * v)) st.1 := by
      unfold wk_
      by_cases e : st.1 v = 0
      · rw [if_pos e, e, sra_0]
      · rw [if_neg e]
    have e2 : (wk_ s day v st).2 = st.2 ++ shs_ s v (spl_ s v day) (st.1 v - srp_ s v (st.1 v) (cN s (59 + 48 * v))) day (cN s (23 + 48 * v + spl_ s v day)) := by
      unfold wk_
      by_cases e : st.1 v = 0
      · rw [if_pos e, e, Nat.zero_sub, shs_0, List.append_nil]
      · rw [if_neg e]
    have e3 : cm_ s v (sra_ s v (st.1 v) (cN s (59 + 48 * v)) st.1) v = st.1 v := by
      rw [cm_ge hW v _ (Nat.le_refl _) (by omega), sra_ge s v (st.1 v) st.1 v _ (fun i hi y => ?_)]
      have := isN_lt (ww_ow hW v i (by omega) hi) (by omega)
      omega
    rw [dv_, ih _ (by omega), e1, e2, dl_, cm_, e3]
theorem dv_top (s : Nat → Int32) (day w A : Nat) : ∀ k, dv_ s day (w + 1 + k) (fun u => if u = w then A else 0, []) = dvd_ s day w A := by
  intro k
  induction k with
  | zero => rfl
  | succ k ih =>
    rw [show w + 1 + (k + 1) = (w + 1 + k) + 1 from rfl, dv_]
    have e : wk_ s day (w + 1 + k) (fun u => if u = w then A else 0, []) = (fun u => if u = w then A else 0, []) := by
      unfold wk_
      rw [if_pos (show (if w + 1 + k = w then A else 0) = 0 from if_neg (by omega))]
    rw [e, ih]
theorem x289_w (h : WS m sv x ow s q) (hA : WA s) (hC : WC s) (hW : WW s) (hG : GLm s) (hsv : sv < gt_ m) (h0 : 0 < gt_ m) (hna : cN s 2 ≤ 3) {day : Nat} (hday : day < 2 ^ 20) (hF : ∀ u, u < cN s 1 → F u ≤ 9999998) (l1 l2 : Int32) : ∀ (v n z : Nat) (ls : List Ln) (M : am_M) (o7 o8 o9 o10 o11 o12 o13 o14 : Option Value), v ≤ cN s 1 → AL m M sv a b (cN s 1) F ls n z → ls.length + 16 * v + 4 < 100 → ∃ M2, r289 sa sv (d + 6) 30 [some (.ref x), some (.int l1), some (.int l2), some (.int (nI day)), some (.ref a), some (.ref b), some (.int (nI v - nI 1)), o7, o8, o9, o10, o11, o12, o13, o14] [] M = some (.inl (some (.ref a)), M2) ∧ AL m M2 sv a b (cN s 1) F (dl_ s day F v ls) (n + 38 * v) (z + 2648 * v) := by
  obtain ⟨L, ⟨⟨c, hc⟩, a1, a0⟩, a2, a3⟩ := h.wk
  have no : ∀ y, ¬ NoP y := fun _ y => y
  have hz : ¬ gr_ m x 3 = 0 := a1.2.2
  have n13 := ((wc_nw hC).c (by decide)).2
  have hxl := h.x.2.1
  intro v
  induction v with
  | zero =>
    intro n z ls M o7 o8 o9 o10 o11 o12 o13 o14 hv hAL hl
    exact ⟨M, by rw [b289_30, gb_pos (by decide)], hAL⟩
  | succ v ih =>
    intro n z ls M o7 o8 o9 o10 o11 o12 o13 o14 hv hAL hl
    have hvL : v < L.length := by omega
    have hv' : v < cN s 1 := by omega
    have hWO := a3 v hvL
    have hWO' := hWO
    obtain ⟨w1, w2, ⟨Ls, ⟨⟨cs, hcs⟩, p1, p0⟩, p2, p3⟩, ⟨Lo, ⟨⟨co, hco⟩, q1, q0⟩, q2, q3⟩⟩ := hWO'
    obtain ⟨hsp0, hsp1⟩ := ww_ns hW v hv'
    obtain ⟨g1, g2⟩ := hG.2 v hv'
    have e := hAL.1
    obtain ⟨hc1, r1, i1⟩ := hc.no e hsv
    have rx : gr_ M x = gr_ m x := e.r hxl (no _)
    have kx : gk_ M x = (1, 12) := (e.k hxl).trans h.k
    have e0 := x236 (sa := sa) (d := d + 3) hc1 hvL
    have ko : gk_ M (L.getD v 0) = (1, 11) := (e.k w2.2.1).trans w1
    have ro : gr_ M (L.getD v 0) = gr_ m (L.getD v 0) := e.r w2.2.1 (no _)
    have hz1 : ¬ gr_ m (L.getD v 0) 1 = 0 := q1.2.2
    obtain ⟨ka, M1, e1, I1, f1, gg, x1⟩ := it_new2 (sa := sa) (d := d + 4) hco (Nat.pos_of_ne_zero hz1) hsv e
    have A1 := hAL.new x1 hsv
    obtain ⟨_, _, _, _, _, kb, vb⟩ := hAL
    have hb := vb v hv'
    obtain ⟨M2, o9', k2, e2, e3, A2⟩ := x289_r (sa := sa) (d := d + 4) (x := x) (day := nI day) hC hW hsv hv' hWO (hF v hv') rfl hv' l1 l2 (cN s (59 + 48 * v)) 0 _ _ (gt_ M) M1 o9 o10 o11 o12 o13 o14 (by omega) gg I1 A1 (by omega)
    rw [show srp_ s v (F v) 0 = 0 from rfl, Nat.sub_zero] at e3
    have f2 := A2.1
    have W2 := hWO.xt (f2.xt0 (ow := ow) hsv) (fun k _ y => y) g1 g2
    have gt2 : sv < gt_ M2 := by
      have := f2.gt
      omega
    obtain ⟨M3, r, e4, f4, R4, re⟩ := x274 (sa := sa) (d := d + 2) W2 gt2 hsp1 (fun k hk => ⟨((ww_dk hW v k hv' hk).c (by decide)).1, by have := ((ww_dk hW v k hv' hk).c (by decide)).2; omega, by have := ((ww_nh hW v k hv' hk).1.c (by decide)).2; omega⟩) hday
    have hspl := spl_lt hW v day hv'
    have ro2 : gr_ M2 (L.getD v 0) = gr_ m (L.getD v 0) := f2.r w2.2.1 (no _)
    obtain ⟨hcs2, rs2, is2⟩ := hcs.no f2 hsv
    have hre : r = Ls.getD (spl_ s v day) 0 := by
      rw [re, ro2]
      exact hcs2.2.2.2.2.2.2.1 _ (by omega)
    have R := p3 (spl_ s v day) (by omega)
    rw [← hre] at R
    have A3 := A2.new f4 hsv
    have f3 := A3.1
    have hrest : F v - srp_ s v (F v) (cN s (59 + 48 * v)) ≤ 9999998 := by
      have := hF v hv'
      omega
    have e5 := x289_c (sa := sa) (sv := sv) (d := d + 6) (x := x) (a := a) (b := b) (day := nI day) hC hW hv' hspl R hrest f3 l1 l2 (nI v) o11 o12 o13 o14 (cN s (23 + 48 * v + spl_ s v day)) 0 (by omega)
    rw [show sum_ (shp_ s v (spl_ s v day) (F v - srp_ s v (F v) (cN s (59 + 48 * v)))) 0 = 0 from rfl, Nat.sub_zero, show 2 * 0 + 1 = 1 from rfl] at e5
    have hN4 := ((ww_nh hW v (spl_ s v day) hv' hspl).1.c (by omega)).2
    have hmul : (cN s (23 + 48 * v + spl_ s v day) + 1) * (cN s 2 + 1) ≤ 5 * 4 := Nat.mul_le_mul (by omega) (by omega)
    obtain ⟨M4, l10, p11, p12, p13, p14, e6, A4⟩ := x289_s (sa := sa) (d := d) (ls := ls) h hA hC hW hsv h0 hv' hspl R hday hrest l1 l2 (cN s (23 + 48 * v + spl_ s v day)) 0 _ _ M3 o11 o12 o13 o14 (by omega) (by rw [show shs_ s v (spl_ s v day) (F v - srp_ s v (F v) (cN s (59 + 48 * v))) day 0 = [] from rfl, List.append_nil]; exact A3) (by omega)
    rw [show 2 * 0 + 1 = 1 from rfl] at e6
    have hsl := shs_le s v (spl_ s v day) (F v - srp_ s v (F v) (cN s (59 + 48 * v))) day (cN s (23 + 48 * v + spl_ s v day))
    have hm2 : cN s (23 + 48 * v + spl_ s v day) * (cN s 2 + 1) ≤ 4 * 4 := Nat.mul_le_mul (by omega) (by omega)
    have hm3 : cN s (23 + 48 * v + spl_ s v day) * (2 * cN s 2 + 3) ≤ 4 * 9 := Nat.mul_le_mul (by omega) (by omega)
    have hm4 : cN s (23 + 48 * v + spl_ s v day) * (164 * cN s 2 + 168) ≤ 4 * 660 := Nat.mul_le_mul (by omega) (by omega)
    have A5 := A4.le (n' := n + 38) (z' := z + 2648) (by omega) (by omega)
    obtain ⟨M5, e7, A6⟩ := ih (n + 38) (z + 2648) _ M4 (some (.int (nI (F v - srp_ s v (F v) (cN s (59 + 48 * v)))))) (some (.ref r)) (some (.int (nI (cts_ s v (spl_ s v day) (F v - srp_ s v (F v) (cN s (59 + 48 * v))))))) (some (.int l10)) p11 p12 p13 p14 (by omega) A5 (by rw [List.length_append]; omega)
    refine ⟨M5, ?_, (by rw [dl_]; exact A6.le (by omega) (by omega))⟩
    have rx2 : gr_ M2 x = gr_ m x := f2.r hxl (no _)
    have kx2 : gk_ M2 x = (1, 12) := (f2.k hxl).trans h.k
    obtain ⟨hc2, r22, i22⟩ := hc.no f2 hsv
    have e02 := x236 (sa := sa) (d := d + 3) hc2 hvL
    have ko2 : gk_ M2 (L.getD v 0) = (1, 11) := (f2.k w2.2.1).trans w1
    rw [nI_p1, b289_30, gb_neg (nI_pos (by omega)), kb, gq_pos ⟨.inl rfl, in_of hv' (by omega)⟩, gq_pos ⟨kx, by rw [rx]; exact hz⟩, rx, gq_pos hc1.1, e0, cr_v, ko, gq_pos ⟨rfl, fun _ => rfl⟩, ro, gq_pos ⟨rfl, hz1⟩, gq_pos ka, e1, cr_v, nI_clamp (show v < 2 ^ 31 by omega), hb, e3, b289_66, gq_pos k2, e2, ci_v, gb_pos nI_0, rx2, gq_pos ⟨kx2, hz⟩, gq_pos hc2.1, e02, cr_v, ko2, gq_pos ⟨rfl, fun _ => rfl⟩, gq_pos rfl, e4, cr_v, e5, e6, e7]
end W8
