/-! the lines of a split's shares -/
section W8
variable {sa sv d x a b nw : Nat} {m M : am_M} {F : Nat → Nat} {ls : List Ln} {ow : Nat → Nat} {s : Nat → Int32} {q : Nat → Int64}
theorem pl_le (s : Nat → Int32) (w p part day : Nat) : (pl_ s w p part day).length ≤ cN s 2 + 1 := by
  have := asg_le s w p part day (cN s 2)
  unfold pl_
  rw [List.length_append]
  split
  · show _ + 1 ≤ _
    omega
  · show _ + 0 ≤ _
    omega
theorem shs_le (s : Nat → Int32) (w k c day : Nat) : ∀ n, (shs_ s w k c day n).length ≤ n * (cN s 2 + 1) := by
  intro n
  induction n with
  | zero => exact Nat.zero_le _
  | succ n ih =>
    have e : (n + 1) * (cN s 2 + 1) = n * (cN s 2 + 1) + (cN s 2 + 1) := Nat.succ_mul _ _
    rw [shs_, List.length_append, e]
    exact Nat.add_le_add ih (pl_le _ _ _ _ _)
/-- a new iterator leaves the lines -/
theorem AL.new {n z : Nat} {M2 : am_M} (h : AL m M sv a b nw F ls n z) (e : Ex NoP 1 4 M M2) (hsv : sv < gt_ m) : AL m M2 sv a b nw F ls (n + 1) (z + 4) := h.keep e (fun y _ q => absurd q id) hsv
theorem x289_s (h : WS m sv x ow s q) (hA : WA s) (hC : WC s) (hW : WW s) (hsv : sv < gt_ m) (h0 : 0 < gt_ m) {w k c day r : Nat} (hw : w < cN s 1) (hk : k < cN s (18 + 48 * w)) (hr : RW m ow r (105 + 10 * w + k) (2 * cN s (23 + 48 * w + k) + 1) (fun j => if j = 0 then s (19 + 48 * w + k) else if j % 2 = 1 then s (27 + 48 * w + 4 * k + j / 2) else s (43 + 48 * w + 4 * k + (j / 2 - 1)))) (hday : day < 2 ^ 20) (hc : c ≤ 9999998) (l1 l2 : Int32) : ∀ (t j n z : Nat) (M : am_M) (o11 o12 o13 o14 : Option Value), j + t = cN s (23 + 48 * w + k) → AL m M sv a b nw F (ls ++ shs_ s w k c day j) n z → ls.length + (cN s (23 + 48 * w + k) + 1) * (cN s 2 + 1) < 100 → ∃ M2 l10 o11' o12' o13' o14', r289 sa sv (d + 6) 171 [some (.ref x), some (.int l1), some (.int l2), some (.int (nI day)), some (.ref a), some (.ref b), some (.int (nI w)), some (.int (nI c)), some (.ref r), some (.int (nI (cts_ s w k c))), some (.int (nI (2 * j + 1))), o11, o12, o13, o14] [] M = r289 sa sv (d + 6) 30 [some (.ref x), some (.int l1), some (.int l2), some (.int (nI day)), some (.ref a), some (.ref b), some (.int (nI w - nI 1)), some (.int (nI c)), some (.ref r), some (.int (nI (cts_ s w k c))), some (.int l10), o11', o12', o13', o14'] [] M2 ∧ AL m M2 sv a b nw F (ls ++ shs_ s w k c day (cN s (23 + 48 * w + k))) (n + t * (2 * cN s 2 + 3)) (z + t * (164 * cN s 2 + 168)) := by
  obtain ⟨L, ⟨⟨cc, hcL⟩, a1, a0⟩, a2, a3⟩ := h.as
  have no : ∀ y, ¬ NoP y := fun _ y => y
  have hz : ¬ gr_ m x 4 = 0 := a1.2.2
  have hz' : 0 < gr_ m x 4 := Nat.pos_of_ne_zero hz
  obtain ⟨r1, r2, r3⟩ := hr
  obtain ⟨_, hN4⟩ := (ww_nh hW w k hw hk).1.c (by omega)
  have hn := ((wc_na hC).c (by decide)).2
  have hn0 := ((wc_np hC).c (by decide)).2
  have hn1 := ((wc_nw hC).c (by decide)).2
  have hct : cts_ s w k c ≤ c := Nat.sub_le _ _
  intro t
  induction t with
  | zero =>
    intro j n z M o11 o12 o13 o14 hj hAL hl
    have hj' : j = cN s (23 + 48 * w + k) := by omega
    subst hj'
    have kr : gk_ M r = (2, 2 * cN s (23 + 48 * w + k) + 1) := (hAL.1.k r2.2.1).trans r1
    refine ⟨M, nI (2 * cN s (23 + 48 * w + k) + 1), o11, o12, o13, o14, ?_, hAL.le (by omega) (by omega)⟩
    rw [b289_171, kr, gq_pos (by show 2 ≤ 2 ∧ ¬ 2 = 8; decide), gb_pos (by show nI (2 * cN s (23 + 48 * w + k) + 1) ≤ _; rw [nI_leI (by omega) (by omega)]; exact Nat.le_refl _), nI_s1]
  | succ t ih =>
    intro j n z M o11 o12 o13 o14 hj hAL hl
    have hjN : j < cN s (23 + 48 * w + k) := by omega
    have e := hAL.1
    have kr : gk_ M r = (2, 2 * cN s (23 + 48 * w + k) + 1) := (e.k r2.2.1).trans r1
    obtain ⟨yp, zp⟩ := (ww_hp hW w k j hw hk hjN).c (by omega)
    obtain ⟨yc, zc⟩ := (ww_hc hW w k j hw hk hjN).1.c (by omega)
    have v1 : gi_ m r (2 * j + 1) = nI (cN s (27 + 48 * w + 4 * k + j)) := by
      refine (r3 (2 * j + 1) (by omega)).trans ?_
      show (if 2 * j + 1 = 0 then _ else if (2 * j + 1) % 2 = 1 then _ else _) = _
      rw [if_neg (by omega), if_pos (by omega), show (2 * j + 1) / 2 = j by omega]
      exact yp
    have v2 : gi_ M r (2 * j + 2) = nI (cN s (43 + 48 * w + 4 * k + j)) := by
      rw [e.i r2.2.1 (no _)]
      refine (r3 (2 * j + 2) (by omega)).trans ?_
      show (if 2 * j + 2 = 0 then _ else if (2 * j + 2) % 2 = 1 then _ else _) = _
      rw [if_neg (by omega), if_neg (by omega), show (2 * j + 2) / 2 - 1 = j by omega]
      exact yc
    have rx : gr_ M x = gr_ m x := e.r h.x.2.1 (no _)
    have kx : gk_ M x = (1, 12) := (e.k h.x.2.1).trans h.k
    obtain ⟨ka, M1, e1, I1, f1, g1, x1⟩ := it_new2 (sa := sa) (d := d + 4) hcL hz' hsv e
    have A1 := hAL.new x1 hsv
    have hm : c * cN s (43 + 48 * w + 4 * k + j) < 2 ^ 31 := by
      have : c * cN s (43 + 48 * w + 4 * k + j) ≤ 9999998 * 100 := Nat.mul_le_mul hc (by omega)
      omega
    have hsl := shs_le s w k c day j
    have hlen : (ls ++ shs_ s w k c day j).length + cN s 2 + 1 < 100 := by
      rw [List.length_append]
      have h1 : j * (cN s 2 + 1) + (cN s 2 + 1) ≤ (cN s (23 + 48 * w + k) + 1) * (cN s 2 + 1) := by
        have e5 : (j + 1) * (cN s 2 + 1) = j * (cN s 2 + 1) + (cN s 2 + 1) := Nat.succ_mul _ _
        rw [← e5]
        exact Nat.mul_le_mul_right _ (by omega)
      omega
    have hp1 : shp_ s w k c j ≤ c := by
      unfold shp_
      refine Nat.div_le_of_le_mul ?_
      rw [Nat.mul_comm 100]
      exact Nat.mul_le_mul_left _ (by omega)
    have hprt : prt_ s w k c j ≤ 9999999 := by
      unfold prt_
      split <;> omega
    obtain ⟨M2, o14', it', e2, A2⟩ := x289_a (sa := sa) (d := d) (ls := ls ++ shs_ s w k c day j) h hA hC hsv h0 (w := w) (part := prt_ s w k c j) r2.2.1 r1 (show 2 * j + 1 < 2 * cN s (23 + 48 * w + k) + 1 by omega) (by omega) v1 (by omega) (by omega) hday hprt l1 l2 (nI c) (nI (cts_ s w k c)) (cN s 2) 0 (n + 1) (z + 4) (gt_ M) M1 o14 (by omega) g1 I1 (by rw [show asg_ s w (cN s (27 + 48 * w + 4 * k + j)) (prt_ s w k c j) day 0 = [] from rfl, List.append_nil]; exact A1) hlen
    have e2' := e2
    rw [show asu_ s w (cN s (27 + 48 * w + 4 * k + j)) (prt_ s w k c j) day 0 = 0 from rfl, Nat.sub_zero] at e2'
    have A3 : AL m M2 sv a b nw F (ls ++ shs_ s w k c day (j + 1)) (n + 1 + 2 * (cN s 2 + 1)) (z + 4 + 164 * (cN s 2 + 1)) := by
      rw [shs_, ← List.append_assoc]
      exact A2
    obtain ⟨M3, l10, p1, p2, p3, p4, e3, A4⟩ := ih (j + 1) _ _ M2 (some (.int (nI (prt_ s w k c j)))) (some (.int (nI (prt_ s w k c j - asu_ s w (cN s (27 + 48 * w + 4 * k + j)) (prt_ s w k c j) day (cN s 2))))) it' o14' (by omega) A3 hl
    refine ⟨M3, l10, p1, p2, p3, p4, ?_, A4.le (by have e6 : (t + 1) * (2 * cN s 2 + 3) = t * (2 * cN s 2 + 3) + (2 * cN s 2 + 3) := Nat.succ_mul _ _; omega) (by have e6 : (t + 1) * (164 * cN s 2 + 168) = t * (164 * cN s 2 + 168) + (164 * cN s 2 + 168) := Nat.succ_mul _ _; omega)⟩
    rw [b289_171, kr, gq_pos (by show 2 ≤ 2 ∧ ¬ 2 = 8; decide), gb_neg (by show ¬ nI (2 * cN s (23 + 48 * w + k) + 1) ≤ _; rw [nI_leI (by omega) (by omega)]; omega), nI_add, gq_pos ⟨.inl rfl, in_of (show 2 * j + 1 + 1 < 2 * cN s (23 + 48 * w + k) + 1 by omega) (by omega)⟩, gq_pos (by decide), gq_pos (by decide), nI_clamp (show 2 * j + 1 + 1 < 2 ^ 31 by omega), pk_div (show 2 * j + 1 < 2 ^ 31 by omega) (by decide) (by decide), show (2 * j + 1) / 2 = j by omega, show 2 * j + 1 + 1 = 2 * j + 2 from rfl, v2, pk_mul, pk_div hm (by decide) (by decide)]
    by_cases qc : cts_ s w k c ≤ j
    · have hpe : c * cN s (43 + 48 * w + 4 * k + j) / 100 + 0 = prt_ s w k c j := by
        unfold prt_ shp_
        rw [if_neg (by omega)]
      rw [gb_pos (by rw [nI_leI (by omega) (by omega)]; exact qc), rx, gq_pos ⟨kx, hz⟩, gq_pos ka, e1, cr_v, nI_add, hpe, e2']
      exact e3
    · have hpe : c * cN s (43 + 48 * w + 4 * k + j) / 100 + 1 = prt_ s w k c j := by
        unfold prt_ shp_
        rw [if_pos (by omega)]
      rw [gb_neg (by rw [nI_leI (by omega) (by omega)]; exact qc), rx, gq_pos ⟨kx, hz⟩, gq_pos ka, e1, cr_v, nI_add, hpe, e2']
      exact e3
end W8
