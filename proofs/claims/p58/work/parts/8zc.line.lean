/-! the advances of a line, then its end -/
/-- the tags of values that an income changes -/
def IVT (t : Nat) : Prop := (t = 10 ∨ 20 ≤ t ∧ t < 60) ∨ 80 ≤ t ∧ t < 100
section W8
variable {sa sv d x r p it w A : Nat} {m : am_M} {ow : Nat → Nat} {s s0 : Nat → Int32} {q : Nat → Int64} {og eg dw : Nat → Nat}
theorem WS.fi {m1 : am_M} {s : Nat → Int32} (h : WS m sv x ow s q) (hG : GLm s) (hna : cN s 2 ≤ 16) (hnd : cN s 3 ≤ 12) (f : Fr (fun b _ => b = it) m m1) (ki : gk_ m it = (1, 16)) (hs : ¬ sv = it) : Xt m sv ow ow (fun y => 300 ≤ y) (fun y => y = it) 0 0 m1 ∧ WS m1 sv x ow s q := by
  have e : Xt m sv ow ow (fun y => 300 ≤ y) (fun y => y = it) 0 0 m1 := ⟨Ex.of f (fun _ _ y => y), fun y _ e hw => by
    rw [e, ki] at hw
    unfold Wd at hw
    simp at hw, fun _ _ => rfl, funext fun k => f.2.2.2.1 sv k hs⟩
  exact ⟨e, h.xt e (fun t y => y) (by have := hG.1; omega) hG.2 hna hnd⟩
theorem x290_102 (hC : WC s) (hW : WW s) (hG : GLm s) (hD : WD s) (heq : ∀ k, ¬ k = 6 → s0 k = s k) (hC0 : WC s0) (hW0 : WW s0) (hG0 : GLm s0) (hna : cN s 2 ≤ 16) (hnd : cN s 3 ≤ 12) (hr : 300 ≤ ow r) (hsi : ¬ sv = it) (hw : w < 12) (hp : p < 10) (hA : A ≤ 9999999) (heg : eg p + A < 2 ^ 30) (hdw : dw p + A < 2 ^ 30) (hog : ∀ u, og u + A < 2 ^ 30) (st0 : Wst) (h0 : st0.2.2 = A) (l1 l2 : Int32) (l3 l4 : Nat) : ∀ (k j : Nat) (M : am_M) (st : Wst) (o8 o9 : Option Value), j + k = cN s 3 → wa_ s w p st0 j = st → WS M sv x ow (Sd s0 st.1) (Qn q (Nm og eg dw st.2.1)) → IT M it (gr_ M x 5) j → gk_ M r = (2, 4) → gi_ M r 0 = nI w → gi_ M r 1 = nI p → gi_ M r 2 = nI A → st.2.2 ≤ A → (∀ u, st.2.1 u + st.2.2 < 2 ^ 30) → (∀ a, a < cN s 3 → st.1 a < 2 ^ 30) → ∃ M2 l6 o7' o8' o9', r290 sa sv (d + 2) 102 [some (.ref x), some (.int l1), some (.int l2), some (.ref l3), some (.ref l4), some (.ref r), some (.int (nI st.2.2)), some (.ref it), o8, o9] [] M = r290 sa sv (d + 2) 63 [some (.ref x), some (.int l1), some (.int l2), some (.ref l3), some (.ref l4), some (.ref r), some (.int l6), o7', o8', o9'] [] M2 ∧ WS M2 sv x ow (Sd s0 (wa_ s w p st0 (cN s 3)).1) (Qn q (Nm (adn og p (wa_ s w p st0 (cN s 3)).2.2) (adn eg p A) (adn dw p (A - (wa_ s w p st0 (cN s 3)).2.2)) (wa_ s w p st0 (cN s 3)).2.1)) ∧ Ex (fun y => y = r ∨ y = it ∨ IVT (ow y)) 0 0 M M2 := by
  have c03 : cN s0 3 = cN s 3 := cN_cg (heq _ (by omega))
  have c02 : cN s0 2 = cN s 2 := cN_cg (heq _ (by omega))
  have h10 := isN_lt (wc_np hC) (by decide)
  intro k
  induction k with
  | zero =>
    intro j M st o8 o9 hj hst h hI kr v0 v1 v2 hl hrt hop
    have hj' : j = cN s 3 := by omega
    rw [← hj', hst]
    have d3 : cN (Sd s0 st.1) 3 = cN s 3 := (cN_cg (Sd.lo (by omega))).trans c03
    have d2 : cN (Sd s0 st.1) 2 = cN s 2 := (cN_cg (Sd.lo (by omega))).trans c02
    obtain ⟨L3, ⟨⟨c, hc⟩, tg, t0⟩, a2, a3⟩ := h.ad
    have e1 := x245 (sa := sa) (sv := sv) (d := d + 1) hc hI (Nat.pos_of_ne_zero tg.2.2) (by omega)
    rw [if_neg (by omega)] at e1
    have hC' : WC (Sd s0 st.1) := hC0.sd
    have hW' : WW (Sd s0 st.1) := hW0.sd hC0
    have hG' : GLm (Sd s0 st.1) := hG0.sd
    obtain ⟨m2, e2, W2, g2⟩ := x290_102e (sa := sa) (d := d + 2) h hC' hW' hG' (by omega) (by omega) hr kr v0 v1 v2 hw hp hl (by omega) hI.1 e1 l1 l2 l3 l4 o8 o9
    have n1 : Nm og eg dw st.2.1 p = og p + st.2.1 p := if_pos hp
    have hb := hrt p
    have hb2 := hog p
    rw [Qn.add (by rw [n1]; omega), Nm_og hp] at W2
    have u1 : gi_ m2 r 1 = nI p := by rw [g2.1.2.1, gi_si, if_neg (by omega), v1]
    have u2 : gi_ m2 r 2 = nI A := by rw [g2.1.2.1, gi_si, if_neg (by omega), v2]
    have u3 : gi_ m2 r 3 = nI (A - st.2.2) := by rw [g2.1.2.1, gi_si1]
    obtain ⟨m3, e3, W3, g3⟩ := x290_294 (sa := sa) (d := d + 2) W2 hC' hW' hG' (by rw [g2.1.1]; exact kr) u1 hp l1 l2 (nI st.2.2) l3 l4 o8 o9
    rw [u2, u3] at W3
    have n2 : Nm (adn og p st.2.2) eg dw st.2.1 (10 + 4 * p) = eg p := by
      unfold Nm
      rw [if_neg (by omega), if_pos (by omega), show (10 + 4 * p - 10) / 4 = p by omega]
    have n3 : Nm (adn og p st.2.2) eg dw st.2.1 (10 + 4 * p + 1) = dw p := by
      unfold Nm
      rw [if_neg (by omega), if_neg (by omega), if_pos (by omega), show (10 + 4 * p + 1 - 10) / 4 = p by omega]
    have n4 : adn (Nm (adn og p st.2.2) eg dw st.2.1) (10 + 4 * p) A (10 + 4 * p + 1) = dw p := by
      show (if 10 + 4 * p + 1 = 10 + 4 * p then _ else _) = _
      rw [if_neg (by omega), n3]
    have n5 : Qn q (Nm (adn og p st.2.2) eg dw st.2.1) (10 + 4 * p + 1) = Qn q (adn (Nm (adn og p st.2.2) eg dw st.2.1) (10 + 4 * p) A) (10 + 4 * p + 1) := by
      unfold Qn
      rw [n3, n4]
    rw [Qn.add (by rw [n2]; omega), n5, Qn.add (by rw [n4]; omega), Nm_ed] at W3
    refine ⟨m3, nI st.2.2, some (.int (nI 2)), o8, o9, ?_, W3, ?_⟩
    · rw [e2, e3]
    · have y := g2.exi.trans g3.ex (P := fun y => y = r ∨ VT (ow y)) (fun _ _ z => .inr z)
      exact y.mono (fun b _ z => by
        rcases z with z | z
        · exact .inl z
        · exact .inr (.inr (.inl z))) (Nat.le_refl _) (Nat.le_refl _)
  | succ k ih =>
    intro j M st o8 o9 hj hst h hI kr v0 v1 v2 hl hrt hop
    have hj' : j < cN s 3 := by omega
    have d3 : cN (Sd s0 st.1) 3 = cN s 3 := (cN_cg (Sd.lo (by omega))).trans c03
    have d2 : cN (Sd s0 st.1) 2 = cN s 2 := (cN_cg (Sd.lo (by omega))).trans c02
    have hC' : WC (Sd s0 st.1) := hC0.sd
    have hW' : WW (Sd s0 st.1) := hW0.sd hC0
    have hG' : GLm (Sd s0 st.1) := hG0.sd
    obtain ⟨L3, c1, a2, a3⟩ := h.ad
    have c1' := c1
    obtain ⟨⟨c, hc⟩, tg, t0⟩ := c1'
    have hjL : j < L3.length := by omega
    have hz := Nat.pos_of_ne_zero tg.2.2
    have e1 := x245 (sa := sa) (sv := sv) (d := d + 1) hc hI hz (by omega)
    rw [if_pos hjL] at e1
    obtain ⟨M1, e2, I1, f1⟩ := x246 (sa := sa) (d := d) hc hI hz hjL
    obtain ⟨X1, W1⟩ := h.fi hG' (by omega) (by omega) f1 hI.1 hsi
    obtain ⟨c2, _⟩ := c1.xt X1 (by omega) (by omega)
    have kx : ¬ x = it := fun y => by
      have := h.k
      rw [y, hI.1] at this
      exact absurd (congrArg (fun q => q.2) this) (by show ¬ 16 = 12; decide)
    have rx : gr_ M1 x = gr_ M x := funext fun b => f1.2.2.2.1 x b kx
    rw [← rx] at c2 I1
    have R := (a3 j hjL).xt X1 (by omega)
    obtain ⟨R1, R2, R3⟩ := R
    have kri : ¬ r = it := fun y => by
      rw [y, hI.1] at kr
      exact absurd (congrArg (fun q => q.1) kr) (by show ¬ 1 = 2; decide)
    have kr1 : gk_ M1 r = (2, 4) := (congrFun f1.1.1 r).trans kr
    have ir1 : gi_ M1 r = gi_ M r := funext fun b => f1.2.1 r b kri
    have cell : ∀ c, c < 5 → gi_ M1 (L3.getD j 0) c = s (690 + 6 * j + c) := fun c hc' => (R3 c (by omega)).trans ((Sd.no hc').trans (heq _ (by omega)))
    have hg' := (wd_g hD j hj').c (by omega)
    have ht' := (wd_t hD j hj').c (by omega)
    have hr' := (wd_c hD j hj').1.c (by decide)
    have q0 : gi_ M1 (L3.getD j 0) 0 = nI (cN s (690 + 6 * j + 0)) := (cell 0 (by omega)).trans hg'.1
    have q1 : gi_ M1 (L3.getD j 0) 1 = nI (cN s (690 + 6 * j + 1)) := (cell 1 (by omega)).trans ht'.1
    have q3 : gi_ M1 (L3.getD j 0) 3 = nI (cN s (690 + 6 * j + 3)) := (cell 3 (by omega)).trans hr'.1
    have q4 : gi_ M1 (L3.getD j 0) 4 = s (690 + 6 * j + 4) := cell 4 (by omega)
    have q5 : gi_ M1 (L3.getD j 0) 5 = nI (st.1 j) := (R3 5 (by omega)).trans (Sd.at (by omega))
    have hwa : wa_ s w p st0 (j + 1) = wst_ s w p j st := by rw [wa_s', hst]
    have fM : Ex (fun y => y = r ∨ y = it ∨ IVT (ow y)) 0 0 M M1 := (Ex.of (P := fun y => y = it) f1 (fun _ _ y => y)).mono (fun _ _ y => .inr (.inl y)) (Nat.le_refl _) (Nat.le_refl _)
    have hnot : adm_ s w p j = false → ∃ M2 l6 o7' o8' o9', r290 sa sv (d + 2) 102 [some (.ref x), some (.int l1), some (.int l2), some (.ref l3), some (.ref l4), some (.ref r), some (.int (nI st.2.2)), some (.ref it), some (.ref (L3.getD j 0)), o9] [] M1 = r290 sa sv (d + 2) 63 [some (.ref x), some (.int l1), some (.int l2), some (.ref l3), some (.ref l4), some (.ref r), some (.int l6), o7', o8', o9'] [] M2 ∧ WS M2 sv x ow (Sd s0 (wa_ s w p st0 (cN s 3)).1) (Qn q (Nm (adn og p (wa_ s w p st0 (cN s 3)).2.2) (adn eg p A) (adn dw p (A - (wa_ s w p st0 (cN s 3)).2.2)) (wa_ s w p st0 (cN s 3)).2.1)) ∧ Ex (fun y => y = r ∨ y = it ∨ IVT (ow y)) 0 0 M M2 := fun y => by
      have hst' : wa_ s w p st0 (j + 1) = st := by
        rw [hwa]
        unfold wst_
        rw [y]
        rfl
      obtain ⟨M2, l6, o7', o8', o9', e3, W3, x3⟩ := ih (j + 1) M1 st (some (.ref (L3.getD j 0))) o9 (by omega) hst' W1 I1 kr1 (by rw [ir1]; exact v0) (by rw [ir1]; exact v1) (by rw [ir1]; exact v2) hl hrt hop
      exact ⟨M2, l6, o7', o8', o9', e3, W3, fM.trans x3 (fun _ _ z => z)⟩
    have hyes : adm_ s w p j = true → ∃ M2 l6 o7' o8' o9', r290 sa sv (d + 2) 156 [some (.ref x), some (.int l1), some (.int l2), some (.ref l3), some (.ref l4), some (.ref r), some (.int (nI st.2.2)), some (.ref it), some (.ref (L3.getD j 0)), o9] [] M1 = r290 sa sv (d + 2) 63 [some (.ref x), some (.int l1), some (.int l2), some (.ref l3), some (.ref l4), some (.ref r), some (.int l6), o7', o8', o9'] [] M2 ∧ WS M2 sv x ow (Sd s0 (wa_ s w p st0 (cN s 3)).1) (Qn q (Nm (adn og p (wa_ s w p st0 (cN s 3)).2.2) (adn eg p A) (adn dw p (A - (wa_ s w p st0 (cN s 3)).2.2)) (wa_ s w p st0 (cN s 3)).2.1)) ∧ Ex (fun y => y = r ∨ y = it ∨ IVT (ow y)) 0 0 M M2 := fun y => by
      have hst' : wa_ s w p st0 (j + 1) = ((fun b => if b = j then st.1 j - kp_ s j st else st.1 b), adn st.2.1 (cN s (690 + 6 * j + 0)) (kp_ s j st), st.2.2 - kp_ s j st) := by
        rw [hwa]
        unfold wst_
        rw [y]
        rfl
      have hkl := kp_left (show cN s (690 + 6 * j + 3) ≤ 100 by omega) st
      have hko : kp_ s j st ≤ st.1 j := Nat.min_le_right _ _
      have hb := hrt (cN s (690 + 6 * j + 0))
      have hb2 := hog (cN s (690 + 6 * j + 0))
      obtain ⟨M2, o9', e3, W3, g3⟩ := x290_156 (sa := sa) (d := d + 2) (r := r) W1 hC0 hW0 hG0 (by omega) (by omega) c2 (by omega) (kp := kp_ s j st) hjL R1 q0 q3 q5 (by omega) (by omega) (hop j hj') (by omega) rfl (by omega) l1 l2 l3 l4 it o9
      have nri : ¬ r = L3.getD j 0 := fun z => by
        have := R2.1
        rw [← z] at this
        omega
      have nii : ¬ it = L3.getD j 0 := fun z => by
        have := (congrFun f1.1.1 it).trans hI.1
        rw [z, R1] at this
        exact absurd (congrArg (fun q => q.1) this) (by show ¬ 2 = 1; decide)
      have nai : ¬ gr_ M1 x 5 = L3.getD j 0 := fun z => by
        obtain ⟨⟨c', hc'⟩, _⟩ := c2
        have := hc'.1
        rw [z, R1] at this
        exact absurd (congrArg (fun q => q.1) this) (by show ¬ 2 = 1; decide)
      have ig : ∀ b, ¬ b = L3.getD j 0 → gi_ M2 b = gi_ M1 b := fun b hb' => by
        rw [g3.1.2.1]
        exact funext fun k' => by rw [gi_si, if_neg (fun z => hb' z.1)]
      have rg : gr_ M2 = gr_ M1 := g3.1.2.2.1
      have kg : gk_ M2 = gk_ M1 := g3.1.1
      have tgt : gt_ M2 = gt_ M1 := g3.1.2.2.2.1
      have I2 : IT M2 it (gr_ M2 x 5) (j + 1) := by
        obtain ⟨i1, i2, i3, i4, i5⟩ := I1
        refine ⟨by rw [kg]; exact i1, by rw [rg]; exact i2, by rw [ig _ nii]; exact i3, by rw [rg, ig _ nii, ig _ nai]; exact i4, by rw [tgt]; exact i5⟩
      obtain ⟨M3, l6, o7', o8', o9'', e4, W4, x4⟩ := ih (j + 1) M2 _ (some (.ref (L3.getD j 0))) o9' (by omega) hst' W3 I2 (by rw [kg]; exact kr1) (by rw [ig _ nri, ir1]; exact v0) (by rw [ig _ nri, ir1]; exact v1) (by rw [ig _ nri, ir1]; exact v2) (by show st.2.2 - kp_ s j st ≤ A; omega) (fun u => by
        show adn st.2.1 (cN s (690 + 6 * j + 0)) (kp_ s j st) u + (st.2.2 - kp_ s j st) < 2 ^ 30
        have := hrt u
        unfold adn
        split <;> omega) (fun a ha => by
        show (if a = j then st.1 j - kp_ s j st else st.1 a) < 2 ^ 30
        have h1 := hop a ha
        have h2 := hop j hj'
        split <;> omega)
      refine ⟨M3, l6, o7', o8', o9'', e3.trans e4, W4, ?_⟩
      have y1 : Ex (fun y => y = r ∨ y = it ∨ IVT (ow y)) 0 0 M1 M2 := g3.exi.mono (fun b _ z => by
        rcases z with z | z
        · refine .inr (.inr (.inr ?_))
          rw [z, R2.1]
          omega
        · exact .inr (.inr (.inl z))) (Nat.le_refl _) (Nat.le_refl _)
      exact (fM.trans y1 (fun _ _ z => z)).trans x4 (fun _ _ z => z)
    rw [b290_102, gq_pos hI.1, e1, ci_v, gb_neg (by decide), gq_pos hI.1, e2, cr_v, R1, gq_pos ⟨rfl, fun y => absurd y (by decide)⟩, gq_pos ⟨.inl rfl, in_of (show 1 < 6 by omega) (by omega)⟩, kr1, gq_pos ⟨.inl rfl, in_of (show 1 < 4 by omega) (by omega)⟩, nI_clamp (show 1 < 2 ^ 31 by omega), nI_clamp (show 4 < 2 ^ 31 by omega), nI_clamp (show 0 < 2 ^ 31 by omega), q1, q4, ir1, v1, v0]
    by_cases qt : cN s (690 + 6 * j + 1) = p
    · rw [gb_pos (by rw [qt]), gq_pos ⟨.inl rfl, in_of (show 4 < 6 by omega) (by omega)⟩]
      rcases wd_w hD j hj' with y4 | y4
      · rw [gb_pos (by rw [y4]; decide)]
        refine hyes ?_
        unfold adm_
        rw [decide_eq_true qt, decide_eq_true (.inl y4)]
        rfl
      · have y5 := y4.c (by have := isN_lt (wc_nw hC) (by decide); omega)
        have y6 := isN_lt (wc_nw hC) (by decide)
        rw [gb_neg (by rw [y5.1]; exact nI_pos (by omega)), gq_pos ⟨.inl rfl, in_of (show 4 < 6 by omega) (by omega)⟩, gq_pos ⟨.inl rfl, in_of (show 0 < 4 by omega) (by omega)⟩]
        by_cases qw : s (690 + 6 * j + 4) = nI w
        · rw [gb_pos qw]
          refine hyes ?_
          unfold adm_
          rw [decide_eq_true qt, decide_eq_true (.inr qw)]
          rfl
        · rw [gb_neg qw]
          refine hnot ?_
          unfold adm_
          rw [decide_eq_false (p := _ ∨ _) (fun z => ?_), Bool.and_false]
          rcases z with z | z
          · rw [y5.1] at z
            have : nI (cN s (690 + 6 * j + 4)) < 0 := by rw [z]; decide
            exact nI_pos (by omega) this
          · exact qw z
    · rw [gb_neg (by rw [nI_eqE (by omega) (by omega)]; exact qt)]
      refine hnot ?_
      unfold adm_
      rw [decide_eq_false qt, Bool.false_and]
end W8
