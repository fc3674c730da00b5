/-! acts whole -/
section J8
variable {sa sv d N x b B : Nat} {m : am_M} {ow : Nat → Nat} {X : TX}
theorem gnn {a c : Nat} {α : Type} {y z : Option α} (ha : a < 9) (hc : c < 9) (h : ¬ a = c) : gb_ (nI a = nI c) y z = z := gb_neg (by rw [nI_eqE (by omega) (by omega)]; exact h)
theorem x296 (h : JT sa m sv N x ow B X X.s X.q) (hl : LM X.s X.q) (hp : PI X.s X.q) (hn : X.n = 0) (hB : B + 1 < 2 ^ 20) (hd : cN X.s 4 ≤ 9000) (hk : (gk_ m b).1 = 2 ∨ (gk_ m b).1 = 7) (h2 : (gk_ m b).2 < 2 ^ 20) {i : Nat} (hi : i < 12) : AO sa m sv N x B X (am_ca sa sv (d + 10) 296 [.ref N, .ref x, .ref b, .int (nI i)] m) := by
  obtain ⟨e0, b0⟩ := (wc_np h.wc).c (by decide)
  obtain ⟨e4, b4⟩ := (wc_day h.wc).c (by decide)
  have b1 := isN_lt (wc_nw h.wc) (by decide)
  have b2 := isN_lt (h.wc.2.2.1) (by decide)
  have hnp : gi_ m x 0 = nI (cN X.s 0) := h.ws.np.trans e0
  have hp5 := hl.p
  have hw4 := hl.w
  obtain ⟨L, ⟨⟨c, hc⟩, a1, a0⟩, a2, a3⟩ := h.ws.wk
  have ez := x233 (sa := sa) (sv := sv) (d := d + 8) hc
  rw [a2] at ez
  obtain ⟨v, hv, ev⟩ := x293 (sa := sa) (sv := sv) (d := d + 7) hk h2 (show 340 + i < 2 ^ 30 by omega) (show 0 < 4000 by decide) (show 4000 < 2 ^ 31 by decide)
  obtain ⟨w, hw, ew⟩ := x293 (sa := sa) (sv := sv) (d := d + 7) hk h2 (show 380 + i < 2 ^ 30 by omega) (show 0 < cN X.s 1 by omega) (show cN X.s 1 < 2 ^ 31 by omega)
  obtain ⟨p, hpp, ep⟩ := x293 (sa := sa) (sv := sv) (d := d + 7) hk h2 (show 420 + i < 2 ^ 30 by omega) (show 0 < cN X.s 0 by omega) (show cN X.s 0 < 2 ^ 31 by omega)
  obtain ⟨k, hk9, ek⟩ := x293 (sa := sa) (sv := sv) (d := d + 7) hk h2 (show 300 + i < 2 ^ 30 by omega) (show 0 < 9 by decide) (show 9 < 2 ^ 31 by decide)
  rw [c296, b296_0, nI_add, ev, ci_v, gq_pos ⟨h.ws.k, a1.2.2⟩, gq_pos hc.1, ez, ci_v, nI_add, ew, ci_v, gq_pos h.ws.k, hnp, nI_add, ep, ci_v, nI_add, ek, ci_v]
  have arm := x296_108 (sa := sa) (d := d + 1) h hl hp hn hB hw hv b (nI i) (nI p) none none none
  by_cases k0 : k = 0
  · subst k0; rw [gb_pos rfl]; exact arm
  rw [gnn hk9 (by decide) k0]
  by_cases k1 : k = 1
  · subst k1; rw [gb_pos rfl]; exact arm
  rw [gnn hk9 (by decide) k1]
  by_cases k2 : k = 2
  · subst k2; rw [gb_pos rfl]; exact arm
  rw [gnn hk9 (by decide) k2]
  by_cases k3 : k = 3
  · subst k3; rw [gb_pos rfl]; exact arm
  rw [gnn hk9 (by decide) k3]
  by_cases k4 : k = 4
  · subst k4
    have r14 : nI v - nI v / nI 14 * nI 14 = nI (v % 14) := pk_rem (by omega) (by decide) (by decide)
    obtain ⟨M2, e2, kx, day2, fin⟩ := acts_pass (sa := sa) (d := d + 4) h hl hp hn hB hd (Nat.mod_lt v (show 0 < 14 by decide))
    refine fin _ ?_
    rw [gb_pos rfl, gq_pos h.ws.k, gq_pos (by decide), gq_pos h.ws.k, gq_pos (by decide), gq_pos h.k0, r14, e2, ci_v, gq_pos kx, day2, gb_pos rfl, gq_pos (by decide)]
  rw [gnn hk9 (by decide) k4]
  by_cases k5 : k = 5
  · subst k5
    obtain ⟨La, LWa, d2, d3⟩ := h.ws.as
    have LWa' := LWa
    obtain ⟨⟨ca, hca⟩, d1, d0⟩ := LWa'
    have ee := x234 (sa := sa) (sv := sv) (d := d + 8) hca
    have es := x233 (sa := sa) (sv := sv) (d := d + 8) hca
    rw [gb_pos rfl, gq_pos ⟨h.ws.k, d1.2.2⟩, gq_pos hca.1, ee, ci_v]
    by_cases c0 : La.length = 0
    · obtain ⟨o, cq, _⟩ := h.cq
      have e174 := x174 (sa := sa) (sv := sv) (d := d + 6) cq
      have en : nrev_ X.s (cN X.s 2) = -1 := by rw [← d2, c0]; rfl
      rw [en] at e174
      refine AO.no h hB hl hp hn ?_
      rw [if_pos c0, gb_neg (by decide), gq_pos h.k0, e174, ci_v, gb_pos rfl, gq_pos (by decide)]
    · rw [if_neg c0, gb_pos nI_0]
      have hj : v % La.length < La.length := Nat.mod_lt _ (by omega)
      have rj : nI v - nI v / nI La.length * nI La.length = nI (v % La.length) := pk_rem (by omega) (by omega) (by omega)
      generalize v % La.length = j at hj rj
      have e236 := x236 (sa := sa) (sv := sv) (d := d + 6) hca hj
      obtain ⟨kr, tr, vr⟩ := d3 j hj
      have v4 : gi_ m (La.getD j 0) 4 = X.s (594 + 6 * j + 4) := vr 4 (by decide)
      have v5 : gi_ m (La.getD j 0) 5 = X.s (594 + 6 * j + 5) := vr 5 (by decide)
      obtain ⟨f4, g4⟩ := (h.wa.2.2.2.2.1 j (by omega)).c (by decide)
      obtain ⟨f5, g5⟩ := (h.wa.2.2.2.2.2.1 j (by omega)).c (by decide)
      have n4 : (nI 4).toNatClampNeg = 4 := rfl
      have n5 : (nI 5).toNatClampNeg = 5 := rfl
      have day : gi_ m x 1 = nI (cN X.s 4) := h.ws.day.trans e4
      have hmax : (if nI (cN X.s 4) < nI (cN X.s (594 + 6 * j + 4)) + nI 1 then nI (cN X.s (594 + 6 * j + 4)) + nI 1 else nI (cN X.s 4)) = nI (max (cN X.s 4) (cN X.s (594 + 6 * j + 4) + 1)) := by
        rw [nI_add]
        by_cases c : cN X.s 4 < cN X.s (594 + 6 * j + 4) + 1
        · rw [if_pos (by rw [nI_ltE (by omega) (by omega)]; exact c), Nat.max_eq_right (by omega)]
        · rw [if_neg (by rw [nI_ltE (by omega) (by omega)]; exact c), Nat.max_eq_left (by omega)]
      have hDb : max (cN X.s 4) (cN X.s (594 + 6 * j + 4) + 1) < 2 ^ 20 := by omega
      have hD1 : cN X.s 4 ≤ max (cN X.s 4) (cN X.s (594 + 6 * j + 4) + 1) := Nat.le_max_left _ _
      have hD2 : cN X.s (594 + 6 * j + 4) + 1 ≤ max (cN X.s 4) (cN X.s (594 + 6 * j + 4) + 1) := Nat.le_max_right _ _
      generalize max (cN X.s 4) (cN X.s (594 + 6 * j + 4) + 1) = D at hmax hDb hD1 hD2
      rw [gq_pos ⟨h.ws.k, d1.2.2⟩, gq_pos ⟨h.ws.k, d1.2.2⟩, gq_pos hca.1, es, ci_v, gq_pos (by rw [nI_eq0 (by omega)]; exact c0), gq_pos hca.1, rj, e236, cr_v, gq_pos ⟨by rw [kr], fun z => absurd z (by decide)⟩, gq_pos h.ws.k, gq_pos ⟨.inl (by rw [kr]), by rw [kr]; exact in_of (by decide) (by decide)⟩, gq_pos ⟨.inl (by rw [kr]), by rw [kr]; exact in_of (by decide) (by decide)⟩, n4, n5, v4, v5, day, f4, f5, hmax]
      by_cases cc : D < cN X.s (594 + 6 * j + 5)
      · have tj : ow (La.getD j 0) < 300 := by rw [tr.1]; omega
        have q1 : X.s 4 ≤ nI D := by rw [e4, nI_leE (by omega) (by omega)]; exact hD1
        have q2 : nI D < X.s (594 + 6 * j + 5) := by rw [f5, nI_ltE (by omega) (by omega)]; exact cc
        have q3 : X.s (594 + 6 * j + 4) < nI D := by rw [f4, nI_ltE (by omega) (by omega)]; omega
        obtain ⟨kN, z1, -⟩ := acts_rev (sa := sa) (d := d + 8) h hl hp hn hB LWa d2 hj tj q1 q2 q3 hDb
        obtain ⟨-, -, M2, e2, fin⟩ := acts_rev (sa := sa) (d := d + 4) h hl hp hn hB LWa d2 hj tj q1 q2 q3 hDb
        refine fin _ ?_
        rw [f5] at e2
        rw [gb_pos (by rw [nI_ltE (by omega) (by omega)]; exact cc), gq_pos ⟨.inl (by rw [kr]), by rw [kr]; exact in_of (by decide) (by decide)⟩, gq_pos ⟨by rw [kr], by rw [kr]; exact in_of (by decide) (by decide)⟩, gq_pos ⟨h.ws.k, d1.2.2⟩, gq_pos hca.1, z1, ci_v, gq_pos (by rw [nI_eq0 (by omega)]; exact c0), gq_pos kN, rj, e2, ci_v, gb_pos rfl, gq_pos (by decide)]
      · have e172 := h.asg (sa := sa) (d := d + 6) (a := j) (by omega)
        rw [f5] at e172
        refine AO.no h hB hl hp hn ?_
        rw [gb_neg (by rw [nI_ltE (by omega) (by omega)]; exact cc), gq_pos ⟨h.ws.k, d1.2.2⟩, gq_pos hca.1, es, ci_v, gq_pos (by rw [nI_eq0 (by omega)]; exact c0), gq_pos h.k0, rj, e172, ci_v, gq_pos ⟨.inl (by rw [kr]), by rw [kr]; exact in_of (by decide) (by decide)⟩, v5, f5, gb_pos rfl, gq_pos (by decide)]
  rw [gnn hk9 (by decide) k5]
  by_cases k6 : k = 6
  · subst k6
    have le := h.ws.le
    obtain ⟨M2, e2, fin⟩ := acts_least (sa := sa) (d := d + 4) h hl hp hn hB hpp hv
    refine fin _ ?_
    rw [gb_pos rfl, gq_pos ⟨h.ws.k, le.2.1.2.2⟩, gq_pos ⟨.inl (by rw [le.1]), by rw [le.1]; exact in_of (by omega) (by decide)⟩, gq_pos ⟨h.ws.k, le.2.1.2.2⟩, gq_pos ⟨by rw [le.1], by rw [le.1]; exact in_of (by omega) (by decide)⟩, gq_pos h.k0, nI_N (k := p) (by omega), e2, ci_v, le.2.2 p (by omega), gb_pos rfl, gq_pos (by decide)]
  rw [gnn hk9 (by decide) k6]
  by_cases k7 : k = 7
  · subst k7
    obtain ⟨M1, M2, e1, kx, e2, fin⟩ := acts_close (sa := sa) (d := d + 1) h hl hp hn hB
    refine fin _ ?_
    rw [gb_pos rfl, gq_pos h.k0, e1, cl_v, gq_pos kx, e2, cl_v, gb_pos ((lgc_eq _ _).mpr rfl), gq_pos (by decide)]
  rw [gnn hk9 (by decide) k7]
  obtain ⟨m', ow', X', e, rest⟩ := x297 (sa := sa) (d := d) h hl hp hn hB hv
  refine ⟨m', ow', X', ?_, rest⟩
  rw [e, ci_v, gq_pos (by decide)]
end J8
