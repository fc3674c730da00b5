/-! a split is read: the reference -/
section R89
variable {sa sv d N T n i B : Nat} {m : am_M} {b : Nat → Nat} {s s' : Nat → Int32} {q q' : Nat → Int64} {σ : Er ⊕ Nat}
theorem y275 (h : RQ m N b n (.inr i)) (hR : RS m N s q) (hG : WG B s q) : ∃ m', am_ca sa sv (d + 6) 275 [.ref (N + 243)] m = some (.inl none, m') ∧ Fr (RWr N) m m' ∧ RT m' N b n (sSP s q b n i) := by
  have hC := hG.1.1
  have hN := hG.1.2.2.2.2.2.2.2
  have hW := hG.1.2.1
  have hnw := isN_lt (wc_nw hC) (by decide)
  obtain ⟨m1, g1, g2, g3⟩ := y233n (sa := sa) (sv := sv) (d := d + 3) h
  have hR1 := hR.h g2
  obtain ⟨m2, v1, k1, k2, k3, k4⟩ := y264 (sa := sa) (sv := sv) (d := d + 2) g3 hR1 hC hW hN 2 (nI 0) (nI 4) (Or.inr (Or.inr ⟨rfl, rfl, rfl⟩))
  have hR2 := hR1.h k2
  generalize e1 : pst (eb (.inr (i + 1)) (sWrk s q b n 2)) = σ1 at *
  have e1' : pst (sWrk s q b n 2 (i + 1)) = σ1 := e1
  obtain ⟨m3, p1, p2, p3⟩ := y239 (sa := sa) (sv := sv) (d := d + 2) k3 8 (by decide)
  have p1' : am_ca sa sv (d + 5) 239 [.ref (N + 243), .long (215533 : Int64)] m2 = some (.inl none, m3) := p1
  have hR3 := hR2.h p2
  have p3' : RQ m3 N b n (pst (eb σ1 (sTake b n 15))) := p3
  clear p3
  generalize e2 : pst (eb σ1 (sTake b n 15)) = σ2 at *
  obtain ⟨m4, v3, r1, r2, r3, r4⟩ := y240 (sa := sa) (sv := sv) (d := d + 2) p3' 1 9999 (by decide) (by decide)
  have hR4 := hR3.h r2
  generalize e3 : pst (eb σ2 (sNum b n 1 9999)) = σ3 at *
  obtain ⟨m5, L, t1, t2, t3, t4, t5⟩ := y266 (sa := sa) (sv := sv) (d := d) r3 hR4 hC hN
  have hR5 := hR4.sh t2
  generalize e4 : pst (eb σ3 (sShs s q b n)) = σ4 at *
  have hF5 : Fr (RWr N) m m5 := (((g2.trans k2).trans (p2.trans r2)).mono fun _ _ z => Or.inl z.sh).trans (t2.mono fun _ _ z => Or.inl z)
  have q1 := y235 (sa := sa) (sv := sv) (d := d + 4) t3
  have bad : ∀ e, σ4 = .inl e → ∃ m', am_ca sa sv (d + 6) 275 [.ref (N + 243)] m = some (.inl none, m') ∧ Fr (RWr N) m m' ∧ RQ m' N b n (.inl e) := fun e he => by
    subst he
    obtain ⟨m6, u1, u2, u3⟩ := y268 (sa := sa) (sv := sv) (d := d + 2) t3 0 (by decide)
    have u3' : RQ m6 N b n (.inl e) := u3
    have q2 := y235 (sa := sa) (sv := sv) (d := d + 4) u3'
    rw [gs_l, tr_f] at q1 q2
    refine ⟨m6, ?_, hF5.trans (u2.mono fun _ _ z => Or.inl z.sh), u3'⟩
    rw [c275, b275_0]
    simp (disch := omega) only [gq_true, gb_true, gb_false, true_and, and_true, eq_self, not_false_eq_true, not_true_eq_false, true_or, or_true, false_or, or_false, false_and, and_false, c0_v, ci_v, cl_v, cf_v, pk_mul, nI_add, nI_clamp, nI_lt0, nI_0le, nI_eq0, nI_lt0r, nI_ltE, nI_leE, nI_eqE, nI_m1, in_t, ba0, ba1, Nat.one_ne_zero, Nat.reduceEqDiff, Nat.reduceLeDiff, Nat.add_eq_zero_iff, xk243 h.1, g1, xk243 g3.1, k1, xk243 k3.1, p1', xk243 p3'.1, r1, xk243 r3.1, t1, xk243 t3.1, q1, u1, xk243 u3'.1, q2]
  unfold sSP
  cases z1 : sWrk s q b n 2 (i + 1) with
  | inl e => exact bad e (by rw [← e4, ← e3, ← e2, ← e1', z1]; rfl)
  | inr x1 =>
    have s1 : σ1 = .inr x1.1 := by rw [← e1', z1]; rfl
    show ∃ m', _ ∧ _ ∧ RT m' N b n (eb (sTake b n 15 x1.1) _)
    cases z2 : sTake b n 15 x1.1 with
    | inl e => exact bad e (by rw [← e4, ← e3, ← e2, s1]; show pst (eb (pst (eb (pst (sTake b n 15 x1.1)) _)) _) = _; rw [z2]; rfl)
    | inr x2 =>
      have s2 : σ2 = .inr x2.1 := by rw [← e2, s1]; show pst (sTake b n 15 x1.1) = _; rw [z2]; rfl
      show ∃ m', _ ∧ _ ∧ RT m' N b n (eb (sNum b n 1 9999 x2.1) _)
      cases z3 : sNum b n 1 9999 x2.1 with
      | inl e => exact bad e (by rw [← e4, ← e3, s2]; show pst (eb (pst (sNum b n 1 9999 x2.1)) _) = _; rw [z3]; rfl)
      | inr x3 =>
        have s3 : σ3 = .inr x3.1 := by rw [← e3, s2]; show pst (sNum b n 1 9999 x2.1) = _; rw [z3]; rfl
        show ∃ m', _ ∧ _ ∧ RT m' N b n (eb (sShs s q b n x3.1) _)
        cases z4 : sShs s q b n x3.1 with
        | inl e => exact bad e (by rw [← e4, s3]; show pst (sShs s q b n x3.1) = _; rw [z4]; rfl)
        | inr x4 =>
          have s4 : σ4 = .inr x4.1 := by rw [← e4, s3]; show pst (sShs s q b n x3.1) = _; rw [z4]; rfl
          show ∃ m', _ ∧ _ ∧ RT m' N b n (eb (sSemi b n (whP s x1.2 x3.2 x4.2) x4.1) _)
          have hv1 : v1 = nI x1.2 := k4 x1 z1
          have hv3 : v3 = nI x3.2 := r4 x3 (by rw [s2]; exact z3)
          have hL : L = x4.2 := t5 x4 (by rw [s3]; exact z4)
          subst hv1 hv3 hL
          have hb : lsum x4.2 ≤ 100 * x4.2.length := lsum_b fun j x hx => (t4.2.2 j x hx).2.1
          have hl4 := t4.2.1
          obtain ⟨-, -, j1, j1'⟩ := sWrk_i z1
          have j3 := (sNum_i z3).2.2.2
          have j5 := no_rm2 hW j1 j1'
          obtain ⟨n18, n18'⟩ := ww_ns hW _ j1
          have t18 := (n18.c (by decide)).1
          obtain ⟨t19, t19'⟩ := (ww_dk hW x1.2 (cN s (18 + 48 * x1.2) - 1) j1 (by omega)).c (by decide)
          rw [s4] at t3 q1
          rw [gs_r, tr_t] at q1
          obtain ⟨m6, u1, u2, u3⟩ := y268 (sa := sa) (sv := sv) (d := d + 2) t3 (whP s x1.2 x3.2 x4.2) (whP_lt _ _ _ _)
          have hR6 := hR5.h u2
          have hH6 := t4.h u2
          have q2 := y235 (sa := sa) (sv := sv) (d := d + 4) u3
          have hF6 := hF5.trans (u2.mono fun _ _ z => Or.inl z.sh)
          have e265 := y265 (sa := sa) (sv := sv) (d := d + 4) t3.1 t4
          have e256 := y256 (sa := sa) (sv := sv) (d := d + 4) hR5 x1.2 0 (18 + 48 * x1.2) (by omega) (by omega)
          have d256 := y256 (sa := sa) (sv := sv) (d := d + 4) hR5 x1.2 (cN s (18 + 48 * x1.2)) (19 + 48 * x1.2 + (cN s (18 + 48 * x1.2) - 1)) (by omega) (by omega)
          rw [t18] at e256
          rw [t19] at d256
          have dm : nI (1 + cN s (18 + 48 * x1.2)) - nI 1 = nI (cN s (18 + 48 * x1.2)) := by rw [Nat.add_comm]; exact dm_s _
          have run : ∀ (m7 : am_M), am_c0 (am_ca sa sv (d + 5) 268 [.ref (N + 243), .int (nI (whP s x1.2 x3.2 x4.2))] m5) (fun m16 => gq_ (gk_ m16 (N + 243) = (1, 11)) (am_ci (am_ca sa sv (d + 5) 235 [.ref (N + 243)] m16) (fun v18 m17 => gb_ (v18 = 0) (some (.inl none, m17)) (gq_ (gk_ m17 (N + 243) = (1, 11)) (am_c0 (am_ca sa sv (d + 5) 269 [.ref (N + 243), .int (nI x1.2), .int (nI x3.2)] m17) (fun m19 => some (.inl none, m19)) am_xg))) am_xg)) am_xg = some (.inl none, m7) → am_ca sa sv (d + 6) 275 [.ref (N + 243)] m = some (.inl none, m7) := fun m7 hr => by
            rw [c275, b275_0]
            simp (disch := omega) only [gq_true, gb_true, gb_false, true_and, and_true, eq_self, not_false_eq_true, not_true_eq_false, true_or, or_true, false_or, or_false, false_and, and_false, c0_v, ci_v, cl_v, cf_v, pk_mul, nI_add, nI_clamp, nI_lt0, nI_0le, nI_eq0, nI_lt0r, nI_ltE, nI_leE, nI_eqE, nI_m1, in_t, ba0, ba1, Nat.one_ne_zero, Nat.reduceEqDiff, Nat.reduceLeDiff, Nat.add_eq_zero_iff, xk243 h.1, g1, xk243 g3.1, k1, xk243 k3.1, p1', xk243 p3'.1, r1, xk243 r3.1, t1, xk243 t3.1, q1, e265, e256, dm, d256]
            unfold whP at hr
            by_cases w1 : lsum x4.2 = 100
            · rw [if_pos w1] at hr
              rw [gb_pos w1]
              by_cases w2 : cN s (19 + 48 * x1.2 + (cN s (18 + 48 * x1.2) - 1)) < x3.2
              · rw [if_pos w2] at hr
                rw [gb_pos w2]; exact hr
              · rw [if_neg w2] at hr
                rw [gb_neg w2]; exact hr
            · rw [if_neg w1] at hr
              rw [gb_neg w1]; exact hr
          cases hg : gd_s (pst (eb (.inr x4.1) (sFit b n (whP s x1.2 x3.2 x4.2)))) with
          | false =>
            rw [hg, tr_f] at q2
            refine ⟨m6, run m6 ?_, hF6, RT.fin u3 (fun z => by rw [hg] at z; cases z)⟩
            rw [u1]
            simp (disch := omega) only [gq_true, gb_true, gb_false, true_and, and_true, eq_self, not_false_eq_true, not_true_eq_false, true_or, or_true, false_or, or_false, false_and, and_false, c0_v, ci_v, cl_v, cf_v, pk_mul, nI_add, nI_clamp, nI_lt0, nI_0le, nI_eq0, nI_lt0r, nI_ltE, nI_leE, nI_eqE, nI_m1, in_t, ba0, ba1, Nat.one_ne_zero, Nat.reduceEqDiff, Nat.reduceLeDiff, Nat.add_eq_zero_iff, xk243 u3.1, q2]
          | true =>
            rw [hg, tr_t] at q2
            obtain ⟨m7, w1, w2, w3⟩ := y269 (sa := sa) (sv := sv) (d := d + 3) hR6 hH6 x1.2 (cN s (18 + 48 * x1.2)) x3.2 (by omega) j5 t18
            refine ⟨m7, run m7 ?_, hF6.trans (w2.mono fun _ _ z => Or.inr (Or.inl z)), RT.fin (u3.fr w2 (fun a k z => ⟨XF.hi (by omega), by omega, fun _ => by omega⟩)) (fun _ => w3)⟩
            rw [u1]
            simp (disch := omega) only [gq_true, gb_true, gb_false, true_and, and_true, eq_self, not_false_eq_true, not_true_eq_false, true_or, or_true, false_or, or_false, false_and, and_false, c0_v, ci_v, cl_v, cf_v, pk_mul, nI_add, nI_clamp, nI_lt0, nI_0le, nI_eq0, nI_lt0r, nI_ltE, nI_leE, nI_eqE, nI_m1, in_t, ba0, ba1, Nat.one_ne_zero, Nat.reduceEqDiff, Nat.reduceLeDiff, Nat.add_eq_zero_iff, xk243 u3.1, q2, w1]
end R89
