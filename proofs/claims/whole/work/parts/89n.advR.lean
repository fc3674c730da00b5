/-! an advance is read: the reference -/
section R89
variable {sa sv d N T n i B : Nat} {m : am_M} {b : Nat → Nat} {s s' : Nat → Int32} {q q' : Nat → Int64} {σ : Er ⊕ Nat}
theorem y280 (h : RQ m N b n (.inr i)) (hR : RS m N s q) (hG : WG B s q) (hk : ¬ Kd b n i = 1) : ∃ m', am_ca sa sv (d + 4) 280 [.ref (N + 243)] m = some (.inl none, m') ∧ Fr (RWr N) m m' ∧ RT m' N b n (sAD s q b n i) := by
  have hC := hG.1.1
  have hN := hG.1.2.2.2.2.2.2.2
  have hW := hG.1.2.1
  have hnp := isN_lt (wc_np hC) (by decide)
  have hnd := isN_lt (wc_nd hC) (by decide)
  have nd : gi_ m (N + 245) 3 = nI (cN s 3) := (rs hR 3).trans ((wc_nd hC).c (by decide)).1
  obtain ⟨m1, g1, f1, h1⟩ := y261 (sa := sa) (sv := sv) (d := d) h (fun j e => by rw [← Sum.inr.inj e]; exact hk) (cN s 3) 12 (by omega) (by decide)
  have hR1 := hR.h f1
  generalize e1 : pst (eb (.inr i) (sFst b n (cN s 3) 12)) = σ1 at *
  have e1' : pst (sFst b n (cN s 3) 12 i) = σ1 := e1
  obtain ⟨m2, v2, g2, f2, h2, w2⟩ := y263 (sa := sa) (sv := sv) (d := d) h1 hR1 hC hN
  have hR2 := hR1.h f2
  generalize e2 : pst (eb σ1 (sPay s q b n)) = σ2 at *
  obtain ⟨m3, v3, g3, f3, h3, w3⟩ := y240 (sa := sa) (sv := sv) (d := d) h2 1 999999 (by decide) (by decide)
  have hR3 := hR2.h f3
  generalize e3 : pst (eb σ2 (sNum b n 1 999999)) = σ3 at *
  obtain ⟨m4, g4', f4, h4'⟩ := y239 (sa := sa) (sv := sv) (d := d) h3 10 (by decide)
  have g4 : am_ca sa sv (d + 3) 239 [.ref (N + 243), .long (655 : Int64)] m3 = some (.inl none, m4) := g4'
  have hR4 := hR3.h f4
  have h4 : RQ m4 N b n (pst (eb σ3 (sTake b n 17))) := h4'
  clear h4' g4'
  generalize e4 : pst (eb σ3 (sTake b n 17)) = σ4 at *
  obtain ⟨m5, v5, g5, f5, h5, w5⟩ := y263 (sa := sa) (sv := sv) (d := d) h4 hR4 hC hN
  have hR5 := hR4.h f5
  generalize e5 : pst (eb σ4 (sPay s q b n)) = σ5 at *
  obtain ⟨m6, g6', f6, h6'⟩ := y239 (sa := sa) (sv := sv) (d := d) h5 13 (by decide)
  have g6 : am_ca sa sv (d + 3) 239 [.ref (N + 243), .long (591493 : Int64)] m5 = some (.inl none, m6) := g6'
  have hR6 := hR5.h f6
  have h6 : RQ m6 N b n (pst (eb σ5 (sTake b n 20))) := h6'
  clear h6' g6'
  generalize e6 : pst (eb σ5 (sTake b n 20)) = σ6 at *
  obtain ⟨m7, v7, g7, f7, h7, w7⟩ := y240 (sa := sa) (sv := sv) (d := d) h6 1 100 (by decide) (by decide)
  have hR7 := hR6.h f7
  generalize e7 : pst (eb σ6 (sNum b n 1 100)) = σ7 at *
  have i1 : am_ca sa sv (d + 3) 236 [.ref (N + 243), .long (494 : Int64)] m7 = _ := y236 (sa := sa) (sv := sv) (d := d + 2) h7 14 (by decide)
  have hF7 : Fr (RWr N) m m7 := ((((((f1.trans f2).trans f3).trans f4).trans f5).trans f6).trans f7).mono fun _ _ z => Or.inl z.sh
  have good : gd_s σ7 = true → cN s 3 < 12 := fun z => by
    have a7 := z
    rw [← e7] at a7
    have a6 := gd_eb a7
    rw [← e6] at a6
    have a5 := gd_eb a6
    rw [← e5] at a5
    have a4 := gd_eb a5
    rw [← e4] at a4
    have a3 := gd_eb a4
    rw [← e3] at a3
    have a2 := gd_eb a3
    rw [← e2] at a2
    have a1 := gd_eb a2
    rw [← e1'] at a1
    obtain ⟨x1, z1⟩ := gd_pst a1
    have := (sFst_i z1).1
    omega
  have hw : ∀ (w : Nat), w = (if v2 = v5 then 7 else 0) → w < 100 := fun w z => by rw [z]; split <;> decide
  have wr : ∀ {x2 x5 : Nat × Nat}, v2 = nI x2.2 → v5 = nI x5.2 → x2.2 < cN s 0 → x5.2 < cN s 0 → (if v2 = v5 then 7 else 0) = (if x2.2 = x5.2 then 7 else 0 : Nat) := fun h1 h2 h3 h4 => by
    rw [h1, h2]
    simp (disch := omega) only [nI_eqE]
  by_cases hK : isK b n 21 σ7 = true
  · have i1' : am_ca sa sv (d + 3) 236 [.ref (N + 243), .long (494 : Int64)] m7 = some (.inl (some (.int (nI 1))), m7) := by rw [i1, hK]; rfl
    obtain ⟨j, hσ, hj⟩ := isK_r hK
    have h7' : RQ m7 N b n (.inr j) := by rw [hσ] at h7; exact h7
    obtain ⟨m8, g8, f8, h8⟩ := y233n (sa := sa) (sv := sv) (d := d + 1) h7'
    have hR8 := hR7.h f8
    obtain ⟨m9, v9, g9, f9, h9, w9⟩ := y264 (sa := sa) (sv := sv) (d := d) h8 hR8 hC hW hN 0 (-1) (nI 0) (Or.inl ⟨rfl, rfl, rfl⟩)
    have hR9 := hR8.h f9
    generalize e9 : pst (eb (.inr (j + 1)) (sWrk s q b n 0)) = σ9 at *
    have e9' : pst (sWrk s q b n 0 (j + 1)) = σ9 := e9
    obtain ⟨ma, p1, p2, p3, p4⟩ := y280_101 (sa := sa) (sv := sv) (d := d) h9 hR9 hC v2 v3 v5 v7 (nI 1) v9 _ (hw _ rfl) none (fun _ => good (by rw [hσ]; rfl))
    have run : am_ca sa sv (d + 4) 280 [.ref (N + 243)] m = some (.inl none, ma) := by
      rw [c280, b280_0]
      simp (disch := omega) only [gq_true, gb_true, gb_false, true_and, and_true, eq_self, not_false_eq_true, not_true_eq_false, true_or, or_true, false_or, or_false, false_and, and_false, c0_v, ci_v, cl_v, cf_v, pk_mul, nI_add, nI_clamp, nI_lt0, nI_0le, nI_eq0, nI_lt0r, nI_ltE, nI_leE, nI_eqE, nI_m1, in_t, ba0, ba1, Nat.one_ne_zero, Nat.reduceEqDiff, Nat.reduceLeDiff, Nat.add_eq_zero_iff, xk243 h.1, xr243_15 h.1, xk245 h.1, nd, g1, xk243 h1.1, g2, xk243 h2.1, g3, xk243 h3.1, g4, xk243 h4.1, g5, xk243 h5.1, g6, xk243 h6.1, g7, xk243 h7.1, i1', g8]
      rw [b280_72]
      simp (disch := omega) only [gq_true, gb_true, gb_false, true_and, and_true, eq_self, not_false_eq_true, not_true_eq_false, true_or, or_true, false_or, or_false, false_and, and_false, c0_v, ci_v, cl_v, cf_v, pk_mul, nI_add, nI_clamp, nI_lt0, nI_0le, nI_eq0, nI_lt0r, nI_ltE, nI_leE, nI_eqE, nI_m1, in_t, ba0, ba1, Nat.one_ne_zero, Nat.reduceEqDiff, Nat.reduceLeDiff, Nat.add_eq_zero_iff, xk243 h8.1, g9]
      by_cases e : v2 = v5
      · rw [if_pos e] at p1
        rw [gb_pos e]; exact p1
      · rw [if_neg e] at p1
        rw [gb_neg e]; exact p1
    refine ⟨ma, run, hF7.trans (((f8.trans f9).mono fun _ _ z => Or.inl z.sh).trans p2), ?_⟩
    unfold sAD
    cases z1 : sFst b n (cN s 3) 12 i with
    | inl e =>
      have s1 : σ1 = .inl e := by rw [← e1', z1]; rfl
      have s2 : σ2 = .inl e := by rw [← e2, s1]; rfl
      have s3 : σ3 = .inl e := by rw [← e3, s2]; rfl
      have s4 : σ4 = .inl e := by rw [← e4, s3]; rfl
      have s5 : σ5 = .inl e := by rw [← e5, s4]; rfl
      have s6 : σ6 = .inl e := by rw [← e6, s5]; rfl
      have s7 : σ7 = .inl e := by rw [← e7, s6]; rfl
      rw [s7] at hσ
      cases hσ
    | inr x1 =>
      have s1 : σ1 = .inr x1.1 := by rw [← e1', z1]; rfl
      show RT ma N b n (eb (sPay s q b n x1.1) _)
      cases z2 : sPay s q b n x1.1 with
      | inl e =>
        have s2 : σ2 = .inl e := by rw [← e2, s1]; show pst (sPay s q b n x1.1) = _; rw [z2]; rfl
        have s3 : σ3 = .inl e := by rw [← e3, s2]; rfl
        have s4 : σ4 = .inl e := by rw [← e4, s3]; rfl
        have s5 : σ5 = .inl e := by rw [← e5, s4]; rfl
        have s6 : σ6 = .inl e := by rw [← e6, s5]; rfl
        have s7 : σ7 = .inl e := by rw [← e7, s6]; rfl
        rw [s7] at hσ
        cases hσ
      | inr x2 =>
        have s2 : σ2 = .inr x2.1 := by rw [← e2, s1]; show pst (sPay s q b n x1.1) = _; rw [z2]; rfl
        show RT ma N b n (eb (sNum b n 1 999999 x2.1) _)
        cases z3 : sNum b n 1 999999 x2.1 with
        | inl e =>
          have s3 : σ3 = .inl e := by rw [← e3, s2]; show pst (sNum b n 1 999999 x2.1) = _; rw [z3]; rfl
          have s4 : σ4 = .inl e := by rw [← e4, s3]; rfl
          have s5 : σ5 = .inl e := by rw [← e5, s4]; rfl
          have s6 : σ6 = .inl e := by rw [← e6, s5]; rfl
          have s7 : σ7 = .inl e := by rw [← e7, s6]; rfl
          rw [s7] at hσ
          cases hσ
        | inr x3 =>
          have s3 : σ3 = .inr x3.1 := by rw [← e3, s2]; show pst (sNum b n 1 999999 x2.1) = _; rw [z3]; rfl
          show RT ma N b n (eb (sTake b n 17 x3.1) _)
          cases z4 : sTake b n 17 x3.1 with
          | inl e =>
            have s4 : σ4 = .inl e := by rw [← e4, s3]; show pst (sTake b n 17 x3.1) = _; rw [z4]; rfl
            have s5 : σ5 = .inl e := by rw [← e5, s4]; rfl
            have s6 : σ6 = .inl e := by rw [← e6, s5]; rfl
            have s7 : σ7 = .inl e := by rw [← e7, s6]; rfl
            rw [s7] at hσ
            cases hσ
          | inr x4 =>
            have s4 : σ4 = .inr x4.1 := by rw [← e4, s3]; show pst (sTake b n 17 x3.1) = _; rw [z4]; rfl
            show RT ma N b n (eb (sPay s q b n x4.1) _)
            cases z5 : sPay s q b n x4.1 with
            | inl e =>
              have s5 : σ5 = .inl e := by rw [← e5, s4]; show pst (sPay s q b n x4.1) = _; rw [z5]; rfl
              have s6 : σ6 = .inl e := by rw [← e6, s5]; rfl
              have s7 : σ7 = .inl e := by rw [← e7, s6]; rfl
              rw [s7] at hσ
              cases hσ
            | inr x5 =>
              have s5 : σ5 = .inr x5.1 := by rw [← e5, s4]; show pst (sPay s q b n x4.1) = _; rw [z5]; rfl
              show RT ma N b n (eb (sTake b n 20 x5.1) _)
              cases z6 : sTake b n 20 x5.1 with
              | inl e =>
                have s6 : σ6 = .inl e := by rw [← e6, s5]; show pst (sTake b n 20 x5.1) = _; rw [z6]; rfl
                have s7 : σ7 = .inl e := by rw [← e7, s6]; rfl
                rw [s7] at hσ
                cases hσ
              | inr x6 =>
                have s6 : σ6 = .inr x6.1 := by rw [← e6, s5]; show pst (sTake b n 20 x5.1) = _; rw [z6]; rfl
                show RT ma N b n (eb (sNum b n 1 100 x6.1) _)
                cases z7 : sNum b n 1 100 x6.1 with
                | inl e =>
                  have s7 : σ7 = .inl e := by rw [← e7, s6]; show pst (sNum b n 1 100 x6.1) = _; rw [z7]; rfl
                  rw [s7] at hσ
                  cases hσ
                | inr x7 =>
                  have s7 : σ7 = .inr x7.1 := by rw [← e7, s6]; show pst (sNum b n 1 100 x6.1) = _; rw [z7]; rfl
                  obtain rfl : j = x7.1 := by rw [s7] at hσ; exact (Sum.inr.inj hσ).symm
                  show RT ma N b n (if Kd b n x7.1 = 21 then _ else _)
                  rw [if_pos hj]
                  have wq := wr (w2 x2 (by rw [s1]; exact z2)) (w5 x5 (by rw [s4]; exact z5)) (sPay_i z2).2.2 (sPay_i z5).2.2
                  rw [wq] at p3 p4
                  cases z9 : sWrk s q b n 0 (x7.1 + 1) with
                  | inl e =>
                    have s9 : σ9 = .inl e := by rw [← e9', z9]; rfl
                    rw [s9] at p3
                    exact p3
                  | inr x9 =>
                    have s9 : σ9 = .inr x9.1 := by rw [← e9', z9]; rfl
                    rw [s9, w2 x2 (by rw [s1]; exact z2), w3 x3 (by rw [s2]; exact z3), w5 x5 (by rw [s4]; exact z5), w7 x7 (by rw [s6]; exact z7), w9 x9 z9] at p4
                    rw [s9] at p3
                    exact RT.fin p3 p4
  · have hK' : isK b n 21 σ7 = false := by cases h : isK b n 21 σ7 <;> first | rfl | exact absurd h hK
    have i1' : am_ca sa sv (d + 3) 236 [.ref (N + 243), .long (494 : Int64)] m7 = some (.inl (some (.int (nI 0))), m7) := by rw [i1, hK']; rfl
    obtain ⟨ma, p1, p2, p3, p4⟩ := y280_101 (sa := sa) (sv := sv) (d := d) h7 hR7 hC v2 v3 v5 v7 (nI 0) (-1) _ (hw _ rfl) none (fun z => good (gd_eb z))
    have run : am_ca sa sv (d + 4) 280 [.ref (N + 243)] m = some (.inl none, ma) := by
      rw [c280, b280_0]
      simp (disch := omega) only [gq_true, gb_true, gb_false, true_and, and_true, eq_self, not_false_eq_true, not_true_eq_false, true_or, or_true, false_or, or_false, false_and, and_false, c0_v, ci_v, cl_v, cf_v, pk_mul, nI_add, nI_clamp, nI_lt0, nI_0le, nI_eq0, nI_lt0r, nI_ltE, nI_leE, nI_eqE, nI_m1, in_t, ba0, ba1, Nat.one_ne_zero, Nat.reduceEqDiff, Nat.reduceLeDiff, Nat.add_eq_zero_iff, xk243 h.1, xr243_15 h.1, xk245 h.1, nd, g1, xk243 h1.1, g2, xk243 h2.1, g3, xk243 h3.1, g4, xk243 h4.1, g5, xk243 h5.1, g6, xk243 h6.1, g7, xk243 h7.1, i1']
      rw [b280_72]
      simp (disch := omega) only [gq_true, gb_true, gb_false, true_and, and_true, eq_self, not_false_eq_true, not_true_eq_false, true_or, or_true, false_or, or_false, false_and, and_false, c0_v, ci_v, cl_v, cf_v, pk_mul, nI_add, nI_clamp, nI_lt0, nI_0le, nI_eq0, nI_lt0r, nI_ltE, nI_leE, nI_eqE, nI_m1, in_t, ba0, ba1, Nat.one_ne_zero, Nat.reduceEqDiff, Nat.reduceLeDiff, Nat.add_eq_zero_iff]
      by_cases e : v2 = v5
      · rw [if_pos e] at p1
        rw [gb_pos e]; exact p1
      · rw [if_neg e] at p1
        rw [gb_neg e]; exact p1
    refine ⟨ma, run, hF7.trans p2, ?_⟩
    unfold sAD
    cases z1 : sFst b n (cN s 3) 12 i with
    | inl e =>
      have s1 : σ1 = .inl e := by rw [← e1', z1]; rfl
      have s2 : σ2 = .inl e := by rw [← e2, s1]; rfl
      have s3 : σ3 = .inl e := by rw [← e3, s2]; rfl
      have s4 : σ4 = .inl e := by rw [← e4, s3]; rfl
      have s5 : σ5 = .inl e := by rw [← e5, s4]; rfl
      have s6 : σ6 = .inl e := by rw [← e6, s5]; rfl
      have s7 : σ7 = .inl e := by rw [← e7, s6]; rfl
      rw [s7] at p3
      exact p3
    | inr x1 =>
      have s1 : σ1 = .inr x1.1 := by rw [← e1', z1]; rfl
      show RT ma N b n (eb (sPay s q b n x1.1) _)
      cases z2 : sPay s q b n x1.1 with
      | inl e =>
        have s2 : σ2 = .inl e := by rw [← e2, s1]; show pst (sPay s q b n x1.1) = _; rw [z2]; rfl
        have s3 : σ3 = .inl e := by rw [← e3, s2]; rfl
        have s4 : σ4 = .inl e := by rw [← e4, s3]; rfl
        have s5 : σ5 = .inl e := by rw [← e5, s4]; rfl
        have s6 : σ6 = .inl e := by rw [← e6, s5]; rfl
        have s7 : σ7 = .inl e := by rw [← e7, s6]; rfl
        rw [s7] at p3
        exact p3
      | inr x2 =>
        have s2 : σ2 = .inr x2.1 := by rw [← e2, s1]; show pst (sPay s q b n x1.1) = _; rw [z2]; rfl
        show RT ma N b n (eb (sNum b n 1 999999 x2.1) _)
        cases z3 : sNum b n 1 999999 x2.1 with
        | inl e =>
          have s3 : σ3 = .inl e := by rw [← e3, s2]; show pst (sNum b n 1 999999 x2.1) = _; rw [z3]; rfl
          have s4 : σ4 = .inl e := by rw [← e4, s3]; rfl
          have s5 : σ5 = .inl e := by rw [← e5, s4]; rfl
          have s6 : σ6 = .inl e := by rw [← e6, s5]; rfl
          have s7 : σ7 = .inl e := by rw [← e7, s6]; rfl
          rw [s7] at p3
          exact p3
        | inr x3 =>
          have s3 : σ3 = .inr x3.1 := by rw [← e3, s2]; show pst (sNum b n 1 999999 x2.1) = _; rw [z3]; rfl
          show RT ma N b n (eb (sTake b n 17 x3.1) _)
          cases z4 : sTake b n 17 x3.1 with
          | inl e =>
            have s4 : σ4 = .inl e := by rw [← e4, s3]; show pst (sTake b n 17 x3.1) = _; rw [z4]; rfl
            have s5 : σ5 = .inl e := by rw [← e5, s4]; rfl
            have s6 : σ6 = .inl e := by rw [← e6, s5]; rfl
            have s7 : σ7 = .inl e := by rw [← e7, s6]; rfl
            rw [s7] at p3
            exact p3
          | inr x4 =>
            have s4 : σ4 = .inr x4.1 := by rw [← e4, s3]; show pst (sTake b n 17 x3.1) = _; rw [z4]; rfl
            show RT ma N b n (eb (sPay s q b n x4.1) _)
            cases z5 : sPay s q b n x4.1 with
            | inl e =>
              have s5 : σ5 = .inl e := by rw [← e5, s4]; show pst (sPay s q b n x4.1) = _; rw [z5]; rfl
              have s6 : σ6 = .inl e := by rw [← e6, s5]; rfl
              have s7 : σ7 = .inl e := by rw [← e7, s6]; rfl
              rw [s7] at p3
              exact p3
            | inr x5 =>
              have s5 : σ5 = .inr x5.1 := by rw [← e5, s4]; show pst (sPay s q b n x4.1) = _; rw [z5]; rfl
              show RT ma N b n (eb (sTake b n 20 x5.1) _)
              cases z6 : sTake b n 20 x5.1 with
              | inl e =>
                have s6 : σ6 = .inl e := by rw [← e6, s5]; show pst (sTake b n 20 x5.1) = _; rw [z6]; rfl
                have s7 : σ7 = .inl e := by rw [← e7, s6]; rfl
                rw [s7] at p3
                exact p3
              | inr x6 =>
                have s6 : σ6 = .inr x6.1 := by rw [← e6, s5]; show pst (sTake b n 20 x5.1) = _; rw [z6]; rfl
                show RT ma N b n (eb (sNum b n 1 100 x6.1) _)
                cases z7 : sNum b n 1 100 x6.1 with
                | inl e =>
                  have s7 : σ7 = .inl e := by rw [← e7, s6]; show pst (sNum b n 1 100 x6.1) = _; rw [z7]; rfl
                  rw [s7] at p3
                  exact p3
                | inr x7 =>
                  have s7 : σ7 = .inr x7.1 := by rw [← e7, s6]; show pst (sNum b n 1 100 x6.1) = _; rw [z7]; rfl
                  rw [s7] at p3 p4 hK'
                  show RT ma N b n (if Kd b n x7.1 = 21 then _ else _)
                  rw [if_neg (of_decide_eq_false hK')]
                  have wq := wr (w2 x2 (by rw [s1]; exact z2)) (w5 x5 (by rw [s4]; exact z5)) (sPay_i z2).2.2 (sPay_i z5).2.2
                  rw [wq] at p3 p4
                  rw [w2 x2 (by rw [s1]; exact z2), w3 x3 (by rw [s2]; exact z3), w5 x5 (by rw [s4]; exact z5), w7 x7 (by rw [s6]; exact z7)] at p4
                  exact RT.fin p3 p4
end R89
