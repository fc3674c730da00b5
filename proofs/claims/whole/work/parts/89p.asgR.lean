/-! an assignment is read: the reference -/
section R89
variable {sa sv d N T n i B : Nat} {m : am_M} {b : Nat → Nat} {s s' : Nat → Int32} {q q' : Nat → Int64} {σ : Er ⊕ Nat}
theorem y279 (h : RQ m N b n (.inr i)) (hR : RS m N s q) (hG : WG B s q) (hk : ¬ Kd b n i = 1) : ∃ m', am_ca sa sv (d + 5) 279 [.ref (N + 243)] m = some (.inl none, m') ∧ Fr (RWr N) m m' ∧ RT m' N b n (sAS s q b n i) := by
  have hC := hG.1.1
  have hA := hG.1.2.2.1
  have hN := hG.1.2.2.2.2.2.2.2
  have hW := hG.1.2.1
  have hnp := isN_lt (wc_np hC) (by decide)
  have hnw := isN_lt (wc_nw hC) (by decide)
  have hna := isN_lt (wc_na hC) (by decide)
  have na : gi_ m (N + 245) 2 = nI (cN s 2) := (rs hR 2).trans ((wc_na hC).c (by decide)).1
  obtain ⟨m1, g1, f1, h1⟩ := y261 (sa := sa) (sv := sv) (d := d + 1) h (fun j e => by rw [← Sum.inr.inj e]; exact hk) (cN s 2) 16 (by omega) (by decide)
  have hR1 := hR.h f1
  generalize e1 : pst (eb (.inr i) (sFst b n (cN s 2) 16)) = σ1 at *
  have e1' : pst (sFst b n (cN s 2) 16 i) = σ1 := e1
  obtain ⟨m2, v2, g2, f2, h2, w2⟩ := y263 (sa := sa) (sv := sv) (d := d + 1) h1 hR1 hC hN
  have hR2 := hR1.h f2
  generalize e2 : pst (eb σ1 (sPay s q b n)) = σ2 at *
  obtain ⟨m3, g3', f3, h3'⟩ := y239 (sa := sa) (sv := sv) (d := d + 1) h2 6 (by decide)
  have g3 : am_ca sa sv (d + 4) 239 [.ref (N + 243), .long (302 : Int64)] m2 = some (.inl none, m3) := g3'
  have h3 : RQ m3 N b n (pst (eb σ2 (sTake b n 13))) := h3'
  clear h3' g3'
  have hR3 := hR2.h f3
  generalize e3 : pst (eb σ2 (sTake b n 13)) = σ3 at *
  obtain ⟨m4, v4, g4, f4, h4, w4⟩ := y264 (sa := sa) (sv := sv) (d := d + 1) h3 hR3 hC hW hN 0 (-1) (nI 0) (Or.inl ⟨rfl, rfl, rfl⟩)
  have hR4 := hR3.h f4
  generalize e4 : pst (eb σ3 (sWrk s q b n 0)) = σ4 at *
  obtain ⟨m5, g5', f5, h5'⟩ := y239 (sa := sa) (sv := sv) (d := d + 1) h4 10 (by decide)
  have g5 : am_ca sa sv (d + 4) 239 [.ref (N + 243), .long (655 : Int64)] m4 = some (.inl none, m5) := g5'
  have h5 : RQ m5 N b n (pst (eb σ4 (sTake b n 17))) := h5'
  clear h5' g5'
  have hR5 := hR4.h f5
  generalize e5 : pst (eb σ4 (sTake b n 17)) = σ5 at *
  obtain ⟨m6, v6, g6, f6, h6, w6⟩ := y263 (sa := sa) (sv := sv) (d := d + 1) h5 hR5 hC hN
  have hR6 := hR5.h f6
  generalize e6 : pst (eb σ5 (sPay s q b n)) = σ6 at *
  obtain ⟨m7, v7, g7, f7, h7, w7⟩ := y240 (sa := sa) (sv := sv) (d := d + 1) h6 1 100 (by decide) (by decide)
  have hR7 := hR6.h f7
  generalize e7 : pst (eb σ6 (sNum b n 1 100)) = σ7 at *
  obtain ⟨m8, g8', f8, h8'⟩ := y239 (sa := sa) (sv := sv) (d := d + 1) h7 8 (by decide)
  have g8 : am_ca sa sv (d + 4) 239 [.ref (N + 243), .long (215533 : Int64)] m7 = some (.inl none, m8) := g8'
  have h8 : RQ m8 N b n (pst (eb σ7 (sTake b n 15))) := h8'
  clear h8' g8'
  have hR8 := hR7.h f8
  generalize e8 : pst (eb σ7 (sTake b n 15)) = σ8 at *
  obtain ⟨m9, v9, g9, f9, h9, w9⟩ := y240 (sa := sa) (sv := sv) (d := d + 1) h8 0 9999 (by decide) (by decide)
  have hR9 := hR8.h f9
  generalize e9 : pst (eb σ8 (sNum b n 0 9999)) = σ9 at *
  obtain ⟨m10, g10', f10, h10'⟩ := y239 (sa := sa) (sv := sv) (d := d + 1) h9 11 (by decide)
  have g10 : am_ca sa sv (d + 4) 239 [.ref (N + 243), .long (22499628 : Int64)] m9 = some (.inl none, m10) := g10'
  have h10 : RQ m10 N b n (pst (eb σ9 (sTake b n 18))) := h10'
  clear h10' g10'
  have hR10 := hR9.h f10
  generalize e10 : pst (eb σ9 (sTake b n 18)) = σ10 at *
  obtain ⟨m11, v11, g11, f11, h11, w11⟩ := y240 (sa := sa) (sv := sv) (d := d + 1) h10 1 9999 (by decide) (by decide)
  have hR11 := hR10.h f11
  generalize e11 : pst (eb σ10 (sNum b n 1 9999)) = σ11 at *
  have hF : Fr (RWr N) m m11 := ((((((((((f1.trans f2).trans f3).trans f4).trans f5).trans f6).trans f7).trans f8).trans f9).trans f10).trans f11).mono fun _ _ z => Or.inl z.sh
  have q1 := y235 (sa := sa) (sv := sv) (d := d + 3) h11
  have bad : ∀ e, σ11 = .inl e → ∃ m', am_ca sa sv (d + 5) 279 [.ref (N + 243)] m = some (.inl none, m') ∧ Fr (RWr N) m m' ∧ RQ m' N b n (.inl e) := fun e he => by
    rw [he] at q1 h11
    obtain ⟨ma, p1, p2, p3, p4⟩ := y279_111 (sa := sa) (sv := sv) (d := d + 1) h11 hR11 hC v2 v4 v6 v7 v9 v11 0 (by decide) none (fun z => by cases z)
    rw [gs_l, tr_f] at q1
    refine ⟨ma, ?_, hF.trans p2, p3⟩
    rw [c279, b279_0]
    simp (disch := omega) only [gq_true, gb_true, gb_false, true_and, and_true, eq_self, not_false_eq_true, not_true_eq_false, true_or, or_true, false_or, or_false, false_and, and_false, c0_v, ci_v, cl_v, cf_v, pk_mul, nI_add, nI_clamp, nI_lt0, nI_0le, nI_eq0, nI_lt0r, nI_ltE, nI_leE, nI_eqE, nI_m1, in_t, ba0, ba1, Nat.one_ne_zero, Nat.reduceEqDiff, Nat.reduceLeDiff, Nat.add_eq_zero_iff, xk243 h.1, xr243_15 h.1, xk245 h.1, na, g1, xk243 h1.1, g2, xk243 h2.1, g3, xk243 h3.1, g4, xk243 h4.1, g5, xk243 h5.1, g6, xk243 h6.1, g7, xk243 h7.1, g8, xk243 h8.1, g9, xk243 h9.1, g10, xk243 h10.1, g11, xk243 h11.1, q1]
    exact p1
  unfold sAS
  cases z1 : sFst b n (cN s 2) 16 i with
  | inl e =>
    have s1 : σ1 = .inl e := by rw [← e1', z1]; rfl
    have s2 : σ2 = .inl e := by rw [← e2, s1]; rfl
    have s3 : σ3 = .inl e := by rw [← e3, s2]; rfl
    have s4 : σ4 = .inl e := by rw [← e4, s3]; rfl
    have s5 : σ5 = .inl e := by rw [← e5, s4]; rfl
    have s6 : σ6 = .inl e := by rw [← e6, s5]; rfl
    have s7 : σ7 = .inl e := by rw [← e7, s6]; rfl
    have s8 : σ8 = .inl e := by rw [← e8, s7]; rfl
    have s9 : σ9 = .inl e := by rw [← e9, s8]; rfl
    have s10 : σ10 = .inl e := by rw [← e10, s9]; rfl
    have s11 : σ11 = .inl e := by rw [← e11, s10]; rfl
    exact bad e s11
  | inr x1 =>
    have s1 : σ1 = .inr x1.1 := by rw [← e1', z1]; rfl
    show ∃ m', _ ∧ _ ∧ RT m' N b n (eb (sPay s q b n x1.1) _)
    cases z2 : sPay s q b n x1.1 with
    | inl e =>
      have s2 : σ2 = .inl e := by rw [← e2, s1]; show pst (sPay s q b n x1.1) = _; rw [z2]; rfl
      have s3 : σ3 = .inl e := by rw [← e3, s2]; rfl
      have s4 : σ4 = .inl e := by rw [← e4, s3]; rfl
      have s5 : σ5 = .inl e := by rw [← e5, s4]; rfl
      have s6 : σ6 = .inl e := by rw [← e6, s5]; rfl
      have s7 : σ7 = .inl e := by rw [← e7, s6]; rfl
      have s8 : σ8 = .inl e := by rw [← e8, s7]; rfl
      have s9 : σ9 = .inl e := by rw [← e9, s8]; rfl
      have s10 : σ10 = .inl e := by rw [← e10, s9]; rfl
      have s11 : σ11 = .inl e := by rw [← e11, s10]; rfl
      exact bad e s11
    | inr x2 =>
      have s2 : σ2 = .inr x2.1 := by rw [← e2, s1]; show pst (sPay s q b n x1.1) = _; rw [z2]; rfl
      show ∃ m', _ ∧ _ ∧ RT m' N b n (eb (sTake b n 13 x2.1) _)
      cases z3 : sTake b n 13 x2.1 with
      | inl e =>
        have s3 : σ3 = .inl e := by rw [← e3, s2]; show pst (sTake b n 13 x2.1) = _; rw [z3]; rfl
        have s4 : σ4 = .inl e := by rw [← e4, s3]; rfl
        have s5 : σ5 = .inl e := by rw [← e5, s4]; rfl
        have s6 : σ6 = .inl e := by rw [← e6, s5]; rfl
        have s7 : σ7 = .inl e := by rw [← e7, s6]; rfl
        have s8 : σ8 = .inl e := by rw [← e8, s7]; rfl
        have s9 : σ9 = .inl e := by rw [← e9, s8]; rfl
        have s10 : σ10 = .inl e := by rw [← e10, s9]; rfl
        have s11 : σ11 = .inl e := by rw [← e11, s10]; rfl
        exact bad e s11
      | inr x3 =>
        have s3 : σ3 = .inr x3.1 := by rw [← e3, s2]; show pst (sTake b n 13 x2.1) = _; rw [z3]; rfl
        show ∃ m', _ ∧ _ ∧ RT m' N b n (eb (sWrk s q b n 0 x3.1) _)
        cases z4 : sWrk s q b n 0 x3.1 with
        | inl e =>
          have s4 : σ4 = .inl e := by rw [← e4, s3]; show pst (sWrk s q b n 0 x3.1) = _; rw [z4]; rfl
          have s5 : σ5 = .inl e := by rw [← e5, s4]; rfl
          have s6 : σ6 = .inl e := by rw [← e6, s5]; rfl
          have s7 : σ7 = .inl e := by rw [← e7, s6]; rfl
          have s8 : σ8 = .inl e := by rw [← e8, s7]; rfl
          have s9 : σ9 = .inl e := by rw [← e9, s8]; rfl
          have s10 : σ10 = .inl e := by rw [← e10, s9]; rfl
          have s11 : σ11 = .inl e := by rw [← e11, s10]; rfl
          exact bad e s11
        | inr x4 =>
          have s4 : σ4 = .inr x4.1 := by rw [← e4, s3]; show pst (sWrk s q b n 0 x3.1) = _; rw [z4]; rfl
          show ∃ m', _ ∧ _ ∧ RT m' N b n (eb (sTake b n 17 x4.1) _)
          cases z5 : sTake b n 17 x4.1 with
          | inl e =>
            have s5 : σ5 = .inl e := by rw [← e5, s4]; show pst (sTake b n 17 x4.1) = _; rw [z5]; rfl
            have s6 : σ6 = .inl e := by rw [← e6, s5]; rfl
            have s7 : σ7 = .inl e := by rw [← e7, s6]; rfl
            have s8 : σ8 = .inl e := by rw [← e8, s7]; rfl
            have s9 : σ9 = .inl e := by rw [← e9, s8]; rfl
            have s10 : σ10 = .inl e := by rw [← e10, s9]; rfl
            have s11 : σ11 = .inl e := by rw [← e11, s10]; rfl
            exact bad e s11
          | inr x5 =>
            have s5 : σ5 = .inr x5.1 := by rw [← e5, s4]; show pst (sTake b n 17 x4.1) = _; rw [z5]; rfl
            show ∃ m', _ ∧ _ ∧ RT m' N b n (eb (sPay s q b n x5.1) _)
            cases z6 : sPay s q b n x5.1 with
            | inl e =>
              have s6 : σ6 = .inl e := by rw [← e6, s5]; show pst (sPay s q b n x5.1) = _; rw [z6]; rfl
              have s7 : σ7 = .inl e := by rw [← e7, s6]; rfl
              have s8 : σ8 = .inl e := by rw [← e8, s7]; rfl
              have s9 : σ9 = .inl e := by rw [← e9, s8]; rfl
              have s10 : σ10 = .inl e := by rw [← e10, s9]; rfl
              have s11 : σ11 = .inl e := by rw [← e11, s10]; rfl
              exact bad e s11
            | inr x6 =>
              have s6 : σ6 = .inr x6.1 := by rw [← e6, s5]; show pst (sPay s q b n x5.1) = _; rw [z6]; rfl
              show ∃ m', _ ∧ _ ∧ RT m' N b n (eb (sNum b n 1 100 x6.1) _)
              cases z7 : sNum b n 1 100 x6.1 with
              | inl e =>
                have s7 : σ7 = .inl e := by rw [← e7, s6]; show pst (sNum b n 1 100 x6.1) = _; rw [z7]; rfl
                have s8 : σ8 = .inl e := by rw [← e8, s7]; rfl
                have s9 : σ9 = .inl e := by rw [← e9, s8]; rfl
                have s10 : σ10 = .inl e := by rw [← e10, s9]; rfl
                have s11 : σ11 = .inl e := by rw [← e11, s10]; rfl
                exact bad e s11
              | inr x7 =>
                have s7 : σ7 = .inr x7.1 := by rw [← e7, s6]; show pst (sNum b n 1 100 x6.1) = _; rw [z7]; rfl
                show ∃ m', _ ∧ _ ∧ RT m' N b n (eb (sTake b n 15 x7.1) _)
                cases z8 : sTake b n 15 x7.1 with
                | inl e =>
                  have s8 : σ8 = .inl e := by rw [← e8, s7]; show pst (sTake b n 15 x7.1) = _; rw [z8]; rfl
                  have s9 : σ9 = .inl e := by rw [← e9, s8]; rfl
                  have s10 : σ10 = .inl e := by rw [← e10, s9]; rfl
                  have s11 : σ11 = .inl e := by rw [← e11, s10]; rfl
                  exact bad e s11
                | inr x8 =>
                  have s8 : σ8 = .inr x8.1 := by rw [← e8, s7]; show pst (sTake b n 15 x7.1) = _; rw [z8]; rfl
                  show ∃ m', _ ∧ _ ∧ RT m' N b n (eb (sNum b n 0 9999 x8.1) _)
                  cases z9 : sNum b n 0 9999 x8.1 with
                  | inl e =>
                    have s9 : σ9 = .inl e := by rw [← e9, s8]; show pst (sNum b n 0 9999 x8.1) = _; rw [z9]; rfl
                    have s10 : σ10 = .inl e := by rw [← e10, s9]; rfl
                    have s11 : σ11 = .inl e := by rw [← e11, s10]; rfl
                    exact bad e s11
                  | inr x9 =>
                    have s9 : σ9 = .inr x9.1 := by rw [← e9, s8]; show pst (sNum b n 0 9999 x8.1) = _; rw [z9]; rfl
                    show ∃ m', _ ∧ _ ∧ RT m' N b n (eb (sTake b n 18 x9.1) _)
                    cases z10 : sTake b n 18 x9.1 with
                    | inl e =>
                      have s10 : σ10 = .inl e := by rw [← e10, s9]; show pst (sTake b n 18 x9.1) = _; rw [z10]; rfl
                      have s11 : σ11 = .inl e := by rw [← e11, s10]; rfl
                      exact bad e s11
                    | inr x10 =>
                      have s10 : σ10 = .inr x10.1 := by rw [← e10, s9]; show pst (sTake b n 18 x9.1) = _; rw [z10]; rfl
                      show ∃ m', _ ∧ _ ∧ RT m' N b n (eb (sNum b n 1 9999 x10.1) _)
                      cases z11 : sNum b n 1 9999 x10.1 with
                      | inl e =>
                        have s11 : σ11 = .inl e := by rw [← e11, s10]; show pst (sNum b n 1 9999 x10.1) = _; rw [z11]; rfl
                        exact bad e s11
                      | inr x11 =>
                        have s11 : σ11 = .inr x11.1 := by rw [← e11, s10]; show pst (sNum b n 1 9999 x10.1) = _; rw [z11]; rfl
                        have hv2 : v2 = nI x2.2 := w2 x2 (by rw [s1]; exact z2)
                        have hv4 : v4 = nI x4.2 := w4 x4 (by rw [s3]; exact z4)
                        have hv6 : v6 = nI x6.2 := w6 x6 (by rw [s5]; exact z6)
                        have hv7 : v7 = nI x7.2 := w7 x7 (by rw [s6]; exact z7)
                        have hv9 : v9 = nI x9.2 := w9 x9 (by rw [s8]; exact z9)
                        have hv11 : v11 = nI x11.2 := w11 x11 (by rw [s10]; exact z11)
                        subst hv2 hv4 hv6 hv7 hv9 hv11
                        have k1 := (sFst_i z1).1
                        have k2 := (sPay_i z2).2.2
                        have k4 := (sWrk_i z4).2.2.1
                        have k6 := (sPay_i z6).2.2
                        have k7 := (sNum_i z7).2.2.2
                        have k9 := (sNum_i z9).2.2.2
                        have k11 := (sNum_i z11).2.2.2
                        show ∃ m', _ ∧ _ ∧ RT m' N b n (eb (sSemi b n (whA s x2.2 x4.2 x6.2 x7.2 x9.2 x11.2) x11.1) _)
                        rw [s11] at h11 q1
                        rw [gs_r, tr_t] at q1
                        have hwA : whA s x2.2 x4.2 x6.2 x7.2 x9.2 x11.2 < 100 := by
                          unfold whA
                          split
                          · decide
                          · split
                            · split <;> decide
                            · decide
                        have e278 := y278 (sa := sa) (sv := sv) (d := d) hR11 hC hA x2.2 x4.2 x6.2 x7.2 x9.2 x11.2 (by omega) (by omega) (by omega) (by omega) (by omega) (by omega)
                        obtain ⟨ma, p1, p2, p3, p4⟩ := y279_111 (sa := sa) (sv := sv) (d := d + 1) h11 hR11 hC (nI x2.2) (nI x4.2) (nI x6.2) (nI x7.2) (nI x9.2) (nI x11.2) (whA s x2.2 x4.2 x6.2 x7.2 x9.2 x11.2) hwA none (fun _ => by omega)
                        refine ⟨ma, ?_, hF.trans p2, RT.fin p3 p4⟩
                        rw [c279, b279_0]
                        simp (disch := omega) only [gq_true, gb_true, gb_false, true_and, and_true, eq_self, not_false_eq_true, not_true_eq_false, true_or, or_true, false_or, or_false, false_and, and_false, c0_v, ci_v, cl_v, cf_v, pk_mul, nI_add, nI_clamp, nI_lt0, nI_0le, nI_eq0, nI_lt0r, nI_ltE, nI_leE, nI_eqE, nI_m1, in_t, ba0, ba1, Nat.one_ne_zero, Nat.reduceEqDiff, Nat.reduceLeDiff, Nat.add_eq_zero_iff, xk243 h.1, xr243_15 h.1, xk245 h.1, na, g1, xk243 h1.1, g2, xk243 h2.1, g3, xk243 h3.1, g4, xk243 h4.1, g5, xk243 h5.1, g6, xk243 h6.1, g7, xk243 h7.1, g8, xk243 h8.1, g9, xk243 h9.1, g10, xk243 h10.1, g11, xk243 h11.1, q1, e278]
                        exact p1
end R89
