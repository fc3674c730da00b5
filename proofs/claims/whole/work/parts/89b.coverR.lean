/-! a cover is read: the reference; what is always so stays so -/
section R89
variable {sa sv d N T n i B : Nat} {m : am_M} {b : Nat → Nat} {s s' : Nat → Int32} {q q' : Nat → Int64} {σ : Er ⊕ Nat} {L : List (Nat × Nat)}
theorem y272c (h : RQ m N b n (.inr i)) (hR : RS m N s q) (hG : WG B s q) (hk : ¬ Kd b n i = 1) : ∃ m', am_ca sa sv (d + 6) 272 [.ref (N + 243), .int (nI 1)] m = some (.inl none, m') ∧ Fr (RWr N) m m' ∧ RT m' N b n (sCV s q b n i) := by
  have hC := hG.1.1
  have hN := hG.1.2.2.2.2.2.2.2
  have hW := hG.1.2.1
  have hnw := isN_lt (wc_nw hC) (by decide)
  have nw : gi_ m (N + 245) 1 = nI (cN s 1) := (rs hR 1).trans ((wc_nw hC).c (by decide)).1
  obtain ⟨m1, g1, g2, g3⟩ := y261 (sa := sa) (sv := sv) (d := d + 2) h (fun j e => by rw [← Sum.inr.inj e]; exact hk) (cN s 1) 12 (by omega) (by decide)
  have hR1 := hR.h g2
  generalize e1 : pst (eb (.inr i) (sFst b n (cN s 1) 12)) = σ1 at *
  have e1' : pst (sFst b n (cN s 1) 12 i) = σ1 := e1
  obtain ⟨m2, v, k1, k2, k3, k4⟩ := y262 (sa := sa) (sv := sv) (d := d + 2) g3 hR1 hC hN
  have hR2 := hR1.h k2
  generalize e2 : pst (eb σ1 (sNew s q b n)) = σ2 at *
  obtain ⟨m5, p1, p2, p3⟩ := y239 (sa := sa) (sv := sv) (d := d + 2) k3 4 (by decide)
  have p1' : am_ca sa sv (d + 5) 239 [.ref (N + 243), .long (486 : Int64)] m2 = some (.inl none, m5) := p1
  have hR5 := hR2.h p2
  have p3' : RQ m5 N b n (pst (eb σ2 (sTake b n 11))) := p3
  clear p3
  generalize e5 : pst (eb σ2 (sTake b n 11)) = σ5 at *
  obtain ⟨m6, v6, r1, r2, r3, r4⟩ := y264 (sa := sa) (sv := sv) (d := d + 2) p3' hR5 hC hW hN 0 (-1) (nI 0) (Or.inl ⟨rfl, rfl, rfl⟩)
  have hR6 := hR5.h r2
  generalize e6 : pst (eb σ5 (sWrk s q b n 0)) = σ6 at *
  obtain ⟨m7, v7, t1, t2, t3, t4⟩ := y240 (sa := sa) (sv := sv) (d := d + 2) r3 1 90 (by decide) (by decide)
  have hR7 := hR6.h t2
  generalize e7 : pst (eb σ6 (sNum b n 1 90)) = σ7 at *
  obtain ⟨m3, L, l1, l2, l3, l4, l5⟩ := y266 (sa := sa) (sv := sv) (d := d) t3 hR7 hC hN
  have hR3 := hR7.sh l2
  generalize e3 : pst (eb σ7 (sShs s q b n)) = σ3 at *
  have hb : lsum L ≤ 100 * L.length := lsum_b fun j x hx => (l4.2.2 j x hx).2.1
  have hl4 := l4.2.1
  have hF3 : Fr (RWr N) m m3 := ((((g2.trans k2).trans p2).trans (r2.trans t2)).mono fun _ _ z => Or.inl z.sh).trans (l2.mono fun _ _ z => Or.inl z)
  obtain ⟨m4, n1, n2, n3⟩ := y272_80g (sa := sa) (sv := sv) (d := d + 2) l3 hR3 l4 hC hW v (if lsum L = 100 then 0 else 1) (by split <;> decide) (nI 1) v6 v7 none (fun z => by
    have a3 := gd_eb z
    rw [← e3] at a3
    have a7 := gd_eb a3
    rw [← e7] at a7
    have a6 := gd_eb a7
    rw [← e6] at a6
    have a5 := gd_eb a6
    rw [← e5] at a5
    have a2 := gd_eb a5
    rw [← e2] at a2
    have a1 := gd_eb a2
    rw [← e1'] at a1
    obtain ⟨x1, z1⟩ := gd_pst a1
    have := (sFst_i z1).1
    omega)
  generalize e4 : pst (eb σ3 (sFit b n (if lsum L = 100 then 0 else 1))) = σ4 at *
  have run : am_ca sa sv (d + 6) 272 [.ref (N + 243), .int (nI 1)] m = r272 sa sv (d + 5) 80 [some (.ref (N + 243)), some (.int (nI 1)), some (.long v), none, some (.int v6), some (.int v7), none] [.int (nI (if lsum L = 100 then 0 else 1)), .ref (N + 243)] m3 := by
    rw [c272, b272_0]
    simp (disch := omega) only [gq_true, gb_true, gb_false, true_and, and_true, eq_self, not_false_eq_true, not_true_eq_false, true_or, or_true, false_or, or_false, false_and, and_false, c0_v, ci_v, cl_v, cf_v, pk_mul, nI_add, nI_clamp, nI_lt0, nI_0le, nI_eq0, nI_lt0r, nI_ltE, nI_leE, nI_eqE, nI_m1, in_t, ba0, ba1, Nat.one_ne_zero, Nat.reduceEqDiff, Nat.reduceLeDiff, Nat.add_eq_zero_iff, xk243 h.1, xr243_15 h.1, xk245 h.1, nw, g1, xk243 g3.1, k1, xk243 k3.1, p1', xk243 p3'.1, r1]
    rw [b272_42]
    simp (disch := omega) only [gq_true, gb_true, gb_false, true_and, and_true, eq_self, not_false_eq_true, not_true_eq_false, true_or, or_true, false_or, or_false, false_and, and_false, c0_v, ci_v, cl_v, cf_v, pk_mul, nI_add, nI_clamp, nI_lt0, nI_0le, nI_eq0, nI_lt0r, nI_ltE, nI_leE, nI_eqE, nI_m1, in_t, ba0, ba1, Nat.one_ne_zero, Nat.reduceEqDiff, Nat.reduceLeDiff, Nat.add_eq_zero_iff, xk243 r3.1, t1, xk243 t3.1, l1, xk243 l3.1, y265 (sa := sa) (sv := sv) (d := d + 4) l3.1 l4]
    by_cases e : lsum L = 100
    · rw [gb_pos e, if_pos e]
    · rw [gb_neg e, if_neg e]
  have bad : gd_s σ4 = false → ∃ m', am_ca sa sv (d + 6) 272 [.ref (N + 243), .int (nI 1)] m = some (.inl none, m') ∧ Fr (RWr N) m m' ∧ RQ m' N b n σ4 := fun z => by
    rw [z, if_neg (by decide)] at n3
    exact ⟨m4, run.trans n3, hF3.trans n1, n2⟩
  unfold sCV
  cases z1 : sFst b n (cN s 1) 12 i with
  | inl e =>
    have s4 : σ4 = .inl e := by rw [← e4, ← e3, ← e7, ← e6, ← e5, ← e2, ← e1', z1]; rfl
    rw [s4] at bad
    exact bad rfl
  | inr x1 =>
    have s1 : σ1 = .inr x1.1 := by rw [← e1', z1]; rfl
    show ∃ m', _ ∧ _ ∧ RT m' N b n (eb (sNew s q b n x1.1) _)
    cases z2 : sNew s q b n x1.1 with
    | inl e =>
      have s2 : σ2 = .inl e := by rw [← e2, s1]; show pst (sNew s q b n x1.1) = _; rw [z2]; rfl
      have s4 : σ4 = .inl e := by rw [← e4, ← e3, ← e7, ← e6, ← e5, s2]; rfl
      rw [s4] at bad
      exact bad rfl
    | inr x2 =>
      have s2 : σ2 = .inr x2.1 := by rw [← e2, s1]; show pst (sNew s q b n x1.1) = _; rw [z2]; rfl
      show ∃ m', _ ∧ _ ∧ RT m' N b n (eb (sTake b n 11 x2.1) _)
      cases z5 : sTake b n 11 x2.1 with
      | inl e =>
        have s5 : σ5 = .inl e := by rw [← e5, s2]; show pst (sTake b n 11 x2.1) = _; rw [z5]; rfl
        have s4 : σ4 = .inl e := by rw [← e4, ← e3, ← e7, ← e6, s5]; rfl
        rw [s4] at bad
        exact bad rfl
      | inr x5 =>
        have s5 : σ5 = .inr x5.1 := by rw [← e5, s2]; show pst (sTake b n 11 x2.1) = _; rw [z5]; rfl
        show ∃ m', _ ∧ _ ∧ RT m' N b n (eb (sWrk s q b n 0 x5.1) _)
        cases z6 : sWrk s q b n 0 x5.1 with
        | inl e =>
          have s6 : σ6 = .inl e := by rw [← e6, s5]; show pst (sWrk s q b n 0 x5.1) = _; rw [z6]; rfl
          have s4 : σ4 = .inl e := by rw [← e4, ← e3, ← e7, s6]; rfl
          rw [s4] at bad
          exact bad rfl
        | inr x6 =>
          have s6 : σ6 = .inr x6.1 := by rw [← e6, s5]; show pst (sWrk s q b n 0 x5.1) = _; rw [z6]; rfl
          show ∃ m', _ ∧ _ ∧ RT m' N b n (eb (sNum b n 1 90 x6.1) _)
          cases z7 : sNum b n 1 90 x6.1 with
          | inl e =>
            have s7 : σ7 = .inl e := by rw [← e7, s6]; show pst (sNum b n 1 90 x6.1) = _; rw [z7]; rfl
            have s4 : σ4 = .inl e := by rw [← e4, ← e3, s7]; rfl
            rw [s4] at bad
            exact bad rfl
          | inr x7 =>
            have s7 : σ7 = .inr x7.1 := by rw [← e7, s6]; show pst (sNum b n 1 90 x6.1) = _; rw [z7]; rfl
            show ∃ m', _ ∧ _ ∧ RT m' N b n (eb (sShs s q b n x7.1) _)
            cases z3 : sShs s q b n x7.1 with
            | inl e =>
              have s3 : σ3 = .inl e := by rw [← e3, s7]; show pst (sShs s q b n x7.1) = _; rw [z3]; rfl
              have s4 : σ4 = .inl e := by rw [← e4, s3]; rfl
              rw [s4] at bad
              exact bad rfl
            | inr x3 =>
              have s3 : σ3 = .inr x3.1 := by rw [← e3, s7]; show pst (sShs s q b n x7.1) = _; rw [z3]; rfl
              have hv : v = x2.2 := k4 x2 (by rw [s1]; exact z2)
              have hv6 : v6 = nI x6.2 := r4 x6 (by rw [s5]; exact z6)
              have hv7 : v7 = nI x7.2 := t4 x7 (by rw [s6]; exact z7)
              have hL : L = x3.2 := l5 x3 (by rw [s7]; exact z3)
              subst hL hv hv6 hv7
              show ∃ m', _ ∧ _ ∧ RT m' N b n (eb (sSemi b n (if lsum x3.2 = 100 then 0 else 1) x3.1) _)
              have s4 : pst (eb (.inr x3.1) (sFit b n (if lsum x3.2 = 100 then 0 else 1))) = σ4 := by rw [← e4, s3]
              cases hg : gd_s σ4 with
              | false =>
                obtain ⟨m', j1, j2, j3⟩ := bad hg
                rw [← s4] at j3 hg
                exact ⟨m', j1, j2, RT.fin j3 (fun z => by rw [z] at hg; cases hg)⟩
              | true =>
                rw [if_pos hg] at n3
                have h12 := (sFst_i z1).1
                obtain ⟨m8, u1, u2, u3⟩ := y270 (sa := sa) (sv := sv) (d := d + 3) n3.2 (cN s 1) 0 x6.2 x7.2 (by omega) (by decide) ((splU_59 hl4).trans (ww_z hW _ (Nat.le_refl _) (by omega)).2)
                refine ⟨m8, ?_, hF3.trans (n1.trans (u2.mono fun _ _ z => Or.inr (Or.inl z))), ?_⟩
                · rw [run, n3.1, gb_neg (by decide), u1, c0_v]
                · rw [← s4] at n2
                  exact RT.fin (n2.fr u2 (fun a k z => ⟨XF.hi (by omega), by omega, fun _ => by omega⟩)) (fun _ => u3)
theorem sSemi_100 {i : Nat} {x : Nat × Unit} (h : sSemi b n (if lsum L = 100 then 0 else 1) i = .inr x) : lsum L = 100 := by
  have := (sSemi_i h).2.1
  split at this
  · assumption
  · cases this
theorem sWK_WG (hG : WG B s q) {x : Nat × ((Nat → Int32) × (Nat → Int64))} (h : sWK s q b n i = .inr x) : WG B x.2.1 x.2.2 := by
  have hnw := isN_lt (wc_nw hG.1.1) (by decide)
  obtain ⟨x1, z1, h⟩ := eb_r h
  obtain ⟨x2, z2, h⟩ := eb_r h
  obtain ⟨x3, z3, h⟩ := eb_r h
  obtain ⟨x4, z4, h⟩ := eb_r h
  have k1 := (sFst_i z1).1
  obtain ⟨k2, k3, k4, k5, k6⟩ := sNew_i z2
  rw [← Sum.inr.inj h]
  exact hG.work (by omega) (sShs_LG z3) (sSemi_100 z4) (by rw [k4]; exact Vl_gd k2) (wnm_new k6)
theorem sCV_WG (hG : WG B s q) {x : Nat × ((Nat → Int32) × (Nat → Int64))} (h : sCV s q b n i = .inr x) : WG B x.2.1 x.2.2 := by
  have hnw := isN_lt (wc_nw hG.1.1) (by decide)
  obtain ⟨x1, z1, h⟩ := eb_r h
  obtain ⟨x2, z2, h⟩ := eb_r h
  obtain ⟨x5, z5, h⟩ := eb_r h
  obtain ⟨x6, z6, h⟩ := eb_r h
  obtain ⟨x7, z7, h⟩ := eb_r h
  obtain ⟨x3, z3, h⟩ := eb_r h
  obtain ⟨x4, z4, h⟩ := eb_r h
  have k1 := (sFst_i z1).1
  obtain ⟨k2, k3, k4, k5, k6⟩ := sNew_i z2
  have hl := (sShs_LG z3).2.1
  have g := hG.work (by omega) (sShs_LG z3) (sSemi_100 z4) (by rw [k4]; exact Vl_gd k2) (wnm_new k6)
  have u1 : cN (splU (wk1 s) (cN s 1) 0 0 x3.2) 1 = cN s 1 + 1 := cN_ (splU_1 hl) (by omega)
  have u2 : cN (splU (wk1 s) (cN s 1) 0 0 x3.2) (59 + 48 * cN s 1) = 0 := cN_ ((splU_59 hl).trans (ww_z hG.1.2.1 _ (Nat.le_refl _) (by omega)).2) (by decide)
  have k8 := (sWrk_i z6).2.2.1
  have k9 := (sNum_i z7).2.2.2
  have g2 := g.source (w := cN s 1) (so := x6.2) (pc := x7.2) (by omega) (by omega) k8 (by omega) (by rw [u2]; show 0 + x7.2 ≤ 90; omega)
  rw [u2] at g2
  rw [← Sum.inr.inj h]
  exact g2
end R89
