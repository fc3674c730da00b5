/-! a script is read (reference): the loop over commands -/
section R89
variable {sa sv d N n B i T : Nat} {b : Nat → Nat} {m m' m0 : am_M} {s : Nat → Int32} {q : Nat → Int64} {σ : Er ⊕ Nat}
/-- how the reading of a script ends -/
def ScO (N n : Nat) (b : Nat → Nat) (m' : am_M) (z : Er ⊕ List Ins) : Prop := (∃ e, z = .inl e ∧ RQ m' N b n (.inl e)) ∨ ∃ C j, z = .inr C ∧ RQ m' N b n (.inr j) ∧ CdR m' N C ∧ C.length ≤ 60
theorem y353_e {e : Er} (h : RQ m N b n (.inl e)) (o1 : Option Value) : r353 sa sv (d + 1) 19 [some (.ref (N + 243)), o1] [] m = r353 sa sv (d + 1) 82 [some (.ref (N + 243)), o1] [] m := by
  have q := y235 (sa := sa) (sv := sv) (d := d) h
  rw [gs_l, tr_f] at q
  rw [b353_19]
  simp (disch := omega) only [gq_true, gb_true, gb_false, true_and, and_true, eq_self, not_false_eq_true, not_true_eq_false, true_or, or_true, false_or, or_false, false_and, and_false, c0_v, ci_v, cl_v, cf_v, pk_mul, nI_add, nI_clamp, nI_lt0, nI_0le, nI_eq0, nI_lt0r, nI_ltE, nI_leE, nI_eqE, nI_m1, in_t, ba0, ba1, Nat.one_ne_zero, Nat.reduceEqDiff, Nat.reduceLeDiff, Nat.add_eq_zero_iff, xk243 h.1, q]
theorem sCm_last {o W : Nat} {x : Nat × Ins} (h : sCm s q b n o W i = .inr x) : ¬ Kd b n (x.1 - 1) = 0 := by
  unfold sCm at h
  split at h
  · cases h
  rename_i hk
  split at h
  · cases h
  split at h
  · cases h
  have num : ∀ {lo hi p : Nat} {y : Nat × Nat}, sNum b n lo hi p = .inr y → ¬ Kd b n (y.1 - 1) = 0 := fun {lo hi p y} z => by
    obtain ⟨k1, k2, -, -⟩ := sNum_i z
    rw [k2, Nat.add_sub_cancel]
    omega
  split at h
  · obtain ⟨y, y1, h⟩ := eb_r h
    obtain ⟨z, z1, h⟩ := eb_r h
    rw [← Sum.inr.inj h]
    exact num z1
  split at h
  · obtain ⟨y, y1, h⟩ := eb_r h
    obtain ⟨z, z1, h⟩ := eb_r h
    rw [← Sum.inr.inj h]
    exact num z1
  split at h
  · obtain ⟨z, z1, h⟩ := eb_r h
    rw [← Sum.inr.inj h]
    exact num z1
  split at h
  · obtain ⟨y, y1, h⟩ := eb_r h
    obtain ⟨z, z1, h⟩ := eb_r h
    rw [← Sum.inr.inj h]
    exact num z1
  split at h
  · rename_i e
    rw [← Sum.inr.inj h]
    show ¬ Kd b n (i + 1 - 1) = 0
    rw [Nat.add_sub_cancel]
    omega
  · obtain ⟨y, y1, h⟩ := eb_r h
    obtain ⟨z, z1, h⟩ := eb_r h
    rw [← Sum.inr.inj h]
    obtain ⟨k1, k2⟩ := sTake_i z1
    show ¬ Kd b n (z.1 - 1) = 0
    rw [k2, Nat.add_sub_cancel]
    omega
theorem y353_19 (hG : WG B s q) (hT : Tk b n T) : ∀ (F i o W : Nat) (C : List Ins) (m : am_M) (o1 : Option Value), T ≤ i + F → i ≤ T → RQ m N b n (.inr i) → RS m N s q → CdR m N C → C.length + o ≤ 2 * W → W ≤ 30 → o ≤ 2 → gi_ m (N + 243) 40 = nI W → gi_ m (N + 243) 41 = nI o → ¬ (0 < o ∧ Kd b n i = 6) → ∃ m' o2, r353 sa sv (d + 6) 19 [some (.ref (N + 243)), o1] [] m = r353 sa sv (d + 6) 82 [some (.ref (N + 243)), o2] [] m' ∧ Fr (PRy N) m m' ∧ ScO N n b m' (sFx s q b n o W C i) := by
  -- the end of the text
  have fin : ∀ (i o W : Nat) (C : List Ins) (m : am_M) (o1 : Option Value), i ≤ T → RQ m N b n (.inr i) → CdR m N C → C.length + o ≤ 2 * W → W ≤ 30 → o ≤ 2 → gi_ m (N + 243) 41 = nI o → Kd b n i = 0 → ∃ m' o2, r353 sa sv (d + 6) 19 [some (.ref (N + 243)), o1] [] m = r353 sa sv (d + 6) 82 [some (.ref (N + 243)), o2] [] m' ∧ Fr (PRy N) m m' ∧ ScO N n b m' (sFx s q b n o W C i) := fun i o W C m o1 hi h h0 hL hW ho h41 k0 => by
    have hX := h.1
    have q1 := y235 (sa := sa) (sv := sv) (d := d + 5) h
    rw [gs_r, tr_t] at q1
    have k6 : gi_ m (N + 243) 6 = nI (srt (Kd b n i)) := h.2.2.2.2.2.2.2.1
    rw [k0, show srt 0 = 0 from rfl] at k6
    have t9 := hT.1
    rw [sFx_u (by omega), if_neg (by omega), if_pos k0]
    by_cases o0 : o = 0
    · rw [if_neg (by omega)]
      refine ⟨m, o1, ?_, Fr.refl _ _, Or.inr ⟨C, i, rfl, h, h0, by omega⟩⟩
      rw [b353_19]
      simp (disch := omega) only [gq_true, gb_true, gb_false, true_and, and_true, eq_self, not_false_eq_true, not_true_eq_false, true_or, or_true, false_or, or_false, false_and, and_false, c0_v, ci_v, cl_v, cf_v, pk_mul, nI_add, nI_clamp, nI_lt0, nI_0le, nI_eq0, nI_lt0r, nI_ltE, nI_leE, nI_eqE, nI_m1, in_t, ba0, ba1, Nat.one_ne_zero, Nat.reduceEqDiff, Nat.reduceLeDiff, Nat.add_eq_zero_iff, xk243 hX, q1, k6, h41, o0, nI_le0, Nat.le_refl]
    · rw [if_pos (by omega)]
      obtain ⟨m1, a1, a2, a3⟩ := y234 (sa := sa) (sv := sv) (d := d + 5) h 1 (by omega) (by omega) (fun _ => rfl)
      refine ⟨m1, o1, ?_, a2.mono fun a k z => Or.inl z, Or.inl ⟨_, rfl, a3⟩⟩
      rw [b353_19]
      simp (disch := omega) only [gq_true, gb_true, gb_false, true_and, and_true, eq_self, not_false_eq_true, not_true_eq_false, true_or, or_true, false_or, or_false, false_and, and_false, c0_v, ci_v, cl_v, cf_v, pk_mul, nI_add, nI_clamp, nI_lt0, nI_0le, nI_eq0, nI_lt0r, nI_ltE, nI_leE, nI_eqE, nI_m1, in_t, ba0, ba1, Nat.one_ne_zero, Nat.reduceEqDiff, Nat.reduceLeDiff, Nat.add_eq_zero_iff, xk243 hX, q1, k6, h41, nI_le0, eq_false o0, a1]
  intro F
  induction F with
  | zero =>
    intro i o W C m o1 hF hi h hR h0 hL hW ho h40 h41 hne
    have k0 : Kd b n i = 0 := by
      rcases Nat.eq_zero_or_pos (Kd b n i) with z | z
      · exact z
      · have := hT.2 i (by omega)
        omega
    exact fin i o W C m o1 hi h h0 hL hW ho h41 k0
  | succ F ih =>
    intro i o W C m o1 hF hi h hR h0 hL hW ho h40 h41 hne
    by_cases k0 : Kd b n i = 0
    · exact fin i o W C m o1 hi h h0 hL hW ho h41 k0
    · have hX := h.1
      have t9 := hT.1
      have it := hT.2 i k0
      have q1 := y235 (sa := sa) (sv := sv) (d := d + 5) h
      rw [gs_r, tr_t] at q1
      have k6 : gi_ m (N + 243) 6 = nI (srt (Kd b n i)) := h.2.2.2.2.2.2.2.1
      have hs : srt (Kd b n i) < 5 ∧ ¬ srt (Kd b n i) = 0 := by
        unfold srt
        rw [if_neg k0]
        repeat' split
        all_goals omega
      obtain ⟨m1, a1, a2, a3⟩ := y350 (sa := sa) (sv := sv) (d := d + 1) (o := o) h hR hG h0 (by omega) hW ho h40 h41
      have run : ∀ r, XS m1 N → (gb_ (gi_ m1 (N + 243) 41 = nI o) (gq_ (gk_ m1 (N + 243) = (1, 11)) (am_c0 (am_ca sa sv (d + 6) 238 [.ref (N + 243), .int (nI 59)] m1) (fun m12 => gq_ (gk_ m12 (N + 243) = (1, 11)) (am_c0 (am_ca sa sv (d + 6) 351 [.ref (N + 243)] m12) (fun m13 => r353 sa sv (d + 6) 19 [some (.ref (N + 243)), some (.int (nI o))] [] m13) am_xg)) am_xg)) (gq_ (gk_ m1 (N + 243) = (1, 11)) (am_c0 (am_ca sa sv (d + 6) 351 [.ref (N + 243)] m1) (fun m11 => r353 sa sv (d + 6) 19 [some (.ref (N + 243)), some (.int (nI o))] [] m11) am_xg))) = r → r353 sa sv (d + 6) 19 [some (.ref (N + 243)), o1] [] m = r := fun r hX1 hr => by
        rw [b353_19]
        simp (disch := omega) only [gq_true, gb_true, gb_false, true_and, and_true, eq_self, not_false_eq_true, not_true_eq_false, true_or, or_true, false_or, or_false, false_and, and_false, c0_v, ci_v, cl_v, cf_v, pk_mul, nI_add, nI_clamp, nI_lt0, nI_0le, nI_eq0, nI_lt0r, nI_ltE, nI_leE, nI_eqE, nI_m1, in_t, ba0, ba1, Nat.one_ne_zero, Nat.reduceEqDiff, Nat.reduceLeDiff, Nat.add_eq_zero_iff, xk243 hX, q1, k6, eq_false hs.2, a1, xk243 hX1, h41]
        simp (disch := omega) only [gq_true, gb_true, gb_false, true_and, and_true, eq_self, not_false_eq_true, not_true_eq_false, true_or, or_true, false_or, or_false, false_and, and_false, c0_v, ci_v, cl_v, cf_v, pk_mul, nI_add, nI_clamp, nI_lt0, nI_0le, nI_eq0, nI_lt0r, nI_ltE, nI_leE, nI_eqE, nI_m1, in_t, ba0, ba1, Nat.one_ne_zero, Nat.reduceEqDiff, Nat.reduceLeDiff, Nat.add_eq_zero_iff, xk243 hX1] at hr
        exact hr
      have nxt : ∀ (m2 : am_M), (∃ e, sFx s q b n o W C i = .inl e ∧ RQ m2 N b n (.inl e)) → ∃ o2, am_c0 (am_ca sa sv (d + 6) 351 [.ref (N + 243)] m2) (fun m13 => r353 sa sv (d + 6) 19 [some (.ref (N + 243)), some (.int (nI o))] [] m13) am_xg = r353 sa sv (d + 6) 82 [some (.ref (N + 243)), o2] [] m2 := fun m2 hm => by
        obtain ⟨e, -, he⟩ := hm
        refine ⟨some (.int (nI o)), ?_⟩
        rw [c351, y351_e he, c0_v, y353_e he]
      rw [sFx_u (by omega), if_neg hne, if_neg k0]
      have eqn : sFx s q b n o W C i = eb (sCm s q b n o W i) fun x => if x.2.1 = 27 then sFx s q b n (o + 1) (W + 1) (C ++ [x.2]) x.1 else if Kd b n x.1 = 4 then sFx s q b n o (W + 1) (C ++ [x.2]) (x.1 + 1) else rr_ b n 1 x.1 := by
        rw [sFx_u (by omega), if_neg hne, if_neg k0]
      cases z : sCm s q b n o W i with
      | inl e =>
        rw [z] at a3
        rw [z, eb_l] at eqn
        rw [eb_l]
        have a3' : RQ m1 N b n (.inl e) := a3
        obtain ⟨m2, b1, b2, b3⟩ := y238 (sa := sa) (sv := sv) (d := d + 3) a3' 4 59 (Or.inl ⟨rfl, rfl⟩)
        have b3' : RQ m2 N b n (.inl e) := b3
        by_cases e41 : gi_ m1 (N + 243) 41 = nI o
        · obtain ⟨o2, w⟩ := nxt m2 ⟨e, eqn, b3'⟩
          refine ⟨m2, o2, run _ a3'.1 ?_, a2.trans (b2.mono fun a k z => Or.inl z), Or.inl ⟨e, rfl, b3'⟩⟩
          rw [gb_pos e41]
          simp (disch := omega) only [gq_true, gb_true, gb_false, true_and, and_true, eq_self, not_false_eq_true, not_true_eq_false, true_or, or_true, false_or, or_false, false_and, and_false, c0_v, ci_v, cl_v, cf_v, pk_mul, nI_add, nI_clamp, nI_lt0, nI_0le, nI_eq0, nI_lt0r, nI_ltE, nI_leE, nI_eqE, nI_m1, in_t, ba0, ba1, Nat.one_ne_zero, Nat.reduceEqDiff, Nat.reduceLeDiff, Nat.add_eq_zero_iff, xk243 a3'.1, b1, xk243 b3'.1]
          exact w
        · obtain ⟨o2, w⟩ := nxt m1 ⟨e, eqn, a3'⟩
          refine ⟨m1, o2, run _ a3'.1 ?_, a2, Or.inl ⟨e, rfl, a3'⟩⟩
          rw [gb_neg e41]
          simp (disch := omega) only [gq_true, gb_true, gb_false, true_and, and_true, eq_self, not_false_eq_true, not_true_eq_false, true_or, or_true, false_or, or_false, false_and, and_false, c0_v, ci_v, cl_v, cf_v, pk_mul, nI_add, nI_clamp, nI_lt0, nI_0le, nI_eq0, nI_lt0r, nI_ltE, nI_leE, nI_eqE, nI_m1, in_t, ba0, ba1, Nat.one_ne_zero, Nat.reduceEqDiff, Nat.reduceLeDiff, Nat.add_eq_zero_iff, xk243 a3'.1]
          exact w
      | inr x =>
        rw [z] at a3
        rw [eb_i]
        obtain ⟨a3, a4, a5, a6⟩ := a3
        obtain ⟨x1, x2, x3, x4⟩ := sCm_i z
        have xT : x.1 ≤ T := by
          have := hT.2 (x.1 - 1) (sCm_last z)
          omega
        have len : (C ++ [x.2]).length = C.length + 1 := by rw [List.length_append]; rfl
        -- the rest behind the brackets
        have rest : ∀ (m2 : am_M) (zz : Er ⊕ List Ins) (i0 : Nat), i + 1 ≤ i0 → i0 ≤ T → Fr (PRy N) m m2 → (∃ m', r351 sa sv (d + 5) 0 [some (.ref (N + 243))] [] m2 = some (.inl none, m') ∧ EnO N n i0 b s q m2 m' zz) → ∃ m' o2, am_c0 (am_ca sa sv (d + 6) 351 [.ref (N + 243)] m2) (fun m13 => r353 sa sv (d + 6) 19 [some (.ref (N + 243)), some (.int (nI o))] [] m13) am_xg = r353 sa sv (d + 6) 82 [some (.ref (N + 243)), o2] [] m' ∧ Fr (PRy N) m m' ∧ ScO N n b m' zz := fun m2 zz i0 hi0 hi1 f2 hh => by
          obtain ⟨m3, g1, g2, g3⟩ := hh
          rcases g3 with ⟨e, g3, g4⟩ | ⟨o', W', C', j, t1, t2, t3, t4, t5, t6, t7, t8, t9', t10, t11⟩
          · refine ⟨m3, some (.int (nI o)), ?_, f2.trans g2, Or.inl ⟨e, g3, g4⟩⟩
            rw [c351, g1, c0_v, y353_e g4]
          · have jT : j ≤ T := by
              rcases t10.2 with z | z
              · omega
              · have := hT.2 (j - 1) z.2
                omega
            obtain ⟨m4, o2, u1, u2, u3⟩ := ih j o' W' C' m3 (some (.int (nI o))) (by omega) jT t1 (hR.y (f2.trans g2)) t2 t3 t4 t5 t6 t7 t8
            refine ⟨m4, o2, ?_, (f2.trans g2).trans u2, by rw [t11]; exact u3⟩
            rw [c351, g1, c0_v]
            exact u1
        have W29 : W + 1 ≤ 30 := by omega
        by_cases k27 : x.2.1 = 27
        · rw [if_pos k27]
          rw [if_pos k27] at a6
          have o1' : o + 1 ≤ 2 := by
            rcases x4 with x4 | x4
            · omega
            · exact absurd k27 x4.1
          obtain ⟨m', o2, u1, u2, u3⟩ := rest m1 _ x.1 (by omega) xT a2 (y351_0 (sa := sa) (sv := sv) (d := d + 2) (s := s) (q := q) hT (o + 1) x.1 (W + 1) (C ++ [x.2]) m1 xT a3 a4 (by rw [len]; omega) W29 o1' a5 a6)
          refine ⟨m', o2, run _ a3.1 ?_, u2, u3⟩
          rw [a6, gb_neg (fun z => by
            have := (nI_eq (a := o + 1) (b := o) (by omega) (by omega)).mp z
            omega)]
          simp (disch := omega) only [gq_true, gb_true, gb_false, true_and, and_true, eq_self, not_false_eq_true, not_true_eq_false, true_or, or_true, false_or, or_false, false_and, and_false, c0_v, ci_v, cl_v, cf_v, pk_mul, nI_add, nI_clamp, nI_lt0, nI_0le, nI_eq0, nI_lt0r, nI_ltE, nI_leE, nI_eqE, nI_m1, in_t, ba0, ba1, Nat.one_ne_zero, Nat.reduceEqDiff, Nat.reduceLeDiff, Nat.add_eq_zero_iff, xk243 a3.1]
          exact u1
        · rw [if_neg k27]
          rw [if_neg k27] at a6
          have a6 : gi_ m1 (N + 243) 41 = nI o := a6
          obtain ⟨m2, b1, b2, b3⟩ := y238 (sa := sa) (sv := sv) (d := d + 3) a3 4 59 (Or.inl ⟨rfl, rfl⟩)
          have hb : pst (eb (.inr x.1) (sTake b n 4)) = if Kd b n x.1 = 4 then .inr (x.1 + 1) else rr_ b n 1 x.1 := by
            show pst (sTake b n 4 x.1) = _
            unfold sTake
            by_cases z : Kd b n x.1 = 4
            · rw [if_pos z, if_pos z]; rfl
            · rw [if_neg z, if_neg z]; rfl
          rw [hb] at b3
          have f2 : Fr (PRy N) m m2 := a2.trans (b2.mono fun a k z => Or.inl z)
          by_cases k4 : Kd b n x.1 = 4
          · rw [if_pos k4] at b3 ⊢
            have xT2 := hT.2 x.1 (by omega)
            have c2 : CdR m2 N (C ++ [x.2]) := ⟨(b2.2.1 _ _ (by unfold RH; omega)).trans a4.1, fun k y hy => by
              obtain ⟨g0, g1, g2⟩ := a4.2 k y hy
              exact ⟨(b2.2.1 _ _ (by unfold RH; omega)).trans g0, fun z z2 => (b2.2.1 _ _ (by unfold RH; omega)).trans (g1 z z2), fun z => (b2.2.1 _ _ (by unfold RH; omega)).trans (g2 z)⟩⟩
            obtain ⟨m', o2, u1, u2, u3⟩ := rest m2 _ (x.1 + 1) (by omega) (by omega) f2 (y351_0 (sa := sa) (sv := sv) (d := d + 2) (s := s) (q := q) hT o (x.1 + 1) (W + 1) (C ++ [x.2]) m2 (by omega) b3 c2 (by rw [len]; omega) W29 ho ((b2.2.1 _ _ (by unfold RH; omega)).trans a5) ((b2.2.1 _ _ (by unfold RH; omega)).trans a6))
            refine ⟨m', o2, run _ a3.1 ?_, u2, u3⟩
            rw [gb_pos a6]
            simp (disch := omega) only [gq_true, gb_true, gb_false, true_and, and_true, eq_self, not_false_eq_true, not_true_eq_false, true_or, or_true, false_or, or_false, false_and, and_false, c0_v, ci_v, cl_v, cf_v, pk_mul, nI_add, nI_clamp, nI_lt0, nI_0le, nI_eq0, nI_lt0r, nI_ltE, nI_leE, nI_eqE, nI_m1, in_t, ba0, ba1, Nat.one_ne_zero, Nat.reduceEqDiff, Nat.reduceLeDiff, Nat.add_eq_zero_iff, xk243 a3.1, b1, xk243 b3.1]
            exact u1
          · rw [if_neg k4] at b3 ⊢
            have b3' : RQ m2 N b n (.inl (1, St b n x.1, 0)) := b3
            obtain ⟨o2, w⟩ := nxt m2 ⟨_, by rw [eqn, z, eb_i, if_neg k27, if_neg k4]; rfl, b3'⟩
            refine ⟨m2, o2, run _ a3.1 ?_, f2, Or.inl ⟨_, rfl, b3'⟩⟩
            rw [gb_pos a6]
            simp (disch := omega) only [gq_true, gb_true, gb_false, true_and, and_true, eq_self, not_false_eq_true, not_true_eq_false, true_or, or_true, false_or, or_false, false_and, and_false, c0_v, ci_v, cl_v, cf_v, pk_mul, nI_add, nI_clamp, nI_lt0, nI_0le, nI_eq0, nI_lt0r, nI_ltE, nI_leE, nI_eqE, nI_m1, in_t, ba0, ba1, Nat.one_ne_zero, Nat.reduceEqDiff, Nat.reduceLeDiff, Nat.add_eq_zero_iff, xk243 a3.1, b1, xk243 b3'.1]
            exact w
end R89
