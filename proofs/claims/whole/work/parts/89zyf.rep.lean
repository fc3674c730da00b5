/-! a script is read (class) -/
theorem eb_l {α β : Type} (e : Er) (f : α → Er ⊕ β) : eb (.inl e) f = .inl e := rfl
theorem eb_i {α β : Type} (x : α) (f : α → Er ⊕ β) : eb (.inr x) f = f x := rfl
section I89
variable {sa sv d N o oo T n B W i j K a : Nat} {b : Nat → Nat} {m m' : am_M} {s : Nat → Int32} {q : Nat → Int64} {P : Nat → Nat → Prop}
theorem PC.cell {m m' : am_M} {V : Nat} (h : Fr (PC N V) m m') : ∀ c, c < 4 * V → gi_ m' (N + 12) c = gi_ m (N + 12) c := fun c hc => h.2.1 _ _ (fun z => by
  rcases z with z | z | z
  · have := z.1; omega
  · omega
  · omega)
def opC : (k : Nat) → Ins → Cm k
  | 0, x => x
  | _ + 1, x => .inl x
theorem opC_r {g : Nat → Int32} {x : Ins} : ∀ k, RwO g W x → InG s x → RwI g s k W (W + 1) (opC k x)
  | 0, h1, h2 => ⟨rfl, h1, h2⟩
  | _ + 1, h1, h2 => ⟨rfl, h1, h2⟩
theorem opC_f (x : Ins) : ∀ k, flI k (opC k x) = [x]
  | 0 => rfl
  | _ + 1 => rfl
theorem rd_op (k : Nat) (h : CT m N b n T i) (hS : SC m N o s q W) (hG : WG B s q) (hW : W ≤ 30) (hne : ¬ Kd b n i = eK (2 - k)) (hk : ¬ Kd b n i = 27) : RdC k N o T n b s q m i W (am_ca sa sv (d + 3) 105 [.ref (N + 13), .int (nI (2 - k))] m) := by
  have c := x105 (sa := sa) (sv := sv) (d := d) (oo := 2 - k) h hS hG hW (by omega) hk
  have hi9 := h.Tn
  cases z : sCm s q b n (2 - k) W i with
  | inl e =>
    rw [z] at c
    obtain ⟨m', c1, c2, c3, c4, c5⟩ := c
    refine Or.inl ⟨e, m', c1, c2.mono fun a k z => z.w, c3, c4, c5, fun C => ?_⟩
    show sFx s q b n (2 - k) W C i = _
    rw [sFx_c (by omega) hne, z, eb_l]
  | inr x =>
    rw [z] at c
    obtain ⟨m', c1, c2, c3, c4, c5⟩ := c
    obtain ⟨i1, i2, i3, i4⟩ := sCm_i z
    have n27 : ¬ x.2.1 = 27 := by rw [i3]; exact hk
    have iG : InG s x.2 := by
      rcases i4 with i4 | i4
      · exact absurd i4.1 n27
      · exact i4.2
    refine Or.inr ⟨m', x.1, W + 1, opC k x.2, c1, c2.mono fun a k z => z.w, c3, c4, i1, by omega, by omega, opC_r k c5 iG, fun C => ?_, PC.cell c2⟩
    rw [sFx_c (by omega) hne, z, opC_f, eb_i, if_neg n27]
theorem rd_rep (k : Nat) (hk2 : k + 1 ≤ 2) (ih : ∀ (m : am_M) (i W : Nat), CT m N b n T i → SC m N o s q W → W ≤ 30 → RdL k N o T n b s q m i W (am_ca sa sv (d + 4) 104 [.ref (N + 13), .int (nI (2 - k))] m)) (h : CT m N b n T i) (hS : SC m N o s q W) (hW : W ≤ 30) (hk : Kd b n i = 27) : RdC (k + 1) N o T n b s q m i W (am_ca sa sv (d + 6) 105 [.ref (N + 13), .int (nI (2 - (k + 1)))] m) := by
  have hi9 := h.Tn
  have oo1 : 2 - (k + 1) + 1 = 2 - k := by omega
  have hne : ¬ Kd b n i = eK (2 - (k + 1)) := by
    unfold eK
    split <;> omega
  have hi := h.lt (by omega)
  have z2 : (N + 2 = 0) = False := eq_false (by omega)
  have z10 : (N + 10 = 0) = False := eq_false (by omega)
  have z11 : (N + 11 = 0) = False := eq_false (by omega)
  by_cases w30 : W = 30
  · have c := x105_0 (sa := sa) (sv := sv) (d := d + 3) (oo := 2 - (k + 1)) h hS hW (by omega) (Q := QC N o T n W b s q) (fun i => sCt s q b n i) (fun l3 h1 h2 h3 => absurd w30 (by omega))
    rw [if_neg (fun z => z (Or.inr (by omega))), if_neg (fun z => by omega), if_pos w30] at c
    obtain ⟨m', c1, c2, c3, c4, c5⟩ := c
    refine Or.inl ⟨_, m', c1, c2.mono fun a k z => z.w, c3, c4, c5, fun C => ?_⟩
    show sFx s q b n (2 - (k + 1)) W C i = _
    rw [sFx_c (by omega) hne, sCm_t, if_neg (fun z => z (Or.inr (by omega))), if_neg (fun z => by omega), if_pos w30]
    unfold rr_
    rw [eb_l]
  · have hX := h.1
    have eC : ∀ C, sFx s q b n (2 - (k + 1)) W C i = eb (sNum b n 1 20 (i + 1)) fun x => eb (sTake b n 5 x.1) fun y => sFx s q b n (2 - k) (W + 1) (C ++ [(27, x.2, 0)]) y.1 := fun C => by
      rw [sFx_c (by omega) hne, sCm_t, if_neg (fun z => z (Or.inr (by omega))), if_neg (fun z => by omega), if_neg w30]
      unfold sCt
      rw [if_neg (by omega), if_neg (by omega), if_neg (by omega), if_neg (by omega), if_neg (by omega), oo1, eb_eb]
      cases sNum b n 1 20 (i + 1) with
      | inl e => rw [eb_l, eb_l]
      | inr x =>
        rw [eb_i, eb_i, eb_eb]
        cases sTake b n 5 x.1 with
        | inl e => rw [eb_l, eb_l]
        | inr y => rw [eb_i, eb_i, eb_i, if_pos rfl]
    -- the table's row is begun
    have q143 : am_ca sa sv (d + 5) 143 [.ref (N + 2)] m = some (.inl none, stp m N (i + 1)) := x143 (sa := sa) (sv := sv) (d := d + 4) h hi
    have t1 : CT (stp m N (i + 1)) N b n T (i + 1) := h.set (by omega)
    have S1 := hS.stp (i + 1)
    have q97 := x97 (sa := sa) (sv := sv) (d := d + 3) t1.1 S1.2.2.2.2 (show W < 30 by omega) 27
    obtain ⟨t2, S2, g2⟩ := m97_t t1 S1 27
    have hf2 : Fr (PC N W) m (m97 (stp m N (i + 1)) N W 27) := ((Fr.refl (PC N W) m).si (Or.inl ⟨rfl, by omega, by omega⟩) : Fr (PC N W) m (stp m N (i + 1))).trans (m97_fr _ _ _ _)
    generalize hm2 : m97 (stp m N (i + 1)) N W 27 = m2 at *
    have hX1 := t1.1
    have hX2 := t2.1
    have run : ∀ r, am_c0 (am_ca sa sv (d + 5) 107 [.ref (N + 13), .int (nI W), .int (nI (2 - (k + 1)))] m2) (fun m43 => some (.inl none, m43)) am_xg = r → ∀ l3, r105 sa sv (d + 5) 87 [some (.ref (N + 13)), some (.int (nI (2 - (k + 1)))), some (.int (nI (Kd b n i))), some (.int (nI l3)), none] [] m = r := fun r hr l3 => by
      rw [hk, b105_87]
      simp (disch := omega) only [gq_true, gb_true, gb_false, true_and, and_true, eq_self, not_false_eq_true, not_true_eq_false, true_or, or_true, false_or, or_false, false_and, and_false, c0_v, ci_v, cl_v, cf_v, pk_mul, nI_add, nI_clamp, nI_lt0, nI_0le, nI_eq0, nI_lt0r, nI_ltE, nI_leE, nI_eqE, nI_m1, in_t, ba0, ba1, Nat.one_ne_zero, Nat.reduceEqDiff, Nat.reduceLeDiff, Nat.add_eq_zero_iff, xk13 hX, xr13_0 hX, xk2 hX, z2, q143, xk13 hX1, xr13_1 hX1, xk10 hX1, z10, q97, xk13 hX2]
      exact hr
    have head : ∀ r, am_c0 (am_ca sa sv (d + 5) 107 [.ref (N + 13), .int (nI W), .int (nI (2 - (k + 1)))] m2) (fun m43 => some (.inl none, m43)) am_xg = r → am_ca sa sv (d + 6) 105 [.ref (N + 13), .int (nI (2 - (k + 1)))] m = r := fun r hr => by
      have q142 := x142 (sa := sa) (sv := sv) (d := d + 4) h
      have rW : gi_ m (N + 11) 2 = nI W := hS.2.2.2.2
      rw [c105, b105_0]
      simp (disch := omega) only [gq_true, gb_true, gb_false, true_and, and_true, eq_self, not_false_eq_true, not_true_eq_false, true_or, or_true, false_or, or_false, false_and, and_false, c0_v, ci_v, cl_v, cf_v, pk_mul, nI_add, nI_clamp, nI_lt0, nI_0le, nI_eq0, nI_lt0r, nI_ltE, nI_leE, nI_eqE, nI_m1, in_t, ba0, ba1, Nat.one_ne_zero, Nat.reduceEqDiff, Nat.reduceLeDiff, Nat.add_eq_zero_iff, xk13 hX, xr13_0 hX, xk2 hX, z2, q142, hk, eq_false (show ¬ 27 < 23 by omega), Nat.lt_irrefl]
      rw [b105_44]
      simp (disch := omega) only [gq_true, gb_true, gb_false, true_and, and_true, eq_self, not_false_eq_true, not_true_eq_false, true_or, or_true, false_or, or_false, false_and, and_false, c0_v, ci_v, cl_v, cf_v, pk_mul, nI_add, nI_clamp, nI_lt0, nI_0le, nI_eq0, nI_lt0r, nI_ltE, nI_leE, nI_eqE, nI_m1, in_t, ba0, ba1, Nat.one_ne_zero, Nat.reduceEqDiff, Nat.reduceLeDiff, Nat.add_eq_zero_iff, eq_true (show 2 - (k + 1) < 2 by omega), xk13 hX, xr13_1 hX, xk10 hX, xr10_0 hX, xk11 hX, z10, z11, rW, eq_true (show W < 30 by omega)]
      have := run r hr 1
      rw [hk] at this
      exact this
    have q145 := x145 (sa := sa) (sv := sv) (d := d + 2) t2 1 20 (by omega) (by omega)
    cases zn : sNum b n 1 20 (i + 1) with
    | inl e =>
      rw [zn] at q145
      obtain ⟨m3, b1, b2, b3, b4, b5⟩ := q145
      refine Or.inl ⟨e, m3, head _ ?_, (hf2.mono fun a k z => z.w).trans (b2.mono fun a k z => Or.inl z), b3, b4, b5, fun C => ?_⟩
      · rw [c107, b107_0]
        simp (disch := omega) only [gq_true, gb_true, gb_false, true_and, and_true, eq_self, not_false_eq_true, not_true_eq_false, true_or, or_true, false_or, or_false, false_and, and_false, c0_v, ci_v, cl_v, cf_v, pk_mul, nI_add, nI_clamp, nI_lt0, nI_0le, nI_eq0, nI_lt0r, nI_ltE, nI_leE, nI_eqE, nI_m1, in_t, ba0, ba1, Nat.one_ne_zero, Nat.reduceEqDiff, Nat.reduceLeDiff, Nat.add_eq_zero_iff, xk13 hX2, xr13_0 hX2, xr13_1 hX2, xr10_0 hX2, xk10 hX2, xk2 hX2, z2, z10, z11, b1, ci_x, c0_x, xg_v]
      · show sFx s q b n (2 - (k + 1)) W C i = _
        rw [eC, zn, eb_l]
    | inr x =>
      rw [zn] at q145
      have q145' : am_ca sa sv (d + 4) 145 [.ref (N + 2), .int (nI 1), .int (nI 20)] m2 = some (.inl (some (.int (nI x.2))), stp m2 N x.1) := q145
      obtain ⟨n1, n2, n3, n4⟩ := sNum_i zn
      have l3 := t2.lt (by rw [n1]; omega)
      have t3 : CT (stp m2 N x.1) N b n T x.1 := t2.set (by omega)
      have S3 := S2.stp x.1
      have g3 : gi_ (stp m2 N x.1) (N + 12) (W * 4) = nI 27 := (if_neg (by omega)).trans g2
      obtain ⟨u1, u2, u3, u4, u5⟩ := put1 (a := x.2) t3 S3 g3
      have q128 := x128c (sa := sa) (sv := sv) (d := d + 3) t3.1 W 1 (show W < 30 by omega) (by omega) (nI x.2)
      have f3 : Fr (PC N W) m2 (stp m2 N x.1) := (Fr.refl (PC N W) m2).si (Or.inl ⟨rfl, by omega, by omega⟩)
      have f4 := (hf2.trans f3).trans u5
      generalize hm4 : si_ (stp m2 N x.1) (N + 12) (W * 4 + 1) (nI x.2) = m4 at *
      have hX3 := t3.1
      have hX4 := u1.1
      have q144 := x144 (sa := sa) (sv := sv) (d := d + 2) u1 5 (by omega) (by omega)
      cases zt : sTake b n 5 x.1 with
      | inl e =>
        rw [zt] at q144
        obtain ⟨m5, b1, b2, b3, b4, b5⟩ := q144
        refine Or.inl ⟨e, m5, head _ ?_, (f4.mono fun a k z => z.w).trans (b2.mono fun a k z => Or.inl z), b3, b4, b5, fun C => ?_⟩
        · rw [c107, b107_0]
          simp (disch := omega) only [gq_true, gb_true, gb_false, true_and, and_true, eq_self, not_false_eq_true, not_true_eq_false, true_or, or_true, false_or, or_false, false_and, and_false, c0_v, ci_v, cl_v, cf_v, pk_mul, nI_add, nI_clamp, nI_lt0, nI_0le, nI_eq0, nI_lt0r, nI_ltE, nI_leE, nI_eqE, nI_m1, in_t, ba0, ba1, Nat.one_ne_zero, Nat.reduceEqDiff, Nat.reduceLeDiff, Nat.add_eq_zero_iff, xk13 hX2, xr13_0 hX2, xr13_1 hX2, xr10_0 hX2, xk10 hX2, xk2 hX2, z2, z10, z11, q145', xk11 hX3, q128, xk13 hX4, xr13_0 hX4, xk2 hX4, b1, c0_x, xg_v]
        · show sFx s q b n (2 - (k + 1)) W C i = _
          rw [eC, zn, eb_i, zt, eb_l]
      | inr y =>
        rw [zt] at q144
        have q144' : am_ca sa sv (d + 4) 144 [.ref (N + 2), .int (nI 5)] m4 = some (.inl none, stp m4 N y.1) := q144
        obtain ⟨y1, y2⟩ := sTake_i zt
        have l5 := u1.lt (by rw [y1]; omega)
        have t5 : CT (stp m4 N y.1) N b n T y.1 := u1.set (by omega)
        have S5 := u2.stp y.1
        have f5 : Fr (PC N W) m4 (stp m4 N y.1) := (Fr.refl (PC N W) m4).si (Or.inl ⟨rfl, by omega, by omega⟩)
        have g5 : gi_ (stp m4 N y.1) (N + 12) (W * 4) = nI 27 := (if_neg (by omega)).trans u3
        have g5' : gi_ (stp m4 N y.1) (N + 12) (W * 4 + 1) = nI x.2 := (if_neg (by omega)).trans u4
        have f05 := f4.trans f5
        have hX5 := t5.1
        have eC2 : ∀ C, sFx s q b n (2 - (k + 1)) W C i = sFx s q b n (2 - k) (W + 1) (C ++ [(27, x.2, 0)]) y.1 := fun C => by
          rw [eC, zn, eb_i, zt, eb_i]
        have run2 : ∀ r, am_c0 (am_ca sa sv (d + 4) 104 [.ref (N + 13), .int (nI (2 - k))] (stp m4 N y.1)) (fun m5 => r107 sa sv (d + 4) 42 [some (.ref (N + 13)), some (.int (nI W)), some (.int (nI (2 - (k + 1))))] [] m5) am_xg = r → am_ca sa sv (d + 5) 107 [.ref (N + 13), .int (nI W), .int (nI (2 - (k + 1)))] m2 = r := fun r hr => by
          rw [c107, b107_0]
          simp (disch := omega) only [gq_true, gb_true, gb_false, true_and, and_true, eq_self, not_false_eq_true, not_true_eq_false, true_or, or_true, false_or, or_false, false_and, and_false, c0_v, ci_v, cl_v, cf_v, pk_mul, nI_add, nI_clamp, nI_lt0, nI_0le, nI_eq0, nI_lt0r, nI_ltE, nI_leE, nI_eqE, nI_m1, in_t, ba0, ba1, Nat.one_ne_zero, Nat.reduceEqDiff, Nat.reduceLeDiff, Nat.add_eq_zero_iff, xk13 hX2, xr13_0 hX2, xr13_1 hX2, xr10_0 hX2, xk10 hX2, xk2 hX2, z2, z10, z11, q145', xk11 hX3, q128, xk13 hX4, xr13_0 hX4, xk2 hX4, q144', eq_false (show ¬ 2 ≤ 2 - (k + 1) by omega), xk13 hX5, oo1]
          exact hr
        rcases ih (stp m4 N y.1) y.1 (W + 1) t5 S5 (by omega) with ⟨er, m', c1, c2, c3, c4, c5, c6⟩ | ⟨m6, j, W', l, c1, c2, c3, c4, c5, c6, c7, c8, c9, c10, c11⟩
        · refine Or.inl ⟨er, m', head _ ?_, (f05.mono fun a k z => z.w).trans c2, c3, c4, c5, fun C => ?_⟩
          · rw [run2 _ rfl, c1, c0_x, xg_v, c0_x, xg_v]
          · show sFx s q b n (2 - (k + 1)) W C i = _
            rw [eC2]
            exact c6 _
        · have k6 : Kd b n j = 6 := by
            rw [c8]
            unfold eK
            rw [if_neg (by omega)]
          have lj := c3.lt (by omega)
          have q6 := x144 (sa := sa) (sv := sv) (d := d + 2) c3 6 (by omega) (by omega)
          have st : sTake b n 6 j = .inr (j + 1, ()) := by unfold sTake; rw [if_pos k6]
          rw [st] at q6
          have q6' : am_ca sa sv (d + 4) 144 [.ref (N + 2), .int (nI 6)] m6 = some (.inl none, stp m6 N (j + 1)) := q6
          have t7 : CT (stp m6 N (j + 1)) N b n T (j + 1) := c3.set (by omega)
          have S7 := c4.stp (j + 1)
          have hX6 := c3.1
          have hX7 := t7.1
          obtain ⟨p1, p2, p3⟩ := S7.put t7 (W * 4 + 3) (nI W') (V := W) (by omega)
          have q128b := x128c (sa := sa) (sv := sv) (d := d + 3) hX7 W 3 (show W < 30 by omega) (by omega) (nI W')
          have rW7 : gi_ (stp m6 N (j + 1)) (N + 11) 2 = nI W' := S7.2.2.2.2
          have f7 : Fr (PC N W) m6 (stp m6 N (j + 1)) := (Fr.refl (PC N W) m6).si (Or.inl ⟨rfl, by omega, by omega⟩)
          have g6 : ∀ c, c < 4 * (W + 1) → gi_ (stp m6 N (j + 1)) (N + 12) c = gi_ (stp m4 N y.1) (N + 12) c := fun c hc => (if_neg (by omega)).trans (c11 c hc)
          refine Or.inr ⟨si_ (stp m6 N (j + 1)) (N + 12) (W * 4 + 3) (nI W'), j + 1, W', .inr (x.2, l), head _ ?_, (((f05.mono fun a k z => z.w).trans c2).trans (f7.mono fun a k z => z.w)).trans (p3.mono fun a k z => z.w), p2, p1, by omega, by omega, c7, ⟨?_, ?_, if_pos ⟨rfl, rfl⟩, ⟨n3, n4⟩, ?_⟩, fun C => ?_, fun c hc => ?_⟩
          · rw [run2 _ rfl, c1, c0_v, b107_42]
            simp (disch := omega) only [gq_true, gb_true, gb_false, true_and, and_true, eq_self, not_false_eq_true, not_true_eq_false, true_or, or_true, false_or, or_false, false_and, and_false, c0_v, ci_v, cl_v, cf_v, pk_mul, nI_add, nI_clamp, nI_lt0, nI_0le, nI_eq0, nI_lt0r, nI_ltE, nI_leE, nI_eqE, nI_m1, in_t, ba0, ba1, Nat.one_ne_zero, Nat.reduceEqDiff, Nat.reduceLeDiff, Nat.add_eq_zero_iff, xk13 hX6, xr13_0 hX6, xk2 hX6, z2, q6', xk13 hX7, xr13_1 hX7, xr10_0 hX7, xk10 hX7, xk11 hX7, z10, z11, rW7, q128b]
          · rw [gi_si, if_neg (by omega), g6 _ (by omega)]
            exact g5
          · rw [gi_si, if_neg (by omega), g6 _ (by omega)]
            exact g5'
          · refine RwL_mo (lo := W + 1) (hi := W') (fun r r' z z1 z2 z3 z4 => RwI_fr k r r' z (fun c w1 w2 => ?_) z2 z4) l (W + 1) W' (Nat.le_refl _) (Nat.le_refl _) c9
            rw [gi_si, if_neg (by omega)]
            exact if_neg (by omega)
          · have el : ((C ++ [(27, x.2, 0)]) ++ flL k l) ++ [(6, 0, 0)] = C ++ flI (k + 1) (.inr (x.2, l)) := by
              rw [List.append_assoc, List.append_assoc]
              rfl
            rw [eC2, c10, sFx_u (by have := c3.Tn; omega), if_pos ⟨by omega, k6⟩, show 2 - k - 1 = 2 - (k + 1) by omega, el]
          · rw [gi_si, if_neg (by omega), g6 c (by omega)]
            exact (if_neg (by omega)).trans (PC.cell f4 c hc)
theorem x104 (hG : WG B s q) : ∀ (k : Nat), k ≤ 2 → ∀ (m : am_M) (i W : Nat), CT m N b n T i → SC m N o s q W → W ≤ 30 → RdL k N o T n b s q m i W (am_ca sa sv (d + 3 * k + 4) 104 [.ref (N + 13), .int (nI (2 - k))] m) := by
  intro k
  induction k with
  | zero =>
    intro _ m i W h hS hW
    have := x104_13 (sa := sa) (sv := sv) (d := d) (k := 0) (o := o) (s := s) (q := q) (by omega) (fun m i W h hS hW hne => by
      by_cases k27 : Kd b n i = 27
      · have c := x105_0 (sa := sa) (sv := sv) (d := d) (oo := 2) h hS hW (by omega) (Q := QC N o T n W b s q) (fun i => sCt s q b n i) (fun l3 h1 h2 h3 => absurd ⟨k27, rfl⟩ h2)
        rw [if_neg (fun z => z (Or.inr (by omega))), if_pos ⟨k27, rfl⟩] at c
        obtain ⟨m', c1, c2, c3, c4, c5⟩ := c
        refine Or.inl ⟨_, m', c1, c2.mono fun a k z => z.w, c3, c4, c5, fun C => ?_⟩
        show sFx s q b n (2 - 0) W C i = _
        rw [sFx_c (by have := h.Tn; omega) hne, sCm_t, if_neg (fun z => z (Or.inr (by omega))), if_pos ⟨k27, rfl⟩]
        unfold rr_
        rw [eb_l]
      · exact rd_op 0 h hS hG hW hne k27) T m i W 0 (by omega) h hS hW (by omega)
    rw [c104, b104_0]
    have n2 : (nI 2 = 0) = False := eq_false (by decide)
    rw [gb_neg (by rw [n2]; exact id)]
    exact this
  | succ k ih =>
    intro hk m i W h hS hW
    have := x104_13 (sa := sa) (sv := sv) (d := d + 3 * (k + 1)) (k := k + 1) (o := o) (s := s) (q := q) hk (fun m i W h hS hW hne => by
      by_cases k27 : Kd b n i = 27
      · exact rd_rep (d := d + 3 * k) k hk (ih (by omega)) h hS hW k27
      · exact rd_op (k + 1) h hS hG hW hne k27) T m i W 0 (by omega) h hS hW (by omega)
    rw [c104, b104_0]
    by_cases k1 : k + 1 = 2
    · obtain rfl : k = 1 := by omega
      rw [gb_pos (show nI (2 - (1 + 1)) = 0 from rfl)]
      exact this
    · obtain rfl : k = 0 := by omega
      have n1 : (nI 1 = 0) = False := eq_false (by decide)
      rw [gb_neg (by rw [show 2 - (0 + 1) = 1 from rfl, n1]; exact id)]
      exact this
end I89
