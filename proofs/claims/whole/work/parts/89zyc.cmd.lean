/-! a command is read (class), whole -/
noncomputable def sCt (s : Nat → Int32) (q : Nat → Int64) (b : Nat → Nat) (n i : Nat) : Er ⊕ (Nat × Ins) :=
  if Kd b n i = 23 then eb (sWrk s q b n 0 (i + 1)) fun x => eb (sNum b n 0 999999 x.1) fun y => .inr (y.1, 23, x.2, y.2)
  else if Kd b n i = 8 then eb (sPay s q b n (i + 1)) fun x => eb (sNum b n 0 999999 x.1) fun y => .inr (y.1, 8, x.2, y.2)
  else if Kd b n i = 24 then eb (sNum b n 0 999999 (i + 1)) fun x => .inr (x.1, 24, x.2, 0)
  else if Kd b n i = 25 then eb (sNum b n 0 999999 (i + 1)) fun x => eb (sNum b n 0 999999 x.1) fun y => .inr (y.1, 25, x.2, y.2)
  else if Kd b n i = 26 then .inr (i + 1, 26, 0, 0)
  else eb (sNum b n 1 20 (i + 1)) fun x => eb (sTake b n 5 x.1) fun y => .inr (y.1, 27, x.2, 0)
section I89
variable {sa sv d N o oo T n B W i j K a : Nat} {b : Nat → Nat} {m m' : am_M} {s : Nat → Int32} {q : Nat → Int64} {P : Nat → Nat → Prop}
theorem sCm_t : sCm s q b n oo W i = if ¬ (Kd b n i = 8 ∨ (23 ≤ Kd b n i ∧ Kd b n i ≤ 27)) then rr_ b n 1 i else if Kd b n i = 27 ∧ oo = 2 then rr_ b n 4 i else if W = 30 then rr_ b n 6 i else sCt s q b n i := rfl
theorem sName_j {x : Nat × Int64} (h : sName b n i = .inr x) : Kd b n i = 2 ∧ x.1 = i := by
  unfold sName at h
  split at h
  · rename_i e
    rw [← Sum.inr.inj h]
    exact ⟨e, rfl⟩
  · cases h
def QC (N o T n W : Nat) (b : Nat → Nat) (s : Nat → Int32) (q : Nat → Int64) (j : Nat) (x : Ins) (m' : am_M) : Prop := CT m' N b n T j ∧ SC m' N o s q (W + 1) ∧ RwO (gi_ m' (N + 12)) W x
theorem fin2 (h : CT m N b n T j) (hS : SC m N o s q (W + 1)) (hW : W < 30) (h0 : gi_ m (N + 12) (W * 4) = nI K) (h1 : gi_ m (N + 12) (W * 4 + 1) = nI a) : CW N m (PC N W) (fun _ => none) (QC N o T n W b s q) (eb (sNum b n 0 999999 j) fun y => .inr (y.1, K, a, y.2)) (am_ci (am_ca sa sv (d + 2) 145 [.ref (N + 2), .int (nI 0), .int (nI 999999)] m) (fun v m4 => gq_ (gk_ m4 (N + 11) = (1, 8)) (am_c0 (am_ca sa sv (d + 2) 128 [.ref (N + 11), .int (nI W), .int (nI 2), .int v] m4) (fun m5 => some (.inl none, m5)) am_xg)) am_xg) := by
  refine CW.ci (v := fun v => nI v) ((x145 (sa := sa) (sv := sv) (d := d) h 0 999999 (by omega) (by omega)).cw (P := PC N W) (fun _ _ z => Or.inl z)) (fun _ => rfl) (fun x m1 e1 f1 z1 => ?_)
  obtain ⟨k3, k4, -, -⟩ := sNum_i e1
  have := h.lt (by rw [k3]; omega)
  have h' : CT m1 N b n T x.1 := by rw [z1]; exact h.set (by omega)
  have hS' : SC m1 N o s q (W + 1) := by rw [z1]; exact hS.stp _
  obtain ⟨p1, p2, p3⟩ := hS'.put h' (W * 4 + 2) (nI x.2) (V := W) (by omega)
  refine ⟨_, ?_, p3, p2, p1, ?_, fun _ => ?_, fun _ => if_pos ⟨rfl, rfl⟩⟩
  · simp (disch := omega) only [gq_true, gb_true, gb_false, true_and, and_true, eq_self, not_false_eq_true, not_true_eq_false, true_or, or_true, false_or, or_false, false_and, and_false, c0_v, ci_v, cl_v, cf_v, pk_mul, nI_add, nI_clamp, nI_lt0, nI_0le, nI_eq0, nI_lt0r, nI_ltE, nI_leE, nI_eqE, nI_m1, in_t, ba0, ba1, Nat.one_ne_zero, Nat.reduceEqDiff, Nat.reduceLeDiff, Nat.add_eq_zero_iff, xk11 h'.1, x128c (sa := sa) (sv := sv) (d := d + 1) h'.1 W 2 hW (by omega)]
  · rw [gi_si, if_neg (by omega), z1]
    exact (if_neg (by omega)).trans h0
  · rw [gi_si, if_neg (by omega), z1]
    exact (if_neg (by omega)).trans h1
/-- what stands of the row behind its first number -/
theorem put1 (h : CT m N b n T j) (hS : SC m N o s q (W + 1)) (h0 : gi_ m (N + 12) (W * 4) = nI K) : CT (si_ m (N + 12) (W * 4 + 1) (nI a)) N b n T j ∧ SC (si_ m (N + 12) (W * 4 + 1) (nI a)) N o s q (W + 1) ∧ gi_ (si_ m (N + 12) (W * 4 + 1) (nI a)) (N + 12) (W * 4) = nI K ∧ gi_ (si_ m (N + 12) (W * 4 + 1) (nI a)) (N + 12) (W * 4 + 1) = nI a ∧ Fr (PC N W) m (si_ m (N + 12) (W * 4 + 1) (nI a)) := by
  obtain ⟨p1, p2, p3⟩ := hS.put h (W * 4 + 1) (nI a) (V := W) (by omega)
  exact ⟨p2, p1, (if_neg (by omega)).trans h0, if_pos ⟨rfl, rfl⟩, p3⟩
theorem x105_87 (h : CT m N b n T i) (hS : SC m N o s q W) (hG : WG B s q) (hW : W < 30) (hk : Kd b n i = 8 ∨ (23 ≤ Kd b n i ∧ Kd b n i ≤ 26)) (l3 : Int32) (o4 : Option Value) : CW N m (PC N W) (fun _ => none) (QC N o T n W b s q) (sCt s q b n i) (r105 sa sv (d + 2) 87 [some (.ref (N + 13)), some (.int (nI oo)), some (.int (nI (Kd b n i))), some (.int l3), o4] [] m) := by
  have hX := h.1
  have hC := hG.C
  have hi := h.lt (by omega)
  have np := isN_lt (wc_np hC) (by decide)
  have nw := isN_lt (wc_nw hC) (by decide)
  have q143 : am_ca sa sv (d + 2) 143 [.ref (N + 2)] m = some (.inl none, stp m N (i + 1)) := x143 (sa := sa) (sv := sv) (d := d + 1) h hi
  have t1 : CT (stp m N (i + 1)) N b n T (i + 1) := h.set (by omega)
  have S1 := hS.stp (i + 1)
  have q97 := x97 (sa := sa) (sv := sv) (d := d) t1.1 S1.2.2.2.2 hW (Kd b n i)
  obtain ⟨t2, S2, g2⟩ := m97_t t1 S1 (Kd b n i)
  have hf2 : Fr (PC N W) m (m97 (stp m N (i + 1)) N W (Kd b n i)) := ((Fr.refl (PC N W) m).si (Or.inl ⟨rfl, by omega, by omega⟩) : Fr (PC N W) m (stp m N (i + 1))).trans (m97_fr _ _ _ _)
  generalize hm2 : m97 (stp m N (i + 1)) N W (Kd b n i) = m2 at *
  refine CW.tr (m1 := m2) ?_ hf2 (fun _ _ z => z)
  have hX1 := t1.1
  have hX2 := t2.1
  have z2 : (N + 2 = 0) = False := eq_false (by omega)
  have z10 : (N + 10 = 0) = False := eq_false (by omega)
  have z11 : (N + 11 = 0) = False := eq_false (by omega)
  have zo : (o + 1 = 0) = False := eq_false (by omega)
  have r2 : gr_ m2 (N + 13) 2 = o + 1 := S2.1
  unfold sCt
  by_cases k23 : Kd b n i = 23
  · rw [if_pos k23]
    rw [k23] at q97 g2 ⊢
    rw [b105_87]
    simp (disch := omega) only [gq_true, gb_true, gb_false, true_and, and_true, eq_self, not_false_eq_true, not_true_eq_false, true_or, or_true, false_or, or_false, false_and, and_false, c0_v, ci_v, cl_v, cf_v, pk_mul, nI_add, nI_clamp, nI_lt0, nI_0le, nI_eq0, nI_lt0r, nI_ltE, nI_leE, nI_eqE, nI_m1, in_t, ba0, ba1, Nat.one_ne_zero, Nat.reduceEqDiff, Nat.reduceLeDiff, Nat.add_eq_zero_iff, xk13 hX, xr13_0 hX, xk2 hX, z2, q143, xk13 hX1, xr13_1 hX1, xk10 hX1, z10, q97, xk13 hX2, xr13_0 hX2, xr13_1 hX2, xr10_0 hX2, xk10 hX2, xk2 hX2, z11, r2, zo]
    rw [sWrk_0, eb_eb]
    refine CW.cl (v := fun x => x) ((x146 (sa := sa) (sv := sv) (d := d) t2).cw (P := PC N W) (fun _ _ z => Or.inl z)) (fun _ => rfl) (fun x m3 e3 f3 z3 => ?_)
    obtain ⟨n1, n2⟩ := sName_j e3
    rw [n2, stp_id t2] at z3
    rw [n2]
    subst z3
    have q6 := x6 (sa := sa) (sv := sv) (d := d + 1) S2.2.1 S2.2.2.1 hC x.2
    by_cases hw : wnm_ s q x.2 < cN s 1
    · rw [if_pos hw]
      rw [ix_s hw] at q6
      have hi3 := t2.lt (by omega)
      have q106 := x106n (sa := sa) (sv := sv) (d := d) t2 hi3 (wnm_ s q x.2) (by omega)
      have t4 : CT (stp m3 N (i + 1 + 1)) N b n T (i + 1 + 1) := t2.set (by omega)
      have S4 := S2.stp (i + 1 + 1)
      obtain ⟨u1, u2, u3, u4, u5⟩ := put1 (a := wnm_ s q x.2) t4 S4 ((if_neg (by omega)).trans g2)
      simp (disch := omega) only [gq_true, gb_true, gb_false, true_and, and_true, eq_self, not_false_eq_true, not_true_eq_false, true_or, or_true, false_or, or_false, false_and, and_false, c0_v, ci_v, cl_v, cf_v, pk_mul, nI_add, nI_clamp, nI_lt0, nI_0le, nI_eq0, nI_lt0r, nI_ltE, nI_leE, nI_eqE, nI_m1, in_t, ba0, ba1, Nat.one_ne_zero, Nat.reduceEqDiff, Nat.reduceLeDiff, Nat.add_eq_zero_iff, ok1 S2.2.1, q6, xk13 hX2, q106, xk11 t4.1, x128c (sa := sa) (sv := sv) (d := d + 1) t4.1 W 1 hW (by omega), xk13 u1.1, xr13_0 u1.1, xr13_1 u1.1, xr10_0 u1.1, xk10 u1.1, xk2 u1.1, z2, z10, z11]
      exact CW.tr (m1 := si_ (stp m3 N (i + 1 + 1)) (N + 12) (W * 4 + 1) (nI (wnm_ s q x.2))) (fin2 u1 u2 hW u3 u4) (((Fr.refl (PC N W) m3).si (Or.inl ⟨rfl, by omega, by omega⟩) : Fr (PC N W) m3 (stp m3 N (i + 1 + 1))).trans u5) (fun _ _ z => z)
    · rw [if_neg hw]
      rw [ix_n hw] at q6
      simp (disch := omega) only [gq_true, gb_true, gb_false, true_and, and_true, eq_self, not_false_eq_true, not_true_eq_false, true_or, or_true, false_or, or_false, false_and, and_false, c0_v, ci_v, cl_v, cf_v, pk_mul, nI_add, nI_clamp, nI_lt0, nI_0le, nI_eq0, nI_lt0r, nI_ltE, nI_leE, nI_eqE, nI_m1, in_t, ba0, ba1, Nat.one_ne_zero, Nat.reduceEqDiff, Nat.reduceLeDiff, Nat.add_eq_zero_iff, ok1 S2.2.1, q6, xk13 hX2, x106f (sa := sa) (sv := sv) (d := d) t2, ci_x, xg_v]
      exact CW.fail t2 3
  rw [if_neg k23]
  by_cases k8 : Kd b n i = 8
  · rw [if_pos k8]
    rw [k8] at q97 g2 ⊢
    rw [b105_87]
    simp (disch := omega) only [gq_true, gb_true, gb_false, true_and, and_true, eq_self, not_false_eq_true, not_true_eq_false, true_or, or_true, false_or, or_false, false_and, and_false, c0_v, ci_v, cl_v, cf_v, pk_mul, nI_add, nI_clamp, nI_lt0, nI_0le, nI_eq0, nI_lt0r, nI_ltE, nI_leE, nI_eqE, nI_m1, in_t, ba0, ba1, Nat.one_ne_zero, Nat.reduceEqDiff, Nat.reduceLeDiff, Nat.add_eq_zero_iff, xk13 hX, xr13_0 hX, xk2 hX, z2, q143, xk13 hX1, xr13_1 hX1, xk10 hX1, z10, q97, xk13 hX2, xr13_0 hX2, xr13_1 hX2, xr10_0 hX2, xk10 hX2, xk2 hX2, z11, r2, zo]
    rw [sPay_0, eb_eb]
    refine CW.cl (v := fun x => x) ((x146 (sa := sa) (sv := sv) (d := d) t2).cw (P := PC N W) (fun _ _ z => Or.inl z)) (fun _ => rfl) (fun x m3 e3 f3 z3 => ?_)
    obtain ⟨n1, n2⟩ := sName_j e3
    rw [n2, stp_id t2] at z3
    rw [n2]
    subst z3
    have q6 := x5 (sa := sa) (sv := sv) (d := d + 1) S2.2.1 S2.2.2.1 hC x.2
    by_cases hw : pnm_ s q x.2 < cN s 0
    · rw [if_pos hw]
      rw [ix_s hw] at q6
      have hi3 := t2.lt (by omega)
      have q106 := x106n (sa := sa) (sv := sv) (d := d) t2 hi3 (pnm_ s q x.2) (by omega)
      have t4 : CT (stp m3 N (i + 1 + 1)) N b n T (i + 1 + 1) := t2.set (by omega)
      have S4 := S2.stp (i + 1 + 1)
      obtain ⟨u1, u2, u3, u4, u5⟩ := put1 (a := pnm_ s q x.2) t4 S4 ((if_neg (by omega)).trans g2)
      simp (disch := omega) only [gq_true, gb_true, gb_false, true_and, and_true, eq_self, not_false_eq_true, not_true_eq_false, true_or, or_true, false_or, or_false, false_and, and_false, c0_v, ci_v, cl_v, cf_v, pk_mul, nI_add, nI_clamp, nI_lt0, nI_0le, nI_eq0, nI_lt0r, nI_ltE, nI_leE, nI_eqE, nI_m1, in_t, ba0, ba1, Nat.one_ne_zero, Nat.reduceEqDiff, Nat.reduceLeDiff, Nat.add_eq_zero_iff, ok1 S2.2.1, q6, xk13 hX2, q106, xk11 t4.1, x128c (sa := sa) (sv := sv) (d := d + 1) t4.1 W 1 hW (by omega), xk13 u1.1, xr13_0 u1.1, xr13_1 u1.1, xr10_0 u1.1, xk10 u1.1, xk2 u1.1, z2, z10, z11]
      exact CW.tr (m1 := si_ (stp m3 N (i + 1 + 1)) (N + 12) (W * 4 + 1) (nI (pnm_ s q x.2))) (fin2 u1 u2 hW u3 u4) (((Fr.refl (PC N W) m3).si (Or.inl ⟨rfl, by omega, by omega⟩) : Fr (PC N W) m3 (stp m3 N (i + 1 + 1))).trans u5) (fun _ _ z => z)
    · rw [if_neg hw]
      rw [ix_n hw] at q6
      simp (disch := omega) only [gq_true, gb_true, gb_false, true_and, and_true, eq_self, not_false_eq_true, not_true_eq_false, true_or, or_true, false_or, or_false, false_and, and_false, c0_v, ci_v, cl_v, cf_v, pk_mul, nI_add, nI_clamp, nI_lt0, nI_0le, nI_eq0, nI_lt0r, nI_ltE, nI_leE, nI_eqE, nI_m1, in_t, ba0, ba1, Nat.one_ne_zero, Nat.reduceEqDiff, Nat.reduceLeDiff, Nat.add_eq_zero_iff, ok1 S2.2.1, q6, xk13 hX2, x106f (sa := sa) (sv := sv) (d := d) t2, ci_x, xg_v]
      exact CW.fail t2 3
  rw [if_neg k8]
  by_cases k24 : Kd b n i = 24
  · rw [if_pos k24]
    rw [k24] at q97 g2 ⊢
    rw [b105_87]
    simp (disch := omega) only [gq_true, gb_true, gb_false, true_and, and_true, eq_self, not_false_eq_true, not_true_eq_false, true_or, or_true, false_or, or_false, false_and, and_false, c0_v, ci_v, cl_v, cf_v, pk_mul, nI_add, nI_clamp, nI_lt0, nI_0le, nI_eq0, nI_lt0r, nI_ltE, nI_leE, nI_eqE, nI_m1, in_t, ba0, ba1, Nat.one_ne_zero, Nat.reduceEqDiff, Nat.reduceLeDiff, Nat.add_eq_zero_iff, xk13 hX, xr13_0 hX, xk2 hX, z2, q143, xk13 hX1, xr13_1 hX1, xk10 hX1, z10, q97, xk13 hX2, xr13_0 hX2, xr13_1 hX2, xr10_0 hX2, xk10 hX2, xk2 hX2, z11, r2, zo]
    refine CW.ci (v := fun v => nI v) ((x145 (sa := sa) (sv := sv) (d := d) t2 0 999999 (by omega) (by omega)).cw (P := PC N W) (fun _ _ z => Or.inl z)) (fun _ => rfl) (fun x m3 e3 f3 z3 => ?_)
    obtain ⟨k3, k4, -, -⟩ := sNum_i e3
    have := t2.lt (by rw [k3]; omega)
    have t3 : CT m3 N b n T x.1 := by rw [z3]; exact t2.set (by omega)
    have S3 : SC m3 N o s q (W + 1) := by rw [z3]; exact S2.stp _
    have g3 : gi_ m3 (N + 12) (W * 4) = nI 24 := by rw [z3]; exact (if_neg (by omega)).trans g2
    obtain ⟨u1, u2, u3, u4, u5⟩ := put1 (a := x.2) t3 S3 g3
    refine ⟨_, ?_, u5, u1, u2, u3, fun _ => u4, fun z => by
      have z' : (24 : Nat) = 23 ∨ (24 : Nat) = 25 ∨ (24 : Nat) = 8 := z
      omega⟩
    simp (disch := omega) only [gq_true, gb_true, gb_false, true_and, and_true, eq_self, not_false_eq_true, not_true_eq_false, true_or, or_true, false_or, or_false, false_and, and_false, c0_v, ci_v, cl_v, cf_v, pk_mul, nI_add, nI_clamp, nI_lt0, nI_0le, nI_eq0, nI_lt0r, nI_ltE, nI_leE, nI_eqE, nI_m1, in_t, ba0, ba1, Nat.one_ne_zero, Nat.reduceEqDiff, Nat.reduceLeDiff, Nat.add_eq_zero_iff, xk11 t3.1, x128c (sa := sa) (sv := sv) (d := d + 1) t3.1 W 1 hW (by omega)]
  rw [if_neg k24]
  by_cases k25 : Kd b n i = 25
  · rw [if_pos k25]
    rw [k25] at q97 g2 ⊢
    rw [b105_87]
    simp (disch := omega) only [gq_true, gb_true, gb_false, true_and, and_true, eq_self, not_false_eq_true, not_true_eq_false, true_or, or_true, false_or, or_false, false_and, and_false, c0_v, ci_v, cl_v, cf_v, pk_mul, nI_add, nI_clamp, nI_lt0, nI_0le, nI_eq0, nI_lt0r, nI_ltE, nI_leE, nI_eqE, nI_m1, in_t, ba0, ba1, Nat.one_ne_zero, Nat.reduceEqDiff, Nat.reduceLeDiff, Nat.add_eq_zero_iff, xk13 hX, xr13_0 hX, xk2 hX, z2, q143, xk13 hX1, xr13_1 hX1, xk10 hX1, z10, q97, xk13 hX2, xr13_0 hX2, xr13_1 hX2, xr10_0 hX2, xk10 hX2, xk2 hX2, z11, r2, zo]
    refine CW.ci (v := fun v => nI v) ((x145 (sa := sa) (sv := sv) (d := d) t2 0 999999 (by omega) (by omega)).cw (P := PC N W) (fun _ _ z => Or.inl z)) (fun _ => rfl) (fun x m3 e3 f3 z3 => ?_)
    obtain ⟨k3, k4, -, -⟩ := sNum_i e3
    have := t2.lt (by rw [k3]; omega)
    have t3 : CT m3 N b n T x.1 := by rw [z3]; exact t2.set (by omega)
    have S3 : SC m3 N o s q (W + 1) := by rw [z3]; exact S2.stp _
    have g3 : gi_ m3 (N + 12) (W * 4) = nI 25 := by rw [z3]; exact (if_neg (by omega)).trans g2
    obtain ⟨u1, u2, u3, u4, u5⟩ := put1 (a := x.2) t3 S3 g3
    simp (disch := omega) only [gq_true, gb_true, gb_false, true_and, and_true, eq_self, not_false_eq_true, not_true_eq_false, true_or, or_true, false_or, or_false, false_and, and_false, c0_v, ci_v, cl_v, cf_v, pk_mul, nI_add, nI_clamp, nI_lt0, nI_0le, nI_eq0, nI_lt0r, nI_ltE, nI_leE, nI_eqE, nI_m1, in_t, ba0, ba1, Nat.one_ne_zero, Nat.reduceEqDiff, Nat.reduceLeDiff, Nat.add_eq_zero_iff, xk11 t3.1, x128c (sa := sa) (sv := sv) (d := d + 1) t3.1 W 1 hW (by omega), xk13 u1.1, xr13_0 u1.1, xr13_1 u1.1, xr10_0 u1.1, xk10 u1.1, xk2 u1.1, z2, z10, z11]
    exact CW.tr (fin2 u1 u2 hW u3 u4) u5 (fun _ _ z => z)
  rw [if_neg k25]
  have k26 : Kd b n i = 26 := by omega
  rw [if_pos k26]
  rw [k26] at q97 g2 ⊢
  rw [b105_87]
  simp (disch := omega) only [gq_true, gb_true, gb_false, true_and, and_true, eq_self, not_false_eq_true, not_true_eq_false, true_or, or_true, false_or, or_false, false_and, and_false, c0_v, ci_v, cl_v, cf_v, pk_mul, nI_add, nI_clamp, nI_lt0, nI_0le, nI_eq0, nI_lt0r, nI_ltE, nI_leE, nI_eqE, nI_m1, in_t, ba0, ba1, Nat.one_ne_zero, Nat.reduceEqDiff, Nat.reduceLeDiff, Nat.add_eq_zero_iff, xk13 hX, xr13_0 hX, xk2 hX, z2, q143, xk13 hX1, xr13_1 hX1, xk10 hX1, z10, q97, xk13 hX2, xr13_0 hX2, xr13_1 hX2, xr10_0 hX2, xk10 hX2, xk2 hX2, z11, r2, zo]
  exact ⟨m2, rfl, Fr.refl _ _, t2, S2, g2, fun z => absurd rfl z, fun z => by
    have z' : (26 : Nat) = 23 ∨ (26 : Nat) = 25 ∨ (26 : Nat) = 8 := z
    omega⟩
end I89
