/-! a script's command is read (reference): kind by kind -/
section R89
variable {sa sv d N n B i o W : Nat} {b : Nat → Nat} {m m' : am_M} {s : Nat → Int32} {q : Nat → Int64} {σ : Er ⊕ Nat} {C : List Ins}
theorem y350_k23 (h : RQ m N b n (.inr i)) (hR : RS m N s q) (hG : WG B s q) (h0 : CdR m N C) (hL : C.length < 60) (hW : W < 30) (h40 : gi_ m (N + 243) 40 = nI W) (h41 : gi_ m (N + 243) 41 = nI o) (hk : Kd b n i = 23) (o2 : Option Value) : ∃ m', r350 sa sv (d + 4) 48 [some (.ref (N + 243)), some (.int (nI 0)), o2] [] m = some (.inl none, m') ∧ CmO N n b C o W m m' (sCt s q b n i) := by
  have hX := h.1
  have hC := hG.C
  have q235 := y235 (sa := sa) (sv := sv) (d := d + 3) h
  rw [gs_r, tr_t] at q235
  have f1 : Fr (fun a k => a = N + 243 ∧ k = 40) m (si_ m (N + 243) 40 (nI (W + 1))) := (Fr.refl _ _).si ⟨rfl, rfl⟩
  have h1 : RQ (si_ m (N + 243) 40 (nI (W + 1))) N b n (.inr i) := h.y f1 (fun a k z => by omega)
  obtain ⟨m2, a1, a2, a3⟩ := y233n (sa := sa) (sv := sv) (d := d + 2) h1
  have g39 : gi_ m2 (N + 243) 39 = nI C.length := (a2.2.1 _ _ (by unfold RH; omega)).trans ((if_neg (by omega)).trans h0.1)
  have f2 : Fr (PRy N) m m2 := (f1.mono fun a k z => Or.inr (Or.inl ⟨z.1, by omega⟩)).trans (a2.mono fun a k z => Or.inl z)
  have f3' : Fr (fun a k => a = N + 260 ∧ k = C.length) m2 (si_ m2 (N + 260) C.length (nI 0)) := (Fr.refl _ _).si ⟨rfl, rfl⟩
  have h3 : RQ (si_ m2 (N + 260) C.length (nI 0)) N b n (.inr (i + 1)) := a3.y f3' (fun a k z => by omega)
  have f3 : Fr (PRy N) m (si_ m2 (N + 260) C.length (nI 0)) := f2.trans (f3'.mono fun a k z => by unfold PRy; omega)
  have r3 : RowR (si_ m2 (N + 260) C.length (nI 0)) N C.length (rkd 23) m := ⟨if_pos ⟨rfl, rfl⟩, fun a k z z2 => (f3'.2.1 _ _ (by omega)).trans ((a2.2.1 _ _ (by unfold RH; omega)).trans (if_neg (by omega)))⟩
  have c39 : gi_ (si_ m2 (N + 260) C.length (nI 0)) (N + 243) 39 = nI C.length := (if_neg (by omega)).trans g39
  have c40 : gi_ (si_ m2 (N + 260) C.length (nI 0)) (N + 243) 40 = nI (W + 1) := (if_neg (by omega)).trans ((a2.2.1 _ _ (by unfold RH; omega)).trans (if_pos ⟨rfl, rfl⟩))
  have c41 : gi_ (si_ m2 (N + 260) C.length (nI 0)) (N + 243) 41 = nI o := (if_neg (by omega)).trans ((a2.2.1 _ _ (by unfold RH; omega)).trans ((if_neg (by omega)).trans h41))
  have R3 := hR.y f3
  have z260 : (N + 260 = 0) = False := eq_false (by omega)
  have z261 : (N + 261 = 0) = False := eq_false (by omega)
  have z262 : (N + 262 = 0) = False := eq_false (by omega)
  have hX2 := a3.1
  generalize hm3 : si_ m2 (N + 260) C.length (nI 0) = m3 at *
  have hX3 := h3.1
  have e240 : gi_ (si_ m (N + 243) 40 (nI (W + 1))) (N + 243) 40 = nI (W + 1) := if_pos ⟨rfl, rfl⟩
  rw [b350_48]
  simp (disch := omega) only [gq_true, gb_true, gb_false, true_and, and_true, eq_self, not_false_eq_true, not_true_eq_false, true_or, or_true, false_or, or_false, false_and, and_false, c0_v, ci_v, cl_v, cf_v, pk_mul, nI_add, nI_clamp, nI_lt0, nI_0le, nI_eq0, nI_lt0r, nI_ltE, nI_leE, nI_eqE, nI_m1, in_t, ba0, ba1, Nat.one_ne_zero, Nat.reduceEqDiff, Nat.reduceLeDiff, Nat.add_eq_zero_iff, xk243 hX, q235, h40, a1, xk243 hX2, xr243_34 hX2, xk260 hX2, z260, g39, xr243_35 hX2, z261, hm3, Nat.reduceEqDiff]
  obtain ⟨m4, v4, b1, b2, b3, b4, b5⟩ := y350_n (L := C.length) (A := N + 261) (z := sWrk s q b n 0 (i + 1)) (y264 (sa := sa) (sv := sv) (d := d + 1) h3 R3 hC hG.1.2.1 hG.1.2.2.2.2.2.2.2 0 (-1) (nI 0) (Or.inl ⟨rfl, rfl, rfl⟩)) (Or.inl rfl)
  have r4 := r3.fr b3 (fun a k z => by
    rcases z with z | z
    · exact Or.inl z.r
    · exact Or.inr (Or.inl z))
  have f4 : Fr (PRy N) m (si_ m4 (N + 261) C.length v4) := f3.trans (b3.mono fun a k z => by
    rcases z with z | z
    · exact Or.inl z
    · exact Or.inr (Or.inr (Or.inr (Or.inl z.1))))
  have k4 : ∀ k, (k = 39 ∨ k = 40 ∨ k = 41) → gi_ (si_ m4 (N + 261) C.length v4) (N + 243) k = gi_ m3 (N + 243) k := fun k z => b3.2.1 _ _ (by unfold RH; omega)
  have hX4 := b4.1
  obtain ⟨m5, v5, e1, e2, e3, e4, e5⟩ := y350_n (L := C.length) (A := N + 262) (z := eb (pst (sWrk s q b n 0 (i + 1))) (sNum b n 0 999999)) (y349 (sa := sa) (sv := sv) (d := d) b4) (Or.inr rfl)
  have r5 := r4.fr e3 (fun a k z => by
    rcases z with z | z
    · exact Or.inl z.r
    · exact Or.inr (Or.inr z))
  have f5 : Fr (PRy N) m (si_ m5 (N + 262) C.length v5) := f4.trans (e3.mono fun a k z => by
    rcases z with z | z
    · exact Or.inl z
    · exact Or.inr (Or.inr (Or.inr (Or.inr z.1))))
  have k5 : ∀ k, (k = 39 ∨ k = 40 ∨ k = 41) → gi_ (si_ m5 (N + 262) C.length v5) (N + 243) k = gi_ m3 (N + 243) k := fun k z => (e3.2.1 _ _ (by unfold RH; omega)).trans (k4 k z)
  obtain ⟨m6, j1, j2⟩ := y350_fin (sa := sa) (sv := sv) (d := d + 2) (c := 23) (W := W) (o := o) h0 rfl e4 f5 r5 ((k5 39 (by omega)).trans c39) ((k5 40 (by omega)).trans c40) ((k5 41 (by omega)).trans c41) (by omega) (sCt s q b n i) (by
    unfold sCt
    rw [if_pos hk]
    exact pst_eb (sWrk s q b n 0 (i + 1)) (sNum b n 0 999999) (fun x y => (23, x.2, y.2))) (fun x hx => by
    unfold sCt at hx
    rw [if_pos hk] at hx
    obtain ⟨w, w1, hx⟩ := eb_r hx
    obtain ⟨y, y1, hx⟩ := eb_r hx
    have e := (Sum.inr.inj hx).symm
    subst e
    refine ⟨rfl, fun _ => (e3.2.1 _ _ (by unfold RH; omega)).trans (b5 w w1), fun _ => e5 y ?_⟩
    rw [w1]
    exact y1)
  refine ⟨m6, ?_, j2⟩
  rw [b1, ci_v]
  simp (disch := omega) only [gq_true, gb_true, gb_false, true_and, and_true, eq_self, not_false_eq_true, not_true_eq_false, true_or, or_true, false_or, or_false, false_and, and_false, c0_v, ci_v, cl_v, cf_v, pk_mul, nI_add, nI_clamp, nI_lt0, nI_0le, nI_eq0, nI_lt0r, nI_ltE, nI_leE, nI_eqE, nI_m1, in_t, ba0, ba1, Nat.one_ne_zero, Nat.reduceEqDiff, Nat.reduceLeDiff, Nat.add_eq_zero_iff, xk261 b2, xk243 b2, xr243_35 b2, z261, Nat.reduceEqDiff]
  rw [b350_113]
  simp (disch := omega) only [gq_true, gb_true, gb_false, true_and, and_true, eq_self, not_false_eq_true, not_true_eq_false, true_or, or_true, false_or, or_false, false_and, and_false, c0_v, ci_v, cl_v, cf_v, pk_mul, nI_add, nI_clamp, nI_lt0, nI_0le, nI_eq0, nI_lt0r, nI_ltE, nI_leE, nI_eqE, nI_m1, in_t, ba0, ba1, Nat.one_ne_zero, Nat.reduceEqDiff, Nat.reduceLeDiff, Nat.add_eq_zero_iff, Nat.reduceEqDiff]
  rw [b350_133]
  simp (disch := omega) only [gq_true, gb_true, gb_false, true_and, and_true, eq_self, not_false_eq_true, not_true_eq_false, true_or, or_true, false_or, or_false, false_and, and_false, c0_v, ci_v, cl_v, cf_v, pk_mul, nI_add, nI_clamp, nI_lt0, nI_0le, nI_eq0, nI_lt0r, nI_ltE, nI_leE, nI_eqE, nI_m1, in_t, ba0, ba1, Nat.one_ne_zero, Nat.reduceEqDiff, Nat.reduceLeDiff, Nat.add_eq_zero_iff, xk243 hX4, xr243_36 hX4, z262, e1, xk262 e2, Nat.reduceEqDiff]
  rw [b350_157]
  simp (disch := omega) only [gq_true, gb_true, gb_false, true_and, and_true, eq_self, not_false_eq_true, not_true_eq_false, true_or, or_true, false_or, or_false, false_and, and_false, c0_v, ci_v, cl_v, cf_v, pk_mul, nI_add, nI_clamp, nI_lt0, nI_0le, nI_eq0, nI_lt0r, nI_ltE, nI_leE, nI_eqE, nI_m1, in_t, ba0, ba1, Nat.one_ne_zero, Nat.reduceEqDiff, Nat.reduceLeDiff, Nat.add_eq_zero_iff, Nat.reduceEqDiff]
  exact j1
theorem y350_k8 (h : RQ m N b n (.inr i)) (hR : RS m N s q) (hG : WG B s q) (h0 : CdR m N C) (hL : C.length < 60) (hW : W < 30) (h40 : gi_ m (N + 243) 40 = nI W) (h41 : gi_ m (N + 243) 41 = nI o) (hk : Kd b n i = 8) (o2 : Option Value) : ∃ m', r350 sa sv (d + 4) 48 [some (.ref (N + 243)), some (.int (nI 3)), o2] [] m = some (.inl none, m') ∧ CmO N n b C o W m m' (sCt s q b n i) := by
  have hX := h.1
  have hC := hG.C
  have q235 := y235 (sa := sa) (sv := sv) (d := d + 3) h
  rw [gs_r, tr_t] at q235
  have f1 : Fr (fun a k => a = N + 243 ∧ k = 40) m (si_ m (N + 243) 40 (nI (W + 1))) := (Fr.refl _ _).si ⟨rfl, rfl⟩
  have h1 : RQ (si_ m (N + 243) 40 (nI (W + 1))) N b n (.inr i) := h.y f1 (fun a k z => by omega)
  obtain ⟨m2, a1, a2, a3⟩ := y233n (sa := sa) (sv := sv) (d := d + 2) h1
  have g39 : gi_ m2 (N + 243) 39 = nI C.length := (a2.2.1 _ _ (by unfold RH; omega)).trans ((if_neg (by omega)).trans h0.1)
  have f2 : Fr (PRy N) m m2 := (f1.mono fun a k z => Or.inr (Or.inl ⟨z.1, by omega⟩)).trans (a2.mono fun a k z => Or.inl z)
  have f3' : Fr (fun a k => a = N + 260 ∧ k = C.length) m2 (si_ m2 (N + 260) C.length (nI 3)) := (Fr.refl _ _).si ⟨rfl, rfl⟩
  have h3 : RQ (si_ m2 (N + 260) C.length (nI 3)) N b n (.inr (i + 1)) := a3.y f3' (fun a k z => by omega)
  have f3 : Fr (PRy N) m (si_ m2 (N + 260) C.length (nI 3)) := f2.trans (f3'.mono fun a k z => by unfold PRy; omega)
  have r3 : RowR (si_ m2 (N + 260) C.length (nI 3)) N C.length (rkd 8) m := ⟨if_pos ⟨rfl, rfl⟩, fun a k z z2 => (f3'.2.1 _ _ (by omega)).trans ((a2.2.1 _ _ (by unfold RH; omega)).trans (if_neg (by omega)))⟩
  have c39 : gi_ (si_ m2 (N + 260) C.length (nI 3)) (N + 243) 39 = nI C.length := (if_neg (by omega)).trans g39
  have c40 : gi_ (si_ m2 (N + 260) C.length (nI 3)) (N + 243) 40 = nI (W + 1) := (if_neg (by omega)).trans ((a2.2.1 _ _ (by unfold RH; omega)).trans (if_pos ⟨rfl, rfl⟩))
  have c41 : gi_ (si_ m2 (N + 260) C.length (nI 3)) (N + 243) 41 = nI o := (if_neg (by omega)).trans ((a2.2.1 _ _ (by unfold RH; omega)).trans ((if_neg (by omega)).trans h41))
  have R3 := hR.y f3
  have z260 : (N + 260 = 0) = False := eq_false (by omega)
  have z261 : (N + 261 = 0) = False := eq_false (by omega)
  have z262 : (N + 262 = 0) = False := eq_false (by omega)
  have hX2 := a3.1
  generalize hm3 : si_ m2 (N + 260) C.length (nI 3) = m3 at *
  have hX3 := h3.1
  have e240 : gi_ (si_ m (N + 243) 40 (nI (W + 1))) (N + 243) 40 = nI (W + 1) := if_pos ⟨rfl, rfl⟩
  rw [b350_48]
  simp (disch := omega) only [gq_true, gb_true, gb_false, true_and, and_true, eq_self, not_false_eq_true, not_true_eq_false, true_or, or_true, false_or, or_false, false_and, and_false, c0_v, ci_v, cl_v, cf_v, pk_mul, nI_add, nI_clamp, nI_lt0, nI_0le, nI_eq0, nI_lt0r, nI_ltE, nI_leE, nI_eqE, nI_m1, in_t, ba0, ba1, Nat.one_ne_zero, Nat.reduceEqDiff, Nat.reduceLeDiff, Nat.add_eq_zero_iff, xk243 hX, q235, h40, a1, xk243 hX2, xr243_34 hX2, xk260 hX2, z260, g39, xr243_35 hX2, z261, hm3, Nat.reduceEqDiff]
  obtain ⟨m4, v4, b1, b2, b3, b4, b5⟩ := y350_n (L := C.length) (A := N + 261) (z := sPay s q b n (i + 1)) (y263 (sa := sa) (sv := sv) (d := d + 1) h3 R3 hC hG.1.2.2.2.2.2.2.2) (Or.inl rfl)
  have r4 := r3.fr b3 (fun a k z => by
    rcases z with z | z
    · exact Or.inl z.r
    · exact Or.inr (Or.inl z))
  have f4 : Fr (PRy N) m (si_ m4 (N + 261) C.length v4) := f3.trans (b3.mono fun a k z => by
    rcases z with z | z
    · exact Or.inl z
    · exact Or.inr (Or.inr (Or.inr (Or.inl z.1))))
  have k4 : ∀ k, (k = 39 ∨ k = 40 ∨ k = 41) → gi_ (si_ m4 (N + 261) C.length v4) (N + 243) k = gi_ m3 (N + 243) k := fun k z => b3.2.1 _ _ (by unfold RH; omega)
  have hX4 := b4.1
  obtain ⟨m5, v5, e1, e2, e3, e4, e5⟩ := y350_n (L := C.length) (A := N + 262) (z := eb (pst (sPay s q b n (i + 1))) (sNum b n 0 999999)) (y349 (sa := sa) (sv := sv) (d := d) b4) (Or.inr rfl)
  have r5 := r4.fr e3 (fun a k z => by
    rcases z with z | z
    · exact Or.inl z.r
    · exact Or.inr (Or.inr z))
  have f5 : Fr (PRy N) m (si_ m5 (N + 262) C.length v5) := f4.trans (e3.mono fun a k z => by
    rcases z with z | z
    · exact Or.inl z
    · exact Or.inr (Or.inr (Or.inr (Or.inr z.1))))
  have k5 : ∀ k, (k = 39 ∨ k = 40 ∨ k = 41) → gi_ (si_ m5 (N + 262) C.length v5) (N + 243) k = gi_ m3 (N + 243) k := fun k z => (e3.2.1 _ _ (by unfold RH; omega)).trans (k4 k z)
  obtain ⟨m6, j1, j2⟩ := y350_fin (sa := sa) (sv := sv) (d := d + 2) (c := 8) (W := W) (o := o) h0 rfl e4 f5 r5 ((k5 39 (by omega)).trans c39) ((k5 40 (by omega)).trans c40) ((k5 41 (by omega)).trans c41) (by omega) (sCt s q b n i) (by
    unfold sCt
    rw [if_neg (by omega), if_pos hk]
    exact pst_eb (sPay s q b n (i + 1)) (sNum b n 0 999999) (fun x y => (8, x.2, y.2))) (fun x hx => by
    unfold sCt at hx
    rw [if_neg (by omega), if_pos hk] at hx
    obtain ⟨w, w1, hx⟩ := eb_r hx
    obtain ⟨y, y1, hx⟩ := eb_r hx
    have e := (Sum.inr.inj hx).symm
    subst e
    refine ⟨rfl, fun _ => (e3.2.1 _ _ (by unfold RH; omega)).trans (b5 w w1), fun _ => e5 y ?_⟩
    rw [w1]
    exact y1)
  refine ⟨m6, ?_, j2⟩
  rw [b1, ci_v]
  simp (disch := omega) only [gq_true, gb_true, gb_false, true_and, and_true, eq_self, not_false_eq_true, not_true_eq_false, true_or, or_true, false_or, or_false, false_and, and_false, c0_v, ci_v, cl_v, cf_v, pk_mul, nI_add, nI_clamp, nI_lt0, nI_0le, nI_eq0, nI_lt0r, nI_ltE, nI_leE, nI_eqE, nI_m1, in_t, ba0, ba1, Nat.one_ne_zero, Nat.reduceEqDiff, Nat.reduceLeDiff, Nat.add_eq_zero_iff, xk261 b2, xk243 b2, xr243_35 b2, z261, Nat.reduceEqDiff]
  rw [b350_113]
  simp (disch := omega) only [gq_true, gb_true, gb_false, true_and, and_true, eq_self, not_false_eq_true, not_true_eq_false, true_or, or_true, false_or, or_false, false_and, and_false, c0_v, ci_v, cl_v, cf_v, pk_mul, nI_add, nI_clamp, nI_lt0, nI_0le, nI_eq0, nI_lt0r, nI_ltE, nI_leE, nI_eqE, nI_m1, in_t, ba0, ba1, Nat.one_ne_zero, Nat.reduceEqDiff, Nat.reduceLeDiff, Nat.add_eq_zero_iff, Nat.reduceEqDiff]
  rw [b350_133]
  simp (disch := omega) only [gq_true, gb_true, gb_false, true_and, and_true, eq_self, not_false_eq_true, not_true_eq_false, true_or, or_true, false_or, or_false, false_and, and_false, c0_v, ci_v, cl_v, cf_v, pk_mul, nI_add, nI_clamp, nI_lt0, nI_0le, nI_eq0, nI_lt0r, nI_ltE, nI_leE, nI_eqE, nI_m1, in_t, ba0, ba1, Nat.one_ne_zero, Nat.reduceEqDiff, Nat.reduceLeDiff, Nat.add_eq_zero_iff, xk243 hX4, xr243_36 hX4, z262, e1, xk262 e2, Nat.reduceEqDiff]
  rw [b350_157]
  simp (disch := omega) only [gq_true, gb_true, gb_false, true_and, and_true, eq_self, not_false_eq_true, not_true_eq_false, true_or, or_true, false_or, or_false, false_and, and_false, c0_v, ci_v, cl_v, cf_v, pk_mul, nI_add, nI_clamp, nI_lt0, nI_0le, nI_eq0, nI_lt0r, nI_ltE, nI_leE, nI_eqE, nI_m1, in_t, ba0, ba1, Nat.one_ne_zero, Nat.reduceEqDiff, Nat.reduceLeDiff, Nat.add_eq_zero_iff, Nat.reduceEqDiff]
  exact j1
theorem y350_k24 (h : RQ m N b n (.inr i)) (hR : RS m N s q) (hG : WG B s q) (h0 : CdR m N C) (hL : C.length < 60) (hW : W < 30) (h40 : gi_ m (N + 243) 40 = nI W) (h41 : gi_ m (N + 243) 41 = nI o) (hk : Kd b n i = 24) (o2 : Option Value) : ∃ m', r350 sa sv (d + 4) 48 [some (.ref (N + 243)), some (.int (nI 1)), o2] [] m = some (.inl none, m') ∧ CmO N n b C o W m m' (sCt s q b n i) := by
  have hX := h.1
  have hC := hG.C
  have q235 := y235 (sa := sa) (sv := sv) (d := d + 3) h
  rw [gs_r, tr_t] at q235
  have f1 : Fr (fun a k => a = N + 243 ∧ k = 40) m (si_ m (N + 243) 40 (nI (W + 1))) := (Fr.refl _ _).si ⟨rfl, rfl⟩
  have h1 : RQ (si_ m (N + 243) 40 (nI (W + 1))) N b n (.inr i) := h.y f1 (fun a k z => by omega)
  obtain ⟨m2, a1, a2, a3⟩ := y233n (sa := sa) (sv := sv) (d := d + 2) h1
  have g39 : gi_ m2 (N + 243) 39 = nI C.length := (a2.2.1 _ _ (by unfold RH; omega)).trans ((if_neg (by omega)).trans h0.1)
  have f2 : Fr (PRy N) m m2 := (f1.mono fun a k z => Or.inr (Or.inl ⟨z.1, by omega⟩)).trans (a2.mono fun a k z => Or.inl z)
  have f3' : Fr (fun a k => a = N + 260 ∧ k = C.length) m2 (si_ m2 (N + 260) C.length (nI 1)) := (Fr.refl _ _).si ⟨rfl, rfl⟩
  have h3 : RQ (si_ m2 (N + 260) C.length (nI 1)) N b n (.inr (i + 1)) := a3.y f3' (fun a k z => by omega)
  have f3 : Fr (PRy N) m (si_ m2 (N + 260) C.length (nI 1)) := f2.trans (f3'.mono fun a k z => by unfold PRy; omega)
  have r3 : RowR (si_ m2 (N + 260) C.length (nI 1)) N C.length (rkd 24) m := ⟨if_pos ⟨rfl, rfl⟩, fun a k z z2 => (f3'.2.1 _ _ (by omega)).trans ((a2.2.1 _ _ (by unfold RH; omega)).trans (if_neg (by omega)))⟩
  have c39 : gi_ (si_ m2 (N + 260) C.length (nI 1)) (N + 243) 39 = nI C.length := (if_neg (by omega)).trans g39
  have c40 : gi_ (si_ m2 (N + 260) C.length (nI 1)) (N + 243) 40 = nI (W + 1) := (if_neg (by omega)).trans ((a2.2.1 _ _ (by unfold RH; omega)).trans (if_pos ⟨rfl, rfl⟩))
  have c41 : gi_ (si_ m2 (N + 260) C.length (nI 1)) (N + 243) 41 = nI o := (if_neg (by omega)).trans ((a2.2.1 _ _ (by unfold RH; omega)).trans ((if_neg (by omega)).trans h41))
  have R3 := hR.y f3
  have z260 : (N + 260 = 0) = False := eq_false (by omega)
  have z261 : (N + 261 = 0) = False := eq_false (by omega)
  have z262 : (N + 262 = 0) = False := eq_false (by omega)
  have hX2 := a3.1
  generalize hm3 : si_ m2 (N + 260) C.length (nI 1) = m3 at *
  have hX3 := h3.1
  have e240 : gi_ (si_ m (N + 243) 40 (nI (W + 1))) (N + 243) 40 = nI (W + 1) := if_pos ⟨rfl, rfl⟩
  rw [b350_48]
  simp (disch := omega) only [gq_true, gb_true, gb_false, true_and, and_true, eq_self, not_false_eq_true, not_true_eq_false, true_or, or_true, false_or, or_false, false_and, and_false, c0_v, ci_v, cl_v, cf_v, pk_mul, nI_add, nI_clamp, nI_lt0, nI_0le, nI_eq0, nI_lt0r, nI_ltE, nI_leE, nI_eqE, nI_m1, in_t, ba0, ba1, Nat.one_ne_zero, Nat.reduceEqDiff, Nat.reduceLeDiff, Nat.add_eq_zero_iff, xk243 hX, q235, h40, a1, xk243 hX2, xr243_34 hX2, xk260 hX2, z260, g39, xr243_35 hX2, z261, hm3, Nat.reduceEqDiff]
  obtain ⟨m4, v4, b1, b2, b3, b4, b5⟩ := y350_n (L := C.length) (A := N + 261) (z := sNum b n 0 999999 (i + 1)) (y349 (sa := sa) (sv := sv) (d := d) h3) (Or.inl rfl)
  have r4 := r3.fr b3 (fun a k z => by
    rcases z with z | z
    · exact Or.inl z.r
    · exact Or.inr (Or.inl z))
  have f4 : Fr (PRy N) m (si_ m4 (N + 261) C.length v4) := f3.trans (b3.mono fun a k z => by
    rcases z with z | z
    · exact Or.inl z
    · exact Or.inr (Or.inr (Or.inr (Or.inl z.1))))
  have k4 : ∀ k, (k = 39 ∨ k = 40 ∨ k = 41) → gi_ (si_ m4 (N + 261) C.length v4) (N + 243) k = gi_ m3 (N + 243) k := fun k z => b3.2.1 _ _ (by unfold RH; omega)
  have hX4 := b4.1
  obtain ⟨m6, j1, j2⟩ := y350_fin (sa := sa) (sv := sv) (d := d + 2) (c := 24) (W := W) (o := o) h0 rfl b4 f4 r4 ((k4 39 (by omega)).trans c39) ((k4 40 (by omega)).trans c40) ((k4 41 (by omega)).trans c41) (by omega) (sCt s q b n i) (by
    unfold sCt
    rw [if_neg (by omega), if_neg (by omega), if_pos hk]
    cases sNum b n 0 999999 (i + 1) <;> rfl) (fun x hx => by
    unfold sCt at hx
    rw [if_neg (by omega), if_neg (by omega), if_pos hk] at hx
    obtain ⟨w, w1, hx⟩ := eb_r hx
    have e := (Sum.inr.inj hx).symm
    subst e
    exact ⟨rfl, fun _ => b5 w w1, fun z => by omega⟩)
  refine ⟨m6, ?_, j2⟩
  rw [b350_113]
  simp (disch := omega) only [gq_true, gb_true, gb_false, true_and, and_true, eq_self, not_false_eq_true, not_true_eq_false, true_or, or_true, false_or, or_false, false_and, and_false, c0_v, ci_v, cl_v, cf_v, pk_mul, nI_add, nI_clamp, nI_lt0, nI_0le, nI_eq0, nI_lt0r, nI_ltE, nI_leE, nI_eqE, nI_m1, in_t, ba0, ba1, Nat.one_ne_zero, Nat.reduceEqDiff, Nat.reduceLeDiff, Nat.add_eq_zero_iff, xk243 hX3, xr243_35 hX3, z261, b1, xk261 b2, Nat.reduceEqDiff]
  rw [b350_133]
  simp (disch := omega) only [gq_true, gb_true, gb_false, true_and, and_true, eq_self, not_false_eq_true, not_true_eq_false, true_or, or_true, false_or, or_false, false_and, and_false, c0_v, ci_v, cl_v, cf_v, pk_mul, nI_add, nI_clamp, nI_lt0, nI_0le, nI_eq0, nI_lt0r, nI_ltE, nI_leE, nI_eqE, nI_m1, in_t, ba0, ba1, Nat.one_ne_zero, Nat.reduceEqDiff, Nat.reduceLeDiff, Nat.add_eq_zero_iff, Nat.reduceEqDiff]
  rw [b350_157]
  simp (disch := omega) only [gq_true, gb_true, gb_false, true_and, and_true, eq_self, not_false_eq_true, not_true_eq_false, true_or, or_true, false_or, or_false, false_and, and_false, c0_v, ci_v, cl_v, cf_v, pk_mul, nI_add, nI_clamp, nI_lt0, nI_0le, nI_eq0, nI_lt0r, nI_ltE, nI_leE, nI_eqE, nI_m1, in_t, ba0, ba1, Nat.one_ne_zero, Nat.reduceEqDiff, Nat.reduceLeDiff, Nat.add_eq_zero_iff, Nat.reduceEqDiff]
  exact j1
theorem y350_k25 (h : RQ m N b n (.inr i)) (hR : RS m N s q) (hG : WG B s q) (h0 : CdR m N C) (hL : C.length < 60) (hW : W < 30) (h40 : gi_ m (N + 243) 40 = nI W) (h41 : gi_ m (N + 243) 41 = nI o) (hk : Kd b n i = 25) (o2 : Option Value) : ∃ m', r350 sa sv (d + 4) 48 [some (.ref (N + 243)), some (.int (nI 2)), o2] [] m = some (.inl none, m') ∧ CmO N n b C o W m m' (sCt s q b n i) := by
  have hX := h.1
  have hC := hG.C
  have q235 := y235 (sa := sa) (sv := sv) (d := d + 3) h
  rw [gs_r, tr_t] at q235
  have f1 : Fr (fun a k => a = N + 243 ∧ k = 40) m (si_ m (N + 243) 40 (nI (W + 1))) := (Fr.refl _ _).si ⟨rfl, rfl⟩
  have h1 : RQ (si_ m (N + 243) 40 (nI (W + 1))) N b n (.inr i) := h.y f1 (fun a k z => by omega)
  obtain ⟨m2, a1, a2, a3⟩ := y233n (sa := sa) (sv := sv) (d := d + 2) h1
  have g39 : gi_ m2 (N + 243) 39 = nI C.length := (a2.2.1 _ _ (by unfold RH; omega)).trans ((if_neg (by omega)).trans h0.1)
  have f2 : Fr (PRy N) m m2 := (f1.mono fun a k z => Or.inr (Or.inl ⟨z.1, by omega⟩)).trans (a2.mono fun a k z => Or.inl z)
  have f3' : Fr (fun a k => a = N + 260 ∧ k = C.length) m2 (si_ m2 (N + 260) C.length (nI 2)) := (Fr.refl _ _).si ⟨rfl, rfl⟩
  have h3 : RQ (si_ m2 (N + 260) C.length (nI 2)) N b n (.inr (i + 1)) := a3.y f3' (fun a k z => by omega)
  have f3 : Fr (PRy N) m (si_ m2 (N + 260) C.length (nI 2)) := f2.trans (f3'.mono fun a k z => by unfold PRy; omega)
  have r3 : RowR (si_ m2 (N + 260) C.length (nI 2)) N C.length (rkd 25) m := ⟨if_pos ⟨rfl, rfl⟩, fun a k z z2 => (f3'.2.1 _ _ (by omega)).trans ((a2.2.1 _ _ (by unfold RH; omega)).trans (if_neg (by omega)))⟩
  have c39 : gi_ (si_ m2 (N + 260) C.length (nI 2)) (N + 243) 39 = nI C.length := (if_neg (by omega)).trans g39
  have c40 : gi_ (si_ m2 (N + 260) C.length (nI 2)) (N + 243) 40 = nI (W + 1) := (if_neg (by omega)).trans ((a2.2.1 _ _ (by unfold RH; omega)).trans (if_pos ⟨rfl, rfl⟩))
  have c41 : gi_ (si_ m2 (N + 260) C.length (nI 2)) (N + 243) 41 = nI o := (if_neg (by omega)).trans ((a2.2.1 _ _ (by unfold RH; omega)).trans ((if_neg (by omega)).trans h41))
  have R3 := hR.y f3
  have z260 : (N + 260 = 0) = False := eq_false (by omega)
  have z261 : (N + 261 = 0) = False := eq_false (by omega)
  have z262 : (N + 262 = 0) = False := eq_false (by omega)
  have hX2 := a3.1
  generalize hm3 : si_ m2 (N + 260) C.length (nI 2) = m3 at *
  have hX3 := h3.1
  have e240 : gi_ (si_ m (N + 243) 40 (nI (W + 1))) (N + 243) 40 = nI (W + 1) := if_pos ⟨rfl, rfl⟩
  rw [b350_48]
  simp (disch := omega) only [gq_true, gb_true, gb_false, true_and, and_true, eq_self, not_false_eq_true, not_true_eq_false, true_or, or_true, false_or, or_false, false_and, and_false, c0_v, ci_v, cl_v, cf_v, pk_mul, nI_add, nI_clamp, nI_lt0, nI_0le, nI_eq0, nI_lt0r, nI_ltE, nI_leE, nI_eqE, nI_m1, in_t, ba0, ba1, Nat.one_ne_zero, Nat.reduceEqDiff, Nat.reduceLeDiff, Nat.add_eq_zero_iff, xk243 hX, q235, h40, a1, xk243 hX2, xr243_34 hX2, xk260 hX2, z260, g39, xr243_35 hX2, z261, hm3, Nat.reduceEqDiff]
  obtain ⟨m4, v4, b1, b2, b3, b4, b5⟩ := y350_n (L := C.length) (A := N + 261) (z := sNum b n 0 999999 (i + 1)) (y349 (sa := sa) (sv := sv) (d := d) h3) (Or.inl rfl)
  have r4 := r3.fr b3 (fun a k z => by
    rcases z with z | z
    · exact Or.inl z.r
    · exact Or.inr (Or.inl z))
  have f4 : Fr (PRy N) m (si_ m4 (N + 261) C.length v4) := f3.trans (b3.mono fun a k z => by
    rcases z with z | z
    · exact Or.inl z
    · exact Or.inr (Or.inr (Or.inr (Or.inl z.1))))
  have k4 : ∀ k, (k = 39 ∨ k = 40 ∨ k = 41) → gi_ (si_ m4 (N + 261) C.length v4) (N + 243) k = gi_ m3 (N + 243) k := fun k z => b3.2.1 _ _ (by unfold RH; omega)
  have hX4 := b4.1
  obtain ⟨m5, v5, e1, e2, e3, e4, e5⟩ := y350_n (L := C.length) (A := N + 262) (z := eb (pst (sNum b n 0 999999 (i + 1))) (sNum b n 0 999999)) (y349 (sa := sa) (sv := sv) (d := d) b4) (Or.inr rfl)
  have r5 := r4.fr e3 (fun a k z => by
    rcases z with z | z
    · exact Or.inl z.r
    · exact Or.inr (Or.inr z))
  have f5 : Fr (PRy N) m (si_ m5 (N + 262) C.length v5) := f4.trans (e3.mono fun a k z => by
    rcases z with z | z
    · exact Or.inl z
    · exact Or.inr (Or.inr (Or.inr (Or.inr z.1))))
  have k5 : ∀ k, (k = 39 ∨ k = 40 ∨ k = 41) → gi_ (si_ m5 (N + 262) C.length v5) (N + 243) k = gi_ m3 (N + 243) k := fun k z => (e3.2.1 _ _ (by unfold RH; omega)).trans (k4 k z)
  obtain ⟨m6, j1, j2⟩ := y350_fin (sa := sa) (sv := sv) (d := d + 2) (c := 25) (W := W) (o := o) h0 rfl e4 f5 r5 ((k5 39 (by omega)).trans c39) ((k5 40 (by omega)).trans c40) ((k5 41 (by omega)).trans c41) (by omega) (sCt s q b n i) (by
    unfold sCt
    rw [if_neg (by omega), if_neg (by omega), if_neg (by omega), if_pos hk]
    exact pst_eb (sNum b n 0 999999 (i + 1)) (sNum b n 0 999999) (fun x y => (25, x.2, y.2))) (fun x hx => by
    unfold sCt at hx
    rw [if_neg (by omega), if_neg (by omega), if_neg (by omega), if_pos hk] at hx
    obtain ⟨w, w1, hx⟩ := eb_r hx
    obtain ⟨y, y1, hx⟩ := eb_r hx
    have e := (Sum.inr.inj hx).symm
    subst e
    refine ⟨rfl, fun _ => (e3.2.1 _ _ (by unfold RH; omega)).trans (b5 w w1), fun _ => e5 y ?_⟩
    rw [w1]
    exact y1)
  refine ⟨m6, ?_, j2⟩
  rw [b350_113]
  simp (disch := omega) only [gq_true, gb_true, gb_false, true_and, and_true, eq_self, not_false_eq_true, not_true_eq_false, true_or, or_true, false_or, or_false, false_and, and_false, c0_v, ci_v, cl_v, cf_v, pk_mul, nI_add, nI_clamp, nI_lt0, nI_0le, nI_eq0, nI_lt0r, nI_ltE, nI_leE, nI_eqE, nI_m1, in_t, ba0, ba1, Nat.one_ne_zero, Nat.reduceEqDiff, Nat.reduceLeDiff, Nat.add_eq_zero_iff, xk243 hX3, xr243_35 hX3, z261, b1, xk261 b2, Nat.reduceEqDiff]
  rw [b350_133]
  simp (disch := omega) only [gq_true, gb_true, gb_false, true_and, and_true, eq_self, not_false_eq_true, not_true_eq_false, true_or, or_true, false_or, or_false, false_and, and_false, c0_v, ci_v, cl_v, cf_v, pk_mul, nI_add, nI_clamp, nI_lt0, nI_0le, nI_eq0, nI_lt0r, nI_ltE, nI_leE, nI_eqE, nI_m1, in_t, ba0, ba1, Nat.one_ne_zero, Nat.reduceEqDiff, Nat.reduceLeDiff, Nat.add_eq_zero_iff, xk243 hX4, xr243_36 hX4, z262, e1, xk262 e2, Nat.reduceEqDiff]
  rw [b350_157]
  simp (disch := omega) only [gq_true, gb_true, gb_false, true_and, and_true, eq_self, not_false_eq_true, not_true_eq_false, true_or, or_true, false_or, or_false, false_and, and_false, c0_v, ci_v, cl_v, cf_v, pk_mul, nI_add, nI_clamp, nI_lt0, nI_0le, nI_eq0, nI_lt0r, nI_ltE, nI_leE, nI_eqE, nI_m1, in_t, ba0, ba1, Nat.one_ne_zero, Nat.reduceEqDiff, Nat.reduceLeDiff, Nat.add_eq_zero_iff, Nat.reduceEqDiff]
  exact j1
theorem y350_k26 (h : RQ m N b n (.inr i)) (hR : RS m N s q) (hG : WG B s q) (h0 : CdR m N C) (hL : C.length < 60) (hW : W < 30) (h40 : gi_ m (N + 243) 40 = nI W) (h41 : gi_ m (N + 243) 41 = nI o) (hk : Kd b n i = 26) (o2 : Option Value) : ∃ m', r350 sa sv (d + 4) 48 [some (.ref (N + 243)), some (.int (nI 4)), o2] [] m = some (.inl none, m') ∧ CmO N n b C o W m m' (sCt s q b n i) := by
  have hX := h.1
  have hC := hG.C
  have q235 := y235 (sa := sa) (sv := sv) (d := d + 3) h
  rw [gs_r, tr_t] at q235
  have f1 : Fr (fun a k => a = N + 243 ∧ k = 40) m (si_ m (N + 243) 40 (nI (W + 1))) := (Fr.refl _ _).si ⟨rfl, rfl⟩
  have h1 : RQ (si_ m (N + 243) 40 (nI (W + 1))) N b n (.inr i) := h.y f1 (fun a k z => by omega)
  obtain ⟨m2, a1, a2, a3⟩ := y233n (sa := sa) (sv := sv) (d := d + 2) h1
  have g39 : gi_ m2 (N + 243) 39 = nI C.length := (a2.2.1 _ _ (by unfold RH; omega)).trans ((if_neg (by omega)).trans h0.1)
  have f2 : Fr (PRy N) m m2 := (f1.mono fun a k z => Or.inr (Or.inl ⟨z.1, by omega⟩)).trans (a2.mono fun a k z => Or.inl z)
  have f3' : Fr (fun a k => a = N + 260 ∧ k = C.length) m2 (si_ m2 (N + 260) C.length (nI 4)) := (Fr.refl _ _).si ⟨rfl, rfl⟩
  have h3 : RQ (si_ m2 (N + 260) C.length (nI 4)) N b n (.inr (i + 1)) := a3.y f3' (fun a k z => by omega)
  have f3 : Fr (PRy N) m (si_ m2 (N + 260) C.length (nI 4)) := f2.trans (f3'.mono fun a k z => by unfold PRy; omega)
  have r3 : RowR (si_ m2 (N + 260) C.length (nI 4)) N C.length (rkd 26) m := ⟨if_pos ⟨rfl, rfl⟩, fun a k z z2 => (f3'.2.1 _ _ (by omega)).trans ((a2.2.1 _ _ (by unfold RH; omega)).trans (if_neg (by omega)))⟩
  have c39 : gi_ (si_ m2 (N + 260) C.length (nI 4)) (N + 243) 39 = nI C.length := (if_neg (by omega)).trans g39
  have c40 : gi_ (si_ m2 (N + 260) C.length (nI 4)) (N + 243) 40 = nI (W + 1) := (if_neg (by omega)).trans ((a2.2.1 _ _ (by unfold RH; omega)).trans (if_pos ⟨rfl, rfl⟩))
  have c41 : gi_ (si_ m2 (N + 260) C.length (nI 4)) (N + 243) 41 = nI o := (if_neg (by omega)).trans ((a2.2.1 _ _ (by unfold RH; omega)).trans ((if_neg (by omega)).trans h41))
  have R3 := hR.y f3
  have z260 : (N + 260 = 0) = False := eq_false (by omega)
  have z261 : (N + 261 = 0) = False := eq_false (by omega)
  have z262 : (N + 262 = 0) = False := eq_false (by omega)
  have hX2 := a3.1
  generalize hm3 : si_ m2 (N + 260) C.length (nI 4) = m3 at *
  have hX3 := h3.1
  have e240 : gi_ (si_ m (N + 243) 40 (nI (W + 1))) (N + 243) 40 = nI (W + 1) := if_pos ⟨rfl, rfl⟩
  rw [b350_48]
  simp (disch := omega) only [gq_true, gb_true, gb_false, true_and, and_true, eq_self, not_false_eq_true, not_true_eq_false, true_or, or_true, false_or, or_false, false_and, and_false, c0_v, ci_v, cl_v, cf_v, pk_mul, nI_add, nI_clamp, nI_lt0, nI_0le, nI_eq0, nI_lt0r, nI_ltE, nI_leE, nI_eqE, nI_m1, in_t, ba0, ba1, Nat.one_ne_zero, Nat.reduceEqDiff, Nat.reduceLeDiff, Nat.add_eq_zero_iff, xk243 hX, q235, h40, a1, xk243 hX2, xr243_34 hX2, xk260 hX2, z260, g39, xr243_35 hX2, z261, hm3, Nat.reduceEqDiff]
  obtain ⟨m6, j1, j2⟩ := y350_fin (sa := sa) (sv := sv) (d := d + 2) (c := 26) (W := W) (o := o) h0 rfl h3 f3 r3 c39 c40 c41 (by omega) (sCt s q b n i) (by
    unfold sCt
    rw [if_neg (by omega), if_neg (by omega), if_neg (by omega), if_neg (by omega), if_pos hk]
    rfl) (fun x hx => by
    unfold sCt at hx
    rw [if_neg (by omega), if_neg (by omega), if_neg (by omega), if_neg (by omega), if_pos hk] at hx
    have e := (Sum.inr.inj hx).symm
    subst e
    exact ⟨rfl, fun z => absurd rfl z, fun z => by omega⟩)
  refine ⟨m6, ?_, j2⟩
  rw [b350_113]
  simp (disch := omega) only [gq_true, gb_true, gb_false, true_and, and_true, eq_self, not_false_eq_true, not_true_eq_false, true_or, or_true, false_or, or_false, false_and, and_false, c0_v, ci_v, cl_v, cf_v, pk_mul, nI_add, nI_clamp, nI_lt0, nI_0le, nI_eq0, nI_lt0r, nI_ltE, nI_leE, nI_eqE, nI_m1, in_t, ba0, ba1, Nat.one_ne_zero, Nat.reduceEqDiff, Nat.reduceLeDiff, Nat.add_eq_zero_iff, Nat.reduceEqDiff]
  rw [b350_133]
  simp (disch := omega) only [gq_true, gb_true, gb_false, true_and, and_true, eq_self, not_false_eq_true, not_true_eq_false, true_or, or_true, false_or, or_false, false_and, and_false, c0_v, ci_v, cl_v, cf_v, pk_mul, nI_add, nI_clamp, nI_lt0, nI_0le, nI_eq0, nI_lt0r, nI_ltE, nI_leE, nI_eqE, nI_m1, in_t, ba0, ba1, Nat.one_ne_zero, Nat.reduceEqDiff, Nat.reduceLeDiff, Nat.add_eq_zero_iff, Nat.reduceEqDiff]
  rw [b350_157]
  simp (disch := omega) only [gq_true, gb_true, gb_false, true_and, and_true, eq_self, not_false_eq_true, not_true_eq_false, true_or, or_true, false_or, or_false, false_and, and_false, c0_v, ci_v, cl_v, cf_v, pk_mul, nI_add, nI_clamp, nI_lt0, nI_0le, nI_eq0, nI_lt0r, nI_ltE, nI_leE, nI_eqE, nI_m1, in_t, ba0, ba1, Nat.one_ne_zero, Nat.reduceEqDiff, Nat.reduceLeDiff, Nat.add_eq_zero_iff, Nat.reduceEqDiff]
  exact j1
theorem y350_k27 (h : RQ m N b n (.inr i)) (hR : RS m N s q) (hG : WG B s q) (h0 : CdR m N C) (hL : C.length < 60) (hW : W < 30) (h40 : gi_ m (N + 243) 40 = nI W) (h41 : gi_ m (N + 243) 41 = nI o) (hk : Kd b n i = 27) (o2 : Option Value) : ∃ m', r350 sa sv (d + 4) 48 [some (.ref (N + 243)), some (.int (nI 5)), o2] [] m = some (.inl none, m') ∧ CmO N n b C o W m m' (sCt s q b n i) := by
  have hX := h.1
  have hC := hG.C
  have q235 := y235 (sa := sa) (sv := sv) (d := d + 3) h
  rw [gs_r, tr_t] at q235
  have f1 : Fr (fun a k => a = N + 243 ∧ k = 40) m (si_ m (N + 243) 40 (nI (W + 1))) := (Fr.refl _ _).si ⟨rfl, rfl⟩
  have h1 : RQ (si_ m (N + 243) 40 (nI (W + 1))) N b n (.inr i) := h.y f1 (fun a k z => by omega)
  obtain ⟨m2, a1, a2, a3⟩ := y233n (sa := sa) (sv := sv) (d := d + 2) h1
  have g39 : gi_ m2 (N + 243) 39 = nI C.length := (a2.2.1 _ _ (by unfold RH; omega)).trans ((if_neg (by omega)).trans h0.1)
  have f2 : Fr (PRy N) m m2 := (f1.mono fun a k z => Or.inr (Or.inl ⟨z.1, by omega⟩)).trans (a2.mono fun a k z => Or.inl z)
  have f3' : Fr (fun a k => a = N + 260 ∧ k = C.length) m2 (si_ m2 (N + 260) C.length (nI 5)) := (Fr.refl _ _).si ⟨rfl, rfl⟩
  have h3 : RQ (si_ m2 (N + 260) C.length (nI 5)) N b n (.inr (i + 1)) := a3.y f3' (fun a k z => by omega)
  have f3 : Fr (PRy N) m (si_ m2 (N + 260) C.length (nI 5)) := f2.trans (f3'.mono fun a k z => by unfold PRy; omega)
  have r3 : RowR (si_ m2 (N + 260) C.length (nI 5)) N C.length (rkd 27) m := ⟨if_pos ⟨rfl, rfl⟩, fun a k z z2 => (f3'.2.1 _ _ (by omega)).trans ((a2.2.1 _ _ (by unfold RH; omega)).trans (if_neg (by omega)))⟩
  have c39 : gi_ (si_ m2 (N + 260) C.length (nI 5)) (N + 243) 39 = nI C.length := (if_neg (by omega)).trans g39
  have c40 : gi_ (si_ m2 (N + 260) C.length (nI 5)) (N + 243) 40 = nI (W + 1) := (if_neg (by omega)).trans ((a2.2.1 _ _ (by unfold RH; omega)).trans (if_pos ⟨rfl, rfl⟩))
  have c41 : gi_ (si_ m2 (N + 260) C.length (nI 5)) (N + 243) 41 = nI o := (if_neg (by omega)).trans ((a2.2.1 _ _ (by unfold RH; omega)).trans ((if_neg (by omega)).trans h41))
  have R3 := hR.y f3
  have z260 : (N + 260 = 0) = False := eq_false (by omega)
  have z261 : (N + 261 = 0) = False := eq_false (by omega)
  have z262 : (N + 262 = 0) = False := eq_false (by omega)
  have hX2 := a3.1
  generalize hm3 : si_ m2 (N + 260) C.length (nI 5) = m3 at *
  have hX3 := h3.1
  have e240 : gi_ (si_ m (N + 243) 40 (nI (W + 1))) (N + 243) 40 = nI (W + 1) := if_pos ⟨rfl, rfl⟩
  rw [b350_48]
  simp (disch := omega) only [gq_true, gb_true, gb_false, true_and, and_true, eq_self, not_false_eq_true, not_true_eq_false, true_or, or_true, false_or, or_false, false_and, and_false, c0_v, ci_v, cl_v, cf_v, pk_mul, nI_add, nI_clamp, nI_lt0, nI_0le, nI_eq0, nI_lt0r, nI_ltE, nI_leE, nI_eqE, nI_m1, in_t, ba0, ba1, Nat.one_ne_zero, Nat.reduceEqDiff, Nat.reduceLeDiff, Nat.add_eq_zero_iff, xk243 hX, q235, h40, a1, xk243 hX2, xr243_34 hX2, xk260 hX2, z260, g39, xr243_35 hX2, z261, hm3, Nat.reduceEqDiff]
  obtain ⟨m4, v4, b1, b2, b3, b4, b5⟩ := y350_n (L := C.length) (A := N + 261) (z := sNum b n 1 20 (i + 1)) (y240 (sa := sa) (sv := sv) (d := d + 1) h3 1 20 (by omega) (by omega)) (Or.inl rfl)
  have r4 := r3.fr b3 (fun a k z => by
    rcases z with z | z
    · exact Or.inl z.r
    · exact Or.inr (Or.inl z))
  have f4 : Fr (PRy N) m (si_ m4 (N + 261) C.length v4) := f3.trans (b3.mono fun a k z => by
    rcases z with z | z
    · exact Or.inl z
    · exact Or.inr (Or.inr (Or.inr (Or.inl z.1))))
  have k4 : ∀ k, (k = 39 ∨ k = 40 ∨ k = 41) → gi_ (si_ m4 (N + 261) C.length v4) (N + 243) k = gi_ m3 (N + 243) k := fun k z => b3.2.1 _ _ (by unfold RH; omega)
  have hX4 := b4.1
  obtain ⟨m5, e1, e2, e3⟩ := y238 (sa := sa) (sv := sv) (d := d + 1) b4 5 40 (Or.inr (Or.inl ⟨rfl, rfl⟩))
  have r5 := r4.fr e2 (fun a k z => Or.inl z.r)
  have f5 : Fr (PRy N) m m5 := f4.trans (e2.mono fun a k z => Or.inl z)
  have k5 : ∀ k, (k = 39 ∨ k = 40 ∨ k = 41) → gi_ m5 (N + 243) k = gi_ m3 (N + 243) k := fun k z => (e2.2.1 _ _ (by unfold RH; omega)).trans (k4 k z)
  obtain ⟨m6, j1, j2⟩ := y350_fin (sa := sa) (sv := sv) (d := d + 2) (c := 27) (W := W) (o := o) h0 rfl e3 f5 r5 ((k5 39 (by omega)).trans c39) ((k5 40 (by omega)).trans c40) ((k5 41 (by omega)).trans c41) (by omega) (sCt s q b n i) (by
    unfold sCt
    rw [if_neg (by omega), if_neg (by omega), if_neg (by omega), if_neg (by omega), if_neg (by omega)]
    exact pst_eb (sNum b n 1 20 (i + 1)) (sTake b n 5) (fun x y => (27, x.2, 0))) (fun x hx => by
    unfold sCt at hx
    rw [if_neg (by omega), if_neg (by omega), if_neg (by omega), if_neg (by omega), if_neg (by omega)] at hx
    obtain ⟨w, w1, hx⟩ := eb_r hx
    obtain ⟨y, y1, hx⟩ := eb_r hx
    have e := (Sum.inr.inj hx).symm
    subst e
    exact ⟨rfl, fun _ => (e2.2.1 _ _ (by unfold RH; omega)).trans (b5 w w1), fun z => by omega⟩)
  refine ⟨m6, ?_, j2⟩
  rw [b350_113]
  simp (disch := omega) only [gq_true, gb_true, gb_false, true_and, and_true, eq_self, not_false_eq_true, not_true_eq_false, true_or, or_true, false_or, or_false, false_and, and_false, c0_v, ci_v, cl_v, cf_v, pk_mul, nI_add, nI_clamp, nI_lt0, nI_0le, nI_eq0, nI_lt0r, nI_ltE, nI_leE, nI_eqE, nI_m1, in_t, ba0, ba1, Nat.one_ne_zero, Nat.reduceEqDiff, Nat.reduceLeDiff, Nat.add_eq_zero_iff, Nat.reduceEqDiff]
  rw [b350_133]
  simp (disch := omega) only [gq_true, gb_true, gb_false, true_and, and_true, eq_self, not_false_eq_true, not_true_eq_false, true_or, or_true, false_or, or_false, false_and, and_false, c0_v, ci_v, cl_v, cf_v, pk_mul, nI_add, nI_clamp, nI_lt0, nI_0le, nI_eq0, nI_lt0r, nI_ltE, nI_leE, nI_eqE, nI_m1, in_t, ba0, ba1, Nat.one_ne_zero, Nat.reduceEqDiff, Nat.reduceLeDiff, Nat.add_eq_zero_iff, Nat.reduceEqDiff]
  rw [b350_157]
  simp (disch := omega) only [gq_true, gb_true, gb_false, true_and, and_true, eq_self, not_false_eq_true, not_true_eq_false, true_or, or_true, false_or, or_false, false_and, and_false, c0_v, ci_v, cl_v, cf_v, pk_mul, nI_add, nI_clamp, nI_lt0, nI_0le, nI_eq0, nI_lt0r, nI_ltE, nI_leE, nI_eqE, nI_m1, in_t, ba0, ba1, Nat.one_ne_zero, Nat.reduceEqDiff, Nat.reduceLeDiff, Nat.add_eq_zero_iff, xk243 hX3, xr243_35 hX3, z261, b1, xk261 b2, xk243 b2, e1, Nat.reduceEqDiff]
  exact j1
end R89
